section
-- ===== PART A: goes FIRST, ahead of the names: the tables' words, and 'selects' of the private methods out of them =====
/-- a private method of a class that the tables say can be made, by its rows of tables_1 -/
def lw_okq (q : MethodName × Nat) : Prop := (q.1.cls ≠ "java/lang/invoke/MethodHandle" ∧ q.1.cls ≠ "java/lang/invoke/VarHandle") ∧ Cond.instantiable q.1.cls q.2 ∈ tables_1 ∧ Cond.privateMethod q.1 ∈ tables_1 ∧ Cond.instanceMethod q.1 ∈ tables_1
theorem lw_p0 : lw_okq (⟨"JumpBoard", "forgetGame", "()V"⟩, 8) := ⟨⟨by decide +kernel, by decide +kernel⟩, List.mem_of_getElem? (i := 10) (by decide +kernel), List.mem_of_getElem? (i := 134) (by decide +kernel), List.mem_of_getElem? (i := 135) (by decide +kernel)⟩
theorem lw_p1 : lw_okq (⟨"JumpBoard$Rules", "leapOn", "(LJumpBoard$Position;LJumpBoard$MoveList;IIII)V"⟩, 2) := ⟨⟨by decide +kernel, by decide +kernel⟩, List.mem_of_getElem? (i := 18) (by decide +kernel), List.mem_of_getElem? (i := 174) (by decide +kernel), List.mem_of_getElem? (i := 175) (by decide +kernel)⟩
theorem lw_p2 : lw_okq (⟨"JumpBoard$Rules", "listSteps", "(LJumpBoard$Position;LJumpBoard$MoveList;I)V"⟩, 2) := ⟨⟨by decide +kernel, by decide +kernel⟩, List.mem_of_getElem? (i := 18) (by decide +kernel), List.mem_of_getElem? (i := 196) (by decide +kernel), List.mem_of_getElem? (i := 197) (by decide +kernel)⟩
theorem lw_p3 : lw_okq (⟨"JumpBoard$Rules", "canLeave", "(LJumpBoard$Position;I)Z"⟩, 2) := ⟨⟨by decide +kernel, by decide +kernel⟩, List.mem_of_getElem? (i := 18) (by decide +kernel), List.mem_of_getElem? (i := 227) (by decide +kernel), List.mem_of_getElem? (i := 228) (by decide +kernel)⟩
theorem lw_p4 : lw_okq (⟨"JumpBoard", "countWays", "(LJumpBoard$Position;I)I"⟩, 8) := ⟨⟨by decide +kernel, by decide +kernel⟩, List.mem_of_getElem? (i := 10) (by decide +kernel), List.mem_of_getElem? (i := 265) (by decide +kernel), List.mem_of_getElem? (i := 266) (by decide +kernel)⟩
theorem lw_p5 : lw_okq (⟨"JumpBoard", "judge", "(LJumpBoard$Position;)I"⟩, 8) := ⟨⟨by decide +kernel, by decide +kernel⟩, List.mem_of_getElem? (i := 10) (by decide +kernel), List.mem_of_getElem? (i := 278) (by decide +kernel), List.mem_of_getElem? (i := 279) (by decide +kernel)⟩
theorem lw_p6 : lw_okq (⟨"JumpBoard$Endings", "note", "(ILJumpBoard$Position;LJumpBoard$MoveList;LJumpBoard$Position;)V"⟩, 3) := ⟨⟨by decide +kernel, by decide +kernel⟩, List.mem_of_getElem? (i := 282) (by decide +kernel), List.mem_of_getElem? (i := 299) (by decide +kernel), List.mem_of_getElem? (i := 300) (by decide +kernel)⟩
theorem lw_p7 : lw_okq (⟨"JumpBoard$Endings", "settle", "()V"⟩, 3) := ⟨⟨by decide +kernel, by decide +kernel⟩, List.mem_of_getElem? (i := 282) (by decide +kernel), List.mem_of_getElem? (i := 320) (by decide +kernel), List.mem_of_getElem? (i := 321) (by decide +kernel)⟩
theorem lw_p8 : lw_okq (⟨"JumpBoard$Endings", "findWins", "(I)Z"⟩, 3) := ⟨⟨by decide +kernel, by decide +kernel⟩, List.mem_of_getElem? (i := 282) (by decide +kernel), List.mem_of_getElem? (i := 324) (by decide +kernel), List.mem_of_getElem? (i := 325) (by decide +kernel)⟩
theorem lw_p9 : lw_okq (⟨"JumpBoard$Endings", "leadsToLoss", "(I)Z"⟩, 3) := ⟨⟨by decide +kernel, by decide +kernel⟩, List.mem_of_getElem? (i := 282) (by decide +kernel), List.mem_of_getElem? (i := 328) (by decide +kernel), List.mem_of_getElem? (i := 329) (by decide +kernel)⟩
theorem lw_p10 : lw_okq (⟨"JumpBoard$Endings", "findLosses", "(I)Z"⟩, 3) := ⟨⟨by decide +kernel, by decide +kernel⟩, List.mem_of_getElem? (i := 282) (by decide +kernel), List.mem_of_getElem? (i := 332) (by decide +kernel), List.mem_of_getElem? (i := 333) (by decide +kernel)⟩
theorem lw_p11 : lw_okq (⟨"JumpBoard$Endings", "leadsToWinsAlone", "(I)Z"⟩, 3) := ⟨⟨by decide +kernel, by decide +kernel⟩, List.mem_of_getElem? (i := 282) (by decide +kernel), List.mem_of_getElem? (i := 336) (by decide +kernel), List.mem_of_getElem? (i := 337) (by decide +kernel)⟩
theorem lw_p12 : lw_okq (⟨"JumpBoard", "weigh", "(LJumpBoard$Position;III)I"⟩, 8) := ⟨⟨by decide +kernel, by decide +kernel⟩, List.mem_of_getElem? (i := 10) (by decide +kernel), List.mem_of_getElem? (i := 360) (by decide +kernel), List.mem_of_getElem? (i := 361) (by decide +kernel)⟩
theorem lw_p13 : lw_okq (⟨"JumpBoardModel", "ending", "(I)I"⟩, 20) := ⟨⟨by decide +kernel, by decide +kernel⟩, List.mem_of_getElem? (i := 380) (by decide +kernel), List.mem_of_getElem? (i := 462) (by decide +kernel), List.mem_of_getElem? (i := 463) (by decide +kernel)⟩
theorem lw_p14 : lw_okq (⟨"JumpBoardModel", "solve", "()V"⟩, 20) := ⟨⟨by decide +kernel, by decide +kernel⟩, List.mem_of_getElem? (i := 380) (by decide +kernel), List.mem_of_getElem? (i := 475) (by decide +kernel), List.mem_of_getElem? (i := 476) (by decide +kernel)⟩
theorem lw_p15 : lw_okq (⟨"JumpBoardModel", "develop", "(IZIZI)V"⟩, 20) := ⟨⟨by decide +kernel, by decide +kernel⟩, List.mem_of_getElem? (i := 380) (by decide +kernel), List.mem_of_getElem? (i := 479) (by decide +kernel), List.mem_of_getElem? (i := 480) (by decide +kernel)⟩
def lw_privs_1 : List (MethodName × Nat) := [(⟨"JumpBoard", "forgetGame", "()V"⟩, 8), (⟨"JumpBoard$Rules", "leapOn", "(LJumpBoard$Position;LJumpBoard$MoveList;IIII)V"⟩, 2), (⟨"JumpBoard$Rules", "listSteps", "(LJumpBoard$Position;LJumpBoard$MoveList;I)V"⟩, 2), (⟨"JumpBoard$Rules", "canLeave", "(LJumpBoard$Position;I)Z"⟩, 2), (⟨"JumpBoard", "countWays", "(LJumpBoard$Position;I)I"⟩, 8), (⟨"JumpBoard", "judge", "(LJumpBoard$Position;)I"⟩, 8), (⟨"JumpBoard$Endings", "note", "(ILJumpBoard$Position;LJumpBoard$MoveList;LJumpBoard$Position;)V"⟩, 3), (⟨"JumpBoard$Endings", "settle", "()V"⟩, 3), (⟨"JumpBoard$Endings", "findWins", "(I)Z"⟩, 3), (⟨"JumpBoard$Endings", "leadsToLoss", "(I)Z"⟩, 3), (⟨"JumpBoard$Endings", "findLosses", "(I)Z"⟩, 3), (⟨"JumpBoard$Endings", "leadsToWinsAlone", "(I)Z"⟩, 3), (⟨"JumpBoard", "weigh", "(LJumpBoard$Position;III)I"⟩, 8), (⟨"JumpBoardModel", "ending", "(I)I"⟩, 20), (⟨"JumpBoardModel", "solve", "()V"⟩, 20), (⟨"JumpBoardModel", "develop", "(IZIZI)V"⟩, 20)]
theorem lw_r1 : ∀ q ∈ lw_privs_1, lw_okq q := List.forall_mem_cons.mpr ⟨lw_p0, List.forall_mem_cons.mpr ⟨lw_p1, List.forall_mem_cons.mpr ⟨lw_p2, List.forall_mem_cons.mpr ⟨lw_p3, List.forall_mem_cons.mpr ⟨lw_p4, List.forall_mem_cons.mpr ⟨lw_p5, List.forall_mem_cons.mpr ⟨lw_p6, List.forall_mem_cons.mpr ⟨lw_p7, List.forall_mem_cons.mpr ⟨lw_p8, List.forall_mem_cons.mpr ⟨lw_p9, List.forall_mem_cons.mpr ⟨lw_p10, List.forall_mem_cons.mpr ⟨lw_p11, List.forall_mem_cons.mpr ⟨lw_p12, List.forall_mem_cons.mpr ⟨lw_p13, List.forall_mem_cons.mpr ⟨lw_p14, List.forall_mem_cons.mpr ⟨lw_p15, fun _ h => absurd h List.not_mem_nil⟩⟩⟩⟩⟩⟩⟩⟩⟩⟩⟩⟩⟩⟩⟩⟩
theorem lw_p16 : lw_okq (⟨"JumpBoardModel", "judge", "(II)I"⟩, 20) := ⟨⟨by decide +kernel, by decide +kernel⟩, List.mem_of_getElem? (i := 380) (by decide +kernel), List.mem_of_getElem? (i := 486) (by decide +kernel), List.mem_of_getElem? (i := 487) (by decide +kernel)⟩
theorem lw_p17 : lw_okq (⟨"JumpBoardModel", "someLost", "(II)Z"⟩, 20) := ⟨⟨by decide +kernel, by decide +kernel⟩, List.mem_of_getElem? (i := 380) (by decide +kernel), List.mem_of_getElem? (i := 490) (by decide +kernel), List.mem_of_getElem? (i := 491) (by decide +kernel)⟩
theorem lw_p18 : lw_okq (⟨"JumpBoardModel", "allWon", "(I)I"⟩, 20) := ⟨⟨by decide +kernel, by decide +kernel⟩, List.mem_of_getElem? (i := 380) (by decide +kernel), List.mem_of_getElem? (i := 494) (by decide +kernel), List.mem_of_getElem? (i := 495) (by decide +kernel)⟩
theorem lw_p19 : lw_okq (⟨"JumpBoardModel", "search", "(II)I"⟩, 20) := ⟨⟨by decide +kernel, by decide +kernel⟩, List.mem_of_getElem? (i := 380) (by decide +kernel), List.mem_of_getElem? (i := 502) (by decide +kernel), List.mem_of_getElem? (i := 503) (by decide +kernel)⟩
theorem lw_p20 : lw_okq (⟨"JumpBoardModel", "enter", "(I)I"⟩, 20) := ⟨⟨by decide +kernel, by decide +kernel⟩, List.mem_of_getElem? (i := 380) (by decide +kernel), List.mem_of_getElem? (i := 506) (by decide +kernel), List.mem_of_getElem? (i := 507) (by decide +kernel)⟩
theorem lw_p21 : lw_okq (⟨"JumpBoardModel", "atOnce", "(I)I"⟩, 20) := ⟨⟨by decide +kernel, by decide +kernel⟩, List.mem_of_getElem? (i := 380) (by decide +kernel), List.mem_of_getElem? (i := 510) (by decide +kernel), List.mem_of_getElem? (i := 511) (by decide +kernel)⟩
theorem lw_p22 : lw_okq (⟨"JumpBoardModel", "generate", "(I)V"⟩, 20) := ⟨⟨by decide +kernel, by decide +kernel⟩, List.mem_of_getElem? (i := 380) (by decide +kernel), List.mem_of_getElem? (i := 514) (by decide +kernel), List.mem_of_getElem? (i := 515) (by decide +kernel)⟩
theorem lw_p23 : lw_okq (⟨"JumpBoardModel", "jumps", "(II)V"⟩, 20) := ⟨⟨by decide +kernel, by decide +kernel⟩, List.mem_of_getElem? (i := 380) (by decide +kernel), List.mem_of_getElem? (i := 518) (by decide +kernel), List.mem_of_getElem? (i := 519) (by decide +kernel)⟩
theorem lw_p24 : lw_okq (⟨"JumpBoardModel", "note", "(IIII)V"⟩, 20) := ⟨⟨by decide +kernel, by decide +kernel⟩, List.mem_of_getElem? (i := 380) (by decide +kernel), List.mem_of_getElem? (i := 522) (by decide +kernel), List.mem_of_getElem? (i := 523) (by decide +kernel)⟩
theorem lw_p25 : lw_okq (⟨"JumpBoardModel", "leap", "(IIIII)Z"⟩, 20) := ⟨⟨by decide +kernel, by decide +kernel⟩, List.mem_of_getElem? (i := 380) (by decide +kernel), List.mem_of_getElem? (i := 530) (by decide +kernel), List.mem_of_getElem? (i := 531) (by decide +kernel)⟩
theorem lw_p26 : lw_okq (⟨"JumpBoardModel", "steps", "(II)V"⟩, 20) := ⟨⟨by decide +kernel, by decide +kernel⟩, List.mem_of_getElem? (i := 380) (by decide +kernel), List.mem_of_getElem? (i := 534) (by decide +kernel), List.mem_of_getElem? (i := 535) (by decide +kernel)⟩
theorem lw_p27 : lw_okq (⟨"JumpBoardModel", "material", "(I)I"⟩, 20) := ⟨⟨by decide +kernel, by decide +kernel⟩, List.mem_of_getElem? (i := 380) (by decide +kernel), List.mem_of_getElem? (i := 538) (by decide +kernel), List.mem_of_getElem? (i := 539) (by decide +kernel)⟩
theorem lw_p28 : lw_okq (⟨"JumpBoardModel", "make", "(II)V"⟩, 20) := ⟨⟨by decide +kernel, by decide +kernel⟩, List.mem_of_getElem? (i := 380) (by decide +kernel), List.mem_of_getElem? (i := 542) (by decide +kernel), List.mem_of_getElem? (i := 543) (by decide +kernel)⟩
def lw_privs_2 : List (MethodName × Nat) := [(⟨"JumpBoardModel", "judge", "(II)I"⟩, 20), (⟨"JumpBoardModel", "someLost", "(II)Z"⟩, 20), (⟨"JumpBoardModel", "allWon", "(I)I"⟩, 20), (⟨"JumpBoardModel", "search", "(II)I"⟩, 20), (⟨"JumpBoardModel", "enter", "(I)I"⟩, 20), (⟨"JumpBoardModel", "atOnce", "(I)I"⟩, 20), (⟨"JumpBoardModel", "generate", "(I)V"⟩, 20), (⟨"JumpBoardModel", "jumps", "(II)V"⟩, 20), (⟨"JumpBoardModel", "note", "(IIII)V"⟩, 20), (⟨"JumpBoardModel", "leap", "(IIIII)Z"⟩, 20), (⟨"JumpBoardModel", "steps", "(II)V"⟩, 20), (⟨"JumpBoardModel", "material", "(I)I"⟩, 20), (⟨"JumpBoardModel", "make", "(II)V"⟩, 20)]
theorem lw_r2 : ∀ q ∈ lw_privs_2, lw_okq q := List.forall_mem_cons.mpr ⟨lw_p16, List.forall_mem_cons.mpr ⟨lw_p17, List.forall_mem_cons.mpr ⟨lw_p18, List.forall_mem_cons.mpr ⟨lw_p19, List.forall_mem_cons.mpr ⟨lw_p20, List.forall_mem_cons.mpr ⟨lw_p21, List.forall_mem_cons.mpr ⟨lw_p22, List.forall_mem_cons.mpr ⟨lw_p23, List.forall_mem_cons.mpr ⟨lw_p24, List.forall_mem_cons.mpr ⟨lw_p25, List.forall_mem_cons.mpr ⟨lw_p26, List.forall_mem_cons.mpr ⟨lw_p27, List.forall_mem_cons.mpr ⟨lw_p28, fun _ h => absurd h List.not_mem_nil⟩⟩⟩⟩⟩⟩⟩⟩⟩⟩⟩⟩⟩
def lw_privs : List (MethodName × Nat) := lw_privs_1 ++ (lw_privs_2)
def lw_tbl : List Cond := k2_sels lw_privs ++ tables_1
theorem lw_privs_ok : ∀ q ∈ lw_privs, lw_okq q := by
  show ∀ q ∈ lw_privs_1 ++ (lw_privs_2), lw_okq q
  exact List.forall_mem_append.mpr ⟨lw_r1, lw_r2⟩
end
section
/-! ===== BEGIN words of one list among another's, by their places ===== -/
theorem goodIn_r {big : List Cond} (ws : List Cond) (ps : List Nat) (hp : ws = ps.filterMap (fun i => big[i]?)) (h : ws.all goodWord = true) : GoodIn big ws := by
  intro w hw
  have h1 := List.all_eq_true.mp h w hw
  rw [hp] at hw
  obtain ⟨i, -, hi⟩ := List.mem_filterMap.mp hw
  have hm : w ∈ big := by first | exact List.mem_of_getElem? hi | exact List.getElem?_mem hi
  exact ⟨hm, good_of_word h1⟩
theorem goodIn_app {big a b : List Cond} (ha : GoodIn big a) (hb : GoodIn big b) : GoodIn big (a ++ b) := fun w h => (List.mem_append.mp h).elim (ha w) (hb w)
theorem goodIn_ca {big a b : List Cond} {c : Cond} (ha : GoodIn big (c :: a)) (hb : GoodIn big b) : GoodIn big (c :: (a ++ b)) := fun w h => (List.mem_cons.mp h).elim (fun e => ha w (List.mem_cons.mpr (Or.inl e))) (fun h => (List.mem_append.mp h).elim (fun h => ha w (List.mem_cons.mpr (Or.inr h))) (hb w))
theorem goodIn_sub {big ws : List Cond} (hm : ∀ w ∈ ws, w ∈ big) (h : ws.all goodWord = true) : GoodIn big ws := fun w hw => ⟨hm w hw, good_of_word (List.all_eq_true.mp h w hw)⟩
/-! ===== END ===== -/

/-! ===== BEGIN printed: names, fields, word lists, decode rows ===== -/
def RX0 : String := "JumpBoard$Endings"
def TX0 : u_T := fun k => match k with
  | 0 => ("JumpBoard$Endings", "verdicts", "[B", true)
  | 1 => ("JumpBoard$Endings", "counts", "[B", true)
  | _ => ("JumpBoard$Endings", "nexts", "[S", true)
def tyX0 : Nat → FieldType := fun k => match k with
  | 0 => .array .byte
  | 1 => .array .byte
  | _ => .array .short
abbrev wsX00 : List Cond := u_ws RX0 TX0 3
theorem nmX0 : ∀ a, a < 3 → ∀ b, b < 3 → a ≠ b → (TX0 a).2.1 ≠ (TX0 b).2.1 := by decide +kernel
theorem tyX0_ok : ∀ k, k < 3 → parseFieldDescriptor (TX0 k).2.2.1 = some (tyX0 k) := by decide +kernel
abbrev cX0_init : ByteArray := prog_2_method_1_code
def yX0_init : MethodName := ⟨RX0, "<init>", "(LJumpBoard$Rules;)V"⟩
abbrev cX0_look : ByteArray := prog_2_method_2_code
def yX0_look : MethodName := ⟨RX0, "look", "(LJumpBoard$Position;)I"⟩
abbrev cX0_arrange : ByteArray := prog_2_method_3_code
def yX0_arrange : MethodName := ⟨RX0, "arrange", "(LJumpBoard$Position;I)Z"⟩
abbrev cX0_number : ByteArray := prog_2_method_4_code
def yX0_number : MethodName := ⟨RX0, "number", "(LJumpBoard$Position;)I"⟩
abbrev cX0_kind : ByteArray := prog_2_method_5_code
def yX0_kind : MethodName := ⟨RX0, "kind", "(LJumpBoard$Position;I)I"⟩
abbrev cX0_note : ByteArray := prog_2_method_6_code
def yX0_note : MethodName := ⟨RX0, "note", "(ILJumpBoard$Position;LJumpBoard$MoveList;LJumpBoard$Position;)V"⟩
abbrev cX0_settle : ByteArray := prog_2_method_7_code
def yX0_settle : MethodName := ⟨RX0, "settle", "()V"⟩
abbrev cX0_findWins : ByteArray := prog_2_method_8_code
def yX0_findWins : MethodName := ⟨RX0, "findWins", "(I)Z"⟩
abbrev cX0_findLosses : ByteArray := prog_2_method_9_code
def yX0_findLosses : MethodName := ⟨RX0, "findLosses", "(I)Z"⟩
abbrev cX0_leadsToLoss : ByteArray := prog_2_method_10_code
def yX0_leadsToLoss : MethodName := ⟨RX0, "leadsToLoss", "(I)Z"⟩
abbrev cX0_leadsToWinsAlone : ByteArray := prog_2_method_11_code
def yX0_leadsToWinsAlone : MethodName := ⟨RX0, "leadsToWinsAlone", "(I)Z"⟩
def RX1 : String := "JumpBoard$MoveList"
def TX1 : u_T := fun k => match k with
  | 0 => ("JumpBoard$MoveList", "packed", "[I", true)
  | _ => ("JumpBoard$MoveList", "count", "I", false)
def tyX1 : Nat → FieldType := fun k => match k with
  | 0 => .array .int
  | _ => .int
abbrev wsX10 : List Cond := u_ws RX1 TX1 2
theorem nmX1 : ∀ a, a < 2 → ∀ b, b < 2 → a ≠ b → (TX1 a).2.1 ≠ (TX1 b).2.1 := by decide +kernel
theorem tyX1_ok : ∀ k, k < 2 → parseFieldDescriptor (TX1 k).2.2.1 = some (tyX1 k) := by decide +kernel
abbrev cX1_init : ByteArray := prog_3_method_1_code
def yX1_init : MethodName := ⟨RX1, "<init>", "()V"⟩
abbrev cX1_beginning : ByteArray := prog_3_method_2_code
def yX1_beginning : MethodName := ⟨RX1, "beginning", "(I)I"⟩
abbrev cX1_end : ByteArray := prog_3_method_3_code
def yX1_end : MethodName := ⟨RX1, "end", "(I)I"⟩
abbrev cX1_taken : ByteArray := prog_3_method_4_code
def yX1_taken : MethodName := ⟨RX1, "taken", "(I)I"⟩
abbrev cX1_enter : ByteArray := prog_3_method_5_code
def yX1_enter : MethodName := ⟨RX1, "enter", "(III)V"⟩
def RX2 : String := "JumpBoard$Position"
def TX2 : u_T := fun k => match k with
  | 0 => ("JumpBoard$Position", "white", "I", false)
  | 1 => ("JumpBoard$Position", "black", "I", false)
  | 2 => ("JumpBoard$Position", "kings", "I", false)
  | 3 => ("JumpBoard$Position", "mover", "I", false)
  | _ => ("JumpBoard$Position", "kingSteps", "I", false)
def tyX2 : Nat → FieldType := fun k => match k with
  | 0 => .int
  | 1 => .int
  | 2 => .int
  | 3 => .int
  | _ => .int
abbrev wsX20 : List Cond := u_ws RX2 TX2 5
theorem nmX2 : ∀ a, a < 5 → ∀ b, b < 5 → a ≠ b → (TX2 a).2.1 ≠ (TX2 b).2.1 := by decide +kernel
theorem tyX2_ok : ∀ k, k < 5 → parseFieldDescriptor (TX2 k).2.2.1 = some (tyX2 k) := by decide +kernel
abbrev cX2_init : ByteArray := prog_4_method_1_code
def yX2_init : MethodName := ⟨RX2, "<init>", "()V"⟩
abbrev cX2_wipe : ByteArray := prog_4_method_2_code
def yX2_wipe : MethodName := ⟨RX2, "wipe", "()V"⟩
abbrev cX2_setUp : ByteArray := prog_4_method_3_code
def yX2_setUp : MethodName := ⟨RX2, "setUp", "()V"⟩
abbrev cX2_copy : ByteArray := prog_4_method_4_code
def yX2_copy : MethodName := ⟨RX2, "copy", "(LJumpBoard$Position;)V"⟩
abbrev cX2_own : ByteArray := prog_4_method_5_code
def yX2_own : MethodName := ⟨RX2, "own", "()I"⟩
abbrev cX2_others : ByteArray := prog_4_method_6_code
def yX2_others : MethodName := ⟨RX2, "others", "()I"⟩
abbrev cX2_isKing : ByteArray := prog_4_method_7_code
def yX2_isKing : MethodName := ⟨RX2, "isKing", "(I)Z"⟩
abbrev cX2_isOneEach : ByteArray := prog_4_method_8_code
def yX2_isOneEach : MethodName := ⟨RX2, "isOneEach", "()Z"⟩
abbrev cX2_pieceOn : ByteArray := prog_4_method_9_code
def yX2_pieceOn : MethodName := ⟨RX2, "pieceOn", "(I)I"⟩
abbrev cX2_place : ByteArray := prog_4_method_10_code
def yX2_place : MethodName := ⟨RX2, "place", "(II)V"⟩
abbrev cX2_follow : ByteArray := prog_4_method_11_code
def yX2_follow : MethodName := ⟨RX2, "follow", "(LJumpBoard$Position;I)V"⟩
abbrev cX2_balance : ByteArray := prog_4_method_12_code
def yX2_balance : MethodName := ⟨RX2, "balance", "()I"⟩
def RX3 : String := "JumpBoard$Rules"
def TX3 : u_T := fun k => match k with
  | 0 => ("JumpBoard$Rules", "near", "[I", true)
  | _ => ("JumpBoard$Rules", "behind", "[I", true)
def tyX3 : Nat → FieldType := fun k => match k with
  | 0 => .array .int
  | _ => .array .int
abbrev wsX30 : List Cond := u_ws RX3 TX3 2
theorem nmX3 : ∀ a, a < 2 → ∀ b, b < 2 → a ≠ b → (TX3 a).2.1 ≠ (TX3 b).2.1 := by decide +kernel
theorem tyX3_ok : ∀ k, k < 2 → parseFieldDescriptor (TX3 k).2.2.1 = some (tyX3 k) := by decide +kernel
abbrev cX3_init : ByteArray := prog_5_method_1_code
def yX3_init : MethodName := ⟨RX3, "<init>", "()V"⟩
abbrev cX3_reach : ByteArray := prog_5_method_2_code
def yX3_reach : MethodName := ⟨RX3, "reach", "(III)I"⟩
abbrev cX3_firstDirection : ByteArray := prog_5_method_3_code
def yX3_firstDirection : MethodName := ⟨RX3, "firstDirection", "(LJumpBoard$Position;I)I"⟩
abbrev cX3_lastDirection : ByteArray := prog_5_method_4_code
def yX3_lastDirection : MethodName := ⟨RX3, "lastDirection", "(LJumpBoard$Position;I)I"⟩
abbrev cX3_listMoves : ByteArray := prog_5_method_5_code
def yX3_listMoves : MethodName := ⟨RX3, "listMoves", "(LJumpBoard$Position;LJumpBoard$MoveList;)V"⟩
abbrev cX3_listSteps : ByteArray := prog_5_method_6_code
def yX3_listSteps : MethodName := ⟨RX3, "listSteps", "(LJumpBoard$Position;LJumpBoard$MoveList;I)V"⟩
abbrev cX3_leapOn : ByteArray := prog_5_method_7_code
def yX3_leapOn : MethodName := ⟨RX3, "leapOn", "(LJumpBoard$Position;LJumpBoard$MoveList;IIII)V"⟩
abbrev cX3_canMove : ByteArray := prog_5_method_8_code
def yX3_canMove : MethodName := ⟨RX3, "canMove", "(LJumpBoard$Position;)Z"⟩
abbrev cX3_canLeave : ByteArray := prog_5_method_9_code
def yX3_canLeave : MethodName := ⟨RX3, "canLeave", "(LJumpBoard$Position;I)Z"⟩
def RX4 : String := "JumpBoard"
def TX4 : u_T := fun k => match k with
  | 0 => ("JumpBoard", "rules", "LJumpBoard$Rules;", true)
  | 1 => ("JumpBoard", "endings", "LJumpBoard$Endings;", false)
  | 2 => ("JumpBoard", "line", "[LJumpBoard$Position;", true)
  | 3 => ("JumpBoard", "latest", "I", false)
  | 4 => ("JumpBoard", "list", "LJumpBoard$MoveList;", true)
  | 5 => ("JumpBoard", "after", "LJumpBoard$Position;", true)
  | 6 => ("JumpBoard", "lists", "[LJumpBoard$MoveList;", true)
  | _ => ("JumpBoard", "spots", "[LJumpBoard$Position;", true)
def tyX4 : Nat → FieldType := fun k => match k with
  | 0 => .object "JumpBoard$Rules"
  | 1 => .object "JumpBoard$Endings"
  | 2 => .array (.object "JumpBoard$Position")
  | 3 => .int
  | 4 => .object "JumpBoard$MoveList"
  | 5 => .object "JumpBoard$Position"
  | 6 => .array (.object "JumpBoard$MoveList")
  | _ => .array (.object "JumpBoard$Position")
abbrev wsX40 : List Cond := u_ws RX4 TX4 8
theorem nmX4 : ∀ a, a < 8 → ∀ b, b < 8 → a ≠ b → (TX4 a).2.1 ≠ (TX4 b).2.1 := by decide +kernel
theorem tyX4_ok : ∀ k, k < 8 → parseFieldDescriptor (TX4 k).2.2.1 = some (tyX4 k) := by decide +kernel
abbrev cX4_init : ByteArray := prog_1_method_1_code
def yX4_init : MethodName := ⟨RX4, "<init>", "()V"⟩
abbrev cX4_begin : ByteArray := prog_1_method_2_code
def yX4_begin : MethodName := ⟨RX4, "begin", "()V"⟩
abbrev cX4_clear : ByteArray := prog_1_method_3_code
def yX4_clear : MethodName := ⟨RX4, "clear", "()V"⟩
abbrev cX4_put : ByteArray := prog_1_method_4_code
def yX4_put : MethodName := ⟨RX4, "put", "(II)Z"⟩
abbrev cX4_turn : ByteArray := prog_1_method_5_code
def yX4_turn : MethodName := ⟨RX4, "turn", "(I)Z"⟩
abbrev cX4_at : ByteArray := prog_1_method_6_code
def yX4_at : MethodName := ⟨RX4, "at", "(I)I"⟩
abbrev cX4_side : ByteArray := prog_1_method_7_code
def yX4_side : MethodName := ⟨RX4, "side", "()I"⟩
abbrev cX4_moves : ByteArray := prog_1_method_8_code
def yX4_moves : MethodName := ⟨RX4, "moves", "()I"⟩
abbrev cX4_move : ByteArray := prog_1_method_9_code
def yX4_move : MethodName := ⟨RX4, "move", "(II)I"⟩
abbrev cX4_play : ByteArray := prog_1_method_10_code
def yX4_play : MethodName := ⟨RX4, "play", "(I)I"⟩
abbrev cX4_undo : ByteArray := prog_1_method_11_code
def yX4_undo : MethodName := ⟨RX4, "undo", "()Z"⟩
abbrev cX4_played : ByteArray := prog_1_method_12_code
def yX4_played : MethodName := ⟨RX4, "played", "()I"⟩
abbrev cX4_over : ByteArray := prog_1_method_13_code
def yX4_over : MethodName := ⟨RX4, "over", "()I"⟩
abbrev cX4_quiet : ByteArray := prog_1_method_14_code
def yX4_quiet : MethodName := ⟨RX4, "quiet", "()I"⟩
abbrev cX4_ways : ByteArray := prog_1_method_15_code
def yX4_ways : MethodName := ⟨RX4, "ways", "(I)I"⟩
abbrev cX4_verdict : ByteArray := prog_1_method_16_code
def yX4_verdict : MethodName := ⟨RX4, "verdict", "()I"⟩
abbrev cX4_value : ByteArray := prog_1_method_17_code
def yX4_value : MethodName := ⟨RX4, "value", "(I)I"⟩
abbrev cX4_best : ByteArray := prog_1_method_18_code
def yX4_best : MethodName := ⟨RX4, "best", "(I)I"⟩
abbrev cX4_forgetGame : ByteArray := prog_1_method_19_code
def yX4_forgetGame : MethodName := ⟨RX4, "forgetGame", "()V"⟩
abbrev cX4_countWays : ByteArray := prog_1_method_20_code
def yX4_countWays : MethodName := ⟨RX4, "countWays", "(LJumpBoard$Position;I)I"⟩
abbrev cX4_weigh : ByteArray := prog_1_method_21_code
def yX4_weigh : MethodName := ⟨RX4, "weigh", "(LJumpBoard$Position;III)I"⟩
abbrev cX4_weighVerdict : ByteArray := prog_1_method_22_code
def yX4_weighVerdict : MethodName := ⟨RX4, "weighVerdict", "(I)I"⟩
abbrev cX4_judge : ByteArray := prog_1_method_23_code
def yX4_judge : MethodName := ⟨RX4, "judge", "(LJumpBoard$Position;)I"⟩
abbrev cX4_isSquare : ByteArray := prog_1_method_24_code
def yX4_isSquare : MethodName := ⟨RX4, "isSquare", "(I)Z"⟩
abbrev cX4_isDepth : ByteArray := prog_1_method_25_code
def yX4_isDepth : MethodName := ⟨RX4, "isDepth", "(I)Z"⟩
def RX5 : String := "JumpBoardModel"
def TX5 : u_T := fun k => match k with
  | 0 => ("JumpBoardModel", "board", "[I", true)
  | 1 => ("JumpBoardModel", "mover", "[I", true)
  | 2 => ("JumpBoardModel", "list", "[I", true)
  | 3 => ("JumpBoardModel", "count", "[I", true)
  | 4 => ("JumpBoardModel", "left", "[I", true)
  | 5 => ("JumpBoardModel", "index", "[I", true)
  | 6 => ("JumpBoardModel", "top", "[I", true)
  | 7 => ("JumpBoardModel", "near", "[I", true)
  | 8 => ("JumpBoardModel", "far", "[I", true)
  | 9 => ("JumpBoardModel", "stand", "[I", true)
  | 10 => ("JumpBoardModel", "gone", "[I", true)
  | 11 => ("JumpBoardModel", "way", "[I", true)
  | 12 => ("JumpBoardModel", "could", "[Z", true)
  | 13 => ("JumpBoardModel", "played", "I", false)
  | 14 => ("JumpBoardModel", "quiet", "I", false)
  | 15 => ("JumpBoardModel", "oldBoard", "[I", true)
  | 16 => ("JumpBoardModel", "oldQuiet", "[I", true)
  | 17 => ("JumpBoardModel", "solved", "Z", false)
  | 18 => ("JumpBoardModel", "follow", "[I", true)
  | _ => ("JumpBoardModel", "known", "[I", true)
def tyX5 : Nat → FieldType := fun k => match k with
  | 0 => .array .int
  | 1 => .array .int
  | 2 => .array .int
  | 3 => .array .int
  | 4 => .array .int
  | 5 => .array .int
  | 6 => .array .int
  | 7 => .array .int
  | 8 => .array .int
  | 9 => .array .int
  | 10 => .array .int
  | 11 => .array .int
  | 12 => .array .boolean
  | 13 => .int
  | 14 => .int
  | 15 => .array .int
  | 16 => .array .int
  | 17 => .boolean
  | 18 => .array .int
  | _ => .array .int
abbrev wsX50 : List Cond := u_ws RX5 TX5 20
theorem nmX5 : ∀ a, a < 20 → ∀ b, b < 20 → a ≠ b → (TX5 a).2.1 ≠ (TX5 b).2.1 := by decide +kernel
theorem tyX5_ok : ∀ k, k < 20 → parseFieldDescriptor (TX5 k).2.2.1 = some (tyX5 k) := by decide +kernel
abbrev cX5_init : ByteArray := prog_7_method_1_code
def yX5_init : MethodName := ⟨RX5, "<init>", "()V"⟩
abbrev cX5_rowOf : ByteArray := prog_7_method_2_code
def yX5_rowOf : MethodName := ⟨RX5, "rowOf", "(I)I"⟩
abbrev cX5_reach : ByteArray := prog_7_method_3_code
def yX5_reach : MethodName := ⟨RX5, "reach", "(III)I"⟩
abbrev cX5_sideOf : ByteArray := prog_7_method_4_code
def yX5_sideOf : MethodName := ⟨RX5, "sideOf", "(I)I"⟩
abbrev cX5_isKing : ByteArray := prog_7_method_5_code
def yX5_isKing : MethodName := ⟨RX5, "isKing", "(I)Z"⟩
abbrev cX5_goes : ByteArray := prog_7_method_6_code
def yX5_goes : MethodName := ⟨RX5, "goes", "(II)Z"⟩
abbrev cX5_crowning : ByteArray := prog_7_method_7_code
def yX5_crowning : MethodName := ⟨RX5, "crowning", "(I)I"⟩
abbrev cX5_note : ByteArray := prog_7_method_8_code
def yX5_note : MethodName := ⟨RX5, "note", "(IIII)V"⟩
abbrev cX5_jumps : ByteArray := prog_7_method_9_code
def yX5_jumps : MethodName := ⟨RX5, "jumps", "(II)V"⟩
abbrev cX5_leap : ByteArray := prog_7_method_10_code
def yX5_leap : MethodName := ⟨RX5, "leap", "(IIIII)Z"⟩
abbrev cX5_steps : ByteArray := prog_7_method_11_code
def yX5_steps : MethodName := ⟨RX5, "steps", "(II)V"⟩
abbrev cX5_generate : ByteArray := prog_7_method_12_code
def yX5_generate : MethodName := ⟨RX5, "generate", "(I)V"⟩
abbrev cX5_beginning : ByteArray := prog_7_method_13_code
def yX5_beginning : MethodName := ⟨RX5, "beginning", "(I)I"⟩
abbrev cX5_end : ByteArray := prog_7_method_14_code
def yX5_end : MethodName := ⟨RX5, "end", "(I)I"⟩
abbrev cX5_make : ByteArray := prog_7_method_15_code
def yX5_make : MethodName := ⟨RX5, "make", "(II)V"⟩
abbrev cX5_code : ByteArray := prog_7_method_16_code
def yX5_code : MethodName := ⟨RX5, "code", "(IZIZI)I"⟩
abbrev cX5_develop : ByteArray := prog_7_method_17_code
def yX5_develop : MethodName := ⟨RX5, "develop", "(IZIZI)V"⟩
abbrev cX5_someLost : ByteArray := prog_7_method_18_code
def yX5_someLost : MethodName := ⟨RX5, "someLost", "(II)Z"⟩
abbrev cX5_allWon : ByteArray := prog_7_method_19_code
def yX5_allWon : MethodName := ⟨RX5, "allWon", "(I)I"⟩
abbrev cX5_solve : ByteArray := prog_7_method_20_code
def yX5_solve : MethodName := ⟨RX5, "solve", "()V"⟩
abbrev cX5_judge : ByteArray := prog_7_method_21_code
def yX5_judge : MethodName := ⟨RX5, "judge", "(II)I"⟩
abbrev cX5_ending : ByteArray := prog_7_method_22_code
def yX5_ending : MethodName := ⟨RX5, "ending", "(I)I"⟩
abbrev cX5_verdict : ByteArray := prog_7_method_23_code
def yX5_verdict : MethodName := ⟨RX5, "verdict", "()I"⟩
abbrev cX5_material : ByteArray := prog_7_method_24_code
def yX5_material : MethodName := ⟨RX5, "material", "(I)I"⟩
abbrev cX5_atOnce : ByteArray := prog_7_method_25_code
def yX5_atOnce : MethodName := ⟨RX5, "atOnce", "(I)I"⟩
abbrev cX5_search : ByteArray := prog_7_method_26_code
def yX5_search : MethodName := ⟨RX5, "search", "(II)I"⟩
abbrev cX5_enter : ByteArray := prog_7_method_27_code
def yX5_enter : MethodName := ⟨RX5, "enter", "(I)I"⟩
abbrev cX5_value : ByteArray := prog_7_method_28_code
def yX5_value : MethodName := ⟨RX5, "value", "(I)I"⟩
abbrev cX5_best : ByteArray := prog_7_method_29_code
def yX5_best : MethodName := ⟨RX5, "best", "(I)I"⟩
abbrev cX5_ways : ByteArray := prog_7_method_30_code
def yX5_ways : MethodName := ⟨RX5, "ways", "(I)I"⟩
abbrev cX5_begin : ByteArray := prog_7_method_31_code
def yX5_begin : MethodName := ⟨RX5, "begin", "()V"⟩
abbrev cX5_clear : ByteArray := prog_7_method_32_code
def yX5_clear : MethodName := ⟨RX5, "clear", "()V"⟩
abbrev cX5_put : ByteArray := prog_7_method_33_code
def yX5_put : MethodName := ⟨RX5, "put", "(II)Z"⟩
abbrev cX5_turn : ByteArray := prog_7_method_34_code
def yX5_turn : MethodName := ⟨RX5, "turn", "(I)Z"⟩
abbrev cX5_at : ByteArray := prog_7_method_35_code
def yX5_at : MethodName := ⟨RX5, "at", "(I)I"⟩
abbrev cX5_side : ByteArray := prog_7_method_36_code
def yX5_side : MethodName := ⟨RX5, "side", "()I"⟩
abbrev cX5_moves : ByteArray := prog_7_method_37_code
def yX5_moves : MethodName := ⟨RX5, "moves", "()I"⟩
abbrev cX5_move : ByteArray := prog_7_method_38_code
def yX5_move : MethodName := ⟨RX5, "move", "(II)I"⟩
abbrev cX5_over : ByteArray := prog_7_method_39_code
def yX5_over : MethodName := ⟨RX5, "over", "()I"⟩
abbrev cX5_play : ByteArray := prog_7_method_40_code
def yX5_play : MethodName := ⟨RX5, "play", "(I)I"⟩
abbrev cX5_undo : ByteArray := prog_7_method_41_code
def yX5_undo : MethodName := ⟨RX5, "undo", "()Z"⟩
abbrev cX5_played : ByteArray := prog_7_method_42_code
def yX5_played : MethodName := ⟨RX5, "played", "()I"⟩
abbrev cX5_quiet : ByteArray := prog_7_method_43_code
def yX5_quiet : MethodName := ⟨RX5, "quiet", "()I"⟩
def RJ6 : String := "java/lang/Integer"
def TJ6 : u_T := fun k => match k with
  | _ => ("", "", "", false)
def tyJ6 : Nat → FieldType := fun k => match k with
  | _ => .int
abbrev wsJ60 : List Cond := u_ws RJ6 TJ6 0
theorem nmJ6 : ∀ a, a < 0 → ∀ b, b < 0 → a ≠ b → (TJ6 a).2.1 ≠ (TJ6 b).2.1 := by decide +kernel
theorem tyJ6_ok : ∀ k, k < 0 → parseFieldDescriptor (TJ6 k).2.2.1 = some (tyJ6 k) := by decide +kernel
abbrev cJ6_numberOfTrailingZeros_0f7a4 : ByteArray := prog_8_method_48_code
def yJ6_numberOfTrailingZeros_0f7a4 : MethodName := ⟨RJ6, "numberOfTrailingZeros", "(I)I"⟩
abbrev cJ6_bitCount_0f7a4 : ByteArray := prog_8_method_49_code
def yJ6_bitCount_0f7a4 : MethodName := ⟨RJ6, "bitCount", "(I)I"⟩
def RJ9 : String := "java/lang/Math"
def TJ9 : u_T := fun k => match k with
  | _ => ("", "", "", false)
def tyJ9 : Nat → FieldType := fun k => match k with
  | _ => .int
abbrev wsJ90 : List Cond := u_ws RJ9 TJ9 0
theorem nmJ9 : ∀ a, a < 0 → ∀ b, b < 0 → a ≠ b → (TJ9 a).2.1 ≠ (TJ9 b).2.1 := by decide +kernel
theorem tyJ9_ok : ∀ k, k < 0 → parseFieldDescriptor (TJ9 k).2.2.1 = some (tyJ9 k) := by decide +kernel
abbrev cJ9_max_7cf53 : ByteArray := prog_9_method_65_code
def yJ9_max_7cf53 : MethodName := ⟨RJ9, "max", "(II)I"⟩
abbrev cJ9_min_7cf53 : ByteArray := prog_9_method_69_code
def yJ9_min_7cf53 : MethodName := ⟨RJ9, "min", "(II)I"⟩
def RL : String := "JumpBoardLaw"
abbrev cL_law : ByteArray := code
def yL_law : MethodName := ⟨RL, "law", "([I)Z"⟩
def wsX1_init : List Cond := .code yX1_init cX1_init 1 none :: ([.methodLink RX1 3 objectInit, .instanceMethod objectInit, .code objectInit ⟨#[0xb1]⟩ 1 none, .arrayClass .int, .fieldLink RX1 11 "JumpBoard$MoveList" "packed" "[I"] ++ wsX10)
def wsX2_init : List Cond := .code yX2_init cX2_init 1 none :: ([.methodLink RX2 3 objectInit, .instanceMethod objectInit, .code objectInit ⟨#[0xb1]⟩ 1 none])
def wsX2_wipe : List Cond := .code yX2_wipe cX2_wipe 1 none :: ([.fieldLink RX2 9 "JumpBoard$Position" "white" "I", .fieldLink RX2 15 "JumpBoard$Position" "black" "I", .fieldLink RX2 18 "JumpBoard$Position" "kings" "I", .fieldLink RX2 21 "JumpBoard$Position" "mover" "I", .fieldLink RX2 24 "JumpBoard$Position" "kingSteps" "I"] ++ wsX20)
def wsX2_place : List Cond := .code yX2_place cX2_place 3 none :: ([.fieldLink RX2 9 "JumpBoard$Position" "white" "I", .fieldLink RX2 15 "JumpBoard$Position" "black" "I", .fieldLink RX2 18 "JumpBoard$Position" "kings" "I"] ++ wsX20)
def wsX0_arrange : List Cond := .code yX0_arrange cX0_arrange 10 (some .boolean) :: ([.constant RX0 49 (229376), .methodLink RX0 50 yX2_wipe, .instanceMethod yX2_wipe, .selects RX2 yX2_wipe yX2_wipe, .initialized RX2, .code yX2_wipe cX2_wipe 1 none, .fieldLink RX2 9 "JumpBoard$Position" "white" "I", .fieldLink RX2 15 "JumpBoard$Position" "black" "I", .fieldLink RX2 18 "JumpBoard$Position" "kings" "I", .fieldLink RX2 21 "JumpBoard$Position" "mover" "I", .fieldLink RX2 24 "JumpBoard$Position" "kingSteps" "I", .methodLink RX0 53 yX2_place, .instanceMethod yX2_place, .selects RX2 yX2_place yX2_place, .code yX2_place cX2_place 3 none] ++ wsX20)
def wsX2_own : List Cond := .code yX2_own cX2_own 1 (some .int) :: ([.fieldLink RX2 21 "JumpBoard$Position" "mover" "I", .fieldLink RX2 9 "JumpBoard$Position" "white" "I", .fieldLink RX2 15 "JumpBoard$Position" "black" "I"] ++ wsX20)
def wsX2_others : List Cond := .code yX2_others cX2_others 1 (some .int) :: ([.fieldLink RX2 21 "JumpBoard$Position" "mover" "I", .fieldLink RX2 15 "JumpBoard$Position" "black" "I", .fieldLink RX2 9 "JumpBoard$Position" "white" "I"] ++ wsX20)
def wsX2_isKing : List Cond := .code yX2_isKing cX2_isKing 2 (some .boolean) :: ([.fieldLink RX2 18 "JumpBoard$Position" "kings" "I"] ++ wsX20)
def wsX3_lastDirection : List Cond := .code yX3_lastDirection cX3_lastDirection 2 (some .int) :: ([.fieldLink RX3 28 "JumpBoard$Position" "mover" "I", .methodLink RX3 22 yX2_isKing, .instanceMethod yX2_isKing, .selects RX2 yX2_isKing yX2_isKing, .initialized RX2, .code yX2_isKing cX2_isKing 2 (some .boolean), .fieldLink RX2 18 "JumpBoard$Position" "kings" "I"] ++ wsX20)
def wsX3_firstDirection : List Cond := .code yX3_firstDirection cX3_firstDirection 2 (some .int) :: ([.fieldLink RX3 28 "JumpBoard$Position" "mover" "I", .methodLink RX3 22 yX2_isKing, .instanceMethod yX2_isKing, .selects RX2 yX2_isKing yX2_isKing, .initialized RX2, .code yX2_isKing cX2_isKing 2 (some .boolean), .fieldLink RX2 18 "JumpBoard$Position" "kings" "I"] ++ wsX20)
def wsX1_enter : List Cond := .code yX1_enter cX1_enter 8 none :: ([.fieldLink RX1 16 "JumpBoard$MoveList" "count" "I", .fieldLink RX1 11 "JumpBoard$MoveList" "packed" "[I"] ++ wsX10)
def wsX3_leapOn_r1 : List Cond := [Cond.fieldLink RX3 49 "JumpBoard$Position" "white" "I", Cond.fieldLink RX3 52 "JumpBoard$Position" "black" "I", Cond.fieldLink RX3 9 "JumpBoard$Rules" "near" "[I", Cond.fieldLink RX3 15 "JumpBoard$Rules" "behind" "[I", Cond.methodLink RX3 66 yX2_others, Cond.instanceMethod yX2_others, Cond.selects RX2 yX2_others yX2_others, Cond.initialized RX2, Cond.code yX2_others cX2_others 1 (some .int), Cond.fieldLink RX2 21 "JumpBoard$Position" "mover" "I", Cond.fieldLink RX2 15 "JumpBoard$Position" "black" "I", Cond.fieldLink RX2 9 "JumpBoard$Position" "white" "I", Cond.methodLink RX3 55 yX3_lastDirection, Cond.static yX3_lastDirection, Cond.initialized RX3, Cond.code yX3_lastDirection cX3_lastDirection 2 (some .int), Cond.fieldLink RX3 28 "JumpBoard$Position" "mover" "I", Cond.methodLink RX3 22 yX2_isKing, Cond.instanceMethod yX2_isKing, Cond.selects RX2 yX2_isKing yX2_isKing, Cond.code yX2_isKing cX2_isKing 2 (some .boolean), Cond.fieldLink RX2 18 "JumpBoard$Position" "kings" "I", Cond.methodLink RX3 59 yX3_firstDirection, Cond.static yX3_firstDirection]
def wsX3_leapOn_r2 : List Cond := [Cond.code yX3_firstDirection cX3_firstDirection 2 (some .int), Cond.methodLink RX3 41 yX3_leapOn, Cond.instanceMethod yX3_leapOn, Cond.selects RX3 yX3_leapOn yX3_leapOn, Cond.methodLink RX3 62 yX1_enter, Cond.instanceMethod yX1_enter, Cond.selects RX1 yX1_enter yX1_enter, Cond.initialized RX1, Cond.code yX1_enter cX1_enter 8 none, Cond.fieldLink RX1 16 "JumpBoard$MoveList" "count" "I", Cond.fieldLink RX1 11 "JumpBoard$MoveList" "packed" "[I"]
def wsX3_leapOn : List Cond := .code yX3_leapOn cX3_leapOn 14 none :: ((wsX3_leapOn_r1 ++ wsX3_leapOn_r2) ++ wsX20 ++ wsX30 ++ wsX10)
def wsX3_listSteps : List Cond := .code yX3_listSteps cX3_listSteps 8 none :: ([.fieldLink RX3 49 "JumpBoard$Position" "white" "I", .fieldLink RX3 52 "JumpBoard$Position" "black" "I", .fieldLink RX3 9 "JumpBoard$Rules" "near" "[I", .methodLink RX3 55 yX3_lastDirection, .static yX3_lastDirection, .initialized RX3, .code yX3_lastDirection cX3_lastDirection 2 (some .int), .fieldLink RX3 28 "JumpBoard$Position" "mover" "I", .methodLink RX3 22 yX2_isKing, .instanceMethod yX2_isKing, .selects RX2 yX2_isKing yX2_isKing, .initialized RX2, .code yX2_isKing cX2_isKing 2 (some .boolean), .fieldLink RX2 18 "JumpBoard$Position" "kings" "I", .methodLink RX3 59 yX3_firstDirection, .static yX3_firstDirection, .code yX3_firstDirection cX3_firstDirection 2 (some .int), .methodLink RX3 62 yX1_enter, .instanceMethod yX1_enter, .selects RX1 yX1_enter yX1_enter, .initialized RX1, .code yX1_enter cX1_enter 8 none, .fieldLink RX1 16 "JumpBoard$MoveList" "count" "I", .fieldLink RX1 11 "JumpBoard$MoveList" "packed" "[I"] ++ wsX20 ++ wsX30 ++ wsX10)
def wsX3_listMoves_r1 : List Cond := [Cond.fieldLink RX3 32 "JumpBoard$MoveList" "count" "I", Cond.methodLink RX3 37 yX2_own, Cond.instanceMethod yX2_own, Cond.selects RX2 yX2_own yX2_own, Cond.initialized RX2, Cond.code yX2_own cX2_own 1 (some .int), Cond.fieldLink RX2 21 "JumpBoard$Position" "mover" "I", Cond.fieldLink RX2 9 "JumpBoard$Position" "white" "I", Cond.fieldLink RX2 15 "JumpBoard$Position" "black" "I", Cond.methodLink RX3 41 yX3_leapOn, Cond.instanceMethod yX3_leapOn, Cond.selects RX3 yX3_leapOn yX3_leapOn, Cond.initialized RX3, Cond.code yX3_leapOn cX3_leapOn 14 none, Cond.fieldLink RX3 49 "JumpBoard$Position" "white" "I", Cond.fieldLink RX3 52 "JumpBoard$Position" "black" "I", Cond.fieldLink RX3 9 "JumpBoard$Rules" "near" "[I", Cond.fieldLink RX3 15 "JumpBoard$Rules" "behind" "[I", Cond.methodLink RX3 66 yX2_others, Cond.instanceMethod yX2_others, Cond.selects RX2 yX2_others yX2_others, Cond.code yX2_others cX2_others 1 (some .int), Cond.methodLink RX3 55 yX3_lastDirection, Cond.static yX3_lastDirection]
def wsX3_listMoves_r2 : List Cond := [Cond.code yX3_lastDirection cX3_lastDirection 2 (some .int), Cond.fieldLink RX3 28 "JumpBoard$Position" "mover" "I", Cond.methodLink RX3 22 yX2_isKing, Cond.instanceMethod yX2_isKing, Cond.selects RX2 yX2_isKing yX2_isKing, Cond.code yX2_isKing cX2_isKing 2 (some .boolean), Cond.fieldLink RX2 18 "JumpBoard$Position" "kings" "I", Cond.methodLink RX3 59 yX3_firstDirection, Cond.static yX3_firstDirection, Cond.code yX3_firstDirection cX3_firstDirection 2 (some .int), Cond.methodLink RX3 62 yX1_enter, Cond.instanceMethod yX1_enter, Cond.selects RX1 yX1_enter yX1_enter, Cond.initialized RX1, Cond.code yX1_enter cX1_enter 8 none, Cond.fieldLink RX1 16 "JumpBoard$MoveList" "count" "I", Cond.fieldLink RX1 11 "JumpBoard$MoveList" "packed" "[I", Cond.methodLink RX3 45 yX3_listSteps, Cond.instanceMethod yX3_listSteps, Cond.selects RX3 yX3_listSteps yX3_listSteps, Cond.code yX3_listSteps cX3_listSteps 8 none]
def wsX3_listMoves : List Cond := .code yX3_listMoves cX3_listMoves 5 none :: ((wsX3_listMoves_r1 ++ wsX3_listMoves_r2) ++ wsX10 ++ wsX20 ++ wsX30)
def wsX1_beginning : List Cond := .code yX1_beginning cX1_beginning 1 (some .int) :: ([])
def wsX1_end : List Cond := .code yX1_end cX1_end 1 (some .int) :: ([])
def wsX1_taken : List Cond := .code yX1_taken cX1_taken 1 (some .int) :: ([.constant RX1 15 (262143)])
def wsX2_follow : List Cond := .code yX2_follow cX2_follow 9 none :: ([.fieldLink RX2 21 "JumpBoard$Position" "mover" "I", .fieldLink RX2 18 "JumpBoard$Position" "kings" "I", .constant RX2 48 (229376), .fieldLink RX2 9 "JumpBoard$Position" "white" "I", .fieldLink RX2 15 "JumpBoard$Position" "black" "I", .fieldLink RX2 24 "JumpBoard$Position" "kingSteps" "I", .methodLink RX2 37 yX1_beginning, .static yX1_beginning, .initialized RX1, .code yX1_beginning cX1_beginning 1 (some .int), .methodLink RX2 42 yX1_end, .static yX1_end, .code yX1_end cX1_end 1 (some .int), .methodLink RX2 45 yX1_taken, .static yX1_taken, .code yX1_taken cX1_taken 1 (some .int), .constant RX1 15 (262143)] ++ wsX20)
def wsJ6_numberOfTrailingZeros_0f7a4 : List Cond := .code yJ6_numberOfTrailingZeros_0f7a4 cJ6_numberOfTrailingZeros_0f7a4 2 (some .int) :: ([.constant RJ6 264 (65536)])
def wsX0_kind : List Cond := .code yX0_kind cX0_kind 4 (some .int) :: ([.fieldLink RX0 74 "JumpBoard$Position" "mover" "I", .methodLink RX0 68 yJ6_numberOfTrailingZeros_0f7a4, .static yJ6_numberOfTrailingZeros_0f7a4, .initialized RJ6, .code yJ6_numberOfTrailingZeros_0f7a4 cJ6_numberOfTrailingZeros_0f7a4 2 (some .int), .constant RJ6 264 (65536), .methodLink RX0 78 yX2_isKing, .instanceMethod yX2_isKing, .selects RX2 yX2_isKing yX2_isKing, .initialized RX2, .code yX2_isKing cX2_isKing 2 (some .boolean), .fieldLink RX2 18 "JumpBoard$Position" "kings" "I"] ++ wsX20)
def wsX0_number_r1 : List Cond := [Cond.methodLink RX0 57 yX2_own, Cond.instanceMethod yX2_own, Cond.selects RX2 yX2_own yX2_own, Cond.initialized RX2, Cond.code yX2_own cX2_own 1 (some .int), Cond.fieldLink RX2 21 "JumpBoard$Position" "mover" "I", Cond.fieldLink RX2 9 "JumpBoard$Position" "white" "I", Cond.fieldLink RX2 15 "JumpBoard$Position" "black" "I", Cond.methodLink RX0 61 yX0_kind, Cond.static yX0_kind, Cond.initialized RX0, Cond.code yX0_kind cX0_kind 4 (some .int), Cond.fieldLink RX0 74 "JumpBoard$Position" "mover" "I", Cond.methodLink RX0 68 yJ6_numberOfTrailingZeros_0f7a4, Cond.static yJ6_numberOfTrailingZeros_0f7a4, Cond.initialized RJ6, Cond.code yJ6_numberOfTrailingZeros_0f7a4 cJ6_numberOfTrailingZeros_0f7a4 2 (some .int), Cond.constant RJ6 264 (65536), Cond.methodLink RX0 78 yX2_isKing, Cond.instanceMethod yX2_isKing, Cond.selects RX2 yX2_isKing yX2_isKing, Cond.code yX2_isKing cX2_isKing 2 (some .boolean), Cond.fieldLink RX2 18 "JumpBoard$Position" "kings" "I", Cond.methodLink RX0 65 yX2_others]
def wsX0_number_r2 : List Cond := [Cond.instanceMethod yX2_others, Cond.selects RX2 yX2_others yX2_others, Cond.code yX2_others cX2_others 1 (some .int)]
def wsX0_number : List Cond := .code yX0_number cX0_number 1 (some .int) :: ((wsX0_number_r1 ++ wsX0_number_r2) ++ wsX20)
def wsX0_note_r1 : List Cond := [Cond.fieldLink RX0 82 "JumpBoard$MoveList" "count" "I", Cond.methodLink RX0 85 Lib.Math.min.name, Cond.static Lib.Math.min.name, Cond.initialized "java/lang/Math", Cond.code Lib.Math.min.name Lib.Math.min.code 2 (some .int), Cond.fieldLink RX0 91 "JumpBoard$MoveList" "packed" "[I", Cond.fieldLink RX0 18 "JumpBoard$Endings" "nexts" "[S", Cond.fieldLink RX0 15 "JumpBoard$Endings" "counts" "[B", Cond.fieldLink RX0 11 "JumpBoard$Endings" "verdicts" "[B", Cond.methodLink RX0 95 yX2_follow, Cond.instanceMethod yX2_follow, Cond.selects RX2 yX2_follow yX2_follow, Cond.initialized RX2, Cond.code yX2_follow cX2_follow 9 none, Cond.fieldLink RX2 21 "JumpBoard$Position" "mover" "I", Cond.fieldLink RX2 18 "JumpBoard$Position" "kings" "I", Cond.constant RX2 48 (229376), Cond.fieldLink RX2 9 "JumpBoard$Position" "white" "I", Cond.fieldLink RX2 15 "JumpBoard$Position" "black" "I", Cond.fieldLink RX2 24 "JumpBoard$Position" "kingSteps" "I", Cond.methodLink RX2 37 yX1_beginning, Cond.static yX1_beginning, Cond.initialized RX1, Cond.code yX1_beginning cX1_beginning 1 (some .int)]
def wsX0_note_r2 : List Cond := [Cond.methodLink RX2 42 yX1_end, Cond.static yX1_end, Cond.code yX1_end cX1_end 1 (some .int), Cond.methodLink RX2 45 yX1_taken, Cond.static yX1_taken, Cond.code yX1_taken cX1_taken 1 (some .int), Cond.constant RX1 15 (262143), Cond.methodLink RX0 45 yX0_number, Cond.static yX0_number, Cond.initialized RX0, Cond.code yX0_number cX0_number 1 (some .int), Cond.methodLink RX0 57 yX2_own, Cond.instanceMethod yX2_own, Cond.selects RX2 yX2_own yX2_own, Cond.code yX2_own cX2_own 1 (some .int), Cond.methodLink RX0 61 yX0_kind, Cond.static yX0_kind, Cond.code yX0_kind cX0_kind 4 (some .int), Cond.fieldLink RX0 74 "JumpBoard$Position" "mover" "I", Cond.methodLink RX0 68 yJ6_numberOfTrailingZeros_0f7a4, Cond.static yJ6_numberOfTrailingZeros_0f7a4, Cond.initialized RJ6, Cond.code yJ6_numberOfTrailingZeros_0f7a4 cJ6_numberOfTrailingZeros_0f7a4 2 (some .int), Cond.constant RJ6 264 (65536)]
def wsX0_note_r3 : List Cond := [Cond.methodLink RX0 78 yX2_isKing, Cond.instanceMethod yX2_isKing, Cond.selects RX2 yX2_isKing yX2_isKing, Cond.code yX2_isKing cX2_isKing 2 (some .boolean), Cond.methodLink RX0 65 yX2_others, Cond.instanceMethod yX2_others, Cond.selects RX2 yX2_others yX2_others, Cond.code yX2_others cX2_others 1 (some .int)]
def wsX0_note : List Cond := .code yX0_note cX0_note 7 none :: ((wsX0_note_r1 ++ (wsX0_note_r2 ++ wsX0_note_r3)) ++ wsX10 ++ wsX00 ++ wsX20)
def wsX0_leadsToLoss : List Cond := .code yX0_leadsToLoss cX0_leadsToLoss 3 (some .boolean) :: ([.fieldLink RX0 15 "JumpBoard$Endings" "counts" "[B", .fieldLink RX0 11 "JumpBoard$Endings" "verdicts" "[B", .fieldLink RX0 18 "JumpBoard$Endings" "nexts" "[S"] ++ wsX00)
def wsX0_findWins : List Cond := .code yX0_findWins cX0_findWins 4 (some .boolean) :: ([.fieldLink RX0 11 "JumpBoard$Endings" "verdicts" "[B", .methodLink RX0 105 yX0_leadsToLoss, .instanceMethod yX0_leadsToLoss, .selects RX0 yX0_leadsToLoss yX0_leadsToLoss, .initialized RX0, .code yX0_leadsToLoss cX0_leadsToLoss 3 (some .boolean), .fieldLink RX0 15 "JumpBoard$Endings" "counts" "[B", .fieldLink RX0 18 "JumpBoard$Endings" "nexts" "[S"] ++ wsX00)
def wsX0_leadsToWinsAlone : List Cond := .code yX0_leadsToWinsAlone cX0_leadsToWinsAlone 3 (some .boolean) :: ([.fieldLink RX0 15 "JumpBoard$Endings" "counts" "[B", .fieldLink RX0 11 "JumpBoard$Endings" "verdicts" "[B", .fieldLink RX0 18 "JumpBoard$Endings" "nexts" "[S"] ++ wsX00)
def wsX0_findLosses : List Cond := .code yX0_findLosses cX0_findLosses 4 (some .boolean) :: ([.fieldLink RX0 11 "JumpBoard$Endings" "verdicts" "[B", .fieldLink RX0 15 "JumpBoard$Endings" "counts" "[B", .methodLink RX0 108 yX0_leadsToWinsAlone, .instanceMethod yX0_leadsToWinsAlone, .selects RX0 yX0_leadsToWinsAlone yX0_leadsToWinsAlone, .initialized RX0, .code yX0_leadsToWinsAlone cX0_leadsToWinsAlone 3 (some .boolean), .fieldLink RX0 18 "JumpBoard$Endings" "nexts" "[S"] ++ wsX00)
def wsX0_settle : List Cond := .code yX0_settle cX0_settle 3 none :: ([.methodLink RX0 99 yX0_findWins, .instanceMethod yX0_findWins, .selects RX0 yX0_findWins yX0_findWins, .initialized RX0, .code yX0_findWins cX0_findWins 4 (some .boolean), .fieldLink RX0 11 "JumpBoard$Endings" "verdicts" "[B", .methodLink RX0 105 yX0_leadsToLoss, .instanceMethod yX0_leadsToLoss, .selects RX0 yX0_leadsToLoss yX0_leadsToLoss, .code yX0_leadsToLoss cX0_leadsToLoss 3 (some .boolean), .fieldLink RX0 15 "JumpBoard$Endings" "counts" "[B", .fieldLink RX0 18 "JumpBoard$Endings" "nexts" "[S", .methodLink RX0 102 yX0_findLosses, .instanceMethod yX0_findLosses, .selects RX0 yX0_findLosses yX0_findLosses, .code yX0_findLosses cX0_findLosses 4 (some .boolean), .methodLink RX0 108 yX0_leadsToWinsAlone, .instanceMethod yX0_leadsToWinsAlone, .selects RX0 yX0_leadsToWinsAlone yX0_leadsToWinsAlone, .code yX0_leadsToWinsAlone cX0_leadsToWinsAlone 3 (some .boolean)] ++ wsX00)
def wsX0_init_r1 : List Cond := [Cond.methodLink RX0 5 objectInit, Cond.instanceMethod objectInit, Cond.code objectInit ⟨#[0xb1]⟩ 1 none, Cond.arrayClass .byte, Cond.fieldLink RX0 11 "JumpBoard$Endings" "verdicts" "[B", Cond.fieldLink RX0 15 "JumpBoard$Endings" "counts" "[B", Cond.arrayClass .short, Cond.fieldLink RX0 18 "JumpBoard$Endings" "nexts" "[S", Cond.classLink RX0 22 RX1, Cond.instantiable RX1 2, Cond.initialized RX1, Cond.classLink RX0 25 RX2, Cond.instantiable RX2 5, Cond.initialized RX2, Cond.instanceMethod yX1_init, Cond.code yX1_init cX1_init 1 none, Cond.methodLink RX1 3 objectInit, Cond.arrayClass .int, Cond.fieldLink RX1 11 "JumpBoard$MoveList" "packed" "[I", Cond.instanceMethod yX2_init, Cond.code yX2_init cX2_init 1 none, Cond.methodLink RX2 3 objectInit, Cond.methodLink RX0 28 yX0_arrange, Cond.static yX0_arrange]
def wsX0_init_r2 : List Cond := [Cond.initialized RX0, Cond.code yX0_arrange cX0_arrange 10 (some .boolean), Cond.constant RX0 49 (229376), Cond.methodLink RX0 50 yX2_wipe, Cond.instanceMethod yX2_wipe, Cond.selects RX2 yX2_wipe yX2_wipe, Cond.code yX2_wipe cX2_wipe 1 none, Cond.fieldLink RX2 9 "JumpBoard$Position" "white" "I", Cond.fieldLink RX2 15 "JumpBoard$Position" "black" "I", Cond.fieldLink RX2 18 "JumpBoard$Position" "kings" "I", Cond.fieldLink RX2 21 "JumpBoard$Position" "mover" "I", Cond.fieldLink RX2 24 "JumpBoard$Position" "kingSteps" "I", Cond.methodLink RX0 53 yX2_place, Cond.instanceMethod yX2_place, Cond.selects RX2 yX2_place yX2_place, Cond.code yX2_place cX2_place 3 none, Cond.methodLink RX0 32 yX3_listMoves, Cond.instanceMethod yX3_listMoves, Cond.selects RX3 yX3_listMoves yX3_listMoves, Cond.initialized RX3, Cond.code yX3_listMoves cX3_listMoves 5 none, Cond.fieldLink RX3 32 "JumpBoard$MoveList" "count" "I", Cond.methodLink RX3 37 yX2_own, Cond.instanceMethod yX2_own]
def wsX0_init_r3 : List Cond := [Cond.selects RX2 yX2_own yX2_own, Cond.code yX2_own cX2_own 1 (some .int), Cond.methodLink RX3 41 yX3_leapOn, Cond.instanceMethod yX3_leapOn, Cond.selects RX3 yX3_leapOn yX3_leapOn, Cond.code yX3_leapOn cX3_leapOn 14 none, Cond.fieldLink RX3 49 "JumpBoard$Position" "white" "I", Cond.fieldLink RX3 52 "JumpBoard$Position" "black" "I", Cond.fieldLink RX3 9 "JumpBoard$Rules" "near" "[I", Cond.fieldLink RX3 15 "JumpBoard$Rules" "behind" "[I", Cond.methodLink RX3 66 yX2_others, Cond.instanceMethod yX2_others, Cond.selects RX2 yX2_others yX2_others, Cond.code yX2_others cX2_others 1 (some .int), Cond.methodLink RX3 55 yX3_lastDirection, Cond.static yX3_lastDirection, Cond.code yX3_lastDirection cX3_lastDirection 2 (some .int), Cond.fieldLink RX3 28 "JumpBoard$Position" "mover" "I", Cond.methodLink RX3 22 yX2_isKing, Cond.instanceMethod yX2_isKing, Cond.selects RX2 yX2_isKing yX2_isKing, Cond.code yX2_isKing cX2_isKing 2 (some .boolean), Cond.methodLink RX3 59 yX3_firstDirection, Cond.static yX3_firstDirection]
def wsX0_init_r4 : List Cond := [Cond.code yX3_firstDirection cX3_firstDirection 2 (some .int), Cond.methodLink RX3 62 yX1_enter, Cond.instanceMethod yX1_enter, Cond.selects RX1 yX1_enter yX1_enter, Cond.code yX1_enter cX1_enter 8 none, Cond.fieldLink RX1 16 "JumpBoard$MoveList" "count" "I", Cond.methodLink RX3 45 yX3_listSteps, Cond.instanceMethod yX3_listSteps, Cond.selects RX3 yX3_listSteps yX3_listSteps, Cond.code yX3_listSteps cX3_listSteps 8 none, Cond.methodLink RX0 38 yX0_note, Cond.instanceMethod yX0_note, Cond.selects RX0 yX0_note yX0_note, Cond.code yX0_note cX0_note 7 none, Cond.fieldLink RX0 82 "JumpBoard$MoveList" "count" "I", Cond.methodLink RX0 85 Lib.Math.min.name, Cond.static Lib.Math.min.name, Cond.initialized "java/lang/Math", Cond.code Lib.Math.min.name Lib.Math.min.code 2 (some .int), Cond.fieldLink RX0 91 "JumpBoard$MoveList" "packed" "[I", Cond.methodLink RX0 95 yX2_follow, Cond.instanceMethod yX2_follow, Cond.selects RX2 yX2_follow yX2_follow, Cond.code yX2_follow cX2_follow 9 none]
def wsX0_init_r5 : List Cond := [Cond.constant RX2 48 (229376), Cond.methodLink RX2 37 yX1_beginning, Cond.static yX1_beginning, Cond.code yX1_beginning cX1_beginning 1 (some .int), Cond.methodLink RX2 42 yX1_end, Cond.static yX1_end, Cond.code yX1_end cX1_end 1 (some .int), Cond.methodLink RX2 45 yX1_taken, Cond.static yX1_taken, Cond.code yX1_taken cX1_taken 1 (some .int), Cond.constant RX1 15 (262143), Cond.methodLink RX0 45 yX0_number, Cond.static yX0_number, Cond.code yX0_number cX0_number 1 (some .int), Cond.methodLink RX0 57 yX2_own, Cond.methodLink RX0 61 yX0_kind, Cond.static yX0_kind, Cond.code yX0_kind cX0_kind 4 (some .int), Cond.fieldLink RX0 74 "JumpBoard$Position" "mover" "I", Cond.methodLink RX0 68 yJ6_numberOfTrailingZeros_0f7a4, Cond.static yJ6_numberOfTrailingZeros_0f7a4, Cond.initialized RJ6, Cond.code yJ6_numberOfTrailingZeros_0f7a4 cJ6_numberOfTrailingZeros_0f7a4 2 (some .int), Cond.constant RJ6 264 (65536)]
def wsX0_init_r6 : List Cond := [Cond.methodLink RX0 78 yX2_isKing, Cond.methodLink RX0 65 yX2_others, Cond.methodLink RX0 42 yX0_settle, Cond.instanceMethod yX0_settle, Cond.selects RX0 yX0_settle yX0_settle, Cond.code yX0_settle cX0_settle 3 none, Cond.methodLink RX0 99 yX0_findWins, Cond.instanceMethod yX0_findWins, Cond.selects RX0 yX0_findWins yX0_findWins, Cond.code yX0_findWins cX0_findWins 4 (some .boolean), Cond.methodLink RX0 105 yX0_leadsToLoss, Cond.instanceMethod yX0_leadsToLoss, Cond.selects RX0 yX0_leadsToLoss yX0_leadsToLoss, Cond.code yX0_leadsToLoss cX0_leadsToLoss 3 (some .boolean), Cond.methodLink RX0 102 yX0_findLosses, Cond.instanceMethod yX0_findLosses, Cond.selects RX0 yX0_findLosses yX0_findLosses, Cond.code yX0_findLosses cX0_findLosses 4 (some .boolean), Cond.methodLink RX0 108 yX0_leadsToWinsAlone, Cond.instanceMethod yX0_leadsToWinsAlone, Cond.selects RX0 yX0_leadsToWinsAlone yX0_leadsToWinsAlone, Cond.code yX0_leadsToWinsAlone cX0_leadsToWinsAlone 3 (some .boolean)]
def wsX0_init : List Cond := .code yX0_init cX0_init 6 none :: ((wsX0_init_r1 ++ (wsX0_init_r2 ++ (wsX0_init_r3 ++ (wsX0_init_r4 ++ (wsX0_init_r5 ++ wsX0_init_r6))))) ++ wsX00 ++ wsX10 ++ wsX20 ++ wsX30)
def wsX0_look_r1 : List Cond := [Cond.fieldLink RX0 11 "JumpBoard$Endings" "verdicts" "[B", Cond.methodLink RX0 45 yX0_number, Cond.static yX0_number, Cond.initialized RX0, Cond.code yX0_number cX0_number 1 (some .int), Cond.methodLink RX0 57 yX2_own, Cond.instanceMethod yX2_own, Cond.selects RX2 yX2_own yX2_own, Cond.initialized RX2, Cond.code yX2_own cX2_own 1 (some .int), Cond.fieldLink RX2 21 "JumpBoard$Position" "mover" "I", Cond.fieldLink RX2 9 "JumpBoard$Position" "white" "I", Cond.fieldLink RX2 15 "JumpBoard$Position" "black" "I", Cond.methodLink RX0 61 yX0_kind, Cond.static yX0_kind, Cond.code yX0_kind cX0_kind 4 (some .int), Cond.fieldLink RX0 74 "JumpBoard$Position" "mover" "I", Cond.methodLink RX0 68 yJ6_numberOfTrailingZeros_0f7a4, Cond.static yJ6_numberOfTrailingZeros_0f7a4, Cond.initialized RJ6, Cond.code yJ6_numberOfTrailingZeros_0f7a4 cJ6_numberOfTrailingZeros_0f7a4 2 (some .int), Cond.constant RJ6 264 (65536), Cond.methodLink RX0 78 yX2_isKing, Cond.instanceMethod yX2_isKing]
def wsX0_look_r2 : List Cond := [Cond.selects RX2 yX2_isKing yX2_isKing, Cond.code yX2_isKing cX2_isKing 2 (some .boolean), Cond.fieldLink RX2 18 "JumpBoard$Position" "kings" "I", Cond.methodLink RX0 65 yX2_others, Cond.instanceMethod yX2_others, Cond.selects RX2 yX2_others yX2_others, Cond.code yX2_others cX2_others 1 (some .int)]
def wsX0_look : List Cond := .code yX0_look cX0_look 2 (some .int) :: ((wsX0_look_r1 ++ wsX0_look_r2) ++ wsX00 ++ wsX20)
def wsX2_setUp : List Cond := .code yX2_setUp cX2_setUp 1 none :: ([.fieldLink RX2 9 "JumpBoard$Position" "white" "I", .constant RX2 30 (258048), .fieldLink RX2 15 "JumpBoard$Position" "black" "I", .methodLink RX2 27 yX2_wipe, .instanceMethod yX2_wipe, .selects RX2 yX2_wipe yX2_wipe, .initialized RX2, .code yX2_wipe cX2_wipe 1 none, .fieldLink RX2 18 "JumpBoard$Position" "kings" "I", .fieldLink RX2 21 "JumpBoard$Position" "mover" "I", .fieldLink RX2 24 "JumpBoard$Position" "kingSteps" "I"] ++ wsX20)
def wsX2_copy : List Cond := .code yX2_copy cX2_copy 2 none :: ([.fieldLink RX2 9 "JumpBoard$Position" "white" "I", .fieldLink RX2 15 "JumpBoard$Position" "black" "I", .fieldLink RX2 18 "JumpBoard$Position" "kings" "I", .fieldLink RX2 21 "JumpBoard$Position" "mover" "I", .fieldLink RX2 24 "JumpBoard$Position" "kingSteps" "I"] ++ wsX20)
def wsJ6_bitCount_0f7a4 : List Cond := .code yJ6_bitCount_0f7a4 cJ6_bitCount_0f7a4 1 (some .int) :: ([.constant RJ6 265 (1431655765), .constant RJ6 266 (858993459), .constant RJ6 267 (252645135)])
def wsX2_isOneEach : List Cond := .code yX2_isOneEach cX2_isOneEach 1 (some .boolean) :: ([.fieldLink RX2 9 "JumpBoard$Position" "white" "I", .fieldLink RX2 15 "JumpBoard$Position" "black" "I", .methodLink RX2 31 yJ6_bitCount_0f7a4, .static yJ6_bitCount_0f7a4, .initialized RJ6, .code yJ6_bitCount_0f7a4 cJ6_bitCount_0f7a4 1 (some .int), .constant RJ6 265 (1431655765), .constant RJ6 266 (858993459), .constant RJ6 267 (252645135)] ++ wsX20)
def wsX2_pieceOn : List Cond := .code yX2_pieceOn cX2_pieceOn 3 (some .int) :: ([.fieldLink RX2 18 "JumpBoard$Position" "kings" "I", .fieldLink RX2 9 "JumpBoard$Position" "white" "I", .fieldLink RX2 15 "JumpBoard$Position" "black" "I"] ++ wsX20)
def wsX2_balance : List Cond := .code yX2_balance cX2_balance 3 (some .int) :: ([.fieldLink RX2 18 "JumpBoard$Position" "kings" "I", .methodLink RX2 49 yX2_own, .instanceMethod yX2_own, .selects RX2 yX2_own yX2_own, .initialized RX2, .code yX2_own cX2_own 1 (some .int), .fieldLink RX2 21 "JumpBoard$Position" "mover" "I", .fieldLink RX2 9 "JumpBoard$Position" "white" "I", .fieldLink RX2 15 "JumpBoard$Position" "black" "I", .methodLink RX2 31 yJ6_bitCount_0f7a4, .static yJ6_bitCount_0f7a4, .initialized RJ6, .code yJ6_bitCount_0f7a4 cJ6_bitCount_0f7a4 1 (some .int), .constant RJ6 265 (1431655765), .constant RJ6 266 (858993459), .constant RJ6 267 (252645135), .methodLink RX2 53 yX2_others, .instanceMethod yX2_others, .selects RX2 yX2_others yX2_others, .code yX2_others cX2_others 1 (some .int)] ++ wsX20)
def wsX3_reach : List Cond := .code yX3_reach cX3_reach 5 (some .int) :: ([])
def wsX3_init : List Cond := .code yX3_init cX3_init 3 none :: ([.methodLink RX3 3 objectInit, .instanceMethod objectInit, .code objectInit ⟨#[0xb1]⟩ 1 none, .arrayClass .int, .fieldLink RX3 9 "JumpBoard$Rules" "near" "[I", .fieldLink RX3 15 "JumpBoard$Rules" "behind" "[I", .methodLink RX3 18 yX3_reach, .static yX3_reach, .initialized RX3, .code yX3_reach cX3_reach 5 (some .int)] ++ wsX30)
def wsX3_canLeave_r1 : List Cond := [Cond.fieldLink RX3 49 "JumpBoard$Position" "white" "I", Cond.fieldLink RX3 52 "JumpBoard$Position" "black" "I", Cond.fieldLink RX3 9 "JumpBoard$Rules" "near" "[I", Cond.fieldLink RX3 15 "JumpBoard$Rules" "behind" "[I", Cond.methodLink RX3 66 yX2_others, Cond.instanceMethod yX2_others, Cond.selects RX2 yX2_others yX2_others, Cond.initialized RX2, Cond.code yX2_others cX2_others 1 (some .int), Cond.fieldLink RX2 21 "JumpBoard$Position" "mover" "I", Cond.fieldLink RX2 15 "JumpBoard$Position" "black" "I", Cond.fieldLink RX2 9 "JumpBoard$Position" "white" "I", Cond.methodLink RX3 55 yX3_lastDirection, Cond.static yX3_lastDirection, Cond.initialized RX3, Cond.code yX3_lastDirection cX3_lastDirection 2 (some .int), Cond.fieldLink RX3 28 "JumpBoard$Position" "mover" "I", Cond.methodLink RX3 22 yX2_isKing, Cond.instanceMethod yX2_isKing, Cond.selects RX2 yX2_isKing yX2_isKing, Cond.code yX2_isKing cX2_isKing 2 (some .boolean), Cond.fieldLink RX2 18 "JumpBoard$Position" "kings" "I", Cond.methodLink RX3 59 yX3_firstDirection, Cond.static yX3_firstDirection]
def wsX3_canLeave_r2 : List Cond := [Cond.code yX3_firstDirection cX3_firstDirection 2 (some .int)]
def wsX3_canLeave : List Cond := .code yX3_canLeave cX3_canLeave 8 (some .boolean) :: ((wsX3_canLeave_r1 ++ wsX3_canLeave_r2) ++ wsX20 ++ wsX30)
def wsX3_canMove_r1 : List Cond := [Cond.methodLink RX3 37 yX2_own, Cond.instanceMethod yX2_own, Cond.selects RX2 yX2_own yX2_own, Cond.initialized RX2, Cond.code yX2_own cX2_own 1 (some .int), Cond.fieldLink RX2 21 "JumpBoard$Position" "mover" "I", Cond.fieldLink RX2 9 "JumpBoard$Position" "white" "I", Cond.fieldLink RX2 15 "JumpBoard$Position" "black" "I", Cond.methodLink RX3 69 yX3_canLeave, Cond.instanceMethod yX3_canLeave, Cond.selects RX3 yX3_canLeave yX3_canLeave, Cond.initialized RX3, Cond.code yX3_canLeave cX3_canLeave 8 (some .boolean), Cond.fieldLink RX3 49 "JumpBoard$Position" "white" "I", Cond.fieldLink RX3 52 "JumpBoard$Position" "black" "I", Cond.fieldLink RX3 9 "JumpBoard$Rules" "near" "[I", Cond.fieldLink RX3 15 "JumpBoard$Rules" "behind" "[I", Cond.methodLink RX3 66 yX2_others, Cond.instanceMethod yX2_others, Cond.selects RX2 yX2_others yX2_others, Cond.code yX2_others cX2_others 1 (some .int), Cond.methodLink RX3 55 yX3_lastDirection, Cond.static yX3_lastDirection, Cond.code yX3_lastDirection cX3_lastDirection 2 (some .int)]
def wsX3_canMove_r2 : List Cond := [Cond.fieldLink RX3 28 "JumpBoard$Position" "mover" "I", Cond.methodLink RX3 22 yX2_isKing, Cond.instanceMethod yX2_isKing, Cond.selects RX2 yX2_isKing yX2_isKing, Cond.code yX2_isKing cX2_isKing 2 (some .boolean), Cond.fieldLink RX2 18 "JumpBoard$Position" "kings" "I", Cond.methodLink RX3 59 yX3_firstDirection, Cond.static yX3_firstDirection, Cond.code yX3_firstDirection cX3_firstDirection 2 (some .int)]
def wsX3_canMove : List Cond := .code yX3_canMove cX3_canMove 4 (some .boolean) :: ((wsX3_canMove_r1 ++ wsX3_canMove_r2) ++ wsX20 ++ wsX30)
def wsX4_init_r1 : List Cond := [Cond.methodLink RX4 1 objectInit, Cond.instanceMethod objectInit, Cond.code objectInit ⟨#[0xb1]⟩ 1 none, Cond.classLink RX4 7 RX3, Cond.instantiable RX3 2, Cond.initialized RX3, Cond.fieldLink RX4 10 "JumpBoard" "rules" "LJumpBoard$Rules;", Cond.fieldLink RX4 16 "JumpBoard" "endings" "LJumpBoard$Endings;", Cond.classLink RX4 20 RX2, Cond.fieldLink RX4 22 "JumpBoard" "line" "[LJumpBoard$Position;", Cond.fieldLink RX4 26 "JumpBoard" "latest" "I", Cond.classLink RX4 30 RX1, Cond.instantiable RX1 2, Cond.initialized RX1, Cond.fieldLink RX4 33 "JumpBoard" "list" "LJumpBoard$MoveList;", Cond.instantiable RX2 5, Cond.initialized RX2, Cond.fieldLink RX4 38 "JumpBoard" "after" "LJumpBoard$Position;", Cond.fieldLink RX4 42 "JumpBoard" "lists" "[LJumpBoard$MoveList;", Cond.fieldLink RX4 46 "JumpBoard" "spots" "[LJumpBoard$Position;", Cond.methodLink RX4 9 yX3_init, Cond.instanceMethod yX3_init, Cond.code yX3_init cX3_init 3 none, Cond.methodLink RX3 3 objectInit]
def wsX4_init_r2 : List Cond := [Cond.arrayClass .int, Cond.fieldLink RX3 9 "JumpBoard$Rules" "near" "[I", Cond.fieldLink RX3 15 "JumpBoard$Rules" "behind" "[I", Cond.methodLink RX3 18 yX3_reach, Cond.static yX3_reach, Cond.code yX3_reach cX3_reach 5 (some .int), Cond.instanceMethod yX1_init, Cond.code yX1_init cX1_init 1 none, Cond.methodLink RX1 3 objectInit, Cond.fieldLink RX1 11 "JumpBoard$MoveList" "packed" "[I", Cond.instanceMethod yX2_init, Cond.code yX2_init cX2_init 1 none, Cond.methodLink RX2 3 objectInit, Cond.methodLink RX4 49 yX2_setUp, Cond.instanceMethod yX2_setUp, Cond.selects RX2 yX2_setUp yX2_setUp, Cond.code yX2_setUp cX2_setUp 1 none, Cond.fieldLink RX2 9 "JumpBoard$Position" "white" "I", Cond.constant RX2 30 (258048), Cond.fieldLink RX2 15 "JumpBoard$Position" "black" "I", Cond.methodLink RX2 27 yX2_wipe, Cond.instanceMethod yX2_wipe, Cond.selects RX2 yX2_wipe yX2_wipe, Cond.code yX2_wipe cX2_wipe 1 none]
def wsX4_init_r3 : List Cond := [Cond.fieldLink RX2 18 "JumpBoard$Position" "kings" "I", Cond.fieldLink RX2 21 "JumpBoard$Position" "mover" "I", Cond.fieldLink RX2 24 "JumpBoard$Position" "kingSteps" "I"]
def wsX4_init : List Cond := .code yX4_init cX4_init 2 none :: ((wsX4_init_r1 ++ (wsX4_init_r2 ++ wsX4_init_r3)) ++ wsX30 ++ wsX40 ++ wsX10 ++ wsX20)
def wsX4_begin : List Cond := .code yX4_begin cX4_begin 1 none :: ([.fieldLink RX4 26 "JumpBoard" "latest" "I", .fieldLink RX4 22 "JumpBoard" "line" "[LJumpBoard$Position;", .methodLink RX4 49 yX2_setUp, .instanceMethod yX2_setUp, .selects RX2 yX2_setUp yX2_setUp, .initialized RX2, .code yX2_setUp cX2_setUp 1 none, .fieldLink RX2 9 "JumpBoard$Position" "white" "I", .constant RX2 30 (258048), .fieldLink RX2 15 "JumpBoard$Position" "black" "I", .methodLink RX2 27 yX2_wipe, .instanceMethod yX2_wipe, .selects RX2 yX2_wipe yX2_wipe, .code yX2_wipe cX2_wipe 1 none, .fieldLink RX2 18 "JumpBoard$Position" "kings" "I", .fieldLink RX2 21 "JumpBoard$Position" "mover" "I", .fieldLink RX2 24 "JumpBoard$Position" "kingSteps" "I"] ++ wsX40 ++ wsX20)
def wsX4_clear : List Cond := .code yX4_clear cX4_clear 1 none :: ([.fieldLink RX4 26 "JumpBoard" "latest" "I", .fieldLink RX4 22 "JumpBoard" "line" "[LJumpBoard$Position;", .methodLink RX4 52 yX2_wipe, .instanceMethod yX2_wipe, .selects RX2 yX2_wipe yX2_wipe, .initialized RX2, .code yX2_wipe cX2_wipe 1 none, .fieldLink RX2 9 "JumpBoard$Position" "white" "I", .fieldLink RX2 15 "JumpBoard$Position" "black" "I", .fieldLink RX2 18 "JumpBoard$Position" "kings" "I", .fieldLink RX2 21 "JumpBoard$Position" "mover" "I", .fieldLink RX2 24 "JumpBoard$Position" "kingSteps" "I"] ++ wsX40 ++ wsX20)
def wsX4_isSquare : List Cond := .code yX4_isSquare cX4_isSquare 1 (some .boolean) :: ([])
def wsX4_forgetGame : List Cond := .code yX4_forgetGame cX4_forgetGame 1 none :: ([.fieldLink RX4 22 "JumpBoard" "line" "[LJumpBoard$Position;", .fieldLink RX4 26 "JumpBoard" "latest" "I", .fieldLink RX4 114 "JumpBoard$Position" "kingSteps" "I", .methodLink RX4 136 yX2_copy, .instanceMethod yX2_copy, .selects RX2 yX2_copy yX2_copy, .initialized RX2, .code yX2_copy cX2_copy 2 none, .fieldLink RX2 9 "JumpBoard$Position" "white" "I", .fieldLink RX2 15 "JumpBoard$Position" "black" "I", .fieldLink RX2 18 "JumpBoard$Position" "kings" "I", .fieldLink RX2 21 "JumpBoard$Position" "mover" "I", .fieldLink RX2 24 "JumpBoard$Position" "kingSteps" "I"] ++ wsX40 ++ wsX20)
def wsX4_put_r1 : List Cond := [Cond.constant RX4 59 (229376), Cond.fieldLink RX4 22 "JumpBoard" "line" "[LJumpBoard$Position;", Cond.methodLink RX4 55 yX4_isSquare, Cond.static yX4_isSquare, Cond.initialized RX4, Cond.code yX4_isSquare cX4_isSquare 1 (some .boolean), Cond.methodLink RX4 60 yX4_forgetGame, Cond.instanceMethod yX4_forgetGame, Cond.selects RX4 yX4_forgetGame yX4_forgetGame, Cond.code yX4_forgetGame cX4_forgetGame 1 none, Cond.fieldLink RX4 26 "JumpBoard" "latest" "I", Cond.fieldLink RX4 114 "JumpBoard$Position" "kingSteps" "I", Cond.methodLink RX4 136 yX2_copy, Cond.instanceMethod yX2_copy, Cond.selects RX2 yX2_copy yX2_copy, Cond.initialized RX2, Cond.code yX2_copy cX2_copy 2 none, Cond.fieldLink RX2 9 "JumpBoard$Position" "white" "I", Cond.fieldLink RX2 15 "JumpBoard$Position" "black" "I", Cond.fieldLink RX2 18 "JumpBoard$Position" "kings" "I", Cond.fieldLink RX2 21 "JumpBoard$Position" "mover" "I", Cond.fieldLink RX2 24 "JumpBoard$Position" "kingSteps" "I", Cond.methodLink RX4 63 yX2_place, Cond.instanceMethod yX2_place]
def wsX4_put_r2 : List Cond := [Cond.selects RX2 yX2_place yX2_place, Cond.code yX2_place cX2_place 3 none]
def wsX4_put : List Cond := .code yX4_put cX4_put 4 (some .boolean) :: ((wsX4_put_r1 ++ wsX4_put_r2) ++ wsX40 ++ wsX20)
def wsX4_turn : List Cond := .code yX4_turn cX4_turn 2 (some .boolean) :: ([.fieldLink RX4 22 "JumpBoard" "line" "[LJumpBoard$Position;", .fieldLink RX4 67 "JumpBoard$Position" "mover" "I", .methodLink RX4 60 yX4_forgetGame, .instanceMethod yX4_forgetGame, .selects RX4 yX4_forgetGame yX4_forgetGame, .initialized RX4, .code yX4_forgetGame cX4_forgetGame 1 none, .fieldLink RX4 26 "JumpBoard" "latest" "I", .fieldLink RX4 114 "JumpBoard$Position" "kingSteps" "I", .methodLink RX4 136 yX2_copy, .instanceMethod yX2_copy, .selects RX2 yX2_copy yX2_copy, .initialized RX2, .code yX2_copy cX2_copy 2 none, .fieldLink RX2 9 "JumpBoard$Position" "white" "I", .fieldLink RX2 15 "JumpBoard$Position" "black" "I", .fieldLink RX2 18 "JumpBoard$Position" "kings" "I", .fieldLink RX2 21 "JumpBoard$Position" "mover" "I", .fieldLink RX2 24 "JumpBoard$Position" "kingSteps" "I"] ++ wsX40 ++ wsX20)
def wsX4_at : List Cond := .code yX4_at cX4_at 2 (some .int) :: ([.fieldLink RX4 22 "JumpBoard" "line" "[LJumpBoard$Position;", .fieldLink RX4 26 "JumpBoard" "latest" "I", .methodLink RX4 55 yX4_isSquare, .static yX4_isSquare, .initialized RX4, .code yX4_isSquare cX4_isSquare 1 (some .boolean), .methodLink RX4 70 yX2_pieceOn, .instanceMethod yX2_pieceOn, .selects RX2 yX2_pieceOn yX2_pieceOn, .initialized RX2, .code yX2_pieceOn cX2_pieceOn 3 (some .int), .fieldLink RX2 18 "JumpBoard$Position" "kings" "I", .fieldLink RX2 9 "JumpBoard$Position" "white" "I", .fieldLink RX2 15 "JumpBoard$Position" "black" "I"] ++ wsX40 ++ wsX20)
def wsX4_side : List Cond := .code yX4_side cX4_side 1 (some .int) :: ([.fieldLink RX4 22 "JumpBoard" "line" "[LJumpBoard$Position;", .fieldLink RX4 26 "JumpBoard" "latest" "I", .fieldLink RX4 67 "JumpBoard$Position" "mover" "I"] ++ wsX40 ++ wsX20)
def wsX4_moves_r1 : List Cond := [Cond.fieldLink RX4 10 "JumpBoard" "rules" "LJumpBoard$Rules;", Cond.fieldLink RX4 22 "JumpBoard" "line" "[LJumpBoard$Position;", Cond.fieldLink RX4 26 "JumpBoard" "latest" "I", Cond.fieldLink RX4 33 "JumpBoard" "list" "LJumpBoard$MoveList;", Cond.fieldLink RX4 78 "JumpBoard$MoveList" "count" "I", Cond.methodLink RX4 74 yX3_listMoves, Cond.instanceMethod yX3_listMoves, Cond.selects RX3 yX3_listMoves yX3_listMoves, Cond.initialized RX3, Cond.code yX3_listMoves cX3_listMoves 5 none, Cond.fieldLink RX3 32 "JumpBoard$MoveList" "count" "I", Cond.methodLink RX3 37 yX2_own, Cond.instanceMethod yX2_own, Cond.selects RX2 yX2_own yX2_own, Cond.initialized RX2, Cond.code yX2_own cX2_own 1 (some .int), Cond.fieldLink RX2 21 "JumpBoard$Position" "mover" "I", Cond.fieldLink RX2 9 "JumpBoard$Position" "white" "I", Cond.fieldLink RX2 15 "JumpBoard$Position" "black" "I", Cond.methodLink RX3 41 yX3_leapOn, Cond.instanceMethod yX3_leapOn, Cond.selects RX3 yX3_leapOn yX3_leapOn, Cond.code yX3_leapOn cX3_leapOn 14 none, Cond.fieldLink RX3 49 "JumpBoard$Position" "white" "I"]
def wsX4_moves_r2 : List Cond := [Cond.fieldLink RX3 52 "JumpBoard$Position" "black" "I", Cond.fieldLink RX3 9 "JumpBoard$Rules" "near" "[I", Cond.fieldLink RX3 15 "JumpBoard$Rules" "behind" "[I", Cond.methodLink RX3 66 yX2_others, Cond.instanceMethod yX2_others, Cond.selects RX2 yX2_others yX2_others, Cond.code yX2_others cX2_others 1 (some .int), Cond.methodLink RX3 55 yX3_lastDirection, Cond.static yX3_lastDirection, Cond.code yX3_lastDirection cX3_lastDirection 2 (some .int), Cond.fieldLink RX3 28 "JumpBoard$Position" "mover" "I", Cond.methodLink RX3 22 yX2_isKing, Cond.instanceMethod yX2_isKing, Cond.selects RX2 yX2_isKing yX2_isKing, Cond.code yX2_isKing cX2_isKing 2 (some .boolean), Cond.fieldLink RX2 18 "JumpBoard$Position" "kings" "I", Cond.methodLink RX3 59 yX3_firstDirection, Cond.static yX3_firstDirection, Cond.code yX3_firstDirection cX3_firstDirection 2 (some .int), Cond.methodLink RX3 62 yX1_enter, Cond.instanceMethod yX1_enter, Cond.selects RX1 yX1_enter yX1_enter, Cond.initialized RX1, Cond.code yX1_enter cX1_enter 8 none]
def wsX4_moves_r3 : List Cond := [Cond.fieldLink RX1 16 "JumpBoard$MoveList" "count" "I", Cond.fieldLink RX1 11 "JumpBoard$MoveList" "packed" "[I", Cond.methodLink RX3 45 yX3_listSteps, Cond.instanceMethod yX3_listSteps, Cond.selects RX3 yX3_listSteps yX3_listSteps, Cond.code yX3_listSteps cX3_listSteps 8 none]
def wsX4_moves : List Cond := .code yX4_moves cX4_moves 1 (some .int) :: ((wsX4_moves_r1 ++ (wsX4_moves_r2 ++ wsX4_moves_r3)) ++ wsX40 ++ wsX10 ++ wsX20 ++ wsX30)
def wsX4_move_r1 : List Cond := [Cond.fieldLink RX4 33 "JumpBoard" "list" "LJumpBoard$MoveList;", Cond.fieldLink RX4 85 "JumpBoard$MoveList" "packed" "[I", Cond.methodLink RX4 81 yX4_moves, Cond.instanceMethod yX4_moves, Cond.selects RX4 yX4_moves yX4_moves, Cond.initialized RX4, Cond.code yX4_moves cX4_moves 1 (some .int), Cond.fieldLink RX4 10 "JumpBoard" "rules" "LJumpBoard$Rules;", Cond.fieldLink RX4 22 "JumpBoard" "line" "[LJumpBoard$Position;", Cond.fieldLink RX4 26 "JumpBoard" "latest" "I", Cond.fieldLink RX4 78 "JumpBoard$MoveList" "count" "I", Cond.methodLink RX4 74 yX3_listMoves, Cond.instanceMethod yX3_listMoves, Cond.selects RX3 yX3_listMoves yX3_listMoves, Cond.initialized RX3, Cond.code yX3_listMoves cX3_listMoves 5 none, Cond.fieldLink RX3 32 "JumpBoard$MoveList" "count" "I", Cond.methodLink RX3 37 yX2_own, Cond.instanceMethod yX2_own, Cond.selects RX2 yX2_own yX2_own, Cond.initialized RX2, Cond.code yX2_own cX2_own 1 (some .int), Cond.fieldLink RX2 21 "JumpBoard$Position" "mover" "I", Cond.fieldLink RX2 9 "JumpBoard$Position" "white" "I"]
def wsX4_move_r2 : List Cond := [Cond.fieldLink RX2 15 "JumpBoard$Position" "black" "I", Cond.methodLink RX3 41 yX3_leapOn, Cond.instanceMethod yX3_leapOn, Cond.selects RX3 yX3_leapOn yX3_leapOn, Cond.code yX3_leapOn cX3_leapOn 14 none, Cond.fieldLink RX3 49 "JumpBoard$Position" "white" "I", Cond.fieldLink RX3 52 "JumpBoard$Position" "black" "I", Cond.fieldLink RX3 9 "JumpBoard$Rules" "near" "[I", Cond.fieldLink RX3 15 "JumpBoard$Rules" "behind" "[I", Cond.methodLink RX3 66 yX2_others, Cond.instanceMethod yX2_others, Cond.selects RX2 yX2_others yX2_others, Cond.code yX2_others cX2_others 1 (some .int), Cond.methodLink RX3 55 yX3_lastDirection, Cond.static yX3_lastDirection, Cond.code yX3_lastDirection cX3_lastDirection 2 (some .int), Cond.fieldLink RX3 28 "JumpBoard$Position" "mover" "I", Cond.methodLink RX3 22 yX2_isKing, Cond.instanceMethod yX2_isKing, Cond.selects RX2 yX2_isKing yX2_isKing, Cond.code yX2_isKing cX2_isKing 2 (some .boolean), Cond.fieldLink RX2 18 "JumpBoard$Position" "kings" "I", Cond.methodLink RX3 59 yX3_firstDirection, Cond.static yX3_firstDirection]
def wsX4_move_r3 : List Cond := [Cond.code yX3_firstDirection cX3_firstDirection 2 (some .int), Cond.methodLink RX3 62 yX1_enter, Cond.instanceMethod yX1_enter, Cond.selects RX1 yX1_enter yX1_enter, Cond.initialized RX1, Cond.code yX1_enter cX1_enter 8 none, Cond.fieldLink RX1 16 "JumpBoard$MoveList" "count" "I", Cond.fieldLink RX1 11 "JumpBoard$MoveList" "packed" "[I", Cond.methodLink RX3 45 yX3_listSteps, Cond.instanceMethod yX3_listSteps, Cond.selects RX3 yX3_listSteps yX3_listSteps, Cond.code yX3_listSteps cX3_listSteps 8 none, Cond.methodLink RX4 89 yX1_beginning, Cond.static yX1_beginning, Cond.code yX1_beginning cX1_beginning 1 (some .int), Cond.methodLink RX4 92 yX1_end, Cond.static yX1_end, Cond.code yX1_end cX1_end 1 (some .int), Cond.methodLink RX4 95 yX1_taken, Cond.static yX1_taken, Cond.code yX1_taken cX1_taken 1 (some .int), Cond.constant RX1 15 (262143)]
def wsX4_move : List Cond := .code yX4_move cX4_move 4 (some .int) :: ((wsX4_move_r1 ++ (wsX4_move_r2 ++ wsX4_move_r3)) ++ wsX40 ++ wsX10 ++ wsX20 ++ wsX30)
def wsX4_over_r1 : List Cond := [Cond.fieldLink RX4 22 "JumpBoard" "line" "[LJumpBoard$Position;", Cond.fieldLink RX4 26 "JumpBoard" "latest" "I", Cond.fieldLink RX4 10 "JumpBoard" "rules" "LJumpBoard$Rules;", Cond.fieldLink RX4 67 "JumpBoard$Position" "mover" "I", Cond.fieldLink RX4 114 "JumpBoard$Position" "kingSteps" "I", Cond.methodLink RX4 110 yX3_canMove, Cond.instanceMethod yX3_canMove, Cond.selects RX3 yX3_canMove yX3_canMove, Cond.initialized RX3, Cond.code yX3_canMove cX3_canMove 4 (some .boolean), Cond.methodLink RX3 37 yX2_own, Cond.instanceMethod yX2_own, Cond.selects RX2 yX2_own yX2_own, Cond.initialized RX2, Cond.code yX2_own cX2_own 1 (some .int), Cond.fieldLink RX2 21 "JumpBoard$Position" "mover" "I", Cond.fieldLink RX2 9 "JumpBoard$Position" "white" "I", Cond.fieldLink RX2 15 "JumpBoard$Position" "black" "I", Cond.methodLink RX3 69 yX3_canLeave, Cond.instanceMethod yX3_canLeave, Cond.selects RX3 yX3_canLeave yX3_canLeave, Cond.code yX3_canLeave cX3_canLeave 8 (some .boolean), Cond.fieldLink RX3 49 "JumpBoard$Position" "white" "I", Cond.fieldLink RX3 52 "JumpBoard$Position" "black" "I"]
def wsX4_over_r2 : List Cond := [Cond.fieldLink RX3 9 "JumpBoard$Rules" "near" "[I", Cond.fieldLink RX3 15 "JumpBoard$Rules" "behind" "[I", Cond.methodLink RX3 66 yX2_others, Cond.instanceMethod yX2_others, Cond.selects RX2 yX2_others yX2_others, Cond.code yX2_others cX2_others 1 (some .int), Cond.methodLink RX3 55 yX3_lastDirection, Cond.static yX3_lastDirection, Cond.code yX3_lastDirection cX3_lastDirection 2 (some .int), Cond.fieldLink RX3 28 "JumpBoard$Position" "mover" "I", Cond.methodLink RX3 22 yX2_isKing, Cond.instanceMethod yX2_isKing, Cond.selects RX2 yX2_isKing yX2_isKing, Cond.code yX2_isKing cX2_isKing 2 (some .boolean), Cond.fieldLink RX2 18 "JumpBoard$Position" "kings" "I", Cond.methodLink RX3 59 yX3_firstDirection, Cond.static yX3_firstDirection, Cond.code yX3_firstDirection cX3_firstDirection 2 (some .int)]
def wsX4_over : List Cond := .code yX4_over cX4_over 2 (some .int) :: ((wsX4_over_r1 ++ wsX4_over_r2) ++ wsX40 ++ wsX20 ++ wsX30)
def wsX4_play_r1 : List Cond := [Cond.fieldLink RX4 26 "JumpBoard" "latest" "I", Cond.fieldLink RX4 33 "JumpBoard" "list" "LJumpBoard$MoveList;", Cond.fieldLink RX4 85 "JumpBoard$MoveList" "packed" "[I", Cond.fieldLink RX4 22 "JumpBoard" "line" "[LJumpBoard$Position;", Cond.methodLink RX4 98 yX4_over, Cond.instanceMethod yX4_over, Cond.selects RX4 yX4_over yX4_over, Cond.initialized RX4, Cond.code yX4_over cX4_over 2 (some .int), Cond.fieldLink RX4 10 "JumpBoard" "rules" "LJumpBoard$Rules;", Cond.fieldLink RX4 67 "JumpBoard$Position" "mover" "I", Cond.fieldLink RX4 114 "JumpBoard$Position" "kingSteps" "I", Cond.methodLink RX4 110 yX3_canMove, Cond.instanceMethod yX3_canMove, Cond.selects RX3 yX3_canMove yX3_canMove, Cond.initialized RX3, Cond.code yX3_canMove cX3_canMove 4 (some .boolean), Cond.methodLink RX3 37 yX2_own, Cond.instanceMethod yX2_own, Cond.selects RX2 yX2_own yX2_own, Cond.initialized RX2, Cond.code yX2_own cX2_own 1 (some .int), Cond.fieldLink RX2 21 "JumpBoard$Position" "mover" "I", Cond.fieldLink RX2 9 "JumpBoard$Position" "white" "I"]
def wsX4_play_r2 : List Cond := [Cond.fieldLink RX2 15 "JumpBoard$Position" "black" "I", Cond.methodLink RX3 69 yX3_canLeave, Cond.instanceMethod yX3_canLeave, Cond.selects RX3 yX3_canLeave yX3_canLeave, Cond.code yX3_canLeave cX3_canLeave 8 (some .boolean), Cond.fieldLink RX3 49 "JumpBoard$Position" "white" "I", Cond.fieldLink RX3 52 "JumpBoard$Position" "black" "I", Cond.fieldLink RX3 9 "JumpBoard$Rules" "near" "[I", Cond.fieldLink RX3 15 "JumpBoard$Rules" "behind" "[I", Cond.methodLink RX3 66 yX2_others, Cond.instanceMethod yX2_others, Cond.selects RX2 yX2_others yX2_others, Cond.code yX2_others cX2_others 1 (some .int), Cond.methodLink RX3 55 yX3_lastDirection, Cond.static yX3_lastDirection, Cond.code yX3_lastDirection cX3_lastDirection 2 (some .int), Cond.fieldLink RX3 28 "JumpBoard$Position" "mover" "I", Cond.methodLink RX3 22 yX2_isKing, Cond.instanceMethod yX2_isKing, Cond.selects RX2 yX2_isKing yX2_isKing, Cond.code yX2_isKing cX2_isKing 2 (some .boolean), Cond.fieldLink RX2 18 "JumpBoard$Position" "kings" "I", Cond.methodLink RX3 59 yX3_firstDirection, Cond.static yX3_firstDirection]
def wsX4_play_r3 : List Cond := [Cond.code yX3_firstDirection cX3_firstDirection 2 (some .int), Cond.methodLink RX4 81 yX4_moves, Cond.instanceMethod yX4_moves, Cond.selects RX4 yX4_moves yX4_moves, Cond.code yX4_moves cX4_moves 1 (some .int), Cond.fieldLink RX4 78 "JumpBoard$MoveList" "count" "I", Cond.methodLink RX4 74 yX3_listMoves, Cond.instanceMethod yX3_listMoves, Cond.selects RX3 yX3_listMoves yX3_listMoves, Cond.code yX3_listMoves cX3_listMoves 5 none, Cond.fieldLink RX3 32 "JumpBoard$MoveList" "count" "I", Cond.methodLink RX3 41 yX3_leapOn, Cond.instanceMethod yX3_leapOn, Cond.selects RX3 yX3_leapOn yX3_leapOn, Cond.code yX3_leapOn cX3_leapOn 14 none, Cond.methodLink RX3 62 yX1_enter, Cond.instanceMethod yX1_enter, Cond.selects RX1 yX1_enter yX1_enter, Cond.initialized RX1, Cond.code yX1_enter cX1_enter 8 none, Cond.fieldLink RX1 16 "JumpBoard$MoveList" "count" "I", Cond.fieldLink RX1 11 "JumpBoard$MoveList" "packed" "[I", Cond.methodLink RX3 45 yX3_listSteps, Cond.instanceMethod yX3_listSteps]
def wsX4_play_r4 : List Cond := [Cond.selects RX3 yX3_listSteps yX3_listSteps, Cond.code yX3_listSteps cX3_listSteps 8 none, Cond.methodLink RX4 101 yX2_follow, Cond.instanceMethod yX2_follow, Cond.selects RX2 yX2_follow yX2_follow, Cond.code yX2_follow cX2_follow 9 none, Cond.constant RX2 48 (229376), Cond.fieldLink RX2 24 "JumpBoard$Position" "kingSteps" "I", Cond.methodLink RX2 37 yX1_beginning, Cond.static yX1_beginning, Cond.code yX1_beginning cX1_beginning 1 (some .int), Cond.methodLink RX2 42 yX1_end, Cond.static yX1_end, Cond.code yX1_end cX1_end 1 (some .int), Cond.methodLink RX2 45 yX1_taken, Cond.static yX1_taken, Cond.code yX1_taken cX1_taken 1 (some .int), Cond.constant RX1 15 (262143), Cond.methodLink RX4 95 yX1_taken, Cond.methodLink RX4 105 yJ6_bitCount_0f7a4, Cond.static yJ6_bitCount_0f7a4, Cond.initialized RJ6, Cond.code yJ6_bitCount_0f7a4 cJ6_bitCount_0f7a4 1 (some .int), Cond.constant RJ6 265 (1431655765)]
def wsX4_play_r5 : List Cond := [Cond.constant RJ6 266 (858993459), Cond.constant RJ6 267 (252645135)]
def wsX4_play : List Cond := .code yX4_play cX4_play 3 (some .int) :: ((wsX4_play_r1 ++ (wsX4_play_r2 ++ (wsX4_play_r3 ++ (wsX4_play_r4 ++ wsX4_play_r5)))) ++ wsX40 ++ wsX10 ++ wsX20 ++ wsX30)
def wsX4_undo : List Cond := .code yX4_undo cX4_undo 1 (some .boolean) :: ([.fieldLink RX4 26 "JumpBoard" "latest" "I"] ++ wsX40)
def wsX4_played : List Cond := .code yX4_played cX4_played 1 (some .int) :: ([.fieldLink RX4 26 "JumpBoard" "latest" "I"] ++ wsX40)
def wsX4_quiet : List Cond := .code yX4_quiet cX4_quiet 1 (some .int) :: ([.fieldLink RX4 22 "JumpBoard" "line" "[LJumpBoard$Position;", .fieldLink RX4 26 "JumpBoard" "latest" "I", .fieldLink RX4 114 "JumpBoard$Position" "kingSteps" "I"] ++ wsX40 ++ wsX20)
def wsX4_isDepth : List Cond := .code yX4_isDepth cX4_isDepth 1 (some .boolean) :: ([])
def wsX4_countWays_r1 : List Cond := [Cond.fieldLink RX4 42 "JumpBoard" "lists" "[LJumpBoard$MoveList;", Cond.fieldLink RX4 10 "JumpBoard" "rules" "LJumpBoard$Rules;", Cond.fieldLink RX4 78 "JumpBoard$MoveList" "count" "I", Cond.fieldLink RX4 46 "JumpBoard" "spots" "[LJumpBoard$Position;", Cond.fieldLink RX4 85 "JumpBoard$MoveList" "packed" "[I", Cond.methodLink RX4 74 yX3_listMoves, Cond.instanceMethod yX3_listMoves, Cond.selects RX3 yX3_listMoves yX3_listMoves, Cond.initialized RX3, Cond.code yX3_listMoves cX3_listMoves 5 none, Cond.fieldLink RX3 32 "JumpBoard$MoveList" "count" "I", Cond.methodLink RX3 37 yX2_own, Cond.instanceMethod yX2_own, Cond.selects RX2 yX2_own yX2_own, Cond.initialized RX2, Cond.code yX2_own cX2_own 1 (some .int), Cond.fieldLink RX2 21 "JumpBoard$Position" "mover" "I", Cond.fieldLink RX2 9 "JumpBoard$Position" "white" "I", Cond.fieldLink RX2 15 "JumpBoard$Position" "black" "I", Cond.methodLink RX3 41 yX3_leapOn, Cond.instanceMethod yX3_leapOn, Cond.selects RX3 yX3_leapOn yX3_leapOn, Cond.code yX3_leapOn cX3_leapOn 14 none, Cond.fieldLink RX3 49 "JumpBoard$Position" "white" "I"]
def wsX4_countWays_r2 : List Cond := [Cond.fieldLink RX3 52 "JumpBoard$Position" "black" "I", Cond.fieldLink RX3 9 "JumpBoard$Rules" "near" "[I", Cond.fieldLink RX3 15 "JumpBoard$Rules" "behind" "[I", Cond.methodLink RX3 66 yX2_others, Cond.instanceMethod yX2_others, Cond.selects RX2 yX2_others yX2_others, Cond.code yX2_others cX2_others 1 (some .int), Cond.methodLink RX3 55 yX3_lastDirection, Cond.static yX3_lastDirection, Cond.code yX3_lastDirection cX3_lastDirection 2 (some .int), Cond.fieldLink RX3 28 "JumpBoard$Position" "mover" "I", Cond.methodLink RX3 22 yX2_isKing, Cond.instanceMethod yX2_isKing, Cond.selects RX2 yX2_isKing yX2_isKing, Cond.code yX2_isKing cX2_isKing 2 (some .boolean), Cond.fieldLink RX2 18 "JumpBoard$Position" "kings" "I", Cond.methodLink RX3 59 yX3_firstDirection, Cond.static yX3_firstDirection, Cond.code yX3_firstDirection cX3_firstDirection 2 (some .int), Cond.methodLink RX3 62 yX1_enter, Cond.instanceMethod yX1_enter, Cond.selects RX1 yX1_enter yX1_enter, Cond.initialized RX1, Cond.code yX1_enter cX1_enter 8 none]
def wsX4_countWays_r3 : List Cond := [Cond.fieldLink RX1 16 "JumpBoard$MoveList" "count" "I", Cond.fieldLink RX1 11 "JumpBoard$MoveList" "packed" "[I", Cond.methodLink RX3 45 yX3_listSteps, Cond.instanceMethod yX3_listSteps, Cond.selects RX3 yX3_listSteps yX3_listSteps, Cond.code yX3_listSteps cX3_listSteps 8 none, Cond.methodLink RX4 101 yX2_follow, Cond.instanceMethod yX2_follow, Cond.selects RX2 yX2_follow yX2_follow, Cond.code yX2_follow cX2_follow 9 none, Cond.constant RX2 48 (229376), Cond.fieldLink RX2 24 "JumpBoard$Position" "kingSteps" "I", Cond.methodLink RX2 37 yX1_beginning, Cond.static yX1_beginning, Cond.code yX1_beginning cX1_beginning 1 (some .int), Cond.methodLink RX2 42 yX1_end, Cond.static yX1_end, Cond.code yX1_end cX1_end 1 (some .int), Cond.methodLink RX2 45 yX1_taken, Cond.static yX1_taken, Cond.code yX1_taken cX1_taken 1 (some .int), Cond.constant RX1 15 (262143), Cond.methodLink RX4 120 yX4_countWays, Cond.instanceMethod yX4_countWays]
def wsX4_countWays_r4 : List Cond := [Cond.selects RX4 yX4_countWays yX4_countWays, Cond.initialized RX4]
def wsX4_countWays : List Cond := .code yX4_countWays cX4_countWays 7 (some .int) :: ((wsX4_countWays_r1 ++ (wsX4_countWays_r2 ++ (wsX4_countWays_r3 ++ wsX4_countWays_r4))) ++ wsX40 ++ wsX10 ++ wsX20 ++ wsX30)
def wsX4_ways_r1 : List Cond := [Cond.fieldLink RX4 22 "JumpBoard" "line" "[LJumpBoard$Position;", Cond.fieldLink RX4 26 "JumpBoard" "latest" "I", Cond.methodLink RX4 117 yX4_isDepth, Cond.static yX4_isDepth, Cond.initialized RX4, Cond.code yX4_isDepth cX4_isDepth 1 (some .boolean), Cond.methodLink RX4 120 yX4_countWays, Cond.instanceMethod yX4_countWays, Cond.selects RX4 yX4_countWays yX4_countWays, Cond.code yX4_countWays cX4_countWays 7 (some .int), Cond.fieldLink RX4 42 "JumpBoard" "lists" "[LJumpBoard$MoveList;", Cond.fieldLink RX4 10 "JumpBoard" "rules" "LJumpBoard$Rules;", Cond.fieldLink RX4 78 "JumpBoard$MoveList" "count" "I", Cond.fieldLink RX4 46 "JumpBoard" "spots" "[LJumpBoard$Position;", Cond.fieldLink RX4 85 "JumpBoard$MoveList" "packed" "[I", Cond.methodLink RX4 74 yX3_listMoves, Cond.instanceMethod yX3_listMoves, Cond.selects RX3 yX3_listMoves yX3_listMoves, Cond.initialized RX3, Cond.code yX3_listMoves cX3_listMoves 5 none, Cond.fieldLink RX3 32 "JumpBoard$MoveList" "count" "I", Cond.methodLink RX3 37 yX2_own, Cond.instanceMethod yX2_own, Cond.selects RX2 yX2_own yX2_own]
def wsX4_ways_r2 : List Cond := [Cond.initialized RX2, Cond.code yX2_own cX2_own 1 (some .int), Cond.fieldLink RX2 21 "JumpBoard$Position" "mover" "I", Cond.fieldLink RX2 9 "JumpBoard$Position" "white" "I", Cond.fieldLink RX2 15 "JumpBoard$Position" "black" "I", Cond.methodLink RX3 41 yX3_leapOn, Cond.instanceMethod yX3_leapOn, Cond.selects RX3 yX3_leapOn yX3_leapOn, Cond.code yX3_leapOn cX3_leapOn 14 none, Cond.fieldLink RX3 49 "JumpBoard$Position" "white" "I", Cond.fieldLink RX3 52 "JumpBoard$Position" "black" "I", Cond.fieldLink RX3 9 "JumpBoard$Rules" "near" "[I", Cond.fieldLink RX3 15 "JumpBoard$Rules" "behind" "[I", Cond.methodLink RX3 66 yX2_others, Cond.instanceMethod yX2_others, Cond.selects RX2 yX2_others yX2_others, Cond.code yX2_others cX2_others 1 (some .int), Cond.methodLink RX3 55 yX3_lastDirection, Cond.static yX3_lastDirection, Cond.code yX3_lastDirection cX3_lastDirection 2 (some .int), Cond.fieldLink RX3 28 "JumpBoard$Position" "mover" "I", Cond.methodLink RX3 22 yX2_isKing, Cond.instanceMethod yX2_isKing, Cond.selects RX2 yX2_isKing yX2_isKing]
def wsX4_ways_r3 : List Cond := [Cond.code yX2_isKing cX2_isKing 2 (some .boolean), Cond.fieldLink RX2 18 "JumpBoard$Position" "kings" "I", Cond.methodLink RX3 59 yX3_firstDirection, Cond.static yX3_firstDirection, Cond.code yX3_firstDirection cX3_firstDirection 2 (some .int), Cond.methodLink RX3 62 yX1_enter, Cond.instanceMethod yX1_enter, Cond.selects RX1 yX1_enter yX1_enter, Cond.initialized RX1, Cond.code yX1_enter cX1_enter 8 none, Cond.fieldLink RX1 16 "JumpBoard$MoveList" "count" "I", Cond.fieldLink RX1 11 "JumpBoard$MoveList" "packed" "[I", Cond.methodLink RX3 45 yX3_listSteps, Cond.instanceMethod yX3_listSteps, Cond.selects RX3 yX3_listSteps yX3_listSteps, Cond.code yX3_listSteps cX3_listSteps 8 none, Cond.methodLink RX4 101 yX2_follow, Cond.instanceMethod yX2_follow, Cond.selects RX2 yX2_follow yX2_follow, Cond.code yX2_follow cX2_follow 9 none, Cond.constant RX2 48 (229376), Cond.fieldLink RX2 24 "JumpBoard$Position" "kingSteps" "I", Cond.methodLink RX2 37 yX1_beginning, Cond.static yX1_beginning]
def wsX4_ways_r4 : List Cond := [Cond.code yX1_beginning cX1_beginning 1 (some .int), Cond.methodLink RX2 42 yX1_end, Cond.static yX1_end, Cond.code yX1_end cX1_end 1 (some .int), Cond.methodLink RX2 45 yX1_taken, Cond.static yX1_taken, Cond.code yX1_taken cX1_taken 1 (some .int), Cond.constant RX1 15 (262143)]
def wsX4_ways : List Cond := .code yX4_ways cX4_ways 2 (some .int) :: ((wsX4_ways_r1 ++ (wsX4_ways_r2 ++ (wsX4_ways_r3 ++ wsX4_ways_r4))) ++ wsX40 ++ wsX10 ++ wsX20 ++ wsX30)
def wsX4_judge_r1 : List Cond := [Cond.fieldLink RX4 16 "JumpBoard" "endings" "LJumpBoard$Endings;", Cond.classLink RX4 152 RX0, Cond.instantiable RX0 3, Cond.initialized RX0, Cond.fieldLink RX4 10 "JumpBoard" "rules" "LJumpBoard$Rules;", Cond.methodLink RX4 154 yX0_init, Cond.instanceMethod yX0_init, Cond.code yX0_init cX0_init 6 none, Cond.methodLink RX0 5 objectInit, Cond.instanceMethod objectInit, Cond.code objectInit ⟨#[0xb1]⟩ 1 none, Cond.arrayClass .byte, Cond.fieldLink RX0 11 "JumpBoard$Endings" "verdicts" "[B", Cond.fieldLink RX0 15 "JumpBoard$Endings" "counts" "[B", Cond.arrayClass .short, Cond.fieldLink RX0 18 "JumpBoard$Endings" "nexts" "[S", Cond.classLink RX0 22 RX1, Cond.instantiable RX1 2, Cond.initialized RX1, Cond.classLink RX0 25 RX2, Cond.instantiable RX2 5, Cond.initialized RX2, Cond.instanceMethod yX1_init, Cond.code yX1_init cX1_init 1 none]
def wsX4_judge_r2 : List Cond := [Cond.methodLink RX1 3 objectInit, Cond.arrayClass .int, Cond.fieldLink RX1 11 "JumpBoard$MoveList" "packed" "[I", Cond.instanceMethod yX2_init, Cond.code yX2_init cX2_init 1 none, Cond.methodLink RX2 3 objectInit, Cond.methodLink RX0 28 yX0_arrange, Cond.static yX0_arrange, Cond.code yX0_arrange cX0_arrange 10 (some .boolean), Cond.constant RX0 49 (229376), Cond.methodLink RX0 50 yX2_wipe, Cond.instanceMethod yX2_wipe, Cond.selects RX2 yX2_wipe yX2_wipe, Cond.code yX2_wipe cX2_wipe 1 none, Cond.fieldLink RX2 9 "JumpBoard$Position" "white" "I", Cond.fieldLink RX2 15 "JumpBoard$Position" "black" "I", Cond.fieldLink RX2 18 "JumpBoard$Position" "kings" "I", Cond.fieldLink RX2 21 "JumpBoard$Position" "mover" "I", Cond.fieldLink RX2 24 "JumpBoard$Position" "kingSteps" "I", Cond.methodLink RX0 53 yX2_place, Cond.instanceMethod yX2_place, Cond.selects RX2 yX2_place yX2_place, Cond.code yX2_place cX2_place 3 none, Cond.methodLink RX0 32 yX3_listMoves]
def wsX4_judge_r3 : List Cond := [Cond.instanceMethod yX3_listMoves, Cond.selects RX3 yX3_listMoves yX3_listMoves, Cond.initialized RX3, Cond.code yX3_listMoves cX3_listMoves 5 none, Cond.fieldLink RX3 32 "JumpBoard$MoveList" "count" "I", Cond.methodLink RX3 37 yX2_own, Cond.instanceMethod yX2_own, Cond.selects RX2 yX2_own yX2_own, Cond.code yX2_own cX2_own 1 (some .int), Cond.methodLink RX3 41 yX3_leapOn, Cond.instanceMethod yX3_leapOn, Cond.selects RX3 yX3_leapOn yX3_leapOn, Cond.code yX3_leapOn cX3_leapOn 14 none, Cond.fieldLink RX3 49 "JumpBoard$Position" "white" "I", Cond.fieldLink RX3 52 "JumpBoard$Position" "black" "I", Cond.fieldLink RX3 9 "JumpBoard$Rules" "near" "[I", Cond.fieldLink RX3 15 "JumpBoard$Rules" "behind" "[I", Cond.methodLink RX3 66 yX2_others, Cond.instanceMethod yX2_others, Cond.selects RX2 yX2_others yX2_others, Cond.code yX2_others cX2_others 1 (some .int), Cond.methodLink RX3 55 yX3_lastDirection, Cond.static yX3_lastDirection, Cond.code yX3_lastDirection cX3_lastDirection 2 (some .int)]
def wsX4_judge_r4 : List Cond := [Cond.fieldLink RX3 28 "JumpBoard$Position" "mover" "I", Cond.methodLink RX3 22 yX2_isKing, Cond.instanceMethod yX2_isKing, Cond.selects RX2 yX2_isKing yX2_isKing, Cond.code yX2_isKing cX2_isKing 2 (some .boolean), Cond.methodLink RX3 59 yX3_firstDirection, Cond.static yX3_firstDirection, Cond.code yX3_firstDirection cX3_firstDirection 2 (some .int), Cond.methodLink RX3 62 yX1_enter, Cond.instanceMethod yX1_enter, Cond.selects RX1 yX1_enter yX1_enter, Cond.code yX1_enter cX1_enter 8 none, Cond.fieldLink RX1 16 "JumpBoard$MoveList" "count" "I", Cond.methodLink RX3 45 yX3_listSteps, Cond.instanceMethod yX3_listSteps, Cond.selects RX3 yX3_listSteps yX3_listSteps, Cond.code yX3_listSteps cX3_listSteps 8 none, Cond.methodLink RX0 38 yX0_note, Cond.instanceMethod yX0_note, Cond.selects RX0 yX0_note yX0_note, Cond.code yX0_note cX0_note 7 none, Cond.fieldLink RX0 82 "JumpBoard$MoveList" "count" "I", Cond.methodLink RX0 85 Lib.Math.min.name, Cond.static Lib.Math.min.name]
def wsX4_judge_r5 : List Cond := [Cond.initialized "java/lang/Math", Cond.code Lib.Math.min.name Lib.Math.min.code 2 (some .int), Cond.fieldLink RX0 91 "JumpBoard$MoveList" "packed" "[I", Cond.methodLink RX0 95 yX2_follow, Cond.instanceMethod yX2_follow, Cond.selects RX2 yX2_follow yX2_follow, Cond.code yX2_follow cX2_follow 9 none, Cond.constant RX2 48 (229376), Cond.methodLink RX2 37 yX1_beginning, Cond.static yX1_beginning, Cond.code yX1_beginning cX1_beginning 1 (some .int), Cond.methodLink RX2 42 yX1_end, Cond.static yX1_end, Cond.code yX1_end cX1_end 1 (some .int), Cond.methodLink RX2 45 yX1_taken, Cond.static yX1_taken, Cond.code yX1_taken cX1_taken 1 (some .int), Cond.constant RX1 15 (262143), Cond.methodLink RX0 45 yX0_number, Cond.static yX0_number, Cond.code yX0_number cX0_number 1 (some .int), Cond.methodLink RX0 57 yX2_own, Cond.methodLink RX0 61 yX0_kind, Cond.static yX0_kind]
def wsX4_judge_r6 : List Cond := [Cond.code yX0_kind cX0_kind 4 (some .int), Cond.fieldLink RX0 74 "JumpBoard$Position" "mover" "I", Cond.methodLink RX0 68 yJ6_numberOfTrailingZeros_0f7a4, Cond.static yJ6_numberOfTrailingZeros_0f7a4, Cond.initialized RJ6, Cond.code yJ6_numberOfTrailingZeros_0f7a4 cJ6_numberOfTrailingZeros_0f7a4 2 (some .int), Cond.constant RJ6 264 (65536), Cond.methodLink RX0 78 yX2_isKing, Cond.methodLink RX0 65 yX2_others, Cond.methodLink RX0 42 yX0_settle, Cond.instanceMethod yX0_settle, Cond.selects RX0 yX0_settle yX0_settle, Cond.code yX0_settle cX0_settle 3 none, Cond.methodLink RX0 99 yX0_findWins, Cond.instanceMethod yX0_findWins, Cond.selects RX0 yX0_findWins yX0_findWins, Cond.code yX0_findWins cX0_findWins 4 (some .boolean), Cond.methodLink RX0 105 yX0_leadsToLoss, Cond.instanceMethod yX0_leadsToLoss, Cond.selects RX0 yX0_leadsToLoss yX0_leadsToLoss, Cond.code yX0_leadsToLoss cX0_leadsToLoss 3 (some .boolean), Cond.methodLink RX0 102 yX0_findLosses, Cond.instanceMethod yX0_findLosses, Cond.selects RX0 yX0_findLosses yX0_findLosses]
def wsX4_judge_r7 : List Cond := [Cond.code yX0_findLosses cX0_findLosses 4 (some .boolean), Cond.methodLink RX0 108 yX0_leadsToWinsAlone, Cond.instanceMethod yX0_leadsToWinsAlone, Cond.selects RX0 yX0_leadsToWinsAlone yX0_leadsToWinsAlone, Cond.code yX0_leadsToWinsAlone cX0_leadsToWinsAlone 3 (some .boolean), Cond.methodLink RX4 157 yX0_look, Cond.instanceMethod yX0_look, Cond.selects RX0 yX0_look yX0_look, Cond.code yX0_look cX0_look 2 (some .int)]
def wsX4_judge : List Cond := .code yX4_judge cX4_judge 2 (some .int) :: ((wsX4_judge_r1 ++ (wsX4_judge_r2 ++ (wsX4_judge_r3 ++ (wsX4_judge_r4 ++ (wsX4_judge_r5 ++ (wsX4_judge_r6 ++ wsX4_judge_r7)))))) ++ wsX40 ++ wsX00 ++ wsX10 ++ wsX20 ++ wsX30)
def wsX4_verdict_r1 : List Cond := [Cond.fieldLink RX4 22 "JumpBoard" "line" "[LJumpBoard$Position;", Cond.fieldLink RX4 26 "JumpBoard" "latest" "I", Cond.methodLink RX4 124 yX2_isOneEach, Cond.instanceMethod yX2_isOneEach, Cond.selects RX2 yX2_isOneEach yX2_isOneEach, Cond.initialized RX2, Cond.code yX2_isOneEach cX2_isOneEach 1 (some .boolean), Cond.fieldLink RX2 9 "JumpBoard$Position" "white" "I", Cond.fieldLink RX2 15 "JumpBoard$Position" "black" "I", Cond.methodLink RX2 31 yJ6_bitCount_0f7a4, Cond.static yJ6_bitCount_0f7a4, Cond.initialized RJ6, Cond.code yJ6_bitCount_0f7a4 cJ6_bitCount_0f7a4 1 (some .int), Cond.constant RJ6 265 (1431655765), Cond.constant RJ6 266 (858993459), Cond.constant RJ6 267 (252645135), Cond.methodLink RX4 128 yX4_judge, Cond.instanceMethod yX4_judge, Cond.selects RX4 yX4_judge yX4_judge, Cond.initialized RX4, Cond.code yX4_judge cX4_judge 2 (some .int), Cond.fieldLink RX4 16 "JumpBoard" "endings" "LJumpBoard$Endings;", Cond.classLink RX4 152 RX0, Cond.instantiable RX0 3]
def wsX4_verdict_r2 : List Cond := [Cond.initialized RX0, Cond.fieldLink RX4 10 "JumpBoard" "rules" "LJumpBoard$Rules;", Cond.methodLink RX4 154 yX0_init, Cond.instanceMethod yX0_init, Cond.code yX0_init cX0_init 6 none, Cond.methodLink RX0 5 objectInit, Cond.instanceMethod objectInit, Cond.code objectInit ⟨#[0xb1]⟩ 1 none, Cond.arrayClass .byte, Cond.fieldLink RX0 11 "JumpBoard$Endings" "verdicts" "[B", Cond.fieldLink RX0 15 "JumpBoard$Endings" "counts" "[B", Cond.arrayClass .short, Cond.fieldLink RX0 18 "JumpBoard$Endings" "nexts" "[S", Cond.classLink RX0 22 RX1, Cond.instantiable RX1 2, Cond.initialized RX1, Cond.classLink RX0 25 RX2, Cond.instantiable RX2 5, Cond.instanceMethod yX1_init, Cond.code yX1_init cX1_init 1 none, Cond.methodLink RX1 3 objectInit, Cond.arrayClass .int, Cond.fieldLink RX1 11 "JumpBoard$MoveList" "packed" "[I", Cond.instanceMethod yX2_init]
def wsX4_verdict_r3 : List Cond := [Cond.code yX2_init cX2_init 1 none, Cond.methodLink RX2 3 objectInit, Cond.methodLink RX0 28 yX0_arrange, Cond.static yX0_arrange, Cond.code yX0_arrange cX0_arrange 10 (some .boolean), Cond.constant RX0 49 (229376), Cond.methodLink RX0 50 yX2_wipe, Cond.instanceMethod yX2_wipe, Cond.selects RX2 yX2_wipe yX2_wipe, Cond.code yX2_wipe cX2_wipe 1 none, Cond.fieldLink RX2 18 "JumpBoard$Position" "kings" "I", Cond.fieldLink RX2 21 "JumpBoard$Position" "mover" "I", Cond.fieldLink RX2 24 "JumpBoard$Position" "kingSteps" "I", Cond.methodLink RX0 53 yX2_place, Cond.instanceMethod yX2_place, Cond.selects RX2 yX2_place yX2_place, Cond.code yX2_place cX2_place 3 none, Cond.methodLink RX0 32 yX3_listMoves, Cond.instanceMethod yX3_listMoves, Cond.selects RX3 yX3_listMoves yX3_listMoves, Cond.initialized RX3, Cond.code yX3_listMoves cX3_listMoves 5 none, Cond.fieldLink RX3 32 "JumpBoard$MoveList" "count" "I", Cond.methodLink RX3 37 yX2_own]
def wsX4_verdict_r4 : List Cond := [Cond.instanceMethod yX2_own, Cond.selects RX2 yX2_own yX2_own, Cond.code yX2_own cX2_own 1 (some .int), Cond.methodLink RX3 41 yX3_leapOn, Cond.instanceMethod yX3_leapOn, Cond.selects RX3 yX3_leapOn yX3_leapOn, Cond.code yX3_leapOn cX3_leapOn 14 none, Cond.fieldLink RX3 49 "JumpBoard$Position" "white" "I", Cond.fieldLink RX3 52 "JumpBoard$Position" "black" "I", Cond.fieldLink RX3 9 "JumpBoard$Rules" "near" "[I", Cond.fieldLink RX3 15 "JumpBoard$Rules" "behind" "[I", Cond.methodLink RX3 66 yX2_others, Cond.instanceMethod yX2_others, Cond.selects RX2 yX2_others yX2_others, Cond.code yX2_others cX2_others 1 (some .int), Cond.methodLink RX3 55 yX3_lastDirection, Cond.static yX3_lastDirection, Cond.code yX3_lastDirection cX3_lastDirection 2 (some .int), Cond.fieldLink RX3 28 "JumpBoard$Position" "mover" "I", Cond.methodLink RX3 22 yX2_isKing, Cond.instanceMethod yX2_isKing, Cond.selects RX2 yX2_isKing yX2_isKing, Cond.code yX2_isKing cX2_isKing 2 (some .boolean), Cond.methodLink RX3 59 yX3_firstDirection]
def wsX4_verdict_r5 : List Cond := [Cond.static yX3_firstDirection, Cond.code yX3_firstDirection cX3_firstDirection 2 (some .int), Cond.methodLink RX3 62 yX1_enter, Cond.instanceMethod yX1_enter, Cond.selects RX1 yX1_enter yX1_enter, Cond.code yX1_enter cX1_enter 8 none, Cond.fieldLink RX1 16 "JumpBoard$MoveList" "count" "I", Cond.methodLink RX3 45 yX3_listSteps, Cond.instanceMethod yX3_listSteps, Cond.selects RX3 yX3_listSteps yX3_listSteps, Cond.code yX3_listSteps cX3_listSteps 8 none, Cond.methodLink RX0 38 yX0_note, Cond.instanceMethod yX0_note, Cond.selects RX0 yX0_note yX0_note, Cond.code yX0_note cX0_note 7 none, Cond.fieldLink RX0 82 "JumpBoard$MoveList" "count" "I", Cond.methodLink RX0 85 Lib.Math.min.name, Cond.static Lib.Math.min.name, Cond.initialized "java/lang/Math", Cond.code Lib.Math.min.name Lib.Math.min.code 2 (some .int), Cond.fieldLink RX0 91 "JumpBoard$MoveList" "packed" "[I", Cond.methodLink RX0 95 yX2_follow, Cond.instanceMethod yX2_follow, Cond.selects RX2 yX2_follow yX2_follow]
def wsX4_verdict_r6 : List Cond := [Cond.code yX2_follow cX2_follow 9 none, Cond.constant RX2 48 (229376), Cond.methodLink RX2 37 yX1_beginning, Cond.static yX1_beginning, Cond.code yX1_beginning cX1_beginning 1 (some .int), Cond.methodLink RX2 42 yX1_end, Cond.static yX1_end, Cond.code yX1_end cX1_end 1 (some .int), Cond.methodLink RX2 45 yX1_taken, Cond.static yX1_taken, Cond.code yX1_taken cX1_taken 1 (some .int), Cond.constant RX1 15 (262143), Cond.methodLink RX0 45 yX0_number, Cond.static yX0_number, Cond.code yX0_number cX0_number 1 (some .int), Cond.methodLink RX0 57 yX2_own, Cond.methodLink RX0 61 yX0_kind, Cond.static yX0_kind, Cond.code yX0_kind cX0_kind 4 (some .int), Cond.fieldLink RX0 74 "JumpBoard$Position" "mover" "I", Cond.methodLink RX0 68 yJ6_numberOfTrailingZeros_0f7a4, Cond.static yJ6_numberOfTrailingZeros_0f7a4, Cond.code yJ6_numberOfTrailingZeros_0f7a4 cJ6_numberOfTrailingZeros_0f7a4 2 (some .int), Cond.constant RJ6 264 (65536)]
def wsX4_verdict_r7 : List Cond := [Cond.methodLink RX0 78 yX2_isKing, Cond.methodLink RX0 65 yX2_others, Cond.methodLink RX0 42 yX0_settle, Cond.instanceMethod yX0_settle, Cond.selects RX0 yX0_settle yX0_settle, Cond.code yX0_settle cX0_settle 3 none, Cond.methodLink RX0 99 yX0_findWins, Cond.instanceMethod yX0_findWins, Cond.selects RX0 yX0_findWins yX0_findWins, Cond.code yX0_findWins cX0_findWins 4 (some .boolean), Cond.methodLink RX0 105 yX0_leadsToLoss, Cond.instanceMethod yX0_leadsToLoss, Cond.selects RX0 yX0_leadsToLoss yX0_leadsToLoss, Cond.code yX0_leadsToLoss cX0_leadsToLoss 3 (some .boolean), Cond.methodLink RX0 102 yX0_findLosses, Cond.instanceMethod yX0_findLosses, Cond.selects RX0 yX0_findLosses yX0_findLosses, Cond.code yX0_findLosses cX0_findLosses 4 (some .boolean), Cond.methodLink RX0 108 yX0_leadsToWinsAlone, Cond.instanceMethod yX0_leadsToWinsAlone, Cond.selects RX0 yX0_leadsToWinsAlone yX0_leadsToWinsAlone, Cond.code yX0_leadsToWinsAlone cX0_leadsToWinsAlone 3 (some .boolean), Cond.methodLink RX4 157 yX0_look, Cond.instanceMethod yX0_look]
def wsX4_verdict_r8 : List Cond := [Cond.selects RX0 yX0_look yX0_look, Cond.code yX0_look cX0_look 2 (some .int)]
def wsX4_verdict : List Cond := .code yX4_verdict cX4_verdict 2 (some .int) :: ((wsX4_verdict_r1 ++ (wsX4_verdict_r2 ++ (wsX4_verdict_r3 ++ (wsX4_verdict_r4 ++ (wsX4_verdict_r5 ++ (wsX4_verdict_r6 ++ (wsX4_verdict_r7 ++ wsX4_verdict_r8))))))) ++ wsX40 ++ wsX20 ++ wsX00 ++ wsX10 ++ wsX30)
def wsX4_weighVerdict : List Cond := .code yX4_weighVerdict cX4_weighVerdict 1 (some .int) :: ([])
def wsX4_weigh_r1 : List Cond := [Cond.fieldLink RX4 10 "JumpBoard" "rules" "LJumpBoard$Rules;", Cond.fieldLink RX4 42 "JumpBoard" "lists" "[LJumpBoard$MoveList;", Cond.fieldLink RX4 78 "JumpBoard$MoveList" "count" "I", Cond.fieldLink RX4 46 "JumpBoard" "spots" "[LJumpBoard$Position;", Cond.fieldLink RX4 85 "JumpBoard$MoveList" "packed" "[I", Cond.methodLink RX4 146 Lib.Math.max.name, Cond.static Lib.Math.max.name, Cond.initialized "java/lang/Math", Cond.code Lib.Math.max.name Lib.Math.max.code 2 (some .int), Cond.methodLink RX4 124 yX2_isOneEach, Cond.instanceMethod yX2_isOneEach, Cond.selects RX2 yX2_isOneEach yX2_isOneEach, Cond.initialized RX2, Cond.code yX2_isOneEach cX2_isOneEach 1 (some .boolean), Cond.fieldLink RX2 9 "JumpBoard$Position" "white" "I", Cond.fieldLink RX2 15 "JumpBoard$Position" "black" "I", Cond.methodLink RX2 31 yJ6_bitCount_0f7a4, Cond.static yJ6_bitCount_0f7a4, Cond.initialized RJ6, Cond.code yJ6_bitCount_0f7a4 cJ6_bitCount_0f7a4 1 (some .int), Cond.constant RJ6 265 (1431655765), Cond.constant RJ6 266 (858993459), Cond.constant RJ6 267 (252645135), Cond.methodLink RX4 128 yX4_judge]
def wsX4_weigh_r2 : List Cond := [Cond.instanceMethod yX4_judge, Cond.selects RX4 yX4_judge yX4_judge, Cond.initialized RX4, Cond.code yX4_judge cX4_judge 2 (some .int), Cond.fieldLink RX4 16 "JumpBoard" "endings" "LJumpBoard$Endings;", Cond.classLink RX4 152 RX0, Cond.instantiable RX0 3, Cond.initialized RX0, Cond.methodLink RX4 154 yX0_init, Cond.instanceMethod yX0_init, Cond.code yX0_init cX0_init 6 none, Cond.methodLink RX0 5 objectInit, Cond.instanceMethod objectInit, Cond.code objectInit ⟨#[0xb1]⟩ 1 none, Cond.arrayClass .byte, Cond.fieldLink RX0 11 "JumpBoard$Endings" "verdicts" "[B", Cond.fieldLink RX0 15 "JumpBoard$Endings" "counts" "[B", Cond.arrayClass .short, Cond.fieldLink RX0 18 "JumpBoard$Endings" "nexts" "[S", Cond.classLink RX0 22 RX1, Cond.instantiable RX1 2, Cond.initialized RX1, Cond.classLink RX0 25 RX2, Cond.instantiable RX2 5]
def wsX4_weigh_r3 : List Cond := [Cond.instanceMethod yX1_init, Cond.code yX1_init cX1_init 1 none, Cond.methodLink RX1 3 objectInit, Cond.arrayClass .int, Cond.fieldLink RX1 11 "JumpBoard$MoveList" "packed" "[I", Cond.instanceMethod yX2_init, Cond.code yX2_init cX2_init 1 none, Cond.methodLink RX2 3 objectInit, Cond.methodLink RX0 28 yX0_arrange, Cond.static yX0_arrange, Cond.code yX0_arrange cX0_arrange 10 (some .boolean), Cond.constant RX0 49 (229376), Cond.methodLink RX0 50 yX2_wipe, Cond.instanceMethod yX2_wipe, Cond.selects RX2 yX2_wipe yX2_wipe, Cond.code yX2_wipe cX2_wipe 1 none, Cond.fieldLink RX2 18 "JumpBoard$Position" "kings" "I", Cond.fieldLink RX2 21 "JumpBoard$Position" "mover" "I", Cond.fieldLink RX2 24 "JumpBoard$Position" "kingSteps" "I", Cond.methodLink RX0 53 yX2_place, Cond.instanceMethod yX2_place, Cond.selects RX2 yX2_place yX2_place, Cond.code yX2_place cX2_place 3 none, Cond.methodLink RX0 32 yX3_listMoves]
def wsX4_weigh_r4 : List Cond := [Cond.instanceMethod yX3_listMoves, Cond.selects RX3 yX3_listMoves yX3_listMoves, Cond.initialized RX3, Cond.code yX3_listMoves cX3_listMoves 5 none, Cond.fieldLink RX3 32 "JumpBoard$MoveList" "count" "I", Cond.methodLink RX3 37 yX2_own, Cond.instanceMethod yX2_own, Cond.selects RX2 yX2_own yX2_own, Cond.code yX2_own cX2_own 1 (some .int), Cond.methodLink RX3 41 yX3_leapOn, Cond.instanceMethod yX3_leapOn, Cond.selects RX3 yX3_leapOn yX3_leapOn, Cond.code yX3_leapOn cX3_leapOn 14 none, Cond.fieldLink RX3 49 "JumpBoard$Position" "white" "I", Cond.fieldLink RX3 52 "JumpBoard$Position" "black" "I", Cond.fieldLink RX3 9 "JumpBoard$Rules" "near" "[I", Cond.fieldLink RX3 15 "JumpBoard$Rules" "behind" "[I", Cond.methodLink RX3 66 yX2_others, Cond.instanceMethod yX2_others, Cond.selects RX2 yX2_others yX2_others, Cond.code yX2_others cX2_others 1 (some .int), Cond.methodLink RX3 55 yX3_lastDirection, Cond.static yX3_lastDirection, Cond.code yX3_lastDirection cX3_lastDirection 2 (some .int)]
def wsX4_weigh_r5 : List Cond := [Cond.fieldLink RX3 28 "JumpBoard$Position" "mover" "I", Cond.methodLink RX3 22 yX2_isKing, Cond.instanceMethod yX2_isKing, Cond.selects RX2 yX2_isKing yX2_isKing, Cond.code yX2_isKing cX2_isKing 2 (some .boolean), Cond.methodLink RX3 59 yX3_firstDirection, Cond.static yX3_firstDirection, Cond.code yX3_firstDirection cX3_firstDirection 2 (some .int), Cond.methodLink RX3 62 yX1_enter, Cond.instanceMethod yX1_enter, Cond.selects RX1 yX1_enter yX1_enter, Cond.code yX1_enter cX1_enter 8 none, Cond.fieldLink RX1 16 "JumpBoard$MoveList" "count" "I", Cond.methodLink RX3 45 yX3_listSteps, Cond.instanceMethod yX3_listSteps, Cond.selects RX3 yX3_listSteps yX3_listSteps, Cond.code yX3_listSteps cX3_listSteps 8 none, Cond.methodLink RX0 38 yX0_note, Cond.instanceMethod yX0_note, Cond.selects RX0 yX0_note yX0_note, Cond.code yX0_note cX0_note 7 none, Cond.fieldLink RX0 82 "JumpBoard$MoveList" "count" "I", Cond.methodLink RX0 85 Lib.Math.min.name, Cond.static Lib.Math.min.name]
def wsX4_weigh_r6 : List Cond := [Cond.code Lib.Math.min.name Lib.Math.min.code 2 (some .int), Cond.fieldLink RX0 91 "JumpBoard$MoveList" "packed" "[I", Cond.methodLink RX0 95 yX2_follow, Cond.instanceMethod yX2_follow, Cond.selects RX2 yX2_follow yX2_follow, Cond.code yX2_follow cX2_follow 9 none, Cond.constant RX2 48 (229376), Cond.methodLink RX2 37 yX1_beginning, Cond.static yX1_beginning, Cond.code yX1_beginning cX1_beginning 1 (some .int), Cond.methodLink RX2 42 yX1_end, Cond.static yX1_end, Cond.code yX1_end cX1_end 1 (some .int), Cond.methodLink RX2 45 yX1_taken, Cond.static yX1_taken, Cond.code yX1_taken cX1_taken 1 (some .int), Cond.constant RX1 15 (262143), Cond.methodLink RX0 45 yX0_number, Cond.static yX0_number, Cond.code yX0_number cX0_number 1 (some .int), Cond.methodLink RX0 57 yX2_own, Cond.methodLink RX0 61 yX0_kind, Cond.static yX0_kind, Cond.code yX0_kind cX0_kind 4 (some .int)]
def wsX4_weigh_r7 : List Cond := [Cond.fieldLink RX0 74 "JumpBoard$Position" "mover" "I", Cond.methodLink RX0 68 yJ6_numberOfTrailingZeros_0f7a4, Cond.static yJ6_numberOfTrailingZeros_0f7a4, Cond.code yJ6_numberOfTrailingZeros_0f7a4 cJ6_numberOfTrailingZeros_0f7a4 2 (some .int), Cond.constant RJ6 264 (65536), Cond.methodLink RX0 78 yX2_isKing, Cond.methodLink RX0 65 yX2_others, Cond.methodLink RX0 42 yX0_settle, Cond.instanceMethod yX0_settle, Cond.selects RX0 yX0_settle yX0_settle, Cond.code yX0_settle cX0_settle 3 none, Cond.methodLink RX0 99 yX0_findWins, Cond.instanceMethod yX0_findWins, Cond.selects RX0 yX0_findWins yX0_findWins, Cond.code yX0_findWins cX0_findWins 4 (some .boolean), Cond.methodLink RX0 105 yX0_leadsToLoss, Cond.instanceMethod yX0_leadsToLoss, Cond.selects RX0 yX0_leadsToLoss yX0_leadsToLoss, Cond.code yX0_leadsToLoss cX0_leadsToLoss 3 (some .boolean), Cond.methodLink RX0 102 yX0_findLosses, Cond.instanceMethod yX0_findLosses, Cond.selects RX0 yX0_findLosses yX0_findLosses, Cond.code yX0_findLosses cX0_findLosses 4 (some .boolean), Cond.methodLink RX0 108 yX0_leadsToWinsAlone]
def wsX4_weigh_r8 : List Cond := [Cond.instanceMethod yX0_leadsToWinsAlone, Cond.selects RX0 yX0_leadsToWinsAlone yX0_leadsToWinsAlone, Cond.code yX0_leadsToWinsAlone cX0_leadsToWinsAlone 3 (some .boolean), Cond.methodLink RX4 157 yX0_look, Cond.instanceMethod yX0_look, Cond.selects RX0 yX0_look yX0_look, Cond.code yX0_look cX0_look 2 (some .int), Cond.methodLink RX4 140 yX4_weighVerdict, Cond.static yX4_weighVerdict, Cond.code yX4_weighVerdict cX4_weighVerdict 1 (some .int), Cond.methodLink RX4 110 yX3_canMove, Cond.instanceMethod yX3_canMove, Cond.selects RX3 yX3_canMove yX3_canMove, Cond.code yX3_canMove cX3_canMove 4 (some .boolean), Cond.methodLink RX3 69 yX3_canLeave, Cond.instanceMethod yX3_canLeave, Cond.selects RX3 yX3_canLeave yX3_canLeave, Cond.code yX3_canLeave cX3_canLeave 8 (some .boolean), Cond.methodLink RX4 143 yX2_balance, Cond.instanceMethod yX2_balance, Cond.selects RX2 yX2_balance yX2_balance, Cond.code yX2_balance cX2_balance 3 (some .int), Cond.methodLink RX2 49 yX2_own, Cond.methodLink RX2 53 yX2_others]
def wsX4_weigh_r9 : List Cond := [Cond.methodLink RX4 74 yX3_listMoves, Cond.methodLink RX4 101 yX2_follow, Cond.methodLink RX4 132 yX4_weigh, Cond.instanceMethod yX4_weigh, Cond.selects RX4 yX4_weigh yX4_weigh]
def wsX4_weigh : List Cond := .code yX4_weigh cX4_weigh 9 (some .int) :: ((wsX4_weigh_r1 ++ (wsX4_weigh_r2 ++ (wsX4_weigh_r3 ++ (wsX4_weigh_r4 ++ (wsX4_weigh_r5 ++ (wsX4_weigh_r6 ++ (wsX4_weigh_r7 ++ (wsX4_weigh_r8 ++ wsX4_weigh_r9)))))))) ++ wsX40 ++ wsX10 ++ wsX20 ++ wsX00 ++ wsX30)
def wsX4_value_r1 : List Cond := [Cond.fieldLink RX4 22 "JumpBoard" "line" "[LJumpBoard$Position;", Cond.fieldLink RX4 26 "JumpBoard" "latest" "I", Cond.methodLink RX4 117 yX4_isDepth, Cond.static yX4_isDepth, Cond.initialized RX4, Cond.code yX4_isDepth cX4_isDepth 1 (some .boolean), Cond.methodLink RX4 132 yX4_weigh, Cond.instanceMethod yX4_weigh, Cond.selects RX4 yX4_weigh yX4_weigh, Cond.code yX4_weigh cX4_weigh 9 (some .int), Cond.fieldLink RX4 10 "JumpBoard" "rules" "LJumpBoard$Rules;", Cond.fieldLink RX4 42 "JumpBoard" "lists" "[LJumpBoard$MoveList;", Cond.fieldLink RX4 78 "JumpBoard$MoveList" "count" "I", Cond.fieldLink RX4 46 "JumpBoard" "spots" "[LJumpBoard$Position;", Cond.fieldLink RX4 85 "JumpBoard$MoveList" "packed" "[I", Cond.methodLink RX4 146 Lib.Math.max.name, Cond.static Lib.Math.max.name, Cond.initialized "java/lang/Math", Cond.code Lib.Math.max.name Lib.Math.max.code 2 (some .int), Cond.methodLink RX4 124 yX2_isOneEach, Cond.instanceMethod yX2_isOneEach, Cond.selects RX2 yX2_isOneEach yX2_isOneEach, Cond.initialized RX2, Cond.code yX2_isOneEach cX2_isOneEach 1 (some .boolean)]
def wsX4_value_r2 : List Cond := [Cond.fieldLink RX2 9 "JumpBoard$Position" "white" "I", Cond.fieldLink RX2 15 "JumpBoard$Position" "black" "I", Cond.methodLink RX2 31 yJ6_bitCount_0f7a4, Cond.static yJ6_bitCount_0f7a4, Cond.initialized RJ6, Cond.code yJ6_bitCount_0f7a4 cJ6_bitCount_0f7a4 1 (some .int), Cond.constant RJ6 265 (1431655765), Cond.constant RJ6 266 (858993459), Cond.constant RJ6 267 (252645135), Cond.methodLink RX4 128 yX4_judge, Cond.instanceMethod yX4_judge, Cond.selects RX4 yX4_judge yX4_judge, Cond.code yX4_judge cX4_judge 2 (some .int), Cond.fieldLink RX4 16 "JumpBoard" "endings" "LJumpBoard$Endings;", Cond.classLink RX4 152 RX0, Cond.instantiable RX0 3, Cond.initialized RX0, Cond.methodLink RX4 154 yX0_init, Cond.instanceMethod yX0_init, Cond.code yX0_init cX0_init 6 none, Cond.methodLink RX0 5 objectInit, Cond.instanceMethod objectInit, Cond.code objectInit ⟨#[0xb1]⟩ 1 none, Cond.arrayClass .byte]
def wsX4_value_r3 : List Cond := [Cond.fieldLink RX0 11 "JumpBoard$Endings" "verdicts" "[B", Cond.fieldLink RX0 15 "JumpBoard$Endings" "counts" "[B", Cond.arrayClass .short, Cond.fieldLink RX0 18 "JumpBoard$Endings" "nexts" "[S", Cond.classLink RX0 22 RX1, Cond.instantiable RX1 2, Cond.initialized RX1, Cond.classLink RX0 25 RX2, Cond.instantiable RX2 5, Cond.instanceMethod yX1_init, Cond.code yX1_init cX1_init 1 none, Cond.methodLink RX1 3 objectInit, Cond.arrayClass .int, Cond.fieldLink RX1 11 "JumpBoard$MoveList" "packed" "[I", Cond.instanceMethod yX2_init, Cond.code yX2_init cX2_init 1 none, Cond.methodLink RX2 3 objectInit, Cond.methodLink RX0 28 yX0_arrange, Cond.static yX0_arrange, Cond.code yX0_arrange cX0_arrange 10 (some .boolean), Cond.constant RX0 49 (229376), Cond.methodLink RX0 50 yX2_wipe, Cond.instanceMethod yX2_wipe, Cond.selects RX2 yX2_wipe yX2_wipe]
def wsX4_value_r4 : List Cond := [Cond.code yX2_wipe cX2_wipe 1 none, Cond.fieldLink RX2 18 "JumpBoard$Position" "kings" "I", Cond.fieldLink RX2 21 "JumpBoard$Position" "mover" "I", Cond.fieldLink RX2 24 "JumpBoard$Position" "kingSteps" "I", Cond.methodLink RX0 53 yX2_place, Cond.instanceMethod yX2_place, Cond.selects RX2 yX2_place yX2_place, Cond.code yX2_place cX2_place 3 none, Cond.methodLink RX0 32 yX3_listMoves, Cond.instanceMethod yX3_listMoves, Cond.selects RX3 yX3_listMoves yX3_listMoves, Cond.initialized RX3, Cond.code yX3_listMoves cX3_listMoves 5 none, Cond.fieldLink RX3 32 "JumpBoard$MoveList" "count" "I", Cond.methodLink RX3 37 yX2_own, Cond.instanceMethod yX2_own, Cond.selects RX2 yX2_own yX2_own, Cond.code yX2_own cX2_own 1 (some .int), Cond.methodLink RX3 41 yX3_leapOn, Cond.instanceMethod yX3_leapOn, Cond.selects RX3 yX3_leapOn yX3_leapOn, Cond.code yX3_leapOn cX3_leapOn 14 none, Cond.fieldLink RX3 49 "JumpBoard$Position" "white" "I", Cond.fieldLink RX3 52 "JumpBoard$Position" "black" "I"]
def wsX4_value_r5 : List Cond := [Cond.fieldLink RX3 9 "JumpBoard$Rules" "near" "[I", Cond.fieldLink RX3 15 "JumpBoard$Rules" "behind" "[I", Cond.methodLink RX3 66 yX2_others, Cond.instanceMethod yX2_others, Cond.selects RX2 yX2_others yX2_others, Cond.code yX2_others cX2_others 1 (some .int), Cond.methodLink RX3 55 yX3_lastDirection, Cond.static yX3_lastDirection, Cond.code yX3_lastDirection cX3_lastDirection 2 (some .int), Cond.fieldLink RX3 28 "JumpBoard$Position" "mover" "I", Cond.methodLink RX3 22 yX2_isKing, Cond.instanceMethod yX2_isKing, Cond.selects RX2 yX2_isKing yX2_isKing, Cond.code yX2_isKing cX2_isKing 2 (some .boolean), Cond.methodLink RX3 59 yX3_firstDirection, Cond.static yX3_firstDirection, Cond.code yX3_firstDirection cX3_firstDirection 2 (some .int), Cond.methodLink RX3 62 yX1_enter, Cond.instanceMethod yX1_enter, Cond.selects RX1 yX1_enter yX1_enter, Cond.code yX1_enter cX1_enter 8 none, Cond.fieldLink RX1 16 "JumpBoard$MoveList" "count" "I", Cond.methodLink RX3 45 yX3_listSteps, Cond.instanceMethod yX3_listSteps]
def wsX4_value_r6 : List Cond := [Cond.selects RX3 yX3_listSteps yX3_listSteps, Cond.code yX3_listSteps cX3_listSteps 8 none, Cond.methodLink RX0 38 yX0_note, Cond.instanceMethod yX0_note, Cond.selects RX0 yX0_note yX0_note, Cond.code yX0_note cX0_note 7 none, Cond.fieldLink RX0 82 "JumpBoard$MoveList" "count" "I", Cond.methodLink RX0 85 Lib.Math.min.name, Cond.static Lib.Math.min.name, Cond.code Lib.Math.min.name Lib.Math.min.code 2 (some .int), Cond.fieldLink RX0 91 "JumpBoard$MoveList" "packed" "[I", Cond.methodLink RX0 95 yX2_follow, Cond.instanceMethod yX2_follow, Cond.selects RX2 yX2_follow yX2_follow, Cond.code yX2_follow cX2_follow 9 none, Cond.constant RX2 48 (229376), Cond.methodLink RX2 37 yX1_beginning, Cond.static yX1_beginning, Cond.code yX1_beginning cX1_beginning 1 (some .int), Cond.methodLink RX2 42 yX1_end, Cond.static yX1_end, Cond.code yX1_end cX1_end 1 (some .int), Cond.methodLink RX2 45 yX1_taken, Cond.static yX1_taken]
def wsX4_value_r7 : List Cond := [Cond.code yX1_taken cX1_taken 1 (some .int), Cond.constant RX1 15 (262143), Cond.methodLink RX0 45 yX0_number, Cond.static yX0_number, Cond.code yX0_number cX0_number 1 (some .int), Cond.methodLink RX0 57 yX2_own, Cond.methodLink RX0 61 yX0_kind, Cond.static yX0_kind, Cond.code yX0_kind cX0_kind 4 (some .int), Cond.fieldLink RX0 74 "JumpBoard$Position" "mover" "I", Cond.methodLink RX0 68 yJ6_numberOfTrailingZeros_0f7a4, Cond.static yJ6_numberOfTrailingZeros_0f7a4, Cond.code yJ6_numberOfTrailingZeros_0f7a4 cJ6_numberOfTrailingZeros_0f7a4 2 (some .int), Cond.constant RJ6 264 (65536), Cond.methodLink RX0 78 yX2_isKing, Cond.methodLink RX0 65 yX2_others, Cond.methodLink RX0 42 yX0_settle, Cond.instanceMethod yX0_settle, Cond.selects RX0 yX0_settle yX0_settle, Cond.code yX0_settle cX0_settle 3 none, Cond.methodLink RX0 99 yX0_findWins, Cond.instanceMethod yX0_findWins, Cond.selects RX0 yX0_findWins yX0_findWins, Cond.code yX0_findWins cX0_findWins 4 (some .boolean)]
def wsX4_value_r8 : List Cond := [Cond.methodLink RX0 105 yX0_leadsToLoss, Cond.instanceMethod yX0_leadsToLoss, Cond.selects RX0 yX0_leadsToLoss yX0_leadsToLoss, Cond.code yX0_leadsToLoss cX0_leadsToLoss 3 (some .boolean), Cond.methodLink RX0 102 yX0_findLosses, Cond.instanceMethod yX0_findLosses, Cond.selects RX0 yX0_findLosses yX0_findLosses, Cond.code yX0_findLosses cX0_findLosses 4 (some .boolean), Cond.methodLink RX0 108 yX0_leadsToWinsAlone, Cond.instanceMethod yX0_leadsToWinsAlone, Cond.selects RX0 yX0_leadsToWinsAlone yX0_leadsToWinsAlone, Cond.code yX0_leadsToWinsAlone cX0_leadsToWinsAlone 3 (some .boolean), Cond.methodLink RX4 157 yX0_look, Cond.instanceMethod yX0_look, Cond.selects RX0 yX0_look yX0_look, Cond.code yX0_look cX0_look 2 (some .int), Cond.methodLink RX4 140 yX4_weighVerdict, Cond.static yX4_weighVerdict, Cond.code yX4_weighVerdict cX4_weighVerdict 1 (some .int), Cond.methodLink RX4 110 yX3_canMove, Cond.instanceMethod yX3_canMove, Cond.selects RX3 yX3_canMove yX3_canMove, Cond.code yX3_canMove cX3_canMove 4 (some .boolean), Cond.methodLink RX3 69 yX3_canLeave]
def wsX4_value_r9 : List Cond := [Cond.instanceMethod yX3_canLeave, Cond.selects RX3 yX3_canLeave yX3_canLeave, Cond.code yX3_canLeave cX3_canLeave 8 (some .boolean), Cond.methodLink RX4 143 yX2_balance, Cond.instanceMethod yX2_balance, Cond.selects RX2 yX2_balance yX2_balance, Cond.code yX2_balance cX2_balance 3 (some .int), Cond.methodLink RX2 49 yX2_own, Cond.methodLink RX2 53 yX2_others, Cond.methodLink RX4 74 yX3_listMoves, Cond.methodLink RX4 101 yX2_follow]
def wsX4_value : List Cond := .code yX4_value cX4_value 2 (some .int) :: ((wsX4_value_r1 ++ (wsX4_value_r2 ++ (wsX4_value_r3 ++ (wsX4_value_r4 ++ (wsX4_value_r5 ++ (wsX4_value_r6 ++ (wsX4_value_r7 ++ (wsX4_value_r8 ++ wsX4_value_r9)))))))) ++ wsX40 ++ wsX10 ++ wsX20 ++ wsX00 ++ wsX30)
def wsX4_best_r1 : List Cond := [Cond.fieldLink RX4 38 "JumpBoard" "after" "LJumpBoard$Position;", Cond.fieldLink RX4 22 "JumpBoard" "line" "[LJumpBoard$Position;", Cond.fieldLink RX4 26 "JumpBoard" "latest" "I", Cond.fieldLink RX4 33 "JumpBoard" "list" "LJumpBoard$MoveList;", Cond.fieldLink RX4 85 "JumpBoard$MoveList" "packed" "[I", Cond.methodLink RX4 117 yX4_isDepth, Cond.static yX4_isDepth, Cond.initialized RX4, Cond.code yX4_isDepth cX4_isDepth 1 (some .boolean), Cond.methodLink RX4 81 yX4_moves, Cond.instanceMethod yX4_moves, Cond.selects RX4 yX4_moves yX4_moves, Cond.code yX4_moves cX4_moves 1 (some .int), Cond.fieldLink RX4 10 "JumpBoard" "rules" "LJumpBoard$Rules;", Cond.fieldLink RX4 78 "JumpBoard$MoveList" "count" "I", Cond.methodLink RX4 74 yX3_listMoves, Cond.instanceMethod yX3_listMoves, Cond.selects RX3 yX3_listMoves yX3_listMoves, Cond.initialized RX3, Cond.code yX3_listMoves cX3_listMoves 5 none, Cond.fieldLink RX3 32 "JumpBoard$MoveList" "count" "I", Cond.methodLink RX3 37 yX2_own, Cond.instanceMethod yX2_own, Cond.selects RX2 yX2_own yX2_own]
def wsX4_best_r2 : List Cond := [Cond.initialized RX2, Cond.code yX2_own cX2_own 1 (some .int), Cond.fieldLink RX2 21 "JumpBoard$Position" "mover" "I", Cond.fieldLink RX2 9 "JumpBoard$Position" "white" "I", Cond.fieldLink RX2 15 "JumpBoard$Position" "black" "I", Cond.methodLink RX3 41 yX3_leapOn, Cond.instanceMethod yX3_leapOn, Cond.selects RX3 yX3_leapOn yX3_leapOn, Cond.code yX3_leapOn cX3_leapOn 14 none, Cond.fieldLink RX3 49 "JumpBoard$Position" "white" "I", Cond.fieldLink RX3 52 "JumpBoard$Position" "black" "I", Cond.fieldLink RX3 9 "JumpBoard$Rules" "near" "[I", Cond.fieldLink RX3 15 "JumpBoard$Rules" "behind" "[I", Cond.methodLink RX3 66 yX2_others, Cond.instanceMethod yX2_others, Cond.selects RX2 yX2_others yX2_others, Cond.code yX2_others cX2_others 1 (some .int), Cond.methodLink RX3 55 yX3_lastDirection, Cond.static yX3_lastDirection, Cond.code yX3_lastDirection cX3_lastDirection 2 (some .int), Cond.fieldLink RX3 28 "JumpBoard$Position" "mover" "I", Cond.methodLink RX3 22 yX2_isKing, Cond.instanceMethod yX2_isKing, Cond.selects RX2 yX2_isKing yX2_isKing]
def wsX4_best_r3 : List Cond := [Cond.code yX2_isKing cX2_isKing 2 (some .boolean), Cond.fieldLink RX2 18 "JumpBoard$Position" "kings" "I", Cond.methodLink RX3 59 yX3_firstDirection, Cond.static yX3_firstDirection, Cond.code yX3_firstDirection cX3_firstDirection 2 (some .int), Cond.methodLink RX3 62 yX1_enter, Cond.instanceMethod yX1_enter, Cond.selects RX1 yX1_enter yX1_enter, Cond.initialized RX1, Cond.code yX1_enter cX1_enter 8 none, Cond.fieldLink RX1 16 "JumpBoard$MoveList" "count" "I", Cond.fieldLink RX1 11 "JumpBoard$MoveList" "packed" "[I", Cond.methodLink RX3 45 yX3_listSteps, Cond.instanceMethod yX3_listSteps, Cond.selects RX3 yX3_listSteps yX3_listSteps, Cond.code yX3_listSteps cX3_listSteps 8 none, Cond.methodLink RX4 101 yX2_follow, Cond.instanceMethod yX2_follow, Cond.selects RX2 yX2_follow yX2_follow, Cond.code yX2_follow cX2_follow 9 none, Cond.constant RX2 48 (229376), Cond.fieldLink RX2 24 "JumpBoard$Position" "kingSteps" "I", Cond.methodLink RX2 37 yX1_beginning, Cond.static yX1_beginning]
def wsX4_best_r4 : List Cond := [Cond.code yX1_beginning cX1_beginning 1 (some .int), Cond.methodLink RX2 42 yX1_end, Cond.static yX1_end, Cond.code yX1_end cX1_end 1 (some .int), Cond.methodLink RX2 45 yX1_taken, Cond.static yX1_taken, Cond.code yX1_taken cX1_taken 1 (some .int), Cond.constant RX1 15 (262143), Cond.methodLink RX4 132 yX4_weigh, Cond.instanceMethod yX4_weigh, Cond.selects RX4 yX4_weigh yX4_weigh, Cond.code yX4_weigh cX4_weigh 9 (some .int), Cond.fieldLink RX4 42 "JumpBoard" "lists" "[LJumpBoard$MoveList;", Cond.fieldLink RX4 46 "JumpBoard" "spots" "[LJumpBoard$Position;", Cond.methodLink RX4 146 Lib.Math.max.name, Cond.static Lib.Math.max.name, Cond.initialized "java/lang/Math", Cond.code Lib.Math.max.name Lib.Math.max.code 2 (some .int), Cond.methodLink RX4 124 yX2_isOneEach, Cond.instanceMethod yX2_isOneEach, Cond.selects RX2 yX2_isOneEach yX2_isOneEach, Cond.code yX2_isOneEach cX2_isOneEach 1 (some .boolean), Cond.methodLink RX2 31 yJ6_bitCount_0f7a4, Cond.static yJ6_bitCount_0f7a4]
def wsX4_best_r5 : List Cond := [Cond.initialized RJ6, Cond.code yJ6_bitCount_0f7a4 cJ6_bitCount_0f7a4 1 (some .int), Cond.constant RJ6 265 (1431655765), Cond.constant RJ6 266 (858993459), Cond.constant RJ6 267 (252645135), Cond.methodLink RX4 128 yX4_judge, Cond.instanceMethod yX4_judge, Cond.selects RX4 yX4_judge yX4_judge, Cond.code yX4_judge cX4_judge 2 (some .int), Cond.fieldLink RX4 16 "JumpBoard" "endings" "LJumpBoard$Endings;", Cond.classLink RX4 152 RX0, Cond.instantiable RX0 3, Cond.initialized RX0, Cond.methodLink RX4 154 yX0_init, Cond.instanceMethod yX0_init, Cond.code yX0_init cX0_init 6 none, Cond.methodLink RX0 5 objectInit, Cond.instanceMethod objectInit, Cond.code objectInit ⟨#[0xb1]⟩ 1 none, Cond.arrayClass .byte, Cond.fieldLink RX0 11 "JumpBoard$Endings" "verdicts" "[B", Cond.fieldLink RX0 15 "JumpBoard$Endings" "counts" "[B", Cond.arrayClass .short, Cond.fieldLink RX0 18 "JumpBoard$Endings" "nexts" "[S"]
def wsX4_best_r6 : List Cond := [Cond.classLink RX0 22 RX1, Cond.instantiable RX1 2, Cond.classLink RX0 25 RX2, Cond.instantiable RX2 5, Cond.instanceMethod yX1_init, Cond.code yX1_init cX1_init 1 none, Cond.methodLink RX1 3 objectInit, Cond.arrayClass .int, Cond.instanceMethod yX2_init, Cond.code yX2_init cX2_init 1 none, Cond.methodLink RX2 3 objectInit, Cond.methodLink RX0 28 yX0_arrange, Cond.static yX0_arrange, Cond.code yX0_arrange cX0_arrange 10 (some .boolean), Cond.constant RX0 49 (229376), Cond.methodLink RX0 50 yX2_wipe, Cond.instanceMethod yX2_wipe, Cond.selects RX2 yX2_wipe yX2_wipe, Cond.code yX2_wipe cX2_wipe 1 none, Cond.methodLink RX0 53 yX2_place, Cond.instanceMethod yX2_place, Cond.selects RX2 yX2_place yX2_place, Cond.code yX2_place cX2_place 3 none, Cond.methodLink RX0 32 yX3_listMoves]
def wsX4_best_r7 : List Cond := [Cond.methodLink RX0 38 yX0_note, Cond.instanceMethod yX0_note, Cond.selects RX0 yX0_note yX0_note, Cond.code yX0_note cX0_note 7 none, Cond.fieldLink RX0 82 "JumpBoard$MoveList" "count" "I", Cond.methodLink RX0 85 Lib.Math.min.name, Cond.static Lib.Math.min.name, Cond.code Lib.Math.min.name Lib.Math.min.code 2 (some .int), Cond.fieldLink RX0 91 "JumpBoard$MoveList" "packed" "[I", Cond.methodLink RX0 95 yX2_follow, Cond.methodLink RX0 45 yX0_number, Cond.static yX0_number, Cond.code yX0_number cX0_number 1 (some .int), Cond.methodLink RX0 57 yX2_own, Cond.methodLink RX0 61 yX0_kind, Cond.static yX0_kind, Cond.code yX0_kind cX0_kind 4 (some .int), Cond.fieldLink RX0 74 "JumpBoard$Position" "mover" "I", Cond.methodLink RX0 68 yJ6_numberOfTrailingZeros_0f7a4, Cond.static yJ6_numberOfTrailingZeros_0f7a4, Cond.code yJ6_numberOfTrailingZeros_0f7a4 cJ6_numberOfTrailingZeros_0f7a4 2 (some .int), Cond.constant RJ6 264 (65536), Cond.methodLink RX0 78 yX2_isKing, Cond.methodLink RX0 65 yX2_others]
def wsX4_best_r8 : List Cond := [Cond.methodLink RX0 42 yX0_settle, Cond.instanceMethod yX0_settle, Cond.selects RX0 yX0_settle yX0_settle, Cond.code yX0_settle cX0_settle 3 none, Cond.methodLink RX0 99 yX0_findWins, Cond.instanceMethod yX0_findWins, Cond.selects RX0 yX0_findWins yX0_findWins, Cond.code yX0_findWins cX0_findWins 4 (some .boolean), Cond.methodLink RX0 105 yX0_leadsToLoss, Cond.instanceMethod yX0_leadsToLoss, Cond.selects RX0 yX0_leadsToLoss yX0_leadsToLoss, Cond.code yX0_leadsToLoss cX0_leadsToLoss 3 (some .boolean), Cond.methodLink RX0 102 yX0_findLosses, Cond.instanceMethod yX0_findLosses, Cond.selects RX0 yX0_findLosses yX0_findLosses, Cond.code yX0_findLosses cX0_findLosses 4 (some .boolean), Cond.methodLink RX0 108 yX0_leadsToWinsAlone, Cond.instanceMethod yX0_leadsToWinsAlone, Cond.selects RX0 yX0_leadsToWinsAlone yX0_leadsToWinsAlone, Cond.code yX0_leadsToWinsAlone cX0_leadsToWinsAlone 3 (some .boolean), Cond.methodLink RX4 157 yX0_look, Cond.instanceMethod yX0_look, Cond.selects RX0 yX0_look yX0_look, Cond.code yX0_look cX0_look 2 (some .int)]
def wsX4_best_r9 : List Cond := [Cond.methodLink RX4 140 yX4_weighVerdict, Cond.static yX4_weighVerdict, Cond.code yX4_weighVerdict cX4_weighVerdict 1 (some .int), Cond.methodLink RX4 110 yX3_canMove, Cond.instanceMethod yX3_canMove, Cond.selects RX3 yX3_canMove yX3_canMove, Cond.code yX3_canMove cX3_canMove 4 (some .boolean), Cond.methodLink RX3 69 yX3_canLeave, Cond.instanceMethod yX3_canLeave, Cond.selects RX3 yX3_canLeave yX3_canLeave, Cond.code yX3_canLeave cX3_canLeave 8 (some .boolean), Cond.methodLink RX4 143 yX2_balance, Cond.instanceMethod yX2_balance, Cond.selects RX2 yX2_balance yX2_balance, Cond.code yX2_balance cX2_balance 3 (some .int), Cond.methodLink RX2 49 yX2_own, Cond.methodLink RX2 53 yX2_others]
def wsX4_best : List Cond := .code yX4_best cX4_best 7 (some .int) :: ((wsX4_best_r1 ++ (wsX4_best_r2 ++ (wsX4_best_r3 ++ (wsX4_best_r4 ++ (wsX4_best_r5 ++ (wsX4_best_r6 ++ (wsX4_best_r7 ++ (wsX4_best_r8 ++ wsX4_best_r9)))))))) ++ wsX40 ++ wsX10 ++ wsX20 ++ wsX30 ++ wsX00)
def wsX5_rowOf : List Cond := .code yX5_rowOf cX5_rowOf 1 (some .int) :: ([])
def wsX5_reach : List Cond := .code yX5_reach cX5_reach 6 (some .int) :: ([.methodLink RX5 69 yX5_rowOf, .static yX5_rowOf, .initialized RX5, .code yX5_rowOf cX5_rowOf 1 (some .int)])
def wsX5_begin : List Cond := .code yX5_begin cX5_begin 2 none :: ([.fieldLink RX5 7 "JumpBoardModel" "board" "[I", .fieldLink RX5 13 "JumpBoardModel" "mover" "[I", .fieldLink RX5 156 "JumpBoardModel" "played" "I", .fieldLink RX5 160 "JumpBoardModel" "quiet" "I"] ++ wsX50)
def wsX5_init_r1 : List Cond := [Cond.methodLink RX5 1 objectInit, Cond.instanceMethod objectInit, Cond.code objectInit ⟨#[0xb1]⟩ 1 none, Cond.arrayClass .int, Cond.fieldLink RX5 7 "JumpBoardModel" "board" "[I", Cond.fieldLink RX5 13 "JumpBoardModel" "mover" "[I", Cond.fieldLink RX5 16 "JumpBoardModel" "list" "[I", Cond.fieldLink RX5 19 "JumpBoardModel" "count" "[I", Cond.fieldLink RX5 22 "JumpBoardModel" "left" "[I", Cond.fieldLink RX5 25 "JumpBoardModel" "index" "[I", Cond.fieldLink RX5 28 "JumpBoardModel" "top" "[I", Cond.fieldLink RX5 31 "JumpBoardModel" "near" "[I", Cond.fieldLink RX5 34 "JumpBoardModel" "far" "[I", Cond.fieldLink RX5 37 "JumpBoardModel" "stand" "[I", Cond.fieldLink RX5 40 "JumpBoardModel" "gone" "[I", Cond.fieldLink RX5 43 "JumpBoardModel" "way" "[I", Cond.arrayClass .boolean, Cond.fieldLink RX5 46 "JumpBoardModel" "could" "[Z", Cond.fieldLink RX5 50 "JumpBoardModel" "oldBoard" "[I", Cond.fieldLink RX5 53 "JumpBoardModel" "oldQuiet" "[I", Cond.fieldLink RX5 56 "JumpBoardModel" "follow" "[I", Cond.fieldLink RX5 59 "JumpBoardModel" "known" "[I", Cond.methodLink RX5 62 yX5_reach, Cond.static yX5_reach]
def wsX5_init_r2 : List Cond := [Cond.initialized RX5, Cond.code yX5_reach cX5_reach 6 (some .int), Cond.methodLink RX5 69 yX5_rowOf, Cond.static yX5_rowOf, Cond.code yX5_rowOf cX5_rowOf 1 (some .int), Cond.methodLink RX5 66 yX5_begin, Cond.instanceMethod yX5_begin, Cond.selects RX5 yX5_begin yX5_begin, Cond.code yX5_begin cX5_begin 2 none, Cond.fieldLink RX5 156 "JumpBoardModel" "played" "I", Cond.fieldLink RX5 160 "JumpBoardModel" "quiet" "I"]
def wsX5_init : List Cond := .code yX5_init cX5_init 3 none :: ((wsX5_init_r1 ++ wsX5_init_r2) ++ wsX50)
def wsX5_sideOf : List Cond := .code yX5_sideOf cX5_sideOf 1 (some .int) :: ([])
def wsX5_isKing : List Cond := .code yX5_isKing cX5_isKing 1 (some .boolean) :: ([])
def wsX5_goes : List Cond := .code yX5_goes cX5_goes 2 (some .boolean) :: ([.methodLink RX5 73 yX5_isKing, .static yX5_isKing, .initialized RX5, .code yX5_isKing cX5_isKing 1 (some .boolean)])
def wsX5_crowning : List Cond := .code yX5_crowning cX5_crowning 1 (some .int) :: ([])
def wsX5_note : List Cond := .code yX5_note cX5_note 9 none :: ([.constant RX5 77 (262144), .fieldLink RX5 19 "JumpBoardModel" "count" "[I", .fieldLink RX5 16 "JumpBoardModel" "list" "[I"] ++ wsX50)
def wsX5_leap : List Cond := .code yX5_leap cX5_leap 8 (some .boolean) :: ([.fieldLink RX5 31 "JumpBoardModel" "near" "[I", .fieldLink RX5 34 "JumpBoardModel" "far" "[I", .fieldLink RX5 7 "JumpBoardModel" "board" "[I", .fieldLink RX5 13 "JumpBoardModel" "mover" "[I", .methodLink RX5 90 yX5_sideOf, .static yX5_sideOf, .initialized RX5, .code yX5_sideOf cX5_sideOf 1 (some .int)] ++ wsX50)
def wsX5_jumps_r1 : List Cond := [Cond.fieldLink RX5 7 "JumpBoardModel" "board" "[I", Cond.fieldLink RX5 37 "JumpBoardModel" "stand" "[I", Cond.fieldLink RX5 40 "JumpBoardModel" "gone" "[I", Cond.fieldLink RX5 43 "JumpBoardModel" "way" "[I", Cond.fieldLink RX5 46 "JumpBoardModel" "could" "[Z", Cond.fieldLink RX5 31 "JumpBoardModel" "near" "[I", Cond.fieldLink RX5 34 "JumpBoardModel" "far" "[I", Cond.methodLink RX5 78 yX5_note, Cond.instanceMethod yX5_note, Cond.selects RX5 yX5_note yX5_note, Cond.initialized RX5, Cond.code yX5_note cX5_note 9 none, Cond.constant RX5 77 (262144), Cond.fieldLink RX5 19 "JumpBoardModel" "count" "[I", Cond.fieldLink RX5 16 "JumpBoardModel" "list" "[I", Cond.methodLink RX5 82 yX5_goes, Cond.static yX5_goes, Cond.code yX5_goes cX5_goes 2 (some .boolean), Cond.methodLink RX5 73 yX5_isKing, Cond.static yX5_isKing, Cond.code yX5_isKing cX5_isKing 1 (some .boolean), Cond.methodLink RX5 86 yX5_leap, Cond.instanceMethod yX5_leap, Cond.selects RX5 yX5_leap yX5_leap]
def wsX5_jumps_r2 : List Cond := [Cond.code yX5_leap cX5_leap 8 (some .boolean), Cond.fieldLink RX5 13 "JumpBoardModel" "mover" "[I", Cond.methodLink RX5 90 yX5_sideOf, Cond.static yX5_sideOf, Cond.code yX5_sideOf cX5_sideOf 1 (some .int), Cond.methodLink RX5 69 yX5_rowOf, Cond.static yX5_rowOf, Cond.code yX5_rowOf cX5_rowOf 1 (some .int), Cond.methodLink RX5 93 yX5_crowning, Cond.static yX5_crowning, Cond.code yX5_crowning cX5_crowning 1 (some .int)]
def wsX5_jumps : List Cond := .code yX5_jumps cX5_jumps 9 none :: ((wsX5_jumps_r1 ++ wsX5_jumps_r2) ++ wsX50)
def wsX5_steps : List Cond := .code yX5_steps cX5_steps 6 none :: ([.fieldLink RX5 7 "JumpBoardModel" "board" "[I", .fieldLink RX5 31 "JumpBoardModel" "near" "[I", .methodLink RX5 82 yX5_goes, .static yX5_goes, .initialized RX5, .code yX5_goes cX5_goes 2 (some .boolean), .methodLink RX5 73 yX5_isKing, .static yX5_isKing, .code yX5_isKing cX5_isKing 1 (some .boolean), .methodLink RX5 78 yX5_note, .instanceMethod yX5_note, .selects RX5 yX5_note yX5_note, .code yX5_note cX5_note 9 none, .constant RX5 77 (262144), .fieldLink RX5 19 "JumpBoardModel" "count" "[I", .fieldLink RX5 16 "JumpBoardModel" "list" "[I"] ++ wsX50)
def wsX5_generate_r1 : List Cond := [Cond.fieldLink RX5 19 "JumpBoardModel" "count" "[I", Cond.fieldLink RX5 7 "JumpBoardModel" "board" "[I", Cond.fieldLink RX5 13 "JumpBoardModel" "mover" "[I", Cond.methodLink RX5 90 yX5_sideOf, Cond.static yX5_sideOf, Cond.initialized RX5, Cond.code yX5_sideOf cX5_sideOf 1 (some .int), Cond.methodLink RX5 96 yX5_jumps, Cond.instanceMethod yX5_jumps, Cond.selects RX5 yX5_jumps yX5_jumps, Cond.code yX5_jumps cX5_jumps 9 none, Cond.fieldLink RX5 37 "JumpBoardModel" "stand" "[I", Cond.fieldLink RX5 40 "JumpBoardModel" "gone" "[I", Cond.fieldLink RX5 43 "JumpBoardModel" "way" "[I", Cond.fieldLink RX5 46 "JumpBoardModel" "could" "[Z", Cond.fieldLink RX5 31 "JumpBoardModel" "near" "[I", Cond.fieldLink RX5 34 "JumpBoardModel" "far" "[I", Cond.methodLink RX5 78 yX5_note, Cond.instanceMethod yX5_note, Cond.selects RX5 yX5_note yX5_note, Cond.code yX5_note cX5_note 9 none, Cond.constant RX5 77 (262144), Cond.fieldLink RX5 16 "JumpBoardModel" "list" "[I", Cond.methodLink RX5 82 yX5_goes]
def wsX5_generate_r2 : List Cond := [Cond.static yX5_goes, Cond.code yX5_goes cX5_goes 2 (some .boolean), Cond.methodLink RX5 73 yX5_isKing, Cond.static yX5_isKing, Cond.code yX5_isKing cX5_isKing 1 (some .boolean), Cond.methodLink RX5 86 yX5_leap, Cond.instanceMethod yX5_leap, Cond.selects RX5 yX5_leap yX5_leap, Cond.code yX5_leap cX5_leap 8 (some .boolean), Cond.methodLink RX5 69 yX5_rowOf, Cond.static yX5_rowOf, Cond.code yX5_rowOf cX5_rowOf 1 (some .int), Cond.methodLink RX5 93 yX5_crowning, Cond.static yX5_crowning, Cond.code yX5_crowning cX5_crowning 1 (some .int), Cond.methodLink RX5 100 yX5_steps, Cond.instanceMethod yX5_steps, Cond.selects RX5 yX5_steps yX5_steps, Cond.code yX5_steps cX5_steps 6 none]
def wsX5_generate : List Cond := .code yX5_generate cX5_generate 4 none :: ((wsX5_generate_r1 ++ wsX5_generate_r2) ++ wsX50)
def wsX5_beginning : List Cond := .code yX5_beginning cX5_beginning 1 (some .int) :: ([.constant RX5 77 (262144)])
def wsX5_end : List Cond := .code yX5_end cX5_end 1 (some .int) :: ([.constant RX5 77 (262144)])
def wsX5_make : List Cond := .code yX5_make cX5_make 6 none :: ([.fieldLink RX5 16 "JumpBoardModel" "list" "[I", .constant RX5 77 (262144), .fieldLink RX5 7 "JumpBoardModel" "board" "[I", .fieldLink RX5 13 "JumpBoardModel" "mover" "[I", .methodLink RX5 103 yX5_beginning, .static yX5_beginning, .initialized RX5, .code yX5_beginning cX5_beginning 1 (some .int), .methodLink RX5 106 yX5_end, .static yX5_end, .code yX5_end cX5_end 1 (some .int), .methodLink RX5 69 yX5_rowOf, .static yX5_rowOf, .code yX5_rowOf cX5_rowOf 1 (some .int), .methodLink RX5 93 yX5_crowning, .static yX5_crowning, .code yX5_crowning cX5_crowning 1 (some .int)] ++ wsX50)
def wsX5_code : List Cond := .code yX5_code cX5_code 5 (some .int) :: ([])
def wsX5_develop : List Cond := .code yX5_develop cX5_develop 13 none :: ([.fieldLink RX5 56 "JumpBoardModel" "follow" "[I", .fieldLink RX5 31 "JumpBoardModel" "near" "[I", .fieldLink RX5 34 "JumpBoardModel" "far" "[I", .methodLink RX5 109 yX5_code, .static yX5_code, .initialized RX5, .code yX5_code cX5_code 5 (some .int), .methodLink RX5 69 yX5_rowOf, .static yX5_rowOf, .code yX5_rowOf cX5_rowOf 1 (some .int), .methodLink RX5 93 yX5_crowning, .static yX5_crowning, .code yX5_crowning cX5_crowning 1 (some .int)] ++ wsX50)
def wsX5_someLost : List Cond := .code yX5_someLost cX5_someLost 6 (some .boolean) :: ([.fieldLink RX5 56 "JumpBoardModel" "follow" "[I", .fieldLink RX5 59 "JumpBoardModel" "known" "[I"] ++ wsX50)
def wsX5_allWon : List Cond := .code yX5_allWon cX5_allWon 6 (some .int) :: ([.fieldLink RX5 56 "JumpBoardModel" "follow" "[I", .fieldLink RX5 59 "JumpBoardModel" "known" "[I"] ++ wsX50)
def wsX5_judge : List Cond := .code yX5_judge cX5_judge 3 (some .int) :: ([.methodLink RX5 125 yX5_someLost, .instanceMethod yX5_someLost, .selects RX5 yX5_someLost yX5_someLost, .initialized RX5, .code yX5_someLost cX5_someLost 6 (some .boolean), .fieldLink RX5 56 "JumpBoardModel" "follow" "[I", .fieldLink RX5 59 "JumpBoardModel" "known" "[I", .methodLink RX5 128 yX5_allWon, .instanceMethod yX5_allWon, .selects RX5 yX5_allWon yX5_allWon, .code yX5_allWon cX5_allWon 6 (some .int)] ++ wsX50)
def wsX5_solve_r1 : List Cond := [Cond.fieldLink RX5 113 "JumpBoardModel" "solved" "Z", Cond.fieldLink RX5 59 "JumpBoardModel" "known" "[I", Cond.fieldLink RX5 56 "JumpBoardModel" "follow" "[I", Cond.methodLink RX5 117 yX5_develop, Cond.instanceMethod yX5_develop, Cond.selects RX5 yX5_develop yX5_develop, Cond.initialized RX5, Cond.code yX5_develop cX5_develop 13 none, Cond.fieldLink RX5 31 "JumpBoardModel" "near" "[I", Cond.fieldLink RX5 34 "JumpBoardModel" "far" "[I", Cond.methodLink RX5 109 yX5_code, Cond.static yX5_code, Cond.code yX5_code cX5_code 5 (some .int), Cond.methodLink RX5 69 yX5_rowOf, Cond.static yX5_rowOf, Cond.code yX5_rowOf cX5_rowOf 1 (some .int), Cond.methodLink RX5 93 yX5_crowning, Cond.static yX5_crowning, Cond.code yX5_crowning cX5_crowning 1 (some .int), Cond.methodLink RX5 121 yX5_judge, Cond.instanceMethod yX5_judge, Cond.selects RX5 yX5_judge yX5_judge, Cond.code yX5_judge cX5_judge 3 (some .int), Cond.methodLink RX5 125 yX5_someLost]
def wsX5_solve_r2 : List Cond := [Cond.instanceMethod yX5_someLost, Cond.selects RX5 yX5_someLost yX5_someLost, Cond.code yX5_someLost cX5_someLost 6 (some .boolean), Cond.methodLink RX5 128 yX5_allWon, Cond.instanceMethod yX5_allWon, Cond.selects RX5 yX5_allWon yX5_allWon, Cond.code yX5_allWon cX5_allWon 6 (some .int)]
def wsX5_solve : List Cond := .code yX5_solve cX5_solve 5 none :: ((wsX5_solve_r1 ++ wsX5_solve_r2) ++ wsX50)
def wsX5_ending : List Cond := .code yX5_ending cX5_ending 7 (some .int) :: ([.fieldLink RX5 7 "JumpBoardModel" "board" "[I", .fieldLink RX5 13 "JumpBoardModel" "mover" "[I", .methodLink RX5 90 yX5_sideOf, .static yX5_sideOf, .initialized RX5, .code yX5_sideOf cX5_sideOf 1 (some .int), .methodLink RX5 73 yX5_isKing, .static yX5_isKing, .code yX5_isKing cX5_isKing 1 (some .boolean), .methodLink RX5 109 yX5_code, .static yX5_code, .code yX5_code cX5_code 5 (some .int)] ++ wsX50)
def wsX5_verdict_r1 : List Cond := [Cond.fieldLink RX5 59 "JumpBoardModel" "known" "[I", Cond.methodLink RX5 131 yX5_ending, Cond.instanceMethod yX5_ending, Cond.selects RX5 yX5_ending yX5_ending, Cond.initialized RX5, Cond.code yX5_ending cX5_ending 7 (some .int), Cond.fieldLink RX5 7 "JumpBoardModel" "board" "[I", Cond.fieldLink RX5 13 "JumpBoardModel" "mover" "[I", Cond.methodLink RX5 90 yX5_sideOf, Cond.static yX5_sideOf, Cond.code yX5_sideOf cX5_sideOf 1 (some .int), Cond.methodLink RX5 73 yX5_isKing, Cond.static yX5_isKing, Cond.code yX5_isKing cX5_isKing 1 (some .boolean), Cond.methodLink RX5 109 yX5_code, Cond.static yX5_code, Cond.code yX5_code cX5_code 5 (some .int), Cond.methodLink RX5 134 yX5_solve, Cond.instanceMethod yX5_solve, Cond.selects RX5 yX5_solve yX5_solve, Cond.code yX5_solve cX5_solve 5 none, Cond.fieldLink RX5 113 "JumpBoardModel" "solved" "Z", Cond.fieldLink RX5 56 "JumpBoardModel" "follow" "[I", Cond.methodLink RX5 117 yX5_develop]
def wsX5_verdict_r2 : List Cond := [Cond.instanceMethod yX5_develop, Cond.selects RX5 yX5_develop yX5_develop, Cond.code yX5_develop cX5_develop 13 none, Cond.fieldLink RX5 31 "JumpBoardModel" "near" "[I", Cond.fieldLink RX5 34 "JumpBoardModel" "far" "[I", Cond.methodLink RX5 69 yX5_rowOf, Cond.static yX5_rowOf, Cond.code yX5_rowOf cX5_rowOf 1 (some .int), Cond.methodLink RX5 93 yX5_crowning, Cond.static yX5_crowning, Cond.code yX5_crowning cX5_crowning 1 (some .int), Cond.methodLink RX5 121 yX5_judge, Cond.instanceMethod yX5_judge, Cond.selects RX5 yX5_judge yX5_judge, Cond.code yX5_judge cX5_judge 3 (some .int), Cond.methodLink RX5 125 yX5_someLost, Cond.instanceMethod yX5_someLost, Cond.selects RX5 yX5_someLost yX5_someLost, Cond.code yX5_someLost cX5_someLost 6 (some .boolean), Cond.methodLink RX5 128 yX5_allWon, Cond.instanceMethod yX5_allWon, Cond.selects RX5 yX5_allWon yX5_allWon, Cond.code yX5_allWon cX5_allWon 6 (some .int)]
def wsX5_verdict : List Cond := .code yX5_verdict cX5_verdict 3 (some .int) :: ((wsX5_verdict_r1 ++ wsX5_verdict_r2) ++ wsX50)
def wsX5_material : List Cond := .code yX5_material cX5_material 6 (some .int) :: ([.fieldLink RX5 7 "JumpBoardModel" "board" "[I", .fieldLink RX5 13 "JumpBoardModel" "mover" "[I", .methodLink RX5 73 yX5_isKing, .static yX5_isKing, .initialized RX5, .code yX5_isKing cX5_isKing 1 (some .boolean), .methodLink RX5 90 yX5_sideOf, .static yX5_sideOf, .code yX5_sideOf cX5_sideOf 1 (some .int)] ++ wsX50)
def wsX5_atOnce_r1 : List Cond := [Cond.fieldLink RX5 59 "JumpBoardModel" "known" "[I", Cond.fieldLink RX5 19 "JumpBoardModel" "count" "[I", Cond.fieldLink RX5 22 "JumpBoardModel" "left" "[I", Cond.methodLink RX5 131 yX5_ending, Cond.instanceMethod yX5_ending, Cond.selects RX5 yX5_ending yX5_ending, Cond.initialized RX5, Cond.code yX5_ending cX5_ending 7 (some .int), Cond.fieldLink RX5 7 "JumpBoardModel" "board" "[I", Cond.fieldLink RX5 13 "JumpBoardModel" "mover" "[I", Cond.methodLink RX5 90 yX5_sideOf, Cond.static yX5_sideOf, Cond.code yX5_sideOf cX5_sideOf 1 (some .int), Cond.methodLink RX5 73 yX5_isKing, Cond.static yX5_isKing, Cond.code yX5_isKing cX5_isKing 1 (some .boolean), Cond.methodLink RX5 109 yX5_code, Cond.static yX5_code, Cond.code yX5_code cX5_code 5 (some .int), Cond.methodLink RX5 134 yX5_solve, Cond.instanceMethod yX5_solve, Cond.selects RX5 yX5_solve yX5_solve, Cond.code yX5_solve cX5_solve 5 none, Cond.fieldLink RX5 113 "JumpBoardModel" "solved" "Z"]
def wsX5_atOnce_r2 : List Cond := [Cond.fieldLink RX5 56 "JumpBoardModel" "follow" "[I", Cond.methodLink RX5 117 yX5_develop, Cond.instanceMethod yX5_develop, Cond.selects RX5 yX5_develop yX5_develop, Cond.code yX5_develop cX5_develop 13 none, Cond.fieldLink RX5 31 "JumpBoardModel" "near" "[I", Cond.fieldLink RX5 34 "JumpBoardModel" "far" "[I", Cond.methodLink RX5 69 yX5_rowOf, Cond.static yX5_rowOf, Cond.code yX5_rowOf cX5_rowOf 1 (some .int), Cond.methodLink RX5 93 yX5_crowning, Cond.static yX5_crowning, Cond.code yX5_crowning cX5_crowning 1 (some .int), Cond.methodLink RX5 121 yX5_judge, Cond.instanceMethod yX5_judge, Cond.selects RX5 yX5_judge yX5_judge, Cond.code yX5_judge cX5_judge 3 (some .int), Cond.methodLink RX5 125 yX5_someLost, Cond.instanceMethod yX5_someLost, Cond.selects RX5 yX5_someLost yX5_someLost, Cond.code yX5_someLost cX5_someLost 6 (some .boolean), Cond.methodLink RX5 128 yX5_allWon, Cond.instanceMethod yX5_allWon, Cond.selects RX5 yX5_allWon yX5_allWon]
def wsX5_atOnce_r3 : List Cond := [Cond.code yX5_allWon cX5_allWon 6 (some .int), Cond.methodLink RX5 137 yX5_generate, Cond.instanceMethod yX5_generate, Cond.selects RX5 yX5_generate yX5_generate, Cond.code yX5_generate cX5_generate 4 none, Cond.methodLink RX5 96 yX5_jumps, Cond.instanceMethod yX5_jumps, Cond.selects RX5 yX5_jumps yX5_jumps, Cond.code yX5_jumps cX5_jumps 9 none, Cond.fieldLink RX5 37 "JumpBoardModel" "stand" "[I", Cond.fieldLink RX5 40 "JumpBoardModel" "gone" "[I", Cond.fieldLink RX5 43 "JumpBoardModel" "way" "[I", Cond.fieldLink RX5 46 "JumpBoardModel" "could" "[Z", Cond.methodLink RX5 78 yX5_note, Cond.instanceMethod yX5_note, Cond.selects RX5 yX5_note yX5_note, Cond.code yX5_note cX5_note 9 none, Cond.constant RX5 77 (262144), Cond.fieldLink RX5 16 "JumpBoardModel" "list" "[I", Cond.methodLink RX5 82 yX5_goes, Cond.static yX5_goes, Cond.code yX5_goes cX5_goes 2 (some .boolean), Cond.methodLink RX5 86 yX5_leap, Cond.instanceMethod yX5_leap]
def wsX5_atOnce_r4 : List Cond := [Cond.selects RX5 yX5_leap yX5_leap, Cond.code yX5_leap cX5_leap 8 (some .boolean), Cond.methodLink RX5 100 yX5_steps, Cond.instanceMethod yX5_steps, Cond.selects RX5 yX5_steps yX5_steps, Cond.code yX5_steps cX5_steps 6 none, Cond.methodLink RX5 141 yX5_material, Cond.instanceMethod yX5_material, Cond.selects RX5 yX5_material yX5_material, Cond.code yX5_material cX5_material 6 (some .int)]
def wsX5_atOnce : List Cond := .code yX5_atOnce cX5_atOnce 4 (some .int) :: ((wsX5_atOnce_r1 ++ (wsX5_atOnce_r2 ++ (wsX5_atOnce_r3 ++ wsX5_atOnce_r4))) ++ wsX50)
def wsX5_enter_r1 : List Cond := [Cond.fieldLink RX5 25 "JumpBoardModel" "index" "[I", Cond.fieldLink RX5 28 "JumpBoardModel" "top" "[I", Cond.methodLink RX5 150 yX5_atOnce, Cond.instanceMethod yX5_atOnce, Cond.selects RX5 yX5_atOnce yX5_atOnce, Cond.initialized RX5, Cond.code yX5_atOnce cX5_atOnce 4 (some .int), Cond.fieldLink RX5 59 "JumpBoardModel" "known" "[I", Cond.fieldLink RX5 19 "JumpBoardModel" "count" "[I", Cond.fieldLink RX5 22 "JumpBoardModel" "left" "[I", Cond.methodLink RX5 131 yX5_ending, Cond.instanceMethod yX5_ending, Cond.selects RX5 yX5_ending yX5_ending, Cond.code yX5_ending cX5_ending 7 (some .int), Cond.fieldLink RX5 7 "JumpBoardModel" "board" "[I", Cond.fieldLink RX5 13 "JumpBoardModel" "mover" "[I", Cond.methodLink RX5 90 yX5_sideOf, Cond.static yX5_sideOf, Cond.code yX5_sideOf cX5_sideOf 1 (some .int), Cond.methodLink RX5 73 yX5_isKing, Cond.static yX5_isKing, Cond.code yX5_isKing cX5_isKing 1 (some .boolean), Cond.methodLink RX5 109 yX5_code, Cond.static yX5_code]
def wsX5_enter_r2 : List Cond := [Cond.code yX5_code cX5_code 5 (some .int), Cond.methodLink RX5 134 yX5_solve, Cond.instanceMethod yX5_solve, Cond.selects RX5 yX5_solve yX5_solve, Cond.code yX5_solve cX5_solve 5 none, Cond.fieldLink RX5 113 "JumpBoardModel" "solved" "Z", Cond.fieldLink RX5 56 "JumpBoardModel" "follow" "[I", Cond.methodLink RX5 117 yX5_develop, Cond.instanceMethod yX5_develop, Cond.selects RX5 yX5_develop yX5_develop, Cond.code yX5_develop cX5_develop 13 none, Cond.fieldLink RX5 31 "JumpBoardModel" "near" "[I", Cond.fieldLink RX5 34 "JumpBoardModel" "far" "[I", Cond.methodLink RX5 69 yX5_rowOf, Cond.static yX5_rowOf, Cond.code yX5_rowOf cX5_rowOf 1 (some .int), Cond.methodLink RX5 93 yX5_crowning, Cond.static yX5_crowning, Cond.code yX5_crowning cX5_crowning 1 (some .int), Cond.methodLink RX5 121 yX5_judge, Cond.instanceMethod yX5_judge, Cond.selects RX5 yX5_judge yX5_judge, Cond.code yX5_judge cX5_judge 3 (some .int), Cond.methodLink RX5 125 yX5_someLost]
def wsX5_enter_r3 : List Cond := [Cond.instanceMethod yX5_someLost, Cond.selects RX5 yX5_someLost yX5_someLost, Cond.code yX5_someLost cX5_someLost 6 (some .boolean), Cond.methodLink RX5 128 yX5_allWon, Cond.instanceMethod yX5_allWon, Cond.selects RX5 yX5_allWon yX5_allWon, Cond.code yX5_allWon cX5_allWon 6 (some .int), Cond.methodLink RX5 137 yX5_generate, Cond.instanceMethod yX5_generate, Cond.selects RX5 yX5_generate yX5_generate, Cond.code yX5_generate cX5_generate 4 none, Cond.methodLink RX5 96 yX5_jumps, Cond.instanceMethod yX5_jumps, Cond.selects RX5 yX5_jumps yX5_jumps, Cond.code yX5_jumps cX5_jumps 9 none, Cond.fieldLink RX5 37 "JumpBoardModel" "stand" "[I", Cond.fieldLink RX5 40 "JumpBoardModel" "gone" "[I", Cond.fieldLink RX5 43 "JumpBoardModel" "way" "[I", Cond.fieldLink RX5 46 "JumpBoardModel" "could" "[Z", Cond.methodLink RX5 78 yX5_note, Cond.instanceMethod yX5_note, Cond.selects RX5 yX5_note yX5_note, Cond.code yX5_note cX5_note 9 none, Cond.constant RX5 77 (262144)]
def wsX5_enter_r4 : List Cond := [Cond.fieldLink RX5 16 "JumpBoardModel" "list" "[I", Cond.methodLink RX5 82 yX5_goes, Cond.static yX5_goes, Cond.code yX5_goes cX5_goes 2 (some .boolean), Cond.methodLink RX5 86 yX5_leap, Cond.instanceMethod yX5_leap, Cond.selects RX5 yX5_leap yX5_leap, Cond.code yX5_leap cX5_leap 8 (some .boolean), Cond.methodLink RX5 100 yX5_steps, Cond.instanceMethod yX5_steps, Cond.selects RX5 yX5_steps yX5_steps, Cond.code yX5_steps cX5_steps 6 none, Cond.methodLink RX5 141 yX5_material, Cond.instanceMethod yX5_material, Cond.selects RX5 yX5_material yX5_material, Cond.code yX5_material cX5_material 6 (some .int)]
def wsX5_enter : List Cond := .code yX5_enter cX5_enter 2 (some .int) :: ((wsX5_enter_r1 ++ (wsX5_enter_r2 ++ (wsX5_enter_r3 ++ wsX5_enter_r4))) ++ wsX50)
def wsX5_search_r1 : List Cond := [Cond.fieldLink RX5 22 "JumpBoardModel" "left" "[I", Cond.fieldLink RX5 25 "JumpBoardModel" "index" "[I", Cond.fieldLink RX5 28 "JumpBoardModel" "top" "[I", Cond.fieldLink RX5 19 "JumpBoardModel" "count" "[I", Cond.methodLink RX5 144 yX5_enter, Cond.instanceMethod yX5_enter, Cond.selects RX5 yX5_enter yX5_enter, Cond.initialized RX5, Cond.code yX5_enter cX5_enter 2 (some .int), Cond.methodLink RX5 150 yX5_atOnce, Cond.instanceMethod yX5_atOnce, Cond.selects RX5 yX5_atOnce yX5_atOnce, Cond.code yX5_atOnce cX5_atOnce 4 (some .int), Cond.fieldLink RX5 59 "JumpBoardModel" "known" "[I", Cond.methodLink RX5 131 yX5_ending, Cond.instanceMethod yX5_ending, Cond.selects RX5 yX5_ending yX5_ending, Cond.code yX5_ending cX5_ending 7 (some .int), Cond.fieldLink RX5 7 "JumpBoardModel" "board" "[I", Cond.fieldLink RX5 13 "JumpBoardModel" "mover" "[I", Cond.methodLink RX5 90 yX5_sideOf, Cond.static yX5_sideOf, Cond.code yX5_sideOf cX5_sideOf 1 (some .int), Cond.methodLink RX5 73 yX5_isKing]
def wsX5_search_r2 : List Cond := [Cond.static yX5_isKing, Cond.code yX5_isKing cX5_isKing 1 (some .boolean), Cond.methodLink RX5 109 yX5_code, Cond.static yX5_code, Cond.code yX5_code cX5_code 5 (some .int), Cond.methodLink RX5 134 yX5_solve, Cond.instanceMethod yX5_solve, Cond.selects RX5 yX5_solve yX5_solve, Cond.code yX5_solve cX5_solve 5 none, Cond.fieldLink RX5 113 "JumpBoardModel" "solved" "Z", Cond.fieldLink RX5 56 "JumpBoardModel" "follow" "[I", Cond.methodLink RX5 117 yX5_develop, Cond.instanceMethod yX5_develop, Cond.selects RX5 yX5_develop yX5_develop, Cond.code yX5_develop cX5_develop 13 none, Cond.fieldLink RX5 31 "JumpBoardModel" "near" "[I", Cond.fieldLink RX5 34 "JumpBoardModel" "far" "[I", Cond.methodLink RX5 69 yX5_rowOf, Cond.static yX5_rowOf, Cond.code yX5_rowOf cX5_rowOf 1 (some .int), Cond.methodLink RX5 93 yX5_crowning, Cond.static yX5_crowning, Cond.code yX5_crowning cX5_crowning 1 (some .int), Cond.methodLink RX5 121 yX5_judge]
def wsX5_search_r3 : List Cond := [Cond.instanceMethod yX5_judge, Cond.selects RX5 yX5_judge yX5_judge, Cond.code yX5_judge cX5_judge 3 (some .int), Cond.methodLink RX5 125 yX5_someLost, Cond.instanceMethod yX5_someLost, Cond.selects RX5 yX5_someLost yX5_someLost, Cond.code yX5_someLost cX5_someLost 6 (some .boolean), Cond.methodLink RX5 128 yX5_allWon, Cond.instanceMethod yX5_allWon, Cond.selects RX5 yX5_allWon yX5_allWon, Cond.code yX5_allWon cX5_allWon 6 (some .int), Cond.methodLink RX5 137 yX5_generate, Cond.instanceMethod yX5_generate, Cond.selects RX5 yX5_generate yX5_generate, Cond.code yX5_generate cX5_generate 4 none, Cond.methodLink RX5 96 yX5_jumps, Cond.instanceMethod yX5_jumps, Cond.selects RX5 yX5_jumps yX5_jumps, Cond.code yX5_jumps cX5_jumps 9 none, Cond.fieldLink RX5 37 "JumpBoardModel" "stand" "[I", Cond.fieldLink RX5 40 "JumpBoardModel" "gone" "[I", Cond.fieldLink RX5 43 "JumpBoardModel" "way" "[I", Cond.fieldLink RX5 46 "JumpBoardModel" "could" "[Z", Cond.methodLink RX5 78 yX5_note]
def wsX5_search_r4 : List Cond := [Cond.instanceMethod yX5_note, Cond.selects RX5 yX5_note yX5_note, Cond.code yX5_note cX5_note 9 none, Cond.constant RX5 77 (262144), Cond.fieldLink RX5 16 "JumpBoardModel" "list" "[I", Cond.methodLink RX5 82 yX5_goes, Cond.static yX5_goes, Cond.code yX5_goes cX5_goes 2 (some .boolean), Cond.methodLink RX5 86 yX5_leap, Cond.instanceMethod yX5_leap, Cond.selects RX5 yX5_leap yX5_leap, Cond.code yX5_leap cX5_leap 8 (some .boolean), Cond.methodLink RX5 100 yX5_steps, Cond.instanceMethod yX5_steps, Cond.selects RX5 yX5_steps yX5_steps, Cond.code yX5_steps cX5_steps 6 none, Cond.methodLink RX5 141 yX5_material, Cond.instanceMethod yX5_material, Cond.selects RX5 yX5_material yX5_material, Cond.code yX5_material cX5_material 6 (some .int), Cond.methodLink RX5 147 yX5_make, Cond.instanceMethod yX5_make, Cond.selects RX5 yX5_make yX5_make, Cond.code yX5_make cX5_make 6 none]
def wsX5_search_r5 : List Cond := [Cond.methodLink RX5 103 yX5_beginning, Cond.static yX5_beginning, Cond.code yX5_beginning cX5_beginning 1 (some .int), Cond.methodLink RX5 106 yX5_end, Cond.static yX5_end, Cond.code yX5_end cX5_end 1 (some .int)]
def wsX5_search : List Cond := .code yX5_search cX5_search 5 (some .int) :: ((wsX5_search_r1 ++ (wsX5_search_r2 ++ (wsX5_search_r3 ++ (wsX5_search_r4 ++ wsX5_search_r5)))) ++ wsX50)
def wsX5_value_r1 : List Cond := [Cond.methodLink RX5 153 yX5_search, Cond.instanceMethod yX5_search, Cond.selects RX5 yX5_search yX5_search, Cond.initialized RX5, Cond.code yX5_search cX5_search 5 (some .int), Cond.fieldLink RX5 22 "JumpBoardModel" "left" "[I", Cond.fieldLink RX5 25 "JumpBoardModel" "index" "[I", Cond.fieldLink RX5 28 "JumpBoardModel" "top" "[I", Cond.fieldLink RX5 19 "JumpBoardModel" "count" "[I", Cond.methodLink RX5 144 yX5_enter, Cond.instanceMethod yX5_enter, Cond.selects RX5 yX5_enter yX5_enter, Cond.code yX5_enter cX5_enter 2 (some .int), Cond.methodLink RX5 150 yX5_atOnce, Cond.instanceMethod yX5_atOnce, Cond.selects RX5 yX5_atOnce yX5_atOnce, Cond.code yX5_atOnce cX5_atOnce 4 (some .int), Cond.fieldLink RX5 59 "JumpBoardModel" "known" "[I", Cond.methodLink RX5 131 yX5_ending, Cond.instanceMethod yX5_ending, Cond.selects RX5 yX5_ending yX5_ending, Cond.code yX5_ending cX5_ending 7 (some .int), Cond.fieldLink RX5 7 "JumpBoardModel" "board" "[I", Cond.fieldLink RX5 13 "JumpBoardModel" "mover" "[I"]
def wsX5_value_r2 : List Cond := [Cond.methodLink RX5 90 yX5_sideOf, Cond.static yX5_sideOf, Cond.code yX5_sideOf cX5_sideOf 1 (some .int), Cond.methodLink RX5 73 yX5_isKing, Cond.static yX5_isKing, Cond.code yX5_isKing cX5_isKing 1 (some .boolean), Cond.methodLink RX5 109 yX5_code, Cond.static yX5_code, Cond.code yX5_code cX5_code 5 (some .int), Cond.methodLink RX5 134 yX5_solve, Cond.instanceMethod yX5_solve, Cond.selects RX5 yX5_solve yX5_solve, Cond.code yX5_solve cX5_solve 5 none, Cond.fieldLink RX5 113 "JumpBoardModel" "solved" "Z", Cond.fieldLink RX5 56 "JumpBoardModel" "follow" "[I", Cond.methodLink RX5 117 yX5_develop, Cond.instanceMethod yX5_develop, Cond.selects RX5 yX5_develop yX5_develop, Cond.code yX5_develop cX5_develop 13 none, Cond.fieldLink RX5 31 "JumpBoardModel" "near" "[I", Cond.fieldLink RX5 34 "JumpBoardModel" "far" "[I", Cond.methodLink RX5 69 yX5_rowOf, Cond.static yX5_rowOf, Cond.code yX5_rowOf cX5_rowOf 1 (some .int)]
def wsX5_value_r3 : List Cond := [Cond.methodLink RX5 93 yX5_crowning, Cond.static yX5_crowning, Cond.code yX5_crowning cX5_crowning 1 (some .int), Cond.methodLink RX5 121 yX5_judge, Cond.instanceMethod yX5_judge, Cond.selects RX5 yX5_judge yX5_judge, Cond.code yX5_judge cX5_judge 3 (some .int), Cond.methodLink RX5 125 yX5_someLost, Cond.instanceMethod yX5_someLost, Cond.selects RX5 yX5_someLost yX5_someLost, Cond.code yX5_someLost cX5_someLost 6 (some .boolean), Cond.methodLink RX5 128 yX5_allWon, Cond.instanceMethod yX5_allWon, Cond.selects RX5 yX5_allWon yX5_allWon, Cond.code yX5_allWon cX5_allWon 6 (some .int), Cond.methodLink RX5 137 yX5_generate, Cond.instanceMethod yX5_generate, Cond.selects RX5 yX5_generate yX5_generate, Cond.code yX5_generate cX5_generate 4 none, Cond.methodLink RX5 96 yX5_jumps, Cond.instanceMethod yX5_jumps, Cond.selects RX5 yX5_jumps yX5_jumps, Cond.code yX5_jumps cX5_jumps 9 none, Cond.fieldLink RX5 37 "JumpBoardModel" "stand" "[I"]
def wsX5_value_r4 : List Cond := [Cond.fieldLink RX5 40 "JumpBoardModel" "gone" "[I", Cond.fieldLink RX5 43 "JumpBoardModel" "way" "[I", Cond.fieldLink RX5 46 "JumpBoardModel" "could" "[Z", Cond.methodLink RX5 78 yX5_note, Cond.instanceMethod yX5_note, Cond.selects RX5 yX5_note yX5_note, Cond.code yX5_note cX5_note 9 none, Cond.constant RX5 77 (262144), Cond.fieldLink RX5 16 "JumpBoardModel" "list" "[I", Cond.methodLink RX5 82 yX5_goes, Cond.static yX5_goes, Cond.code yX5_goes cX5_goes 2 (some .boolean), Cond.methodLink RX5 86 yX5_leap, Cond.instanceMethod yX5_leap, Cond.selects RX5 yX5_leap yX5_leap, Cond.code yX5_leap cX5_leap 8 (some .boolean), Cond.methodLink RX5 100 yX5_steps, Cond.instanceMethod yX5_steps, Cond.selects RX5 yX5_steps yX5_steps, Cond.code yX5_steps cX5_steps 6 none, Cond.methodLink RX5 141 yX5_material, Cond.instanceMethod yX5_material, Cond.selects RX5 yX5_material yX5_material, Cond.code yX5_material cX5_material 6 (some .int)]
def wsX5_value_r5 : List Cond := [Cond.methodLink RX5 147 yX5_make, Cond.instanceMethod yX5_make, Cond.selects RX5 yX5_make yX5_make, Cond.code yX5_make cX5_make 6 none, Cond.methodLink RX5 103 yX5_beginning, Cond.static yX5_beginning, Cond.code yX5_beginning cX5_beginning 1 (some .int), Cond.methodLink RX5 106 yX5_end, Cond.static yX5_end, Cond.code yX5_end cX5_end 1 (some .int)]
def wsX5_value : List Cond := .code yX5_value cX5_value 2 (some .int) :: ((wsX5_value_r1 ++ (wsX5_value_r2 ++ (wsX5_value_r3 ++ (wsX5_value_r4 ++ wsX5_value_r5)))) ++ wsX50)
def wsX5_best_r1 : List Cond := [Cond.fieldLink RX5 19 "JumpBoardModel" "count" "[I", Cond.methodLink RX5 137 yX5_generate, Cond.instanceMethod yX5_generate, Cond.selects RX5 yX5_generate yX5_generate, Cond.initialized RX5, Cond.code yX5_generate cX5_generate 4 none, Cond.fieldLink RX5 7 "JumpBoardModel" "board" "[I", Cond.fieldLink RX5 13 "JumpBoardModel" "mover" "[I", Cond.methodLink RX5 90 yX5_sideOf, Cond.static yX5_sideOf, Cond.code yX5_sideOf cX5_sideOf 1 (some .int), Cond.methodLink RX5 96 yX5_jumps, Cond.instanceMethod yX5_jumps, Cond.selects RX5 yX5_jumps yX5_jumps, Cond.code yX5_jumps cX5_jumps 9 none, Cond.fieldLink RX5 37 "JumpBoardModel" "stand" "[I", Cond.fieldLink RX5 40 "JumpBoardModel" "gone" "[I", Cond.fieldLink RX5 43 "JumpBoardModel" "way" "[I", Cond.fieldLink RX5 46 "JumpBoardModel" "could" "[Z", Cond.fieldLink RX5 31 "JumpBoardModel" "near" "[I", Cond.fieldLink RX5 34 "JumpBoardModel" "far" "[I", Cond.methodLink RX5 78 yX5_note, Cond.instanceMethod yX5_note, Cond.selects RX5 yX5_note yX5_note]
def wsX5_best_r2 : List Cond := [Cond.code yX5_note cX5_note 9 none, Cond.constant RX5 77 (262144), Cond.fieldLink RX5 16 "JumpBoardModel" "list" "[I", Cond.methodLink RX5 82 yX5_goes, Cond.static yX5_goes, Cond.code yX5_goes cX5_goes 2 (some .boolean), Cond.methodLink RX5 73 yX5_isKing, Cond.static yX5_isKing, Cond.code yX5_isKing cX5_isKing 1 (some .boolean), Cond.methodLink RX5 86 yX5_leap, Cond.instanceMethod yX5_leap, Cond.selects RX5 yX5_leap yX5_leap, Cond.code yX5_leap cX5_leap 8 (some .boolean), Cond.methodLink RX5 69 yX5_rowOf, Cond.static yX5_rowOf, Cond.code yX5_rowOf cX5_rowOf 1 (some .int), Cond.methodLink RX5 93 yX5_crowning, Cond.static yX5_crowning, Cond.code yX5_crowning cX5_crowning 1 (some .int), Cond.methodLink RX5 100 yX5_steps, Cond.instanceMethod yX5_steps, Cond.selects RX5 yX5_steps yX5_steps, Cond.code yX5_steps cX5_steps 6 none, Cond.methodLink RX5 147 yX5_make]
def wsX5_best_r3 : List Cond := [Cond.instanceMethod yX5_make, Cond.selects RX5 yX5_make yX5_make, Cond.code yX5_make cX5_make 6 none, Cond.methodLink RX5 103 yX5_beginning, Cond.static yX5_beginning, Cond.code yX5_beginning cX5_beginning 1 (some .int), Cond.methodLink RX5 106 yX5_end, Cond.static yX5_end, Cond.code yX5_end cX5_end 1 (some .int), Cond.methodLink RX5 153 yX5_search, Cond.instanceMethod yX5_search, Cond.selects RX5 yX5_search yX5_search, Cond.code yX5_search cX5_search 5 (some .int), Cond.fieldLink RX5 22 "JumpBoardModel" "left" "[I", Cond.fieldLink RX5 25 "JumpBoardModel" "index" "[I", Cond.fieldLink RX5 28 "JumpBoardModel" "top" "[I", Cond.methodLink RX5 144 yX5_enter, Cond.instanceMethod yX5_enter, Cond.selects RX5 yX5_enter yX5_enter, Cond.code yX5_enter cX5_enter 2 (some .int), Cond.methodLink RX5 150 yX5_atOnce, Cond.instanceMethod yX5_atOnce, Cond.selects RX5 yX5_atOnce yX5_atOnce, Cond.code yX5_atOnce cX5_atOnce 4 (some .int)]
def wsX5_best_r4 : List Cond := [Cond.fieldLink RX5 59 "JumpBoardModel" "known" "[I", Cond.methodLink RX5 131 yX5_ending, Cond.instanceMethod yX5_ending, Cond.selects RX5 yX5_ending yX5_ending, Cond.code yX5_ending cX5_ending 7 (some .int), Cond.methodLink RX5 109 yX5_code, Cond.static yX5_code, Cond.code yX5_code cX5_code 5 (some .int), Cond.methodLink RX5 134 yX5_solve, Cond.instanceMethod yX5_solve, Cond.selects RX5 yX5_solve yX5_solve, Cond.code yX5_solve cX5_solve 5 none, Cond.fieldLink RX5 113 "JumpBoardModel" "solved" "Z", Cond.fieldLink RX5 56 "JumpBoardModel" "follow" "[I", Cond.methodLink RX5 117 yX5_develop, Cond.instanceMethod yX5_develop, Cond.selects RX5 yX5_develop yX5_develop, Cond.code yX5_develop cX5_develop 13 none, Cond.methodLink RX5 121 yX5_judge, Cond.instanceMethod yX5_judge, Cond.selects RX5 yX5_judge yX5_judge, Cond.code yX5_judge cX5_judge 3 (some .int), Cond.methodLink RX5 125 yX5_someLost, Cond.instanceMethod yX5_someLost]
def wsX5_best_r5 : List Cond := [Cond.selects RX5 yX5_someLost yX5_someLost, Cond.code yX5_someLost cX5_someLost 6 (some .boolean), Cond.methodLink RX5 128 yX5_allWon, Cond.instanceMethod yX5_allWon, Cond.selects RX5 yX5_allWon yX5_allWon, Cond.code yX5_allWon cX5_allWon 6 (some .int), Cond.methodLink RX5 141 yX5_material, Cond.instanceMethod yX5_material, Cond.selects RX5 yX5_material yX5_material, Cond.code yX5_material cX5_material 6 (some .int)]
def wsX5_best : List Cond := .code yX5_best cX5_best 6 (some .int) :: ((wsX5_best_r1 ++ (wsX5_best_r2 ++ (wsX5_best_r3 ++ (wsX5_best_r4 ++ wsX5_best_r5)))) ++ wsX50)
def wsX5_ways_r1 : List Cond := [Cond.fieldLink RX5 25 "JumpBoardModel" "index" "[I", Cond.fieldLink RX5 19 "JumpBoardModel" "count" "[I", Cond.methodLink RX5 137 yX5_generate, Cond.instanceMethod yX5_generate, Cond.selects RX5 yX5_generate yX5_generate, Cond.initialized RX5, Cond.code yX5_generate cX5_generate 4 none, Cond.fieldLink RX5 7 "JumpBoardModel" "board" "[I", Cond.fieldLink RX5 13 "JumpBoardModel" "mover" "[I", Cond.methodLink RX5 90 yX5_sideOf, Cond.static yX5_sideOf, Cond.code yX5_sideOf cX5_sideOf 1 (some .int), Cond.methodLink RX5 96 yX5_jumps, Cond.instanceMethod yX5_jumps, Cond.selects RX5 yX5_jumps yX5_jumps, Cond.code yX5_jumps cX5_jumps 9 none, Cond.fieldLink RX5 37 "JumpBoardModel" "stand" "[I", Cond.fieldLink RX5 40 "JumpBoardModel" "gone" "[I", Cond.fieldLink RX5 43 "JumpBoardModel" "way" "[I", Cond.fieldLink RX5 46 "JumpBoardModel" "could" "[Z", Cond.fieldLink RX5 31 "JumpBoardModel" "near" "[I", Cond.fieldLink RX5 34 "JumpBoardModel" "far" "[I", Cond.methodLink RX5 78 yX5_note, Cond.instanceMethod yX5_note]
def wsX5_ways_r2 : List Cond := [Cond.selects RX5 yX5_note yX5_note, Cond.code yX5_note cX5_note 9 none, Cond.constant RX5 77 (262144), Cond.fieldLink RX5 16 "JumpBoardModel" "list" "[I", Cond.methodLink RX5 82 yX5_goes, Cond.static yX5_goes, Cond.code yX5_goes cX5_goes 2 (some .boolean), Cond.methodLink RX5 73 yX5_isKing, Cond.static yX5_isKing, Cond.code yX5_isKing cX5_isKing 1 (some .boolean), Cond.methodLink RX5 86 yX5_leap, Cond.instanceMethod yX5_leap, Cond.selects RX5 yX5_leap yX5_leap, Cond.code yX5_leap cX5_leap 8 (some .boolean), Cond.methodLink RX5 69 yX5_rowOf, Cond.static yX5_rowOf, Cond.code yX5_rowOf cX5_rowOf 1 (some .int), Cond.methodLink RX5 93 yX5_crowning, Cond.static yX5_crowning, Cond.code yX5_crowning cX5_crowning 1 (some .int), Cond.methodLink RX5 100 yX5_steps, Cond.instanceMethod yX5_steps, Cond.selects RX5 yX5_steps yX5_steps, Cond.code yX5_steps cX5_steps 6 none]
def wsX5_ways_r3 : List Cond := [Cond.methodLink RX5 147 yX5_make, Cond.instanceMethod yX5_make, Cond.selects RX5 yX5_make yX5_make, Cond.code yX5_make cX5_make 6 none, Cond.methodLink RX5 103 yX5_beginning, Cond.static yX5_beginning, Cond.code yX5_beginning cX5_beginning 1 (some .int), Cond.methodLink RX5 106 yX5_end, Cond.static yX5_end, Cond.code yX5_end cX5_end 1 (some .int)]
def wsX5_ways : List Cond := .code yX5_ways cX5_ways 4 (some .int) :: ((wsX5_ways_r1 ++ (wsX5_ways_r2 ++ wsX5_ways_r3)) ++ wsX50)
def wsX5_clear : List Cond := .code yX5_clear cX5_clear 2 none :: ([.fieldLink RX5 7 "JumpBoardModel" "board" "[I", .fieldLink RX5 13 "JumpBoardModel" "mover" "[I", .fieldLink RX5 156 "JumpBoardModel" "played" "I", .fieldLink RX5 160 "JumpBoardModel" "quiet" "I"] ++ wsX50)
def wsX5_put : List Cond := .code yX5_put cX5_put 3 (some .boolean) :: ([.fieldLink RX5 7 "JumpBoardModel" "board" "[I", .fieldLink RX5 156 "JumpBoardModel" "played" "I", .fieldLink RX5 160 "JumpBoardModel" "quiet" "I", .methodLink RX5 69 yX5_rowOf, .static yX5_rowOf, .initialized RX5, .code yX5_rowOf cX5_rowOf 1 (some .int)] ++ wsX50)
def wsX5_turn : List Cond := .code yX5_turn cX5_turn 2 (some .boolean) :: ([.fieldLink RX5 13 "JumpBoardModel" "mover" "[I", .fieldLink RX5 156 "JumpBoardModel" "played" "I", .fieldLink RX5 160 "JumpBoardModel" "quiet" "I"] ++ wsX50)
def wsX5_at : List Cond := .code yX5_at cX5_at 2 (some .int) :: ([.fieldLink RX5 7 "JumpBoardModel" "board" "[I"] ++ wsX50)
def wsX5_side : List Cond := .code yX5_side cX5_side 1 (some .int) :: ([.fieldLink RX5 13 "JumpBoardModel" "mover" "[I"] ++ wsX50)
def wsX5_moves_r1 : List Cond := [Cond.fieldLink RX5 19 "JumpBoardModel" "count" "[I", Cond.methodLink RX5 137 yX5_generate, Cond.instanceMethod yX5_generate, Cond.selects RX5 yX5_generate yX5_generate, Cond.initialized RX5, Cond.code yX5_generate cX5_generate 4 none, Cond.fieldLink RX5 7 "JumpBoardModel" "board" "[I", Cond.fieldLink RX5 13 "JumpBoardModel" "mover" "[I", Cond.methodLink RX5 90 yX5_sideOf, Cond.static yX5_sideOf, Cond.code yX5_sideOf cX5_sideOf 1 (some .int), Cond.methodLink RX5 96 yX5_jumps, Cond.instanceMethod yX5_jumps, Cond.selects RX5 yX5_jumps yX5_jumps, Cond.code yX5_jumps cX5_jumps 9 none, Cond.fieldLink RX5 37 "JumpBoardModel" "stand" "[I", Cond.fieldLink RX5 40 "JumpBoardModel" "gone" "[I", Cond.fieldLink RX5 43 "JumpBoardModel" "way" "[I", Cond.fieldLink RX5 46 "JumpBoardModel" "could" "[Z", Cond.fieldLink RX5 31 "JumpBoardModel" "near" "[I", Cond.fieldLink RX5 34 "JumpBoardModel" "far" "[I", Cond.methodLink RX5 78 yX5_note, Cond.instanceMethod yX5_note, Cond.selects RX5 yX5_note yX5_note]
def wsX5_moves_r2 : List Cond := [Cond.code yX5_note cX5_note 9 none, Cond.constant RX5 77 (262144), Cond.fieldLink RX5 16 "JumpBoardModel" "list" "[I", Cond.methodLink RX5 82 yX5_goes, Cond.static yX5_goes, Cond.code yX5_goes cX5_goes 2 (some .boolean), Cond.methodLink RX5 73 yX5_isKing, Cond.static yX5_isKing, Cond.code yX5_isKing cX5_isKing 1 (some .boolean), Cond.methodLink RX5 86 yX5_leap, Cond.instanceMethod yX5_leap, Cond.selects RX5 yX5_leap yX5_leap, Cond.code yX5_leap cX5_leap 8 (some .boolean), Cond.methodLink RX5 69 yX5_rowOf, Cond.static yX5_rowOf, Cond.code yX5_rowOf cX5_rowOf 1 (some .int), Cond.methodLink RX5 93 yX5_crowning, Cond.static yX5_crowning, Cond.code yX5_crowning cX5_crowning 1 (some .int), Cond.methodLink RX5 100 yX5_steps, Cond.instanceMethod yX5_steps, Cond.selects RX5 yX5_steps yX5_steps, Cond.code yX5_steps cX5_steps 6 none]
def wsX5_moves : List Cond := .code yX5_moves cX5_moves 1 (some .int) :: ((wsX5_moves_r1 ++ wsX5_moves_r2) ++ wsX50)
def wsX5_move_r1 : List Cond := [Cond.fieldLink RX5 16 "JumpBoardModel" "list" "[I", Cond.constant RX5 77 (262144), Cond.methodLink RX5 163 yX5_moves, Cond.instanceMethod yX5_moves, Cond.selects RX5 yX5_moves yX5_moves, Cond.initialized RX5, Cond.code yX5_moves cX5_moves 1 (some .int), Cond.fieldLink RX5 19 "JumpBoardModel" "count" "[I", Cond.methodLink RX5 137 yX5_generate, Cond.instanceMethod yX5_generate, Cond.selects RX5 yX5_generate yX5_generate, Cond.code yX5_generate cX5_generate 4 none, Cond.fieldLink RX5 7 "JumpBoardModel" "board" "[I", Cond.fieldLink RX5 13 "JumpBoardModel" "mover" "[I", Cond.methodLink RX5 90 yX5_sideOf, Cond.static yX5_sideOf, Cond.code yX5_sideOf cX5_sideOf 1 (some .int), Cond.methodLink RX5 96 yX5_jumps, Cond.instanceMethod yX5_jumps, Cond.selects RX5 yX5_jumps yX5_jumps, Cond.code yX5_jumps cX5_jumps 9 none, Cond.fieldLink RX5 37 "JumpBoardModel" "stand" "[I", Cond.fieldLink RX5 40 "JumpBoardModel" "gone" "[I", Cond.fieldLink RX5 43 "JumpBoardModel" "way" "[I"]
def wsX5_move_r2 : List Cond := [Cond.fieldLink RX5 46 "JumpBoardModel" "could" "[Z", Cond.fieldLink RX5 31 "JumpBoardModel" "near" "[I", Cond.fieldLink RX5 34 "JumpBoardModel" "far" "[I", Cond.methodLink RX5 78 yX5_note, Cond.instanceMethod yX5_note, Cond.selects RX5 yX5_note yX5_note, Cond.code yX5_note cX5_note 9 none, Cond.methodLink RX5 82 yX5_goes, Cond.static yX5_goes, Cond.code yX5_goes cX5_goes 2 (some .boolean), Cond.methodLink RX5 73 yX5_isKing, Cond.static yX5_isKing, Cond.code yX5_isKing cX5_isKing 1 (some .boolean), Cond.methodLink RX5 86 yX5_leap, Cond.instanceMethod yX5_leap, Cond.selects RX5 yX5_leap yX5_leap, Cond.code yX5_leap cX5_leap 8 (some .boolean), Cond.methodLink RX5 69 yX5_rowOf, Cond.static yX5_rowOf, Cond.code yX5_rowOf cX5_rowOf 1 (some .int), Cond.methodLink RX5 93 yX5_crowning, Cond.static yX5_crowning, Cond.code yX5_crowning cX5_crowning 1 (some .int), Cond.methodLink RX5 100 yX5_steps]
def wsX5_move_r3 : List Cond := [Cond.instanceMethod yX5_steps, Cond.selects RX5 yX5_steps yX5_steps, Cond.code yX5_steps cX5_steps 6 none, Cond.methodLink RX5 103 yX5_beginning, Cond.static yX5_beginning, Cond.code yX5_beginning cX5_beginning 1 (some .int), Cond.methodLink RX5 106 yX5_end, Cond.static yX5_end, Cond.code yX5_end cX5_end 1 (some .int)]
def wsX5_move : List Cond := .code yX5_move cX5_move 4 (some .int) :: ((wsX5_move_r1 ++ (wsX5_move_r2 ++ wsX5_move_r3)) ++ wsX50)
def wsX5_over_r1 : List Cond := [Cond.fieldLink RX5 13 "JumpBoardModel" "mover" "[I", Cond.fieldLink RX5 160 "JumpBoardModel" "quiet" "I", Cond.methodLink RX5 163 yX5_moves, Cond.instanceMethod yX5_moves, Cond.selects RX5 yX5_moves yX5_moves, Cond.initialized RX5, Cond.code yX5_moves cX5_moves 1 (some .int), Cond.fieldLink RX5 19 "JumpBoardModel" "count" "[I", Cond.methodLink RX5 137 yX5_generate, Cond.instanceMethod yX5_generate, Cond.selects RX5 yX5_generate yX5_generate, Cond.code yX5_generate cX5_generate 4 none, Cond.fieldLink RX5 7 "JumpBoardModel" "board" "[I", Cond.methodLink RX5 90 yX5_sideOf, Cond.static yX5_sideOf, Cond.code yX5_sideOf cX5_sideOf 1 (some .int), Cond.methodLink RX5 96 yX5_jumps, Cond.instanceMethod yX5_jumps, Cond.selects RX5 yX5_jumps yX5_jumps, Cond.code yX5_jumps cX5_jumps 9 none, Cond.fieldLink RX5 37 "JumpBoardModel" "stand" "[I", Cond.fieldLink RX5 40 "JumpBoardModel" "gone" "[I", Cond.fieldLink RX5 43 "JumpBoardModel" "way" "[I", Cond.fieldLink RX5 46 "JumpBoardModel" "could" "[Z"]
def wsX5_over_r2 : List Cond := [Cond.fieldLink RX5 31 "JumpBoardModel" "near" "[I", Cond.fieldLink RX5 34 "JumpBoardModel" "far" "[I", Cond.methodLink RX5 78 yX5_note, Cond.instanceMethod yX5_note, Cond.selects RX5 yX5_note yX5_note, Cond.code yX5_note cX5_note 9 none, Cond.constant RX5 77 (262144), Cond.fieldLink RX5 16 "JumpBoardModel" "list" "[I", Cond.methodLink RX5 82 yX5_goes, Cond.static yX5_goes, Cond.code yX5_goes cX5_goes 2 (some .boolean), Cond.methodLink RX5 73 yX5_isKing, Cond.static yX5_isKing, Cond.code yX5_isKing cX5_isKing 1 (some .boolean), Cond.methodLink RX5 86 yX5_leap, Cond.instanceMethod yX5_leap, Cond.selects RX5 yX5_leap yX5_leap, Cond.code yX5_leap cX5_leap 8 (some .boolean), Cond.methodLink RX5 69 yX5_rowOf, Cond.static yX5_rowOf, Cond.code yX5_rowOf cX5_rowOf 1 (some .int), Cond.methodLink RX5 93 yX5_crowning, Cond.static yX5_crowning, Cond.code yX5_crowning cX5_crowning 1 (some .int)]
def wsX5_over_r3 : List Cond := [Cond.methodLink RX5 100 yX5_steps, Cond.instanceMethod yX5_steps, Cond.selects RX5 yX5_steps yX5_steps, Cond.code yX5_steps cX5_steps 6 none]
def wsX5_over : List Cond := .code yX5_over cX5_over 1 (some .int) :: ((wsX5_over_r1 ++ (wsX5_over_r2 ++ wsX5_over_r3)) ++ wsX50)
def wsX5_play_r1 : List Cond := [Cond.fieldLink RX5 19 "JumpBoardModel" "count" "[I", Cond.fieldLink RX5 156 "JumpBoardModel" "played" "I", Cond.fieldLink RX5 16 "JumpBoardModel" "list" "[I", Cond.constant RX5 77 (262144), Cond.fieldLink RX5 7 "JumpBoardModel" "board" "[I", Cond.fieldLink RX5 50 "JumpBoardModel" "oldBoard" "[I", Cond.fieldLink RX5 53 "JumpBoardModel" "oldQuiet" "[I", Cond.fieldLink RX5 160 "JumpBoardModel" "quiet" "I", Cond.fieldLink RX5 13 "JumpBoardModel" "mover" "[I", Cond.methodLink RX5 167 yX5_over, Cond.instanceMethod yX5_over, Cond.selects RX5 yX5_over yX5_over, Cond.initialized RX5, Cond.code yX5_over cX5_over 1 (some .int), Cond.methodLink RX5 163 yX5_moves, Cond.instanceMethod yX5_moves, Cond.selects RX5 yX5_moves yX5_moves, Cond.code yX5_moves cX5_moves 1 (some .int), Cond.methodLink RX5 137 yX5_generate, Cond.instanceMethod yX5_generate, Cond.selects RX5 yX5_generate yX5_generate, Cond.code yX5_generate cX5_generate 4 none, Cond.methodLink RX5 90 yX5_sideOf, Cond.static yX5_sideOf]
def wsX5_play_r2 : List Cond := [Cond.code yX5_sideOf cX5_sideOf 1 (some .int), Cond.methodLink RX5 96 yX5_jumps, Cond.instanceMethod yX5_jumps, Cond.selects RX5 yX5_jumps yX5_jumps, Cond.code yX5_jumps cX5_jumps 9 none, Cond.fieldLink RX5 37 "JumpBoardModel" "stand" "[I", Cond.fieldLink RX5 40 "JumpBoardModel" "gone" "[I", Cond.fieldLink RX5 43 "JumpBoardModel" "way" "[I", Cond.fieldLink RX5 46 "JumpBoardModel" "could" "[Z", Cond.fieldLink RX5 31 "JumpBoardModel" "near" "[I", Cond.fieldLink RX5 34 "JumpBoardModel" "far" "[I", Cond.methodLink RX5 78 yX5_note, Cond.instanceMethod yX5_note, Cond.selects RX5 yX5_note yX5_note, Cond.code yX5_note cX5_note 9 none, Cond.methodLink RX5 82 yX5_goes, Cond.static yX5_goes, Cond.code yX5_goes cX5_goes 2 (some .boolean), Cond.methodLink RX5 73 yX5_isKing, Cond.static yX5_isKing, Cond.code yX5_isKing cX5_isKing 1 (some .boolean), Cond.methodLink RX5 86 yX5_leap, Cond.instanceMethod yX5_leap, Cond.selects RX5 yX5_leap yX5_leap]
def wsX5_play_r3 : List Cond := [Cond.code yX5_leap cX5_leap 8 (some .boolean), Cond.methodLink RX5 69 yX5_rowOf, Cond.static yX5_rowOf, Cond.code yX5_rowOf cX5_rowOf 1 (some .int), Cond.methodLink RX5 93 yX5_crowning, Cond.static yX5_crowning, Cond.code yX5_crowning cX5_crowning 1 (some .int), Cond.methodLink RX5 100 yX5_steps, Cond.instanceMethod yX5_steps, Cond.selects RX5 yX5_steps yX5_steps, Cond.code yX5_steps cX5_steps 6 none, Cond.methodLink RX5 103 yX5_beginning, Cond.static yX5_beginning, Cond.code yX5_beginning cX5_beginning 1 (some .int), Cond.methodLink RX5 147 yX5_make, Cond.instanceMethod yX5_make, Cond.selects RX5 yX5_make yX5_make, Cond.code yX5_make cX5_make 6 none, Cond.methodLink RX5 106 yX5_end, Cond.static yX5_end, Cond.code yX5_end cX5_end 1 (some .int)]
def wsX5_play : List Cond := .code yX5_play cX5_play 6 (some .int) :: ((wsX5_play_r1 ++ (wsX5_play_r2 ++ wsX5_play_r3)) ++ wsX50)
def wsX5_undo : List Cond := .code yX5_undo cX5_undo 2 (some .boolean) :: ([.fieldLink RX5 156 "JumpBoardModel" "played" "I", .fieldLink RX5 7 "JumpBoardModel" "board" "[I", .fieldLink RX5 50 "JumpBoardModel" "oldBoard" "[I", .fieldLink RX5 53 "JumpBoardModel" "oldQuiet" "[I", .fieldLink RX5 160 "JumpBoardModel" "quiet" "I", .fieldLink RX5 13 "JumpBoardModel" "mover" "[I"] ++ wsX50)
def wsX5_played : List Cond := .code yX5_played cX5_played 1 (some .int) :: ([.fieldLink RX5 156 "JumpBoardModel" "played" "I"] ++ wsX50)
def wsX5_quiet : List Cond := .code yX5_quiet cX5_quiet 1 (some .int) :: ([.fieldLink RX5 160 "JumpBoardModel" "quiet" "I"] ++ wsX50)
def wsJ9_max_7cf53 : List Cond := .code yJ9_max_7cf53 cJ9_max_7cf53 2 (some .int) :: ([])
def wsJ9_min_7cf53 : List Cond := .code yJ9_min_7cf53 cJ9_min_7cf53 2 (some .int) :: ([])
def wsL_law_r1 : List Cond := [Cond.classLink RL 7 RX4, Cond.instantiable RX4 8, Cond.initialized RX4, Cond.classLink RL 10 RX5, Cond.instantiable RX5 20, Cond.initialized RX5, Cond.methodLink RL 9 yX4_init, Cond.instanceMethod yX4_init, Cond.code yX4_init cX4_init 2 none, Cond.methodLink RX4 1 objectInit, Cond.instanceMethod objectInit, Cond.code objectInit ⟨#[0xb1]⟩ 1 none, Cond.classLink RX4 7 RX3, Cond.instantiable RX3 2, Cond.initialized RX3, Cond.fieldLink RX4 10 "JumpBoard" "rules" "LJumpBoard$Rules;", Cond.fieldLink RX4 16 "JumpBoard" "endings" "LJumpBoard$Endings;", Cond.classLink RX4 20 RX2, Cond.fieldLink RX4 22 "JumpBoard" "line" "[LJumpBoard$Position;", Cond.fieldLink RX4 26 "JumpBoard" "latest" "I", Cond.classLink RX4 30 RX1, Cond.instantiable RX1 2, Cond.initialized RX1, Cond.fieldLink RX4 33 "JumpBoard" "list" "LJumpBoard$MoveList;"]
def wsL_law_r2 : List Cond := [Cond.instantiable RX2 5, Cond.initialized RX2, Cond.fieldLink RX4 38 "JumpBoard" "after" "LJumpBoard$Position;", Cond.fieldLink RX4 42 "JumpBoard" "lists" "[LJumpBoard$MoveList;", Cond.fieldLink RX4 46 "JumpBoard" "spots" "[LJumpBoard$Position;", Cond.methodLink RX4 9 yX3_init, Cond.instanceMethod yX3_init, Cond.code yX3_init cX3_init 3 none, Cond.methodLink RX3 3 objectInit, Cond.arrayClass .int, Cond.fieldLink RX3 9 "JumpBoard$Rules" "near" "[I", Cond.fieldLink RX3 15 "JumpBoard$Rules" "behind" "[I", Cond.methodLink RX3 18 yX3_reach, Cond.static yX3_reach, Cond.code yX3_reach cX3_reach 5 (some .int), Cond.instanceMethod yX1_init, Cond.code yX1_init cX1_init 1 none, Cond.methodLink RX1 3 objectInit, Cond.fieldLink RX1 11 "JumpBoard$MoveList" "packed" "[I", Cond.instanceMethod yX2_init, Cond.code yX2_init cX2_init 1 none, Cond.methodLink RX2 3 objectInit, Cond.methodLink RX4 49 yX2_setUp, Cond.instanceMethod yX2_setUp]
def wsL_law_r3 : List Cond := [Cond.selects RX2 yX2_setUp yX2_setUp, Cond.code yX2_setUp cX2_setUp 1 none, Cond.fieldLink RX2 9 "JumpBoard$Position" "white" "I", Cond.constant RX2 30 (258048), Cond.fieldLink RX2 15 "JumpBoard$Position" "black" "I", Cond.methodLink RX2 27 yX2_wipe, Cond.instanceMethod yX2_wipe, Cond.selects RX2 yX2_wipe yX2_wipe, Cond.code yX2_wipe cX2_wipe 1 none, Cond.fieldLink RX2 18 "JumpBoard$Position" "kings" "I", Cond.fieldLink RX2 21 "JumpBoard$Position" "mover" "I", Cond.fieldLink RX2 24 "JumpBoard$Position" "kingSteps" "I", Cond.methodLink RL 12 yX5_init, Cond.instanceMethod yX5_init, Cond.code yX5_init cX5_init 3 none, Cond.methodLink RX5 1 objectInit, Cond.fieldLink RX5 7 "JumpBoardModel" "board" "[I", Cond.fieldLink RX5 13 "JumpBoardModel" "mover" "[I", Cond.fieldLink RX5 16 "JumpBoardModel" "list" "[I", Cond.fieldLink RX5 19 "JumpBoardModel" "count" "[I", Cond.fieldLink RX5 22 "JumpBoardModel" "left" "[I", Cond.fieldLink RX5 25 "JumpBoardModel" "index" "[I", Cond.fieldLink RX5 28 "JumpBoardModel" "top" "[I", Cond.fieldLink RX5 31 "JumpBoardModel" "near" "[I"]
def wsL_law_r4 : List Cond := [Cond.fieldLink RX5 34 "JumpBoardModel" "far" "[I", Cond.fieldLink RX5 37 "JumpBoardModel" "stand" "[I", Cond.fieldLink RX5 40 "JumpBoardModel" "gone" "[I", Cond.fieldLink RX5 43 "JumpBoardModel" "way" "[I", Cond.arrayClass .boolean, Cond.fieldLink RX5 46 "JumpBoardModel" "could" "[Z", Cond.fieldLink RX5 50 "JumpBoardModel" "oldBoard" "[I", Cond.fieldLink RX5 53 "JumpBoardModel" "oldQuiet" "[I", Cond.fieldLink RX5 56 "JumpBoardModel" "follow" "[I", Cond.fieldLink RX5 59 "JumpBoardModel" "known" "[I", Cond.methodLink RX5 62 yX5_reach, Cond.static yX5_reach, Cond.code yX5_reach cX5_reach 6 (some .int), Cond.methodLink RX5 69 yX5_rowOf, Cond.static yX5_rowOf, Cond.code yX5_rowOf cX5_rowOf 1 (some .int), Cond.methodLink RX5 66 yX5_begin, Cond.instanceMethod yX5_begin, Cond.selects RX5 yX5_begin yX5_begin, Cond.code yX5_begin cX5_begin 2 none, Cond.fieldLink RX5 156 "JumpBoardModel" "played" "I", Cond.fieldLink RX5 160 "JumpBoardModel" "quiet" "I", Cond.methodLink RL 13 yX4_begin, Cond.instanceMethod yX4_begin]
def wsL_law_r5 : List Cond := [Cond.selects RX4 yX4_begin yX4_begin, Cond.code yX4_begin cX4_begin 1 none, Cond.methodLink RL 16 yX5_begin, Cond.methodLink RL 17 yX4_clear, Cond.instanceMethod yX4_clear, Cond.selects RX4 yX4_clear yX4_clear, Cond.code yX4_clear cX4_clear 1 none, Cond.methodLink RX4 52 yX2_wipe, Cond.methodLink RL 20 yX5_clear, Cond.instanceMethod yX5_clear, Cond.selects RX5 yX5_clear yX5_clear, Cond.code yX5_clear cX5_clear 2 none, Cond.methodLink RL 21 yX4_put, Cond.instanceMethod yX4_put, Cond.selects RX4 yX4_put yX4_put, Cond.code yX4_put cX4_put 4 (some .boolean), Cond.constant RX4 59 (229376), Cond.methodLink RX4 55 yX4_isSquare, Cond.static yX4_isSquare, Cond.code yX4_isSquare cX4_isSquare 1 (some .boolean), Cond.methodLink RX4 60 yX4_forgetGame, Cond.instanceMethod yX4_forgetGame, Cond.selects RX4 yX4_forgetGame yX4_forgetGame, Cond.code yX4_forgetGame cX4_forgetGame 1 none]
def wsL_law_r6 : List Cond := [Cond.fieldLink RX4 114 "JumpBoard$Position" "kingSteps" "I", Cond.methodLink RX4 136 yX2_copy, Cond.instanceMethod yX2_copy, Cond.selects RX2 yX2_copy yX2_copy, Cond.code yX2_copy cX2_copy 2 none, Cond.methodLink RX4 63 yX2_place, Cond.instanceMethod yX2_place, Cond.selects RX2 yX2_place yX2_place, Cond.code yX2_place cX2_place 3 none, Cond.methodLink RL 25 yX5_put, Cond.instanceMethod yX5_put, Cond.selects RX5 yX5_put yX5_put, Cond.code yX5_put cX5_put 3 (some .boolean), Cond.methodLink RL 26 yX4_turn, Cond.instanceMethod yX4_turn, Cond.selects RX4 yX4_turn yX4_turn, Cond.code yX4_turn cX4_turn 2 (some .boolean), Cond.fieldLink RX4 67 "JumpBoard$Position" "mover" "I", Cond.methodLink RL 30 yX5_turn, Cond.instanceMethod yX5_turn, Cond.selects RX5 yX5_turn yX5_turn, Cond.code yX5_turn cX5_turn 2 (some .boolean), Cond.methodLink RL 31 yX4_at, Cond.instanceMethod yX4_at]
def wsL_law_r7 : List Cond := [Cond.selects RX4 yX4_at yX4_at, Cond.code yX4_at cX4_at 2 (some .int), Cond.methodLink RX4 70 yX2_pieceOn, Cond.instanceMethod yX2_pieceOn, Cond.selects RX2 yX2_pieceOn yX2_pieceOn, Cond.code yX2_pieceOn cX2_pieceOn 3 (some .int), Cond.methodLink RL 35 yX5_at, Cond.instanceMethod yX5_at, Cond.selects RX5 yX5_at yX5_at, Cond.code yX5_at cX5_at 2 (some .int), Cond.methodLink RL 36 yX4_side, Cond.instanceMethod yX4_side, Cond.selects RX4 yX4_side yX4_side, Cond.code yX4_side cX4_side 1 (some .int), Cond.methodLink RL 40 yX5_side, Cond.instanceMethod yX5_side, Cond.selects RX5 yX5_side yX5_side, Cond.code yX5_side cX5_side 1 (some .int), Cond.methodLink RL 41 yX4_moves, Cond.instanceMethod yX4_moves, Cond.selects RX4 yX4_moves yX4_moves, Cond.code yX4_moves cX4_moves 1 (some .int), Cond.fieldLink RX4 78 "JumpBoard$MoveList" "count" "I", Cond.methodLink RX4 74 yX3_listMoves]
def wsL_law_r8 : List Cond := [Cond.instanceMethod yX3_listMoves, Cond.selects RX3 yX3_listMoves yX3_listMoves, Cond.code yX3_listMoves cX3_listMoves 5 none, Cond.fieldLink RX3 32 "JumpBoard$MoveList" "count" "I", Cond.methodLink RX3 37 yX2_own, Cond.instanceMethod yX2_own, Cond.selects RX2 yX2_own yX2_own, Cond.code yX2_own cX2_own 1 (some .int), Cond.methodLink RX3 41 yX3_leapOn, Cond.instanceMethod yX3_leapOn, Cond.selects RX3 yX3_leapOn yX3_leapOn, Cond.code yX3_leapOn cX3_leapOn 14 none, Cond.fieldLink RX3 49 "JumpBoard$Position" "white" "I", Cond.fieldLink RX3 52 "JumpBoard$Position" "black" "I", Cond.methodLink RX3 66 yX2_others, Cond.instanceMethod yX2_others, Cond.selects RX2 yX2_others yX2_others, Cond.code yX2_others cX2_others 1 (some .int), Cond.methodLink RX3 55 yX3_lastDirection, Cond.static yX3_lastDirection, Cond.code yX3_lastDirection cX3_lastDirection 2 (some .int), Cond.fieldLink RX3 28 "JumpBoard$Position" "mover" "I", Cond.methodLink RX3 22 yX2_isKing, Cond.instanceMethod yX2_isKing]
def wsL_law_r9 : List Cond := [Cond.selects RX2 yX2_isKing yX2_isKing, Cond.code yX2_isKing cX2_isKing 2 (some .boolean), Cond.methodLink RX3 59 yX3_firstDirection, Cond.static yX3_firstDirection, Cond.code yX3_firstDirection cX3_firstDirection 2 (some .int), Cond.methodLink RX3 62 yX1_enter, Cond.instanceMethod yX1_enter, Cond.selects RX1 yX1_enter yX1_enter, Cond.code yX1_enter cX1_enter 8 none, Cond.fieldLink RX1 16 "JumpBoard$MoveList" "count" "I", Cond.methodLink RX3 45 yX3_listSteps, Cond.instanceMethod yX3_listSteps, Cond.selects RX3 yX3_listSteps yX3_listSteps, Cond.code yX3_listSteps cX3_listSteps 8 none, Cond.methodLink RL 44 yX5_moves, Cond.instanceMethod yX5_moves, Cond.selects RX5 yX5_moves yX5_moves, Cond.code yX5_moves cX5_moves 1 (some .int), Cond.methodLink RX5 137 yX5_generate, Cond.instanceMethod yX5_generate, Cond.selects RX5 yX5_generate yX5_generate, Cond.code yX5_generate cX5_generate 4 none, Cond.methodLink RX5 90 yX5_sideOf, Cond.static yX5_sideOf]
def wsL_law_r10 : List Cond := [Cond.code yX5_sideOf cX5_sideOf 1 (some .int), Cond.methodLink RX5 96 yX5_jumps, Cond.instanceMethod yX5_jumps, Cond.selects RX5 yX5_jumps yX5_jumps, Cond.code yX5_jumps cX5_jumps 9 none, Cond.methodLink RX5 78 yX5_note, Cond.instanceMethod yX5_note, Cond.selects RX5 yX5_note yX5_note, Cond.code yX5_note cX5_note 9 none, Cond.constant RX5 77 (262144), Cond.methodLink RX5 82 yX5_goes, Cond.static yX5_goes, Cond.code yX5_goes cX5_goes 2 (some .boolean), Cond.methodLink RX5 73 yX5_isKing, Cond.static yX5_isKing, Cond.code yX5_isKing cX5_isKing 1 (some .boolean), Cond.methodLink RX5 86 yX5_leap, Cond.instanceMethod yX5_leap, Cond.selects RX5 yX5_leap yX5_leap, Cond.code yX5_leap cX5_leap 8 (some .boolean), Cond.methodLink RX5 93 yX5_crowning, Cond.static yX5_crowning, Cond.code yX5_crowning cX5_crowning 1 (some .int), Cond.methodLink RX5 100 yX5_steps]
def wsL_law_r11 : List Cond := [Cond.instanceMethod yX5_steps, Cond.selects RX5 yX5_steps yX5_steps, Cond.code yX5_steps cX5_steps 6 none, Cond.methodLink RL 45 yX4_move, Cond.instanceMethod yX4_move, Cond.selects RX4 yX4_move yX4_move, Cond.code yX4_move cX4_move 4 (some .int), Cond.fieldLink RX4 85 "JumpBoard$MoveList" "packed" "[I", Cond.methodLink RX4 81 yX4_moves, Cond.methodLink RX4 89 yX1_beginning, Cond.static yX1_beginning, Cond.code yX1_beginning cX1_beginning 1 (some .int), Cond.methodLink RX4 92 yX1_end, Cond.static yX1_end, Cond.code yX1_end cX1_end 1 (some .int), Cond.methodLink RX4 95 yX1_taken, Cond.static yX1_taken, Cond.code yX1_taken cX1_taken 1 (some .int), Cond.constant RX1 15 (262143), Cond.methodLink RL 49 yX5_move, Cond.instanceMethod yX5_move, Cond.selects RX5 yX5_move yX5_move, Cond.code yX5_move cX5_move 4 (some .int), Cond.methodLink RX5 163 yX5_moves]
def wsL_law_r12 : List Cond := [Cond.methodLink RX5 103 yX5_beginning, Cond.static yX5_beginning, Cond.code yX5_beginning cX5_beginning 1 (some .int), Cond.methodLink RX5 106 yX5_end, Cond.static yX5_end, Cond.code yX5_end cX5_end 1 (some .int), Cond.methodLink RL 50 yX4_play, Cond.instanceMethod yX4_play, Cond.selects RX4 yX4_play yX4_play, Cond.code yX4_play cX4_play 3 (some .int), Cond.methodLink RX4 98 yX4_over, Cond.instanceMethod yX4_over, Cond.selects RX4 yX4_over yX4_over, Cond.code yX4_over cX4_over 2 (some .int), Cond.methodLink RX4 110 yX3_canMove, Cond.instanceMethod yX3_canMove, Cond.selects RX3 yX3_canMove yX3_canMove, Cond.code yX3_canMove cX3_canMove 4 (some .boolean), Cond.methodLink RX3 69 yX3_canLeave, Cond.instanceMethod yX3_canLeave, Cond.selects RX3 yX3_canLeave yX3_canLeave, Cond.code yX3_canLeave cX3_canLeave 8 (some .boolean), Cond.methodLink RX4 101 yX2_follow, Cond.instanceMethod yX2_follow]
def wsL_law_r13 : List Cond := [Cond.selects RX2 yX2_follow yX2_follow, Cond.code yX2_follow cX2_follow 9 none, Cond.constant RX2 48 (229376), Cond.methodLink RX2 37 yX1_beginning, Cond.methodLink RX2 42 yX1_end, Cond.methodLink RX2 45 yX1_taken, Cond.methodLink RX4 105 yJ6_bitCount_0f7a4, Cond.static yJ6_bitCount_0f7a4, Cond.initialized RJ6, Cond.code yJ6_bitCount_0f7a4 cJ6_bitCount_0f7a4 1 (some .int), Cond.constant RJ6 265 (1431655765), Cond.constant RJ6 266 (858993459), Cond.constant RJ6 267 (252645135), Cond.methodLink RL 53 yX5_play, Cond.instanceMethod yX5_play, Cond.selects RX5 yX5_play yX5_play, Cond.code yX5_play cX5_play 6 (some .int), Cond.methodLink RX5 167 yX5_over, Cond.instanceMethod yX5_over, Cond.selects RX5 yX5_over yX5_over, Cond.code yX5_over cX5_over 1 (some .int), Cond.methodLink RX5 147 yX5_make, Cond.instanceMethod yX5_make, Cond.selects RX5 yX5_make yX5_make]
def wsL_law_r14 : List Cond := [Cond.code yX5_make cX5_make 6 none, Cond.methodLink RL 54 yX4_undo, Cond.instanceMethod yX4_undo, Cond.selects RX4 yX4_undo yX4_undo, Cond.code yX4_undo cX4_undo 1 (some .boolean), Cond.methodLink RL 58 yX5_undo, Cond.instanceMethod yX5_undo, Cond.selects RX5 yX5_undo yX5_undo, Cond.code yX5_undo cX5_undo 2 (some .boolean), Cond.methodLink RL 59 yX4_played, Cond.instanceMethod yX4_played, Cond.selects RX4 yX4_played yX4_played, Cond.code yX4_played cX4_played 1 (some .int), Cond.methodLink RL 62 yX5_played, Cond.instanceMethod yX5_played, Cond.selects RX5 yX5_played yX5_played, Cond.code yX5_played cX5_played 1 (some .int), Cond.methodLink RL 63 yX4_over, Cond.methodLink RL 66 yX5_over, Cond.methodLink RL 67 yX4_quiet, Cond.instanceMethod yX4_quiet, Cond.selects RX4 yX4_quiet yX4_quiet, Cond.code yX4_quiet cX4_quiet 1 (some .int), Cond.methodLink RL 70 yX5_quiet]
def wsL_law_r15 : List Cond := [Cond.instanceMethod yX5_quiet, Cond.selects RX5 yX5_quiet yX5_quiet, Cond.code yX5_quiet cX5_quiet 1 (some .int), Cond.methodLink RL 71 yX4_ways, Cond.instanceMethod yX4_ways, Cond.selects RX4 yX4_ways yX4_ways, Cond.code yX4_ways cX4_ways 2 (some .int), Cond.methodLink RX4 117 yX4_isDepth, Cond.static yX4_isDepth, Cond.code yX4_isDepth cX4_isDepth 1 (some .boolean), Cond.methodLink RX4 120 yX4_countWays, Cond.instanceMethod yX4_countWays, Cond.selects RX4 yX4_countWays yX4_countWays, Cond.code yX4_countWays cX4_countWays 7 (some .int), Cond.methodLink RL 74 yX5_ways, Cond.instanceMethod yX5_ways, Cond.selects RX5 yX5_ways yX5_ways, Cond.code yX5_ways cX5_ways 4 (some .int), Cond.methodLink RL 75 yX4_verdict, Cond.instanceMethod yX4_verdict, Cond.selects RX4 yX4_verdict yX4_verdict, Cond.code yX4_verdict cX4_verdict 2 (some .int), Cond.methodLink RX4 124 yX2_isOneEach, Cond.instanceMethod yX2_isOneEach]
def wsL_law_r16 : List Cond := [Cond.selects RX2 yX2_isOneEach yX2_isOneEach, Cond.code yX2_isOneEach cX2_isOneEach 1 (some .boolean), Cond.methodLink RX2 31 yJ6_bitCount_0f7a4, Cond.methodLink RX4 128 yX4_judge, Cond.instanceMethod yX4_judge, Cond.selects RX4 yX4_judge yX4_judge, Cond.code yX4_judge cX4_judge 2 (some .int), Cond.classLink RX4 152 RX0, Cond.instantiable RX0 3, Cond.initialized RX0, Cond.methodLink RX4 154 yX0_init, Cond.instanceMethod yX0_init, Cond.code yX0_init cX0_init 6 none, Cond.methodLink RX0 5 objectInit, Cond.arrayClass .byte, Cond.fieldLink RX0 11 "JumpBoard$Endings" "verdicts" "[B", Cond.fieldLink RX0 15 "JumpBoard$Endings" "counts" "[B", Cond.arrayClass .short, Cond.fieldLink RX0 18 "JumpBoard$Endings" "nexts" "[S", Cond.classLink RX0 22 RX1, Cond.classLink RX0 25 RX2, Cond.methodLink RX0 28 yX0_arrange, Cond.static yX0_arrange, Cond.code yX0_arrange cX0_arrange 10 (some .boolean)]
def wsL_law_r17 : List Cond := [Cond.constant RX0 49 (229376), Cond.methodLink RX0 50 yX2_wipe, Cond.methodLink RX0 53 yX2_place, Cond.methodLink RX0 32 yX3_listMoves, Cond.methodLink RX0 38 yX0_note, Cond.instanceMethod yX0_note, Cond.selects RX0 yX0_note yX0_note, Cond.code yX0_note cX0_note 7 none, Cond.fieldLink RX0 82 "JumpBoard$MoveList" "count" "I", Cond.methodLink RX0 85 Lib.Math.min.name, Cond.static Lib.Math.min.name, Cond.initialized "java/lang/Math", Cond.code Lib.Math.min.name Lib.Math.min.code 2 (some .int), Cond.fieldLink RX0 91 "JumpBoard$MoveList" "packed" "[I", Cond.methodLink RX0 95 yX2_follow, Cond.methodLink RX0 45 yX0_number, Cond.static yX0_number, Cond.code yX0_number cX0_number 1 (some .int), Cond.methodLink RX0 57 yX2_own, Cond.methodLink RX0 61 yX0_kind, Cond.static yX0_kind, Cond.code yX0_kind cX0_kind 4 (some .int), Cond.fieldLink RX0 74 "JumpBoard$Position" "mover" "I", Cond.methodLink RX0 68 yJ6_numberOfTrailingZeros_0f7a4]
def wsL_law_r18 : List Cond := [Cond.static yJ6_numberOfTrailingZeros_0f7a4, Cond.code yJ6_numberOfTrailingZeros_0f7a4 cJ6_numberOfTrailingZeros_0f7a4 2 (some .int), Cond.constant RJ6 264 (65536), Cond.methodLink RX0 78 yX2_isKing, Cond.methodLink RX0 65 yX2_others, Cond.methodLink RX0 42 yX0_settle, Cond.instanceMethod yX0_settle, Cond.selects RX0 yX0_settle yX0_settle, Cond.code yX0_settle cX0_settle 3 none, Cond.methodLink RX0 99 yX0_findWins, Cond.instanceMethod yX0_findWins, Cond.selects RX0 yX0_findWins yX0_findWins, Cond.code yX0_findWins cX0_findWins 4 (some .boolean), Cond.methodLink RX0 105 yX0_leadsToLoss, Cond.instanceMethod yX0_leadsToLoss, Cond.selects RX0 yX0_leadsToLoss yX0_leadsToLoss, Cond.code yX0_leadsToLoss cX0_leadsToLoss 3 (some .boolean), Cond.methodLink RX0 102 yX0_findLosses, Cond.instanceMethod yX0_findLosses, Cond.selects RX0 yX0_findLosses yX0_findLosses, Cond.code yX0_findLosses cX0_findLosses 4 (some .boolean), Cond.methodLink RX0 108 yX0_leadsToWinsAlone, Cond.instanceMethod yX0_leadsToWinsAlone, Cond.selects RX0 yX0_leadsToWinsAlone yX0_leadsToWinsAlone]
def wsL_law_r19 : List Cond := [Cond.code yX0_leadsToWinsAlone cX0_leadsToWinsAlone 3 (some .boolean), Cond.methodLink RX4 157 yX0_look, Cond.instanceMethod yX0_look, Cond.selects RX0 yX0_look yX0_look, Cond.code yX0_look cX0_look 2 (some .int), Cond.methodLink RL 78 yX5_verdict, Cond.instanceMethod yX5_verdict, Cond.selects RX5 yX5_verdict yX5_verdict, Cond.code yX5_verdict cX5_verdict 3 (some .int), Cond.methodLink RX5 131 yX5_ending, Cond.instanceMethod yX5_ending, Cond.selects RX5 yX5_ending yX5_ending, Cond.code yX5_ending cX5_ending 7 (some .int), Cond.methodLink RX5 109 yX5_code, Cond.static yX5_code, Cond.code yX5_code cX5_code 5 (some .int), Cond.methodLink RX5 134 yX5_solve, Cond.instanceMethod yX5_solve, Cond.selects RX5 yX5_solve yX5_solve, Cond.code yX5_solve cX5_solve 5 none, Cond.fieldLink RX5 113 "JumpBoardModel" "solved" "Z", Cond.methodLink RX5 117 yX5_develop, Cond.instanceMethod yX5_develop, Cond.selects RX5 yX5_develop yX5_develop]
def wsL_law_r20 : List Cond := [Cond.code yX5_develop cX5_develop 13 none, Cond.methodLink RX5 121 yX5_judge, Cond.instanceMethod yX5_judge, Cond.selects RX5 yX5_judge yX5_judge, Cond.code yX5_judge cX5_judge 3 (some .int), Cond.methodLink RX5 125 yX5_someLost, Cond.instanceMethod yX5_someLost, Cond.selects RX5 yX5_someLost yX5_someLost, Cond.code yX5_someLost cX5_someLost 6 (some .boolean), Cond.methodLink RX5 128 yX5_allWon, Cond.instanceMethod yX5_allWon, Cond.selects RX5 yX5_allWon yX5_allWon, Cond.code yX5_allWon cX5_allWon 6 (some .int), Cond.methodLink RL 79 yX4_value, Cond.instanceMethod yX4_value, Cond.selects RX4 yX4_value yX4_value, Cond.code yX4_value cX4_value 2 (some .int), Cond.methodLink RX4 132 yX4_weigh, Cond.instanceMethod yX4_weigh, Cond.selects RX4 yX4_weigh yX4_weigh, Cond.code yX4_weigh cX4_weigh 9 (some .int), Cond.methodLink RX4 146 Lib.Math.max.name, Cond.static Lib.Math.max.name, Cond.code Lib.Math.max.name Lib.Math.max.code 2 (some .int)]
def wsL_law_r21 : List Cond := [Cond.methodLink RX4 140 yX4_weighVerdict, Cond.static yX4_weighVerdict, Cond.code yX4_weighVerdict cX4_weighVerdict 1 (some .int), Cond.methodLink RX4 143 yX2_balance, Cond.instanceMethod yX2_balance, Cond.selects RX2 yX2_balance yX2_balance, Cond.code yX2_balance cX2_balance 3 (some .int), Cond.methodLink RX2 49 yX2_own, Cond.methodLink RX2 53 yX2_others, Cond.methodLink RL 82 yX5_value, Cond.instanceMethod yX5_value, Cond.selects RX5 yX5_value yX5_value, Cond.code yX5_value cX5_value 2 (some .int), Cond.methodLink RX5 153 yX5_search, Cond.instanceMethod yX5_search, Cond.selects RX5 yX5_search yX5_search, Cond.code yX5_search cX5_search 5 (some .int), Cond.methodLink RX5 144 yX5_enter, Cond.instanceMethod yX5_enter, Cond.selects RX5 yX5_enter yX5_enter, Cond.code yX5_enter cX5_enter 2 (some .int), Cond.methodLink RX5 150 yX5_atOnce, Cond.instanceMethod yX5_atOnce, Cond.selects RX5 yX5_atOnce yX5_atOnce]
def wsL_law_r22 : List Cond := [Cond.code yX5_atOnce cX5_atOnce 4 (some .int), Cond.methodLink RX5 141 yX5_material, Cond.instanceMethod yX5_material, Cond.selects RX5 yX5_material yX5_material, Cond.code yX5_material cX5_material 6 (some .int), Cond.methodLink RL 83 yX4_best, Cond.instanceMethod yX4_best, Cond.selects RX4 yX4_best yX4_best, Cond.code yX4_best cX4_best 7 (some .int), Cond.methodLink RL 86 yX5_best, Cond.instanceMethod yX5_best, Cond.selects RX5 yX5_best yX5_best, Cond.code yX5_best cX5_best 6 (some .int)]
def wsL_law : List Cond := (wsL_law_r1 ++ (wsL_law_r2 ++ (wsL_law_r3 ++ (wsL_law_r4 ++ (wsL_law_r5 ++ (wsL_law_r6 ++ (wsL_law_r7 ++ (wsL_law_r8 ++ (wsL_law_r9 ++ (wsL_law_r10 ++ (wsL_law_r11 ++ (wsL_law_r12 ++ (wsL_law_r13 ++ (wsL_law_r14 ++ (wsL_law_r15 ++ (wsL_law_r16 ++ (wsL_law_r17 ++ (wsL_law_r18 ++ (wsL_law_r19 ++ (wsL_law_r20 ++ (wsL_law_r21 ++ wsL_law_r22))))))))))))))))))))) ++ wsX40 ++ wsX50 ++ wsX30 ++ wsX10 ++ wsX20 ++ wsX00 ++ ([] : List Cond)
set_option maxRecDepth 20000 in
theorem inlX0 : ∀ w ∈ wsX00, w ∈ wsL_law := fun _ h => List.mem_append_left _ (List.mem_append_right _ h)
theorem inlX1 : ∀ w ∈ wsX10, w ∈ wsL_law := fun _ h => List.mem_append_left _ (List.mem_append_left _ (List.mem_append_left _ (List.mem_append_right _ h)))
theorem inlX2 : ∀ w ∈ wsX20, w ∈ wsL_law := fun _ h => List.mem_append_left _ (List.mem_append_left _ (List.mem_append_right _ h))
theorem inlX3 : ∀ w ∈ wsX30, w ∈ wsL_law := fun _ h => List.mem_append_left _ (List.mem_append_left _ (List.mem_append_left _ (List.mem_append_left _ (List.mem_append_right _ h))))
theorem inlX4 : ∀ w ∈ wsX40, w ∈ wsL_law := fun _ h => List.mem_append_left _ (List.mem_append_left _ (List.mem_append_left _ (List.mem_append_left _ (List.mem_append_left _ (List.mem_append_left _ (List.mem_append_right _ h))))))
theorem inlX5 : ∀ w ∈ wsX50, w ∈ wsL_law := fun _ h => List.mem_append_left _ (List.mem_append_left _ (List.mem_append_left _ (List.mem_append_left _ (List.mem_append_left _ (List.mem_append_right _ h)))))
set_option maxRecDepth 20000 in
theorem ggX0_init_X1_init : GoodIn wsX0_init wsX1_init := goodIn_r _ [16, 17, 2, 3, 18, 19, 146, 147] (by decide +kernel) (by decide +kernel)
set_option maxRecDepth 20000 in
theorem gX0_init_X1_init_n24 : GoodIn wsX0_init (wsX1_init) := ggX0_init_X1_init
set_option maxRecDepth 20000 in
theorem ggX0_init_X2_init : GoodIn wsX0_init wsX2_init := goodIn_r _ [21, 22, 2, 3] (by decide +kernel) (by decide +kernel)
set_option maxRecDepth 20000 in
theorem gX0_init_X2_init_n27 : GoodIn wsX0_init (wsX2_init) := ggX0_init_X2_init
set_option maxRecDepth 20000 in
theorem ggX0_init_X0_arrange : GoodIn wsX0_init wsX0_arrange := goodIn_r _ [26, 27, 28, 29, 30, 14, 31, 32, 33, 34, 35, 36, 37, 38, 39, 40, 148, 149, 150, 151, 152] (by decide +kernel) (by decide +kernel)
set_option maxRecDepth 20000 in
theorem gX0_init_X0_arrange : GoodIn wsX0_init (va_wsS RX0 28 yX0_arrange wsX0_arrange) := goodIn_app (goodIn_of _ (by decide +kernel)) ggX0_init_X0_arrange
set_option maxRecDepth 20000 in
theorem ggX0_init_X3_listMoves : GoodIn wsX0_init wsX3_listMoves := goodIn_r _ [45, 46, 47, 48, 49, 14, 50, 35, 32, 33, 51, 52, 53, 44, 54, 55, 56, 57, 58, 59, 60, 61, 62, 63, 64, 65, 66, 67, 68, 69, 70, 34, 71, 72, 73, 74, 75, 76, 11, 77, 78, 19, 79, 80, 81, 82, 146, 147, 148, 149, 150, 151, 152, 153, 154] (by decide +kernel) (by decide +kernel)
set_option maxRecDepth 20000 in
theorem gX0_init_X3_listMoves : GoodIn wsX0_init (wsV RX0 32 RX3 yX3_listMoves wsX3_listMoves) := goodIn_app (goodIn_of _ (by decide +kernel)) ggX0_init_X3_listMoves
set_option maxRecDepth 20000 in
theorem ggX0_init_X0_note : GoodIn wsX0_init wsX0_note := goodIn_r _ [86, 87, 88, 89, 90, 91, 92, 8, 6, 5, 93, 94, 95, 14, 96, 35, 34, 97, 32, 33, 36, 98, 99, 11, 100, 101, 102, 103, 104, 105, 106, 107, 108, 109, 25, 110, 111, 48, 49, 50, 112, 113, 114, 115, 116, 117, 118, 119, 120, 121, 68, 69, 70, 122, 60, 61, 62, 146, 147, 143, 144, 145, 148, 149, 150, 151, 152] (by decide +kernel) (by decide +kernel)
set_option maxRecDepth 20000 in
theorem gX0_init_X0_note : GoodIn wsX0_init (wsV RX0 38 RX0 yX0_note wsX0_note) := goodIn_app (goodIn_of _ (by decide +kernel)) ggX0_init_X0_note
set_option maxRecDepth 20000 in
theorem ggX0_init_X0_settle : GoodIn wsX0_init wsX0_settle := goodIn_r _ [126, 127, 128, 129, 25, 130, 5, 131, 132, 133, 134, 6, 8, 135, 136, 137, 138, 139, 140, 141, 142, 143, 144, 145] (by decide +kernel) (by decide +kernel)
set_option maxRecDepth 20000 in
theorem gX0_init_X0_settle : GoodIn wsX0_init (wsV RX0 42 RX0 yX0_settle wsX0_settle) := goodIn_app (goodIn_of _ (by decide +kernel)) ggX0_init_X0_settle
theorem dX0_init_0 : decode cX0_init 0 = .ok (.aload_n 0, 1) := by decide +kernel
end
section
theorem dX0_init_1 : decode cX0_init 1 = .ok (.invokespecial 5, 3) := by decide +kernel
theorem dX0_init_4 : decode cX0_init 4 = .ok (.aload_n 0, 1) := by decide +kernel
theorem dX0_init_5 : decode cX0_init 5 = .ok (.sipush 1297, 3) := by decide +kernel
theorem dX0_init_8 : decode cX0_init 8 = .ok (.newarray .byte, 2) := by decide +kernel
theorem dX0_init_10 : decode cX0_init 10 = .ok (.putfield 11, 3) := by decide +kernel
theorem dX0_init_13 : decode cX0_init 13 = .ok (.aload_n 0, 1) := by decide +kernel
theorem dX0_init_14 : decode cX0_init 14 = .ok (.sipush 1296, 3) := by decide +kernel
theorem dX0_init_17 : decode cX0_init 17 = .ok (.newarray .byte, 2) := by decide +kernel
theorem dX0_init_19 : decode cX0_init 19 = .ok (.putfield 15, 3) := by decide +kernel
theorem dX0_init_22 : decode cX0_init 22 = .ok (.aload_n 0, 1) := by decide +kernel
theorem dX0_init_23 : decode cX0_init 23 = .ok (.sipush 5184, 3) := by decide +kernel
theorem dX0_init_26 : decode cX0_init 26 = .ok (.newarray .short, 2) := by decide +kernel
theorem dX0_init_28 : decode cX0_init 28 = .ok (.putfield 18, 3) := by decide +kernel
theorem dX0_init_31 : decode cX0_init 31 = .ok (.new 22, 3) := by decide +kernel
theorem dX0_init_34 : decode cX0_init 34 = .ok (.dup, 1) := by decide +kernel
theorem dX0_init_35 : decode cX0_init 35 = .ok (.invokespecial 24, 3) := by decide +kernel
theorem dX0_init_38 : decode cX0_init 38 = .ok (.astore_n 2, 1) := by decide +kernel
theorem dX0_init_39 : decode cX0_init 39 = .ok (.new 25, 3) := by decide +kernel
theorem dX0_init_42 : decode cX0_init 42 = .ok (.dup, 1) := by decide +kernel
theorem dX0_init_43 : decode cX0_init 43 = .ok (.invokespecial 27, 3) := by decide +kernel
theorem dX0_init_46 : decode cX0_init 46 = .ok (.astore_n 3, 1) := by decide +kernel
theorem dX0_init_47 : decode cX0_init 47 = .ok (.new 25, 3) := by decide +kernel
theorem dX0_init_50 : decode cX0_init 50 = .ok (.dup, 1) := by decide +kernel
theorem dX0_init_51 : decode cX0_init 51 = .ok (.invokespecial 27, 3) := by decide +kernel
theorem dX0_init_54 : decode cX0_init 54 = .ok (.astore 4, 2) := by decide +kernel
theorem dX0_init_56 : decode cX0_init 56 = .ok (.aload_n 0, 1) := by decide +kernel
theorem dX0_init_57 : decode cX0_init 57 = .ok (.getfield 11, 3) := by decide +kernel
theorem dX0_init_60 : decode cX0_init 60 = .ok (.sipush 1296, 3) := by decide +kernel
theorem dX0_init_63 : decode cX0_init 63 = .ok (.bipush (-100), 2) := by decide +kernel
theorem dX0_init_65 : decode cX0_init 65 = .ok (.bastore, 1) := by decide +kernel
theorem dX0_init_66 : decode cX0_init 66 = .ok (.iconst 0, 1) := by decide +kernel
theorem dX0_init_67 : decode cX0_init 67 = .ok (.istore 5, 2) := by decide +kernel
theorem dX0_init_69 : decode cX0_init 69 = .ok (.iload 5, 2) := by decide +kernel
theorem dX0_init_71 : decode cX0_init 71 = .ok (.sipush 1296, 3) := by decide +kernel
theorem dX0_init_74 : decode cX0_init 74 = .ok (.if_icmp .ge 34, 3) := by decide +kernel
theorem dX0_init_77 : decode cX0_init 77 = .ok (.aload_n 3, 1) := by decide +kernel
theorem dX0_init_78 : decode cX0_init 78 = .ok (.iload 5, 2) := by decide +kernel
theorem dX0_init_80 : decode cX0_init 80 = .ok (.invokestatic 28, 3) := by decide +kernel
theorem dX0_init_83 : decode cX0_init 83 = .ok (.ifCond .eq 19, 3) := by decide +kernel
theorem dX0_init_86 : decode cX0_init 86 = .ok (.aload_n 1, 1) := by decide +kernel
theorem dX0_init_87 : decode cX0_init 87 = .ok (.aload_n 3, 1) := by decide +kernel
theorem dX0_init_88 : decode cX0_init 88 = .ok (.aload_n 2, 1) := by decide +kernel
theorem dX0_init_89 : decode cX0_init 89 = .ok (.invokevirtual 32, 3) := by decide +kernel
theorem dX0_init_92 : decode cX0_init 92 = .ok (.aload_n 0, 1) := by decide +kernel
theorem dX0_init_93 : decode cX0_init 93 = .ok (.iload 5, 2) := by decide +kernel
theorem dX0_init_95 : decode cX0_init 95 = .ok (.aload_n 3, 1) := by decide +kernel
theorem dX0_init_96 : decode cX0_init 96 = .ok (.aload_n 2, 1) := by decide +kernel
theorem dX0_init_97 : decode cX0_init 97 = .ok (.aload 4, 2) := by decide +kernel
theorem dX0_init_99 : decode cX0_init 99 = .ok (.invokevirtual 38, 3) := by decide +kernel
theorem dX0_init_102 : decode cX0_init 102 = .ok (.iinc 5 1, 3) := by decide +kernel
theorem dX0_init_105 : decode cX0_init 105 = .ok (.goto (-36), 3) := by decide +kernel
theorem dX0_init_108 : decode cX0_init 108 = .ok (.aload_n 0, 1) := by decide +kernel
theorem dX0_init_109 : decode cX0_init 109 = .ok (.invokevirtual 42, 3) := by decide +kernel
theorem dX0_init_112 : decode cX0_init 112 = .ok (.return_, 1) := by decide +kernel
set_option maxRecDepth 20000 in
theorem ggX0_look_X0_number : GoodIn wsX0_look wsX0_number := goodIn_r _ [5, 6, 7, 8, 9, 10, 11, 12, 13, 14, 15, 4, 16, 17, 18, 19, 20, 21, 22, 23, 24, 25, 26, 27, 28, 29, 30, 31, 35, 36, 37, 38, 39] (by decide +kernel) (by decide +kernel)
set_option maxRecDepth 20000 in
theorem gX0_look_X0_number : GoodIn wsX0_look (va_wsS RX0 45 yX0_number wsX0_number) := goodIn_app (goodIn_of _ (by decide +kernel)) ggX0_look_X0_number
theorem dX0_look_0 : decode cX0_look 0 = .ok (.aload_n 0, 1) := by decide +kernel
theorem dX0_look_1 : decode cX0_look 1 = .ok (.getfield 11, 3) := by decide +kernel
theorem dX0_look_4 : decode cX0_look 4 = .ok (.aload_n 1, 1) := by decide +kernel
theorem dX0_look_5 : decode cX0_look 5 = .ok (.invokestatic 45, 3) := by decide +kernel
theorem dX0_look_8 : decode cX0_look 8 = .ok (.baload, 1) := by decide +kernel
theorem dX0_look_9 : decode cX0_look 9 = .ok (.ireturn, 1) := by decide +kernel
set_option maxRecDepth 20000 in
theorem ggX0_arrange_X2_wipe : GoodIn wsX0_arrange wsX2_wipe := goodIn_r _ [6, 7, 8, 9, 10, 11, 16, 17, 18, 19, 20] (by decide +kernel) (by decide +kernel)
set_option maxRecDepth 20000 in
theorem gX0_arrange_X2_wipe : GoodIn wsX0_arrange (wsV RX0 50 RX2 yX2_wipe wsX2_wipe) := goodIn_app (goodIn_of _ (by decide +kernel)) ggX0_arrange_X2_wipe
set_option maxRecDepth 20000 in
theorem ggX0_arrange_X2_place : GoodIn wsX0_arrange wsX2_place := goodIn_r _ [15, 7, 8, 9, 16, 17, 18, 19, 20] (by decide +kernel) (by decide +kernel)
set_option maxRecDepth 20000 in
theorem gX0_arrange_X2_place : GoodIn wsX0_arrange (wsV RX0 53 RX2 yX2_place wsX2_place) := goodIn_app (goodIn_of _ (by decide +kernel)) ggX0_arrange_X2_place
theorem dX0_arrange_0 : decode cX0_arrange 0 = .ok (.iload_n 1, 1) := by decide +kernel
theorem dX0_arrange_1 : decode cX0_arrange 1 = .ok (.bipush 36, 2) := by decide +kernel
theorem dX0_arrange_3 : decode cX0_arrange 3 = .ok (.idiv, 1) := by decide +kernel
theorem dX0_arrange_4 : decode cX0_arrange 4 = .ok (.istore_n 2, 1) := by decide +kernel
theorem dX0_arrange_5 : decode cX0_arrange 5 = .ok (.iload_n 1, 1) := by decide +kernel
theorem dX0_arrange_6 : decode cX0_arrange 6 = .ok (.bipush 36, 2) := by decide +kernel
theorem dX0_arrange_8 : decode cX0_arrange 8 = .ok (.irem, 1) := by decide +kernel
theorem dX0_arrange_9 : decode cX0_arrange 9 = .ok (.istore_n 3, 1) := by decide +kernel
theorem dX0_arrange_10 : decode cX0_arrange 10 = .ok (.iconst 1, 1) := by decide +kernel
theorem dX0_arrange_11 : decode cX0_arrange 11 = .ok (.iload_n 2, 1) := by decide +kernel
theorem dX0_arrange_12 : decode cX0_arrange 12 = .ok (.bipush 18, 2) := by decide +kernel
theorem dX0_arrange_14 : decode cX0_arrange 14 = .ok (.irem, 1) := by decide +kernel
theorem dX0_arrange_15 : decode cX0_arrange 15 = .ok (.ishl, 1) := by decide +kernel
theorem dX0_arrange_16 : decode cX0_arrange 16 = .ok (.istore 4, 2) := by decide +kernel
theorem dX0_arrange_18 : decode cX0_arrange 18 = .ok (.iconst 1, 1) := by decide +kernel
theorem dX0_arrange_19 : decode cX0_arrange 19 = .ok (.iload_n 3, 1) := by decide +kernel
theorem dX0_arrange_20 : decode cX0_arrange 20 = .ok (.bipush 18, 2) := by decide +kernel
theorem dX0_arrange_22 : decode cX0_arrange 22 = .ok (.irem, 1) := by decide +kernel
theorem dX0_arrange_23 : decode cX0_arrange 23 = .ok (.ishl, 1) := by decide +kernel
theorem dX0_arrange_24 : decode cX0_arrange 24 = .ok (.istore 5, 2) := by decide +kernel
theorem dX0_arrange_26 : decode cX0_arrange 26 = .ok (.iload_n 2, 1) := by decide +kernel
theorem dX0_arrange_27 : decode cX0_arrange 27 = .ok (.bipush 18, 2) := by decide +kernel
theorem dX0_arrange_29 : decode cX0_arrange 29 = .ok (.if_icmp .lt 7, 3) := by decide +kernel
theorem dX0_arrange_32 : decode cX0_arrange 32 = .ok (.iconst 1, 1) := by decide +kernel
theorem dX0_arrange_33 : decode cX0_arrange 33 = .ok (.goto 4, 3) := by decide +kernel
theorem dX0_arrange_36 : decode cX0_arrange 36 = .ok (.iconst 0, 1) := by decide +kernel
theorem dX0_arrange_37 : decode cX0_arrange 37 = .ok (.istore 6, 2) := by decide +kernel
theorem dX0_arrange_39 : decode cX0_arrange 39 = .ok (.iload_n 3, 1) := by decide +kernel
theorem dX0_arrange_40 : decode cX0_arrange 40 = .ok (.bipush 18, 2) := by decide +kernel
theorem dX0_arrange_42 : decode cX0_arrange 42 = .ok (.if_icmp .lt 7, 3) := by decide +kernel
theorem dX0_arrange_45 : decode cX0_arrange 45 = .ok (.iconst 1, 1) := by decide +kernel
theorem dX0_arrange_46 : decode cX0_arrange 46 = .ok (.goto 4, 3) := by decide +kernel
theorem dX0_arrange_49 : decode cX0_arrange 49 = .ok (.iconst 0, 1) := by decide +kernel
theorem dX0_arrange_50 : decode cX0_arrange 50 = .ok (.istore 7, 2) := by decide +kernel
theorem dX0_arrange_52 : decode cX0_arrange 52 = .ok (.iload 6, 2) := by decide +kernel
theorem dX0_arrange_54 : decode cX0_arrange 54 = .ok (.ifCond .ne 15, 3) := by decide +kernel
theorem dX0_arrange_57 : decode cX0_arrange 57 = .ok (.iload 4, 2) := by decide +kernel
theorem dX0_arrange_59 : decode cX0_arrange 59 = .ok (.ldc 49, 2) := by decide +kernel
theorem dX0_arrange_61 : decode cX0_arrange 61 = .ok (.iand, 1) := by decide +kernel
theorem dX0_arrange_62 : decode cX0_arrange 62 = .ok (.ifCond .eq 7, 3) := by decide +kernel
theorem dX0_arrange_65 : decode cX0_arrange 65 = .ok (.iconst 1, 1) := by decide +kernel
theorem dX0_arrange_66 : decode cX0_arrange 66 = .ok (.goto 4, 3) := by decide +kernel
theorem dX0_arrange_69 : decode cX0_arrange 69 = .ok (.iconst 0, 1) := by decide +kernel
theorem dX0_arrange_70 : decode cX0_arrange 70 = .ok (.istore 8, 2) := by decide +kernel
theorem dX0_arrange_72 : decode cX0_arrange 72 = .ok (.iload 7, 2) := by decide +kernel
theorem dX0_arrange_74 : decode cX0_arrange 74 = .ok (.ifCond .ne 15, 3) := by decide +kernel
theorem dX0_arrange_77 : decode cX0_arrange 77 = .ok (.iload 5, 2) := by decide +kernel
theorem dX0_arrange_79 : decode cX0_arrange 79 = .ok (.bipush 7, 2) := by decide +kernel
theorem dX0_arrange_81 : decode cX0_arrange 81 = .ok (.iand, 1) := by decide +kernel
theorem dX0_arrange_82 : decode cX0_arrange 82 = .ok (.ifCond .eq 7, 3) := by decide +kernel
theorem dX0_arrange_85 : decode cX0_arrange 85 = .ok (.iconst 1, 1) := by decide +kernel
theorem dX0_arrange_86 : decode cX0_arrange 86 = .ok (.goto 4, 3) := by decide +kernel
theorem dX0_arrange_89 : decode cX0_arrange 89 = .ok (.iconst 0, 1) := by decide +kernel
theorem dX0_arrange_90 : decode cX0_arrange 90 = .ok (.istore 9, 2) := by decide +kernel
theorem dX0_arrange_92 : decode cX0_arrange 92 = .ok (.iload 4, 2) := by decide +kernel
theorem dX0_arrange_94 : decode cX0_arrange 94 = .ok (.iload 5, 2) := by decide +kernel
theorem dX0_arrange_96 : decode cX0_arrange 96 = .ok (.if_icmp .eq 13, 3) := by decide +kernel
theorem dX0_arrange_99 : decode cX0_arrange 99 = .ok (.iload 8, 2) := by decide +kernel
theorem dX0_arrange_101 : decode cX0_arrange 101 = .ok (.ifCond .ne 8, 3) := by decide +kernel
theorem dX0_arrange_104 : decode cX0_arrange 104 = .ok (.iload 9, 2) := by decide +kernel
theorem dX0_arrange_106 : decode cX0_arrange 106 = .ok (.ifCond .eq 5, 3) := by decide +kernel
theorem dX0_arrange_109 : decode cX0_arrange 109 = .ok (.iconst 0, 1) := by decide +kernel
theorem dX0_arrange_110 : decode cX0_arrange 110 = .ok (.ireturn, 1) := by decide +kernel
theorem dX0_arrange_111 : decode cX0_arrange 111 = .ok (.aload_n 0, 1) := by decide +kernel
theorem dX0_arrange_112 : decode cX0_arrange 112 = .ok (.invokevirtual 50, 3) := by decide +kernel
theorem dX0_arrange_115 : decode cX0_arrange 115 = .ok (.aload_n 0, 1) := by decide +kernel
theorem dX0_arrange_116 : decode cX0_arrange 116 = .ok (.iload 4, 2) := by decide +kernel
theorem dX0_arrange_118 : decode cX0_arrange 118 = .ok (.iload 6, 2) := by decide +kernel
theorem dX0_arrange_120 : decode cX0_arrange 120 = .ok (.ifCond .eq 7, 3) := by decide +kernel
theorem dX0_arrange_123 : decode cX0_arrange 123 = .ok (.iconst 2, 1) := by decide +kernel
theorem dX0_arrange_124 : decode cX0_arrange 124 = .ok (.goto 4, 3) := by decide +kernel
theorem dX0_arrange_127 : decode cX0_arrange 127 = .ok (.iconst 1, 1) := by decide +kernel
theorem dX0_arrange_128 : decode cX0_arrange 128 = .ok (.invokevirtual 53, 3) := by decide +kernel
theorem dX0_arrange_131 : decode cX0_arrange 131 = .ok (.aload_n 0, 1) := by decide +kernel
theorem dX0_arrange_132 : decode cX0_arrange 132 = .ok (.iload 5, 2) := by decide +kernel
theorem dX0_arrange_134 : decode cX0_arrange 134 = .ok (.iload 7, 2) := by decide +kernel
theorem dX0_arrange_136 : decode cX0_arrange 136 = .ok (.ifCond .eq 7, 3) := by decide +kernel
theorem dX0_arrange_139 : decode cX0_arrange 139 = .ok (.iconst 4, 1) := by decide +kernel
theorem dX0_arrange_140 : decode cX0_arrange 140 = .ok (.goto 4, 3) := by decide +kernel
theorem dX0_arrange_143 : decode cX0_arrange 143 = .ok (.iconst 3, 1) := by decide +kernel
theorem dX0_arrange_144 : decode cX0_arrange 144 = .ok (.invokevirtual 53, 3) := by decide +kernel
theorem dX0_arrange_147 : decode cX0_arrange 147 = .ok (.iconst 1, 1) := by decide +kernel
theorem dX0_arrange_148 : decode cX0_arrange 148 = .ok (.ireturn, 1) := by decide +kernel
set_option maxRecDepth 20000 in
theorem ggX0_number_X2_own : GoodIn wsX0_number wsX2_own := goodIn_r _ [5, 6, 7, 8, 28, 29, 30, 31, 32] (by decide +kernel) (by decide +kernel)
set_option maxRecDepth 20000 in
theorem gX0_number_X2_own : GoodIn wsX0_number (wsV RX0 57 RX2 yX2_own wsX2_own) := goodIn_app (goodIn_of _ (by decide +kernel)) ggX0_number_X2_own
set_option maxRecDepth 20000 in
theorem ggX0_number_X0_kind : GoodIn wsX0_number wsX0_kind := goodIn_r _ [12, 13, 14, 15, 16, 17, 18, 19, 20, 21, 4, 22, 23, 28, 29, 30, 31, 32] (by decide +kernel) (by decide +kernel)
set_option maxRecDepth 20000 in
theorem gX0_number_X0_kind : GoodIn wsX0_number (va_wsS RX0 61 yX0_kind wsX0_kind) := goodIn_app (goodIn_of _ (by decide +kernel)) ggX0_number_X0_kind
set_option maxRecDepth 20000 in
theorem ggX0_number_X2_others : GoodIn wsX0_number wsX2_others := goodIn_r _ [27, 6, 8, 7, 28, 29, 30, 31, 32] (by decide +kernel) (by decide +kernel)
set_option maxRecDepth 20000 in
theorem gX0_number_X2_others : GoodIn wsX0_number (wsV RX0 65 RX2 yX2_others wsX2_others) := goodIn_app (goodIn_of _ (by decide +kernel)) ggX0_number_X2_others
theorem dX0_number_0 : decode cX0_number 0 = .ok (.aload_n 0, 1) := by decide +kernel
theorem dX0_number_1 : decode cX0_number 1 = .ok (.invokevirtual 57, 3) := by decide +kernel
theorem dX0_number_4 : decode cX0_number 4 = .ok (.ifCond .ne 7, 3) := by decide +kernel
theorem dX0_number_7 : decode cX0_number 7 = .ok (.sipush 1296, 3) := by decide +kernel
theorem dX0_number_10 : decode cX0_number 10 = .ok (.ireturn, 1) := by decide +kernel
theorem dX0_number_11 : decode cX0_number 11 = .ok (.aload_n 0, 1) := by decide +kernel
theorem dX0_number_12 : decode cX0_number 12 = .ok (.aload_n 0, 1) := by decide +kernel
theorem dX0_number_13 : decode cX0_number 13 = .ok (.invokevirtual 57, 3) := by decide +kernel
theorem dX0_number_16 : decode cX0_number 16 = .ok (.invokestatic 61, 3) := by decide +kernel
theorem dX0_number_19 : decode cX0_number 19 = .ok (.bipush 36, 2) := by decide +kernel
theorem dX0_number_21 : decode cX0_number 21 = .ok (.imul, 1) := by decide +kernel
theorem dX0_number_22 : decode cX0_number 22 = .ok (.aload_n 0, 1) := by decide +kernel
theorem dX0_number_23 : decode cX0_number 23 = .ok (.aload_n 0, 1) := by decide +kernel
theorem dX0_number_24 : decode cX0_number 24 = .ok (.invokevirtual 65, 3) := by decide +kernel
theorem dX0_number_27 : decode cX0_number 27 = .ok (.invokestatic 61, 3) := by decide +kernel
theorem dX0_number_30 : decode cX0_number 30 = .ok (.iadd, 1) := by decide +kernel
theorem dX0_number_31 : decode cX0_number 31 = .ok (.ireturn, 1) := by decide +kernel
set_option maxRecDepth 20000 in
theorem ggX0_kind_J6_numberOfTrailingZeros_0f7a4 : GoodIn wsX0_kind wsJ6_numberOfTrailingZeros_0f7a4 := goodIn_r _ [5, 6] (by decide +kernel) (by decide +kernel)
set_option maxRecDepth 20000 in
theorem gX0_kind_J6_numberOfTrailingZeros_0f7a4 : GoodIn wsX0_kind (va_wsS RX0 68 yJ6_numberOfTrailingZeros_0f7a4 wsJ6_numberOfTrailingZeros_0f7a4) := goodIn_app (goodIn_of _ (by decide +kernel)) ggX0_kind_J6_numberOfTrailingZeros_0f7a4
set_option maxRecDepth 20000 in
theorem ggX0_kind_X2_isKing : GoodIn wsX0_kind wsX2_isKing := goodIn_r _ [11, 12, 13, 14, 15, 16, 17] (by decide +kernel) (by decide +kernel)
set_option maxRecDepth 20000 in
theorem gX0_kind_X2_isKing : GoodIn wsX0_kind (wsV RX0 78 RX2 yX2_isKing wsX2_isKing) := goodIn_app (goodIn_of _ (by decide +kernel)) ggX0_kind_X2_isKing
theorem dX0_kind_0 : decode cX0_kind 0 = .ok (.iload_n 1, 1) := by decide +kernel
theorem dX0_kind_1 : decode cX0_kind 1 = .ok (.invokestatic 68, 3) := by decide +kernel
theorem dX0_kind_4 : decode cX0_kind 4 = .ok (.bipush 18, 2) := by decide +kernel
theorem dX0_kind_6 : decode cX0_kind 6 = .ok (.irem, 1) := by decide +kernel
theorem dX0_kind_7 : decode cX0_kind 7 = .ok (.istore_n 2, 1) := by decide +kernel
theorem dX0_kind_8 : decode cX0_kind 8 = .ok (.aload_n 0, 1) := by decide +kernel
theorem dX0_kind_9 : decode cX0_kind 9 = .ok (.getfield 74, 3) := by decide +kernel
theorem dX0_kind_12 : decode cX0_kind 12 = .ok (.ifCond .ne 7, 3) := by decide +kernel
theorem dX0_kind_15 : decode cX0_kind 15 = .ok (.iload_n 2, 1) := by decide +kernel
theorem dX0_kind_16 : decode cX0_kind 16 = .ok (.goto 7, 3) := by decide +kernel
theorem dX0_kind_19 : decode cX0_kind 19 = .ok (.bipush 17, 2) := by decide +kernel
theorem dX0_kind_21 : decode cX0_kind 21 = .ok (.iload_n 2, 1) := by decide +kernel
theorem dX0_kind_22 : decode cX0_kind 22 = .ok (.isub, 1) := by decide +kernel
theorem dX0_kind_23 : decode cX0_kind 23 = .ok (.istore_n 3, 1) := by decide +kernel
theorem dX0_kind_24 : decode cX0_kind 24 = .ok (.aload_n 0, 1) := by decide +kernel
theorem dX0_kind_25 : decode cX0_kind 25 = .ok (.iload_n 2, 1) := by decide +kernel
theorem dX0_kind_26 : decode cX0_kind 26 = .ok (.invokevirtual 78, 3) := by decide +kernel
theorem dX0_kind_29 : decode cX0_kind 29 = .ok (.ifCond .eq 10, 3) := by decide +kernel
theorem dX0_kind_32 : decode cX0_kind 32 = .ok (.bipush 18, 2) := by decide +kernel
theorem dX0_kind_34 : decode cX0_kind 34 = .ok (.iload_n 3, 1) := by decide +kernel
theorem dX0_kind_35 : decode cX0_kind 35 = .ok (.iadd, 1) := by decide +kernel
theorem dX0_kind_36 : decode cX0_kind 36 = .ok (.goto 4, 3) := by decide +kernel
theorem dX0_kind_39 : decode cX0_kind 39 = .ok (.iload_n 3, 1) := by decide +kernel
theorem dX0_kind_40 : decode cX0_kind 40 = .ok (.ireturn, 1) := by decide +kernel
set_option maxRecDepth 20000 in
theorem ggX0_note_X2_follow : GoodIn wsX0_note wsX2_follow := goodIn_r _ [14, 15, 16, 17, 18, 19, 20, 21, 22, 23, 24, 25, 26, 27, 28, 29, 30, 31, 62, 63, 64, 65, 66] (by decide +kernel) (by decide +kernel)
set_option maxRecDepth 20000 in
theorem gX0_note_X2_follow : GoodIn wsX0_note (wsV RX0 95 RX2 yX2_follow wsX2_follow) := goodIn_app (goodIn_of _ (by decide +kernel)) ggX0_note_X2_follow
set_option maxRecDepth 20000 in
theorem ggX0_note_X0_number : GoodIn wsX0_note wsX0_number := goodIn_r _ [35, 36, 37, 38, 13, 39, 15, 18, 19, 40, 41, 34, 42, 43, 44, 45, 46, 47, 48, 49, 50, 51, 52, 16, 53, 54, 55, 56, 62, 63, 64, 65, 66] (by decide +kernel) (by decide +kernel)
set_option maxRecDepth 20000 in
theorem gX0_note_X0_number : GoodIn wsX0_note (va_wsS RX0 45 yX0_number wsX0_number) := goodIn_app (goodIn_of _ (by decide +kernel)) ggX0_note_X0_number
theorem dX0_note_0 : decode cX0_note 0 = .ok (.aload_n 3, 1) := by decide +kernel
theorem dX0_note_1 : decode cX0_note 1 = .ok (.getfield 82, 3) := by decide +kernel
theorem dX0_note_4 : decode cX0_note 4 = .ok (.iconst 4, 1) := by decide +kernel
theorem dX0_note_5 : decode cX0_note 5 = .ok (.invokestatic 85, 3) := by decide +kernel
theorem dX0_note_8 : decode cX0_note 8 = .ok (.istore 5, 2) := by decide +kernel
theorem dX0_note_10 : decode cX0_note 10 = .ok (.iconst 0, 1) := by decide +kernel
theorem dX0_note_11 : decode cX0_note 11 = .ok (.istore 6, 2) := by decide +kernel
theorem dX0_note_13 : decode cX0_note 13 = .ok (.iload 6, 2) := by decide +kernel
theorem dX0_note_15 : decode cX0_note 15 = .ok (.iload 5, 2) := by decide +kernel
theorem dX0_note_17 : decode cX0_note 17 = .ok (.if_icmp .ge 39, 3) := by decide +kernel
theorem dX0_note_20 : decode cX0_note 20 = .ok (.aload 4, 2) := by decide +kernel
theorem dX0_note_22 : decode cX0_note 22 = .ok (.aload_n 2, 1) := by decide +kernel
theorem dX0_note_23 : decode cX0_note 23 = .ok (.aload_n 3, 1) := by decide +kernel
theorem dX0_note_24 : decode cX0_note 24 = .ok (.getfield 91, 3) := by decide +kernel
theorem dX0_note_27 : decode cX0_note 27 = .ok (.iload 6, 2) := by decide +kernel
theorem dX0_note_29 : decode cX0_note 29 = .ok (.iaload, 1) := by decide +kernel
theorem dX0_note_30 : decode cX0_note 30 = .ok (.invokevirtual 95, 3) := by decide +kernel
theorem dX0_note_33 : decode cX0_note 33 = .ok (.aload_n 0, 1) := by decide +kernel
theorem dX0_note_34 : decode cX0_note 34 = .ok (.getfield 18, 3) := by decide +kernel
theorem dX0_note_37 : decode cX0_note 37 = .ok (.iload_n 1, 1) := by decide +kernel
theorem dX0_note_38 : decode cX0_note 38 = .ok (.iconst 4, 1) := by decide +kernel
theorem dX0_note_39 : decode cX0_note 39 = .ok (.imul, 1) := by decide +kernel
theorem dX0_note_40 : decode cX0_note 40 = .ok (.iload 6, 2) := by decide +kernel
theorem dX0_note_42 : decode cX0_note 42 = .ok (.iadd, 1) := by decide +kernel
theorem dX0_note_43 : decode cX0_note 43 = .ok (.aload 4, 2) := by decide +kernel
theorem dX0_note_45 : decode cX0_note 45 = .ok (.invokestatic 45, 3) := by decide +kernel
theorem dX0_note_48 : decode cX0_note 48 = .ok (.i2s, 1) := by decide +kernel
theorem dX0_note_49 : decode cX0_note 49 = .ok (.sastore, 1) := by decide +kernel
theorem dX0_note_50 : decode cX0_note 50 = .ok (.iinc 6 1, 3) := by decide +kernel
theorem dX0_note_53 : decode cX0_note 53 = .ok (.goto (-40), 3) := by decide +kernel
theorem dX0_note_56 : decode cX0_note 56 = .ok (.aload_n 0, 1) := by decide +kernel
theorem dX0_note_57 : decode cX0_note 57 = .ok (.getfield 15, 3) := by decide +kernel
theorem dX0_note_60 : decode cX0_note 60 = .ok (.iload_n 1, 1) := by decide +kernel
theorem dX0_note_61 : decode cX0_note 61 = .ok (.iload 5, 2) := by decide +kernel
theorem dX0_note_63 : decode cX0_note 63 = .ok (.i2b, 1) := by decide +kernel
theorem dX0_note_64 : decode cX0_note 64 = .ok (.bastore, 1) := by decide +kernel
theorem dX0_note_65 : decode cX0_note 65 = .ok (.iload 5, 2) := by decide +kernel
theorem dX0_note_67 : decode cX0_note 67 = .ok (.ifCond .ne 11, 3) := by decide +kernel
theorem dX0_note_70 : decode cX0_note 70 = .ok (.aload_n 0, 1) := by decide +kernel
theorem dX0_note_71 : decode cX0_note 71 = .ok (.getfield 11, 3) := by decide +kernel
theorem dX0_note_74 : decode cX0_note 74 = .ok (.iload_n 1, 1) := by decide +kernel
theorem dX0_note_75 : decode cX0_note 75 = .ok (.bipush (-100), 2) := by decide +kernel
theorem dX0_note_77 : decode cX0_note 77 = .ok (.bastore, 1) := by decide +kernel
theorem dX0_note_78 : decode cX0_note 78 = .ok (.return_, 1) := by decide +kernel
set_option maxRecDepth 20000 in
theorem ggX0_settle_X0_findWins : GoodIn wsX0_settle wsX0_findWins := goodIn_r _ [5, 6, 7, 8, 9, 4, 10, 11, 12, 21, 22, 23] (by decide +kernel) (by decide +kernel)
set_option maxRecDepth 20000 in
theorem gX0_settle_X0_findWins : GoodIn wsX0_settle (wsV RX0 99 RX0 yX0_findWins wsX0_findWins) := goodIn_app (goodIn_of _ (by decide +kernel)) ggX0_settle_X0_findWins
set_option maxRecDepth 20000 in
theorem ggX0_settle_X0_findLosses : GoodIn wsX0_settle wsX0_findLosses := goodIn_r _ [16, 6, 11, 17, 18, 19, 4, 20, 12, 21, 22, 23] (by decide +kernel) (by decide +kernel)
set_option maxRecDepth 20000 in
theorem gX0_settle_X0_findLosses : GoodIn wsX0_settle (wsV RX0 102 RX0 yX0_findLosses wsX0_findLosses) := goodIn_app (goodIn_of _ (by decide +kernel)) ggX0_settle_X0_findLosses
theorem dX0_settle_0 : decode cX0_settle 0 = .ok (.iconst 1, 1) := by decide +kernel
theorem dX0_settle_1 : decode cX0_settle 1 = .ok (.istore_n 1, 1) := by decide +kernel
theorem dX0_settle_2 : decode cX0_settle 2 = .ok (.iconst 1, 1) := by decide +kernel
theorem dX0_settle_3 : decode cX0_settle 3 = .ok (.istore_n 2, 1) := by decide +kernel
theorem dX0_settle_4 : decode cX0_settle 4 = .ok (.iload_n 2, 1) := by decide +kernel
theorem dX0_settle_5 : decode cX0_settle 5 = .ok (.sipush 1296, 3) := by decide +kernel
theorem dX0_settle_8 : decode cX0_settle 8 = .ok (.if_icmp .ge 34, 3) := by decide +kernel
theorem dX0_settle_11 : decode cX0_settle 11 = .ok (.iload_n 1, 1) := by decide +kernel
theorem dX0_settle_12 : decode cX0_settle 12 = .ok (.ifCond .eq 30, 3) := by decide +kernel
theorem dX0_settle_15 : decode cX0_settle 15 = .ok (.iload_n 2, 1) := by decide +kernel
theorem dX0_settle_16 : decode cX0_settle 16 = .ok (.iconst 2, 1) := by decide +kernel
theorem dX0_settle_17 : decode cX0_settle 17 = .ok (.irem, 1) := by decide +kernel
theorem dX0_settle_18 : decode cX0_settle 18 = .ok (.iconst 1, 1) := by decide +kernel
theorem dX0_settle_19 : decode cX0_settle 19 = .ok (.if_icmp .ne 11, 3) := by decide +kernel
theorem dX0_settle_22 : decode cX0_settle 22 = .ok (.aload_n 0, 1) := by decide +kernel
theorem dX0_settle_23 : decode cX0_settle 23 = .ok (.iload_n 2, 1) := by decide +kernel
theorem dX0_settle_24 : decode cX0_settle 24 = .ok (.invokevirtual 99, 3) := by decide +kernel
theorem dX0_settle_27 : decode cX0_settle 27 = .ok (.goto 8, 3) := by decide +kernel
theorem dX0_settle_30 : decode cX0_settle 30 = .ok (.aload_n 0, 1) := by decide +kernel
theorem dX0_settle_31 : decode cX0_settle 31 = .ok (.iload_n 2, 1) := by decide +kernel
theorem dX0_settle_32 : decode cX0_settle 32 = .ok (.invokevirtual 102, 3) := by decide +kernel
theorem dX0_settle_35 : decode cX0_settle 35 = .ok (.istore_n 1, 1) := by decide +kernel
theorem dX0_settle_36 : decode cX0_settle 36 = .ok (.iinc 2 1, 3) := by decide +kernel
theorem dX0_settle_39 : decode cX0_settle 39 = .ok (.goto (-35), 3) := by decide +kernel
theorem dX0_settle_42 : decode cX0_settle 42 = .ok (.return_, 1) := by decide +kernel
set_option maxRecDepth 20000 in
theorem ggX0_findWins_X0_leadsToLoss : GoodIn wsX0_findWins wsX0_leadsToLoss := goodIn_r _ [6, 7, 1, 8, 9, 10, 11] (by decide +kernel) (by decide +kernel)
set_option maxRecDepth 20000 in
theorem gX0_findWins_X0_leadsToLoss : GoodIn wsX0_findWins (wsV RX0 105 RX0 yX0_leadsToLoss wsX0_leadsToLoss) := goodIn_app (goodIn_of _ (by decide +kernel)) ggX0_findWins_X0_leadsToLoss
theorem dX0_findWins_0 : decode cX0_findWins 0 = .ok (.iconst 0, 1) := by decide +kernel
theorem dX0_findWins_1 : decode cX0_findWins 1 = .ok (.istore_n 2, 1) := by decide +kernel
theorem dX0_findWins_2 : decode cX0_findWins 2 = .ok (.iconst 0, 1) := by decide +kernel
theorem dX0_findWins_3 : decode cX0_findWins 3 = .ok (.istore_n 3, 1) := by decide +kernel
theorem dX0_findWins_4 : decode cX0_findWins 4 = .ok (.iload_n 3, 1) := by decide +kernel
theorem dX0_findWins_5 : decode cX0_findWins 5 = .ok (.sipush 1296, 3) := by decide +kernel
theorem dX0_findWins_8 : decode cX0_findWins 8 = .ok (.if_icmp .ge 36, 3) := by decide +kernel
theorem dX0_findWins_11 : decode cX0_findWins 11 = .ok (.aload_n 0, 1) := by decide +kernel
theorem dX0_findWins_12 : decode cX0_findWins 12 = .ok (.getfield 11, 3) := by decide +kernel
theorem dX0_findWins_15 : decode cX0_findWins 15 = .ok (.iload_n 3, 1) := by decide +kernel
theorem dX0_findWins_16 : decode cX0_findWins 16 = .ok (.baload, 1) := by decide +kernel
theorem dX0_findWins_17 : decode cX0_findWins 17 = .ok (.ifCond .ne 21, 3) := by decide +kernel
theorem dX0_findWins_20 : decode cX0_findWins 20 = .ok (.aload_n 0, 1) := by decide +kernel
theorem dX0_findWins_21 : decode cX0_findWins 21 = .ok (.iload_n 3, 1) := by decide +kernel
theorem dX0_findWins_22 : decode cX0_findWins 22 = .ok (.invokevirtual 105, 3) := by decide +kernel
theorem dX0_findWins_25 : decode cX0_findWins 25 = .ok (.ifCond .eq 13, 3) := by decide +kernel
theorem dX0_findWins_28 : decode cX0_findWins 28 = .ok (.aload_n 0, 1) := by decide +kernel
theorem dX0_findWins_29 : decode cX0_findWins 29 = .ok (.getfield 11, 3) := by decide +kernel
theorem dX0_findWins_32 : decode cX0_findWins 32 = .ok (.iload_n 3, 1) := by decide +kernel
theorem dX0_findWins_33 : decode cX0_findWins 33 = .ok (.iload_n 1, 1) := by decide +kernel
theorem dX0_findWins_34 : decode cX0_findWins 34 = .ok (.i2b, 1) := by decide +kernel
theorem dX0_findWins_35 : decode cX0_findWins 35 = .ok (.bastore, 1) := by decide +kernel
theorem dX0_findWins_36 : decode cX0_findWins 36 = .ok (.iconst 1, 1) := by decide +kernel
theorem dX0_findWins_37 : decode cX0_findWins 37 = .ok (.istore_n 2, 1) := by decide +kernel
theorem dX0_findWins_38 : decode cX0_findWins 38 = .ok (.iinc 3 1, 3) := by decide +kernel
theorem dX0_findWins_41 : decode cX0_findWins 41 = .ok (.goto (-37), 3) := by decide +kernel
theorem dX0_findWins_44 : decode cX0_findWins 44 = .ok (.iload_n 2, 1) := by decide +kernel
theorem dX0_findWins_45 : decode cX0_findWins 45 = .ok (.ireturn, 1) := by decide +kernel
set_option maxRecDepth 20000 in
theorem ggX0_findLosses_X0_leadsToWinsAlone : GoodIn wsX0_findLosses wsX0_leadsToWinsAlone := goodIn_r _ [7, 2, 1, 8, 9, 10, 11] (by decide +kernel) (by decide +kernel)
set_option maxRecDepth 20000 in
theorem gX0_findLosses_X0_leadsToWinsAlone : GoodIn wsX0_findLosses (wsV RX0 108 RX0 yX0_leadsToWinsAlone wsX0_leadsToWinsAlone) := goodIn_app (goodIn_of _ (by decide +kernel)) ggX0_findLosses_X0_leadsToWinsAlone
theorem dX0_findLosses_0 : decode cX0_findLosses 0 = .ok (.iconst 0, 1) := by decide +kernel
theorem dX0_findLosses_1 : decode cX0_findLosses 1 = .ok (.istore_n 2, 1) := by decide +kernel
theorem dX0_findLosses_2 : decode cX0_findLosses 2 = .ok (.iconst 0, 1) := by decide +kernel
theorem dX0_findLosses_3 : decode cX0_findLosses 3 = .ok (.istore_n 3, 1) := by decide +kernel
theorem dX0_findLosses_4 : decode cX0_findLosses 4 = .ok (.iload_n 3, 1) := by decide +kernel
theorem dX0_findLosses_5 : decode cX0_findLosses 5 = .ok (.sipush 1296, 3) := by decide +kernel
theorem dX0_findLosses_8 : decode cX0_findLosses 8 = .ok (.if_icmp .ge 46, 3) := by decide +kernel
theorem dX0_findLosses_11 : decode cX0_findLosses 11 = .ok (.aload_n 0, 1) := by decide +kernel
theorem dX0_findLosses_12 : decode cX0_findLosses 12 = .ok (.getfield 11, 3) := by decide +kernel
theorem dX0_findLosses_15 : decode cX0_findLosses 15 = .ok (.iload_n 3, 1) := by decide +kernel
theorem dX0_findLosses_16 : decode cX0_findLosses 16 = .ok (.baload, 1) := by decide +kernel
theorem dX0_findLosses_17 : decode cX0_findLosses 17 = .ok (.ifCond .ne 31, 3) := by decide +kernel
theorem dX0_findLosses_20 : decode cX0_findLosses 20 = .ok (.aload_n 0, 1) := by decide +kernel
theorem dX0_findLosses_21 : decode cX0_findLosses 21 = .ok (.getfield 15, 3) := by decide +kernel
theorem dX0_findLosses_24 : decode cX0_findLosses 24 = .ok (.iload_n 3, 1) := by decide +kernel
theorem dX0_findLosses_25 : decode cX0_findLosses 25 = .ok (.baload, 1) := by decide +kernel
theorem dX0_findLosses_26 : decode cX0_findLosses 26 = .ok (.ifCond .le 22, 3) := by decide +kernel
theorem dX0_findLosses_29 : decode cX0_findLosses 29 = .ok (.aload_n 0, 1) := by decide +kernel
theorem dX0_findLosses_30 : decode cX0_findLosses 30 = .ok (.iload_n 3, 1) := by decide +kernel
theorem dX0_findLosses_31 : decode cX0_findLosses 31 = .ok (.invokevirtual 108, 3) := by decide +kernel
theorem dX0_findLosses_34 : decode cX0_findLosses 34 = .ok (.ifCond .eq 14, 3) := by decide +kernel
theorem dX0_findLosses_37 : decode cX0_findLosses 37 = .ok (.aload_n 0, 1) := by decide +kernel
theorem dX0_findLosses_38 : decode cX0_findLosses 38 = .ok (.getfield 11, 3) := by decide +kernel
theorem dX0_findLosses_41 : decode cX0_findLosses 41 = .ok (.iload_n 3, 1) := by decide +kernel
theorem dX0_findLosses_42 : decode cX0_findLosses 42 = .ok (.iload_n 1, 1) := by decide +kernel
theorem dX0_findLosses_43 : decode cX0_findLosses 43 = .ok (.ineg, 1) := by decide +kernel
theorem dX0_findLosses_44 : decode cX0_findLosses 44 = .ok (.i2b, 1) := by decide +kernel
theorem dX0_findLosses_45 : decode cX0_findLosses 45 = .ok (.bastore, 1) := by decide +kernel
theorem dX0_findLosses_46 : decode cX0_findLosses 46 = .ok (.iconst 1, 1) := by decide +kernel
theorem dX0_findLosses_47 : decode cX0_findLosses 47 = .ok (.istore_n 2, 1) := by decide +kernel
theorem dX0_findLosses_48 : decode cX0_findLosses 48 = .ok (.iinc 3 1, 3) := by decide +kernel
theorem dX0_findLosses_51 : decode cX0_findLosses 51 = .ok (.goto (-47), 3) := by decide +kernel
theorem dX0_findLosses_54 : decode cX0_findLosses 54 = .ok (.iload_n 2, 1) := by decide +kernel
theorem dX0_findLosses_55 : decode cX0_findLosses 55 = .ok (.ireturn, 1) := by decide +kernel
theorem dX0_leadsToLoss_0 : decode cX0_leadsToLoss 0 = .ok (.iconst 0, 1) := by decide +kernel
theorem dX0_leadsToLoss_1 : decode cX0_leadsToLoss 1 = .ok (.istore_n 2, 1) := by decide +kernel
theorem dX0_leadsToLoss_2 : decode cX0_leadsToLoss 2 = .ok (.iload_n 2, 1) := by decide +kernel
theorem dX0_leadsToLoss_3 : decode cX0_leadsToLoss 3 = .ok (.aload_n 0, 1) := by decide +kernel
theorem dX0_leadsToLoss_4 : decode cX0_leadsToLoss 4 = .ok (.getfield 15, 3) := by decide +kernel
theorem dX0_leadsToLoss_7 : decode cX0_leadsToLoss 7 = .ok (.iload_n 1, 1) := by decide +kernel
theorem dX0_leadsToLoss_8 : decode cX0_leadsToLoss 8 = .ok (.baload, 1) := by decide +kernel
theorem dX0_leadsToLoss_9 : decode cX0_leadsToLoss 9 = .ok (.if_icmp .ge 29, 3) := by decide +kernel
theorem dX0_leadsToLoss_12 : decode cX0_leadsToLoss 12 = .ok (.aload_n 0, 1) := by decide +kernel
theorem dX0_leadsToLoss_13 : decode cX0_leadsToLoss 13 = .ok (.getfield 11, 3) := by decide +kernel
theorem dX0_leadsToLoss_16 : decode cX0_leadsToLoss 16 = .ok (.aload_n 0, 1) := by decide +kernel
theorem dX0_leadsToLoss_17 : decode cX0_leadsToLoss 17 = .ok (.getfield 18, 3) := by decide +kernel
theorem dX0_leadsToLoss_20 : decode cX0_leadsToLoss 20 = .ok (.iload_n 1, 1) := by decide +kernel
theorem dX0_leadsToLoss_21 : decode cX0_leadsToLoss 21 = .ok (.iconst 4, 1) := by decide +kernel
theorem dX0_leadsToLoss_22 : decode cX0_leadsToLoss 22 = .ok (.imul, 1) := by decide +kernel
theorem dX0_leadsToLoss_23 : decode cX0_leadsToLoss 23 = .ok (.iload_n 2, 1) := by decide +kernel
theorem dX0_leadsToLoss_24 : decode cX0_leadsToLoss 24 = .ok (.iadd, 1) := by decide +kernel
theorem dX0_leadsToLoss_25 : decode cX0_leadsToLoss 25 = .ok (.saload, 1) := by decide +kernel
theorem dX0_leadsToLoss_26 : decode cX0_leadsToLoss 26 = .ok (.baload, 1) := by decide +kernel
theorem dX0_leadsToLoss_27 : decode cX0_leadsToLoss 27 = .ok (.ifCond .ge 5, 3) := by decide +kernel
theorem dX0_leadsToLoss_30 : decode cX0_leadsToLoss 30 = .ok (.iconst 1, 1) := by decide +kernel
theorem dX0_leadsToLoss_31 : decode cX0_leadsToLoss 31 = .ok (.ireturn, 1) := by decide +kernel
theorem dX0_leadsToLoss_32 : decode cX0_leadsToLoss 32 = .ok (.iinc 2 1, 3) := by decide +kernel
theorem dX0_leadsToLoss_35 : decode cX0_leadsToLoss 35 = .ok (.goto (-33), 3) := by decide +kernel
theorem dX0_leadsToLoss_38 : decode cX0_leadsToLoss 38 = .ok (.iconst 0, 1) := by decide +kernel
theorem dX0_leadsToLoss_39 : decode cX0_leadsToLoss 39 = .ok (.ireturn, 1) := by decide +kernel
theorem dX0_leadsToWinsAlone_0 : decode cX0_leadsToWinsAlone 0 = .ok (.iconst 0, 1) := by decide +kernel
theorem dX0_leadsToWinsAlone_1 : decode cX0_leadsToWinsAlone 1 = .ok (.istore_n 2, 1) := by decide +kernel
theorem dX0_leadsToWinsAlone_2 : decode cX0_leadsToWinsAlone 2 = .ok (.iload_n 2, 1) := by decide +kernel
theorem dX0_leadsToWinsAlone_3 : decode cX0_leadsToWinsAlone 3 = .ok (.aload_n 0, 1) := by decide +kernel
theorem dX0_leadsToWinsAlone_4 : decode cX0_leadsToWinsAlone 4 = .ok (.getfield 15, 3) := by decide +kernel
theorem dX0_leadsToWinsAlone_7 : decode cX0_leadsToWinsAlone 7 = .ok (.iload_n 1, 1) := by decide +kernel
theorem dX0_leadsToWinsAlone_8 : decode cX0_leadsToWinsAlone 8 = .ok (.baload, 1) := by decide +kernel
theorem dX0_leadsToWinsAlone_9 : decode cX0_leadsToWinsAlone 9 = .ok (.if_icmp .ge 29, 3) := by decide +kernel
theorem dX0_leadsToWinsAlone_12 : decode cX0_leadsToWinsAlone 12 = .ok (.aload_n 0, 1) := by decide +kernel
theorem dX0_leadsToWinsAlone_13 : decode cX0_leadsToWinsAlone 13 = .ok (.getfield 11, 3) := by decide +kernel
theorem dX0_leadsToWinsAlone_16 : decode cX0_leadsToWinsAlone 16 = .ok (.aload_n 0, 1) := by decide +kernel
theorem dX0_leadsToWinsAlone_17 : decode cX0_leadsToWinsAlone 17 = .ok (.getfield 18, 3) := by decide +kernel
theorem dX0_leadsToWinsAlone_20 : decode cX0_leadsToWinsAlone 20 = .ok (.iload_n 1, 1) := by decide +kernel
theorem dX0_leadsToWinsAlone_21 : decode cX0_leadsToWinsAlone 21 = .ok (.iconst 4, 1) := by decide +kernel
theorem dX0_leadsToWinsAlone_22 : decode cX0_leadsToWinsAlone 22 = .ok (.imul, 1) := by decide +kernel
theorem dX0_leadsToWinsAlone_23 : decode cX0_leadsToWinsAlone 23 = .ok (.iload_n 2, 1) := by decide +kernel
theorem dX0_leadsToWinsAlone_24 : decode cX0_leadsToWinsAlone 24 = .ok (.iadd, 1) := by decide +kernel
theorem dX0_leadsToWinsAlone_25 : decode cX0_leadsToWinsAlone 25 = .ok (.saload, 1) := by decide +kernel
theorem dX0_leadsToWinsAlone_26 : decode cX0_leadsToWinsAlone 26 = .ok (.baload, 1) := by decide +kernel
theorem dX0_leadsToWinsAlone_27 : decode cX0_leadsToWinsAlone 27 = .ok (.ifCond .gt 5, 3) := by decide +kernel
theorem dX0_leadsToWinsAlone_30 : decode cX0_leadsToWinsAlone 30 = .ok (.iconst 0, 1) := by decide +kernel
theorem dX0_leadsToWinsAlone_31 : decode cX0_leadsToWinsAlone 31 = .ok (.ireturn, 1) := by decide +kernel
theorem dX0_leadsToWinsAlone_32 : decode cX0_leadsToWinsAlone 32 = .ok (.iinc 2 1, 3) := by decide +kernel
theorem dX0_leadsToWinsAlone_35 : decode cX0_leadsToWinsAlone 35 = .ok (.goto (-33), 3) := by decide +kernel
theorem dX0_leadsToWinsAlone_38 : decode cX0_leadsToWinsAlone 38 = .ok (.iconst 1, 1) := by decide +kernel
theorem dX0_leadsToWinsAlone_39 : decode cX0_leadsToWinsAlone 39 = .ok (.ireturn, 1) := by decide +kernel
theorem dX1_init_0 : decode cX1_init 0 = .ok (.aload_n 0, 1) := by decide +kernel
theorem dX1_init_1 : decode cX1_init 1 = .ok (.invokespecial 3, 3) := by decide +kernel
theorem dX1_init_4 : decode cX1_init 4 = .ok (.aload_n 0, 1) := by decide +kernel
theorem dX1_init_5 : decode cX1_init 5 = .ok (.bipush 72, 2) := by decide +kernel
theorem dX1_init_7 : decode cX1_init 7 = .ok (.newarray .int, 2) := by decide +kernel
theorem dX1_init_9 : decode cX1_init 9 = .ok (.putfield 11, 3) := by decide +kernel
theorem dX1_init_12 : decode cX1_init 12 = .ok (.return_, 1) := by decide +kernel
theorem dX1_beginning_0 : decode cX1_beginning 0 = .ok (.iload_n 0, 1) := by decide +kernel
theorem dX1_beginning_1 : decode cX1_beginning 1 = .ok (.bipush 23, 2) := by decide +kernel
theorem dX1_beginning_3 : decode cX1_beginning 3 = .ok (.ishr, 1) := by decide +kernel
theorem dX1_beginning_4 : decode cX1_beginning 4 = .ok (.bipush 31, 2) := by decide +kernel
theorem dX1_beginning_6 : decode cX1_beginning 6 = .ok (.iand, 1) := by decide +kernel
theorem dX1_beginning_7 : decode cX1_beginning 7 = .ok (.ireturn, 1) := by decide +kernel
theorem dX1_end_0 : decode cX1_end 0 = .ok (.iload_n 0, 1) := by decide +kernel
theorem dX1_end_1 : decode cX1_end 1 = .ok (.bipush 18, 2) := by decide +kernel
theorem dX1_end_3 : decode cX1_end 3 = .ok (.ishr, 1) := by decide +kernel
theorem dX1_end_4 : decode cX1_end 4 = .ok (.bipush 31, 2) := by decide +kernel
theorem dX1_end_6 : decode cX1_end 6 = .ok (.iand, 1) := by decide +kernel
theorem dX1_end_7 : decode cX1_end 7 = .ok (.ireturn, 1) := by decide +kernel
theorem dX1_taken_0 : decode cX1_taken 0 = .ok (.iload_n 0, 1) := by decide +kernel
theorem dX1_taken_1 : decode cX1_taken 1 = .ok (.ldc 15, 2) := by decide +kernel
theorem dX1_taken_3 : decode cX1_taken 3 = .ok (.iand, 1) := by decide +kernel
theorem dX1_taken_4 : decode cX1_taken 4 = .ok (.ireturn, 1) := by decide +kernel
theorem dX1_enter_0 : decode cX1_enter 0 = .ok (.iload_n 1, 1) := by decide +kernel
theorem dX1_enter_1 : decode cX1_enter 1 = .ok (.bipush 23, 2) := by decide +kernel
theorem dX1_enter_3 : decode cX1_enter 3 = .ok (.ishl, 1) := by decide +kernel
theorem dX1_enter_4 : decode cX1_enter 4 = .ok (.iload_n 2, 1) := by decide +kernel
theorem dX1_enter_5 : decode cX1_enter 5 = .ok (.bipush 18, 2) := by decide +kernel
theorem dX1_enter_7 : decode cX1_enter 7 = .ok (.ishl, 1) := by decide +kernel
theorem dX1_enter_8 : decode cX1_enter 8 = .ok (.ior, 1) := by decide +kernel
theorem dX1_enter_9 : decode cX1_enter 9 = .ok (.iload_n 3, 1) := by decide +kernel
theorem dX1_enter_10 : decode cX1_enter 10 = .ok (.ior, 1) := by decide +kernel
theorem dX1_enter_11 : decode cX1_enter 11 = .ok (.istore 4, 2) := by decide +kernel
theorem dX1_enter_13 : decode cX1_enter 13 = .ok (.aload_n 0, 1) := by decide +kernel
theorem dX1_enter_14 : decode cX1_enter 14 = .ok (.getfield 16, 3) := by decide +kernel
theorem dX1_enter_17 : decode cX1_enter 17 = .ok (.istore 5, 2) := by decide +kernel
theorem dX1_enter_19 : decode cX1_enter 19 = .ok (.iload 5, 2) := by decide +kernel
theorem dX1_enter_21 : decode cX1_enter 21 = .ok (.ifCond .le 23, 3) := by decide +kernel
theorem dX1_enter_24 : decode cX1_enter 24 = .ok (.aload_n 0, 1) := by decide +kernel
theorem dX1_enter_25 : decode cX1_enter 25 = .ok (.getfield 11, 3) := by decide +kernel
theorem dX1_enter_28 : decode cX1_enter 28 = .ok (.iload 5, 2) := by decide +kernel
theorem dX1_enter_30 : decode cX1_enter 30 = .ok (.iconst 1, 1) := by decide +kernel
theorem dX1_enter_31 : decode cX1_enter 31 = .ok (.isub, 1) := by decide +kernel
theorem dX1_enter_32 : decode cX1_enter 32 = .ok (.iaload, 1) := by decide +kernel
theorem dX1_enter_33 : decode cX1_enter 33 = .ok (.iload 4, 2) := by decide +kernel
theorem dX1_enter_35 : decode cX1_enter 35 = .ok (.if_icmp .le 9, 3) := by decide +kernel
theorem dX1_enter_38 : decode cX1_enter 38 = .ok (.iinc 5 (-1), 3) := by decide +kernel
theorem dX1_enter_41 : decode cX1_enter 41 = .ok (.goto (-22), 3) := by decide +kernel
theorem dX1_enter_44 : decode cX1_enter 44 = .ok (.iload 5, 2) := by decide +kernel
theorem dX1_enter_46 : decode cX1_enter 46 = .ok (.ifCond .le 21, 3) := by decide +kernel
theorem dX1_enter_49 : decode cX1_enter 49 = .ok (.aload_n 0, 1) := by decide +kernel
theorem dX1_enter_50 : decode cX1_enter 50 = .ok (.getfield 11, 3) := by decide +kernel
theorem dX1_enter_53 : decode cX1_enter 53 = .ok (.iload 5, 2) := by decide +kernel
theorem dX1_enter_55 : decode cX1_enter 55 = .ok (.iconst 1, 1) := by decide +kernel
theorem dX1_enter_56 : decode cX1_enter 56 = .ok (.isub, 1) := by decide +kernel
theorem dX1_enter_57 : decode cX1_enter 57 = .ok (.iaload, 1) := by decide +kernel
theorem dX1_enter_58 : decode cX1_enter 58 = .ok (.iload 4, 2) := by decide +kernel
theorem dX1_enter_60 : decode cX1_enter 60 = .ok (.if_icmp .ne 7, 3) := by decide +kernel
theorem dX1_enter_63 : decode cX1_enter 63 = .ok (.iconst 1, 1) := by decide +kernel
theorem dX1_enter_64 : decode cX1_enter 64 = .ok (.goto 4, 3) := by decide +kernel
theorem dX1_enter_67 : decode cX1_enter 67 = .ok (.iconst 0, 1) := by decide +kernel
theorem dX1_enter_68 : decode cX1_enter 68 = .ok (.istore 6, 2) := by decide +kernel
theorem dX1_enter_70 : decode cX1_enter 70 = .ok (.iload 6, 2) := by decide +kernel
theorem dX1_enter_72 : decode cX1_enter 72 = .ok (.ifCond .ne 12, 3) := by decide +kernel
theorem dX1_enter_75 : decode cX1_enter 75 = .ok (.aload_n 0, 1) := by decide +kernel
theorem dX1_enter_76 : decode cX1_enter 76 = .ok (.getfield 16, 3) := by decide +kernel
theorem dX1_enter_79 : decode cX1_enter 79 = .ok (.bipush 72, 2) := by decide +kernel
theorem dX1_enter_81 : decode cX1_enter 81 = .ok (.if_icmp .lt 4, 3) := by decide +kernel
theorem dX1_enter_84 : decode cX1_enter 84 = .ok (.return_, 1) := by decide +kernel
theorem dX1_enter_85 : decode cX1_enter 85 = .ok (.aload_n 0, 1) := by decide +kernel
theorem dX1_enter_86 : decode cX1_enter 86 = .ok (.getfield 16, 3) := by decide +kernel
theorem dX1_enter_89 : decode cX1_enter 89 = .ok (.istore 7, 2) := by decide +kernel
theorem dX1_enter_91 : decode cX1_enter 91 = .ok (.iload 7, 2) := by decide +kernel
theorem dX1_enter_93 : decode cX1_enter 93 = .ok (.iload 5, 2) := by decide +kernel
theorem dX1_enter_95 : decode cX1_enter 95 = .ok (.if_icmp .le 25, 3) := by decide +kernel
theorem dX1_enter_98 : decode cX1_enter 98 = .ok (.aload_n 0, 1) := by decide +kernel
theorem dX1_enter_99 : decode cX1_enter 99 = .ok (.getfield 11, 3) := by decide +kernel
theorem dX1_enter_102 : decode cX1_enter 102 = .ok (.iload 7, 2) := by decide +kernel
theorem dX1_enter_104 : decode cX1_enter 104 = .ok (.aload_n 0, 1) := by decide +kernel
theorem dX1_enter_105 : decode cX1_enter 105 = .ok (.getfield 11, 3) := by decide +kernel
theorem dX1_enter_108 : decode cX1_enter 108 = .ok (.iload 7, 2) := by decide +kernel
theorem dX1_enter_110 : decode cX1_enter 110 = .ok (.iconst 1, 1) := by decide +kernel
theorem dX1_enter_111 : decode cX1_enter 111 = .ok (.isub, 1) := by decide +kernel
theorem dX1_enter_112 : decode cX1_enter 112 = .ok (.iaload, 1) := by decide +kernel
theorem dX1_enter_113 : decode cX1_enter 113 = .ok (.iastore, 1) := by decide +kernel
theorem dX1_enter_114 : decode cX1_enter 114 = .ok (.iinc 7 (-1), 3) := by decide +kernel
theorem dX1_enter_117 : decode cX1_enter 117 = .ok (.goto (-26), 3) := by decide +kernel
theorem dX1_enter_120 : decode cX1_enter 120 = .ok (.aload_n 0, 1) := by decide +kernel
theorem dX1_enter_121 : decode cX1_enter 121 = .ok (.getfield 11, 3) := by decide +kernel
theorem dX1_enter_124 : decode cX1_enter 124 = .ok (.iload 5, 2) := by decide +kernel
theorem dX1_enter_126 : decode cX1_enter 126 = .ok (.iload 4, 2) := by decide +kernel
theorem dX1_enter_128 : decode cX1_enter 128 = .ok (.iastore, 1) := by decide +kernel
theorem dX1_enter_129 : decode cX1_enter 129 = .ok (.aload_n 0, 1) := by decide +kernel
theorem dX1_enter_130 : decode cX1_enter 130 = .ok (.dup, 1) := by decide +kernel
theorem dX1_enter_131 : decode cX1_enter 131 = .ok (.getfield 16, 3) := by decide +kernel
theorem dX1_enter_134 : decode cX1_enter 134 = .ok (.iconst 1, 1) := by decide +kernel
theorem dX1_enter_135 : decode cX1_enter 135 = .ok (.iadd, 1) := by decide +kernel
theorem dX1_enter_136 : decode cX1_enter 136 = .ok (.putfield 16, 3) := by decide +kernel
theorem dX1_enter_139 : decode cX1_enter 139 = .ok (.return_, 1) := by decide +kernel
theorem dX2_init_0 : decode cX2_init 0 = .ok (.aload_n 0, 1) := by decide +kernel
theorem dX2_init_1 : decode cX2_init 1 = .ok (.invokespecial 3, 3) := by decide +kernel
theorem dX2_init_4 : decode cX2_init 4 = .ok (.return_, 1) := by decide +kernel
theorem dX2_wipe_0 : decode cX2_wipe 0 = .ok (.aload_n 0, 1) := by decide +kernel
theorem dX2_wipe_1 : decode cX2_wipe 1 = .ok (.iconst 0, 1) := by decide +kernel
theorem dX2_wipe_2 : decode cX2_wipe 2 = .ok (.putfield 9, 3) := by decide +kernel
theorem dX2_wipe_5 : decode cX2_wipe 5 = .ok (.aload_n 0, 1) := by decide +kernel
theorem dX2_wipe_6 : decode cX2_wipe 6 = .ok (.iconst 0, 1) := by decide +kernel
theorem dX2_wipe_7 : decode cX2_wipe 7 = .ok (.putfield 15, 3) := by decide +kernel
theorem dX2_wipe_10 : decode cX2_wipe 10 = .ok (.aload_n 0, 1) := by decide +kernel
theorem dX2_wipe_11 : decode cX2_wipe 11 = .ok (.iconst 0, 1) := by decide +kernel
theorem dX2_wipe_12 : decode cX2_wipe 12 = .ok (.putfield 18, 3) := by decide +kernel
theorem dX2_wipe_15 : decode cX2_wipe 15 = .ok (.aload_n 0, 1) := by decide +kernel
theorem dX2_wipe_16 : decode cX2_wipe 16 = .ok (.iconst 0, 1) := by decide +kernel
theorem dX2_wipe_17 : decode cX2_wipe 17 = .ok (.putfield 21, 3) := by decide +kernel
theorem dX2_wipe_20 : decode cX2_wipe 20 = .ok (.aload_n 0, 1) := by decide +kernel
theorem dX2_wipe_21 : decode cX2_wipe 21 = .ok (.iconst 0, 1) := by decide +kernel
theorem dX2_wipe_22 : decode cX2_wipe 22 = .ok (.putfield 24, 3) := by decide +kernel
theorem dX2_wipe_25 : decode cX2_wipe 25 = .ok (.return_, 1) := by decide +kernel
set_option maxRecDepth 20000 in
theorem ggX2_setUp_X2_wipe : GoodIn wsX2_setUp wsX2_wipe := goodIn_r _ [8, 1, 3, 9, 10, 11, 12, 13, 14, 15, 16] (by decide +kernel) (by decide +kernel)
set_option maxRecDepth 20000 in
theorem gX2_setUp_X2_wipe : GoodIn wsX2_setUp (wsV RX2 27 RX2 yX2_wipe wsX2_wipe) := goodIn_app (goodIn_of _ (by decide +kernel)) ggX2_setUp_X2_wipe
theorem dX2_setUp_0 : decode cX2_setUp 0 = .ok (.aload_n 0, 1) := by decide +kernel
theorem dX2_setUp_1 : decode cX2_setUp 1 = .ok (.invokevirtual 27, 3) := by decide +kernel
theorem dX2_setUp_4 : decode cX2_setUp 4 = .ok (.aload_n 0, 1) := by decide +kernel
theorem dX2_setUp_5 : decode cX2_setUp 5 = .ok (.bipush 63, 2) := by decide +kernel
theorem dX2_setUp_7 : decode cX2_setUp 7 = .ok (.putfield 9, 3) := by decide +kernel
theorem dX2_setUp_10 : decode cX2_setUp 10 = .ok (.aload_n 0, 1) := by decide +kernel
theorem dX2_setUp_11 : decode cX2_setUp 11 = .ok (.ldc 30, 2) := by decide +kernel
theorem dX2_setUp_13 : decode cX2_setUp 13 = .ok (.putfield 15, 3) := by decide +kernel
theorem dX2_setUp_16 : decode cX2_setUp 16 = .ok (.return_, 1) := by decide +kernel
theorem dX2_copy_0 : decode cX2_copy 0 = .ok (.aload_n 0, 1) := by decide +kernel
theorem dX2_copy_1 : decode cX2_copy 1 = .ok (.aload_n 1, 1) := by decide +kernel
theorem dX2_copy_2 : decode cX2_copy 2 = .ok (.getfield 9, 3) := by decide +kernel
theorem dX2_copy_5 : decode cX2_copy 5 = .ok (.putfield 9, 3) := by decide +kernel
theorem dX2_copy_8 : decode cX2_copy 8 = .ok (.aload_n 0, 1) := by decide +kernel
theorem dX2_copy_9 : decode cX2_copy 9 = .ok (.aload_n 1, 1) := by decide +kernel
theorem dX2_copy_10 : decode cX2_copy 10 = .ok (.getfield 15, 3) := by decide +kernel
theorem dX2_copy_13 : decode cX2_copy 13 = .ok (.putfield 15, 3) := by decide +kernel
theorem dX2_copy_16 : decode cX2_copy 16 = .ok (.aload_n 0, 1) := by decide +kernel
theorem dX2_copy_17 : decode cX2_copy 17 = .ok (.aload_n 1, 1) := by decide +kernel
theorem dX2_copy_18 : decode cX2_copy 18 = .ok (.getfield 18, 3) := by decide +kernel
theorem dX2_copy_21 : decode cX2_copy 21 = .ok (.putfield 18, 3) := by decide +kernel
theorem dX2_copy_24 : decode cX2_copy 24 = .ok (.aload_n 0, 1) := by decide +kernel
theorem dX2_copy_25 : decode cX2_copy 25 = .ok (.aload_n 1, 1) := by decide +kernel
theorem dX2_copy_26 : decode cX2_copy 26 = .ok (.getfield 21, 3) := by decide +kernel
theorem dX2_copy_29 : decode cX2_copy 29 = .ok (.putfield 21, 3) := by decide +kernel
theorem dX2_copy_32 : decode cX2_copy 32 = .ok (.aload_n 0, 1) := by decide +kernel
theorem dX2_copy_33 : decode cX2_copy 33 = .ok (.aload_n 1, 1) := by decide +kernel
theorem dX2_copy_34 : decode cX2_copy 34 = .ok (.getfield 24, 3) := by decide +kernel
theorem dX2_copy_37 : decode cX2_copy 37 = .ok (.putfield 24, 3) := by decide +kernel
theorem dX2_copy_40 : decode cX2_copy 40 = .ok (.return_, 1) := by decide +kernel
theorem dX2_own_0 : decode cX2_own 0 = .ok (.aload_n 0, 1) := by decide +kernel
theorem dX2_own_1 : decode cX2_own 1 = .ok (.getfield 21, 3) := by decide +kernel
theorem dX2_own_4 : decode cX2_own 4 = .ok (.ifCond .ne 10, 3) := by decide +kernel
theorem dX2_own_7 : decode cX2_own 7 = .ok (.aload_n 0, 1) := by decide +kernel
theorem dX2_own_8 : decode cX2_own 8 = .ok (.getfield 9, 3) := by decide +kernel
theorem dX2_own_11 : decode cX2_own 11 = .ok (.goto 7, 3) := by decide +kernel
theorem dX2_own_14 : decode cX2_own 14 = .ok (.aload_n 0, 1) := by decide +kernel
theorem dX2_own_15 : decode cX2_own 15 = .ok (.getfield 15, 3) := by decide +kernel
theorem dX2_own_18 : decode cX2_own 18 = .ok (.ireturn, 1) := by decide +kernel
theorem dX2_others_0 : decode cX2_others 0 = .ok (.aload_n 0, 1) := by decide +kernel
theorem dX2_others_1 : decode cX2_others 1 = .ok (.getfield 21, 3) := by decide +kernel
theorem dX2_others_4 : decode cX2_others 4 = .ok (.ifCond .ne 10, 3) := by decide +kernel
theorem dX2_others_7 : decode cX2_others 7 = .ok (.aload_n 0, 1) := by decide +kernel
theorem dX2_others_8 : decode cX2_others 8 = .ok (.getfield 15, 3) := by decide +kernel
theorem dX2_others_11 : decode cX2_others 11 = .ok (.goto 7, 3) := by decide +kernel
theorem dX2_others_14 : decode cX2_others 14 = .ok (.aload_n 0, 1) := by decide +kernel
theorem dX2_others_15 : decode cX2_others 15 = .ok (.getfield 9, 3) := by decide +kernel
theorem dX2_others_18 : decode cX2_others 18 = .ok (.ireturn, 1) := by decide +kernel
theorem dX2_isKing_0 : decode cX2_isKing 0 = .ok (.aload_n 0, 1) := by decide +kernel
theorem dX2_isKing_1 : decode cX2_isKing 1 = .ok (.getfield 18, 3) := by decide +kernel
theorem dX2_isKing_4 : decode cX2_isKing 4 = .ok (.iload_n 1, 1) := by decide +kernel
theorem dX2_isKing_5 : decode cX2_isKing 5 = .ok (.ishr, 1) := by decide +kernel
theorem dX2_isKing_6 : decode cX2_isKing 6 = .ok (.iconst 1, 1) := by decide +kernel
theorem dX2_isKing_7 : decode cX2_isKing 7 = .ok (.iand, 1) := by decide +kernel
theorem dX2_isKing_8 : decode cX2_isKing 8 = .ok (.ifCond .eq 7, 3) := by decide +kernel
theorem dX2_isKing_11 : decode cX2_isKing 11 = .ok (.iconst 1, 1) := by decide +kernel
theorem dX2_isKing_12 : decode cX2_isKing 12 = .ok (.goto 4, 3) := by decide +kernel
theorem dX2_isKing_15 : decode cX2_isKing 15 = .ok (.iconst 0, 1) := by decide +kernel
theorem dX2_isKing_16 : decode cX2_isKing 16 = .ok (.ireturn, 1) := by decide +kernel
set_option maxRecDepth 20000 in
theorem ggX2_isOneEach_J6_bitCount_0f7a4 : GoodIn wsX2_isOneEach wsJ6_bitCount_0f7a4 := goodIn_r _ [6, 7, 8, 9] (by decide +kernel) (by decide +kernel)
set_option maxRecDepth 20000 in
theorem gX2_isOneEach_J6_bitCount_0f7a4 : GoodIn wsX2_isOneEach (va_wsS RX2 31 yJ6_bitCount_0f7a4 wsJ6_bitCount_0f7a4) := goodIn_app (goodIn_of _ (by decide +kernel)) ggX2_isOneEach_J6_bitCount_0f7a4
theorem dX2_isOneEach_0 : decode cX2_isOneEach 0 = .ok (.aload_n 0, 1) := by decide +kernel
theorem dX2_isOneEach_1 : decode cX2_isOneEach 1 = .ok (.getfield 9, 3) := by decide +kernel
theorem dX2_isOneEach_4 : decode cX2_isOneEach 4 = .ok (.invokestatic 31, 3) := by decide +kernel
theorem dX2_isOneEach_7 : decode cX2_isOneEach 7 = .ok (.iconst 1, 1) := by decide +kernel
theorem dX2_isOneEach_8 : decode cX2_isOneEach 8 = .ok (.if_icmp .ne 18, 3) := by decide +kernel
theorem dX2_isOneEach_11 : decode cX2_isOneEach 11 = .ok (.aload_n 0, 1) := by decide +kernel
theorem dX2_isOneEach_12 : decode cX2_isOneEach 12 = .ok (.getfield 15, 3) := by decide +kernel
theorem dX2_isOneEach_15 : decode cX2_isOneEach 15 = .ok (.invokestatic 31, 3) := by decide +kernel
theorem dX2_isOneEach_18 : decode cX2_isOneEach 18 = .ok (.iconst 1, 1) := by decide +kernel
theorem dX2_isOneEach_19 : decode cX2_isOneEach 19 = .ok (.if_icmp .ne 7, 3) := by decide +kernel
theorem dX2_isOneEach_22 : decode cX2_isOneEach 22 = .ok (.iconst 1, 1) := by decide +kernel
theorem dX2_isOneEach_23 : decode cX2_isOneEach 23 = .ok (.goto 4, 3) := by decide +kernel
theorem dX2_isOneEach_26 : decode cX2_isOneEach 26 = .ok (.iconst 0, 1) := by decide +kernel
theorem dX2_isOneEach_27 : decode cX2_isOneEach 27 = .ok (.ireturn, 1) := by decide +kernel
theorem dX2_pieceOn_0 : decode cX2_pieceOn 0 = .ok (.aload_n 0, 1) := by decide +kernel
theorem dX2_pieceOn_1 : decode cX2_pieceOn 1 = .ok (.getfield 18, 3) := by decide +kernel
theorem dX2_pieceOn_4 : decode cX2_pieceOn 4 = .ok (.iload_n 1, 1) := by decide +kernel
theorem dX2_pieceOn_5 : decode cX2_pieceOn 5 = .ok (.iand, 1) := by decide +kernel
theorem dX2_pieceOn_6 : decode cX2_pieceOn 6 = .ok (.ifCond .eq 7, 3) := by decide +kernel
theorem dX2_pieceOn_9 : decode cX2_pieceOn 9 = .ok (.iconst 1, 1) := by decide +kernel
theorem dX2_pieceOn_10 : decode cX2_pieceOn 10 = .ok (.goto 4, 3) := by decide +kernel
theorem dX2_pieceOn_13 : decode cX2_pieceOn 13 = .ok (.iconst 0, 1) := by decide +kernel
theorem dX2_pieceOn_14 : decode cX2_pieceOn 14 = .ok (.istore_n 2, 1) := by decide +kernel
theorem dX2_pieceOn_15 : decode cX2_pieceOn 15 = .ok (.aload_n 0, 1) := by decide +kernel
theorem dX2_pieceOn_16 : decode cX2_pieceOn 16 = .ok (.getfield 9, 3) := by decide +kernel
theorem dX2_pieceOn_19 : decode cX2_pieceOn 19 = .ok (.iload_n 1, 1) := by decide +kernel
theorem dX2_pieceOn_20 : decode cX2_pieceOn 20 = .ok (.iand, 1) := by decide +kernel
theorem dX2_pieceOn_21 : decode cX2_pieceOn 21 = .ok (.ifCond .eq 13, 3) := by decide +kernel
theorem dX2_pieceOn_24 : decode cX2_pieceOn 24 = .ok (.iload_n 2, 1) := by decide +kernel
theorem dX2_pieceOn_25 : decode cX2_pieceOn 25 = .ok (.ifCond .eq 7, 3) := by decide +kernel
theorem dX2_pieceOn_28 : decode cX2_pieceOn 28 = .ok (.iconst 2, 1) := by decide +kernel
theorem dX2_pieceOn_29 : decode cX2_pieceOn 29 = .ok (.goto 4, 3) := by decide +kernel
theorem dX2_pieceOn_32 : decode cX2_pieceOn 32 = .ok (.iconst 1, 1) := by decide +kernel
theorem dX2_pieceOn_33 : decode cX2_pieceOn 33 = .ok (.ireturn, 1) := by decide +kernel
theorem dX2_pieceOn_34 : decode cX2_pieceOn 34 = .ok (.aload_n 0, 1) := by decide +kernel
theorem dX2_pieceOn_35 : decode cX2_pieceOn 35 = .ok (.getfield 15, 3) := by decide +kernel
theorem dX2_pieceOn_38 : decode cX2_pieceOn 38 = .ok (.iload_n 1, 1) := by decide +kernel
theorem dX2_pieceOn_39 : decode cX2_pieceOn 39 = .ok (.iand, 1) := by decide +kernel
theorem dX2_pieceOn_40 : decode cX2_pieceOn 40 = .ok (.ifCond .eq 13, 3) := by decide +kernel
theorem dX2_pieceOn_43 : decode cX2_pieceOn 43 = .ok (.iload_n 2, 1) := by decide +kernel
theorem dX2_pieceOn_44 : decode cX2_pieceOn 44 = .ok (.ifCond .eq 7, 3) := by decide +kernel
theorem dX2_pieceOn_47 : decode cX2_pieceOn 47 = .ok (.iconst 4, 1) := by decide +kernel
theorem dX2_pieceOn_48 : decode cX2_pieceOn 48 = .ok (.goto 4, 3) := by decide +kernel
theorem dX2_pieceOn_51 : decode cX2_pieceOn 51 = .ok (.iconst 3, 1) := by decide +kernel
theorem dX2_pieceOn_52 : decode cX2_pieceOn 52 = .ok (.ireturn, 1) := by decide +kernel
theorem dX2_pieceOn_53 : decode cX2_pieceOn 53 = .ok (.iconst 0, 1) := by decide +kernel
theorem dX2_pieceOn_54 : decode cX2_pieceOn 54 = .ok (.ireturn, 1) := by decide +kernel
theorem dX2_place_0 : decode cX2_place 0 = .ok (.aload_n 0, 1) := by decide +kernel
theorem dX2_place_1 : decode cX2_place 1 = .ok (.dup, 1) := by decide +kernel
theorem dX2_place_2 : decode cX2_place 2 = .ok (.getfield 9, 3) := by decide +kernel
theorem dX2_place_5 : decode cX2_place 5 = .ok (.iload_n 1, 1) := by decide +kernel
theorem dX2_place_6 : decode cX2_place 6 = .ok (.iconst (-1), 1) := by decide +kernel
theorem dX2_place_7 : decode cX2_place 7 = .ok (.ixor, 1) := by decide +kernel
theorem dX2_place_8 : decode cX2_place 8 = .ok (.iand, 1) := by decide +kernel
theorem dX2_place_9 : decode cX2_place 9 = .ok (.putfield 9, 3) := by decide +kernel
theorem dX2_place_12 : decode cX2_place 12 = .ok (.aload_n 0, 1) := by decide +kernel
theorem dX2_place_13 : decode cX2_place 13 = .ok (.dup, 1) := by decide +kernel
theorem dX2_place_14 : decode cX2_place 14 = .ok (.getfield 15, 3) := by decide +kernel
theorem dX2_place_17 : decode cX2_place 17 = .ok (.iload_n 1, 1) := by decide +kernel
theorem dX2_place_18 : decode cX2_place 18 = .ok (.iconst (-1), 1) := by decide +kernel
theorem dX2_place_19 : decode cX2_place 19 = .ok (.ixor, 1) := by decide +kernel
theorem dX2_place_20 : decode cX2_place 20 = .ok (.iand, 1) := by decide +kernel
theorem dX2_place_21 : decode cX2_place 21 = .ok (.putfield 15, 3) := by decide +kernel
theorem dX2_place_24 : decode cX2_place 24 = .ok (.aload_n 0, 1) := by decide +kernel
theorem dX2_place_25 : decode cX2_place 25 = .ok (.dup, 1) := by decide +kernel
theorem dX2_place_26 : decode cX2_place 26 = .ok (.getfield 18, 3) := by decide +kernel
theorem dX2_place_29 : decode cX2_place 29 = .ok (.iload_n 1, 1) := by decide +kernel
theorem dX2_place_30 : decode cX2_place 30 = .ok (.iconst (-1), 1) := by decide +kernel
theorem dX2_place_31 : decode cX2_place 31 = .ok (.ixor, 1) := by decide +kernel
theorem dX2_place_32 : decode cX2_place 32 = .ok (.iand, 1) := by decide +kernel
theorem dX2_place_33 : decode cX2_place 33 = .ok (.putfield 18, 3) := by decide +kernel
theorem dX2_place_36 : decode cX2_place 36 = .ok (.iload_n 2, 1) := by decide +kernel
theorem dX2_place_37 : decode cX2_place 37 = .ok (.iconst 1, 1) := by decide +kernel
theorem dX2_place_38 : decode cX2_place 38 = .ok (.if_icmp .eq 8, 3) := by decide +kernel
theorem dX2_place_41 : decode cX2_place 41 = .ok (.iload_n 2, 1) := by decide +kernel
theorem dX2_place_42 : decode cX2_place 42 = .ok (.iconst 2, 1) := by decide +kernel
theorem dX2_place_43 : decode cX2_place 43 = .ok (.if_icmp .ne 13, 3) := by decide +kernel
theorem dX2_place_46 : decode cX2_place 46 = .ok (.aload_n 0, 1) := by decide +kernel
theorem dX2_place_47 : decode cX2_place 47 = .ok (.dup, 1) := by decide +kernel
theorem dX2_place_48 : decode cX2_place 48 = .ok (.getfield 9, 3) := by decide +kernel
theorem dX2_place_51 : decode cX2_place 51 = .ok (.iload_n 1, 1) := by decide +kernel
theorem dX2_place_52 : decode cX2_place 52 = .ok (.ior, 1) := by decide +kernel
theorem dX2_place_53 : decode cX2_place 53 = .ok (.putfield 9, 3) := by decide +kernel
theorem dX2_place_56 : decode cX2_place 56 = .ok (.iload_n 2, 1) := by decide +kernel
theorem dX2_place_57 : decode cX2_place 57 = .ok (.iconst 3, 1) := by decide +kernel
theorem dX2_place_58 : decode cX2_place 58 = .ok (.if_icmp .eq 8, 3) := by decide +kernel
theorem dX2_place_61 : decode cX2_place 61 = .ok (.iload_n 2, 1) := by decide +kernel
theorem dX2_place_62 : decode cX2_place 62 = .ok (.iconst 4, 1) := by decide +kernel
theorem dX2_place_63 : decode cX2_place 63 = .ok (.if_icmp .ne 13, 3) := by decide +kernel
theorem dX2_place_66 : decode cX2_place 66 = .ok (.aload_n 0, 1) := by decide +kernel
theorem dX2_place_67 : decode cX2_place 67 = .ok (.dup, 1) := by decide +kernel
theorem dX2_place_68 : decode cX2_place 68 = .ok (.getfield 15, 3) := by decide +kernel
theorem dX2_place_71 : decode cX2_place 71 = .ok (.iload_n 1, 1) := by decide +kernel
theorem dX2_place_72 : decode cX2_place 72 = .ok (.ior, 1) := by decide +kernel
theorem dX2_place_73 : decode cX2_place 73 = .ok (.putfield 15, 3) := by decide +kernel
theorem dX2_place_76 : decode cX2_place 76 = .ok (.iload_n 2, 1) := by decide +kernel
theorem dX2_place_77 : decode cX2_place 77 = .ok (.iconst 2, 1) := by decide +kernel
theorem dX2_place_78 : decode cX2_place 78 = .ok (.if_icmp .eq 8, 3) := by decide +kernel
theorem dX2_place_81 : decode cX2_place 81 = .ok (.iload_n 2, 1) := by decide +kernel
theorem dX2_place_82 : decode cX2_place 82 = .ok (.iconst 4, 1) := by decide +kernel
theorem dX2_place_83 : decode cX2_place 83 = .ok (.if_icmp .ne 13, 3) := by decide +kernel
theorem dX2_place_86 : decode cX2_place 86 = .ok (.aload_n 0, 1) := by decide +kernel
theorem dX2_place_87 : decode cX2_place 87 = .ok (.dup, 1) := by decide +kernel
theorem dX2_place_88 : decode cX2_place 88 = .ok (.getfield 18, 3) := by decide +kernel
theorem dX2_place_91 : decode cX2_place 91 = .ok (.iload_n 1, 1) := by decide +kernel
theorem dX2_place_92 : decode cX2_place 92 = .ok (.ior, 1) := by decide +kernel
theorem dX2_place_93 : decode cX2_place 93 = .ok (.putfield 18, 3) := by decide +kernel
theorem dX2_place_96 : decode cX2_place 96 = .ok (.return_, 1) := by decide +kernel
set_option maxRecDepth 20000 in
theorem ggX2_follow_X1_beginning : GoodIn wsX2_follow wsX1_beginning := goodIn_r _ [10] (by decide +kernel) (by decide +kernel)
set_option maxRecDepth 20000 in
theorem gX2_follow_X1_beginning : GoodIn wsX2_follow (va_wsS RX2 37 yX1_beginning wsX1_beginning) := goodIn_app (goodIn_of _ (by decide +kernel)) ggX2_follow_X1_beginning
set_option maxRecDepth 20000 in
theorem ggX2_follow_X1_end : GoodIn wsX2_follow wsX1_end := goodIn_r _ [13] (by decide +kernel) (by decide +kernel)
set_option maxRecDepth 20000 in
theorem gX2_follow_X1_end : GoodIn wsX2_follow (va_wsS RX2 42 yX1_end wsX1_end) := goodIn_app (goodIn_of _ (by decide +kernel)) ggX2_follow_X1_end
set_option maxRecDepth 20000 in
theorem ggX2_follow_X1_taken : GoodIn wsX2_follow wsX1_taken := goodIn_r _ [16, 17] (by decide +kernel) (by decide +kernel)
set_option maxRecDepth 20000 in
theorem gX2_follow_X1_taken : GoodIn wsX2_follow (va_wsS RX2 45 yX1_taken wsX1_taken) := goodIn_app (goodIn_of _ (by decide +kernel)) ggX2_follow_X1_taken
theorem dX2_follow_0 : decode cX2_follow 0 = .ok (.iconst 1, 1) := by decide +kernel
theorem dX2_follow_1 : decode cX2_follow 1 = .ok (.iload_n 2, 1) := by decide +kernel
theorem dX2_follow_2 : decode cX2_follow 2 = .ok (.invokestatic 37, 3) := by decide +kernel
theorem dX2_follow_5 : decode cX2_follow 5 = .ok (.ishl, 1) := by decide +kernel
theorem dX2_follow_6 : decode cX2_follow 6 = .ok (.istore_n 3, 1) := by decide +kernel
theorem dX2_follow_7 : decode cX2_follow 7 = .ok (.iconst 1, 1) := by decide +kernel
theorem dX2_follow_8 : decode cX2_follow 8 = .ok (.iload_n 2, 1) := by decide +kernel
theorem dX2_follow_9 : decode cX2_follow 9 = .ok (.invokestatic 42, 3) := by decide +kernel
theorem dX2_follow_12 : decode cX2_follow 12 = .ok (.ishl, 1) := by decide +kernel
theorem dX2_follow_13 : decode cX2_follow 13 = .ok (.istore 4, 2) := by decide +kernel
theorem dX2_follow_15 : decode cX2_follow 15 = .ok (.iload_n 2, 1) := by decide +kernel
theorem dX2_follow_16 : decode cX2_follow 16 = .ok (.invokestatic 45, 3) := by decide +kernel
theorem dX2_follow_19 : decode cX2_follow 19 = .ok (.istore 5, 2) := by decide +kernel
theorem dX2_follow_21 : decode cX2_follow 21 = .ok (.aload_n 1, 1) := by decide +kernel
theorem dX2_follow_22 : decode cX2_follow 22 = .ok (.getfield 21, 3) := by decide +kernel
theorem dX2_follow_25 : decode cX2_follow 25 = .ok (.ifCond .ne 7, 3) := by decide +kernel
theorem dX2_follow_28 : decode cX2_follow 28 = .ok (.iconst 1, 1) := by decide +kernel
theorem dX2_follow_29 : decode cX2_follow 29 = .ok (.goto 4, 3) := by decide +kernel
theorem dX2_follow_32 : decode cX2_follow 32 = .ok (.iconst 0, 1) := by decide +kernel
theorem dX2_follow_33 : decode cX2_follow 33 = .ok (.istore 6, 2) := by decide +kernel
theorem dX2_follow_35 : decode cX2_follow 35 = .ok (.aload_n 1, 1) := by decide +kernel
theorem dX2_follow_36 : decode cX2_follow 36 = .ok (.getfield 18, 3) := by decide +kernel
theorem dX2_follow_39 : decode cX2_follow 39 = .ok (.iload_n 3, 1) := by decide +kernel
theorem dX2_follow_40 : decode cX2_follow 40 = .ok (.iand, 1) := by decide +kernel
theorem dX2_follow_41 : decode cX2_follow 41 = .ok (.ifCond .eq 7, 3) := by decide +kernel
theorem dX2_follow_44 : decode cX2_follow 44 = .ok (.iconst 1, 1) := by decide +kernel
theorem dX2_follow_45 : decode cX2_follow 45 = .ok (.goto 4, 3) := by decide +kernel
theorem dX2_follow_48 : decode cX2_follow 48 = .ok (.iconst 0, 1) := by decide +kernel
theorem dX2_follow_49 : decode cX2_follow 49 = .ok (.istore 7, 2) := by decide +kernel
theorem dX2_follow_51 : decode cX2_follow 51 = .ok (.iload 6, 2) := by decide +kernel
theorem dX2_follow_53 : decode cX2_follow 53 = .ok (.ifCond .eq 8, 3) := by decide +kernel
theorem dX2_follow_56 : decode cX2_follow 56 = .ok (.ldc 48, 2) := by decide +kernel
theorem dX2_follow_58 : decode cX2_follow 58 = .ok (.goto 5, 3) := by decide +kernel
theorem dX2_follow_61 : decode cX2_follow 61 = .ok (.bipush 7, 2) := by decide +kernel
theorem dX2_follow_63 : decode cX2_follow 63 = .ok (.istore 8, 2) := by decide +kernel
theorem dX2_follow_65 : decode cX2_follow 65 = .ok (.aload_n 0, 1) := by decide +kernel
theorem dX2_follow_66 : decode cX2_follow 66 = .ok (.iload 6, 2) := by decide +kernel
theorem dX2_follow_68 : decode cX2_follow 68 = .ok (.ifCond .eq 17, 3) := by decide +kernel
theorem dX2_follow_71 : decode cX2_follow 71 = .ok (.aload_n 1, 1) := by decide +kernel
theorem dX2_follow_72 : decode cX2_follow 72 = .ok (.getfield 9, 3) := by decide +kernel
theorem dX2_follow_75 : decode cX2_follow 75 = .ok (.iload_n 3, 1) := by decide +kernel
theorem dX2_follow_76 : decode cX2_follow 76 = .ok (.iconst (-1), 1) := by decide +kernel
theorem dX2_follow_77 : decode cX2_follow 77 = .ok (.ixor, 1) := by decide +kernel
theorem dX2_follow_78 : decode cX2_follow 78 = .ok (.iand, 1) := by decide +kernel
theorem dX2_follow_79 : decode cX2_follow 79 = .ok (.iload 4, 2) := by decide +kernel
theorem dX2_follow_81 : decode cX2_follow 81 = .ok (.ior, 1) := by decide +kernel
theorem dX2_follow_82 : decode cX2_follow 82 = .ok (.goto 12, 3) := by decide +kernel
theorem dX2_follow_85 : decode cX2_follow 85 = .ok (.aload_n 1, 1) := by decide +kernel
theorem dX2_follow_86 : decode cX2_follow 86 = .ok (.getfield 9, 3) := by decide +kernel
theorem dX2_follow_89 : decode cX2_follow 89 = .ok (.iload 5, 2) := by decide +kernel
theorem dX2_follow_91 : decode cX2_follow 91 = .ok (.iconst (-1), 1) := by decide +kernel
theorem dX2_follow_92 : decode cX2_follow 92 = .ok (.ixor, 1) := by decide +kernel
theorem dX2_follow_93 : decode cX2_follow 93 = .ok (.iand, 1) := by decide +kernel
theorem dX2_follow_94 : decode cX2_follow 94 = .ok (.putfield 9, 3) := by decide +kernel
theorem dX2_follow_97 : decode cX2_follow 97 = .ok (.aload_n 0, 1) := by decide +kernel
theorem dX2_follow_98 : decode cX2_follow 98 = .ok (.iload 6, 2) := by decide +kernel
theorem dX2_follow_100 : decode cX2_follow 100 = .ok (.ifCond .eq 15, 3) := by decide +kernel
theorem dX2_follow_103 : decode cX2_follow 103 = .ok (.aload_n 1, 1) := by decide +kernel
theorem dX2_follow_104 : decode cX2_follow 104 = .ok (.getfield 15, 3) := by decide +kernel
theorem dX2_follow_107 : decode cX2_follow 107 = .ok (.iload 5, 2) := by decide +kernel
theorem dX2_follow_109 : decode cX2_follow 109 = .ok (.iconst (-1), 1) := by decide +kernel
theorem dX2_follow_110 : decode cX2_follow 110 = .ok (.ixor, 1) := by decide +kernel
theorem dX2_follow_111 : decode cX2_follow 111 = .ok (.iand, 1) := by decide +kernel
theorem dX2_follow_112 : decode cX2_follow 112 = .ok (.goto 14, 3) := by decide +kernel
theorem dX2_follow_115 : decode cX2_follow 115 = .ok (.aload_n 1, 1) := by decide +kernel
theorem dX2_follow_116 : decode cX2_follow 116 = .ok (.getfield 15, 3) := by decide +kernel
theorem dX2_follow_119 : decode cX2_follow 119 = .ok (.iload_n 3, 1) := by decide +kernel
theorem dX2_follow_120 : decode cX2_follow 120 = .ok (.iconst (-1), 1) := by decide +kernel
theorem dX2_follow_121 : decode cX2_follow 121 = .ok (.ixor, 1) := by decide +kernel
theorem dX2_follow_122 : decode cX2_follow 122 = .ok (.iand, 1) := by decide +kernel
theorem dX2_follow_123 : decode cX2_follow 123 = .ok (.iload 4, 2) := by decide +kernel
theorem dX2_follow_125 : decode cX2_follow 125 = .ok (.ior, 1) := by decide +kernel
theorem dX2_follow_126 : decode cX2_follow 126 = .ok (.putfield 15, 3) := by decide +kernel
theorem dX2_follow_129 : decode cX2_follow 129 = .ok (.aload_n 0, 1) := by decide +kernel
theorem dX2_follow_130 : decode cX2_follow 130 = .ok (.aload_n 1, 1) := by decide +kernel
theorem dX2_follow_131 : decode cX2_follow 131 = .ok (.getfield 18, 3) := by decide +kernel
theorem dX2_follow_134 : decode cX2_follow 134 = .ok (.iload_n 3, 1) := by decide +kernel
theorem dX2_follow_135 : decode cX2_follow 135 = .ok (.iconst (-1), 1) := by decide +kernel
theorem dX2_follow_136 : decode cX2_follow 136 = .ok (.ixor, 1) := by decide +kernel
theorem dX2_follow_137 : decode cX2_follow 137 = .ok (.iand, 1) := by decide +kernel
theorem dX2_follow_138 : decode cX2_follow 138 = .ok (.iload 5, 2) := by decide +kernel
theorem dX2_follow_140 : decode cX2_follow 140 = .ok (.iconst (-1), 1) := by decide +kernel
theorem dX2_follow_141 : decode cX2_follow 141 = .ok (.ixor, 1) := by decide +kernel
theorem dX2_follow_142 : decode cX2_follow 142 = .ok (.iand, 1) := by decide +kernel
theorem dX2_follow_143 : decode cX2_follow 143 = .ok (.putfield 18, 3) := by decide +kernel
theorem dX2_follow_146 : decode cX2_follow 146 = .ok (.iload 7, 2) := by decide +kernel
theorem dX2_follow_148 : decode cX2_follow 148 = .ok (.ifCond .ne 11, 3) := by decide +kernel
theorem dX2_follow_151 : decode cX2_follow 151 = .ok (.iload 4, 2) := by decide +kernel
theorem dX2_follow_153 : decode cX2_follow 153 = .ok (.iload 8, 2) := by decide +kernel
theorem dX2_follow_155 : decode cX2_follow 155 = .ok (.iand, 1) := by decide +kernel
theorem dX2_follow_156 : decode cX2_follow 156 = .ok (.ifCond .eq 14, 3) := by decide +kernel
theorem dX2_follow_159 : decode cX2_follow 159 = .ok (.aload_n 0, 1) := by decide +kernel
theorem dX2_follow_160 : decode cX2_follow 160 = .ok (.dup, 1) := by decide +kernel
theorem dX2_follow_161 : decode cX2_follow 161 = .ok (.getfield 18, 3) := by decide +kernel
theorem dX2_follow_164 : decode cX2_follow 164 = .ok (.iload 4, 2) := by decide +kernel
theorem dX2_follow_166 : decode cX2_follow 166 = .ok (.ior, 1) := by decide +kernel
theorem dX2_follow_167 : decode cX2_follow 167 = .ok (.putfield 18, 3) := by decide +kernel
theorem dX2_follow_170 : decode cX2_follow 170 = .ok (.aload_n 0, 1) := by decide +kernel
theorem dX2_follow_171 : decode cX2_follow 171 = .ok (.iload 6, 2) := by decide +kernel
theorem dX2_follow_173 : decode cX2_follow 173 = .ok (.ifCond .eq 7, 3) := by decide +kernel
theorem dX2_follow_176 : decode cX2_follow 176 = .ok (.iconst 1, 1) := by decide +kernel
theorem dX2_follow_177 : decode cX2_follow 177 = .ok (.goto 4, 3) := by decide +kernel
theorem dX2_follow_180 : decode cX2_follow 180 = .ok (.iconst 0, 1) := by decide +kernel
theorem dX2_follow_181 : decode cX2_follow 181 = .ok (.putfield 21, 3) := by decide +kernel
theorem dX2_follow_184 : decode cX2_follow 184 = .ok (.aload_n 0, 1) := by decide +kernel
theorem dX2_follow_185 : decode cX2_follow 185 = .ok (.iload 7, 2) := by decide +kernel
theorem dX2_follow_187 : decode cX2_follow 187 = .ok (.ifCond .eq 17, 3) := by decide +kernel
theorem dX2_follow_190 : decode cX2_follow 190 = .ok (.iload 5, 2) := by decide +kernel
theorem dX2_follow_192 : decode cX2_follow 192 = .ok (.ifCond .ne 12, 3) := by decide +kernel
theorem dX2_follow_195 : decode cX2_follow 195 = .ok (.aload_n 1, 1) := by decide +kernel
theorem dX2_follow_196 : decode cX2_follow 196 = .ok (.getfield 24, 3) := by decide +kernel
theorem dX2_follow_199 : decode cX2_follow 199 = .ok (.iconst 1, 1) := by decide +kernel
theorem dX2_follow_200 : decode cX2_follow 200 = .ok (.iadd, 1) := by decide +kernel
theorem dX2_follow_201 : decode cX2_follow 201 = .ok (.goto 4, 3) := by decide +kernel
theorem dX2_follow_204 : decode cX2_follow 204 = .ok (.iconst 0, 1) := by decide +kernel
theorem dX2_follow_205 : decode cX2_follow 205 = .ok (.putfield 24, 3) := by decide +kernel
theorem dX2_follow_208 : decode cX2_follow 208 = .ok (.return_, 1) := by decide +kernel
set_option maxRecDepth 20000 in
theorem ggX2_balance_X2_own : GoodIn wsX2_balance wsX2_own := goodIn_r _ [6, 7, 8, 9, 21, 22, 23, 24, 25] (by decide +kernel) (by decide +kernel)
set_option maxRecDepth 20000 in
theorem gX2_balance_X2_own : GoodIn wsX2_balance (wsV RX2 49 RX2 yX2_own wsX2_own) := goodIn_app (goodIn_of _ (by decide +kernel)) ggX2_balance_X2_own
set_option maxRecDepth 20000 in
theorem ggX2_balance_J6_bitCount_0f7a4 : GoodIn wsX2_balance wsJ6_bitCount_0f7a4 := goodIn_r _ [13, 14, 15, 16] (by decide +kernel) (by decide +kernel)
set_option maxRecDepth 20000 in
theorem gX2_balance_J6_bitCount_0f7a4 : GoodIn wsX2_balance (va_wsS RX2 31 yJ6_bitCount_0f7a4 wsJ6_bitCount_0f7a4) := goodIn_app (goodIn_of _ (by decide +kernel)) ggX2_balance_J6_bitCount_0f7a4
set_option maxRecDepth 20000 in
theorem ggX2_balance_X2_others : GoodIn wsX2_balance wsX2_others := goodIn_r _ [20, 7, 9, 8, 21, 22, 23, 24, 25] (by decide +kernel) (by decide +kernel)
set_option maxRecDepth 20000 in
theorem gX2_balance_X2_others : GoodIn wsX2_balance (wsV RX2 53 RX2 yX2_others wsX2_others) := goodIn_app (goodIn_of _ (by decide +kernel)) ggX2_balance_X2_others
theorem dX2_balance_0 : decode cX2_balance 0 = .ok (.iconst 2, 1) := by decide +kernel
theorem dX2_balance_1 : decode cX2_balance 1 = .ok (.aload_n 0, 1) := by decide +kernel
theorem dX2_balance_2 : decode cX2_balance 2 = .ok (.invokevirtual 49, 3) := by decide +kernel
theorem dX2_balance_5 : decode cX2_balance 5 = .ok (.invokestatic 31, 3) := by decide +kernel
theorem dX2_balance_8 : decode cX2_balance 8 = .ok (.imul, 1) := by decide +kernel
theorem dX2_balance_9 : decode cX2_balance 9 = .ok (.aload_n 0, 1) := by decide +kernel
theorem dX2_balance_10 : decode cX2_balance 10 = .ok (.invokevirtual 49, 3) := by decide +kernel
theorem dX2_balance_13 : decode cX2_balance 13 = .ok (.aload_n 0, 1) := by decide +kernel
theorem dX2_balance_14 : decode cX2_balance 14 = .ok (.getfield 18, 3) := by decide +kernel
theorem dX2_balance_17 : decode cX2_balance 17 = .ok (.iand, 1) := by decide +kernel
theorem dX2_balance_18 : decode cX2_balance 18 = .ok (.invokestatic 31, 3) := by decide +kernel
theorem dX2_balance_21 : decode cX2_balance 21 = .ok (.iadd, 1) := by decide +kernel
theorem dX2_balance_22 : decode cX2_balance 22 = .ok (.istore_n 1, 1) := by decide +kernel
theorem dX2_balance_23 : decode cX2_balance 23 = .ok (.iconst 2, 1) := by decide +kernel
theorem dX2_balance_24 : decode cX2_balance 24 = .ok (.aload_n 0, 1) := by decide +kernel
theorem dX2_balance_25 : decode cX2_balance 25 = .ok (.invokevirtual 53, 3) := by decide +kernel
theorem dX2_balance_28 : decode cX2_balance 28 = .ok (.invokestatic 31, 3) := by decide +kernel
theorem dX2_balance_31 : decode cX2_balance 31 = .ok (.imul, 1) := by decide +kernel
theorem dX2_balance_32 : decode cX2_balance 32 = .ok (.aload_n 0, 1) := by decide +kernel
theorem dX2_balance_33 : decode cX2_balance 33 = .ok (.invokevirtual 53, 3) := by decide +kernel
theorem dX2_balance_36 : decode cX2_balance 36 = .ok (.aload_n 0, 1) := by decide +kernel
theorem dX2_balance_37 : decode cX2_balance 37 = .ok (.getfield 18, 3) := by decide +kernel
theorem dX2_balance_40 : decode cX2_balance 40 = .ok (.iand, 1) := by decide +kernel
theorem dX2_balance_41 : decode cX2_balance 41 = .ok (.invokestatic 31, 3) := by decide +kernel
theorem dX2_balance_44 : decode cX2_balance 44 = .ok (.iadd, 1) := by decide +kernel
theorem dX2_balance_45 : decode cX2_balance 45 = .ok (.istore_n 2, 1) := by decide +kernel
theorem dX2_balance_46 : decode cX2_balance 46 = .ok (.iload_n 1, 1) := by decide +kernel
theorem dX2_balance_47 : decode cX2_balance 47 = .ok (.iload_n 2, 1) := by decide +kernel
end
section
theorem dX2_balance_48 : decode cX2_balance 48 = .ok (.isub, 1) := by decide +kernel
theorem dX2_balance_49 : decode cX2_balance 49 = .ok (.ireturn, 1) := by decide +kernel
set_option maxRecDepth 20000 in
theorem ggX3_init_X3_reach : GoodIn wsX3_init wsX3_reach := goodIn_r _ [10] (by decide +kernel) (by decide +kernel)
set_option maxRecDepth 20000 in
theorem gX3_init_X3_reach : GoodIn wsX3_init (va_wsS RX3 18 yX3_reach wsX3_reach) := goodIn_app (goodIn_of _ (by decide +kernel)) ggX3_init_X3_reach
theorem dX3_init_0 : decode cX3_init 0 = .ok (.aload_n 0, 1) := by decide +kernel
theorem dX3_init_1 : decode cX3_init 1 = .ok (.invokespecial 3, 3) := by decide +kernel
theorem dX3_init_4 : decode cX3_init 4 = .ok (.aload_n 0, 1) := by decide +kernel
theorem dX3_init_5 : decode cX3_init 5 = .ok (.bipush 72, 2) := by decide +kernel
theorem dX3_init_7 : decode cX3_init 7 = .ok (.newarray .int, 2) := by decide +kernel
theorem dX3_init_9 : decode cX3_init 9 = .ok (.putfield 9, 3) := by decide +kernel
theorem dX3_init_12 : decode cX3_init 12 = .ok (.aload_n 0, 1) := by decide +kernel
theorem dX3_init_13 : decode cX3_init 13 = .ok (.bipush 72, 2) := by decide +kernel
theorem dX3_init_15 : decode cX3_init 15 = .ok (.newarray .int, 2) := by decide +kernel
theorem dX3_init_17 : decode cX3_init 17 = .ok (.putfield 15, 3) := by decide +kernel
theorem dX3_init_20 : decode cX3_init 20 = .ok (.iconst 0, 1) := by decide +kernel
theorem dX3_init_21 : decode cX3_init 21 = .ok (.istore_n 1, 1) := by decide +kernel
theorem dX3_init_22 : decode cX3_init 22 = .ok (.iload_n 1, 1) := by decide +kernel
theorem dX3_init_23 : decode cX3_init 23 = .ok (.bipush 18, 2) := by decide +kernel
theorem dX3_init_25 : decode cX3_init 25 = .ok (.if_icmp .ge 54, 3) := by decide +kernel
theorem dX3_init_28 : decode cX3_init 28 = .ok (.iconst 0, 1) := by decide +kernel
theorem dX3_init_29 : decode cX3_init 29 = .ok (.istore_n 2, 1) := by decide +kernel
theorem dX3_init_30 : decode cX3_init 30 = .ok (.iload_n 2, 1) := by decide +kernel
theorem dX3_init_31 : decode cX3_init 31 = .ok (.iconst 4, 1) := by decide +kernel
theorem dX3_init_32 : decode cX3_init 32 = .ok (.if_icmp .ge 41, 3) := by decide +kernel
theorem dX3_init_35 : decode cX3_init 35 = .ok (.aload_n 0, 1) := by decide +kernel
theorem dX3_init_36 : decode cX3_init 36 = .ok (.getfield 9, 3) := by decide +kernel
theorem dX3_init_39 : decode cX3_init 39 = .ok (.iload_n 1, 1) := by decide +kernel
theorem dX3_init_40 : decode cX3_init 40 = .ok (.iconst 4, 1) := by decide +kernel
theorem dX3_init_41 : decode cX3_init 41 = .ok (.imul, 1) := by decide +kernel
theorem dX3_init_42 : decode cX3_init 42 = .ok (.iload_n 2, 1) := by decide +kernel
theorem dX3_init_43 : decode cX3_init 43 = .ok (.iadd, 1) := by decide +kernel
theorem dX3_init_44 : decode cX3_init 44 = .ok (.iload_n 1, 1) := by decide +kernel
theorem dX3_init_45 : decode cX3_init 45 = .ok (.iload_n 2, 1) := by decide +kernel
theorem dX3_init_46 : decode cX3_init 46 = .ok (.iconst 1, 1) := by decide +kernel
theorem dX3_init_47 : decode cX3_init 47 = .ok (.invokestatic 18, 3) := by decide +kernel
theorem dX3_init_50 : decode cX3_init 50 = .ok (.iastore, 1) := by decide +kernel
theorem dX3_init_51 : decode cX3_init 51 = .ok (.aload_n 0, 1) := by decide +kernel
theorem dX3_init_52 : decode cX3_init 52 = .ok (.getfield 15, 3) := by decide +kernel
theorem dX3_init_55 : decode cX3_init 55 = .ok (.iload_n 1, 1) := by decide +kernel
theorem dX3_init_56 : decode cX3_init 56 = .ok (.iconst 4, 1) := by decide +kernel
theorem dX3_init_57 : decode cX3_init 57 = .ok (.imul, 1) := by decide +kernel
theorem dX3_init_58 : decode cX3_init 58 = .ok (.iload_n 2, 1) := by decide +kernel
theorem dX3_init_59 : decode cX3_init 59 = .ok (.iadd, 1) := by decide +kernel
theorem dX3_init_60 : decode cX3_init 60 = .ok (.iload_n 1, 1) := by decide +kernel
theorem dX3_init_61 : decode cX3_init 61 = .ok (.iload_n 2, 1) := by decide +kernel
theorem dX3_init_62 : decode cX3_init 62 = .ok (.iconst 2, 1) := by decide +kernel
theorem dX3_init_63 : decode cX3_init 63 = .ok (.invokestatic 18, 3) := by decide +kernel
theorem dX3_init_66 : decode cX3_init 66 = .ok (.iastore, 1) := by decide +kernel
theorem dX3_init_67 : decode cX3_init 67 = .ok (.iinc 2 1, 3) := by decide +kernel
theorem dX3_init_70 : decode cX3_init 70 = .ok (.goto (-40), 3) := by decide +kernel
theorem dX3_init_73 : decode cX3_init 73 = .ok (.iinc 1 1, 3) := by decide +kernel
theorem dX3_init_76 : decode cX3_init 76 = .ok (.goto (-54), 3) := by decide +kernel
theorem dX3_init_79 : decode cX3_init 79 = .ok (.return_, 1) := by decide +kernel
theorem dX3_reach_0 : decode cX3_reach 0 = .ok (.iload_n 0, 1) := by decide +kernel
theorem dX3_reach_1 : decode cX3_reach 1 = .ok (.iconst 3, 1) := by decide +kernel
theorem dX3_reach_2 : decode cX3_reach 2 = .ok (.idiv, 1) := by decide +kernel
theorem dX3_reach_3 : decode cX3_reach 3 = .ok (.istore_n 3, 1) := by decide +kernel
theorem dX3_reach_4 : decode cX3_reach 4 = .ok (.iconst 2, 1) := by decide +kernel
theorem dX3_reach_5 : decode cX3_reach 5 = .ok (.iload_n 0, 1) := by decide +kernel
theorem dX3_reach_6 : decode cX3_reach 6 = .ok (.iconst 3, 1) := by decide +kernel
theorem dX3_reach_7 : decode cX3_reach 7 = .ok (.irem, 1) := by decide +kernel
theorem dX3_reach_8 : decode cX3_reach 8 = .ok (.imul, 1) := by decide +kernel
theorem dX3_reach_9 : decode cX3_reach 9 = .ok (.iload_n 3, 1) := by decide +kernel
theorem dX3_reach_10 : decode cX3_reach 10 = .ok (.iconst 2, 1) := by decide +kernel
theorem dX3_reach_11 : decode cX3_reach 11 = .ok (.irem, 1) := by decide +kernel
theorem dX3_reach_12 : decode cX3_reach 12 = .ok (.iadd, 1) := by decide +kernel
theorem dX3_reach_13 : decode cX3_reach 13 = .ok (.istore 4, 2) := by decide +kernel
theorem dX3_reach_15 : decode cX3_reach 15 = .ok (.iload_n 3, 1) := by decide +kernel
theorem dX3_reach_16 : decode cX3_reach 16 = .ok (.iload_n 1, 1) := by decide +kernel
theorem dX3_reach_17 : decode cX3_reach 17 = .ok (.iconst 2, 1) := by decide +kernel
theorem dX3_reach_18 : decode cX3_reach 18 = .ok (.if_icmp .ge 8, 3) := by decide +kernel
theorem dX3_reach_21 : decode cX3_reach 21 = .ok (.iload_n 2, 1) := by decide +kernel
theorem dX3_reach_22 : decode cX3_reach 22 = .ok (.ineg, 1) := by decide +kernel
theorem dX3_reach_23 : decode cX3_reach 23 = .ok (.goto 4, 3) := by decide +kernel
theorem dX3_reach_26 : decode cX3_reach 26 = .ok (.iload_n 2, 1) := by decide +kernel
theorem dX3_reach_27 : decode cX3_reach 27 = .ok (.iadd, 1) := by decide +kernel
theorem dX3_reach_28 : decode cX3_reach 28 = .ok (.istore_n 3, 1) := by decide +kernel
theorem dX3_reach_29 : decode cX3_reach 29 = .ok (.iload 4, 2) := by decide +kernel
theorem dX3_reach_31 : decode cX3_reach 31 = .ok (.iload_n 1, 1) := by decide +kernel
theorem dX3_reach_32 : decode cX3_reach 32 = .ok (.iconst 2, 1) := by decide +kernel
theorem dX3_reach_33 : decode cX3_reach 33 = .ok (.irem, 1) := by decide +kernel
theorem dX3_reach_34 : decode cX3_reach 34 = .ok (.ifCond .ne 8, 3) := by decide +kernel
theorem dX3_reach_37 : decode cX3_reach 37 = .ok (.iload_n 2, 1) := by decide +kernel
theorem dX3_reach_38 : decode cX3_reach 38 = .ok (.ineg, 1) := by decide +kernel
theorem dX3_reach_39 : decode cX3_reach 39 = .ok (.goto 4, 3) := by decide +kernel
theorem dX3_reach_42 : decode cX3_reach 42 = .ok (.iload_n 2, 1) := by decide +kernel
theorem dX3_reach_43 : decode cX3_reach 43 = .ok (.iadd, 1) := by decide +kernel
theorem dX3_reach_44 : decode cX3_reach 44 = .ok (.istore 4, 2) := by decide +kernel
theorem dX3_reach_46 : decode cX3_reach 46 = .ok (.iload_n 3, 1) := by decide +kernel
theorem dX3_reach_47 : decode cX3_reach 47 = .ok (.ifCond .lt 21, 3) := by decide +kernel
theorem dX3_reach_50 : decode cX3_reach 50 = .ok (.iload_n 3, 1) := by decide +kernel
theorem dX3_reach_51 : decode cX3_reach 51 = .ok (.bipush 6, 2) := by decide +kernel
theorem dX3_reach_53 : decode cX3_reach 53 = .ok (.if_icmp .ge 15, 3) := by decide +kernel
theorem dX3_reach_56 : decode cX3_reach 56 = .ok (.iload 4, 2) := by decide +kernel
theorem dX3_reach_58 : decode cX3_reach 58 = .ok (.ifCond .lt 10, 3) := by decide +kernel
theorem dX3_reach_61 : decode cX3_reach 61 = .ok (.iload 4, 2) := by decide +kernel
theorem dX3_reach_63 : decode cX3_reach 63 = .ok (.bipush 6, 2) := by decide +kernel
theorem dX3_reach_65 : decode cX3_reach 65 = .ok (.if_icmp .lt 5, 3) := by decide +kernel
theorem dX3_reach_68 : decode cX3_reach 68 = .ok (.iconst (-1), 1) := by decide +kernel
theorem dX3_reach_69 : decode cX3_reach 69 = .ok (.ireturn, 1) := by decide +kernel
theorem dX3_reach_70 : decode cX3_reach 70 = .ok (.iload_n 3, 1) := by decide +kernel
theorem dX3_reach_71 : decode cX3_reach 71 = .ok (.iconst 3, 1) := by decide +kernel
theorem dX3_reach_72 : decode cX3_reach 72 = .ok (.imul, 1) := by decide +kernel
theorem dX3_reach_73 : decode cX3_reach 73 = .ok (.iload 4, 2) := by decide +kernel
theorem dX3_reach_75 : decode cX3_reach 75 = .ok (.iconst 2, 1) := by decide +kernel
theorem dX3_reach_76 : decode cX3_reach 76 = .ok (.idiv, 1) := by decide +kernel
theorem dX3_reach_77 : decode cX3_reach 77 = .ok (.iadd, 1) := by decide +kernel
theorem dX3_reach_78 : decode cX3_reach 78 = .ok (.ireturn, 1) := by decide +kernel
set_option maxRecDepth 20000 in
theorem ggX3_firstDirection_X2_isKing : GoodIn wsX3_firstDirection wsX2_isKing := goodIn_r _ [6, 7, 8, 9, 10, 11, 12] (by decide +kernel) (by decide +kernel)
set_option maxRecDepth 20000 in
theorem gX3_firstDirection_X2_isKing : GoodIn wsX3_firstDirection (wsV RX3 22 RX2 yX2_isKing wsX2_isKing) := goodIn_app (goodIn_of _ (by decide +kernel)) ggX3_firstDirection_X2_isKing
theorem dX3_firstDirection_0 : decode cX3_firstDirection 0 = .ok (.aload_n 0, 1) := by decide +kernel
theorem dX3_firstDirection_1 : decode cX3_firstDirection 1 = .ok (.iload_n 1, 1) := by decide +kernel
theorem dX3_firstDirection_2 : decode cX3_firstDirection 2 = .ok (.invokevirtual 22, 3) := by decide +kernel
theorem dX3_firstDirection_5 : decode cX3_firstDirection 5 = .ok (.ifCond .ne 11, 3) := by decide +kernel
theorem dX3_firstDirection_8 : decode cX3_firstDirection 8 = .ok (.aload_n 0, 1) := by decide +kernel
theorem dX3_firstDirection_9 : decode cX3_firstDirection 9 = .ok (.getfield 28, 3) := by decide +kernel
theorem dX3_firstDirection_12 : decode cX3_firstDirection 12 = .ok (.iconst 1, 1) := by decide +kernel
theorem dX3_firstDirection_13 : decode cX3_firstDirection 13 = .ok (.if_icmp .ne 7, 3) := by decide +kernel
theorem dX3_firstDirection_16 : decode cX3_firstDirection 16 = .ok (.iconst 0, 1) := by decide +kernel
theorem dX3_firstDirection_17 : decode cX3_firstDirection 17 = .ok (.goto 4, 3) := by decide +kernel
theorem dX3_firstDirection_20 : decode cX3_firstDirection 20 = .ok (.iconst 2, 1) := by decide +kernel
theorem dX3_firstDirection_21 : decode cX3_firstDirection 21 = .ok (.ireturn, 1) := by decide +kernel
set_option maxRecDepth 20000 in
theorem ggX3_lastDirection_X2_isKing : GoodIn wsX3_lastDirection wsX2_isKing := goodIn_r _ [6, 7, 8, 9, 10, 11, 12] (by decide +kernel) (by decide +kernel)
set_option maxRecDepth 20000 in
theorem gX3_lastDirection_X2_isKing : GoodIn wsX3_lastDirection (wsV RX3 22 RX2 yX2_isKing wsX2_isKing) := goodIn_app (goodIn_of _ (by decide +kernel)) ggX3_lastDirection_X2_isKing
theorem dX3_lastDirection_0 : decode cX3_lastDirection 0 = .ok (.aload_n 0, 1) := by decide +kernel
theorem dX3_lastDirection_1 : decode cX3_lastDirection 1 = .ok (.iload_n 1, 1) := by decide +kernel
theorem dX3_lastDirection_2 : decode cX3_lastDirection 2 = .ok (.invokevirtual 22, 3) := by decide +kernel
theorem dX3_lastDirection_5 : decode cX3_lastDirection 5 = .ok (.ifCond .ne 10, 3) := by decide +kernel
theorem dX3_lastDirection_8 : decode cX3_lastDirection 8 = .ok (.aload_n 0, 1) := by decide +kernel
theorem dX3_lastDirection_9 : decode cX3_lastDirection 9 = .ok (.getfield 28, 3) := by decide +kernel
theorem dX3_lastDirection_12 : decode cX3_lastDirection 12 = .ok (.ifCond .ne 7, 3) := by decide +kernel
theorem dX3_lastDirection_15 : decode cX3_lastDirection 15 = .ok (.iconst 3, 1) := by decide +kernel
theorem dX3_lastDirection_16 : decode cX3_lastDirection 16 = .ok (.goto 4, 3) := by decide +kernel
theorem dX3_lastDirection_19 : decode cX3_lastDirection 19 = .ok (.iconst 1, 1) := by decide +kernel
theorem dX3_lastDirection_20 : decode cX3_lastDirection 20 = .ok (.ireturn, 1) := by decide +kernel
set_option maxRecDepth 20000 in
theorem ggX3_listMoves_X2_own : GoodIn wsX3_listMoves wsX2_own := goodIn_r _ [6, 7, 8, 9, 48, 49, 50, 51, 52] (by decide +kernel) (by decide +kernel)
set_option maxRecDepth 20000 in
theorem gX3_listMoves_X2_own : GoodIn wsX3_listMoves (wsV RX3 37 RX2 yX2_own wsX2_own) := goodIn_app (goodIn_of _ (by decide +kernel)) ggX3_listMoves_X2_own
set_option maxRecDepth 20000 in
theorem ggX3_listMoves_X3_leapOn : GoodIn wsX3_listMoves wsX3_leapOn := goodIn_r _ [14, 15, 16, 17, 18, 19, 20, 21, 5, 22, 7, 9, 8, 23, 24, 13, 25, 26, 27, 28, 29, 30, 31, 32, 33, 34, 10, 11, 12, 35, 36, 37, 38, 39, 40, 41, 48, 49, 50, 51, 52, 53, 54, 46, 47] (by decide +kernel) (by decide +kernel)
set_option maxRecDepth 20000 in
theorem gX3_listMoves_X3_leapOn : GoodIn wsX3_listMoves (wsV RX3 41 RX3 yX3_leapOn wsX3_leapOn) := goodIn_app (goodIn_of _ (by decide +kernel)) ggX3_listMoves_X3_leapOn
set_option maxRecDepth 20000 in
theorem ggX3_listMoves_X3_listSteps : GoodIn wsX3_listMoves wsX3_listSteps := goodIn_r _ [45, 15, 16, 17, 23, 24, 13, 25, 26, 27, 28, 29, 5, 30, 31, 32, 33, 34, 35, 36, 37, 38, 39, 40, 41, 48, 49, 50, 51, 52, 53, 54, 46, 47] (by decide +kernel) (by decide +kernel)
set_option maxRecDepth 20000 in
theorem gX3_listMoves_X3_listSteps : GoodIn wsX3_listMoves (wsV RX3 45 RX3 yX3_listSteps wsX3_listSteps) := goodIn_app (goodIn_of _ (by decide +kernel)) ggX3_listMoves_X3_listSteps
theorem dX3_listMoves_0 : decode cX3_listMoves 0 = .ok (.aload_n 2, 1) := by decide +kernel
theorem dX3_listMoves_1 : decode cX3_listMoves 1 = .ok (.iconst 0, 1) := by decide +kernel
theorem dX3_listMoves_2 : decode cX3_listMoves 2 = .ok (.putfield 32, 3) := by decide +kernel
theorem dX3_listMoves_5 : decode cX3_listMoves 5 = .ok (.aload_n 1, 1) := by decide +kernel
theorem dX3_listMoves_6 : decode cX3_listMoves 6 = .ok (.invokevirtual 37, 3) := by decide +kernel
theorem dX3_listMoves_9 : decode cX3_listMoves 9 = .ok (.istore_n 3, 1) := by decide +kernel
theorem dX3_listMoves_10 : decode cX3_listMoves 10 = .ok (.iconst 0, 1) := by decide +kernel
theorem dX3_listMoves_11 : decode cX3_listMoves 11 = .ok (.istore 4, 2) := by decide +kernel
theorem dX3_listMoves_13 : decode cX3_listMoves 13 = .ok (.iload 4, 2) := by decide +kernel
theorem dX3_listMoves_15 : decode cX3_listMoves 15 = .ok (.bipush 18, 2) := by decide +kernel
theorem dX3_listMoves_17 : decode cX3_listMoves 17 = .ok (.if_icmp .ge 30, 3) := by decide +kernel
theorem dX3_listMoves_20 : decode cX3_listMoves 20 = .ok (.iload_n 3, 1) := by decide +kernel
theorem dX3_listMoves_21 : decode cX3_listMoves 21 = .ok (.iload 4, 2) := by decide +kernel
theorem dX3_listMoves_23 : decode cX3_listMoves 23 = .ok (.ishr, 1) := by decide +kernel
theorem dX3_listMoves_24 : decode cX3_listMoves 24 = .ok (.iconst 1, 1) := by decide +kernel
theorem dX3_listMoves_25 : decode cX3_listMoves 25 = .ok (.iand, 1) := by decide +kernel
theorem dX3_listMoves_26 : decode cX3_listMoves 26 = .ok (.ifCond .eq 15, 3) := by decide +kernel
theorem dX3_listMoves_29 : decode cX3_listMoves 29 = .ok (.aload_n 0, 1) := by decide +kernel
theorem dX3_listMoves_30 : decode cX3_listMoves 30 = .ok (.aload_n 1, 1) := by decide +kernel
theorem dX3_listMoves_31 : decode cX3_listMoves 31 = .ok (.aload_n 2, 1) := by decide +kernel
theorem dX3_listMoves_32 : decode cX3_listMoves 32 = .ok (.iload 4, 2) := by decide +kernel
theorem dX3_listMoves_34 : decode cX3_listMoves 34 = .ok (.iload 4, 2) := by decide +kernel
theorem dX3_listMoves_36 : decode cX3_listMoves 36 = .ok (.iconst 0, 1) := by decide +kernel
theorem dX3_listMoves_37 : decode cX3_listMoves 37 = .ok (.iconst 0, 1) := by decide +kernel
theorem dX3_listMoves_38 : decode cX3_listMoves 38 = .ok (.invokevirtual 41, 3) := by decide +kernel
theorem dX3_listMoves_41 : decode cX3_listMoves 41 = .ok (.iinc 4 1, 3) := by decide +kernel
theorem dX3_listMoves_44 : decode cX3_listMoves 44 = .ok (.goto (-31), 3) := by decide +kernel
theorem dX3_listMoves_47 : decode cX3_listMoves 47 = .ok (.aload_n 2, 1) := by decide +kernel
theorem dX3_listMoves_48 : decode cX3_listMoves 48 = .ok (.getfield 32, 3) := by decide +kernel
theorem dX3_listMoves_51 : decode cX3_listMoves 51 = .ok (.ifCond .le 4, 3) := by decide +kernel
theorem dX3_listMoves_54 : decode cX3_listMoves 54 = .ok (.return_, 1) := by decide +kernel
theorem dX3_listMoves_55 : decode cX3_listMoves 55 = .ok (.iconst 0, 1) := by decide +kernel
theorem dX3_listMoves_56 : decode cX3_listMoves 56 = .ok (.istore 4, 2) := by decide +kernel
theorem dX3_listMoves_58 : decode cX3_listMoves 58 = .ok (.iload 4, 2) := by decide +kernel
theorem dX3_listMoves_60 : decode cX3_listMoves 60 = .ok (.bipush 18, 2) := by decide +kernel
theorem dX3_listMoves_62 : decode cX3_listMoves 62 = .ok (.if_icmp .ge 26, 3) := by decide +kernel
theorem dX3_listMoves_65 : decode cX3_listMoves 65 = .ok (.iload_n 3, 1) := by decide +kernel
theorem dX3_listMoves_66 : decode cX3_listMoves 66 = .ok (.iload 4, 2) := by decide +kernel
theorem dX3_listMoves_68 : decode cX3_listMoves 68 = .ok (.ishr, 1) := by decide +kernel
theorem dX3_listMoves_69 : decode cX3_listMoves 69 = .ok (.iconst 1, 1) := by decide +kernel
theorem dX3_listMoves_70 : decode cX3_listMoves 70 = .ok (.iand, 1) := by decide +kernel
theorem dX3_listMoves_71 : decode cX3_listMoves 71 = .ok (.ifCond .eq 11, 3) := by decide +kernel
theorem dX3_listMoves_74 : decode cX3_listMoves 74 = .ok (.aload_n 0, 1) := by decide +kernel
theorem dX3_listMoves_75 : decode cX3_listMoves 75 = .ok (.aload_n 1, 1) := by decide +kernel
theorem dX3_listMoves_76 : decode cX3_listMoves 76 = .ok (.aload_n 2, 1) := by decide +kernel
theorem dX3_listMoves_77 : decode cX3_listMoves 77 = .ok (.iload 4, 2) := by decide +kernel
theorem dX3_listMoves_79 : decode cX3_listMoves 79 = .ok (.invokevirtual 45, 3) := by decide +kernel
theorem dX3_listMoves_82 : decode cX3_listMoves 82 = .ok (.iinc 4 1, 3) := by decide +kernel
theorem dX3_listMoves_85 : decode cX3_listMoves 85 = .ok (.goto (-27), 3) := by decide +kernel
theorem dX3_listMoves_88 : decode cX3_listMoves 88 = .ok (.return_, 1) := by decide +kernel
set_option maxRecDepth 20000 in
theorem ggX3_listSteps_X3_lastDirection : GoodIn wsX3_listSteps wsX3_lastDirection := goodIn_r _ [7, 8, 9, 10, 11, 12, 13, 14, 25, 26, 27, 28, 29] (by decide +kernel) (by decide +kernel)
set_option maxRecDepth 20000 in
theorem gX3_listSteps_X3_lastDirection : GoodIn wsX3_listSteps (va_wsS RX3 55 yX3_lastDirection wsX3_lastDirection) := goodIn_app (goodIn_of _ (by decide +kernel)) ggX3_listSteps_X3_lastDirection
set_option maxRecDepth 20000 in
theorem ggX3_listSteps_X3_firstDirection : GoodIn wsX3_listSteps wsX3_firstDirection := goodIn_r _ [17, 8, 9, 10, 11, 12, 13, 14, 25, 26, 27, 28, 29] (by decide +kernel) (by decide +kernel)
set_option maxRecDepth 20000 in
theorem gX3_listSteps_X3_firstDirection : GoodIn wsX3_listSteps (va_wsS RX3 59 yX3_firstDirection wsX3_firstDirection) := goodIn_app (goodIn_of _ (by decide +kernel)) ggX3_listSteps_X3_firstDirection
set_option maxRecDepth 20000 in
theorem ggX3_listSteps_X1_enter : GoodIn wsX3_listSteps wsX1_enter := goodIn_r _ [22, 23, 24, 32, 33] (by decide +kernel) (by decide +kernel)
set_option maxRecDepth 20000 in
theorem gX3_listSteps_X1_enter : GoodIn wsX3_listSteps (wsV RX3 62 RX1 yX1_enter wsX1_enter) := goodIn_app (goodIn_of _ (by decide +kernel)) ggX3_listSteps_X1_enter
theorem dX3_listSteps_0 : decode cX3_listSteps 0 = .ok (.aload_n 1, 1) := by decide +kernel
theorem dX3_listSteps_1 : decode cX3_listSteps 1 = .ok (.getfield 49, 3) := by decide +kernel
theorem dX3_listSteps_4 : decode cX3_listSteps 4 = .ok (.aload_n 1, 1) := by decide +kernel
theorem dX3_listSteps_5 : decode cX3_listSteps 5 = .ok (.getfield 52, 3) := by decide +kernel
theorem dX3_listSteps_8 : decode cX3_listSteps 8 = .ok (.ior, 1) := by decide +kernel
theorem dX3_listSteps_9 : decode cX3_listSteps 9 = .ok (.istore 4, 2) := by decide +kernel
theorem dX3_listSteps_11 : decode cX3_listSteps 11 = .ok (.aload_n 1, 1) := by decide +kernel
theorem dX3_listSteps_12 : decode cX3_listSteps 12 = .ok (.iload_n 3, 1) := by decide +kernel
theorem dX3_listSteps_13 : decode cX3_listSteps 13 = .ok (.invokestatic 55, 3) := by decide +kernel
theorem dX3_listSteps_16 : decode cX3_listSteps 16 = .ok (.istore 5, 2) := by decide +kernel
theorem dX3_listSteps_18 : decode cX3_listSteps 18 = .ok (.aload_n 1, 1) := by decide +kernel
theorem dX3_listSteps_19 : decode cX3_listSteps 19 = .ok (.iload_n 3, 1) := by decide +kernel
theorem dX3_listSteps_20 : decode cX3_listSteps 20 = .ok (.invokestatic 59, 3) := by decide +kernel
theorem dX3_listSteps_23 : decode cX3_listSteps 23 = .ok (.istore 6, 2) := by decide +kernel
theorem dX3_listSteps_25 : decode cX3_listSteps 25 = .ok (.iload 6, 2) := by decide +kernel
theorem dX3_listSteps_27 : decode cX3_listSteps 27 = .ok (.iload 5, 2) := by decide +kernel
theorem dX3_listSteps_29 : decode cX3_listSteps 29 = .ok (.if_icmp .gt 46, 3) := by decide +kernel
theorem dX3_listSteps_32 : decode cX3_listSteps 32 = .ok (.aload_n 0, 1) := by decide +kernel
theorem dX3_listSteps_33 : decode cX3_listSteps 33 = .ok (.getfield 9, 3) := by decide +kernel
theorem dX3_listSteps_36 : decode cX3_listSteps 36 = .ok (.iload_n 3, 1) := by decide +kernel
theorem dX3_listSteps_37 : decode cX3_listSteps 37 = .ok (.iconst 4, 1) := by decide +kernel
theorem dX3_listSteps_38 : decode cX3_listSteps 38 = .ok (.imul, 1) := by decide +kernel
theorem dX3_listSteps_39 : decode cX3_listSteps 39 = .ok (.iload 6, 2) := by decide +kernel
theorem dX3_listSteps_41 : decode cX3_listSteps 41 = .ok (.iadd, 1) := by decide +kernel
theorem dX3_listSteps_42 : decode cX3_listSteps 42 = .ok (.iaload, 1) := by decide +kernel
theorem dX3_listSteps_43 : decode cX3_listSteps 43 = .ok (.istore 7, 2) := by decide +kernel
theorem dX3_listSteps_45 : decode cX3_listSteps 45 = .ok (.iload 7, 2) := by decide +kernel
theorem dX3_listSteps_47 : decode cX3_listSteps 47 = .ok (.iconst (-1), 1) := by decide +kernel
theorem dX3_listSteps_48 : decode cX3_listSteps 48 = .ok (.if_icmp .eq 21, 3) := by decide +kernel
theorem dX3_listSteps_51 : decode cX3_listSteps 51 = .ok (.iload 4, 2) := by decide +kernel
theorem dX3_listSteps_53 : decode cX3_listSteps 53 = .ok (.iload 7, 2) := by decide +kernel
theorem dX3_listSteps_55 : decode cX3_listSteps 55 = .ok (.ishr, 1) := by decide +kernel
theorem dX3_listSteps_56 : decode cX3_listSteps 56 = .ok (.iconst 1, 1) := by decide +kernel
theorem dX3_listSteps_57 : decode cX3_listSteps 57 = .ok (.iand, 1) := by decide +kernel
theorem dX3_listSteps_58 : decode cX3_listSteps 58 = .ok (.ifCond .ne 11, 3) := by decide +kernel
theorem dX3_listSteps_61 : decode cX3_listSteps 61 = .ok (.aload_n 2, 1) := by decide +kernel
theorem dX3_listSteps_62 : decode cX3_listSteps 62 = .ok (.iload_n 3, 1) := by decide +kernel
theorem dX3_listSteps_63 : decode cX3_listSteps 63 = .ok (.iload 7, 2) := by decide +kernel
theorem dX3_listSteps_65 : decode cX3_listSteps 65 = .ok (.iconst 0, 1) := by decide +kernel
theorem dX3_listSteps_66 : decode cX3_listSteps 66 = .ok (.invokevirtual 62, 3) := by decide +kernel
theorem dX3_listSteps_69 : decode cX3_listSteps 69 = .ok (.iinc 6 1, 3) := by decide +kernel
theorem dX3_listSteps_72 : decode cX3_listSteps 72 = .ok (.goto (-47), 3) := by decide +kernel
theorem dX3_listSteps_75 : decode cX3_listSteps 75 = .ok (.return_, 1) := by decide +kernel
set_option maxRecDepth 20000 in
theorem ggX3_leapOn_X2_others : GoodIn wsX3_leapOn wsX2_others := goodIn_r _ [9, 10, 11, 12, 36, 37, 38, 39, 40] (by decide +kernel) (by decide +kernel)
set_option maxRecDepth 20000 in
theorem gX3_leapOn_X2_others : GoodIn wsX3_leapOn (wsV RX3 66 RX2 yX2_others wsX2_others) := goodIn_app (goodIn_of _ (by decide +kernel)) ggX3_leapOn_X2_others
set_option maxRecDepth 20000 in
theorem ggX3_leapOn_X3_lastDirection : GoodIn wsX3_leapOn wsX3_lastDirection := goodIn_r _ [16, 17, 18, 19, 20, 8, 21, 22, 36, 37, 38, 39, 40] (by decide +kernel) (by decide +kernel)
set_option maxRecDepth 20000 in
theorem gX3_leapOn_X3_lastDirection : GoodIn wsX3_leapOn (va_wsS RX3 55 yX3_lastDirection wsX3_lastDirection) := goodIn_app (goodIn_of _ (by decide +kernel)) ggX3_leapOn_X3_lastDirection
set_option maxRecDepth 20000 in
theorem ggX3_leapOn_X3_firstDirection : GoodIn wsX3_leapOn wsX3_firstDirection := goodIn_r _ [25, 17, 18, 19, 20, 8, 21, 22, 36, 37, 38, 39, 40] (by decide +kernel) (by decide +kernel)
set_option maxRecDepth 20000 in
theorem gX3_leapOn_X3_firstDirection : GoodIn wsX3_leapOn (va_wsS RX3 59 yX3_firstDirection wsX3_firstDirection) := goodIn_app (goodIn_of _ (by decide +kernel)) ggX3_leapOn_X3_firstDirection
set_option maxRecDepth 20000 in
theorem ggX3_leapOn_X3_leapOn : GoodIn wsX3_leapOn wsX3_leapOn := goodIn_r _ [0, 1, 2, 3, 4, 5, 6, 7, 8, 9, 10, 11, 12, 13, 14, 15, 16, 17, 18, 19, 20, 21, 22, 23, 24, 25, 26, 27, 28, 29, 30, 31, 32, 33, 34, 35, 36, 37, 38, 39, 40, 41, 42, 43, 44] (by decide +kernel) (by decide +kernel)
set_option maxRecDepth 20000 in
theorem gX3_leapOn_X3_leapOn : GoodIn wsX3_leapOn (wsV RX3 41 RX3 yX3_leapOn wsX3_leapOn) := goodIn_app (goodIn_of _ (by decide +kernel)) ggX3_leapOn_X3_leapOn
set_option maxRecDepth 20000 in
theorem ggX3_leapOn_X1_enter : GoodIn wsX3_leapOn wsX1_enter := goodIn_r _ [33, 34, 35, 43, 44] (by decide +kernel) (by decide +kernel)
set_option maxRecDepth 20000 in
theorem gX3_leapOn_X1_enter : GoodIn wsX3_leapOn (wsV RX3 62 RX1 yX1_enter wsX1_enter) := goodIn_app (goodIn_of _ (by decide +kernel)) ggX3_leapOn_X1_enter
theorem dX3_leapOn_0 : decode cX3_leapOn 0 = .ok (.aload_n 1, 1) := by decide +kernel
theorem dX3_leapOn_1 : decode cX3_leapOn 1 = .ok (.invokevirtual 66, 3) := by decide +kernel
theorem dX3_leapOn_4 : decode cX3_leapOn 4 = .ok (.iload 5, 2) := by decide +kernel
theorem dX3_leapOn_6 : decode cX3_leapOn 6 = .ok (.iconst (-1), 1) := by decide +kernel
theorem dX3_leapOn_7 : decode cX3_leapOn 7 = .ok (.ixor, 1) := by decide +kernel
theorem dX3_leapOn_8 : decode cX3_leapOn 8 = .ok (.iand, 1) := by decide +kernel
theorem dX3_leapOn_9 : decode cX3_leapOn 9 = .ok (.istore 7, 2) := by decide +kernel
theorem dX3_leapOn_11 : decode cX3_leapOn 11 = .ok (.aload_n 1, 1) := by decide +kernel
theorem dX3_leapOn_12 : decode cX3_leapOn 12 = .ok (.getfield 49, 3) := by decide +kernel
theorem dX3_leapOn_15 : decode cX3_leapOn 15 = .ok (.aload_n 1, 1) := by decide +kernel
theorem dX3_leapOn_16 : decode cX3_leapOn 16 = .ok (.getfield 52, 3) := by decide +kernel
theorem dX3_leapOn_19 : decode cX3_leapOn 19 = .ok (.ior, 1) := by decide +kernel
theorem dX3_leapOn_20 : decode cX3_leapOn 20 = .ok (.iconst 1, 1) := by decide +kernel
theorem dX3_leapOn_21 : decode cX3_leapOn 21 = .ok (.iload_n 3, 1) := by decide +kernel
theorem dX3_leapOn_22 : decode cX3_leapOn 22 = .ok (.ishl, 1) := by decide +kernel
theorem dX3_leapOn_23 : decode cX3_leapOn 23 = .ok (.iconst (-1), 1) := by decide +kernel
theorem dX3_leapOn_24 : decode cX3_leapOn 24 = .ok (.ixor, 1) := by decide +kernel
theorem dX3_leapOn_25 : decode cX3_leapOn 25 = .ok (.iand, 1) := by decide +kernel
theorem dX3_leapOn_26 : decode cX3_leapOn 26 = .ok (.istore 8, 2) := by decide +kernel
theorem dX3_leapOn_28 : decode cX3_leapOn 28 = .ok (.aload_n 1, 1) := by decide +kernel
theorem dX3_leapOn_29 : decode cX3_leapOn 29 = .ok (.iload_n 3, 1) := by decide +kernel
theorem dX3_leapOn_30 : decode cX3_leapOn 30 = .ok (.invokestatic 55, 3) := by decide +kernel
theorem dX3_leapOn_33 : decode cX3_leapOn 33 = .ok (.istore 9, 2) := by decide +kernel
theorem dX3_leapOn_35 : decode cX3_leapOn 35 = .ok (.iconst 1, 1) := by decide +kernel
theorem dX3_leapOn_36 : decode cX3_leapOn 36 = .ok (.istore 10, 2) := by decide +kernel
theorem dX3_leapOn_38 : decode cX3_leapOn 38 = .ok (.aload_n 1, 1) := by decide +kernel
theorem dX3_leapOn_39 : decode cX3_leapOn 39 = .ok (.iload_n 3, 1) := by decide +kernel
theorem dX3_leapOn_40 : decode cX3_leapOn 40 = .ok (.invokestatic 59, 3) := by decide +kernel
theorem dX3_leapOn_43 : decode cX3_leapOn 43 = .ok (.istore 11, 2) := by decide +kernel
theorem dX3_leapOn_45 : decode cX3_leapOn 45 = .ok (.iload 11, 2) := by decide +kernel
theorem dX3_leapOn_47 : decode cX3_leapOn 47 = .ok (.iload 9, 2) := by decide +kernel
theorem dX3_leapOn_49 : decode cX3_leapOn 49 = .ok (.if_icmp .gt 93, 3) := by decide +kernel
theorem dX3_leapOn_52 : decode cX3_leapOn 52 = .ok (.iload 6, 2) := by decide +kernel
theorem dX3_leapOn_54 : decode cX3_leapOn 54 = .ok (.bipush 18, 2) := by decide +kernel
theorem dX3_leapOn_56 : decode cX3_leapOn 56 = .ok (.if_icmp .ge 86, 3) := by decide +kernel
theorem dX3_leapOn_59 : decode cX3_leapOn 59 = .ok (.aload_n 0, 1) := by decide +kernel
theorem dX3_leapOn_60 : decode cX3_leapOn 60 = .ok (.getfield 9, 3) := by decide +kernel
theorem dX3_leapOn_63 : decode cX3_leapOn 63 = .ok (.iload 4, 2) := by decide +kernel
theorem dX3_leapOn_65 : decode cX3_leapOn 65 = .ok (.iconst 4, 1) := by decide +kernel
theorem dX3_leapOn_66 : decode cX3_leapOn 66 = .ok (.imul, 1) := by decide +kernel
theorem dX3_leapOn_67 : decode cX3_leapOn 67 = .ok (.iload 11, 2) := by decide +kernel
theorem dX3_leapOn_69 : decode cX3_leapOn 69 = .ok (.iadd, 1) := by decide +kernel
theorem dX3_leapOn_70 : decode cX3_leapOn 70 = .ok (.iaload, 1) := by decide +kernel
theorem dX3_leapOn_71 : decode cX3_leapOn 71 = .ok (.istore 12, 2) := by decide +kernel
theorem dX3_leapOn_73 : decode cX3_leapOn 73 = .ok (.aload_n 0, 1) := by decide +kernel
theorem dX3_leapOn_74 : decode cX3_leapOn 74 = .ok (.getfield 15, 3) := by decide +kernel
theorem dX3_leapOn_77 : decode cX3_leapOn 77 = .ok (.iload 4, 2) := by decide +kernel
theorem dX3_leapOn_79 : decode cX3_leapOn 79 = .ok (.iconst 4, 1) := by decide +kernel
theorem dX3_leapOn_80 : decode cX3_leapOn 80 = .ok (.imul, 1) := by decide +kernel
theorem dX3_leapOn_81 : decode cX3_leapOn 81 = .ok (.iload 11, 2) := by decide +kernel
theorem dX3_leapOn_83 : decode cX3_leapOn 83 = .ok (.iadd, 1) := by decide +kernel
theorem dX3_leapOn_84 : decode cX3_leapOn 84 = .ok (.iaload, 1) := by decide +kernel
theorem dX3_leapOn_85 : decode cX3_leapOn 85 = .ok (.istore 13, 2) := by decide +kernel
theorem dX3_leapOn_87 : decode cX3_leapOn 87 = .ok (.iload 13, 2) := by decide +kernel
theorem dX3_leapOn_89 : decode cX3_leapOn 89 = .ok (.iconst (-1), 1) := by decide +kernel
theorem dX3_leapOn_90 : decode cX3_leapOn 90 = .ok (.if_icmp .eq 46, 3) := by decide +kernel
theorem dX3_leapOn_93 : decode cX3_leapOn 93 = .ok (.iload 7, 2) := by decide +kernel
theorem dX3_leapOn_95 : decode cX3_leapOn 95 = .ok (.iload 12, 2) := by decide +kernel
theorem dX3_leapOn_97 : decode cX3_leapOn 97 = .ok (.ishr, 1) := by decide +kernel
theorem dX3_leapOn_98 : decode cX3_leapOn 98 = .ok (.iconst 1, 1) := by decide +kernel
theorem dX3_leapOn_99 : decode cX3_leapOn 99 = .ok (.iand, 1) := by decide +kernel
theorem dX3_leapOn_100 : decode cX3_leapOn 100 = .ok (.ifCond .eq 36, 3) := by decide +kernel
theorem dX3_leapOn_103 : decode cX3_leapOn 103 = .ok (.iload 8, 2) := by decide +kernel
theorem dX3_leapOn_105 : decode cX3_leapOn 105 = .ok (.iload 13, 2) := by decide +kernel
theorem dX3_leapOn_107 : decode cX3_leapOn 107 = .ok (.ishr, 1) := by decide +kernel
theorem dX3_leapOn_108 : decode cX3_leapOn 108 = .ok (.iconst 1, 1) := by decide +kernel
theorem dX3_leapOn_109 : decode cX3_leapOn 109 = .ok (.iand, 1) := by decide +kernel
theorem dX3_leapOn_110 : decode cX3_leapOn 110 = .ok (.ifCond .ne 26, 3) := by decide +kernel
theorem dX3_leapOn_113 : decode cX3_leapOn 113 = .ok (.iconst 0, 1) := by decide +kernel
theorem dX3_leapOn_114 : decode cX3_leapOn 114 = .ok (.istore 10, 2) := by decide +kernel
theorem dX3_leapOn_116 : decode cX3_leapOn 116 = .ok (.aload_n 0, 1) := by decide +kernel
theorem dX3_leapOn_117 : decode cX3_leapOn 117 = .ok (.aload_n 1, 1) := by decide +kernel
theorem dX3_leapOn_118 : decode cX3_leapOn 118 = .ok (.aload_n 2, 1) := by decide +kernel
theorem dX3_leapOn_119 : decode cX3_leapOn 119 = .ok (.iload_n 3, 1) := by decide +kernel
theorem dX3_leapOn_120 : decode cX3_leapOn 120 = .ok (.iload 13, 2) := by decide +kernel
theorem dX3_leapOn_122 : decode cX3_leapOn 122 = .ok (.iload 5, 2) := by decide +kernel
theorem dX3_leapOn_124 : decode cX3_leapOn 124 = .ok (.iconst 1, 1) := by decide +kernel
theorem dX3_leapOn_125 : decode cX3_leapOn 125 = .ok (.iload 12, 2) := by decide +kernel
theorem dX3_leapOn_127 : decode cX3_leapOn 127 = .ok (.ishl, 1) := by decide +kernel
theorem dX3_leapOn_128 : decode cX3_leapOn 128 = .ok (.ior, 1) := by decide +kernel
theorem dX3_leapOn_129 : decode cX3_leapOn 129 = .ok (.iload 6, 2) := by decide +kernel
theorem dX3_leapOn_131 : decode cX3_leapOn 131 = .ok (.iconst 1, 1) := by decide +kernel
theorem dX3_leapOn_132 : decode cX3_leapOn 132 = .ok (.iadd, 1) := by decide +kernel
theorem dX3_leapOn_133 : decode cX3_leapOn 133 = .ok (.invokevirtual 41, 3) := by decide +kernel
theorem dX3_leapOn_136 : decode cX3_leapOn 136 = .ok (.iinc 11 1, 3) := by decide +kernel
theorem dX3_leapOn_139 : decode cX3_leapOn 139 = .ok (.goto (-94), 3) := by decide +kernel
theorem dX3_leapOn_142 : decode cX3_leapOn 142 = .ok (.iload 10, 2) := by decide +kernel
theorem dX3_leapOn_144 : decode cX3_leapOn 144 = .ok (.ifCond .eq 17, 3) := by decide +kernel
theorem dX3_leapOn_147 : decode cX3_leapOn 147 = .ok (.iload 5, 2) := by decide +kernel
theorem dX3_leapOn_149 : decode cX3_leapOn 149 = .ok (.ifCond .eq 12, 3) := by decide +kernel
theorem dX3_leapOn_152 : decode cX3_leapOn 152 = .ok (.aload_n 2, 1) := by decide +kernel
theorem dX3_leapOn_153 : decode cX3_leapOn 153 = .ok (.iload_n 3, 1) := by decide +kernel
theorem dX3_leapOn_154 : decode cX3_leapOn 154 = .ok (.iload 4, 2) := by decide +kernel
theorem dX3_leapOn_156 : decode cX3_leapOn 156 = .ok (.iload 5, 2) := by decide +kernel
theorem dX3_leapOn_158 : decode cX3_leapOn 158 = .ok (.invokevirtual 62, 3) := by decide +kernel
theorem dX3_leapOn_161 : decode cX3_leapOn 161 = .ok (.return_, 1) := by decide +kernel
set_option maxRecDepth 20000 in
theorem ggX3_canMove_X2_own : GoodIn wsX3_canMove wsX2_own := goodIn_r _ [5, 6, 7, 8, 34, 35, 36, 37, 38] (by decide +kernel) (by decide +kernel)
set_option maxRecDepth 20000 in
theorem gX3_canMove_X2_own : GoodIn wsX3_canMove (wsV RX3 37 RX2 yX2_own wsX2_own) := goodIn_app (goodIn_of _ (by decide +kernel)) ggX3_canMove_X2_own
set_option maxRecDepth 20000 in
theorem ggX3_canMove_X3_canLeave : GoodIn wsX3_canMove wsX3_canLeave := goodIn_r _ [13, 14, 15, 16, 17, 18, 19, 20, 4, 21, 6, 8, 7, 22, 23, 12, 24, 25, 26, 27, 28, 29, 30, 31, 32, 33, 34, 35, 36, 37, 38, 39, 40] (by decide +kernel) (by decide +kernel)
set_option maxRecDepth 20000 in
theorem gX3_canMove_X3_canLeave : GoodIn wsX3_canMove (wsV RX3 69 RX3 yX3_canLeave wsX3_canLeave) := goodIn_app (goodIn_of _ (by decide +kernel)) ggX3_canMove_X3_canLeave
theorem dX3_canMove_0 : decode cX3_canMove 0 = .ok (.aload_n 1, 1) := by decide +kernel
theorem dX3_canMove_1 : decode cX3_canMove 1 = .ok (.invokevirtual 37, 3) := by decide +kernel
theorem dX3_canMove_4 : decode cX3_canMove 4 = .ok (.istore_n 2, 1) := by decide +kernel
theorem dX3_canMove_5 : decode cX3_canMove 5 = .ok (.iconst 0, 1) := by decide +kernel
theorem dX3_canMove_6 : decode cX3_canMove 6 = .ok (.istore_n 3, 1) := by decide +kernel
theorem dX3_canMove_7 : decode cX3_canMove 7 = .ok (.iload_n 3, 1) := by decide +kernel
theorem dX3_canMove_8 : decode cX3_canMove 8 = .ok (.bipush 18, 2) := by decide +kernel
theorem dX3_canMove_10 : decode cX3_canMove 10 = .ok (.if_icmp .ge 28, 3) := by decide +kernel
theorem dX3_canMove_13 : decode cX3_canMove 13 = .ok (.iload_n 2, 1) := by decide +kernel
theorem dX3_canMove_14 : decode cX3_canMove 14 = .ok (.iload_n 3, 1) := by decide +kernel
theorem dX3_canMove_15 : decode cX3_canMove 15 = .ok (.ishr, 1) := by decide +kernel
theorem dX3_canMove_16 : decode cX3_canMove 16 = .ok (.iconst 1, 1) := by decide +kernel
theorem dX3_canMove_17 : decode cX3_canMove 17 = .ok (.iand, 1) := by decide +kernel
theorem dX3_canMove_18 : decode cX3_canMove 18 = .ok (.ifCond .eq 14, 3) := by decide +kernel
theorem dX3_canMove_21 : decode cX3_canMove 21 = .ok (.aload_n 0, 1) := by decide +kernel
theorem dX3_canMove_22 : decode cX3_canMove 22 = .ok (.aload_n 1, 1) := by decide +kernel
theorem dX3_canMove_23 : decode cX3_canMove 23 = .ok (.iload_n 3, 1) := by decide +kernel
theorem dX3_canMove_24 : decode cX3_canMove 24 = .ok (.invokevirtual 69, 3) := by decide +kernel
theorem dX3_canMove_27 : decode cX3_canMove 27 = .ok (.ifCond .eq 5, 3) := by decide +kernel
theorem dX3_canMove_30 : decode cX3_canMove 30 = .ok (.iconst 1, 1) := by decide +kernel
theorem dX3_canMove_31 : decode cX3_canMove 31 = .ok (.ireturn, 1) := by decide +kernel
theorem dX3_canMove_32 : decode cX3_canMove 32 = .ok (.iinc 3 1, 3) := by decide +kernel
theorem dX3_canMove_35 : decode cX3_canMove 35 = .ok (.goto (-28), 3) := by decide +kernel
theorem dX3_canMove_38 : decode cX3_canMove 38 = .ok (.iconst 0, 1) := by decide +kernel
theorem dX3_canMove_39 : decode cX3_canMove 39 = .ok (.ireturn, 1) := by decide +kernel
set_option maxRecDepth 20000 in
theorem ggX3_canLeave_X2_others : GoodIn wsX3_canLeave wsX2_others := goodIn_r _ [9, 10, 11, 12, 26, 27, 28, 29, 30] (by decide +kernel) (by decide +kernel)
set_option maxRecDepth 20000 in
theorem gX3_canLeave_X2_others : GoodIn wsX3_canLeave (wsV RX3 66 RX2 yX2_others wsX2_others) := goodIn_app (goodIn_of _ (by decide +kernel)) ggX3_canLeave_X2_others
set_option maxRecDepth 20000 in
theorem ggX3_canLeave_X3_lastDirection : GoodIn wsX3_canLeave wsX3_lastDirection := goodIn_r _ [16, 17, 18, 19, 20, 8, 21, 22, 26, 27, 28, 29, 30] (by decide +kernel) (by decide +kernel)
set_option maxRecDepth 20000 in
theorem gX3_canLeave_X3_lastDirection : GoodIn wsX3_canLeave (va_wsS RX3 55 yX3_lastDirection wsX3_lastDirection) := goodIn_app (goodIn_of _ (by decide +kernel)) ggX3_canLeave_X3_lastDirection
set_option maxRecDepth 20000 in
theorem ggX3_canLeave_X3_firstDirection : GoodIn wsX3_canLeave wsX3_firstDirection := goodIn_r _ [25, 17, 18, 19, 20, 8, 21, 22, 26, 27, 28, 29, 30] (by decide +kernel) (by decide +kernel)
set_option maxRecDepth 20000 in
theorem gX3_canLeave_X3_firstDirection : GoodIn wsX3_canLeave (va_wsS RX3 59 yX3_firstDirection wsX3_firstDirection) := goodIn_app (goodIn_of _ (by decide +kernel)) ggX3_canLeave_X3_firstDirection
theorem dX3_canLeave_0 : decode cX3_canLeave 0 = .ok (.aload_n 1, 1) := by decide +kernel
theorem dX3_canLeave_1 : decode cX3_canLeave 1 = .ok (.invokevirtual 66, 3) := by decide +kernel
theorem dX3_canLeave_4 : decode cX3_canLeave 4 = .ok (.istore_n 3, 1) := by decide +kernel
theorem dX3_canLeave_5 : decode cX3_canLeave 5 = .ok (.aload_n 1, 1) := by decide +kernel
theorem dX3_canLeave_6 : decode cX3_canLeave 6 = .ok (.getfield 49, 3) := by decide +kernel
theorem dX3_canLeave_9 : decode cX3_canLeave 9 = .ok (.aload_n 1, 1) := by decide +kernel
theorem dX3_canLeave_10 : decode cX3_canLeave 10 = .ok (.getfield 52, 3) := by decide +kernel
theorem dX3_canLeave_13 : decode cX3_canLeave 13 = .ok (.ior, 1) := by decide +kernel
theorem dX3_canLeave_14 : decode cX3_canLeave 14 = .ok (.istore 4, 2) := by decide +kernel
theorem dX3_canLeave_16 : decode cX3_canLeave 16 = .ok (.aload_n 1, 1) := by decide +kernel
theorem dX3_canLeave_17 : decode cX3_canLeave 17 = .ok (.iload_n 2, 1) := by decide +kernel
theorem dX3_canLeave_18 : decode cX3_canLeave 18 = .ok (.invokestatic 55, 3) := by decide +kernel
theorem dX3_canLeave_21 : decode cX3_canLeave 21 = .ok (.istore 5, 2) := by decide +kernel
theorem dX3_canLeave_23 : decode cX3_canLeave 23 = .ok (.aload_n 1, 1) := by decide +kernel
theorem dX3_canLeave_24 : decode cX3_canLeave 24 = .ok (.iload_n 2, 1) := by decide +kernel
theorem dX3_canLeave_25 : decode cX3_canLeave 25 = .ok (.invokestatic 59, 3) := by decide +kernel
theorem dX3_canLeave_28 : decode cX3_canLeave 28 = .ok (.istore 6, 2) := by decide +kernel
theorem dX3_canLeave_30 : decode cX3_canLeave 30 = .ok (.iload 6, 2) := by decide +kernel
theorem dX3_canLeave_32 : decode cX3_canLeave 32 = .ok (.iload 5, 2) := by decide +kernel
theorem dX3_canLeave_34 : decode cX3_canLeave 34 = .ok (.if_icmp .gt 68, 3) := by decide +kernel
theorem dX3_canLeave_37 : decode cX3_canLeave 37 = .ok (.aload_n 0, 1) := by decide +kernel
theorem dX3_canLeave_38 : decode cX3_canLeave 38 = .ok (.getfield 9, 3) := by decide +kernel
theorem dX3_canLeave_41 : decode cX3_canLeave 41 = .ok (.iload_n 2, 1) := by decide +kernel
theorem dX3_canLeave_42 : decode cX3_canLeave 42 = .ok (.iconst 4, 1) := by decide +kernel
theorem dX3_canLeave_43 : decode cX3_canLeave 43 = .ok (.imul, 1) := by decide +kernel
theorem dX3_canLeave_44 : decode cX3_canLeave 44 = .ok (.iload 6, 2) := by decide +kernel
theorem dX3_canLeave_46 : decode cX3_canLeave 46 = .ok (.iadd, 1) := by decide +kernel
theorem dX3_canLeave_47 : decode cX3_canLeave 47 = .ok (.iaload, 1) := by decide +kernel
theorem dX3_canLeave_48 : decode cX3_canLeave 48 = .ok (.istore 7, 2) := by decide +kernel
theorem dX3_canLeave_50 : decode cX3_canLeave 50 = .ok (.iload 7, 2) := by decide +kernel
theorem dX3_canLeave_52 : decode cX3_canLeave 52 = .ok (.iconst (-1), 1) := by decide +kernel
theorem dX3_canLeave_53 : decode cX3_canLeave 53 = .ok (.if_icmp .eq 25, 3) := by decide +kernel
theorem dX3_canLeave_56 : decode cX3_canLeave 56 = .ok (.iload_n 3, 1) := by decide +kernel
theorem dX3_canLeave_57 : decode cX3_canLeave 57 = .ok (.iload 7, 2) := by decide +kernel
theorem dX3_canLeave_59 : decode cX3_canLeave 59 = .ok (.ishr, 1) := by decide +kernel
theorem dX3_canLeave_60 : decode cX3_canLeave 60 = .ok (.iconst 1, 1) := by decide +kernel
theorem dX3_canLeave_61 : decode cX3_canLeave 61 = .ok (.iand, 1) := by decide +kernel
theorem dX3_canLeave_62 : decode cX3_canLeave 62 = .ok (.ifCond .eq 16, 3) := by decide +kernel
theorem dX3_canLeave_65 : decode cX3_canLeave 65 = .ok (.aload_n 0, 1) := by decide +kernel
theorem dX3_canLeave_66 : decode cX3_canLeave 66 = .ok (.getfield 15, 3) := by decide +kernel
theorem dX3_canLeave_69 : decode cX3_canLeave 69 = .ok (.iload_n 2, 1) := by decide +kernel
theorem dX3_canLeave_70 : decode cX3_canLeave 70 = .ok (.iconst 4, 1) := by decide +kernel
theorem dX3_canLeave_71 : decode cX3_canLeave 71 = .ok (.imul, 1) := by decide +kernel
theorem dX3_canLeave_72 : decode cX3_canLeave 72 = .ok (.iload 6, 2) := by decide +kernel
theorem dX3_canLeave_74 : decode cX3_canLeave 74 = .ok (.iadd, 1) := by decide +kernel
theorem dX3_canLeave_75 : decode cX3_canLeave 75 = .ok (.iaload, 1) := by decide +kernel
theorem dX3_canLeave_76 : decode cX3_canLeave 76 = .ok (.istore 7, 2) := by decide +kernel
theorem dX3_canLeave_78 : decode cX3_canLeave 78 = .ok (.iload 7, 2) := by decide +kernel
theorem dX3_canLeave_80 : decode cX3_canLeave 80 = .ok (.iconst (-1), 1) := by decide +kernel
theorem dX3_canLeave_81 : decode cX3_canLeave 81 = .ok (.if_icmp .eq 15, 3) := by decide +kernel
theorem dX3_canLeave_84 : decode cX3_canLeave 84 = .ok (.iload 4, 2) := by decide +kernel
theorem dX3_canLeave_86 : decode cX3_canLeave 86 = .ok (.iload 7, 2) := by decide +kernel
theorem dX3_canLeave_88 : decode cX3_canLeave 88 = .ok (.ishr, 1) := by decide +kernel
theorem dX3_canLeave_89 : decode cX3_canLeave 89 = .ok (.iconst 1, 1) := by decide +kernel
theorem dX3_canLeave_90 : decode cX3_canLeave 90 = .ok (.iand, 1) := by decide +kernel
theorem dX3_canLeave_91 : decode cX3_canLeave 91 = .ok (.ifCond .ne 5, 3) := by decide +kernel
theorem dX3_canLeave_94 : decode cX3_canLeave 94 = .ok (.iconst 1, 1) := by decide +kernel
theorem dX3_canLeave_95 : decode cX3_canLeave 95 = .ok (.ireturn, 1) := by decide +kernel
theorem dX3_canLeave_96 : decode cX3_canLeave 96 = .ok (.iinc 6 1, 3) := by decide +kernel
theorem dX3_canLeave_99 : decode cX3_canLeave 99 = .ok (.goto (-69), 3) := by decide +kernel
theorem dX3_canLeave_102 : decode cX3_canLeave 102 = .ok (.iconst 0, 1) := by decide +kernel
theorem dX3_canLeave_103 : decode cX3_canLeave 103 = .ok (.ireturn, 1) := by decide +kernel
set_option maxRecDepth 20000 in
theorem ggX4_init_X3_init : GoodIn wsX4_init wsX3_init := goodIn_r _ [23, 24, 2, 3, 25, 26, 27, 28, 29, 6, 30, 52, 53] (by decide +kernel) (by decide +kernel)
set_option maxRecDepth 20000 in
theorem gX4_init_X3_init : GoodIn wsX4_init (wsX3_init) := ggX4_init_X3_init
set_option maxRecDepth 20000 in
theorem ggX4_init_X1_init : GoodIn wsX4_init wsX1_init := goodIn_r _ [32, 33, 2, 3, 25, 34, 62, 63] (by decide +kernel) (by decide +kernel)
set_option maxRecDepth 20000 in
theorem gX4_init_X1_init_n32 : GoodIn wsX4_init (wsX1_init) := ggX4_init_X1_init
set_option maxRecDepth 20000 in
theorem ggX4_init_X2_init : GoodIn wsX4_init wsX2_init := goodIn_r _ [36, 37, 2, 3] (by decide +kernel) (by decide +kernel)
set_option maxRecDepth 20000 in
theorem gX4_init_X2_init_n37 : GoodIn wsX4_init (wsX2_init) := ggX4_init_X2_init
set_option maxRecDepth 20000 in
theorem ggX4_init_X2_setUp : GoodIn wsX4_init wsX2_setUp := goodIn_r _ [41, 42, 43, 44, 45, 46, 47, 17, 48, 49, 50, 51, 64, 65, 66, 67, 68] (by decide +kernel) (by decide +kernel)
set_option maxRecDepth 20000 in
theorem gX4_init_X2_setUp : GoodIn wsX4_init (wsV RX4 49 RX2 yX2_setUp wsX2_setUp) := goodIn_app (goodIn_of _ (by decide +kernel)) ggX4_init_X2_setUp
theorem dX4_init_0 : decode cX4_init 0 = .ok (.aload_n 0, 1) := by decide +kernel
theorem dX4_init_1 : decode cX4_init 1 = .ok (.invokespecial 1, 3) := by decide +kernel
theorem dX4_init_4 : decode cX4_init 4 = .ok (.aload_n 0, 1) := by decide +kernel
theorem dX4_init_5 : decode cX4_init 5 = .ok (.new 7, 3) := by decide +kernel
theorem dX4_init_8 : decode cX4_init 8 = .ok (.dup, 1) := by decide +kernel
theorem dX4_init_9 : decode cX4_init 9 = .ok (.invokespecial 9, 3) := by decide +kernel
theorem dX4_init_12 : decode cX4_init 12 = .ok (.putfield 10, 3) := by decide +kernel
theorem dX4_init_15 : decode cX4_init 15 = .ok (.aload_n 0, 1) := by decide +kernel
theorem dX4_init_16 : decode cX4_init 16 = .ok (.aconst_null, 1) := by decide +kernel
theorem dX4_init_17 : decode cX4_init 17 = .ok (.putfield 16, 3) := by decide +kernel
theorem dX4_init_20 : decode cX4_init 20 = .ok (.aload_n 0, 1) := by decide +kernel
theorem dX4_init_21 : decode cX4_init 21 = .ok (.bipush 101, 2) := by decide +kernel
theorem dX4_init_23 : decode cX4_init 23 = .ok (.anewarray 20, 3) := by decide +kernel
theorem dX4_init_26 : decode cX4_init 26 = .ok (.putfield 22, 3) := by decide +kernel
theorem dX4_init_29 : decode cX4_init 29 = .ok (.aload_n 0, 1) := by decide +kernel
theorem dX4_init_30 : decode cX4_init 30 = .ok (.iconst 0, 1) := by decide +kernel
theorem dX4_init_31 : decode cX4_init 31 = .ok (.putfield 26, 3) := by decide +kernel
theorem dX4_init_34 : decode cX4_init 34 = .ok (.aload_n 0, 1) := by decide +kernel
theorem dX4_init_35 : decode cX4_init 35 = .ok (.new 30, 3) := by decide +kernel
theorem dX4_init_38 : decode cX4_init 38 = .ok (.dup, 1) := by decide +kernel
theorem dX4_init_39 : decode cX4_init 39 = .ok (.invokespecial 32, 3) := by decide +kernel
theorem dX4_init_42 : decode cX4_init 42 = .ok (.putfield 33, 3) := by decide +kernel
theorem dX4_init_45 : decode cX4_init 45 = .ok (.aload_n 0, 1) := by decide +kernel
theorem dX4_init_46 : decode cX4_init 46 = .ok (.new 20, 3) := by decide +kernel
theorem dX4_init_49 : decode cX4_init 49 = .ok (.dup, 1) := by decide +kernel
theorem dX4_init_50 : decode cX4_init 50 = .ok (.invokespecial 37, 3) := by decide +kernel
theorem dX4_init_53 : decode cX4_init 53 = .ok (.putfield 38, 3) := by decide +kernel
theorem dX4_init_56 : decode cX4_init 56 = .ok (.aload_n 0, 1) := by decide +kernel
theorem dX4_init_57 : decode cX4_init 57 = .ok (.iconst 5, 1) := by decide +kernel
theorem dX4_init_58 : decode cX4_init 58 = .ok (.anewarray 30, 3) := by decide +kernel
theorem dX4_init_61 : decode cX4_init 61 = .ok (.putfield 42, 3) := by decide +kernel
theorem dX4_init_64 : decode cX4_init 64 = .ok (.aload_n 0, 1) := by decide +kernel
theorem dX4_init_65 : decode cX4_init 65 = .ok (.iconst 5, 1) := by decide +kernel
theorem dX4_init_66 : decode cX4_init 66 = .ok (.anewarray 20, 3) := by decide +kernel
theorem dX4_init_69 : decode cX4_init 69 = .ok (.putfield 46, 3) := by decide +kernel
theorem dX4_init_72 : decode cX4_init 72 = .ok (.iconst 0, 1) := by decide +kernel
theorem dX4_init_73 : decode cX4_init 73 = .ok (.istore_n 1, 1) := by decide +kernel
theorem dX4_init_74 : decode cX4_init 74 = .ok (.iload_n 1, 1) := by decide +kernel
theorem dX4_init_75 : decode cX4_init 75 = .ok (.bipush 100, 2) := by decide +kernel
theorem dX4_init_77 : decode cX4_init 77 = .ok (.if_icmp .gt 22, 3) := by decide +kernel
theorem dX4_init_80 : decode cX4_init 80 = .ok (.aload_n 0, 1) := by decide +kernel
theorem dX4_init_81 : decode cX4_init 81 = .ok (.getfield 22, 3) := by decide +kernel
theorem dX4_init_84 : decode cX4_init 84 = .ok (.iload_n 1, 1) := by decide +kernel
theorem dX4_init_85 : decode cX4_init 85 = .ok (.new 20, 3) := by decide +kernel
theorem dX4_init_88 : decode cX4_init 88 = .ok (.dup, 1) := by decide +kernel
theorem dX4_init_89 : decode cX4_init 89 = .ok (.invokespecial 37, 3) := by decide +kernel
theorem dX4_init_92 : decode cX4_init 92 = .ok (.aastore, 1) := by decide +kernel
theorem dX4_init_93 : decode cX4_init 93 = .ok (.iinc 1 1, 3) := by decide +kernel
theorem dX4_init_96 : decode cX4_init 96 = .ok (.goto (-22), 3) := by decide +kernel
theorem dX4_init_99 : decode cX4_init 99 = .ok (.iconst 0, 1) := by decide +kernel
theorem dX4_init_100 : decode cX4_init 100 = .ok (.istore_n 1, 1) := by decide +kernel
theorem dX4_init_101 : decode cX4_init 101 = .ok (.iload_n 1, 1) := by decide +kernel
theorem dX4_init_102 : decode cX4_init 102 = .ok (.iconst 4, 1) := by decide +kernel
theorem dX4_init_103 : decode cX4_init 103 = .ok (.if_icmp .gt 35, 3) := by decide +kernel
theorem dX4_init_106 : decode cX4_init 106 = .ok (.aload_n 0, 1) := by decide +kernel
theorem dX4_init_107 : decode cX4_init 107 = .ok (.getfield 42, 3) := by decide +kernel
theorem dX4_init_110 : decode cX4_init 110 = .ok (.iload_n 1, 1) := by decide +kernel
theorem dX4_init_111 : decode cX4_init 111 = .ok (.new 30, 3) := by decide +kernel
theorem dX4_init_114 : decode cX4_init 114 = .ok (.dup, 1) := by decide +kernel
theorem dX4_init_115 : decode cX4_init 115 = .ok (.invokespecial 32, 3) := by decide +kernel
theorem dX4_init_118 : decode cX4_init 118 = .ok (.aastore, 1) := by decide +kernel
theorem dX4_init_119 : decode cX4_init 119 = .ok (.aload_n 0, 1) := by decide +kernel
theorem dX4_init_120 : decode cX4_init 120 = .ok (.getfield 46, 3) := by decide +kernel
theorem dX4_init_123 : decode cX4_init 123 = .ok (.iload_n 1, 1) := by decide +kernel
theorem dX4_init_124 : decode cX4_init 124 = .ok (.new 20, 3) := by decide +kernel
theorem dX4_init_127 : decode cX4_init 127 = .ok (.dup, 1) := by decide +kernel
theorem dX4_init_128 : decode cX4_init 128 = .ok (.invokespecial 37, 3) := by decide +kernel
theorem dX4_init_131 : decode cX4_init 131 = .ok (.aastore, 1) := by decide +kernel
theorem dX4_init_132 : decode cX4_init 132 = .ok (.iinc 1 1, 3) := by decide +kernel
theorem dX4_init_135 : decode cX4_init 135 = .ok (.goto (-34), 3) := by decide +kernel
theorem dX4_init_138 : decode cX4_init 138 = .ok (.aload_n 0, 1) := by decide +kernel
theorem dX4_init_139 : decode cX4_init 139 = .ok (.getfield 22, 3) := by decide +kernel
theorem dX4_init_142 : decode cX4_init 142 = .ok (.iconst 0, 1) := by decide +kernel
theorem dX4_init_143 : decode cX4_init 143 = .ok (.aaload, 1) := by decide +kernel
theorem dX4_init_144 : decode cX4_init 144 = .ok (.invokevirtual 49, 3) := by decide +kernel
theorem dX4_init_147 : decode cX4_init 147 = .ok (.return_, 1) := by decide +kernel
set_option maxRecDepth 20000 in
theorem ggX4_begin_X2_setUp : GoodIn wsX4_begin wsX2_setUp := goodIn_r _ [7, 8, 9, 10, 11, 12, 13, 6, 14, 15, 16, 17, 26, 27, 28, 29, 30] (by decide +kernel) (by decide +kernel)
set_option maxRecDepth 20000 in
theorem gX4_begin_X2_setUp : GoodIn wsX4_begin (wsV RX4 49 RX2 yX2_setUp wsX2_setUp) := goodIn_app (goodIn_of _ (by decide +kernel)) ggX4_begin_X2_setUp
theorem dX4_begin_0 : decode cX4_begin 0 = .ok (.aload_n 0, 1) := by decide +kernel
theorem dX4_begin_1 : decode cX4_begin 1 = .ok (.iconst 0, 1) := by decide +kernel
theorem dX4_begin_2 : decode cX4_begin 2 = .ok (.putfield 26, 3) := by decide +kernel
theorem dX4_begin_5 : decode cX4_begin 5 = .ok (.aload_n 0, 1) := by decide +kernel
theorem dX4_begin_6 : decode cX4_begin 6 = .ok (.getfield 22, 3) := by decide +kernel
theorem dX4_begin_9 : decode cX4_begin 9 = .ok (.iconst 0, 1) := by decide +kernel
theorem dX4_begin_10 : decode cX4_begin 10 = .ok (.aaload, 1) := by decide +kernel
theorem dX4_begin_11 : decode cX4_begin 11 = .ok (.invokevirtual 49, 3) := by decide +kernel
theorem dX4_begin_14 : decode cX4_begin 14 = .ok (.return_, 1) := by decide +kernel
set_option maxRecDepth 20000 in
theorem ggX4_clear_X2_wipe : GoodIn wsX4_clear wsX2_wipe := goodIn_r _ [7, 8, 9, 10, 11, 12, 21, 22, 23, 24, 25] (by decide +kernel) (by decide +kernel)
set_option maxRecDepth 20000 in
theorem gX4_clear_X2_wipe : GoodIn wsX4_clear (wsV RX4 52 RX2 yX2_wipe wsX2_wipe) := goodIn_app (goodIn_of _ (by decide +kernel)) ggX4_clear_X2_wipe
theorem dX4_clear_0 : decode cX4_clear 0 = .ok (.aload_n 0, 1) := by decide +kernel
theorem dX4_clear_1 : decode cX4_clear 1 = .ok (.iconst 0, 1) := by decide +kernel
theorem dX4_clear_2 : decode cX4_clear 2 = .ok (.putfield 26, 3) := by decide +kernel
theorem dX4_clear_5 : decode cX4_clear 5 = .ok (.aload_n 0, 1) := by decide +kernel
theorem dX4_clear_6 : decode cX4_clear 6 = .ok (.getfield 22, 3) := by decide +kernel
theorem dX4_clear_9 : decode cX4_clear 9 = .ok (.iconst 0, 1) := by decide +kernel
theorem dX4_clear_10 : decode cX4_clear 10 = .ok (.aaload, 1) := by decide +kernel
theorem dX4_clear_11 : decode cX4_clear 11 = .ok (.invokevirtual 52, 3) := by decide +kernel
theorem dX4_clear_14 : decode cX4_clear 14 = .ok (.return_, 1) := by decide +kernel
set_option maxRecDepth 20000 in
theorem ggX4_put_X4_isSquare : GoodIn wsX4_put wsX4_isSquare := goodIn_r _ [6] (by decide +kernel) (by decide +kernel)
set_option maxRecDepth 20000 in
theorem gX4_put_X4_isSquare : GoodIn wsX4_put (va_wsS RX4 55 yX4_isSquare wsX4_isSquare) := goodIn_app (goodIn_of _ (by decide +kernel)) ggX4_put_X4_isSquare
set_option maxRecDepth 20000 in
theorem ggX4_put_X4_forgetGame : GoodIn wsX4_put wsX4_forgetGame := goodIn_r _ [10, 2, 11, 12, 13, 14, 15, 16, 17, 18, 19, 20, 21, 22, 27, 28, 29, 30, 31, 32, 33, 34, 35, 36, 37, 38, 39] (by decide +kernel) (by decide +kernel)
set_option maxRecDepth 20000 in
theorem gX4_put_X4_forgetGame : GoodIn wsX4_put (wsV RX4 60 RX4 yX4_forgetGame wsX4_forgetGame) := goodIn_app (goodIn_of _ (by decide +kernel)) ggX4_put_X4_forgetGame
set_option maxRecDepth 20000 in
theorem ggX4_put_X2_place : GoodIn wsX4_put wsX2_place := goodIn_r _ [26, 18, 19, 20, 35, 36, 37, 38, 39] (by decide +kernel) (by decide +kernel)
set_option maxRecDepth 20000 in
theorem gX4_put_X2_place : GoodIn wsX4_put (wsV RX4 63 RX2 yX2_place wsX2_place) := goodIn_app (goodIn_of _ (by decide +kernel)) ggX4_put_X2_place
theorem dX4_put_0 : decode cX4_put 0 = .ok (.iload_n 1, 1) := by decide +kernel
theorem dX4_put_1 : decode cX4_put 1 = .ok (.invokestatic 55, 3) := by decide +kernel
theorem dX4_put_4 : decode cX4_put 4 = .ok (.ifCond .eq 12, 3) := by decide +kernel
theorem dX4_put_7 : decode cX4_put 7 = .ok (.iload_n 2, 1) := by decide +kernel
theorem dX4_put_8 : decode cX4_put 8 = .ok (.ifCond .lt 8, 3) := by decide +kernel
theorem dX4_put_11 : decode cX4_put 11 = .ok (.iload_n 2, 1) := by decide +kernel
theorem dX4_put_12 : decode cX4_put 12 = .ok (.iconst 4, 1) := by decide +kernel
theorem dX4_put_13 : decode cX4_put 13 = .ok (.if_icmp .le 5, 3) := by decide +kernel
theorem dX4_put_16 : decode cX4_put 16 = .ok (.iconst 0, 1) := by decide +kernel
theorem dX4_put_17 : decode cX4_put 17 = .ok (.ireturn, 1) := by decide +kernel
theorem dX4_put_18 : decode cX4_put 18 = .ok (.iconst 1, 1) := by decide +kernel
theorem dX4_put_19 : decode cX4_put 19 = .ok (.iload_n 1, 1) := by decide +kernel
theorem dX4_put_20 : decode cX4_put 20 = .ok (.ishl, 1) := by decide +kernel
theorem dX4_put_21 : decode cX4_put 21 = .ok (.istore_n 3, 1) := by decide +kernel
theorem dX4_put_22 : decode cX4_put 22 = .ok (.iload_n 2, 1) := by decide +kernel
theorem dX4_put_23 : decode cX4_put 23 = .ok (.iconst 1, 1) := by decide +kernel
theorem dX4_put_24 : decode cX4_put 24 = .ok (.if_icmp .ne 12, 3) := by decide +kernel
theorem dX4_put_27 : decode cX4_put 27 = .ok (.iload_n 3, 1) := by decide +kernel
theorem dX4_put_28 : decode cX4_put 28 = .ok (.ldc 59, 2) := by decide +kernel
theorem dX4_put_30 : decode cX4_put 30 = .ok (.iand, 1) := by decide +kernel
theorem dX4_put_31 : decode cX4_put 31 = .ok (.ifCond .eq 5, 3) := by decide +kernel
theorem dX4_put_34 : decode cX4_put 34 = .ok (.iconst 0, 1) := by decide +kernel
theorem dX4_put_35 : decode cX4_put 35 = .ok (.ireturn, 1) := by decide +kernel
theorem dX4_put_36 : decode cX4_put 36 = .ok (.iload_n 2, 1) := by decide +kernel
theorem dX4_put_37 : decode cX4_put 37 = .ok (.iconst 3, 1) := by decide +kernel
theorem dX4_put_38 : decode cX4_put 38 = .ok (.if_icmp .ne 12, 3) := by decide +kernel
theorem dX4_put_41 : decode cX4_put 41 = .ok (.iload_n 3, 1) := by decide +kernel
theorem dX4_put_42 : decode cX4_put 42 = .ok (.bipush 7, 2) := by decide +kernel
theorem dX4_put_44 : decode cX4_put 44 = .ok (.iand, 1) := by decide +kernel
theorem dX4_put_45 : decode cX4_put 45 = .ok (.ifCond .eq 5, 3) := by decide +kernel
theorem dX4_put_48 : decode cX4_put 48 = .ok (.iconst 0, 1) := by decide +kernel
theorem dX4_put_49 : decode cX4_put 49 = .ok (.ireturn, 1) := by decide +kernel
theorem dX4_put_50 : decode cX4_put 50 = .ok (.aload_n 0, 1) := by decide +kernel
theorem dX4_put_51 : decode cX4_put 51 = .ok (.invokevirtual 60, 3) := by decide +kernel
theorem dX4_put_54 : decode cX4_put 54 = .ok (.aload_n 0, 1) := by decide +kernel
theorem dX4_put_55 : decode cX4_put 55 = .ok (.getfield 22, 3) := by decide +kernel
theorem dX4_put_58 : decode cX4_put 58 = .ok (.iconst 0, 1) := by decide +kernel
theorem dX4_put_59 : decode cX4_put 59 = .ok (.aaload, 1) := by decide +kernel
theorem dX4_put_60 : decode cX4_put 60 = .ok (.iload_n 3, 1) := by decide +kernel
theorem dX4_put_61 : decode cX4_put 61 = .ok (.iload_n 2, 1) := by decide +kernel
theorem dX4_put_62 : decode cX4_put 62 = .ok (.invokevirtual 63, 3) := by decide +kernel
theorem dX4_put_65 : decode cX4_put 65 = .ok (.iconst 1, 1) := by decide +kernel
theorem dX4_put_66 : decode cX4_put 66 = .ok (.ireturn, 1) := by decide +kernel
set_option maxRecDepth 20000 in
theorem ggX4_turn_X4_forgetGame : GoodIn wsX4_turn wsX4_forgetGame := goodIn_r _ [7, 1, 8, 9, 10, 11, 12, 13, 14, 15, 16, 17, 18, 19, 20, 21, 22, 23, 24, 25, 26, 27, 28, 29, 30, 31, 32] (by decide +kernel) (by decide +kernel)
set_option maxRecDepth 20000 in
theorem gX4_turn_X4_forgetGame : GoodIn wsX4_turn (wsV RX4 60 RX4 yX4_forgetGame wsX4_forgetGame) := goodIn_app (goodIn_of _ (by decide +kernel)) ggX4_turn_X4_forgetGame
theorem dX4_turn_0 : decode cX4_turn 0 = .ok (.iload_n 1, 1) := by decide +kernel
theorem dX4_turn_1 : decode cX4_turn 1 = .ok (.ifCond .eq 10, 3) := by decide +kernel
theorem dX4_turn_4 : decode cX4_turn 4 = .ok (.iload_n 1, 1) := by decide +kernel
theorem dX4_turn_5 : decode cX4_turn 5 = .ok (.iconst 1, 1) := by decide +kernel
theorem dX4_turn_6 : decode cX4_turn 6 = .ok (.if_icmp .eq 5, 3) := by decide +kernel
theorem dX4_turn_9 : decode cX4_turn 9 = .ok (.iconst 0, 1) := by decide +kernel
theorem dX4_turn_10 : decode cX4_turn 10 = .ok (.ireturn, 1) := by decide +kernel
theorem dX4_turn_11 : decode cX4_turn 11 = .ok (.aload_n 0, 1) := by decide +kernel
theorem dX4_turn_12 : decode cX4_turn 12 = .ok (.invokevirtual 60, 3) := by decide +kernel
theorem dX4_turn_15 : decode cX4_turn 15 = .ok (.aload_n 0, 1) := by decide +kernel
theorem dX4_turn_16 : decode cX4_turn 16 = .ok (.getfield 22, 3) := by decide +kernel
theorem dX4_turn_19 : decode cX4_turn 19 = .ok (.iconst 0, 1) := by decide +kernel
theorem dX4_turn_20 : decode cX4_turn 20 = .ok (.aaload, 1) := by decide +kernel
theorem dX4_turn_21 : decode cX4_turn 21 = .ok (.iload_n 1, 1) := by decide +kernel
theorem dX4_turn_22 : decode cX4_turn 22 = .ok (.putfield 67, 3) := by decide +kernel
theorem dX4_turn_25 : decode cX4_turn 25 = .ok (.iconst 1, 1) := by decide +kernel
theorem dX4_turn_26 : decode cX4_turn 26 = .ok (.ireturn, 1) := by decide +kernel
set_option maxRecDepth 20000 in
theorem ggX4_at_X4_isSquare : GoodIn wsX4_at wsX4_isSquare := goodIn_r _ [6] (by decide +kernel) (by decide +kernel)
set_option maxRecDepth 20000 in
theorem gX4_at_X4_isSquare : GoodIn wsX4_at (va_wsS RX4 55 yX4_isSquare wsX4_isSquare) := goodIn_app (goodIn_of _ (by decide +kernel)) ggX4_at_X4_isSquare
set_option maxRecDepth 20000 in
theorem ggX4_at_X2_pieceOn : GoodIn wsX4_at wsX2_pieceOn := goodIn_r _ [11, 12, 13, 14, 23, 24, 25, 26, 27] (by decide +kernel) (by decide +kernel)
set_option maxRecDepth 20000 in
theorem gX4_at_X2_pieceOn : GoodIn wsX4_at (wsV RX4 70 RX2 yX2_pieceOn wsX2_pieceOn) := goodIn_app (goodIn_of _ (by decide +kernel)) ggX4_at_X2_pieceOn
theorem dX4_at_0 : decode cX4_at 0 = .ok (.iload_n 1, 1) := by decide +kernel
theorem dX4_at_1 : decode cX4_at 1 = .ok (.invokestatic 55, 3) := by decide +kernel
theorem dX4_at_4 : decode cX4_at 4 = .ok (.ifCond .eq 21, 3) := by decide +kernel
theorem dX4_at_7 : decode cX4_at 7 = .ok (.aload_n 0, 1) := by decide +kernel
theorem dX4_at_8 : decode cX4_at 8 = .ok (.getfield 22, 3) := by decide +kernel
theorem dX4_at_11 : decode cX4_at 11 = .ok (.aload_n 0, 1) := by decide +kernel
theorem dX4_at_12 : decode cX4_at 12 = .ok (.getfield 26, 3) := by decide +kernel
theorem dX4_at_15 : decode cX4_at 15 = .ok (.aaload, 1) := by decide +kernel
theorem dX4_at_16 : decode cX4_at 16 = .ok (.iconst 1, 1) := by decide +kernel
theorem dX4_at_17 : decode cX4_at 17 = .ok (.iload_n 1, 1) := by decide +kernel
theorem dX4_at_18 : decode cX4_at 18 = .ok (.ishl, 1) := by decide +kernel
theorem dX4_at_19 : decode cX4_at 19 = .ok (.invokevirtual 70, 3) := by decide +kernel
theorem dX4_at_22 : decode cX4_at 22 = .ok (.goto 4, 3) := by decide +kernel
theorem dX4_at_25 : decode cX4_at 25 = .ok (.iconst (-1), 1) := by decide +kernel
theorem dX4_at_26 : decode cX4_at 26 = .ok (.ireturn, 1) := by decide +kernel
theorem dX4_side_0 : decode cX4_side 0 = .ok (.aload_n 0, 1) := by decide +kernel
theorem dX4_side_1 : decode cX4_side 1 = .ok (.getfield 22, 3) := by decide +kernel
theorem dX4_side_4 : decode cX4_side 4 = .ok (.aload_n 0, 1) := by decide +kernel
theorem dX4_side_5 : decode cX4_side 5 = .ok (.getfield 26, 3) := by decide +kernel
theorem dX4_side_8 : decode cX4_side 8 = .ok (.aaload, 1) := by decide +kernel
theorem dX4_side_9 : decode cX4_side 9 = .ok (.getfield 67, 3) := by decide +kernel
theorem dX4_side_12 : decode cX4_side 12 = .ok (.ireturn, 1) := by decide +kernel
set_option maxRecDepth 20000 in
theorem ggX4_moves_X3_listMoves : GoodIn wsX4_moves wsX3_listMoves := goodIn_r _ [10, 11, 12, 13, 14, 15, 16, 17, 18, 19, 20, 21, 22, 9, 23, 24, 25, 26, 27, 28, 29, 30, 31, 32, 33, 34, 35, 36, 37, 38, 39, 40, 41, 42, 43, 44, 45, 46, 47, 48, 49, 50, 51, 52, 53, 54, 63, 64, 65, 66, 67, 68, 69, 70, 71] (by decide +kernel) (by decide +kernel)
set_option maxRecDepth 20000 in
theorem gX4_moves_X3_listMoves : GoodIn wsX4_moves (wsV RX4 74 RX3 yX3_listMoves wsX3_listMoves) := goodIn_app (goodIn_of _ (by decide +kernel)) ggX4_moves_X3_listMoves
theorem dX4_moves_0 : decode cX4_moves 0 = .ok (.aload_n 0, 1) := by decide +kernel
theorem dX4_moves_1 : decode cX4_moves 1 = .ok (.getfield 10, 3) := by decide +kernel
theorem dX4_moves_4 : decode cX4_moves 4 = .ok (.aload_n 0, 1) := by decide +kernel
theorem dX4_moves_5 : decode cX4_moves 5 = .ok (.getfield 22, 3) := by decide +kernel
theorem dX4_moves_8 : decode cX4_moves 8 = .ok (.aload_n 0, 1) := by decide +kernel
theorem dX4_moves_9 : decode cX4_moves 9 = .ok (.getfield 26, 3) := by decide +kernel
theorem dX4_moves_12 : decode cX4_moves 12 = .ok (.aaload, 1) := by decide +kernel
theorem dX4_moves_13 : decode cX4_moves 13 = .ok (.aload_n 0, 1) := by decide +kernel
theorem dX4_moves_14 : decode cX4_moves 14 = .ok (.getfield 33, 3) := by decide +kernel
theorem dX4_moves_17 : decode cX4_moves 17 = .ok (.invokevirtual 74, 3) := by decide +kernel
theorem dX4_moves_20 : decode cX4_moves 20 = .ok (.aload_n 0, 1) := by decide +kernel
theorem dX4_moves_21 : decode cX4_moves 21 = .ok (.getfield 33, 3) := by decide +kernel
theorem dX4_moves_24 : decode cX4_moves 24 = .ok (.getfield 78, 3) := by decide +kernel
theorem dX4_moves_27 : decode cX4_moves 27 = .ok (.ireturn, 1) := by decide +kernel
set_option maxRecDepth 20000 in
theorem ggX4_move_X4_moves : GoodIn wsX4_move wsX4_moves := goodIn_r _ [7, 8, 9, 10, 1, 11, 12, 13, 14, 15, 16, 17, 18, 19, 20, 21, 22, 23, 24, 25, 26, 27, 28, 29, 30, 31, 32, 33, 34, 35, 36, 37, 38, 39, 40, 41, 42, 43, 44, 45, 46, 47, 48, 49, 50, 51, 52, 53, 54, 55, 56, 57, 58, 59, 60, 71, 72, 73, 74, 75, 76, 77, 78, 79, 80, 81, 82, 83, 84, 85, 86, 87] (by decide +kernel) (by decide +kernel)
set_option maxRecDepth 20000 in
theorem gX4_move_X4_moves : GoodIn wsX4_move (wsV RX4 81 RX4 yX4_moves wsX4_moves) := goodIn_app (goodIn_of _ (by decide +kernel)) ggX4_move_X4_moves
set_option maxRecDepth 20000 in
theorem ggX4_move_X1_beginning : GoodIn wsX4_move wsX1_beginning := goodIn_r _ [63] (by decide +kernel) (by decide +kernel)
set_option maxRecDepth 20000 in
theorem gX4_move_X1_beginning : GoodIn wsX4_move (va_wsS RX4 89 yX1_beginning wsX1_beginning) := goodIn_app (goodIn_of _ (by decide +kernel)) ggX4_move_X1_beginning
set_option maxRecDepth 20000 in
theorem ggX4_move_X1_end : GoodIn wsX4_move wsX1_end := goodIn_r _ [66] (by decide +kernel) (by decide +kernel)
set_option maxRecDepth 20000 in
theorem gX4_move_X1_end : GoodIn wsX4_move (va_wsS RX4 92 yX1_end wsX1_end) := goodIn_app (goodIn_of _ (by decide +kernel)) ggX4_move_X1_end
set_option maxRecDepth 20000 in
theorem ggX4_move_X1_taken : GoodIn wsX4_move wsX1_taken := goodIn_r _ [69, 70] (by decide +kernel) (by decide +kernel)
set_option maxRecDepth 20000 in
theorem gX4_move_X1_taken : GoodIn wsX4_move (va_wsS RX4 95 yX1_taken wsX1_taken) := goodIn_app (goodIn_of _ (by decide +kernel)) ggX4_move_X1_taken
theorem dX4_move_0 : decode cX4_move 0 = .ok (.iload_n 1, 1) := by decide +kernel
theorem dX4_move_1 : decode cX4_move 1 = .ok (.ifCond .lt 11, 3) := by decide +kernel
theorem dX4_move_4 : decode cX4_move 4 = .ok (.iload_n 1, 1) := by decide +kernel
theorem dX4_move_5 : decode cX4_move 5 = .ok (.aload_n 0, 1) := by decide +kernel
theorem dX4_move_6 : decode cX4_move 6 = .ok (.invokevirtual 81, 3) := by decide +kernel
theorem dX4_move_9 : decode cX4_move 9 = .ok (.if_icmp .lt 5, 3) := by decide +kernel
theorem dX4_move_12 : decode cX4_move 12 = .ok (.iconst (-1), 1) := by decide +kernel
theorem dX4_move_13 : decode cX4_move 13 = .ok (.ireturn, 1) := by decide +kernel
theorem dX4_move_14 : decode cX4_move 14 = .ok (.aload_n 0, 1) := by decide +kernel
theorem dX4_move_15 : decode cX4_move 15 = .ok (.getfield 33, 3) := by decide +kernel
theorem dX4_move_18 : decode cX4_move 18 = .ok (.getfield 85, 3) := by decide +kernel
theorem dX4_move_21 : decode cX4_move 21 = .ok (.iload_n 1, 1) := by decide +kernel
theorem dX4_move_22 : decode cX4_move 22 = .ok (.iaload, 1) := by decide +kernel
theorem dX4_move_23 : decode cX4_move 23 = .ok (.istore_n 3, 1) := by decide +kernel
theorem dX4_move_24 : decode cX4_move 24 = .ok (.iload_n 2, 1) := by decide +kernel
theorem dX4_move_25 : decode cX4_move 25 = .ok (.tableswitch 42 0 2 #[27, 32, 37], 27) := by decide +kernel
theorem dX4_move_52 : decode cX4_move 52 = .ok (.iload_n 3, 1) := by decide +kernel
theorem dX4_move_53 : decode cX4_move 53 = .ok (.invokestatic 89, 3) := by decide +kernel
theorem dX4_move_56 : decode cX4_move 56 = .ok (.ireturn, 1) := by decide +kernel
theorem dX4_move_57 : decode cX4_move 57 = .ok (.iload_n 3, 1) := by decide +kernel
theorem dX4_move_58 : decode cX4_move 58 = .ok (.invokestatic 92, 3) := by decide +kernel
theorem dX4_move_61 : decode cX4_move 61 = .ok (.ireturn, 1) := by decide +kernel
theorem dX4_move_62 : decode cX4_move 62 = .ok (.iload_n 3, 1) := by decide +kernel
theorem dX4_move_63 : decode cX4_move 63 = .ok (.invokestatic 95, 3) := by decide +kernel
theorem dX4_move_66 : decode cX4_move 66 = .ok (.ireturn, 1) := by decide +kernel
theorem dX4_move_67 : decode cX4_move 67 = .ok (.iconst (-1), 1) := by decide +kernel
theorem dX4_move_68 : decode cX4_move 68 = .ok (.ireturn, 1) := by decide +kernel
set_option maxRecDepth 20000 in
theorem ggX4_play_X4_over : GoodIn wsX4_play wsX4_over := goodIn_r _ [9, 4, 1, 10, 11, 12, 13, 14, 15, 16, 17, 18, 19, 20, 21, 22, 23, 24, 25, 26, 27, 28, 29, 30, 31, 32, 33, 34, 35, 36, 37, 38, 39, 40, 41, 42, 43, 44, 45, 46, 47, 48, 49, 99, 100, 101, 102, 103, 104, 105, 106, 109, 110, 111, 112, 113, 114, 115] (by decide +kernel) (by decide +kernel)
set_option maxRecDepth 20000 in
theorem gX4_play_X4_over : GoodIn wsX4_play (wsV RX4 98 RX4 yX4_over wsX4_over) := goodIn_app (goodIn_of _ (by decide +kernel)) ggX4_play_X4_over
set_option maxRecDepth 20000 in
theorem ggX4_play_X4_moves : GoodIn wsX4_play wsX4_moves := goodIn_r _ [53, 10, 4, 1, 2, 54, 55, 56, 57, 16, 58, 59, 18, 19, 20, 21, 22, 23, 24, 25, 60, 61, 62, 63, 30, 31, 32, 33, 34, 35, 36, 37, 38, 39, 40, 41, 42, 43, 44, 45, 46, 47, 48, 49, 64, 65, 66, 67, 68, 69, 70, 71, 72, 73, 74, 99, 100, 101, 102, 103, 104, 105, 106, 107, 108, 109, 110, 111, 112, 113, 114, 115] (by decide +kernel) (by decide +kernel)
set_option maxRecDepth 20000 in
theorem gX4_play_X4_moves : GoodIn wsX4_play (wsV RX4 81 RX4 yX4_moves wsX4_moves) := goodIn_app (goodIn_of _ (by decide +kernel)) ggX4_play_X4_moves
set_option maxRecDepth 20000 in
theorem ggX4_play_X2_follow : GoodIn wsX4_play wsX2_follow := goodIn_r _ [78, 23, 46, 79, 24, 25, 80, 81, 82, 67, 83, 84, 85, 86, 87, 88, 89, 90, 109, 110, 111, 112, 113] (by decide +kernel) (by decide +kernel)
set_option maxRecDepth 20000 in
theorem gX4_play_X2_follow : GoodIn wsX4_play (wsV RX4 101 RX2 yX2_follow wsX2_follow) := goodIn_app (goodIn_of _ (by decide +kernel)) ggX4_play_X2_follow
set_option maxRecDepth 20000 in
theorem ggX4_play_X1_taken : GoodIn wsX4_play wsX1_taken := goodIn_r _ [89, 90] (by decide +kernel) (by decide +kernel)
set_option maxRecDepth 20000 in
theorem gX4_play_X1_taken : GoodIn wsX4_play (va_wsS RX4 95 yX1_taken wsX1_taken) := goodIn_app (goodIn_of _ (by decide +kernel)) ggX4_play_X1_taken
set_option maxRecDepth 20000 in
theorem ggX4_play_J6_bitCount_0f7a4 : GoodIn wsX4_play wsJ6_bitCount_0f7a4 := goodIn_r _ [95, 96, 97, 98] (by decide +kernel) (by decide +kernel)
set_option maxRecDepth 20000 in
theorem gX4_play_J6_bitCount_0f7a4 : GoodIn wsX4_play (va_wsS RX4 105 yJ6_bitCount_0f7a4 wsJ6_bitCount_0f7a4) := goodIn_app (goodIn_of _ (by decide +kernel)) ggX4_play_J6_bitCount_0f7a4
theorem dX4_play_0 : decode cX4_play 0 = .ok (.aload_n 0, 1) := by decide +kernel
theorem dX4_play_1 : decode cX4_play 1 = .ok (.invokevirtual 98, 3) := by decide +kernel
theorem dX4_play_4 : decode cX4_play 4 = .ok (.ifCond .ne 24, 3) := by decide +kernel
theorem dX4_play_7 : decode cX4_play 7 = .ok (.iload_n 1, 1) := by decide +kernel
theorem dX4_play_8 : decode cX4_play 8 = .ok (.ifCond .lt 20, 3) := by decide +kernel
theorem dX4_play_11 : decode cX4_play 11 = .ok (.iload_n 1, 1) := by decide +kernel
theorem dX4_play_12 : decode cX4_play 12 = .ok (.aload_n 0, 1) := by decide +kernel
theorem dX4_play_13 : decode cX4_play 13 = .ok (.invokevirtual 81, 3) := by decide +kernel
theorem dX4_play_16 : decode cX4_play 16 = .ok (.if_icmp .ge 12, 3) := by decide +kernel
theorem dX4_play_19 : decode cX4_play 19 = .ok (.aload_n 0, 1) := by decide +kernel
theorem dX4_play_20 : decode cX4_play 20 = .ok (.getfield 26, 3) := by decide +kernel
theorem dX4_play_23 : decode cX4_play 23 = .ok (.bipush 100, 2) := by decide +kernel
theorem dX4_play_25 : decode cX4_play 25 = .ok (.if_icmp .lt 5, 3) := by decide +kernel
theorem dX4_play_28 : decode cX4_play 28 = .ok (.iconst (-1), 1) := by decide +kernel
theorem dX4_play_29 : decode cX4_play 29 = .ok (.ireturn, 1) := by decide +kernel
theorem dX4_play_30 : decode cX4_play 30 = .ok (.aload_n 0, 1) := by decide +kernel
theorem dX4_play_31 : decode cX4_play 31 = .ok (.getfield 33, 3) := by decide +kernel
theorem dX4_play_34 : decode cX4_play 34 = .ok (.getfield 85, 3) := by decide +kernel
theorem dX4_play_37 : decode cX4_play 37 = .ok (.iload_n 1, 1) := by decide +kernel
theorem dX4_play_38 : decode cX4_play 38 = .ok (.iaload, 1) := by decide +kernel
theorem dX4_play_39 : decode cX4_play 39 = .ok (.istore_n 2, 1) := by decide +kernel
theorem dX4_play_40 : decode cX4_play 40 = .ok (.aload_n 0, 1) := by decide +kernel
theorem dX4_play_41 : decode cX4_play 41 = .ok (.getfield 22, 3) := by decide +kernel
theorem dX4_play_44 : decode cX4_play 44 = .ok (.aload_n 0, 1) := by decide +kernel
theorem dX4_play_45 : decode cX4_play 45 = .ok (.getfield 26, 3) := by decide +kernel
theorem dX4_play_48 : decode cX4_play 48 = .ok (.iconst 1, 1) := by decide +kernel
theorem dX4_play_49 : decode cX4_play 49 = .ok (.iadd, 1) := by decide +kernel
theorem dX4_play_50 : decode cX4_play 50 = .ok (.aaload, 1) := by decide +kernel
theorem dX4_play_51 : decode cX4_play 51 = .ok (.aload_n 0, 1) := by decide +kernel
theorem dX4_play_52 : decode cX4_play 52 = .ok (.getfield 22, 3) := by decide +kernel
theorem dX4_play_55 : decode cX4_play 55 = .ok (.aload_n 0, 1) := by decide +kernel
theorem dX4_play_56 : decode cX4_play 56 = .ok (.getfield 26, 3) := by decide +kernel
theorem dX4_play_59 : decode cX4_play 59 = .ok (.aaload, 1) := by decide +kernel
theorem dX4_play_60 : decode cX4_play 60 = .ok (.iload_n 2, 1) := by decide +kernel
theorem dX4_play_61 : decode cX4_play 61 = .ok (.invokevirtual 101, 3) := by decide +kernel
theorem dX4_play_64 : decode cX4_play 64 = .ok (.aload_n 0, 1) := by decide +kernel
theorem dX4_play_65 : decode cX4_play 65 = .ok (.dup, 1) := by decide +kernel
theorem dX4_play_66 : decode cX4_play 66 = .ok (.getfield 26, 3) := by decide +kernel
theorem dX4_play_69 : decode cX4_play 69 = .ok (.iconst 1, 1) := by decide +kernel
theorem dX4_play_70 : decode cX4_play 70 = .ok (.iadd, 1) := by decide +kernel
theorem dX4_play_71 : decode cX4_play 71 = .ok (.putfield 26, 3) := by decide +kernel
theorem dX4_play_74 : decode cX4_play 74 = .ok (.iload_n 2, 1) := by decide +kernel
theorem dX4_play_75 : decode cX4_play 75 = .ok (.invokestatic 95, 3) := by decide +kernel
theorem dX4_play_78 : decode cX4_play 78 = .ok (.invokestatic 105, 3) := by decide +kernel
theorem dX4_play_81 : decode cX4_play 81 = .ok (.ireturn, 1) := by decide +kernel
theorem dX4_undo_0 : decode cX4_undo 0 = .ok (.aload_n 0, 1) := by decide +kernel
theorem dX4_undo_1 : decode cX4_undo 1 = .ok (.getfield 26, 3) := by decide +kernel
theorem dX4_undo_4 : decode cX4_undo 4 = .ok (.ifCond .ne 5, 3) := by decide +kernel
theorem dX4_undo_7 : decode cX4_undo 7 = .ok (.iconst 0, 1) := by decide +kernel
theorem dX4_undo_8 : decode cX4_undo 8 = .ok (.ireturn, 1) := by decide +kernel
theorem dX4_undo_9 : decode cX4_undo 9 = .ok (.aload_n 0, 1) := by decide +kernel
theorem dX4_undo_10 : decode cX4_undo 10 = .ok (.dup, 1) := by decide +kernel
theorem dX4_undo_11 : decode cX4_undo 11 = .ok (.getfield 26, 3) := by decide +kernel
theorem dX4_undo_14 : decode cX4_undo 14 = .ok (.iconst 1, 1) := by decide +kernel
theorem dX4_undo_15 : decode cX4_undo 15 = .ok (.isub, 1) := by decide +kernel
theorem dX4_undo_16 : decode cX4_undo 16 = .ok (.putfield 26, 3) := by decide +kernel
theorem dX4_undo_19 : decode cX4_undo 19 = .ok (.iconst 1, 1) := by decide +kernel
theorem dX4_undo_20 : decode cX4_undo 20 = .ok (.ireturn, 1) := by decide +kernel
theorem dX4_played_0 : decode cX4_played 0 = .ok (.aload_n 0, 1) := by decide +kernel
theorem dX4_played_1 : decode cX4_played 1 = .ok (.getfield 26, 3) := by decide +kernel
theorem dX4_played_4 : decode cX4_played 4 = .ok (.ireturn, 1) := by decide +kernel
set_option maxRecDepth 20000 in
theorem ggX4_over_X3_canMove : GoodIn wsX4_over wsX3_canMove := goodIn_r _ [10, 11, 12, 13, 14, 15, 16, 17, 18, 19, 20, 21, 9, 22, 23, 24, 25, 26, 27, 28, 29, 30, 31, 32, 33, 34, 35, 36, 37, 38, 39, 40, 41, 42, 51, 52, 53, 54, 55, 56, 57] (by decide +kernel) (by decide +kernel)
set_option maxRecDepth 20000 in
theorem gX4_over_X3_canMove : GoodIn wsX4_over (wsV RX4 110 RX3 yX3_canMove wsX3_canMove) := goodIn_app (goodIn_of _ (by decide +kernel)) ggX4_over_X3_canMove
theorem dX4_over_0 : decode cX4_over 0 = .ok (.aload_n 0, 1) := by decide +kernel
theorem dX4_over_1 : decode cX4_over 1 = .ok (.getfield 22, 3) := by decide +kernel
theorem dX4_over_4 : decode cX4_over 4 = .ok (.aload_n 0, 1) := by decide +kernel
theorem dX4_over_5 : decode cX4_over 5 = .ok (.getfield 26, 3) := by decide +kernel
theorem dX4_over_8 : decode cX4_over 8 = .ok (.aaload, 1) := by decide +kernel
theorem dX4_over_9 : decode cX4_over 9 = .ok (.astore_n 1, 1) := by decide +kernel
theorem dX4_over_10 : decode cX4_over 10 = .ok (.aload_n 0, 1) := by decide +kernel
theorem dX4_over_11 : decode cX4_over 11 = .ok (.getfield 10, 3) := by decide +kernel
theorem dX4_over_14 : decode cX4_over 14 = .ok (.aload_n 1, 1) := by decide +kernel
theorem dX4_over_15 : decode cX4_over 15 = .ok (.invokevirtual 110, 3) := by decide +kernel
theorem dX4_over_18 : decode cX4_over 18 = .ok (.ifCond .ne 16, 3) := by decide +kernel
theorem dX4_over_21 : decode cX4_over 21 = .ok (.aload_n 1, 1) := by decide +kernel
theorem dX4_over_22 : decode cX4_over 22 = .ok (.getfield 67, 3) := by decide +kernel
theorem dX4_over_25 : decode cX4_over 25 = .ok (.ifCond .ne 7, 3) := by decide +kernel
theorem dX4_over_28 : decode cX4_over 28 = .ok (.iconst 2, 1) := by decide +kernel
theorem dX4_over_29 : decode cX4_over 29 = .ok (.goto 4, 3) := by decide +kernel
theorem dX4_over_32 : decode cX4_over 32 = .ok (.iconst 1, 1) := by decide +kernel
theorem dX4_over_33 : decode cX4_over 33 = .ok (.ireturn, 1) := by decide +kernel
theorem dX4_over_34 : decode cX4_over 34 = .ok (.aload_n 1, 1) := by decide +kernel
theorem dX4_over_35 : decode cX4_over 35 = .ok (.getfield 114, 3) := by decide +kernel
theorem dX4_over_38 : decode cX4_over 38 = .ok (.bipush 20, 2) := by decide +kernel
theorem dX4_over_40 : decode cX4_over 40 = .ok (.if_icmp .lt 7, 3) := by decide +kernel
theorem dX4_over_43 : decode cX4_over 43 = .ok (.iconst 3, 1) := by decide +kernel
theorem dX4_over_44 : decode cX4_over 44 = .ok (.goto 4, 3) := by decide +kernel
theorem dX4_over_47 : decode cX4_over 47 = .ok (.iconst 0, 1) := by decide +kernel
theorem dX4_over_48 : decode cX4_over 48 = .ok (.ireturn, 1) := by decide +kernel
theorem dX4_quiet_0 : decode cX4_quiet 0 = .ok (.aload_n 0, 1) := by decide +kernel
theorem dX4_quiet_1 : decode cX4_quiet 1 = .ok (.getfield 22, 3) := by decide +kernel
theorem dX4_quiet_4 : decode cX4_quiet 4 = .ok (.aload_n 0, 1) := by decide +kernel
theorem dX4_quiet_5 : decode cX4_quiet 5 = .ok (.getfield 26, 3) := by decide +kernel
theorem dX4_quiet_8 : decode cX4_quiet 8 = .ok (.aaload, 1) := by decide +kernel
theorem dX4_quiet_9 : decode cX4_quiet 9 = .ok (.getfield 114, 3) := by decide +kernel
theorem dX4_quiet_12 : decode cX4_quiet 12 = .ok (.ireturn, 1) := by decide +kernel
set_option maxRecDepth 20000 in
theorem ggX4_ways_X4_isDepth : GoodIn wsX4_ways wsX4_isDepth := goodIn_r _ [6] (by decide +kernel) (by decide +kernel)
set_option maxRecDepth 20000 in
theorem gX4_ways_X4_isDepth : GoodIn wsX4_ways (va_wsS RX4 117 yX4_isDepth wsX4_isDepth) := goodIn_app (goodIn_of _ (by decide +kernel)) ggX4_ways_X4_isDepth
set_option maxRecDepth 20000 in
theorem ggX4_ways_X4_countWays : GoodIn wsX4_ways wsX4_countWays := goodIn_r _ [10, 11, 12, 13, 14, 15, 16, 17, 18, 19, 20, 21, 22, 23, 24, 25, 26, 27, 28, 29, 30, 31, 32, 33, 34, 35, 36, 37, 38, 39, 40, 41, 42, 43, 44, 45, 46, 47, 48, 49, 50, 51, 52, 53, 54, 55, 56, 57, 58, 59, 60, 61, 62, 63, 64, 65, 66, 67, 68, 69, 70, 71, 72, 73, 74, 75, 76, 77, 78, 79, 80, 7, 8, 9, 5, 81, 82, 83, 84, 85, 86, 87, 88, 89, 90, 91, 92, 93, 94, 95, 96, 97] (by decide +kernel) (by decide +kernel)
set_option maxRecDepth 20000 in
theorem gX4_ways_X4_countWays : GoodIn wsX4_ways (wsV RX4 120 RX4 yX4_countWays wsX4_countWays) := goodIn_app (goodIn_of _ (by decide +kernel)) ggX4_ways_X4_countWays
theorem dX4_ways_0 : decode cX4_ways 0 = .ok (.iload_n 1, 1) := by decide +kernel
theorem dX4_ways_1 : decode cX4_ways 1 = .ok (.invokestatic 117, 3) := by decide +kernel
theorem dX4_ways_4 : decode cX4_ways 4 = .ok (.ifCond .eq 20, 3) := by decide +kernel
theorem dX4_ways_7 : decode cX4_ways 7 = .ok (.aload_n 0, 1) := by decide +kernel
theorem dX4_ways_8 : decode cX4_ways 8 = .ok (.aload_n 0, 1) := by decide +kernel
theorem dX4_ways_9 : decode cX4_ways 9 = .ok (.getfield 22, 3) := by decide +kernel
theorem dX4_ways_12 : decode cX4_ways 12 = .ok (.aload_n 0, 1) := by decide +kernel
theorem dX4_ways_13 : decode cX4_ways 13 = .ok (.getfield 26, 3) := by decide +kernel
theorem dX4_ways_16 : decode cX4_ways 16 = .ok (.aaload, 1) := by decide +kernel
theorem dX4_ways_17 : decode cX4_ways 17 = .ok (.iload_n 1, 1) := by decide +kernel
theorem dX4_ways_18 : decode cX4_ways 18 = .ok (.invokevirtual 120, 3) := by decide +kernel
theorem dX4_ways_21 : decode cX4_ways 21 = .ok (.goto 4, 3) := by decide +kernel
theorem dX4_ways_24 : decode cX4_ways 24 = .ok (.iconst (-1), 1) := by decide +kernel
theorem dX4_ways_25 : decode cX4_ways 25 = .ok (.ireturn, 1) := by decide +kernel
set_option maxRecDepth 20000 in
theorem ggX4_verdict_X2_isOneEach : GoodIn wsX4_verdict wsX2_isOneEach := goodIn_r _ [7, 8, 9, 10, 11, 12, 13, 14, 15, 16, 179, 180, 181, 182, 183] (by decide +kernel) (by decide +kernel)
set_option maxRecDepth 20000 in
theorem gX4_verdict_X2_isOneEach : GoodIn wsX4_verdict (wsV RX4 124 RX2 yX2_isOneEach wsX2_isOneEach) := goodIn_app (goodIn_of _ (by decide +kernel)) ggX4_verdict_X2_isOneEach
set_option maxRecDepth 20000 in
theorem ggX4_verdict_X4_judge : GoodIn wsX4_verdict wsX4_judge := goodIn_r _ [21, 22, 23, 24, 25, 26, 27, 28, 29, 30, 31, 32, 33, 34, 35, 36, 37, 38, 39, 40, 41, 42, 6, 43, 44, 45, 46, 47, 48, 49, 50, 51, 52, 53, 54, 55, 56, 57, 58, 8, 9, 59, 60, 61, 62, 63, 64, 65, 66, 67, 68, 69, 70, 71, 72, 73, 74, 75, 76, 77, 78, 79, 80, 81, 82, 83, 84, 85, 86, 87, 88, 89, 90, 91, 92, 93, 94, 95, 96, 97, 98, 99, 100, 101, 102, 103, 104, 105, 106, 107, 108, 109, 110, 111, 112, 113, 114, 115, 116, 117, 118, 119, 120, 121, 122, 123, 124, 125, 126, 127, 128, 129, 130, 131, 132, 133, 134, 135, 136, 137, 138, 139, 140, 141, 142, 12, 143, 144, 145, 146, 147, 148, 149, 150, 151, 152, 153, 154, 155, 156, 157, 158, 159, 160, 161, 162, 163, 164, 165, 166, 167, 168, 169, 170, 171, 172, 173, 174, 175, 176, 177, 178, 184, 185, 186, 187, 188, 179, 180, 181, 182, 183, 189, 190] (by decide +kernel) (by decide +kernel)
set_option maxRecDepth 20000 in
theorem gX4_verdict_X4_judge : GoodIn wsX4_verdict (wsV RX4 128 RX4 yX4_judge wsX4_judge) := goodIn_app (goodIn_of _ (by decide +kernel)) ggX4_verdict_X4_judge
theorem dX4_verdict_0 : decode cX4_verdict 0 = .ok (.aload_n 0, 1) := by decide +kernel
theorem dX4_verdict_1 : decode cX4_verdict 1 = .ok (.getfield 22, 3) := by decide +kernel
theorem dX4_verdict_4 : decode cX4_verdict 4 = .ok (.aload_n 0, 1) := by decide +kernel
theorem dX4_verdict_5 : decode cX4_verdict 5 = .ok (.getfield 26, 3) := by decide +kernel
theorem dX4_verdict_8 : decode cX4_verdict 8 = .ok (.aaload, 1) := by decide +kernel
theorem dX4_verdict_9 : decode cX4_verdict 9 = .ok (.astore_n 1, 1) := by decide +kernel
theorem dX4_verdict_10 : decode cX4_verdict 10 = .ok (.aload_n 1, 1) := by decide +kernel
theorem dX4_verdict_11 : decode cX4_verdict 11 = .ok (.invokevirtual 124, 3) := by decide +kernel
theorem dX4_verdict_14 : decode cX4_verdict 14 = .ok (.ifCond .eq 11, 3) := by decide +kernel
theorem dX4_verdict_17 : decode cX4_verdict 17 = .ok (.aload_n 0, 1) := by decide +kernel
theorem dX4_verdict_18 : decode cX4_verdict 18 = .ok (.aload_n 1, 1) := by decide +kernel
theorem dX4_verdict_19 : decode cX4_verdict 19 = .ok (.invokevirtual 128, 3) := by decide +kernel
theorem dX4_verdict_22 : decode cX4_verdict 22 = .ok (.goto 6, 3) := by decide +kernel
theorem dX4_verdict_25 : decode cX4_verdict 25 = .ok (.sipush (-2000), 3) := by decide +kernel
theorem dX4_verdict_28 : decode cX4_verdict 28 = .ok (.ireturn, 1) := by decide +kernel
set_option maxRecDepth 20000 in
theorem ggX4_value_X4_isDepth : GoodIn wsX4_value wsX4_isDepth := goodIn_r _ [6] (by decide +kernel) (by decide +kernel)
set_option maxRecDepth 20000 in
theorem gX4_value_X4_isDepth : GoodIn wsX4_value (va_wsS RX4 117 yX4_isDepth wsX4_isDepth) := goodIn_app (goodIn_of _ (by decide +kernel)) ggX4_value_X4_isDepth
set_option maxRecDepth 20000 in
theorem ggX4_value_X4_weigh : GoodIn wsX4_value wsX4_weigh := goodIn_r _ [10, 11, 12, 13, 14, 15, 16, 17, 18, 19, 20, 21, 22, 23, 24, 25, 26, 27, 28, 29, 30, 31, 32, 33, 34, 35, 36, 5, 37, 38, 39, 40, 41, 42, 43, 44, 45, 46, 47, 48, 49, 50, 51, 52, 53, 54, 55, 56, 57, 58, 59, 60, 61, 62, 63, 64, 65, 66, 67, 68, 69, 70, 71, 72, 73, 74, 75, 76, 77, 78, 79, 80, 81, 82, 83, 84, 85, 86, 87, 88, 89, 90, 91, 92, 93, 94, 95, 96, 97, 98, 99, 100, 101, 102, 103, 104, 105, 106, 107, 108, 109, 110, 111, 112, 113, 114, 115, 116, 117, 118, 119, 120, 121, 122, 123, 124, 125, 126, 127, 128, 129, 130, 131, 132, 133, 134, 135, 136, 137, 138, 139, 140, 141, 142, 143, 144, 145, 146, 147, 148, 149, 150, 151, 152, 153, 154, 155, 156, 157, 158, 159, 160, 161, 162, 163, 164, 165, 166, 167, 168, 169, 170, 171, 172, 173, 174, 175, 176, 177, 178, 179, 180, 181, 182, 183, 184, 185, 186, 187, 188, 189, 190, 191, 192, 193, 194, 195, 196, 197, 198, 199, 200, 201, 202, 203, 7, 8, 9, 204, 205, 206, 207, 208, 209, 210, 211, 212, 213, 214, 215, 216, 217, 218, 219, 220, 221, 222, 223] (by decide +kernel) (by decide +kernel)
set_option maxRecDepth 20000 in
theorem gX4_value_X4_weigh : GoodIn wsX4_value (wsV RX4 132 RX4 yX4_weigh wsX4_weigh) := goodIn_app (goodIn_of _ (by decide +kernel)) ggX4_value_X4_weigh
theorem dX4_value_0 : decode cX4_value 0 = .ok (.iload_n 1, 1) := by decide +kernel
theorem dX4_value_1 : decode cX4_value 1 = .ok (.invokestatic 117, 3) := by decide +kernel
theorem dX4_value_4 : decode cX4_value 4 = .ok (.ifCond .eq 26, 3) := by decide +kernel
theorem dX4_value_7 : decode cX4_value 7 = .ok (.aload_n 0, 1) := by decide +kernel
theorem dX4_value_8 : decode cX4_value 8 = .ok (.aload_n 0, 1) := by decide +kernel
theorem dX4_value_9 : decode cX4_value 9 = .ok (.getfield 22, 3) := by decide +kernel
theorem dX4_value_12 : decode cX4_value 12 = .ok (.aload_n 0, 1) := by decide +kernel
theorem dX4_value_13 : decode cX4_value 13 = .ok (.getfield 26, 3) := by decide +kernel
theorem dX4_value_16 : decode cX4_value 16 = .ok (.aaload, 1) := by decide +kernel
theorem dX4_value_17 : decode cX4_value 17 = .ok (.iload_n 1, 1) := by decide +kernel
theorem dX4_value_18 : decode cX4_value 18 = .ok (.sipush (-2000), 3) := by decide +kernel
theorem dX4_value_21 : decode cX4_value 21 = .ok (.sipush 2000, 3) := by decide +kernel
theorem dX4_value_24 : decode cX4_value 24 = .ok (.invokevirtual 132, 3) := by decide +kernel
theorem dX4_value_27 : decode cX4_value 27 = .ok (.goto 6, 3) := by decide +kernel
theorem dX4_value_30 : decode cX4_value 30 = .ok (.sipush (-2000), 3) := by decide +kernel
theorem dX4_value_33 : decode cX4_value 33 = .ok (.ireturn, 1) := by decide +kernel
set_option maxRecDepth 20000 in
theorem ggX4_best_X4_isDepth : GoodIn wsX4_best wsX4_isDepth := goodIn_r _ [9] (by decide +kernel) (by decide +kernel)
set_option maxRecDepth 20000 in
theorem gX4_best_X4_isDepth : GoodIn wsX4_best (va_wsS RX4 117 yX4_isDepth wsX4_isDepth) := goodIn_app (goodIn_of _ (by decide +kernel)) ggX4_best_X4_isDepth
set_option maxRecDepth 20000 in
theorem ggX4_best_X4_moves : GoodIn wsX4_best wsX4_moves := goodIn_r _ [13, 14, 2, 3, 4, 15, 16, 17, 18, 19, 20, 21, 22, 23, 24, 25, 26, 27, 28, 29, 30, 31, 32, 33, 34, 35, 36, 37, 38, 39, 40, 41, 42, 43, 44, 45, 46, 47, 48, 49, 50, 51, 52, 53, 54, 55, 56, 57, 58, 59, 60, 61, 62, 63, 64, 210, 211, 212, 213, 214, 215, 216, 217, 218, 219, 220, 221, 222, 223, 224, 225, 226] (by decide +kernel) (by decide +kernel)
set_option maxRecDepth 20000 in
theorem gX4_best_X4_moves : GoodIn wsX4_best (wsV RX4 81 RX4 yX4_moves wsX4_moves) := goodIn_app (goodIn_of _ (by decide +kernel)) ggX4_best_X4_moves
set_option maxRecDepth 20000 in
theorem ggX4_best_X2_follow : GoodIn wsX4_best wsX2_follow := goodIn_r _ [68, 27, 50, 69, 28, 29, 70, 71, 72, 57, 73, 74, 75, 76, 77, 78, 79, 80, 220, 221, 222, 223, 224] (by decide +kernel) (by decide +kernel)
set_option maxRecDepth 20000 in
theorem gX4_best_X2_follow : GoodIn wsX4_best (wsV RX4 101 RX2 yX2_follow wsX2_follow) := goodIn_app (goodIn_of _ (by decide +kernel)) ggX4_best_X2_follow
set_option maxRecDepth 20000 in
theorem ggX4_best_X4_weigh : GoodIn wsX4_best wsX4_weigh := goodIn_r _ [84, 14, 85, 15, 86, 5, 87, 88, 89, 90, 91, 92, 93, 25, 94, 28, 29, 95, 96, 97, 98, 99, 100, 101, 102, 103, 104, 8, 105, 106, 107, 108, 109, 110, 111, 112, 113, 114, 115, 116, 117, 118, 119, 120, 121, 122, 57, 123, 124, 125, 126, 127, 128, 60, 129, 130, 131, 132, 133, 134, 135, 136, 137, 138, 139, 50, 27, 70, 140, 141, 142, 143, 144, 17, 18, 19, 20, 21, 22, 23, 24, 26, 30, 31, 32, 33, 34, 35, 36, 37, 38, 39, 40, 41, 42, 43, 44, 45, 46, 47, 48, 49, 51, 52, 53, 54, 55, 56, 58, 59, 61, 62, 63, 64, 145, 146, 147, 148, 149, 150, 151, 152, 153, 154, 66, 67, 68, 69, 71, 72, 73, 74, 75, 76, 77, 78, 79, 80, 155, 156, 157, 158, 159, 160, 161, 162, 163, 164, 165, 166, 167, 168, 169, 170, 171, 172, 173, 174, 175, 176, 177, 178, 179, 180, 181, 182, 183, 184, 185, 186, 187, 188, 189, 190, 191, 192, 193, 194, 195, 196, 197, 198, 199, 200, 201, 202, 203, 204, 205, 206, 207, 208, 209, 16, 65, 81, 82, 83, 210, 211, 212, 213, 214, 215, 216, 217, 218, 219, 220, 221, 222, 223, 224, 227, 228, 229, 225, 226] (by decide +kernel) (by decide +kernel)
set_option maxRecDepth 20000 in
theorem gX4_best_X4_weigh : GoodIn wsX4_best (wsV RX4 132 RX4 yX4_weigh wsX4_weigh) := goodIn_app (goodIn_of _ (by decide +kernel)) ggX4_best_X4_weigh
theorem dX4_best_0 : decode cX4_best 0 = .ok (.iload_n 1, 1) := by decide +kernel
theorem dX4_best_1 : decode cX4_best 1 = .ok (.iconst 1, 1) := by decide +kernel
theorem dX4_best_2 : decode cX4_best 2 = .ok (.if_icmp .lt 10, 3) := by decide +kernel
theorem dX4_best_5 : decode cX4_best 5 = .ok (.iload_n 1, 1) := by decide +kernel
theorem dX4_best_6 : decode cX4_best 6 = .ok (.invokestatic 117, 3) := by decide +kernel
theorem dX4_best_9 : decode cX4_best 9 = .ok (.ifCond .ne 5, 3) := by decide +kernel
theorem dX4_best_12 : decode cX4_best 12 = .ok (.iconst (-1), 1) := by decide +kernel
theorem dX4_best_13 : decode cX4_best 13 = .ok (.ireturn, 1) := by decide +kernel
theorem dX4_best_14 : decode cX4_best 14 = .ok (.aload_n 0, 1) := by decide +kernel
theorem dX4_best_15 : decode cX4_best 15 = .ok (.invokevirtual 81, 3) := by decide +kernel
theorem dX4_best_18 : decode cX4_best 18 = .ok (.istore_n 2, 1) := by decide +kernel
theorem dX4_best_19 : decode cX4_best 19 = .ok (.iconst (-1), 1) := by decide +kernel
theorem dX4_best_20 : decode cX4_best 20 = .ok (.istore_n 3, 1) := by decide +kernel
theorem dX4_best_21 : decode cX4_best 21 = .ok (.sipush 2000, 3) := by decide +kernel
theorem dX4_best_24 : decode cX4_best 24 = .ok (.istore 4, 2) := by decide +kernel
theorem dX4_best_26 : decode cX4_best 26 = .ok (.iconst 0, 1) := by decide +kernel
theorem dX4_best_27 : decode cX4_best 27 = .ok (.istore 5, 2) := by decide +kernel
theorem dX4_best_29 : decode cX4_best 29 = .ok (.iload 5, 2) := by decide +kernel
theorem dX4_best_31 : decode cX4_best 31 = .ok (.iload_n 2, 1) := by decide +kernel
theorem dX4_best_32 : decode cX4_best 32 = .ok (.if_icmp .ge 67, 3) := by decide +kernel
theorem dX4_best_35 : decode cX4_best 35 = .ok (.aload_n 0, 1) := by decide +kernel
theorem dX4_best_36 : decode cX4_best 36 = .ok (.getfield 38, 3) := by decide +kernel
theorem dX4_best_39 : decode cX4_best 39 = .ok (.aload_n 0, 1) := by decide +kernel
theorem dX4_best_40 : decode cX4_best 40 = .ok (.getfield 22, 3) := by decide +kernel
theorem dX4_best_43 : decode cX4_best 43 = .ok (.aload_n 0, 1) := by decide +kernel
theorem dX4_best_44 : decode cX4_best 44 = .ok (.getfield 26, 3) := by decide +kernel
theorem dX4_best_47 : decode cX4_best 47 = .ok (.aaload, 1) := by decide +kernel
theorem dX4_best_48 : decode cX4_best 48 = .ok (.aload_n 0, 1) := by decide +kernel
theorem dX4_best_49 : decode cX4_best 49 = .ok (.getfield 33, 3) := by decide +kernel
theorem dX4_best_52 : decode cX4_best 52 = .ok (.getfield 85, 3) := by decide +kernel
theorem dX4_best_55 : decode cX4_best 55 = .ok (.iload 5, 2) := by decide +kernel
theorem dX4_best_57 : decode cX4_best 57 = .ok (.iaload, 1) := by decide +kernel
theorem dX4_best_58 : decode cX4_best 58 = .ok (.invokevirtual 101, 3) := by decide +kernel
theorem dX4_best_61 : decode cX4_best 61 = .ok (.aload_n 0, 1) := by decide +kernel
theorem dX4_best_62 : decode cX4_best 62 = .ok (.aload_n 0, 1) := by decide +kernel
theorem dX4_best_63 : decode cX4_best 63 = .ok (.getfield 38, 3) := by decide +kernel
theorem dX4_best_66 : decode cX4_best 66 = .ok (.iload_n 1, 1) := by decide +kernel
theorem dX4_best_67 : decode cX4_best 67 = .ok (.iconst 1, 1) := by decide +kernel
theorem dX4_best_68 : decode cX4_best 68 = .ok (.isub, 1) := by decide +kernel
theorem dX4_best_69 : decode cX4_best 69 = .ok (.sipush (-2000), 3) := by decide +kernel
theorem dX4_best_72 : decode cX4_best 72 = .ok (.iload 4, 2) := by decide +kernel
theorem dX4_best_74 : decode cX4_best 74 = .ok (.invokevirtual 132, 3) := by decide +kernel
theorem dX4_best_77 : decode cX4_best 77 = .ok (.istore 6, 2) := by decide +kernel
theorem dX4_best_79 : decode cX4_best 79 = .ok (.iload 6, 2) := by decide +kernel
theorem dX4_best_81 : decode cX4_best 81 = .ok (.iload 4, 2) := by decide +kernel
theorem dX4_best_83 : decode cX4_best 83 = .ok (.if_icmp .ge 10, 3) := by decide +kernel
theorem dX4_best_86 : decode cX4_best 86 = .ok (.iload 6, 2) := by decide +kernel
theorem dX4_best_88 : decode cX4_best 88 = .ok (.istore 4, 2) := by decide +kernel
theorem dX4_best_90 : decode cX4_best 90 = .ok (.iload 5, 2) := by decide +kernel
theorem dX4_best_92 : decode cX4_best 92 = .ok (.istore_n 3, 1) := by decide +kernel
theorem dX4_best_93 : decode cX4_best 93 = .ok (.iinc 5 1, 3) := by decide +kernel
theorem dX4_best_96 : decode cX4_best 96 = .ok (.goto (-67), 3) := by decide +kernel
theorem dX4_best_99 : decode cX4_best 99 = .ok (.iload_n 3, 1) := by decide +kernel
theorem dX4_best_100 : decode cX4_best 100 = .ok (.ireturn, 1) := by decide +kernel
set_option maxRecDepth 20000 in
theorem ggX4_forgetGame_X2_copy : GoodIn wsX4_forgetGame wsX2_copy := goodIn_r _ [8, 9, 10, 11, 12, 13, 22, 23, 24, 25, 26] (by decide +kernel) (by decide +kernel)
set_option maxRecDepth 20000 in
theorem gX4_forgetGame_X2_copy : GoodIn wsX4_forgetGame (wsV RX4 136 RX2 yX2_copy wsX2_copy) := goodIn_app (goodIn_of _ (by decide +kernel)) ggX4_forgetGame_X2_copy
theorem dX4_forgetGame_0 : decode cX4_forgetGame 0 = .ok (.aload_n 0, 1) := by decide +kernel
theorem dX4_forgetGame_1 : decode cX4_forgetGame 1 = .ok (.getfield 22, 3) := by decide +kernel
theorem dX4_forgetGame_4 : decode cX4_forgetGame 4 = .ok (.iconst 0, 1) := by decide +kernel
theorem dX4_forgetGame_5 : decode cX4_forgetGame 5 = .ok (.aaload, 1) := by decide +kernel
theorem dX4_forgetGame_6 : decode cX4_forgetGame 6 = .ok (.aload_n 0, 1) := by decide +kernel
theorem dX4_forgetGame_7 : decode cX4_forgetGame 7 = .ok (.getfield 22, 3) := by decide +kernel
theorem dX4_forgetGame_10 : decode cX4_forgetGame 10 = .ok (.aload_n 0, 1) := by decide +kernel
theorem dX4_forgetGame_11 : decode cX4_forgetGame 11 = .ok (.getfield 26, 3) := by decide +kernel
theorem dX4_forgetGame_14 : decode cX4_forgetGame 14 = .ok (.aaload, 1) := by decide +kernel
theorem dX4_forgetGame_15 : decode cX4_forgetGame 15 = .ok (.invokevirtual 136, 3) := by decide +kernel
theorem dX4_forgetGame_18 : decode cX4_forgetGame 18 = .ok (.aload_n 0, 1) := by decide +kernel
theorem dX4_forgetGame_19 : decode cX4_forgetGame 19 = .ok (.getfield 22, 3) := by decide +kernel
theorem dX4_forgetGame_22 : decode cX4_forgetGame 22 = .ok (.iconst 0, 1) := by decide +kernel
theorem dX4_forgetGame_23 : decode cX4_forgetGame 23 = .ok (.aaload, 1) := by decide +kernel
theorem dX4_forgetGame_24 : decode cX4_forgetGame 24 = .ok (.iconst 0, 1) := by decide +kernel
theorem dX4_forgetGame_25 : decode cX4_forgetGame 25 = .ok (.putfield 114, 3) := by decide +kernel
theorem dX4_forgetGame_28 : decode cX4_forgetGame 28 = .ok (.aload_n 0, 1) := by decide +kernel
theorem dX4_forgetGame_29 : decode cX4_forgetGame 29 = .ok (.iconst 0, 1) := by decide +kernel
theorem dX4_forgetGame_30 : decode cX4_forgetGame 30 = .ok (.putfield 26, 3) := by decide +kernel
theorem dX4_forgetGame_33 : decode cX4_forgetGame 33 = .ok (.return_, 1) := by decide +kernel
set_option maxRecDepth 20000 in
theorem ggX4_countWays_X3_listMoves : GoodIn wsX4_countWays wsX3_listMoves := goodIn_r _ [10, 11, 12, 13, 14, 15, 16, 17, 18, 19, 20, 21, 22, 9, 23, 24, 25, 26, 27, 28, 29, 30, 31, 32, 33, 34, 35, 36, 37, 38, 39, 40, 41, 42, 43, 44, 45, 46, 47, 48, 49, 50, 51, 52, 53, 54, 83, 84, 85, 86, 87, 88, 89, 90, 91] (by decide +kernel) (by decide +kernel)
set_option maxRecDepth 20000 in
theorem gX4_countWays_X3_listMoves : GoodIn wsX4_countWays (wsV RX4 74 RX3 yX3_listMoves wsX3_listMoves) := goodIn_app (goodIn_of _ (by decide +kernel)) ggX4_countWays_X3_listMoves
set_option maxRecDepth 20000 in
theorem ggX4_countWays_X2_follow : GoodIn wsX4_countWays wsX2_follow := goodIn_r _ [58, 17, 40, 59, 18, 19, 60, 61, 62, 47, 63, 64, 65, 66, 67, 68, 69, 70, 85, 86, 87, 88, 89] (by decide +kernel) (by decide +kernel)
set_option maxRecDepth 20000 in
theorem gX4_countWays_X2_follow : GoodIn wsX4_countWays (wsV RX4 101 RX2 yX2_follow wsX2_follow) := goodIn_app (goodIn_of _ (by decide +kernel)) ggX4_countWays_X2_follow
set_option maxRecDepth 20000 in
theorem ggX4_countWays_X4_countWays : GoodIn wsX4_countWays wsX4_countWays := goodIn_r _ [0, 1, 2, 3, 4, 5, 6, 7, 8, 9, 10, 11, 12, 13, 14, 15, 16, 17, 18, 19, 20, 21, 22, 23, 24, 25, 26, 27, 28, 29, 30, 31, 32, 33, 34, 35, 36, 37, 38, 39, 40, 41, 42, 43, 44, 45, 46, 47, 48, 49, 50, 51, 52, 53, 54, 55, 56, 57, 58, 59, 60, 61, 62, 63, 64, 65, 66, 67, 68, 69, 70, 71, 72, 73, 74, 75, 76, 77, 78, 79, 80, 81, 82, 83, 84, 85, 86, 87, 88, 89, 90, 91] (by decide +kernel) (by decide +kernel)
set_option maxRecDepth 20000 in
theorem gX4_countWays_X4_countWays : GoodIn wsX4_countWays (wsV RX4 120 RX4 yX4_countWays wsX4_countWays) := goodIn_app (goodIn_of _ (by decide +kernel)) ggX4_countWays_X4_countWays
theorem dX4_countWays_0 : decode cX4_countWays 0 = .ok (.iload_n 2, 1) := by decide +kernel
theorem dX4_countWays_1 : decode cX4_countWays 1 = .ok (.ifCond .gt 5, 3) := by decide +kernel
theorem dX4_countWays_4 : decode cX4_countWays 4 = .ok (.iconst 1, 1) := by decide +kernel
theorem dX4_countWays_5 : decode cX4_countWays 5 = .ok (.ireturn, 1) := by decide +kernel
theorem dX4_countWays_6 : decode cX4_countWays 6 = .ok (.aload_n 0, 1) := by decide +kernel
theorem dX4_countWays_7 : decode cX4_countWays 7 = .ok (.getfield 42, 3) := by decide +kernel
theorem dX4_countWays_10 : decode cX4_countWays 10 = .ok (.iload_n 2, 1) := by decide +kernel
theorem dX4_countWays_11 : decode cX4_countWays 11 = .ok (.aaload, 1) := by decide +kernel
theorem dX4_countWays_12 : decode cX4_countWays 12 = .ok (.astore_n 3, 1) := by decide +kernel
theorem dX4_countWays_13 : decode cX4_countWays 13 = .ok (.aload_n 0, 1) := by decide +kernel
theorem dX4_countWays_14 : decode cX4_countWays 14 = .ok (.getfield 10, 3) := by decide +kernel
theorem dX4_countWays_17 : decode cX4_countWays 17 = .ok (.aload_n 1, 1) := by decide +kernel
theorem dX4_countWays_18 : decode cX4_countWays 18 = .ok (.aload_n 3, 1) := by decide +kernel
theorem dX4_countWays_19 : decode cX4_countWays 19 = .ok (.invokevirtual 74, 3) := by decide +kernel
theorem dX4_countWays_22 : decode cX4_countWays 22 = .ok (.iload_n 2, 1) := by decide +kernel
theorem dX4_countWays_23 : decode cX4_countWays 23 = .ok (.iconst 1, 1) := by decide +kernel
theorem dX4_countWays_24 : decode cX4_countWays 24 = .ok (.if_icmp .ne 8, 3) := by decide +kernel
theorem dX4_countWays_27 : decode cX4_countWays 27 = .ok (.aload_n 3, 1) := by decide +kernel
theorem dX4_countWays_28 : decode cX4_countWays 28 = .ok (.getfield 78, 3) := by decide +kernel
theorem dX4_countWays_31 : decode cX4_countWays 31 = .ok (.ireturn, 1) := by decide +kernel
theorem dX4_countWays_32 : decode cX4_countWays 32 = .ok (.aload_n 0, 1) := by decide +kernel
theorem dX4_countWays_33 : decode cX4_countWays 33 = .ok (.getfield 46, 3) := by decide +kernel
theorem dX4_countWays_36 : decode cX4_countWays 36 = .ok (.iload_n 2, 1) := by decide +kernel
theorem dX4_countWays_37 : decode cX4_countWays 37 = .ok (.iconst 1, 1) := by decide +kernel
theorem dX4_countWays_38 : decode cX4_countWays 38 = .ok (.isub, 1) := by decide +kernel
theorem dX4_countWays_39 : decode cX4_countWays 39 = .ok (.aaload, 1) := by decide +kernel
theorem dX4_countWays_40 : decode cX4_countWays 40 = .ok (.astore 4, 2) := by decide +kernel
theorem dX4_countWays_42 : decode cX4_countWays 42 = .ok (.iconst 0, 1) := by decide +kernel
theorem dX4_countWays_43 : decode cX4_countWays 43 = .ok (.istore 5, 2) := by decide +kernel
theorem dX4_countWays_45 : decode cX4_countWays 45 = .ok (.iconst 0, 1) := by decide +kernel
theorem dX4_countWays_46 : decode cX4_countWays 46 = .ok (.istore 6, 2) := by decide +kernel
theorem dX4_countWays_48 : decode cX4_countWays 48 = .ok (.iload 6, 2) := by decide +kernel
theorem dX4_countWays_50 : decode cX4_countWays 50 = .ok (.aload_n 3, 1) := by decide +kernel
theorem dX4_countWays_51 : decode cX4_countWays 51 = .ok (.getfield 78, 3) := by decide +kernel
theorem dX4_countWays_54 : decode cX4_countWays 54 = .ok (.if_icmp .ge 36, 3) := by decide +kernel
theorem dX4_countWays_57 : decode cX4_countWays 57 = .ok (.aload 4, 2) := by decide +kernel
theorem dX4_countWays_59 : decode cX4_countWays 59 = .ok (.aload_n 1, 1) := by decide +kernel
theorem dX4_countWays_60 : decode cX4_countWays 60 = .ok (.aload_n 3, 1) := by decide +kernel
theorem dX4_countWays_61 : decode cX4_countWays 61 = .ok (.getfield 85, 3) := by decide +kernel
theorem dX4_countWays_64 : decode cX4_countWays 64 = .ok (.iload 6, 2) := by decide +kernel
theorem dX4_countWays_66 : decode cX4_countWays 66 = .ok (.iaload, 1) := by decide +kernel
theorem dX4_countWays_67 : decode cX4_countWays 67 = .ok (.invokevirtual 101, 3) := by decide +kernel
theorem dX4_countWays_70 : decode cX4_countWays 70 = .ok (.iload 5, 2) := by decide +kernel
theorem dX4_countWays_72 : decode cX4_countWays 72 = .ok (.aload_n 0, 1) := by decide +kernel
theorem dX4_countWays_73 : decode cX4_countWays 73 = .ok (.aload 4, 2) := by decide +kernel
theorem dX4_countWays_75 : decode cX4_countWays 75 = .ok (.iload_n 2, 1) := by decide +kernel
theorem dX4_countWays_76 : decode cX4_countWays 76 = .ok (.iconst 1, 1) := by decide +kernel
theorem dX4_countWays_77 : decode cX4_countWays 77 = .ok (.isub, 1) := by decide +kernel
theorem dX4_countWays_78 : decode cX4_countWays 78 = .ok (.invokevirtual 120, 3) := by decide +kernel
theorem dX4_countWays_81 : decode cX4_countWays 81 = .ok (.iadd, 1) := by decide +kernel
theorem dX4_countWays_82 : decode cX4_countWays 82 = .ok (.istore 5, 2) := by decide +kernel
theorem dX4_countWays_84 : decode cX4_countWays 84 = .ok (.iinc 6 1, 3) := by decide +kernel
theorem dX4_countWays_87 : decode cX4_countWays 87 = .ok (.goto (-39), 3) := by decide +kernel
theorem dX4_countWays_90 : decode cX4_countWays 90 = .ok (.iload 5, 2) := by decide +kernel
theorem dX4_countWays_92 : decode cX4_countWays 92 = .ok (.ireturn, 1) := by decide +kernel
set_option maxRecDepth 20000 in
theorem ggX4_weigh_X2_isOneEach : GoodIn wsX4_weigh wsX2_isOneEach := goodIn_r _ [14, 15, 16, 17, 18, 19, 20, 21, 22, 23, 208, 209, 210, 211, 212] (by decide +kernel) (by decide +kernel)
set_option maxRecDepth 20000 in
theorem gX4_weigh_X2_isOneEach : GoodIn wsX4_weigh (wsV RX4 124 RX2 yX2_isOneEach wsX2_isOneEach) := goodIn_app (goodIn_of _ (by decide +kernel)) ggX4_weigh_X2_isOneEach
set_option maxRecDepth 20000 in
theorem ggX4_weigh_X4_judge : GoodIn wsX4_weigh wsX4_judge := goodIn_r _ [28, 29, 30, 31, 32, 1, 33, 34, 35, 36, 37, 38, 39, 40, 41, 42, 43, 44, 45, 46, 47, 48, 13, 49, 50, 51, 52, 53, 54, 55, 56, 57, 58, 59, 60, 61, 62, 63, 64, 15, 16, 65, 66, 67, 68, 69, 70, 71, 72, 73, 74, 75, 76, 77, 78, 79, 80, 81, 82, 83, 84, 85, 86, 87, 88, 89, 90, 91, 92, 93, 94, 95, 96, 97, 98, 99, 100, 101, 102, 103, 104, 105, 106, 107, 108, 109, 110, 111, 112, 113, 114, 115, 116, 117, 118, 119, 120, 8, 121, 122, 123, 124, 125, 126, 127, 128, 129, 130, 131, 132, 133, 134, 135, 136, 137, 138, 139, 140, 141, 142, 143, 144, 145, 146, 147, 19, 148, 149, 150, 151, 152, 153, 154, 155, 156, 157, 158, 159, 160, 161, 162, 163, 164, 165, 166, 167, 168, 169, 170, 171, 172, 173, 174, 175, 198, 199, 200, 201, 202, 203, 204, 205, 213, 214, 215, 206, 207, 208, 209, 210, 211, 212, 216, 217] (by decide +kernel) (by decide +kernel)
set_option maxRecDepth 20000 in
theorem gX4_weigh_X4_judge : GoodIn wsX4_weigh (wsV RX4 128 RX4 yX4_judge wsX4_judge) := goodIn_app (goodIn_of _ (by decide +kernel)) ggX4_weigh_X4_judge
set_option maxRecDepth 20000 in
theorem ggX4_weigh_X4_weighVerdict : GoodIn wsX4_weigh wsX4_weighVerdict := goodIn_r _ [178] (by decide +kernel) (by decide +kernel)
set_option maxRecDepth 20000 in
theorem gX4_weigh_X4_weighVerdict : GoodIn wsX4_weigh (va_wsS RX4 140 yX4_weighVerdict wsX4_weighVerdict) := goodIn_app (goodIn_of _ (by decide +kernel)) ggX4_weigh_X4_weighVerdict
set_option maxRecDepth 20000 in
theorem ggX4_weigh_X3_canMove : GoodIn wsX4_weigh wsX3_canMove := goodIn_r _ [182, 78, 79, 80, 13, 81, 66, 15, 16, 183, 184, 185, 75, 186, 86, 87, 88, 89, 90, 91, 92, 93, 94, 95, 96, 97, 98, 99, 100, 101, 65, 102, 103, 104, 208, 209, 210, 211, 212, 216, 217] (by decide +kernel) (by decide +kernel)
set_option maxRecDepth 20000 in
theorem gX4_weigh_X3_canMove : GoodIn wsX4_weigh (wsV RX4 110 RX3 yX3_canMove wsX3_canMove) := goodIn_app (goodIn_of _ (by decide +kernel)) ggX4_weigh_X3_canMove
set_option maxRecDepth 20000 in
theorem ggX4_weigh_X2_balance : GoodIn wsX4_weigh wsX2_balance := goodIn_r _ [190, 65, 191, 79, 80, 13, 81, 66, 15, 16, 17, 18, 19, 20, 21, 22, 23, 192, 91, 92, 93, 208, 209, 210, 211, 212] (by decide +kernel) (by decide +kernel)
set_option maxRecDepth 20000 in
theorem gX4_weigh_X2_balance : GoodIn wsX4_weigh (wsV RX4 143 RX2 yX2_balance wsX2_balance) := goodIn_app (goodIn_of _ (by decide +kernel)) ggX4_weigh_X2_balance
set_option maxRecDepth 20000 in
theorem ggX4_weigh_X3_listMoves : GoodIn wsX4_weigh wsX3_listMoves := goodIn_r _ [76, 77, 78, 79, 80, 13, 81, 66, 15, 16, 82, 83, 84, 75, 85, 86, 87, 88, 89, 90, 91, 92, 93, 94, 95, 96, 97, 98, 99, 100, 101, 65, 102, 103, 104, 105, 106, 107, 46, 108, 109, 53, 110, 111, 112, 113, 206, 207, 208, 209, 210, 211, 212, 216, 217] (by decide +kernel) (by decide +kernel)
set_option maxRecDepth 20000 in
theorem gX4_weigh_X3_listMoves : GoodIn wsX4_weigh (wsV RX4 74 RX3 yX3_listMoves wsX3_listMoves) := goodIn_app (goodIn_of _ (by decide +kernel)) ggX4_weigh_X3_listMoves
set_option maxRecDepth 20000 in
theorem ggX4_weigh_X2_follow : GoodIn wsX4_weigh wsX2_follow := goodIn_r _ [126, 66, 65, 127, 15, 16, 67, 128, 129, 46, 130, 131, 132, 133, 134, 135, 136, 137, 208, 209, 210, 211, 212] (by decide +kernel) (by decide +kernel)
set_option maxRecDepth 20000 in
theorem gX4_weigh_X2_follow : GoodIn wsX4_weigh (wsV RX4 101 RX2 yX2_follow wsX2_follow) := goodIn_app (goodIn_of _ (by decide +kernel)) ggX4_weigh_X2_follow
set_option maxRecDepth 20000 in
theorem ggX4_weigh_X4_weigh : GoodIn wsX4_weigh wsX4_weigh := goodIn_r _ [0, 1, 2, 3, 4, 5, 6, 7, 8, 9, 10, 11, 12, 13, 14, 15, 16, 17, 18, 19, 20, 21, 22, 23, 24, 25, 26, 27, 28, 29, 30, 31, 32, 33, 34, 35, 36, 37, 38, 39, 40, 41, 42, 43, 44, 45, 46, 47, 48, 49, 50, 51, 52, 53, 54, 55, 56, 57, 58, 59, 60, 61, 62, 63, 64, 65, 66, 67, 68, 69, 70, 71, 72, 73, 74, 75, 76, 77, 78, 79, 80, 81, 82, 83, 84, 85, 86, 87, 88, 89, 90, 91, 92, 93, 94, 95, 96, 97, 98, 99, 100, 101, 102, 103, 104, 105, 106, 107, 108, 109, 110, 111, 112, 113, 114, 115, 116, 117, 118, 119, 120, 121, 122, 123, 124, 125, 126, 127, 128, 129, 130, 131, 132, 133, 134, 135, 136, 137, 138, 139, 140, 141, 142, 143, 144, 145, 146, 147, 148, 149, 150, 151, 152, 153, 154, 155, 156, 157, 158, 159, 160, 161, 162, 163, 164, 165, 166, 167, 168, 169, 170, 171, 172, 173, 174, 175, 176, 177, 178, 179, 180, 181, 182, 183, 184, 185, 186, 187, 188, 189, 190, 191, 192, 193, 194, 195, 196, 197, 198, 199, 200, 201, 202, 203, 204, 205, 206, 207, 208, 209, 210, 211, 212, 213, 214, 215, 216, 217] (by decide +kernel) (by decide +kernel)
set_option maxRecDepth 20000 in
theorem gX4_weigh_X4_weigh : GoodIn wsX4_weigh (wsV RX4 132 RX4 yX4_weigh wsX4_weigh) := goodIn_app (goodIn_of _ (by decide +kernel)) ggX4_weigh_X4_weigh
theorem dX4_weigh_0 : decode cX4_weigh 0 = .ok (.aload_n 1, 1) := by decide +kernel
theorem dX4_weigh_1 : decode cX4_weigh 1 = .ok (.invokevirtual 124, 3) := by decide +kernel
theorem dX4_weigh_4 : decode cX4_weigh 4 = .ok (.ifCond .eq 12, 3) := by decide +kernel
theorem dX4_weigh_7 : decode cX4_weigh 7 = .ok (.aload_n 0, 1) := by decide +kernel
theorem dX4_weigh_8 : decode cX4_weigh 8 = .ok (.aload_n 1, 1) := by decide +kernel
theorem dX4_weigh_9 : decode cX4_weigh 9 = .ok (.invokevirtual 128, 3) := by decide +kernel
theorem dX4_weigh_12 : decode cX4_weigh 12 = .ok (.invokestatic 140, 3) := by decide +kernel
theorem dX4_weigh_15 : decode cX4_weigh 15 = .ok (.ireturn, 1) := by decide +kernel
theorem dX4_weigh_16 : decode cX4_weigh 16 = .ok (.iload_n 2, 1) := by decide +kernel
theorem dX4_weigh_17 : decode cX4_weigh 17 = .ok (.ifCond .gt 25, 3) := by decide +kernel
theorem dX4_weigh_20 : decode cX4_weigh 20 = .ok (.aload_n 0, 1) := by decide +kernel
theorem dX4_weigh_21 : decode cX4_weigh 21 = .ok (.getfield 10, 3) := by decide +kernel
theorem dX4_weigh_24 : decode cX4_weigh 24 = .ok (.aload_n 1, 1) := by decide +kernel
theorem dX4_weigh_25 : decode cX4_weigh 25 = .ok (.invokevirtual 110, 3) := by decide +kernel
theorem dX4_weigh_28 : decode cX4_weigh 28 = .ok (.ifCond .eq 10, 3) := by decide +kernel
theorem dX4_weigh_31 : decode cX4_weigh 31 = .ok (.aload_n 1, 1) := by decide +kernel
theorem dX4_weigh_32 : decode cX4_weigh 32 = .ok (.invokevirtual 143, 3) := by decide +kernel
theorem dX4_weigh_35 : decode cX4_weigh 35 = .ok (.goto 6, 3) := by decide +kernel
theorem dX4_weigh_38 : decode cX4_weigh 38 = .ok (.sipush (-1000), 3) := by decide +kernel
theorem dX4_weigh_41 : decode cX4_weigh 41 = .ok (.ireturn, 1) := by decide +kernel
theorem dX4_weigh_42 : decode cX4_weigh 42 = .ok (.aload_n 0, 1) := by decide +kernel
theorem dX4_weigh_43 : decode cX4_weigh 43 = .ok (.getfield 42, 3) := by decide +kernel
theorem dX4_weigh_46 : decode cX4_weigh 46 = .ok (.iload_n 2, 1) := by decide +kernel
theorem dX4_weigh_47 : decode cX4_weigh 47 = .ok (.aaload, 1) := by decide +kernel
theorem dX4_weigh_48 : decode cX4_weigh 48 = .ok (.astore 5, 2) := by decide +kernel
theorem dX4_weigh_50 : decode cX4_weigh 50 = .ok (.aload_n 0, 1) := by decide +kernel
theorem dX4_weigh_51 : decode cX4_weigh 51 = .ok (.getfield 10, 3) := by decide +kernel
theorem dX4_weigh_54 : decode cX4_weigh 54 = .ok (.aload_n 1, 1) := by decide +kernel
theorem dX4_weigh_55 : decode cX4_weigh 55 = .ok (.aload 5, 2) := by decide +kernel
theorem dX4_weigh_57 : decode cX4_weigh 57 = .ok (.invokevirtual 74, 3) := by decide +kernel
theorem dX4_weigh_60 : decode cX4_weigh 60 = .ok (.aload 5, 2) := by decide +kernel
theorem dX4_weigh_62 : decode cX4_weigh 62 = .ok (.getfield 78, 3) := by decide +kernel
theorem dX4_weigh_65 : decode cX4_weigh 65 = .ok (.ifCond .ne 7, 3) := by decide +kernel
theorem dX4_weigh_68 : decode cX4_weigh 68 = .ok (.sipush (-1000), 3) := by decide +kernel
theorem dX4_weigh_71 : decode cX4_weigh 71 = .ok (.ireturn, 1) := by decide +kernel
theorem dX4_weigh_72 : decode cX4_weigh 72 = .ok (.aload_n 0, 1) := by decide +kernel
theorem dX4_weigh_73 : decode cX4_weigh 73 = .ok (.getfield 46, 3) := by decide +kernel
theorem dX4_weigh_76 : decode cX4_weigh 76 = .ok (.iload_n 2, 1) := by decide +kernel
theorem dX4_weigh_77 : decode cX4_weigh 77 = .ok (.iconst 1, 1) := by decide +kernel
theorem dX4_weigh_78 : decode cX4_weigh 78 = .ok (.isub, 1) := by decide +kernel
theorem dX4_weigh_79 : decode cX4_weigh 79 = .ok (.aaload, 1) := by decide +kernel
theorem dX4_weigh_80 : decode cX4_weigh 80 = .ok (.astore 6, 2) := by decide +kernel
theorem dX4_weigh_82 : decode cX4_weigh 82 = .ok (.iload_n 3, 1) := by decide +kernel
theorem dX4_weigh_83 : decode cX4_weigh 83 = .ok (.istore 7, 2) := by decide +kernel
theorem dX4_weigh_85 : decode cX4_weigh 85 = .ok (.iconst 0, 1) := by decide +kernel
theorem dX4_weigh_86 : decode cX4_weigh 86 = .ok (.istore 8, 2) := by decide +kernel
theorem dX4_weigh_88 : decode cX4_weigh 88 = .ok (.iload 8, 2) := by decide +kernel
theorem dX4_weigh_90 : decode cX4_weigh 90 = .ok (.aload 5, 2) := by decide +kernel
theorem dX4_weigh_92 : decode cX4_weigh 92 = .ok (.getfield 78, 3) := by decide +kernel
theorem dX4_weigh_95 : decode cX4_weigh 95 = .ok (.if_icmp .ge 53, 3) := by decide +kernel
theorem dX4_weigh_98 : decode cX4_weigh 98 = .ok (.iload 7, 2) := by decide +kernel
theorem dX4_weigh_100 : decode cX4_weigh 100 = .ok (.iload 4, 2) := by decide +kernel
theorem dX4_weigh_102 : decode cX4_weigh 102 = .ok (.if_icmp .ge 46, 3) := by decide +kernel
theorem dX4_weigh_105 : decode cX4_weigh 105 = .ok (.aload 6, 2) := by decide +kernel
theorem dX4_weigh_107 : decode cX4_weigh 107 = .ok (.aload_n 1, 1) := by decide +kernel
theorem dX4_weigh_108 : decode cX4_weigh 108 = .ok (.aload 5, 2) := by decide +kernel
theorem dX4_weigh_110 : decode cX4_weigh 110 = .ok (.getfield 85, 3) := by decide +kernel
theorem dX4_weigh_113 : decode cX4_weigh 113 = .ok (.iload 8, 2) := by decide +kernel
theorem dX4_weigh_115 : decode cX4_weigh 115 = .ok (.iaload, 1) := by decide +kernel
theorem dX4_weigh_116 : decode cX4_weigh 116 = .ok (.invokevirtual 101, 3) := by decide +kernel
theorem dX4_weigh_119 : decode cX4_weigh 119 = .ok (.iload 7, 2) := by decide +kernel
theorem dX4_weigh_121 : decode cX4_weigh 121 = .ok (.aload_n 0, 1) := by decide +kernel
theorem dX4_weigh_122 : decode cX4_weigh 122 = .ok (.aload 6, 2) := by decide +kernel
theorem dX4_weigh_124 : decode cX4_weigh 124 = .ok (.iload_n 2, 1) := by decide +kernel
theorem dX4_weigh_125 : decode cX4_weigh 125 = .ok (.iconst 1, 1) := by decide +kernel
theorem dX4_weigh_126 : decode cX4_weigh 126 = .ok (.isub, 1) := by decide +kernel
theorem dX4_weigh_127 : decode cX4_weigh 127 = .ok (.iload 4, 2) := by decide +kernel
theorem dX4_weigh_129 : decode cX4_weigh 129 = .ok (.ineg, 1) := by decide +kernel
theorem dX4_weigh_130 : decode cX4_weigh 130 = .ok (.iload 7, 2) := by decide +kernel
theorem dX4_weigh_132 : decode cX4_weigh 132 = .ok (.ineg, 1) := by decide +kernel
theorem dX4_weigh_133 : decode cX4_weigh 133 = .ok (.invokevirtual 132, 3) := by decide +kernel
theorem dX4_weigh_136 : decode cX4_weigh 136 = .ok (.ineg, 1) := by decide +kernel
theorem dX4_weigh_137 : decode cX4_weigh 137 = .ok (.invokestatic 146, 3) := by decide +kernel
theorem dX4_weigh_140 : decode cX4_weigh 140 = .ok (.istore 7, 2) := by decide +kernel
theorem dX4_weigh_142 : decode cX4_weigh 142 = .ok (.iinc 8 1, 3) := by decide +kernel
theorem dX4_weigh_145 : decode cX4_weigh 145 = .ok (.goto (-57), 3) := by decide +kernel
theorem dX4_weigh_148 : decode cX4_weigh 148 = .ok (.iload 7, 2) := by decide +kernel
theorem dX4_weigh_150 : decode cX4_weigh 150 = .ok (.ireturn, 1) := by decide +kernel
theorem dX4_weighVerdict_0 : decode cX4_weighVerdict 0 = .ok (.iload_n 0, 1) := by decide +kernel
theorem dX4_weighVerdict_1 : decode cX4_weighVerdict 1 = .ok (.bipush (-100), 2) := by decide +kernel
theorem dX4_weighVerdict_3 : decode cX4_weighVerdict 3 = .ok (.if_icmp .ne 7, 3) := by decide +kernel
theorem dX4_weighVerdict_6 : decode cX4_weighVerdict 6 = .ok (.sipush (-1000), 3) := by decide +kernel
theorem dX4_weighVerdict_9 : decode cX4_weighVerdict 9 = .ok (.ireturn, 1) := by decide +kernel
theorem dX4_weighVerdict_10 : decode cX4_weighVerdict 10 = .ok (.iload_n 0, 1) := by decide +kernel
theorem dX4_weighVerdict_11 : decode cX4_weighVerdict 11 = .ok (.ifCond .le 9, 3) := by decide +kernel
theorem dX4_weighVerdict_14 : decode cX4_weighVerdict 14 = .ok (.sipush 1000, 3) := by decide +kernel
theorem dX4_weighVerdict_17 : decode cX4_weighVerdict 17 = .ok (.iload_n 0, 1) := by decide +kernel
theorem dX4_weighVerdict_18 : decode cX4_weighVerdict 18 = .ok (.isub, 1) := by decide +kernel
theorem dX4_weighVerdict_19 : decode cX4_weighVerdict 19 = .ok (.ireturn, 1) := by decide +kernel
theorem dX4_weighVerdict_20 : decode cX4_weighVerdict 20 = .ok (.iload_n 0, 1) := by decide +kernel
theorem dX4_weighVerdict_21 : decode cX4_weighVerdict 21 = .ok (.ifCond .ge 12, 3) := by decide +kernel
theorem dX4_weighVerdict_24 : decode cX4_weighVerdict 24 = .ok (.iload_n 0, 1) := by decide +kernel
theorem dX4_weighVerdict_25 : decode cX4_weighVerdict 25 = .ok (.ineg, 1) := by decide +kernel
theorem dX4_weighVerdict_26 : decode cX4_weighVerdict 26 = .ok (.sipush 1000, 3) := by decide +kernel
theorem dX4_weighVerdict_29 : decode cX4_weighVerdict 29 = .ok (.isub, 1) := by decide +kernel
theorem dX4_weighVerdict_30 : decode cX4_weighVerdict 30 = .ok (.goto 4, 3) := by decide +kernel
theorem dX4_weighVerdict_33 : decode cX4_weighVerdict 33 = .ok (.iconst 0, 1) := by decide +kernel
theorem dX4_weighVerdict_34 : decode cX4_weighVerdict 34 = .ok (.ireturn, 1) := by decide +kernel
set_option maxRecDepth 20000 in
theorem ggX4_judge_X0_init : GoodIn wsX4_judge wsX0_init := goodIn_r _ [8, 9, 10, 11, 12, 13, 14, 15, 16, 17, 18, 19, 20, 21, 22, 23, 24, 25, 26, 27, 28, 29, 30, 31, 32, 4, 33, 34, 35, 36, 37, 38, 39, 40, 41, 42, 43, 44, 45, 46, 47, 48, 49, 50, 51, 52, 53, 54, 55, 56, 57, 58, 59, 60, 61, 62, 63, 64, 65, 66, 67, 68, 69, 70, 71, 72, 73, 74, 75, 76, 77, 78, 79, 80, 81, 82, 83, 84, 85, 86, 87, 88, 89, 90, 91, 92, 93, 94, 95, 96, 97, 98, 99, 100, 101, 102, 103, 104, 105, 106, 107, 108, 109, 110, 111, 112, 113, 114, 115, 116, 117, 118, 119, 120, 121, 122, 123, 124, 125, 126, 127, 128, 129, 130, 131, 132, 133, 134, 135, 136, 137, 138, 139, 140, 141, 142, 143, 144, 145, 146, 147, 148, 149, 162, 163, 164, 165, 166, 167, 168, 169, 170, 171, 172, 173] (by decide +kernel) (by decide +kernel)
set_option maxRecDepth 20000 in
theorem gX4_judge_X0_init : GoodIn wsX4_judge (wsX0_init) := ggX4_judge_X0_init
set_option maxRecDepth 20000 in
theorem ggX4_judge_X0_look : GoodIn wsX4_judge wsX0_look := goodIn_r _ [153, 13, 115, 116, 4, 117, 118, 55, 56, 22, 57, 42, 39, 40, 119, 120, 121, 122, 123, 124, 125, 126, 127, 128, 75, 76, 77, 41, 129, 67, 68, 69, 162, 163, 164, 167, 168, 169, 170, 171] (by decide +kernel) (by decide +kernel)
set_option maxRecDepth 20000 in
theorem gX4_judge_X0_look : GoodIn wsX4_judge (wsV RX4 157 RX0 yX0_look wsX0_look) := goodIn_app (goodIn_of _ (by decide +kernel)) ggX4_judge_X0_look
theorem dX4_judge_0 : decode cX4_judge 0 = .ok (.aload_n 0, 1) := by decide +kernel
theorem dX4_judge_1 : decode cX4_judge 1 = .ok (.getfield 16, 3) := by decide +kernel
theorem dX4_judge_4 : decode cX4_judge 4 = .ok (.ifnonnull 18, 3) := by decide +kernel
theorem dX4_judge_7 : decode cX4_judge 7 = .ok (.aload_n 0, 1) := by decide +kernel
theorem dX4_judge_8 : decode cX4_judge 8 = .ok (.new 152, 3) := by decide +kernel
theorem dX4_judge_11 : decode cX4_judge 11 = .ok (.dup, 1) := by decide +kernel
theorem dX4_judge_12 : decode cX4_judge 12 = .ok (.aload_n 0, 1) := by decide +kernel
theorem dX4_judge_13 : decode cX4_judge 13 = .ok (.getfield 10, 3) := by decide +kernel
theorem dX4_judge_16 : decode cX4_judge 16 = .ok (.invokespecial 154, 3) := by decide +kernel
theorem dX4_judge_19 : decode cX4_judge 19 = .ok (.putfield 16, 3) := by decide +kernel
theorem dX4_judge_22 : decode cX4_judge 22 = .ok (.aload_n 0, 1) := by decide +kernel
theorem dX4_judge_23 : decode cX4_judge 23 = .ok (.getfield 16, 3) := by decide +kernel
theorem dX4_judge_26 : decode cX4_judge 26 = .ok (.aload_n 1, 1) := by decide +kernel
theorem dX4_judge_27 : decode cX4_judge 27 = .ok (.invokevirtual 157, 3) := by decide +kernel
theorem dX4_judge_30 : decode cX4_judge 30 = .ok (.ireturn, 1) := by decide +kernel
theorem dX4_isSquare_0 : decode cX4_isSquare 0 = .ok (.iload_n 0, 1) := by decide +kernel
theorem dX4_isSquare_1 : decode cX4_isSquare 1 = .ok (.ifCond .lt 13, 3) := by decide +kernel
theorem dX4_isSquare_4 : decode cX4_isSquare 4 = .ok (.iload_n 0, 1) := by decide +kernel
theorem dX4_isSquare_5 : decode cX4_isSquare 5 = .ok (.bipush 18, 2) := by decide +kernel
theorem dX4_isSquare_7 : decode cX4_isSquare 7 = .ok (.if_icmp .ge 7, 3) := by decide +kernel
theorem dX4_isSquare_10 : decode cX4_isSquare 10 = .ok (.iconst 1, 1) := by decide +kernel
theorem dX4_isSquare_11 : decode cX4_isSquare 11 = .ok (.goto 4, 3) := by decide +kernel
theorem dX4_isSquare_14 : decode cX4_isSquare 14 = .ok (.iconst 0, 1) := by decide +kernel
theorem dX4_isSquare_15 : decode cX4_isSquare 15 = .ok (.ireturn, 1) := by decide +kernel
theorem dX4_isDepth_0 : decode cX4_isDepth 0 = .ok (.iload_n 0, 1) := by decide +kernel
theorem dX4_isDepth_1 : decode cX4_isDepth 1 = .ok (.ifCond .lt 12, 3) := by decide +kernel
theorem dX4_isDepth_4 : decode cX4_isDepth 4 = .ok (.iload_n 0, 1) := by decide +kernel
theorem dX4_isDepth_5 : decode cX4_isDepth 5 = .ok (.iconst 4, 1) := by decide +kernel
theorem dX4_isDepth_6 : decode cX4_isDepth 6 = .ok (.if_icmp .gt 7, 3) := by decide +kernel
theorem dX4_isDepth_9 : decode cX4_isDepth 9 = .ok (.iconst 1, 1) := by decide +kernel
theorem dX4_isDepth_10 : decode cX4_isDepth 10 = .ok (.goto 4, 3) := by decide +kernel
theorem dX4_isDepth_13 : decode cX4_isDepth 13 = .ok (.iconst 0, 1) := by decide +kernel
theorem dX4_isDepth_14 : decode cX4_isDepth 14 = .ok (.ireturn, 1) := by decide +kernel
set_option maxRecDepth 20000 in
theorem ggX5_init_X5_reach : GoodIn wsX5_init wsX5_reach := goodIn_r _ [26, 27, 28, 25, 29] (by decide +kernel) (by decide +kernel)
set_option maxRecDepth 20000 in
theorem gX5_init_X5_reach : GoodIn wsX5_init (va_wsS RX5 62 yX5_reach wsX5_reach) := goodIn_app (goodIn_of _ (by decide +kernel)) ggX5_init_X5_reach
set_option maxRecDepth 20000 in
theorem ggX5_init_X5_begin : GoodIn wsX5_init wsX5_begin := goodIn_r _ [33, 5, 6, 34, 35, 36, 37, 38, 39, 40, 41, 42, 43, 44, 45, 46, 47, 48, 49, 50, 51, 52, 53, 54, 55] (by decide +kernel) (by decide +kernel)
set_option maxRecDepth 20000 in
theorem gX5_init_X5_begin : GoodIn wsX5_init (wsV RX5 66 RX5 yX5_begin wsX5_begin) := goodIn_app (goodIn_of _ (by decide +kernel)) ggX5_init_X5_begin
theorem dX5_init_0 : decode cX5_init 0 = .ok (.aload_n 0, 1) := by decide +kernel
theorem dX5_init_1 : decode cX5_init 1 = .ok (.invokespecial 1, 3) := by decide +kernel
theorem dX5_init_4 : decode cX5_init 4 = .ok (.aload_n 0, 1) := by decide +kernel
theorem dX5_init_5 : decode cX5_init 5 = .ok (.bipush 108, 2) := by decide +kernel
theorem dX5_init_7 : decode cX5_init 7 = .ok (.newarray .int, 2) := by decide +kernel
theorem dX5_init_9 : decode cX5_init 9 = .ok (.putfield 7, 3) := by decide +kernel
theorem dX5_init_12 : decode cX5_init 12 = .ok (.aload_n 0, 1) := by decide +kernel
theorem dX5_init_13 : decode cX5_init 13 = .ok (.bipush 6, 2) := by decide +kernel
theorem dX5_init_15 : decode cX5_init 15 = .ok (.newarray .int, 2) := by decide +kernel
theorem dX5_init_17 : decode cX5_init 17 = .ok (.putfield 13, 3) := by decide +kernel
theorem dX5_init_20 : decode cX5_init 20 = .ok (.aload_n 0, 1) := by decide +kernel
theorem dX5_init_21 : decode cX5_init 21 = .ok (.sipush 480, 3) := by decide +kernel
theorem dX5_init_24 : decode cX5_init 24 = .ok (.newarray .int, 2) := by decide +kernel
theorem dX5_init_26 : decode cX5_init 26 = .ok (.putfield 16, 3) := by decide +kernel
theorem dX5_init_29 : decode cX5_init 29 = .ok (.aload_n 0, 1) := by decide +kernel
theorem dX5_init_30 : decode cX5_init 30 = .ok (.bipush 6, 2) := by decide +kernel
theorem dX5_init_32 : decode cX5_init 32 = .ok (.newarray .int, 2) := by decide +kernel
theorem dX5_init_34 : decode cX5_init 34 = .ok (.putfield 19, 3) := by decide +kernel
theorem dX5_init_37 : decode cX5_init 37 = .ok (.aload_n 0, 1) := by decide +kernel
theorem dX5_init_38 : decode cX5_init 38 = .ok (.bipush 6, 2) := by decide +kernel
theorem dX5_init_40 : decode cX5_init 40 = .ok (.newarray .int, 2) := by decide +kernel
theorem dX5_init_42 : decode cX5_init 42 = .ok (.putfield 22, 3) := by decide +kernel
theorem dX5_init_45 : decode cX5_init 45 = .ok (.aload_n 0, 1) := by decide +kernel
theorem dX5_init_46 : decode cX5_init 46 = .ok (.bipush 6, 2) := by decide +kernel
theorem dX5_init_48 : decode cX5_init 48 = .ok (.newarray .int, 2) := by decide +kernel
theorem dX5_init_50 : decode cX5_init 50 = .ok (.putfield 25, 3) := by decide +kernel
theorem dX5_init_53 : decode cX5_init 53 = .ok (.aload_n 0, 1) := by decide +kernel
theorem dX5_init_54 : decode cX5_init 54 = .ok (.bipush 6, 2) := by decide +kernel
theorem dX5_init_56 : decode cX5_init 56 = .ok (.newarray .int, 2) := by decide +kernel
theorem dX5_init_58 : decode cX5_init 58 = .ok (.putfield 28, 3) := by decide +kernel
theorem dX5_init_61 : decode cX5_init 61 = .ok (.aload_n 0, 1) := by decide +kernel
theorem dX5_init_62 : decode cX5_init 62 = .ok (.bipush 72, 2) := by decide +kernel
theorem dX5_init_64 : decode cX5_init 64 = .ok (.newarray .int, 2) := by decide +kernel
theorem dX5_init_66 : decode cX5_init 66 = .ok (.putfield 31, 3) := by decide +kernel
theorem dX5_init_69 : decode cX5_init 69 = .ok (.aload_n 0, 1) := by decide +kernel
theorem dX5_init_70 : decode cX5_init 70 = .ok (.bipush 72, 2) := by decide +kernel
theorem dX5_init_72 : decode cX5_init 72 = .ok (.newarray .int, 2) := by decide +kernel
theorem dX5_init_74 : decode cX5_init 74 = .ok (.putfield 34, 3) := by decide +kernel
theorem dX5_init_77 : decode cX5_init 77 = .ok (.aload_n 0, 1) := by decide +kernel
theorem dX5_init_78 : decode cX5_init 78 = .ok (.bipush 8, 2) := by decide +kernel
theorem dX5_init_80 : decode cX5_init 80 = .ok (.newarray .int, 2) := by decide +kernel
theorem dX5_init_82 : decode cX5_init 82 = .ok (.putfield 37, 3) := by decide +kernel
theorem dX5_init_85 : decode cX5_init 85 = .ok (.aload_n 0, 1) := by decide +kernel
theorem dX5_init_86 : decode cX5_init 86 = .ok (.bipush 8, 2) := by decide +kernel
theorem dX5_init_88 : decode cX5_init 88 = .ok (.newarray .int, 2) := by decide +kernel
theorem dX5_init_90 : decode cX5_init 90 = .ok (.putfield 40, 3) := by decide +kernel
theorem dX5_init_93 : decode cX5_init 93 = .ok (.aload_n 0, 1) := by decide +kernel
end
section
theorem dX5_init_94 : decode cX5_init 94 = .ok (.bipush 8, 2) := by decide +kernel
theorem dX5_init_96 : decode cX5_init 96 = .ok (.newarray .int, 2) := by decide +kernel
theorem dX5_init_98 : decode cX5_init 98 = .ok (.putfield 43, 3) := by decide +kernel
theorem dX5_init_101 : decode cX5_init 101 = .ok (.aload_n 0, 1) := by decide +kernel
theorem dX5_init_102 : decode cX5_init 102 = .ok (.bipush 8, 2) := by decide +kernel
theorem dX5_init_104 : decode cX5_init 104 = .ok (.newarray .boolean, 2) := by decide +kernel
theorem dX5_init_106 : decode cX5_init 106 = .ok (.putfield 46, 3) := by decide +kernel
theorem dX5_init_109 : decode cX5_init 109 = .ok (.aload_n 0, 1) := by decide +kernel
theorem dX5_init_110 : decode cX5_init 110 = .ok (.sipush 1800, 3) := by decide +kernel
theorem dX5_init_113 : decode cX5_init 113 = .ok (.newarray .int, 2) := by decide +kernel
theorem dX5_init_115 : decode cX5_init 115 = .ok (.putfield 50, 3) := by decide +kernel
theorem dX5_init_118 : decode cX5_init 118 = .ok (.aload_n 0, 1) := by decide +kernel
theorem dX5_init_119 : decode cX5_init 119 = .ok (.bipush 100, 2) := by decide +kernel
theorem dX5_init_121 : decode cX5_init 121 = .ok (.newarray .int, 2) := by decide +kernel
theorem dX5_init_123 : decode cX5_init 123 = .ok (.putfield 53, 3) := by decide +kernel
theorem dX5_init_126 : decode cX5_init 126 = .ok (.aload_n 0, 1) := by decide +kernel
theorem dX5_init_127 : decode cX5_init 127 = .ok (.sipush 10368, 3) := by decide +kernel
theorem dX5_init_130 : decode cX5_init 130 = .ok (.newarray .int, 2) := by decide +kernel
theorem dX5_init_132 : decode cX5_init 132 = .ok (.putfield 56, 3) := by decide +kernel
theorem dX5_init_135 : decode cX5_init 135 = .ok (.aload_n 0, 1) := by decide +kernel
theorem dX5_init_136 : decode cX5_init 136 = .ok (.sipush 2592, 3) := by decide +kernel
theorem dX5_init_139 : decode cX5_init 139 = .ok (.newarray .int, 2) := by decide +kernel
theorem dX5_init_141 : decode cX5_init 141 = .ok (.putfield 59, 3) := by decide +kernel
theorem dX5_init_144 : decode cX5_init 144 = .ok (.iconst 0, 1) := by decide +kernel
theorem dX5_init_145 : decode cX5_init 145 = .ok (.istore_n 1, 1) := by decide +kernel
theorem dX5_init_146 : decode cX5_init 146 = .ok (.iload_n 1, 1) := by decide +kernel
theorem dX5_init_147 : decode cX5_init 147 = .ok (.bipush 18, 2) := by decide +kernel
theorem dX5_init_149 : decode cX5_init 149 = .ok (.if_icmp .ge 54, 3) := by decide +kernel
theorem dX5_init_152 : decode cX5_init 152 = .ok (.iconst 0, 1) := by decide +kernel
theorem dX5_init_153 : decode cX5_init 153 = .ok (.istore_n 2, 1) := by decide +kernel
theorem dX5_init_154 : decode cX5_init 154 = .ok (.iload_n 2, 1) := by decide +kernel
theorem dX5_init_155 : decode cX5_init 155 = .ok (.iconst 4, 1) := by decide +kernel
theorem dX5_init_156 : decode cX5_init 156 = .ok (.if_icmp .ge 41, 3) := by decide +kernel
theorem dX5_init_159 : decode cX5_init 159 = .ok (.aload_n 0, 1) := by decide +kernel
theorem dX5_init_160 : decode cX5_init 160 = .ok (.getfield 31, 3) := by decide +kernel
theorem dX5_init_163 : decode cX5_init 163 = .ok (.iconst 4, 1) := by decide +kernel
theorem dX5_init_164 : decode cX5_init 164 = .ok (.iload_n 1, 1) := by decide +kernel
theorem dX5_init_165 : decode cX5_init 165 = .ok (.imul, 1) := by decide +kernel
theorem dX5_init_166 : decode cX5_init 166 = .ok (.iload_n 2, 1) := by decide +kernel
theorem dX5_init_167 : decode cX5_init 167 = .ok (.iadd, 1) := by decide +kernel
theorem dX5_init_168 : decode cX5_init 168 = .ok (.iload_n 1, 1) := by decide +kernel
theorem dX5_init_169 : decode cX5_init 169 = .ok (.iload_n 2, 1) := by decide +kernel
theorem dX5_init_170 : decode cX5_init 170 = .ok (.iconst 1, 1) := by decide +kernel
theorem dX5_init_171 : decode cX5_init 171 = .ok (.invokestatic 62, 3) := by decide +kernel
theorem dX5_init_174 : decode cX5_init 174 = .ok (.iastore, 1) := by decide +kernel
theorem dX5_init_175 : decode cX5_init 175 = .ok (.aload_n 0, 1) := by decide +kernel
theorem dX5_init_176 : decode cX5_init 176 = .ok (.getfield 34, 3) := by decide +kernel
theorem dX5_init_179 : decode cX5_init 179 = .ok (.iconst 4, 1) := by decide +kernel
theorem dX5_init_180 : decode cX5_init 180 = .ok (.iload_n 1, 1) := by decide +kernel
theorem dX5_init_181 : decode cX5_init 181 = .ok (.imul, 1) := by decide +kernel
theorem dX5_init_182 : decode cX5_init 182 = .ok (.iload_n 2, 1) := by decide +kernel
theorem dX5_init_183 : decode cX5_init 183 = .ok (.iadd, 1) := by decide +kernel
theorem dX5_init_184 : decode cX5_init 184 = .ok (.iload_n 1, 1) := by decide +kernel
theorem dX5_init_185 : decode cX5_init 185 = .ok (.iload_n 2, 1) := by decide +kernel
theorem dX5_init_186 : decode cX5_init 186 = .ok (.iconst 2, 1) := by decide +kernel
theorem dX5_init_187 : decode cX5_init 187 = .ok (.invokestatic 62, 3) := by decide +kernel
theorem dX5_init_190 : decode cX5_init 190 = .ok (.iastore, 1) := by decide +kernel
theorem dX5_init_191 : decode cX5_init 191 = .ok (.iinc 2 1, 3) := by decide +kernel
theorem dX5_init_194 : decode cX5_init 194 = .ok (.goto (-40), 3) := by decide +kernel
theorem dX5_init_197 : decode cX5_init 197 = .ok (.iinc 1 1, 3) := by decide +kernel
theorem dX5_init_200 : decode cX5_init 200 = .ok (.goto (-54), 3) := by decide +kernel
theorem dX5_init_203 : decode cX5_init 203 = .ok (.aload_n 0, 1) := by decide +kernel
theorem dX5_init_204 : decode cX5_init 204 = .ok (.invokevirtual 66, 3) := by decide +kernel
theorem dX5_init_207 : decode cX5_init 207 = .ok (.return_, 1) := by decide +kernel
theorem dX5_rowOf_0 : decode cX5_rowOf 0 = .ok (.iload_n 0, 1) := by decide +kernel
theorem dX5_rowOf_1 : decode cX5_rowOf 1 = .ok (.iconst 3, 1) := by decide +kernel
theorem dX5_rowOf_2 : decode cX5_rowOf 2 = .ok (.idiv, 1) := by decide +kernel
theorem dX5_rowOf_3 : decode cX5_rowOf 3 = .ok (.ireturn, 1) := by decide +kernel
set_option maxRecDepth 20000 in
theorem ggX5_reach_X5_rowOf : GoodIn wsX5_reach wsX5_rowOf := goodIn_r _ [4] (by decide +kernel) (by decide +kernel)
set_option maxRecDepth 20000 in
theorem gX5_reach_X5_rowOf : GoodIn wsX5_reach (va_wsS RX5 69 yX5_rowOf wsX5_rowOf) := goodIn_app (goodIn_of _ (by decide +kernel)) ggX5_reach_X5_rowOf
theorem dX5_reach_0 : decode cX5_reach 0 = .ok (.iload_n 0, 1) := by decide +kernel
theorem dX5_reach_1 : decode cX5_reach 1 = .ok (.invokestatic 69, 3) := by decide +kernel
theorem dX5_reach_4 : decode cX5_reach 4 = .ok (.iload_n 1, 1) := by decide +kernel
theorem dX5_reach_5 : decode cX5_reach 5 = .ok (.iconst 2, 1) := by decide +kernel
theorem dX5_reach_6 : decode cX5_reach 6 = .ok (.if_icmp .ge 7, 3) := by decide +kernel
theorem dX5_reach_9 : decode cX5_reach 9 = .ok (.iload_n 2, 1) := by decide +kernel
theorem dX5_reach_10 : decode cX5_reach 10 = .ok (.goto 5, 3) := by decide +kernel
theorem dX5_reach_13 : decode cX5_reach 13 = .ok (.iload_n 2, 1) := by decide +kernel
theorem dX5_reach_14 : decode cX5_reach 14 = .ok (.ineg, 1) := by decide +kernel
theorem dX5_reach_15 : decode cX5_reach 15 = .ok (.iadd, 1) := by decide +kernel
theorem dX5_reach_16 : decode cX5_reach 16 = .ok (.istore_n 3, 1) := by decide +kernel
theorem dX5_reach_17 : decode cX5_reach 17 = .ok (.iconst 2, 1) := by decide +kernel
theorem dX5_reach_18 : decode cX5_reach 18 = .ok (.iload_n 0, 1) := by decide +kernel
theorem dX5_reach_19 : decode cX5_reach 19 = .ok (.iconst 3, 1) := by decide +kernel
theorem dX5_reach_20 : decode cX5_reach 20 = .ok (.irem, 1) := by decide +kernel
theorem dX5_reach_21 : decode cX5_reach 21 = .ok (.imul, 1) := by decide +kernel
theorem dX5_reach_22 : decode cX5_reach 22 = .ok (.iload_n 0, 1) := by decide +kernel
theorem dX5_reach_23 : decode cX5_reach 23 = .ok (.invokestatic 69, 3) := by decide +kernel
theorem dX5_reach_26 : decode cX5_reach 26 = .ok (.iconst 2, 1) := by decide +kernel
theorem dX5_reach_27 : decode cX5_reach 27 = .ok (.irem, 1) := by decide +kernel
theorem dX5_reach_28 : decode cX5_reach 28 = .ok (.iadd, 1) := by decide +kernel
theorem dX5_reach_29 : decode cX5_reach 29 = .ok (.iload_n 1, 1) := by decide +kernel
theorem dX5_reach_30 : decode cX5_reach 30 = .ok (.iconst 2, 1) := by decide +kernel
theorem dX5_reach_31 : decode cX5_reach 31 = .ok (.irem, 1) := by decide +kernel
theorem dX5_reach_32 : decode cX5_reach 32 = .ok (.ifCond .ne 8, 3) := by decide +kernel
theorem dX5_reach_35 : decode cX5_reach 35 = .ok (.iload_n 2, 1) := by decide +kernel
theorem dX5_reach_36 : decode cX5_reach 36 = .ok (.ineg, 1) := by decide +kernel
theorem dX5_reach_37 : decode cX5_reach 37 = .ok (.goto 4, 3) := by decide +kernel
theorem dX5_reach_40 : decode cX5_reach 40 = .ok (.iload_n 2, 1) := by decide +kernel
theorem dX5_reach_41 : decode cX5_reach 41 = .ok (.iadd, 1) := by decide +kernel
theorem dX5_reach_42 : decode cX5_reach 42 = .ok (.istore 4, 2) := by decide +kernel
theorem dX5_reach_44 : decode cX5_reach 44 = .ok (.iload_n 3, 1) := by decide +kernel
theorem dX5_reach_45 : decode cX5_reach 45 = .ok (.ifCond .lt 23, 3) := by decide +kernel
theorem dX5_reach_48 : decode cX5_reach 48 = .ok (.iload_n 3, 1) := by decide +kernel
theorem dX5_reach_49 : decode cX5_reach 49 = .ok (.iconst 5, 1) := by decide +kernel
theorem dX5_reach_50 : decode cX5_reach 50 = .ok (.if_icmp .gt 18, 3) := by decide +kernel
theorem dX5_reach_53 : decode cX5_reach 53 = .ok (.iload 4, 2) := by decide +kernel
theorem dX5_reach_55 : decode cX5_reach 55 = .ok (.ifCond .lt 13, 3) := by decide +kernel
theorem dX5_reach_58 : decode cX5_reach 58 = .ok (.iload 4, 2) := by decide +kernel
theorem dX5_reach_60 : decode cX5_reach 60 = .ok (.iconst 5, 1) := by decide +kernel
theorem dX5_reach_61 : decode cX5_reach 61 = .ok (.if_icmp .gt 7, 3) := by decide +kernel
theorem dX5_reach_64 : decode cX5_reach 64 = .ok (.iconst 1, 1) := by decide +kernel
theorem dX5_reach_65 : decode cX5_reach 65 = .ok (.goto 4, 3) := by decide +kernel
theorem dX5_reach_68 : decode cX5_reach 68 = .ok (.iconst 0, 1) := by decide +kernel
theorem dX5_reach_69 : decode cX5_reach 69 = .ok (.istore 5, 2) := by decide +kernel
theorem dX5_reach_71 : decode cX5_reach 71 = .ok (.iload 5, 2) := by decide +kernel
theorem dX5_reach_73 : decode cX5_reach 73 = .ok (.ifCond .eq 14, 3) := by decide +kernel
theorem dX5_reach_76 : decode cX5_reach 76 = .ok (.iconst 3, 1) := by decide +kernel
theorem dX5_reach_77 : decode cX5_reach 77 = .ok (.iload_n 3, 1) := by decide +kernel
theorem dX5_reach_78 : decode cX5_reach 78 = .ok (.imul, 1) := by decide +kernel
theorem dX5_reach_79 : decode cX5_reach 79 = .ok (.iload 4, 2) := by decide +kernel
theorem dX5_reach_81 : decode cX5_reach 81 = .ok (.iconst 2, 1) := by decide +kernel
theorem dX5_reach_82 : decode cX5_reach 82 = .ok (.idiv, 1) := by decide +kernel
theorem dX5_reach_83 : decode cX5_reach 83 = .ok (.iadd, 1) := by decide +kernel
theorem dX5_reach_84 : decode cX5_reach 84 = .ok (.goto 4, 3) := by decide +kernel
theorem dX5_reach_87 : decode cX5_reach 87 = .ok (.iconst (-1), 1) := by decide +kernel
theorem dX5_reach_88 : decode cX5_reach 88 = .ok (.ireturn, 1) := by decide +kernel
theorem dX5_sideOf_0 : decode cX5_sideOf 0 = .ok (.iload_n 0, 1) := by decide +kernel
theorem dX5_sideOf_1 : decode cX5_sideOf 1 = .ok (.ifCond .ne 7, 3) := by decide +kernel
theorem dX5_sideOf_4 : decode cX5_sideOf 4 = .ok (.iconst (-1), 1) := by decide +kernel
theorem dX5_sideOf_5 : decode cX5_sideOf 5 = .ok (.goto 13, 3) := by decide +kernel
theorem dX5_sideOf_8 : decode cX5_sideOf 8 = .ok (.iload_n 0, 1) := by decide +kernel
theorem dX5_sideOf_9 : decode cX5_sideOf 9 = .ok (.iconst 3, 1) := by decide +kernel
theorem dX5_sideOf_10 : decode cX5_sideOf 10 = .ok (.if_icmp .ge 7, 3) := by decide +kernel
theorem dX5_sideOf_13 : decode cX5_sideOf 13 = .ok (.iconst 0, 1) := by decide +kernel
theorem dX5_sideOf_14 : decode cX5_sideOf 14 = .ok (.goto 4, 3) := by decide +kernel
theorem dX5_sideOf_17 : decode cX5_sideOf 17 = .ok (.iconst 1, 1) := by decide +kernel
theorem dX5_sideOf_18 : decode cX5_sideOf 18 = .ok (.ireturn, 1) := by decide +kernel
theorem dX5_isKing_0 : decode cX5_isKing 0 = .ok (.iload_n 0, 1) := by decide +kernel
theorem dX5_isKing_1 : decode cX5_isKing 1 = .ok (.iconst 2, 1) := by decide +kernel
theorem dX5_isKing_2 : decode cX5_isKing 2 = .ok (.if_icmp .eq 8, 3) := by decide +kernel
theorem dX5_isKing_5 : decode cX5_isKing 5 = .ok (.iload_n 0, 1) := by decide +kernel
theorem dX5_isKing_6 : decode cX5_isKing 6 = .ok (.iconst 4, 1) := by decide +kernel
theorem dX5_isKing_7 : decode cX5_isKing 7 = .ok (.if_icmp .ne 7, 3) := by decide +kernel
theorem dX5_isKing_10 : decode cX5_isKing 10 = .ok (.iconst 1, 1) := by decide +kernel
theorem dX5_isKing_11 : decode cX5_isKing 11 = .ok (.goto 4, 3) := by decide +kernel
theorem dX5_isKing_14 : decode cX5_isKing 14 = .ok (.iconst 0, 1) := by decide +kernel
theorem dX5_isKing_15 : decode cX5_isKing 15 = .ok (.ireturn, 1) := by decide +kernel
set_option maxRecDepth 20000 in
theorem ggX5_goes_X5_isKing : GoodIn wsX5_goes wsX5_isKing := goodIn_r _ [4] (by decide +kernel) (by decide +kernel)
set_option maxRecDepth 20000 in
theorem gX5_goes_X5_isKing : GoodIn wsX5_goes (va_wsS RX5 73 yX5_isKing wsX5_isKing) := goodIn_app (goodIn_of _ (by decide +kernel)) ggX5_goes_X5_isKing
theorem dX5_goes_0 : decode cX5_goes 0 = .ok (.iload_n 0, 1) := by decide +kernel
theorem dX5_goes_1 : decode cX5_goes 1 = .ok (.invokestatic 73, 3) := by decide +kernel
theorem dX5_goes_4 : decode cX5_goes 4 = .ok (.ifCond .ne 26, 3) := by decide +kernel
theorem dX5_goes_7 : decode cX5_goes 7 = .ok (.iload_n 0, 1) := by decide +kernel
theorem dX5_goes_8 : decode cX5_goes 8 = .ok (.iconst 1, 1) := by decide +kernel
theorem dX5_goes_9 : decode cX5_goes 9 = .ok (.if_icmp .ne 7, 3) := by decide +kernel
theorem dX5_goes_12 : decode cX5_goes 12 = .ok (.iconst 1, 1) := by decide +kernel
theorem dX5_goes_13 : decode cX5_goes 13 = .ok (.goto 4, 3) := by decide +kernel
theorem dX5_goes_16 : decode cX5_goes 16 = .ok (.iconst 0, 1) := by decide +kernel
theorem dX5_goes_17 : decode cX5_goes 17 = .ok (.iload_n 1, 1) := by decide +kernel
theorem dX5_goes_18 : decode cX5_goes 18 = .ok (.iconst 2, 1) := by decide +kernel
theorem dX5_goes_19 : decode cX5_goes 19 = .ok (.if_icmp .ge 7, 3) := by decide +kernel
theorem dX5_goes_22 : decode cX5_goes 22 = .ok (.iconst 1, 1) := by decide +kernel
theorem dX5_goes_23 : decode cX5_goes 23 = .ok (.goto 4, 3) := by decide +kernel
theorem dX5_goes_26 : decode cX5_goes 26 = .ok (.iconst 0, 1) := by decide +kernel
theorem dX5_goes_27 : decode cX5_goes 27 = .ok (.if_icmp .ne 7, 3) := by decide +kernel
theorem dX5_goes_30 : decode cX5_goes 30 = .ok (.iconst 1, 1) := by decide +kernel
theorem dX5_goes_31 : decode cX5_goes 31 = .ok (.goto 4, 3) := by decide +kernel
theorem dX5_goes_34 : decode cX5_goes 34 = .ok (.iconst 0, 1) := by decide +kernel
theorem dX5_goes_35 : decode cX5_goes 35 = .ok (.ireturn, 1) := by decide +kernel
theorem dX5_crowning_0 : decode cX5_crowning 0 = .ok (.iload_n 0, 1) := by decide +kernel
theorem dX5_crowning_1 : decode cX5_crowning 1 = .ok (.ifCond .ne 7, 3) := by decide +kernel
theorem dX5_crowning_4 : decode cX5_crowning 4 = .ok (.iconst 5, 1) := by decide +kernel
theorem dX5_crowning_5 : decode cX5_crowning 5 = .ok (.goto 4, 3) := by decide +kernel
theorem dX5_crowning_8 : decode cX5_crowning 8 = .ok (.iconst 0, 1) := by decide +kernel
theorem dX5_crowning_9 : decode cX5_crowning 9 = .ok (.ireturn, 1) := by decide +kernel
theorem dX5_note_0 : decode cX5_note 0 = .ok (.ldc 77, 2) := by decide +kernel
theorem dX5_note_2 : decode cX5_note 2 = .ok (.bipush 18, 2) := by decide +kernel
theorem dX5_note_4 : decode cX5_note 4 = .ok (.iload_n 2, 1) := by decide +kernel
theorem dX5_note_5 : decode cX5_note 5 = .ok (.imul, 1) := by decide +kernel
theorem dX5_note_6 : decode cX5_note 6 = .ok (.iload_n 3, 1) := by decide +kernel
theorem dX5_note_7 : decode cX5_note 7 = .ok (.iadd, 1) := by decide +kernel
theorem dX5_note_8 : decode cX5_note 8 = .ok (.imul, 1) := by decide +kernel
theorem dX5_note_9 : decode cX5_note 9 = .ok (.iload 4, 2) := by decide +kernel
theorem dX5_note_11 : decode cX5_note 11 = .ok (.iadd, 1) := by decide +kernel
theorem dX5_note_12 : decode cX5_note 12 = .ok (.istore 5, 2) := by decide +kernel
theorem dX5_note_14 : decode cX5_note 14 = .ok (.bipush 80, 2) := by decide +kernel
theorem dX5_note_16 : decode cX5_note 16 = .ok (.iload_n 1, 1) := by decide +kernel
theorem dX5_note_17 : decode cX5_note 17 = .ok (.imul, 1) := by decide +kernel
theorem dX5_note_18 : decode cX5_note 18 = .ok (.istore 6, 2) := by decide +kernel
theorem dX5_note_20 : decode cX5_note 20 = .ok (.iload 6, 2) := by decide +kernel
theorem dX5_note_22 : decode cX5_note 22 = .ok (.aload_n 0, 1) := by decide +kernel
theorem dX5_note_23 : decode cX5_note 23 = .ok (.getfield 19, 3) := by decide +kernel
theorem dX5_note_26 : decode cX5_note 26 = .ok (.iload_n 1, 1) := by decide +kernel
theorem dX5_note_27 : decode cX5_note 27 = .ok (.iaload, 1) := by decide +kernel
theorem dX5_note_28 : decode cX5_note 28 = .ok (.iadd, 1) := by decide +kernel
theorem dX5_note_29 : decode cX5_note 29 = .ok (.istore 7, 2) := by decide +kernel
theorem dX5_note_31 : decode cX5_note 31 = .ok (.iload 6, 2) := by decide +kernel
theorem dX5_note_33 : decode cX5_note 33 = .ok (.iload 7, 2) := by decide +kernel
theorem dX5_note_35 : decode cX5_note 35 = .ok (.if_icmp .ge 21, 3) := by decide +kernel
theorem dX5_note_38 : decode cX5_note 38 = .ok (.aload_n 0, 1) := by decide +kernel
theorem dX5_note_39 : decode cX5_note 39 = .ok (.getfield 16, 3) := by decide +kernel
theorem dX5_note_42 : decode cX5_note 42 = .ok (.iload 6, 2) := by decide +kernel
theorem dX5_note_44 : decode cX5_note 44 = .ok (.iaload, 1) := by decide +kernel
theorem dX5_note_45 : decode cX5_note 45 = .ok (.iload 5, 2) := by decide +kernel
theorem dX5_note_47 : decode cX5_note 47 = .ok (.if_icmp .ge 9, 3) := by decide +kernel
theorem dX5_note_50 : decode cX5_note 50 = .ok (.iinc 6 1, 3) := by decide +kernel
theorem dX5_note_53 : decode cX5_note 53 = .ok (.goto (-22), 3) := by decide +kernel
theorem dX5_note_56 : decode cX5_note 56 = .ok (.iload 6, 2) := by decide +kernel
theorem dX5_note_58 : decode cX5_note 58 = .ok (.iload 7, 2) := by decide +kernel
theorem dX5_note_60 : decode cX5_note 60 = .ok (.if_icmp .ge 16, 3) := by decide +kernel
theorem dX5_note_63 : decode cX5_note 63 = .ok (.aload_n 0, 1) := by decide +kernel
theorem dX5_note_64 : decode cX5_note 64 = .ok (.getfield 16, 3) := by decide +kernel
theorem dX5_note_67 : decode cX5_note 67 = .ok (.iload 6, 2) := by decide +kernel
theorem dX5_note_69 : decode cX5_note 69 = .ok (.iaload, 1) := by decide +kernel
theorem dX5_note_70 : decode cX5_note 70 = .ok (.iload 5, 2) := by decide +kernel
theorem dX5_note_72 : decode cX5_note 72 = .ok (.if_icmp .ne 4, 3) := by decide +kernel
theorem dX5_note_75 : decode cX5_note 75 = .ok (.return_, 1) := by decide +kernel
theorem dX5_note_76 : decode cX5_note 76 = .ok (.iload 7, 2) := by decide +kernel
theorem dX5_note_78 : decode cX5_note 78 = .ok (.istore 8, 2) := by decide +kernel
theorem dX5_note_80 : decode cX5_note 80 = .ok (.iload 8, 2) := by decide +kernel
theorem dX5_note_82 : decode cX5_note 82 = .ok (.iload 6, 2) := by decide +kernel
theorem dX5_note_84 : decode cX5_note 84 = .ok (.if_icmp .le 25, 3) := by decide +kernel
theorem dX5_note_87 : decode cX5_note 87 = .ok (.aload_n 0, 1) := by decide +kernel
theorem dX5_note_88 : decode cX5_note 88 = .ok (.getfield 16, 3) := by decide +kernel
theorem dX5_note_91 : decode cX5_note 91 = .ok (.iload 8, 2) := by decide +kernel
theorem dX5_note_93 : decode cX5_note 93 = .ok (.aload_n 0, 1) := by decide +kernel
theorem dX5_note_94 : decode cX5_note 94 = .ok (.getfield 16, 3) := by decide +kernel
theorem dX5_note_97 : decode cX5_note 97 = .ok (.iload 8, 2) := by decide +kernel
theorem dX5_note_99 : decode cX5_note 99 = .ok (.iconst 1, 1) := by decide +kernel
theorem dX5_note_100 : decode cX5_note 100 = .ok (.isub, 1) := by decide +kernel
theorem dX5_note_101 : decode cX5_note 101 = .ok (.iaload, 1) := by decide +kernel
theorem dX5_note_102 : decode cX5_note 102 = .ok (.iastore, 1) := by decide +kernel
theorem dX5_note_103 : decode cX5_note 103 = .ok (.iinc 8 (-1), 3) := by decide +kernel
theorem dX5_note_106 : decode cX5_note 106 = .ok (.goto (-26), 3) := by decide +kernel
theorem dX5_note_109 : decode cX5_note 109 = .ok (.aload_n 0, 1) := by decide +kernel
theorem dX5_note_110 : decode cX5_note 110 = .ok (.getfield 16, 3) := by decide +kernel
theorem dX5_note_113 : decode cX5_note 113 = .ok (.iload 6, 2) := by decide +kernel
theorem dX5_note_115 : decode cX5_note 115 = .ok (.iload 5, 2) := by decide +kernel
theorem dX5_note_117 : decode cX5_note 117 = .ok (.iastore, 1) := by decide +kernel
theorem dX5_note_118 : decode cX5_note 118 = .ok (.aload_n 0, 1) := by decide +kernel
theorem dX5_note_119 : decode cX5_note 119 = .ok (.getfield 19, 3) := by decide +kernel
theorem dX5_note_122 : decode cX5_note 122 = .ok (.iload_n 1, 1) := by decide +kernel
theorem dX5_note_123 : decode cX5_note 123 = .ok (.dup2, 1) := by decide +kernel
theorem dX5_note_124 : decode cX5_note 124 = .ok (.iaload, 1) := by decide +kernel
theorem dX5_note_125 : decode cX5_note 125 = .ok (.iconst 1, 1) := by decide +kernel
theorem dX5_note_126 : decode cX5_note 126 = .ok (.iadd, 1) := by decide +kernel
theorem dX5_note_127 : decode cX5_note 127 = .ok (.iastore, 1) := by decide +kernel
theorem dX5_note_128 : decode cX5_note 128 = .ok (.return_, 1) := by decide +kernel
set_option maxRecDepth 20000 in
theorem ggX5_jumps_X5_note : GoodIn wsX5_jumps wsX5_note := goodIn_r _ [12, 13, 14, 15, 36, 37, 38, 39, 40, 41, 42, 43, 44, 45, 46, 47, 48, 49, 50, 51, 52, 53, 54, 55] (by decide +kernel) (by decide +kernel)
set_option maxRecDepth 20000 in
theorem gX5_jumps_X5_note : GoodIn wsX5_jumps (wsV RX5 78 RX5 yX5_note wsX5_note) := goodIn_app (goodIn_of _ (by decide +kernel)) ggX5_jumps_X5_note
set_option maxRecDepth 20000 in
theorem ggX5_jumps_X5_goes : GoodIn wsX5_jumps wsX5_goes := goodIn_r _ [18, 19, 20, 11, 21] (by decide +kernel) (by decide +kernel)
set_option maxRecDepth 20000 in
theorem gX5_jumps_X5_goes : GoodIn wsX5_jumps (va_wsS RX5 82 yX5_goes wsX5_goes) := goodIn_app (goodIn_of _ (by decide +kernel)) ggX5_jumps_X5_goes
set_option maxRecDepth 20000 in
theorem ggX5_jumps_X5_leap : GoodIn wsX5_jumps wsX5_leap := goodIn_r _ [25, 6, 7, 1, 26, 27, 28, 11, 29, 36, 37, 38, 39, 40, 41, 42, 43, 44, 45, 46, 47, 48, 49, 50, 51, 52, 53, 54, 55] (by decide +kernel) (by decide +kernel)
set_option maxRecDepth 20000 in
theorem gX5_jumps_X5_leap : GoodIn wsX5_jumps (wsV RX5 86 RX5 yX5_leap wsX5_leap) := goodIn_app (goodIn_of _ (by decide +kernel)) ggX5_jumps_X5_leap
set_option maxRecDepth 20000 in
theorem ggX5_jumps_X5_isKing : GoodIn wsX5_jumps wsX5_isKing := goodIn_r _ [21] (by decide +kernel) (by decide +kernel)
set_option maxRecDepth 20000 in
theorem gX5_jumps_X5_isKing : GoodIn wsX5_jumps (va_wsS RX5 73 yX5_isKing wsX5_isKing) := goodIn_app (goodIn_of _ (by decide +kernel)) ggX5_jumps_X5_isKing
set_option maxRecDepth 20000 in
theorem ggX5_jumps_X5_rowOf : GoodIn wsX5_jumps wsX5_rowOf := goodIn_r _ [32] (by decide +kernel) (by decide +kernel)
set_option maxRecDepth 20000 in
theorem gX5_jumps_X5_rowOf : GoodIn wsX5_jumps (va_wsS RX5 69 yX5_rowOf wsX5_rowOf) := goodIn_app (goodIn_of _ (by decide +kernel)) ggX5_jumps_X5_rowOf
set_option maxRecDepth 20000 in
theorem ggX5_jumps_X5_sideOf : GoodIn wsX5_jumps wsX5_sideOf := goodIn_r _ [29] (by decide +kernel) (by decide +kernel)
set_option maxRecDepth 20000 in
theorem gX5_jumps_X5_sideOf : GoodIn wsX5_jumps (va_wsS RX5 90 yX5_sideOf wsX5_sideOf) := goodIn_app (goodIn_of _ (by decide +kernel)) ggX5_jumps_X5_sideOf
set_option maxRecDepth 20000 in
theorem ggX5_jumps_X5_crowning : GoodIn wsX5_jumps wsX5_crowning := goodIn_r _ [35] (by decide +kernel) (by decide +kernel)
set_option maxRecDepth 20000 in
theorem gX5_jumps_X5_crowning : GoodIn wsX5_jumps (va_wsS RX5 93 yX5_crowning wsX5_crowning) := goodIn_app (goodIn_of _ (by decide +kernel)) ggX5_jumps_X5_crowning
theorem dX5_jumps_0 : decode cX5_jumps 0 = .ok (.aload_n 0, 1) := by decide +kernel
theorem dX5_jumps_1 : decode cX5_jumps 1 = .ok (.getfield 7, 3) := by decide +kernel
theorem dX5_jumps_4 : decode cX5_jumps 4 = .ok (.bipush 18, 2) := by decide +kernel
theorem dX5_jumps_6 : decode cX5_jumps 6 = .ok (.iload_n 1, 1) := by decide +kernel
theorem dX5_jumps_7 : decode cX5_jumps 7 = .ok (.imul, 1) := by decide +kernel
theorem dX5_jumps_8 : decode cX5_jumps 8 = .ok (.iload_n 2, 1) := by decide +kernel
theorem dX5_jumps_9 : decode cX5_jumps 9 = .ok (.iadd, 1) := by decide +kernel
theorem dX5_jumps_10 : decode cX5_jumps 10 = .ok (.iaload, 1) := by decide +kernel
theorem dX5_jumps_11 : decode cX5_jumps 11 = .ok (.istore_n 3, 1) := by decide +kernel
theorem dX5_jumps_12 : decode cX5_jumps 12 = .ok (.iconst 0, 1) := by decide +kernel
theorem dX5_jumps_13 : decode cX5_jumps 13 = .ok (.istore 4, 2) := by decide +kernel
theorem dX5_jumps_15 : decode cX5_jumps 15 = .ok (.aload_n 0, 1) := by decide +kernel
theorem dX5_jumps_16 : decode cX5_jumps 16 = .ok (.getfield 37, 3) := by decide +kernel
theorem dX5_jumps_19 : decode cX5_jumps 19 = .ok (.iconst 0, 1) := by decide +kernel
theorem dX5_jumps_20 : decode cX5_jumps 20 = .ok (.iload_n 2, 1) := by decide +kernel
theorem dX5_jumps_21 : decode cX5_jumps 21 = .ok (.iastore, 1) := by decide +kernel
theorem dX5_jumps_22 : decode cX5_jumps 22 = .ok (.aload_n 0, 1) := by decide +kernel
theorem dX5_jumps_23 : decode cX5_jumps 23 = .ok (.getfield 40, 3) := by decide +kernel
theorem dX5_jumps_26 : decode cX5_jumps 26 = .ok (.iconst 0, 1) := by decide +kernel
theorem dX5_jumps_27 : decode cX5_jumps 27 = .ok (.iconst 0, 1) := by decide +kernel
theorem dX5_jumps_28 : decode cX5_jumps 28 = .ok (.iastore, 1) := by decide +kernel
theorem dX5_jumps_29 : decode cX5_jumps 29 = .ok (.aload_n 0, 1) := by decide +kernel
theorem dX5_jumps_30 : decode cX5_jumps 30 = .ok (.getfield 43, 3) := by decide +kernel
theorem dX5_jumps_33 : decode cX5_jumps 33 = .ok (.iconst 0, 1) := by decide +kernel
theorem dX5_jumps_34 : decode cX5_jumps 34 = .ok (.iconst 0, 1) := by decide +kernel
theorem dX5_jumps_35 : decode cX5_jumps 35 = .ok (.iastore, 1) := by decide +kernel
theorem dX5_jumps_36 : decode cX5_jumps 36 = .ok (.aload_n 0, 1) := by decide +kernel
theorem dX5_jumps_37 : decode cX5_jumps 37 = .ok (.getfield 46, 3) := by decide +kernel
theorem dX5_jumps_40 : decode cX5_jumps 40 = .ok (.iconst 0, 1) := by decide +kernel
theorem dX5_jumps_41 : decode cX5_jumps 41 = .ok (.iconst 0, 1) := by decide +kernel
theorem dX5_jumps_42 : decode cX5_jumps 42 = .ok (.bastore, 1) := by decide +kernel
theorem dX5_jumps_43 : decode cX5_jumps 43 = .ok (.iload 4, 2) := by decide +kernel
theorem dX5_jumps_45 : decode cX5_jumps 45 = .ok (.ifCond .lt 239, 3) := by decide +kernel
theorem dX5_jumps_48 : decode cX5_jumps 48 = .ok (.aload_n 0, 1) := by decide +kernel
theorem dX5_jumps_49 : decode cX5_jumps 49 = .ok (.getfield 43, 3) := by decide +kernel
theorem dX5_jumps_52 : decode cX5_jumps 52 = .ok (.iload 4, 2) := by decide +kernel
theorem dX5_jumps_54 : decode cX5_jumps 54 = .ok (.iaload, 1) := by decide +kernel
theorem dX5_jumps_55 : decode cX5_jumps 55 = .ok (.istore 5, 2) := by decide +kernel
theorem dX5_jumps_57 : decode cX5_jumps 57 = .ok (.aload_n 0, 1) := by decide +kernel
theorem dX5_jumps_58 : decode cX5_jumps 58 = .ok (.getfield 43, 3) := by decide +kernel
theorem dX5_jumps_61 : decode cX5_jumps 61 = .ok (.iload 4, 2) := by decide +kernel
theorem dX5_jumps_63 : decode cX5_jumps 63 = .ok (.dup2, 1) := by decide +kernel
theorem dX5_jumps_64 : decode cX5_jumps 64 = .ok (.iaload, 1) := by decide +kernel
theorem dX5_jumps_65 : decode cX5_jumps 65 = .ok (.iconst 1, 1) := by decide +kernel
theorem dX5_jumps_66 : decode cX5_jumps 66 = .ok (.iadd, 1) := by decide +kernel
theorem dX5_jumps_67 : decode cX5_jumps 67 = .ok (.iastore, 1) := by decide +kernel
theorem dX5_jumps_68 : decode cX5_jumps 68 = .ok (.iload 5, 2) := by decide +kernel
theorem dX5_jumps_70 : decode cX5_jumps 70 = .ok (.iconst 4, 1) := by decide +kernel
theorem dX5_jumps_71 : decode cX5_jumps 71 = .ok (.if_icmp .ne 44, 3) := by decide +kernel
theorem dX5_jumps_74 : decode cX5_jumps 74 = .ok (.iload 4, 2) := by decide +kernel
theorem dX5_jumps_76 : decode cX5_jumps 76 = .ok (.ifCond .le 33, 3) := by decide +kernel
theorem dX5_jumps_79 : decode cX5_jumps 79 = .ok (.aload_n 0, 1) := by decide +kernel
theorem dX5_jumps_80 : decode cX5_jumps 80 = .ok (.getfield 46, 3) := by decide +kernel
theorem dX5_jumps_83 : decode cX5_jumps 83 = .ok (.iload 4, 2) := by decide +kernel
theorem dX5_jumps_85 : decode cX5_jumps 85 = .ok (.baload, 1) := by decide +kernel
theorem dX5_jumps_86 : decode cX5_jumps 86 = .ok (.ifCond .ne 23, 3) := by decide +kernel
theorem dX5_jumps_89 : decode cX5_jumps 89 = .ok (.aload_n 0, 1) := by decide +kernel
theorem dX5_jumps_90 : decode cX5_jumps 90 = .ok (.iload_n 1, 1) := by decide +kernel
theorem dX5_jumps_91 : decode cX5_jumps 91 = .ok (.iload_n 2, 1) := by decide +kernel
theorem dX5_jumps_92 : decode cX5_jumps 92 = .ok (.aload_n 0, 1) := by decide +kernel
theorem dX5_jumps_93 : decode cX5_jumps 93 = .ok (.getfield 37, 3) := by decide +kernel
theorem dX5_jumps_96 : decode cX5_jumps 96 = .ok (.iload 4, 2) := by decide +kernel
theorem dX5_jumps_98 : decode cX5_jumps 98 = .ok (.iaload, 1) := by decide +kernel
theorem dX5_jumps_99 : decode cX5_jumps 99 = .ok (.aload_n 0, 1) := by decide +kernel
theorem dX5_jumps_100 : decode cX5_jumps 100 = .ok (.getfield 40, 3) := by decide +kernel
theorem dX5_jumps_103 : decode cX5_jumps 103 = .ok (.iload 4, 2) := by decide +kernel
theorem dX5_jumps_105 : decode cX5_jumps 105 = .ok (.iaload, 1) := by decide +kernel
theorem dX5_jumps_106 : decode cX5_jumps 106 = .ok (.invokevirtual 78, 3) := by decide +kernel
theorem dX5_jumps_109 : decode cX5_jumps 109 = .ok (.iinc 4 (-1), 3) := by decide +kernel
theorem dX5_jumps_112 : decode cX5_jumps 112 = .ok (.goto 169, 3) := by decide +kernel
theorem dX5_jumps_115 : decode cX5_jumps 115 = .ok (.iload_n 3, 1) := by decide +kernel
theorem dX5_jumps_116 : decode cX5_jumps 116 = .ok (.iload 5, 2) := by decide +kernel
theorem dX5_jumps_118 : decode cX5_jumps 118 = .ok (.invokestatic 82, 3) := by decide +kernel
theorem dX5_jumps_121 : decode cX5_jumps 121 = .ok (.ifCond .eq 160, 3) := by decide +kernel
theorem dX5_jumps_124 : decode cX5_jumps 124 = .ok (.aload_n 0, 1) := by decide +kernel
theorem dX5_jumps_125 : decode cX5_jumps 125 = .ok (.iload_n 1, 1) := by decide +kernel
theorem dX5_jumps_126 : decode cX5_jumps 126 = .ok (.iload_n 2, 1) := by decide +kernel
theorem dX5_jumps_127 : decode cX5_jumps 127 = .ok (.aload_n 0, 1) := by decide +kernel
theorem dX5_jumps_128 : decode cX5_jumps 128 = .ok (.getfield 37, 3) := by decide +kernel
theorem dX5_jumps_131 : decode cX5_jumps 131 = .ok (.iload 4, 2) := by decide +kernel
theorem dX5_jumps_133 : decode cX5_jumps 133 = .ok (.iaload, 1) := by decide +kernel
theorem dX5_jumps_134 : decode cX5_jumps 134 = .ok (.aload_n 0, 1) := by decide +kernel
theorem dX5_jumps_135 : decode cX5_jumps 135 = .ok (.getfield 40, 3) := by decide +kernel
theorem dX5_jumps_138 : decode cX5_jumps 138 = .ok (.iload 4, 2) := by decide +kernel
theorem dX5_jumps_140 : decode cX5_jumps 140 = .ok (.iaload, 1) := by decide +kernel
theorem dX5_jumps_141 : decode cX5_jumps 141 = .ok (.iload 5, 2) := by decide +kernel
theorem dX5_jumps_143 : decode cX5_jumps 143 = .ok (.invokevirtual 86, 3) := by decide +kernel
theorem dX5_jumps_146 : decode cX5_jumps 146 = .ok (.ifCond .eq 135, 3) := by decide +kernel
theorem dX5_jumps_149 : decode cX5_jumps 149 = .ok (.aload_n 0, 1) := by decide +kernel
theorem dX5_jumps_150 : decode cX5_jumps 150 = .ok (.getfield 46, 3) := by decide +kernel
theorem dX5_jumps_153 : decode cX5_jumps 153 = .ok (.iload 4, 2) := by decide +kernel
theorem dX5_jumps_155 : decode cX5_jumps 155 = .ok (.iconst 1, 1) := by decide +kernel
theorem dX5_jumps_156 : decode cX5_jumps 156 = .ok (.bastore, 1) := by decide +kernel
theorem dX5_jumps_157 : decode cX5_jumps 157 = .ok (.aload_n 0, 1) := by decide +kernel
theorem dX5_jumps_158 : decode cX5_jumps 158 = .ok (.getfield 31, 3) := by decide +kernel
theorem dX5_jumps_161 : decode cX5_jumps 161 = .ok (.iconst 4, 1) := by decide +kernel
theorem dX5_jumps_162 : decode cX5_jumps 162 = .ok (.aload_n 0, 1) := by decide +kernel
theorem dX5_jumps_163 : decode cX5_jumps 163 = .ok (.getfield 37, 3) := by decide +kernel
theorem dX5_jumps_166 : decode cX5_jumps 166 = .ok (.iload 4, 2) := by decide +kernel
theorem dX5_jumps_168 : decode cX5_jumps 168 = .ok (.iaload, 1) := by decide +kernel
theorem dX5_jumps_169 : decode cX5_jumps 169 = .ok (.imul, 1) := by decide +kernel
theorem dX5_jumps_170 : decode cX5_jumps 170 = .ok (.iload 5, 2) := by decide +kernel
theorem dX5_jumps_172 : decode cX5_jumps 172 = .ok (.iadd, 1) := by decide +kernel
theorem dX5_jumps_173 : decode cX5_jumps 173 = .ok (.iaload, 1) := by decide +kernel
theorem dX5_jumps_174 : decode cX5_jumps 174 = .ok (.istore 6, 2) := by decide +kernel
theorem dX5_jumps_176 : decode cX5_jumps 176 = .ok (.aload_n 0, 1) := by decide +kernel
theorem dX5_jumps_177 : decode cX5_jumps 177 = .ok (.getfield 34, 3) := by decide +kernel
theorem dX5_jumps_180 : decode cX5_jumps 180 = .ok (.iconst 4, 1) := by decide +kernel
theorem dX5_jumps_181 : decode cX5_jumps 181 = .ok (.aload_n 0, 1) := by decide +kernel
theorem dX5_jumps_182 : decode cX5_jumps 182 = .ok (.getfield 37, 3) := by decide +kernel
theorem dX5_jumps_185 : decode cX5_jumps 185 = .ok (.iload 4, 2) := by decide +kernel
theorem dX5_jumps_187 : decode cX5_jumps 187 = .ok (.iaload, 1) := by decide +kernel
theorem dX5_jumps_188 : decode cX5_jumps 188 = .ok (.imul, 1) := by decide +kernel
theorem dX5_jumps_189 : decode cX5_jumps 189 = .ok (.iload 5, 2) := by decide +kernel
theorem dX5_jumps_191 : decode cX5_jumps 191 = .ok (.iadd, 1) := by decide +kernel
theorem dX5_jumps_192 : decode cX5_jumps 192 = .ok (.iaload, 1) := by decide +kernel
theorem dX5_jumps_193 : decode cX5_jumps 193 = .ok (.istore 7, 2) := by decide +kernel
theorem dX5_jumps_195 : decode cX5_jumps 195 = .ok (.aload_n 0, 1) := by decide +kernel
theorem dX5_jumps_196 : decode cX5_jumps 196 = .ok (.getfield 40, 3) := by decide +kernel
theorem dX5_jumps_199 : decode cX5_jumps 199 = .ok (.iload 4, 2) := by decide +kernel
theorem dX5_jumps_201 : decode cX5_jumps 201 = .ok (.iaload, 1) := by decide +kernel
theorem dX5_jumps_202 : decode cX5_jumps 202 = .ok (.iconst 1, 1) := by decide +kernel
theorem dX5_jumps_203 : decode cX5_jumps 203 = .ok (.iload 6, 2) := by decide +kernel
theorem dX5_jumps_205 : decode cX5_jumps 205 = .ok (.ishl, 1) := by decide +kernel
theorem dX5_jumps_206 : decode cX5_jumps 206 = .ok (.iadd, 1) := by decide +kernel
theorem dX5_jumps_207 : decode cX5_jumps 207 = .ok (.istore 8, 2) := by decide +kernel
theorem dX5_jumps_209 : decode cX5_jumps 209 = .ok (.iload_n 3, 1) := by decide +kernel
theorem dX5_jumps_210 : decode cX5_jumps 210 = .ok (.invokestatic 73, 3) := by decide +kernel
theorem dX5_jumps_213 : decode cX5_jumps 213 = .ok (.ifCond .ne 31, 3) := by decide +kernel
theorem dX5_jumps_216 : decode cX5_jumps 216 = .ok (.iload 7, 2) := by decide +kernel
theorem dX5_jumps_218 : decode cX5_jumps 218 = .ok (.invokestatic 69, 3) := by decide +kernel
theorem dX5_jumps_221 : decode cX5_jumps 221 = .ok (.iload_n 3, 1) := by decide +kernel
theorem dX5_jumps_222 : decode cX5_jumps 222 = .ok (.invokestatic 90, 3) := by decide +kernel
theorem dX5_jumps_225 : decode cX5_jumps 225 = .ok (.invokestatic 93, 3) := by decide +kernel
theorem dX5_jumps_228 : decode cX5_jumps 228 = .ok (.if_icmp .ne 16, 3) := by decide +kernel
theorem dX5_jumps_231 : decode cX5_jumps 231 = .ok (.aload_n 0, 1) := by decide +kernel
theorem dX5_jumps_232 : decode cX5_jumps 232 = .ok (.iload_n 1, 1) := by decide +kernel
theorem dX5_jumps_233 : decode cX5_jumps 233 = .ok (.iload_n 2, 1) := by decide +kernel
theorem dX5_jumps_234 : decode cX5_jumps 234 = .ok (.iload 7, 2) := by decide +kernel
theorem dX5_jumps_236 : decode cX5_jumps 236 = .ok (.iload 8, 2) := by decide +kernel
theorem dX5_jumps_238 : decode cX5_jumps 238 = .ok (.invokevirtual 78, 3) := by decide +kernel
theorem dX5_jumps_241 : decode cX5_jumps 241 = .ok (.goto 40, 3) := by decide +kernel
theorem dX5_jumps_244 : decode cX5_jumps 244 = .ok (.iinc 4 1, 3) := by decide +kernel
theorem dX5_jumps_247 : decode cX5_jumps 247 = .ok (.aload_n 0, 1) := by decide +kernel
theorem dX5_jumps_248 : decode cX5_jumps 248 = .ok (.getfield 37, 3) := by decide +kernel
theorem dX5_jumps_251 : decode cX5_jumps 251 = .ok (.iload 4, 2) := by decide +kernel
theorem dX5_jumps_253 : decode cX5_jumps 253 = .ok (.iload 7, 2) := by decide +kernel
theorem dX5_jumps_255 : decode cX5_jumps 255 = .ok (.iastore, 1) := by decide +kernel
theorem dX5_jumps_256 : decode cX5_jumps 256 = .ok (.aload_n 0, 1) := by decide +kernel
theorem dX5_jumps_257 : decode cX5_jumps 257 = .ok (.getfield 40, 3) := by decide +kernel
theorem dX5_jumps_260 : decode cX5_jumps 260 = .ok (.iload 4, 2) := by decide +kernel
theorem dX5_jumps_262 : decode cX5_jumps 262 = .ok (.iload 8, 2) := by decide +kernel
theorem dX5_jumps_264 : decode cX5_jumps 264 = .ok (.iastore, 1) := by decide +kernel
theorem dX5_jumps_265 : decode cX5_jumps 265 = .ok (.aload_n 0, 1) := by decide +kernel
theorem dX5_jumps_266 : decode cX5_jumps 266 = .ok (.getfield 43, 3) := by decide +kernel
theorem dX5_jumps_269 : decode cX5_jumps 269 = .ok (.iload 4, 2) := by decide +kernel
theorem dX5_jumps_271 : decode cX5_jumps 271 = .ok (.iconst 0, 1) := by decide +kernel
theorem dX5_jumps_272 : decode cX5_jumps 272 = .ok (.iastore, 1) := by decide +kernel
theorem dX5_jumps_273 : decode cX5_jumps 273 = .ok (.aload_n 0, 1) := by decide +kernel
theorem dX5_jumps_274 : decode cX5_jumps 274 = .ok (.getfield 46, 3) := by decide +kernel
theorem dX5_jumps_277 : decode cX5_jumps 277 = .ok (.iload 4, 2) := by decide +kernel
theorem dX5_jumps_279 : decode cX5_jumps 279 = .ok (.iconst 0, 1) := by decide +kernel
theorem dX5_jumps_280 : decode cX5_jumps 280 = .ok (.bastore, 1) := by decide +kernel
theorem dX5_jumps_281 : decode cX5_jumps 281 = .ok (.goto (-238), 3) := by decide +kernel
theorem dX5_jumps_284 : decode cX5_jumps 284 = .ok (.return_, 1) := by decide +kernel
set_option maxRecDepth 20000 in
theorem ggX5_leap_X5_sideOf : GoodIn wsX5_leap wsX5_sideOf := goodIn_r _ [8] (by decide +kernel) (by decide +kernel)
set_option maxRecDepth 20000 in
theorem gX5_leap_X5_sideOf : GoodIn wsX5_leap (va_wsS RX5 90 yX5_sideOf wsX5_sideOf) := goodIn_app (goodIn_of _ (by decide +kernel)) ggX5_leap_X5_sideOf
theorem dX5_leap_0 : decode cX5_leap 0 = .ok (.aload_n 0, 1) := by decide +kernel
theorem dX5_leap_1 : decode cX5_leap 1 = .ok (.getfield 31, 3) := by decide +kernel
theorem dX5_leap_4 : decode cX5_leap 4 = .ok (.iconst 4, 1) := by decide +kernel
theorem dX5_leap_5 : decode cX5_leap 5 = .ok (.iload_n 3, 1) := by decide +kernel
theorem dX5_leap_6 : decode cX5_leap 6 = .ok (.imul, 1) := by decide +kernel
theorem dX5_leap_7 : decode cX5_leap 7 = .ok (.iload 5, 2) := by decide +kernel
theorem dX5_leap_9 : decode cX5_leap 9 = .ok (.iadd, 1) := by decide +kernel
theorem dX5_leap_10 : decode cX5_leap 10 = .ok (.iaload, 1) := by decide +kernel
theorem dX5_leap_11 : decode cX5_leap 11 = .ok (.istore 6, 2) := by decide +kernel
theorem dX5_leap_13 : decode cX5_leap 13 = .ok (.aload_n 0, 1) := by decide +kernel
theorem dX5_leap_14 : decode cX5_leap 14 = .ok (.getfield 34, 3) := by decide +kernel
theorem dX5_leap_17 : decode cX5_leap 17 = .ok (.iconst 4, 1) := by decide +kernel
theorem dX5_leap_18 : decode cX5_leap 18 = .ok (.iload_n 3, 1) := by decide +kernel
theorem dX5_leap_19 : decode cX5_leap 19 = .ok (.imul, 1) := by decide +kernel
theorem dX5_leap_20 : decode cX5_leap 20 = .ok (.iload 5, 2) := by decide +kernel
theorem dX5_leap_22 : decode cX5_leap 22 = .ok (.iadd, 1) := by decide +kernel
theorem dX5_leap_23 : decode cX5_leap 23 = .ok (.iaload, 1) := by decide +kernel
theorem dX5_leap_24 : decode cX5_leap 24 = .ok (.istore 7, 2) := by decide +kernel
theorem dX5_leap_26 : decode cX5_leap 26 = .ok (.iload 7, 2) := by decide +kernel
theorem dX5_leap_28 : decode cX5_leap 28 = .ok (.ifCond .lt 14, 3) := by decide +kernel
theorem dX5_leap_31 : decode cX5_leap 31 = .ok (.iload 4, 2) := by decide +kernel
theorem dX5_leap_33 : decode cX5_leap 33 = .ok (.iload 6, 2) := by decide +kernel
theorem dX5_leap_35 : decode cX5_leap 35 = .ok (.ishr, 1) := by decide +kernel
theorem dX5_leap_36 : decode cX5_leap 36 = .ok (.iconst 1, 1) := by decide +kernel
theorem dX5_leap_37 : decode cX5_leap 37 = .ok (.iand, 1) := by decide +kernel
theorem dX5_leap_38 : decode cX5_leap 38 = .ok (.iconst 1, 1) := by decide +kernel
theorem dX5_leap_39 : decode cX5_leap 39 = .ok (.if_icmp .ne 5, 3) := by decide +kernel
theorem dX5_leap_42 : decode cX5_leap 42 = .ok (.iconst 0, 1) := by decide +kernel
theorem dX5_leap_43 : decode cX5_leap 43 = .ok (.ireturn, 1) := by decide +kernel
theorem dX5_leap_44 : decode cX5_leap 44 = .ok (.aload_n 0, 1) := by decide +kernel
theorem dX5_leap_45 : decode cX5_leap 45 = .ok (.getfield 7, 3) := by decide +kernel
theorem dX5_leap_48 : decode cX5_leap 48 = .ok (.bipush 18, 2) := by decide +kernel
theorem dX5_leap_50 : decode cX5_leap 50 = .ok (.iload_n 1, 1) := by decide +kernel
theorem dX5_leap_51 : decode cX5_leap 51 = .ok (.imul, 1) := by decide +kernel
theorem dX5_leap_52 : decode cX5_leap 52 = .ok (.iload 6, 2) := by decide +kernel
theorem dX5_leap_54 : decode cX5_leap 54 = .ok (.iadd, 1) := by decide +kernel
theorem dX5_leap_55 : decode cX5_leap 55 = .ok (.iaload, 1) := by decide +kernel
theorem dX5_leap_56 : decode cX5_leap 56 = .ok (.invokestatic 90, 3) := by decide +kernel
theorem dX5_leap_59 : decode cX5_leap 59 = .ok (.iconst 1, 1) := by decide +kernel
theorem dX5_leap_60 : decode cX5_leap 60 = .ok (.aload_n 0, 1) := by decide +kernel
theorem dX5_leap_61 : decode cX5_leap 61 = .ok (.getfield 13, 3) := by decide +kernel
theorem dX5_leap_64 : decode cX5_leap 64 = .ok (.iload_n 1, 1) := by decide +kernel
theorem dX5_leap_65 : decode cX5_leap 65 = .ok (.iaload, 1) := by decide +kernel
theorem dX5_leap_66 : decode cX5_leap 66 = .ok (.isub, 1) := by decide +kernel
theorem dX5_leap_67 : decode cX5_leap 67 = .ok (.if_icmp .ne 28, 3) := by decide +kernel
theorem dX5_leap_70 : decode cX5_leap 70 = .ok (.aload_n 0, 1) := by decide +kernel
theorem dX5_leap_71 : decode cX5_leap 71 = .ok (.getfield 7, 3) := by decide +kernel
theorem dX5_leap_74 : decode cX5_leap 74 = .ok (.bipush 18, 2) := by decide +kernel
theorem dX5_leap_76 : decode cX5_leap 76 = .ok (.iload_n 1, 1) := by decide +kernel
theorem dX5_leap_77 : decode cX5_leap 77 = .ok (.imul, 1) := by decide +kernel
theorem dX5_leap_78 : decode cX5_leap 78 = .ok (.iload 7, 2) := by decide +kernel
theorem dX5_leap_80 : decode cX5_leap 80 = .ok (.iadd, 1) := by decide +kernel
theorem dX5_leap_81 : decode cX5_leap 81 = .ok (.iaload, 1) := by decide +kernel
theorem dX5_leap_82 : decode cX5_leap 82 = .ok (.ifCond .eq 9, 3) := by decide +kernel
theorem dX5_leap_85 : decode cX5_leap 85 = .ok (.iload 7, 2) := by decide +kernel
theorem dX5_leap_87 : decode cX5_leap 87 = .ok (.iload_n 2, 1) := by decide +kernel
theorem dX5_leap_88 : decode cX5_leap 88 = .ok (.if_icmp .ne 7, 3) := by decide +kernel
theorem dX5_leap_91 : decode cX5_leap 91 = .ok (.iconst 1, 1) := by decide +kernel
theorem dX5_leap_92 : decode cX5_leap 92 = .ok (.goto 4, 3) := by decide +kernel
theorem dX5_leap_95 : decode cX5_leap 95 = .ok (.iconst 0, 1) := by decide +kernel
theorem dX5_leap_96 : decode cX5_leap 96 = .ok (.ireturn, 1) := by decide +kernel
set_option maxRecDepth 20000 in
theorem ggX5_steps_X5_goes : GoodIn wsX5_steps wsX5_goes := goodIn_r _ [6, 7, 8, 5, 9] (by decide +kernel) (by decide +kernel)
set_option maxRecDepth 20000 in
theorem gX5_steps_X5_goes : GoodIn wsX5_steps (va_wsS RX5 82 yX5_goes wsX5_goes) := goodIn_app (goodIn_of _ (by decide +kernel)) ggX5_steps_X5_goes
set_option maxRecDepth 20000 in
theorem ggX5_steps_X5_note : GoodIn wsX5_steps wsX5_note := goodIn_r _ [13, 14, 15, 16, 17, 18, 19, 20, 21, 22, 23, 24, 25, 26, 27, 28, 29, 30, 31, 32, 33, 34, 35, 36] (by decide +kernel) (by decide +kernel)
set_option maxRecDepth 20000 in
theorem gX5_steps_X5_note : GoodIn wsX5_steps (wsV RX5 78 RX5 yX5_note wsX5_note) := goodIn_app (goodIn_of _ (by decide +kernel)) ggX5_steps_X5_note
theorem dX5_steps_0 : decode cX5_steps 0 = .ok (.aload_n 0, 1) := by decide +kernel
theorem dX5_steps_1 : decode cX5_steps 1 = .ok (.getfield 7, 3) := by decide +kernel
theorem dX5_steps_4 : decode cX5_steps 4 = .ok (.bipush 18, 2) := by decide +kernel
theorem dX5_steps_6 : decode cX5_steps 6 = .ok (.iload_n 1, 1) := by decide +kernel
theorem dX5_steps_7 : decode cX5_steps 7 = .ok (.imul, 1) := by decide +kernel
theorem dX5_steps_8 : decode cX5_steps 8 = .ok (.iload_n 2, 1) := by decide +kernel
theorem dX5_steps_9 : decode cX5_steps 9 = .ok (.iadd, 1) := by decide +kernel
theorem dX5_steps_10 : decode cX5_steps 10 = .ok (.iaload, 1) := by decide +kernel
theorem dX5_steps_11 : decode cX5_steps 11 = .ok (.istore_n 3, 1) := by decide +kernel
theorem dX5_steps_12 : decode cX5_steps 12 = .ok (.iconst 0, 1) := by decide +kernel
theorem dX5_steps_13 : decode cX5_steps 13 = .ok (.istore 4, 2) := by decide +kernel
theorem dX5_steps_15 : decode cX5_steps 15 = .ok (.iload 4, 2) := by decide +kernel
theorem dX5_steps_17 : decode cX5_steps 17 = .ok (.iconst 4, 1) := by decide +kernel
theorem dX5_steps_18 : decode cX5_steps 18 = .ok (.if_icmp .ge 60, 3) := by decide +kernel
theorem dX5_steps_21 : decode cX5_steps 21 = .ok (.aload_n 0, 1) := by decide +kernel
theorem dX5_steps_22 : decode cX5_steps 22 = .ok (.getfield 31, 3) := by decide +kernel
theorem dX5_steps_25 : decode cX5_steps 25 = .ok (.iconst 4, 1) := by decide +kernel
theorem dX5_steps_26 : decode cX5_steps 26 = .ok (.iload_n 2, 1) := by decide +kernel
theorem dX5_steps_27 : decode cX5_steps 27 = .ok (.imul, 1) := by decide +kernel
theorem dX5_steps_28 : decode cX5_steps 28 = .ok (.iload 4, 2) := by decide +kernel
theorem dX5_steps_30 : decode cX5_steps 30 = .ok (.iadd, 1) := by decide +kernel
theorem dX5_steps_31 : decode cX5_steps 31 = .ok (.iaload, 1) := by decide +kernel
theorem dX5_steps_32 : decode cX5_steps 32 = .ok (.istore 5, 2) := by decide +kernel
theorem dX5_steps_34 : decode cX5_steps 34 = .ok (.iload 5, 2) := by decide +kernel
theorem dX5_steps_36 : decode cX5_steps 36 = .ok (.ifCond .lt 36, 3) := by decide +kernel
theorem dX5_steps_39 : decode cX5_steps 39 = .ok (.iload_n 3, 1) := by decide +kernel
theorem dX5_steps_40 : decode cX5_steps 40 = .ok (.iload 4, 2) := by decide +kernel
theorem dX5_steps_42 : decode cX5_steps 42 = .ok (.invokestatic 82, 3) := by decide +kernel
theorem dX5_steps_45 : decode cX5_steps 45 = .ok (.ifCond .eq 27, 3) := by decide +kernel
theorem dX5_steps_48 : decode cX5_steps 48 = .ok (.aload_n 0, 1) := by decide +kernel
theorem dX5_steps_49 : decode cX5_steps 49 = .ok (.getfield 7, 3) := by decide +kernel
theorem dX5_steps_52 : decode cX5_steps 52 = .ok (.bipush 18, 2) := by decide +kernel
theorem dX5_steps_54 : decode cX5_steps 54 = .ok (.iload_n 1, 1) := by decide +kernel
theorem dX5_steps_55 : decode cX5_steps 55 = .ok (.imul, 1) := by decide +kernel
theorem dX5_steps_56 : decode cX5_steps 56 = .ok (.iload 5, 2) := by decide +kernel
theorem dX5_steps_58 : decode cX5_steps 58 = .ok (.iadd, 1) := by decide +kernel
theorem dX5_steps_59 : decode cX5_steps 59 = .ok (.iaload, 1) := by decide +kernel
theorem dX5_steps_60 : decode cX5_steps 60 = .ok (.ifCond .ne 12, 3) := by decide +kernel
theorem dX5_steps_63 : decode cX5_steps 63 = .ok (.aload_n 0, 1) := by decide +kernel
theorem dX5_steps_64 : decode cX5_steps 64 = .ok (.iload_n 1, 1) := by decide +kernel
theorem dX5_steps_65 : decode cX5_steps 65 = .ok (.iload_n 2, 1) := by decide +kernel
theorem dX5_steps_66 : decode cX5_steps 66 = .ok (.iload 5, 2) := by decide +kernel
theorem dX5_steps_68 : decode cX5_steps 68 = .ok (.iconst 0, 1) := by decide +kernel
theorem dX5_steps_69 : decode cX5_steps 69 = .ok (.invokevirtual 78, 3) := by decide +kernel
theorem dX5_steps_72 : decode cX5_steps 72 = .ok (.iinc 4 1, 3) := by decide +kernel
theorem dX5_steps_75 : decode cX5_steps 75 = .ok (.goto (-60), 3) := by decide +kernel
theorem dX5_steps_78 : decode cX5_steps 78 = .ok (.return_, 1) := by decide +kernel
set_option maxRecDepth 20000 in
theorem ggX5_generate_X5_sideOf : GoodIn wsX5_generate wsX5_sideOf := goodIn_r _ [7] (by decide +kernel) (by decide +kernel)
set_option maxRecDepth 20000 in
theorem gX5_generate_X5_sideOf : GoodIn wsX5_generate (va_wsS RX5 90 yX5_sideOf wsX5_sideOf) := goodIn_app (goodIn_of _ (by decide +kernel)) ggX5_generate_X5_sideOf
set_option maxRecDepth 20000 in
theorem ggX5_generate_X5_jumps : GoodIn wsX5_generate wsX5_jumps := goodIn_r _ [11, 2, 12, 13, 14, 15, 16, 17, 18, 19, 20, 6, 21, 22, 1, 23, 24, 25, 26, 27, 28, 29, 30, 31, 32, 33, 3, 4, 5, 7, 34, 35, 36, 37, 38, 39, 44, 45, 46, 47, 48, 49, 50, 51, 52, 53, 54, 55, 56, 57, 58, 59, 60, 61, 62, 63] (by decide +kernel) (by decide +kernel)
set_option maxRecDepth 20000 in
theorem gX5_generate_X5_jumps : GoodIn wsX5_generate (wsV RX5 96 RX5 yX5_jumps wsX5_jumps) := goodIn_app (goodIn_of _ (by decide +kernel)) ggX5_generate_X5_jumps
set_option maxRecDepth 20000 in
theorem ggX5_generate_X5_steps : GoodIn wsX5_generate wsX5_steps := goodIn_r _ [43, 2, 16, 24, 25, 6, 26, 27, 28, 29, 18, 19, 20, 21, 22, 1, 23, 44, 45, 46, 47, 48, 49, 50, 51, 52, 53, 54, 55, 56, 57, 58, 59, 60, 61, 62, 63] (by decide +kernel) (by decide +kernel)
set_option maxRecDepth 20000 in
theorem gX5_generate_X5_steps : GoodIn wsX5_generate (wsV RX5 100 RX5 yX5_steps wsX5_steps) := goodIn_app (goodIn_of _ (by decide +kernel)) ggX5_generate_X5_steps
theorem dX5_generate_0 : decode cX5_generate 0 = .ok (.aload_n 0, 1) := by decide +kernel
theorem dX5_generate_1 : decode cX5_generate 1 = .ok (.getfield 19, 3) := by decide +kernel
theorem dX5_generate_4 : decode cX5_generate 4 = .ok (.iload_n 1, 1) := by decide +kernel
theorem dX5_generate_5 : decode cX5_generate 5 = .ok (.iconst 0, 1) := by decide +kernel
theorem dX5_generate_6 : decode cX5_generate 6 = .ok (.iastore, 1) := by decide +kernel
theorem dX5_generate_7 : decode cX5_generate 7 = .ok (.iconst 0, 1) := by decide +kernel
theorem dX5_generate_8 : decode cX5_generate 8 = .ok (.istore_n 2, 1) := by decide +kernel
theorem dX5_generate_9 : decode cX5_generate 9 = .ok (.iload_n 2, 1) := by decide +kernel
theorem dX5_generate_10 : decode cX5_generate 10 = .ok (.bipush 18, 2) := by decide +kernel
theorem dX5_generate_12 : decode cX5_generate 12 = .ok (.if_icmp .ge 38, 3) := by decide +kernel
theorem dX5_generate_15 : decode cX5_generate 15 = .ok (.aload_n 0, 1) := by decide +kernel
theorem dX5_generate_16 : decode cX5_generate 16 = .ok (.getfield 7, 3) := by decide +kernel
theorem dX5_generate_19 : decode cX5_generate 19 = .ok (.bipush 18, 2) := by decide +kernel
theorem dX5_generate_21 : decode cX5_generate 21 = .ok (.iload_n 1, 1) := by decide +kernel
theorem dX5_generate_22 : decode cX5_generate 22 = .ok (.imul, 1) := by decide +kernel
theorem dX5_generate_23 : decode cX5_generate 23 = .ok (.iload_n 2, 1) := by decide +kernel
theorem dX5_generate_24 : decode cX5_generate 24 = .ok (.iadd, 1) := by decide +kernel
theorem dX5_generate_25 : decode cX5_generate 25 = .ok (.iaload, 1) := by decide +kernel
theorem dX5_generate_26 : decode cX5_generate 26 = .ok (.invokestatic 90, 3) := by decide +kernel
theorem dX5_generate_29 : decode cX5_generate 29 = .ok (.aload_n 0, 1) := by decide +kernel
theorem dX5_generate_30 : decode cX5_generate 30 = .ok (.getfield 13, 3) := by decide +kernel
theorem dX5_generate_33 : decode cX5_generate 33 = .ok (.iload_n 1, 1) := by decide +kernel
theorem dX5_generate_34 : decode cX5_generate 34 = .ok (.iaload, 1) := by decide +kernel
theorem dX5_generate_35 : decode cX5_generate 35 = .ok (.if_icmp .ne 9, 3) := by decide +kernel
theorem dX5_generate_38 : decode cX5_generate 38 = .ok (.aload_n 0, 1) := by decide +kernel
theorem dX5_generate_39 : decode cX5_generate 39 = .ok (.iload_n 1, 1) := by decide +kernel
theorem dX5_generate_40 : decode cX5_generate 40 = .ok (.iload_n 2, 1) := by decide +kernel
theorem dX5_generate_41 : decode cX5_generate 41 = .ok (.invokevirtual 96, 3) := by decide +kernel
theorem dX5_generate_44 : decode cX5_generate 44 = .ok (.iinc 2 1, 3) := by decide +kernel
theorem dX5_generate_47 : decode cX5_generate 47 = .ok (.goto (-38), 3) := by decide +kernel
theorem dX5_generate_50 : decode cX5_generate 50 = .ok (.aload_n 0, 1) := by decide +kernel
theorem dX5_generate_51 : decode cX5_generate 51 = .ok (.getfield 19, 3) := by decide +kernel
theorem dX5_generate_54 : decode cX5_generate 54 = .ok (.iload_n 1, 1) := by decide +kernel
theorem dX5_generate_55 : decode cX5_generate 55 = .ok (.iaload, 1) := by decide +kernel
theorem dX5_generate_56 : decode cX5_generate 56 = .ok (.ifCond .ne 7, 3) := by decide +kernel
theorem dX5_generate_59 : decode cX5_generate 59 = .ok (.iconst 1, 1) := by decide +kernel
theorem dX5_generate_60 : decode cX5_generate 60 = .ok (.goto 4, 3) := by decide +kernel
theorem dX5_generate_63 : decode cX5_generate 63 = .ok (.iconst 0, 1) := by decide +kernel
theorem dX5_generate_64 : decode cX5_generate 64 = .ok (.istore_n 2, 1) := by decide +kernel
theorem dX5_generate_65 : decode cX5_generate 65 = .ok (.iconst 0, 1) := by decide +kernel
theorem dX5_generate_66 : decode cX5_generate 66 = .ok (.istore_n 3, 1) := by decide +kernel
theorem dX5_generate_67 : decode cX5_generate 67 = .ok (.iload_n 3, 1) := by decide +kernel
theorem dX5_generate_68 : decode cX5_generate 68 = .ok (.bipush 18, 2) := by decide +kernel
theorem dX5_generate_70 : decode cX5_generate 70 = .ok (.if_icmp .ge 42, 3) := by decide +kernel
theorem dX5_generate_73 : decode cX5_generate 73 = .ok (.iload_n 2, 1) := by decide +kernel
theorem dX5_generate_74 : decode cX5_generate 74 = .ok (.ifCond .eq 32, 3) := by decide +kernel
theorem dX5_generate_77 : decode cX5_generate 77 = .ok (.aload_n 0, 1) := by decide +kernel
theorem dX5_generate_78 : decode cX5_generate 78 = .ok (.getfield 7, 3) := by decide +kernel
theorem dX5_generate_81 : decode cX5_generate 81 = .ok (.bipush 18, 2) := by decide +kernel
theorem dX5_generate_83 : decode cX5_generate 83 = .ok (.iload_n 1, 1) := by decide +kernel
theorem dX5_generate_84 : decode cX5_generate 84 = .ok (.imul, 1) := by decide +kernel
theorem dX5_generate_85 : decode cX5_generate 85 = .ok (.iload_n 3, 1) := by decide +kernel
theorem dX5_generate_86 : decode cX5_generate 86 = .ok (.iadd, 1) := by decide +kernel
theorem dX5_generate_87 : decode cX5_generate 87 = .ok (.iaload, 1) := by decide +kernel
theorem dX5_generate_88 : decode cX5_generate 88 = .ok (.invokestatic 90, 3) := by decide +kernel
theorem dX5_generate_91 : decode cX5_generate 91 = .ok (.aload_n 0, 1) := by decide +kernel
theorem dX5_generate_92 : decode cX5_generate 92 = .ok (.getfield 13, 3) := by decide +kernel
theorem dX5_generate_95 : decode cX5_generate 95 = .ok (.iload_n 1, 1) := by decide +kernel
theorem dX5_generate_96 : decode cX5_generate 96 = .ok (.iaload, 1) := by decide +kernel
theorem dX5_generate_97 : decode cX5_generate 97 = .ok (.if_icmp .ne 9, 3) := by decide +kernel
theorem dX5_generate_100 : decode cX5_generate 100 = .ok (.aload_n 0, 1) := by decide +kernel
theorem dX5_generate_101 : decode cX5_generate 101 = .ok (.iload_n 1, 1) := by decide +kernel
theorem dX5_generate_102 : decode cX5_generate 102 = .ok (.iload_n 3, 1) := by decide +kernel
theorem dX5_generate_103 : decode cX5_generate 103 = .ok (.invokevirtual 100, 3) := by decide +kernel
theorem dX5_generate_106 : decode cX5_generate 106 = .ok (.iinc 3 1, 3) := by decide +kernel
theorem dX5_generate_109 : decode cX5_generate 109 = .ok (.goto (-42), 3) := by decide +kernel
theorem dX5_generate_112 : decode cX5_generate 112 = .ok (.return_, 1) := by decide +kernel
theorem dX5_beginning_0 : decode cX5_beginning 0 = .ok (.iload_n 0, 1) := by decide +kernel
theorem dX5_beginning_1 : decode cX5_beginning 1 = .ok (.ldc 77, 2) := by decide +kernel
theorem dX5_beginning_3 : decode cX5_beginning 3 = .ok (.idiv, 1) := by decide +kernel
theorem dX5_beginning_4 : decode cX5_beginning 4 = .ok (.bipush 18, 2) := by decide +kernel
theorem dX5_beginning_6 : decode cX5_beginning 6 = .ok (.idiv, 1) := by decide +kernel
theorem dX5_beginning_7 : decode cX5_beginning 7 = .ok (.ireturn, 1) := by decide +kernel
theorem dX5_end_0 : decode cX5_end 0 = .ok (.iload_n 0, 1) := by decide +kernel
theorem dX5_end_1 : decode cX5_end 1 = .ok (.ldc 77, 2) := by decide +kernel
theorem dX5_end_3 : decode cX5_end 3 = .ok (.idiv, 1) := by decide +kernel
theorem dX5_end_4 : decode cX5_end 4 = .ok (.bipush 18, 2) := by decide +kernel
theorem dX5_end_6 : decode cX5_end 6 = .ok (.irem, 1) := by decide +kernel
theorem dX5_end_7 : decode cX5_end 7 = .ok (.ireturn, 1) := by decide +kernel
set_option maxRecDepth 20000 in
theorem ggX5_make_X5_beginning : GoodIn wsX5_make wsX5_beginning := goodIn_r _ [8, 2] (by decide +kernel) (by decide +kernel)
set_option maxRecDepth 20000 in
theorem gX5_make_X5_beginning : GoodIn wsX5_make (va_wsS RX5 103 yX5_beginning wsX5_beginning) := goodIn_app (goodIn_of _ (by decide +kernel)) ggX5_make_X5_beginning
set_option maxRecDepth 20000 in
theorem ggX5_make_X5_end : GoodIn wsX5_make wsX5_end := goodIn_r _ [11, 2] (by decide +kernel) (by decide +kernel)
set_option maxRecDepth 20000 in
theorem gX5_make_X5_end : GoodIn wsX5_make (va_wsS RX5 106 yX5_end wsX5_end) := goodIn_app (goodIn_of _ (by decide +kernel)) ggX5_make_X5_end
set_option maxRecDepth 20000 in
theorem ggX5_make_X5_rowOf : GoodIn wsX5_make wsX5_rowOf := goodIn_r _ [14] (by decide +kernel) (by decide +kernel)
set_option maxRecDepth 20000 in
theorem gX5_make_X5_rowOf : GoodIn wsX5_make (va_wsS RX5 69 yX5_rowOf wsX5_rowOf) := goodIn_app (goodIn_of _ (by decide +kernel)) ggX5_make_X5_rowOf
set_option maxRecDepth 20000 in
theorem ggX5_make_X5_crowning : GoodIn wsX5_make wsX5_crowning := goodIn_r _ [17] (by decide +kernel) (by decide +kernel)
set_option maxRecDepth 20000 in
theorem gX5_make_X5_crowning : GoodIn wsX5_make (va_wsS RX5 93 yX5_crowning wsX5_crowning) := goodIn_app (goodIn_of _ (by decide +kernel)) ggX5_make_X5_crowning
theorem dX5_make_0 : decode cX5_make 0 = .ok (.aload_n 0, 1) := by decide +kernel
theorem dX5_make_1 : decode cX5_make 1 = .ok (.getfield 16, 3) := by decide +kernel
theorem dX5_make_4 : decode cX5_make 4 = .ok (.bipush 80, 2) := by decide +kernel
theorem dX5_make_6 : decode cX5_make 6 = .ok (.iload_n 1, 1) := by decide +kernel
theorem dX5_make_7 : decode cX5_make 7 = .ok (.imul, 1) := by decide +kernel
theorem dX5_make_8 : decode cX5_make 8 = .ok (.iload_n 2, 1) := by decide +kernel
theorem dX5_make_9 : decode cX5_make 9 = .ok (.iadd, 1) := by decide +kernel
theorem dX5_make_10 : decode cX5_make 10 = .ok (.iaload, 1) := by decide +kernel
theorem dX5_make_11 : decode cX5_make 11 = .ok (.istore_n 3, 1) := by decide +kernel
theorem dX5_make_12 : decode cX5_make 12 = .ok (.iconst 0, 1) := by decide +kernel
theorem dX5_make_13 : decode cX5_make 13 = .ok (.istore 4, 2) := by decide +kernel
theorem dX5_make_15 : decode cX5_make 15 = .ok (.iload 4, 2) := by decide +kernel
theorem dX5_make_17 : decode cX5_make 17 = .ok (.bipush 18, 2) := by decide +kernel
theorem dX5_make_19 : decode cX5_make 19 = .ok (.if_icmp .ge 65, 3) := by decide +kernel
theorem dX5_make_22 : decode cX5_make 22 = .ok (.iload_n 3, 1) := by decide +kernel
theorem dX5_make_23 : decode cX5_make 23 = .ok (.ldc 77, 2) := by decide +kernel
theorem dX5_make_25 : decode cX5_make 25 = .ok (.irem, 1) := by decide +kernel
theorem dX5_make_26 : decode cX5_make 26 = .ok (.iload 4, 2) := by decide +kernel
theorem dX5_make_28 : decode cX5_make 28 = .ok (.ishr, 1) := by decide +kernel
theorem dX5_make_29 : decode cX5_make 29 = .ok (.iconst 1, 1) := by decide +kernel
theorem dX5_make_30 : decode cX5_make 30 = .ok (.iand, 1) := by decide +kernel
theorem dX5_make_31 : decode cX5_make 31 = .ok (.iconst 1, 1) := by decide +kernel
theorem dX5_make_32 : decode cX5_make 32 = .ok (.if_icmp .ne 7, 3) := by decide +kernel
theorem dX5_make_35 : decode cX5_make 35 = .ok (.iconst 1, 1) := by decide +kernel
theorem dX5_make_36 : decode cX5_make 36 = .ok (.goto 4, 3) := by decide +kernel
theorem dX5_make_39 : decode cX5_make 39 = .ok (.iconst 0, 1) := by decide +kernel
theorem dX5_make_40 : decode cX5_make 40 = .ok (.istore 5, 2) := by decide +kernel
theorem dX5_make_42 : decode cX5_make 42 = .ok (.aload_n 0, 1) := by decide +kernel
theorem dX5_make_43 : decode cX5_make 43 = .ok (.getfield 7, 3) := by decide +kernel
theorem dX5_make_46 : decode cX5_make 46 = .ok (.bipush 18, 2) := by decide +kernel
theorem dX5_make_48 : decode cX5_make 48 = .ok (.iload_n 1, 1) := by decide +kernel
theorem dX5_make_49 : decode cX5_make 49 = .ok (.imul, 1) := by decide +kernel
theorem dX5_make_50 : decode cX5_make 50 = .ok (.bipush 18, 2) := by decide +kernel
theorem dX5_make_52 : decode cX5_make 52 = .ok (.iadd, 1) := by decide +kernel
theorem dX5_make_53 : decode cX5_make 53 = .ok (.iload 4, 2) := by decide +kernel
theorem dX5_make_55 : decode cX5_make 55 = .ok (.iadd, 1) := by decide +kernel
theorem dX5_make_56 : decode cX5_make 56 = .ok (.iload 5, 2) := by decide +kernel
theorem dX5_make_58 : decode cX5_make 58 = .ok (.ifCond .eq 7, 3) := by decide +kernel
theorem dX5_make_61 : decode cX5_make 61 = .ok (.iconst 0, 1) := by decide +kernel
theorem dX5_make_62 : decode cX5_make 62 = .ok (.goto 15, 3) := by decide +kernel
theorem dX5_make_65 : decode cX5_make 65 = .ok (.aload_n 0, 1) := by decide +kernel
theorem dX5_make_66 : decode cX5_make 66 = .ok (.getfield 7, 3) := by decide +kernel
theorem dX5_make_69 : decode cX5_make 69 = .ok (.bipush 18, 2) := by decide +kernel
theorem dX5_make_71 : decode cX5_make 71 = .ok (.iload_n 1, 1) := by decide +kernel
theorem dX5_make_72 : decode cX5_make 72 = .ok (.imul, 1) := by decide +kernel
theorem dX5_make_73 : decode cX5_make 73 = .ok (.iload 4, 2) := by decide +kernel
theorem dX5_make_75 : decode cX5_make 75 = .ok (.iadd, 1) := by decide +kernel
theorem dX5_make_76 : decode cX5_make 76 = .ok (.iaload, 1) := by decide +kernel
theorem dX5_make_77 : decode cX5_make 77 = .ok (.iastore, 1) := by decide +kernel
theorem dX5_make_78 : decode cX5_make 78 = .ok (.iinc 4 1, 3) := by decide +kernel
theorem dX5_make_81 : decode cX5_make 81 = .ok (.goto (-66), 3) := by decide +kernel
theorem dX5_make_84 : decode cX5_make 84 = .ok (.aload_n 0, 1) := by decide +kernel
theorem dX5_make_85 : decode cX5_make 85 = .ok (.getfield 7, 3) := by decide +kernel
theorem dX5_make_88 : decode cX5_make 88 = .ok (.bipush 18, 2) := by decide +kernel
theorem dX5_make_90 : decode cX5_make 90 = .ok (.iload_n 1, 1) := by decide +kernel
theorem dX5_make_91 : decode cX5_make 91 = .ok (.imul, 1) := by decide +kernel
theorem dX5_make_92 : decode cX5_make 92 = .ok (.iload_n 3, 1) := by decide +kernel
theorem dX5_make_93 : decode cX5_make 93 = .ok (.invokestatic 103, 3) := by decide +kernel
theorem dX5_make_96 : decode cX5_make 96 = .ok (.iadd, 1) := by decide +kernel
theorem dX5_make_97 : decode cX5_make 97 = .ok (.iaload, 1) := by decide +kernel
theorem dX5_make_98 : decode cX5_make 98 = .ok (.istore 4, 2) := by decide +kernel
theorem dX5_make_100 : decode cX5_make 100 = .ok (.aload_n 0, 1) := by decide +kernel
theorem dX5_make_101 : decode cX5_make 101 = .ok (.getfield 7, 3) := by decide +kernel
theorem dX5_make_104 : decode cX5_make 104 = .ok (.bipush 18, 2) := by decide +kernel
theorem dX5_make_106 : decode cX5_make 106 = .ok (.iload_n 1, 1) := by decide +kernel
theorem dX5_make_107 : decode cX5_make 107 = .ok (.imul, 1) := by decide +kernel
theorem dX5_make_108 : decode cX5_make 108 = .ok (.bipush 18, 2) := by decide +kernel
theorem dX5_make_110 : decode cX5_make 110 = .ok (.iadd, 1) := by decide +kernel
theorem dX5_make_111 : decode cX5_make 111 = .ok (.iload_n 3, 1) := by decide +kernel
theorem dX5_make_112 : decode cX5_make 112 = .ok (.invokestatic 103, 3) := by decide +kernel
theorem dX5_make_115 : decode cX5_make 115 = .ok (.iadd, 1) := by decide +kernel
theorem dX5_make_116 : decode cX5_make 116 = .ok (.iconst 0, 1) := by decide +kernel
theorem dX5_make_117 : decode cX5_make 117 = .ok (.iastore, 1) := by decide +kernel
theorem dX5_make_118 : decode cX5_make 118 = .ok (.iload_n 3, 1) := by decide +kernel
theorem dX5_make_119 : decode cX5_make 119 = .ok (.invokestatic 106, 3) := by decide +kernel
theorem dX5_make_122 : decode cX5_make 122 = .ok (.invokestatic 69, 3) := by decide +kernel
theorem dX5_make_125 : decode cX5_make 125 = .ok (.aload_n 0, 1) := by decide +kernel
theorem dX5_make_126 : decode cX5_make 126 = .ok (.getfield 13, 3) := by decide +kernel
theorem dX5_make_129 : decode cX5_make 129 = .ok (.iload_n 1, 1) := by decide +kernel
theorem dX5_make_130 : decode cX5_make 130 = .ok (.iaload, 1) := by decide +kernel
theorem dX5_make_131 : decode cX5_make 131 = .ok (.invokestatic 93, 3) := by decide +kernel
theorem dX5_make_134 : decode cX5_make 134 = .ok (.if_icmp .ne 7, 3) := by decide +kernel
theorem dX5_make_137 : decode cX5_make 137 = .ok (.iconst 1, 1) := by decide +kernel
theorem dX5_make_138 : decode cX5_make 138 = .ok (.goto 4, 3) := by decide +kernel
theorem dX5_make_141 : decode cX5_make 141 = .ok (.iconst 0, 1) := by decide +kernel
theorem dX5_make_142 : decode cX5_make 142 = .ok (.istore 5, 2) := by decide +kernel
theorem dX5_make_144 : decode cX5_make 144 = .ok (.aload_n 0, 1) := by decide +kernel
theorem dX5_make_145 : decode cX5_make 145 = .ok (.getfield 7, 3) := by decide +kernel
theorem dX5_make_148 : decode cX5_make 148 = .ok (.bipush 18, 2) := by decide +kernel
theorem dX5_make_150 : decode cX5_make 150 = .ok (.iload_n 1, 1) := by decide +kernel
theorem dX5_make_151 : decode cX5_make 151 = .ok (.imul, 1) := by decide +kernel
theorem dX5_make_152 : decode cX5_make 152 = .ok (.bipush 18, 2) := by decide +kernel
theorem dX5_make_154 : decode cX5_make 154 = .ok (.iadd, 1) := by decide +kernel
theorem dX5_make_155 : decode cX5_make 155 = .ok (.iload_n 3, 1) := by decide +kernel
theorem dX5_make_156 : decode cX5_make 156 = .ok (.invokestatic 106, 3) := by decide +kernel
theorem dX5_make_159 : decode cX5_make 159 = .ok (.iadd, 1) := by decide +kernel
theorem dX5_make_160 : decode cX5_make 160 = .ok (.iload 5, 2) := by decide +kernel
theorem dX5_make_162 : decode cX5_make 162 = .ok (.ifCond .eq 16, 3) := by decide +kernel
theorem dX5_make_165 : decode cX5_make 165 = .ok (.iconst 2, 1) := by decide +kernel
theorem dX5_make_166 : decode cX5_make 166 = .ok (.iconst 2, 1) := by decide +kernel
theorem dX5_make_167 : decode cX5_make 167 = .ok (.aload_n 0, 1) := by decide +kernel
theorem dX5_make_168 : decode cX5_make 168 = .ok (.getfield 13, 3) := by decide +kernel
theorem dX5_make_171 : decode cX5_make 171 = .ok (.iload_n 1, 1) := by decide +kernel
theorem dX5_make_172 : decode cX5_make 172 = .ok (.iaload, 1) := by decide +kernel
theorem dX5_make_173 : decode cX5_make 173 = .ok (.imul, 1) := by decide +kernel
theorem dX5_make_174 : decode cX5_make 174 = .ok (.iadd, 1) := by decide +kernel
theorem dX5_make_175 : decode cX5_make 175 = .ok (.goto 5, 3) := by decide +kernel
theorem dX5_make_178 : decode cX5_make 178 = .ok (.iload 4, 2) := by decide +kernel
theorem dX5_make_180 : decode cX5_make 180 = .ok (.iastore, 1) := by decide +kernel
theorem dX5_make_181 : decode cX5_make 181 = .ok (.aload_n 0, 1) := by decide +kernel
theorem dX5_make_182 : decode cX5_make 182 = .ok (.getfield 13, 3) := by decide +kernel
theorem dX5_make_185 : decode cX5_make 185 = .ok (.iload_n 1, 1) := by decide +kernel
theorem dX5_make_186 : decode cX5_make 186 = .ok (.iconst 1, 1) := by decide +kernel
theorem dX5_make_187 : decode cX5_make 187 = .ok (.iadd, 1) := by decide +kernel
theorem dX5_make_188 : decode cX5_make 188 = .ok (.iconst 1, 1) := by decide +kernel
theorem dX5_make_189 : decode cX5_make 189 = .ok (.aload_n 0, 1) := by decide +kernel
theorem dX5_make_190 : decode cX5_make 190 = .ok (.getfield 13, 3) := by decide +kernel
theorem dX5_make_193 : decode cX5_make 193 = .ok (.iload_n 1, 1) := by decide +kernel
theorem dX5_make_194 : decode cX5_make 194 = .ok (.iaload, 1) := by decide +kernel
theorem dX5_make_195 : decode cX5_make 195 = .ok (.isub, 1) := by decide +kernel
theorem dX5_make_196 : decode cX5_make 196 = .ok (.iastore, 1) := by decide +kernel
theorem dX5_make_197 : decode cX5_make 197 = .ok (.return_, 1) := by decide +kernel
theorem dX5_code_0 : decode cX5_code 0 = .ok (.iconst 2, 1) := by decide +kernel
theorem dX5_code_1 : decode cX5_code 1 = .ok (.iload_n 0, 1) := by decide +kernel
theorem dX5_code_2 : decode cX5_code 2 = .ok (.imul, 1) := by decide +kernel
theorem dX5_code_3 : decode cX5_code 3 = .ok (.iload_n 1, 1) := by decide +kernel
theorem dX5_code_4 : decode cX5_code 4 = .ok (.ifCond .eq 7, 3) := by decide +kernel
theorem dX5_code_7 : decode cX5_code 7 = .ok (.iconst 1, 1) := by decide +kernel
theorem dX5_code_8 : decode cX5_code 8 = .ok (.goto 4, 3) := by decide +kernel
theorem dX5_code_11 : decode cX5_code 11 = .ok (.iconst 0, 1) := by decide +kernel
theorem dX5_code_12 : decode cX5_code 12 = .ok (.iadd, 1) := by decide +kernel
theorem dX5_code_13 : decode cX5_code 13 = .ok (.bipush 18, 2) := by decide +kernel
theorem dX5_code_15 : decode cX5_code 15 = .ok (.imul, 1) := by decide +kernel
theorem dX5_code_16 : decode cX5_code 16 = .ok (.iload_n 2, 1) := by decide +kernel
theorem dX5_code_17 : decode cX5_code 17 = .ok (.iadd, 1) := by decide +kernel
theorem dX5_code_18 : decode cX5_code 18 = .ok (.bipush 36, 2) := by decide +kernel
theorem dX5_code_20 : decode cX5_code 20 = .ok (.imul, 1) := by decide +kernel
theorem dX5_code_21 : decode cX5_code 21 = .ok (.iload_n 3, 1) := by decide +kernel
theorem dX5_code_22 : decode cX5_code 22 = .ok (.ifCond .eq 8, 3) := by decide +kernel
theorem dX5_code_25 : decode cX5_code 25 = .ok (.bipush 18, 2) := by decide +kernel
theorem dX5_code_27 : decode cX5_code 27 = .ok (.goto 4, 3) := by decide +kernel
theorem dX5_code_30 : decode cX5_code 30 = .ok (.iconst 0, 1) := by decide +kernel
theorem dX5_code_31 : decode cX5_code 31 = .ok (.iadd, 1) := by decide +kernel
theorem dX5_code_32 : decode cX5_code 32 = .ok (.iload 4, 2) := by decide +kernel
theorem dX5_code_34 : decode cX5_code 34 = .ok (.iadd, 1) := by decide +kernel
theorem dX5_code_35 : decode cX5_code 35 = .ok (.ireturn, 1) := by decide +kernel
set_option maxRecDepth 20000 in
theorem ggX5_develop_X5_code : GoodIn wsX5_develop wsX5_code := goodIn_r _ [7] (by decide +kernel) (by decide +kernel)
set_option maxRecDepth 20000 in
theorem gX5_develop_X5_code : GoodIn wsX5_develop (va_wsS RX5 109 yX5_code wsX5_code) := goodIn_app (goodIn_of _ (by decide +kernel)) ggX5_develop_X5_code
set_option maxRecDepth 20000 in
theorem ggX5_develop_X5_rowOf : GoodIn wsX5_develop wsX5_rowOf := goodIn_r _ [10] (by decide +kernel) (by decide +kernel)
set_option maxRecDepth 20000 in
theorem gX5_develop_X5_rowOf : GoodIn wsX5_develop (va_wsS RX5 69 yX5_rowOf wsX5_rowOf) := goodIn_app (goodIn_of _ (by decide +kernel)) ggX5_develop_X5_rowOf
set_option maxRecDepth 20000 in
theorem ggX5_develop_X5_crowning : GoodIn wsX5_develop wsX5_crowning := goodIn_r _ [13] (by decide +kernel) (by decide +kernel)
set_option maxRecDepth 20000 in
theorem gX5_develop_X5_crowning : GoodIn wsX5_develop (va_wsS RX5 93 yX5_crowning wsX5_crowning) := goodIn_app (goodIn_of _ (by decide +kernel)) ggX5_develop_X5_crowning
theorem dX5_develop_0 : decode cX5_develop 0 = .ok (.iconst 4, 1) := by decide +kernel
theorem dX5_develop_1 : decode cX5_develop 1 = .ok (.iload_n 1, 1) := by decide +kernel
theorem dX5_develop_2 : decode cX5_develop 2 = .ok (.iload_n 2, 1) := by decide +kernel
theorem dX5_develop_3 : decode cX5_develop 3 = .ok (.iload_n 3, 1) := by decide +kernel
theorem dX5_develop_4 : decode cX5_develop 4 = .ok (.iload 4, 2) := by decide +kernel
theorem dX5_develop_6 : decode cX5_develop 6 = .ok (.iload 5, 2) := by decide +kernel
theorem dX5_develop_8 : decode cX5_develop 8 = .ok (.invokestatic 109, 3) := by decide +kernel
theorem dX5_develop_11 : decode cX5_develop 11 = .ok (.imul, 1) := by decide +kernel
theorem dX5_develop_12 : decode cX5_develop 12 = .ok (.istore 6, 2) := by decide +kernel
theorem dX5_develop_14 : decode cX5_develop 14 = .ok (.iconst 0, 1) := by decide +kernel
theorem dX5_develop_15 : decode cX5_develop 15 = .ok (.istore 7, 2) := by decide +kernel
theorem dX5_develop_17 : decode cX5_develop 17 = .ok (.iconst 0, 1) := by decide +kernel
theorem dX5_develop_18 : decode cX5_develop 18 = .ok (.istore 8, 2) := by decide +kernel
theorem dX5_develop_20 : decode cX5_develop 20 = .ok (.iconst 0, 1) := by decide +kernel
theorem dX5_develop_21 : decode cX5_develop 21 = .ok (.istore 9, 2) := by decide +kernel
theorem dX5_develop_23 : decode cX5_develop 23 = .ok (.iload 9, 2) := by decide +kernel
theorem dX5_develop_25 : decode cX5_develop 25 = .ok (.iconst 4, 1) := by decide +kernel
theorem dX5_develop_26 : decode cX5_develop 26 = .ok (.if_icmp .ge 101, 3) := by decide +kernel
theorem dX5_develop_29 : decode cX5_develop 29 = .ok (.aload_n 0, 1) := by decide +kernel
theorem dX5_develop_30 : decode cX5_develop 30 = .ok (.getfield 56, 3) := by decide +kernel
theorem dX5_develop_33 : decode cX5_develop 33 = .ok (.iload 6, 2) := by decide +kernel
theorem dX5_develop_35 : decode cX5_develop 35 = .ok (.iload 9, 2) := by decide +kernel
theorem dX5_develop_37 : decode cX5_develop 37 = .ok (.iadd, 1) := by decide +kernel
theorem dX5_develop_38 : decode cX5_develop 38 = .ok (.iconst (-1), 1) := by decide +kernel
theorem dX5_develop_39 : decode cX5_develop 39 = .ok (.iastore, 1) := by decide +kernel
theorem dX5_develop_40 : decode cX5_develop 40 = .ok (.iload_n 2, 1) := by decide +kernel
theorem dX5_develop_41 : decode cX5_develop 41 = .ok (.ifCond .ne 26, 3) := by decide +kernel
theorem dX5_develop_44 : decode cX5_develop 44 = .ok (.iload_n 1, 1) := by decide +kernel
theorem dX5_develop_45 : decode cX5_develop 45 = .ok (.ifCond .ne 7, 3) := by decide +kernel
theorem dX5_develop_48 : decode cX5_develop 48 = .ok (.iconst 1, 1) := by decide +kernel
theorem dX5_develop_49 : decode cX5_develop 49 = .ok (.goto 4, 3) := by decide +kernel
theorem dX5_develop_52 : decode cX5_develop 52 = .ok (.iconst 0, 1) := by decide +kernel
theorem dX5_develop_53 : decode cX5_develop 53 = .ok (.iload 9, 2) := by decide +kernel
theorem dX5_develop_55 : decode cX5_develop 55 = .ok (.iconst 2, 1) := by decide +kernel
theorem dX5_develop_56 : decode cX5_develop 56 = .ok (.if_icmp .ge 7, 3) := by decide +kernel
theorem dX5_develop_59 : decode cX5_develop 59 = .ok (.iconst 1, 1) := by decide +kernel
theorem dX5_develop_60 : decode cX5_develop 60 = .ok (.goto 4, 3) := by decide +kernel
theorem dX5_develop_63 : decode cX5_develop 63 = .ok (.iconst 0, 1) := by decide +kernel
theorem dX5_develop_64 : decode cX5_develop 64 = .ok (.if_icmp .ne 7, 3) := by decide +kernel
theorem dX5_develop_67 : decode cX5_develop 67 = .ok (.iconst 1, 1) := by decide +kernel
theorem dX5_develop_68 : decode cX5_develop 68 = .ok (.goto 4, 3) := by decide +kernel
theorem dX5_develop_71 : decode cX5_develop 71 = .ok (.iconst 0, 1) := by decide +kernel
theorem dX5_develop_72 : decode cX5_develop 72 = .ok (.istore 10, 2) := by decide +kernel
theorem dX5_develop_74 : decode cX5_develop 74 = .ok (.iload 8, 2) := by decide +kernel
theorem dX5_develop_76 : decode cX5_develop 76 = .ok (.ifCond .ne 38, 3) := by decide +kernel
theorem dX5_develop_79 : decode cX5_develop 79 = .ok (.iload 10, 2) := by decide +kernel
theorem dX5_develop_81 : decode cX5_develop 81 = .ok (.ifCond .eq 37, 3) := by decide +kernel
theorem dX5_develop_84 : decode cX5_develop 84 = .ok (.aload_n 0, 1) := by decide +kernel
theorem dX5_develop_85 : decode cX5_develop 85 = .ok (.getfield 31, 3) := by decide +kernel
theorem dX5_develop_88 : decode cX5_develop 88 = .ok (.iconst 4, 1) := by decide +kernel
theorem dX5_develop_89 : decode cX5_develop 89 = .ok (.iload_n 3, 1) := by decide +kernel
theorem dX5_develop_90 : decode cX5_develop 90 = .ok (.imul, 1) := by decide +kernel
theorem dX5_develop_91 : decode cX5_develop 91 = .ok (.iload 9, 2) := by decide +kernel
theorem dX5_develop_93 : decode cX5_develop 93 = .ok (.iadd, 1) := by decide +kernel
theorem dX5_develop_94 : decode cX5_develop 94 = .ok (.iaload, 1) := by decide +kernel
theorem dX5_develop_95 : decode cX5_develop 95 = .ok (.iload 5, 2) := by decide +kernel
theorem dX5_develop_97 : decode cX5_develop 97 = .ok (.if_icmp .ne 21, 3) := by decide +kernel
theorem dX5_develop_100 : decode cX5_develop 100 = .ok (.aload_n 0, 1) := by decide +kernel
theorem dX5_develop_101 : decode cX5_develop 101 = .ok (.getfield 34, 3) := by decide +kernel
theorem dX5_develop_104 : decode cX5_develop 104 = .ok (.iconst 4, 1) := by decide +kernel
theorem dX5_develop_105 : decode cX5_develop 105 = .ok (.iload_n 3, 1) := by decide +kernel
theorem dX5_develop_106 : decode cX5_develop 106 = .ok (.imul, 1) := by decide +kernel
theorem dX5_develop_107 : decode cX5_develop 107 = .ok (.iload 9, 2) := by decide +kernel
theorem dX5_develop_109 : decode cX5_develop 109 = .ok (.iadd, 1) := by decide +kernel
theorem dX5_develop_110 : decode cX5_develop 110 = .ok (.iaload, 1) := by decide +kernel
theorem dX5_develop_111 : decode cX5_develop 111 = .ok (.ifCond .lt 7, 3) := by decide +kernel
theorem dX5_develop_114 : decode cX5_develop 114 = .ok (.iconst 1, 1) := by decide +kernel
theorem dX5_develop_115 : decode cX5_develop 115 = .ok (.goto 4, 3) := by decide +kernel
theorem dX5_develop_118 : decode cX5_develop 118 = .ok (.iconst 0, 1) := by decide +kernel
theorem dX5_develop_119 : decode cX5_develop 119 = .ok (.istore 8, 2) := by decide +kernel
theorem dX5_develop_121 : decode cX5_develop 121 = .ok (.iinc 9 1, 3) := by decide +kernel
theorem dX5_develop_124 : decode cX5_develop 124 = .ok (.goto (-101), 3) := by decide +kernel
theorem dX5_develop_127 : decode cX5_develop 127 = .ok (.iload 8, 2) := by decide +kernel
theorem dX5_develop_129 : decode cX5_develop 129 = .ok (.ifCond .eq 13, 3) := by decide +kernel
theorem dX5_develop_132 : decode cX5_develop 132 = .ok (.aload_n 0, 1) := by decide +kernel
theorem dX5_develop_133 : decode cX5_develop 133 = .ok (.getfield 56, 3) := by decide +kernel
theorem dX5_develop_136 : decode cX5_develop 136 = .ok (.iload 6, 2) := by decide +kernel
theorem dX5_develop_138 : decode cX5_develop 138 = .ok (.bipush (-2), 2) := by decide +kernel
theorem dX5_develop_140 : decode cX5_develop 140 = .ok (.iastore, 1) := by decide +kernel
theorem dX5_develop_141 : decode cX5_develop 141 = .ok (.return_, 1) := by decide +kernel
theorem dX5_develop_142 : decode cX5_develop 142 = .ok (.iconst 0, 1) := by decide +kernel
theorem dX5_develop_143 : decode cX5_develop 143 = .ok (.istore 9, 2) := by decide +kernel
theorem dX5_develop_145 : decode cX5_develop 145 = .ok (.iload 9, 2) := by decide +kernel
theorem dX5_develop_147 : decode cX5_develop 147 = .ok (.iconst 4, 1) := by decide +kernel
theorem dX5_develop_148 : decode cX5_develop 148 = .ok (.if_icmp .ge 123, 3) := by decide +kernel
theorem dX5_develop_151 : decode cX5_develop 151 = .ok (.aload_n 0, 1) := by decide +kernel
theorem dX5_develop_152 : decode cX5_develop 152 = .ok (.getfield 31, 3) := by decide +kernel
theorem dX5_develop_155 : decode cX5_develop 155 = .ok (.iconst 4, 1) := by decide +kernel
theorem dX5_develop_156 : decode cX5_develop 156 = .ok (.iload_n 3, 1) := by decide +kernel
theorem dX5_develop_157 : decode cX5_develop 157 = .ok (.imul, 1) := by decide +kernel
theorem dX5_develop_158 : decode cX5_develop 158 = .ok (.iload 9, 2) := by decide +kernel
theorem dX5_develop_160 : decode cX5_develop 160 = .ok (.iadd, 1) := by decide +kernel
theorem dX5_develop_161 : decode cX5_develop 161 = .ok (.iaload, 1) := by decide +kernel
theorem dX5_develop_162 : decode cX5_develop 162 = .ok (.istore 10, 2) := by decide +kernel
theorem dX5_develop_164 : decode cX5_develop 164 = .ok (.iload_n 2, 1) := by decide +kernel
theorem dX5_develop_165 : decode cX5_develop 165 = .ok (.ifCond .ne 26, 3) := by decide +kernel
theorem dX5_develop_168 : decode cX5_develop 168 = .ok (.iload_n 1, 1) := by decide +kernel
theorem dX5_develop_169 : decode cX5_develop 169 = .ok (.ifCond .ne 7, 3) := by decide +kernel
theorem dX5_develop_172 : decode cX5_develop 172 = .ok (.iconst 1, 1) := by decide +kernel
theorem dX5_develop_173 : decode cX5_develop 173 = .ok (.goto 4, 3) := by decide +kernel
theorem dX5_develop_176 : decode cX5_develop 176 = .ok (.iconst 0, 1) := by decide +kernel
theorem dX5_develop_177 : decode cX5_develop 177 = .ok (.iload 9, 2) := by decide +kernel
theorem dX5_develop_179 : decode cX5_develop 179 = .ok (.iconst 2, 1) := by decide +kernel
theorem dX5_develop_180 : decode cX5_develop 180 = .ok (.if_icmp .ge 7, 3) := by decide +kernel
theorem dX5_develop_183 : decode cX5_develop 183 = .ok (.iconst 1, 1) := by decide +kernel
theorem dX5_develop_184 : decode cX5_develop 184 = .ok (.goto 4, 3) := by decide +kernel
theorem dX5_develop_187 : decode cX5_develop 187 = .ok (.iconst 0, 1) := by decide +kernel
theorem dX5_develop_188 : decode cX5_develop 188 = .ok (.if_icmp .ne 7, 3) := by decide +kernel
theorem dX5_develop_191 : decode cX5_develop 191 = .ok (.iconst 1, 1) := by decide +kernel
theorem dX5_develop_192 : decode cX5_develop 192 = .ok (.goto 4, 3) := by decide +kernel
theorem dX5_develop_195 : decode cX5_develop 195 = .ok (.iconst 0, 1) := by decide +kernel
theorem dX5_develop_196 : decode cX5_develop 196 = .ok (.istore 11, 2) := by decide +kernel
theorem dX5_develop_198 : decode cX5_develop 198 = .ok (.iload 11, 2) := by decide +kernel
theorem dX5_develop_200 : decode cX5_develop 200 = .ok (.ifCond .eq 65, 3) := by decide +kernel
theorem dX5_develop_203 : decode cX5_develop 203 = .ok (.iload 10, 2) := by decide +kernel
theorem dX5_develop_205 : decode cX5_develop 205 = .ok (.ifCond .lt 60, 3) := by decide +kernel
theorem dX5_develop_208 : decode cX5_develop 208 = .ok (.iload 10, 2) := by decide +kernel
theorem dX5_develop_210 : decode cX5_develop 210 = .ok (.iload 5, 2) := by decide +kernel
theorem dX5_develop_212 : decode cX5_develop 212 = .ok (.if_icmp .eq 53, 3) := by decide +kernel
theorem dX5_develop_215 : decode cX5_develop 215 = .ok (.iload_n 2, 1) := by decide +kernel
theorem dX5_develop_216 : decode cX5_develop 216 = .ok (.ifCond .ne 15, 3) := by decide +kernel
theorem dX5_develop_219 : decode cX5_develop 219 = .ok (.iload 10, 2) := by decide +kernel
theorem dX5_develop_221 : decode cX5_develop 221 = .ok (.invokestatic 69, 3) := by decide +kernel
theorem dX5_develop_224 : decode cX5_develop 224 = .ok (.iload_n 1, 1) := by decide +kernel
theorem dX5_develop_225 : decode cX5_develop 225 = .ok (.invokestatic 93, 3) := by decide +kernel
theorem dX5_develop_228 : decode cX5_develop 228 = .ok (.if_icmp .ne 7, 3) := by decide +kernel
theorem dX5_develop_231 : decode cX5_develop 231 = .ok (.iconst 1, 1) := by decide +kernel
theorem dX5_develop_232 : decode cX5_develop 232 = .ok (.goto 4, 3) := by decide +kernel
theorem dX5_develop_235 : decode cX5_develop 235 = .ok (.iconst 0, 1) := by decide +kernel
theorem dX5_develop_236 : decode cX5_develop 236 = .ok (.istore 12, 2) := by decide +kernel
theorem dX5_develop_238 : decode cX5_develop 238 = .ok (.aload_n 0, 1) := by decide +kernel
theorem dX5_develop_239 : decode cX5_develop 239 = .ok (.getfield 56, 3) := by decide +kernel
theorem dX5_develop_242 : decode cX5_develop 242 = .ok (.iload 6, 2) := by decide +kernel
theorem dX5_develop_244 : decode cX5_develop 244 = .ok (.iload 7, 2) := by decide +kernel
theorem dX5_develop_246 : decode cX5_develop 246 = .ok (.iadd, 1) := by decide +kernel
theorem dX5_develop_247 : decode cX5_develop 247 = .ok (.iconst 1, 1) := by decide +kernel
theorem dX5_develop_248 : decode cX5_develop 248 = .ok (.iload_n 1, 1) := by decide +kernel
theorem dX5_develop_249 : decode cX5_develop 249 = .ok (.isub, 1) := by decide +kernel
theorem dX5_develop_250 : decode cX5_develop 250 = .ok (.iload 4, 2) := by decide +kernel
theorem dX5_develop_252 : decode cX5_develop 252 = .ok (.iload 5, 2) := by decide +kernel
theorem dX5_develop_254 : decode cX5_develop 254 = .ok (.iload 12, 2) := by decide +kernel
theorem dX5_develop_256 : decode cX5_develop 256 = .ok (.iload 10, 2) := by decide +kernel
theorem dX5_develop_258 : decode cX5_develop 258 = .ok (.invokestatic 109, 3) := by decide +kernel
theorem dX5_develop_261 : decode cX5_develop 261 = .ok (.iastore, 1) := by decide +kernel
theorem dX5_develop_262 : decode cX5_develop 262 = .ok (.iinc 7 1, 3) := by decide +kernel
theorem dX5_develop_265 : decode cX5_develop 265 = .ok (.iinc 9 1, 3) := by decide +kernel
theorem dX5_develop_268 : decode cX5_develop 268 = .ok (.goto (-123), 3) := by decide +kernel
theorem dX5_develop_271 : decode cX5_develop 271 = .ok (.return_, 1) := by decide +kernel
theorem dX5_someLost_0 : decode cX5_someLost 0 = .ok (.iconst 0, 1) := by decide +kernel
theorem dX5_someLost_1 : decode cX5_someLost 1 = .ok (.istore_n 3, 1) := by decide +kernel
theorem dX5_someLost_2 : decode cX5_someLost 2 = .ok (.iconst 0, 1) := by decide +kernel
theorem dX5_someLost_3 : decode cX5_someLost 3 = .ok (.istore 4, 2) := by decide +kernel
theorem dX5_someLost_5 : decode cX5_someLost 5 = .ok (.iload 4, 2) := by decide +kernel
theorem dX5_someLost_7 : decode cX5_someLost 7 = .ok (.iconst 4, 1) := by decide +kernel
theorem dX5_someLost_8 : decode cX5_someLost 8 = .ok (.if_icmp .ge 62, 3) := by decide +kernel
theorem dX5_someLost_11 : decode cX5_someLost 11 = .ok (.aload_n 0, 1) := by decide +kernel
theorem dX5_someLost_12 : decode cX5_someLost 12 = .ok (.getfield 56, 3) := by decide +kernel
theorem dX5_someLost_15 : decode cX5_someLost 15 = .ok (.iconst 4, 1) := by decide +kernel
theorem dX5_someLost_16 : decode cX5_someLost 16 = .ok (.iload_n 1, 1) := by decide +kernel
theorem dX5_someLost_17 : decode cX5_someLost 17 = .ok (.imul, 1) := by decide +kernel
theorem dX5_someLost_18 : decode cX5_someLost 18 = .ok (.iload 4, 2) := by decide +kernel
theorem dX5_someLost_20 : decode cX5_someLost 20 = .ok (.iadd, 1) := by decide +kernel
theorem dX5_someLost_21 : decode cX5_someLost 21 = .ok (.iaload, 1) := by decide +kernel
theorem dX5_someLost_22 : decode cX5_someLost 22 = .ok (.istore 5, 2) := by decide +kernel
theorem dX5_someLost_24 : decode cX5_someLost 24 = .ok (.iload_n 3, 1) := by decide +kernel
theorem dX5_someLost_25 : decode cX5_someLost 25 = .ok (.ifCond .ne 33, 3) := by decide +kernel
theorem dX5_someLost_28 : decode cX5_someLost 28 = .ok (.iload 5, 2) := by decide +kernel
theorem dX5_someLost_30 : decode cX5_someLost 30 = .ok (.bipush (-2), 2) := by decide +kernel
theorem dX5_someLost_32 : decode cX5_someLost 32 = .ok (.if_icmp .ne 7, 3) := by decide +kernel
theorem dX5_someLost_35 : decode cX5_someLost 35 = .ok (.iload_n 2, 1) := by decide +kernel
theorem dX5_someLost_36 : decode cX5_someLost 36 = .ok (.ifCond .eq 22, 3) := by decide +kernel
theorem dX5_someLost_39 : decode cX5_someLost 39 = .ok (.iload 5, 2) := by decide +kernel
theorem dX5_someLost_41 : decode cX5_someLost 41 = .ok (.ifCond .lt 21, 3) := by decide +kernel
theorem dX5_someLost_44 : decode cX5_someLost 44 = .ok (.aload_n 0, 1) := by decide +kernel
theorem dX5_someLost_45 : decode cX5_someLost 45 = .ok (.getfield 59, 3) := by decide +kernel
theorem dX5_someLost_48 : decode cX5_someLost 48 = .ok (.iload 5, 2) := by decide +kernel
theorem dX5_someLost_50 : decode cX5_someLost 50 = .ok (.iaload, 1) := by decide +kernel
theorem dX5_someLost_51 : decode cX5_someLost 51 = .ok (.iload_n 2, 1) := by decide +kernel
theorem dX5_someLost_52 : decode cX5_someLost 52 = .ok (.ineg, 1) := by decide +kernel
theorem dX5_someLost_53 : decode cX5_someLost 53 = .ok (.iconst 1, 1) := by decide +kernel
theorem dX5_someLost_54 : decode cX5_someLost 54 = .ok (.isub, 1) := by decide +kernel
theorem dX5_someLost_55 : decode cX5_someLost 55 = .ok (.if_icmp .ne 7, 3) := by decide +kernel
theorem dX5_someLost_58 : decode cX5_someLost 58 = .ok (.iconst 1, 1) := by decide +kernel
theorem dX5_someLost_59 : decode cX5_someLost 59 = .ok (.goto 4, 3) := by decide +kernel
theorem dX5_someLost_62 : decode cX5_someLost 62 = .ok (.iconst 0, 1) := by decide +kernel
theorem dX5_someLost_63 : decode cX5_someLost 63 = .ok (.istore_n 3, 1) := by decide +kernel
theorem dX5_someLost_64 : decode cX5_someLost 64 = .ok (.iinc 4 1, 3) := by decide +kernel
theorem dX5_someLost_67 : decode cX5_someLost 67 = .ok (.goto (-62), 3) := by decide +kernel
theorem dX5_someLost_70 : decode cX5_someLost 70 = .ok (.iload_n 3, 1) := by decide +kernel
theorem dX5_someLost_71 : decode cX5_someLost 71 = .ok (.ireturn, 1) := by decide +kernel
theorem dX5_allWon_0 : decode cX5_allWon 0 = .ok (.iconst 0, 1) := by decide +kernel
theorem dX5_allWon_1 : decode cX5_allWon 1 = .ok (.istore_n 2, 1) := by decide +kernel
theorem dX5_allWon_2 : decode cX5_allWon 2 = .ok (.iconst 1, 1) := by decide +kernel
theorem dX5_allWon_3 : decode cX5_allWon 3 = .ok (.istore_n 3, 1) := by decide +kernel
theorem dX5_allWon_4 : decode cX5_allWon 4 = .ok (.iconst 0, 1) := by decide +kernel
theorem dX5_allWon_5 : decode cX5_allWon 5 = .ok (.istore 4, 2) := by decide +kernel
theorem dX5_allWon_7 : decode cX5_allWon 7 = .ok (.iload 4, 2) := by decide +kernel
theorem dX5_allWon_9 : decode cX5_allWon 9 = .ok (.iconst 4, 1) := by decide +kernel
theorem dX5_allWon_10 : decode cX5_allWon 10 = .ok (.if_icmp .ge 84, 3) := by decide +kernel
theorem dX5_allWon_13 : decode cX5_allWon 13 = .ok (.aload_n 0, 1) := by decide +kernel
theorem dX5_allWon_14 : decode cX5_allWon 14 = .ok (.getfield 56, 3) := by decide +kernel
theorem dX5_allWon_17 : decode cX5_allWon 17 = .ok (.iconst 4, 1) := by decide +kernel
theorem dX5_allWon_18 : decode cX5_allWon 18 = .ok (.iload_n 1, 1) := by decide +kernel
theorem dX5_allWon_19 : decode cX5_allWon 19 = .ok (.imul, 1) := by decide +kernel
theorem dX5_allWon_20 : decode cX5_allWon 20 = .ok (.iload 4, 2) := by decide +kernel
theorem dX5_allWon_22 : decode cX5_allWon 22 = .ok (.iadd, 1) := by decide +kernel
theorem dX5_allWon_23 : decode cX5_allWon 23 = .ok (.iaload, 1) := by decide +kernel
theorem dX5_allWon_24 : decode cX5_allWon 24 = .ok (.istore 5, 2) := by decide +kernel
theorem dX5_allWon_26 : decode cX5_allWon 26 = .ok (.iload 5, 2) := by decide +kernel
theorem dX5_allWon_28 : decode cX5_allWon 28 = .ok (.iconst (-1), 1) := by decide +kernel
theorem dX5_allWon_29 : decode cX5_allWon 29 = .ok (.if_icmp .eq 59, 3) := by decide +kernel
theorem dX5_allWon_32 : decode cX5_allWon 32 = .ok (.iload_n 3, 1) := by decide +kernel
theorem dX5_allWon_33 : decode cX5_allWon 33 = .ok (.ifCond .eq 22, 3) := by decide +kernel
theorem dX5_allWon_36 : decode cX5_allWon 36 = .ok (.iload 5, 2) := by decide +kernel
theorem dX5_allWon_38 : decode cX5_allWon 38 = .ok (.ifCond .lt 17, 3) := by decide +kernel
theorem dX5_allWon_41 : decode cX5_allWon 41 = .ok (.aload_n 0, 1) := by decide +kernel
theorem dX5_allWon_42 : decode cX5_allWon 42 = .ok (.getfield 59, 3) := by decide +kernel
theorem dX5_allWon_45 : decode cX5_allWon 45 = .ok (.iload 5, 2) := by decide +kernel
theorem dX5_allWon_47 : decode cX5_allWon 47 = .ok (.iaload, 1) := by decide +kernel
theorem dX5_allWon_48 : decode cX5_allWon 48 = .ok (.ifCond .le 7, 3) := by decide +kernel
theorem dX5_allWon_51 : decode cX5_allWon 51 = .ok (.iconst 1, 1) := by decide +kernel
theorem dX5_allWon_52 : decode cX5_allWon 52 = .ok (.goto 4, 3) := by decide +kernel
theorem dX5_allWon_55 : decode cX5_allWon 55 = .ok (.iconst 0, 1) := by decide +kernel
theorem dX5_allWon_56 : decode cX5_allWon 56 = .ok (.istore_n 3, 1) := by decide +kernel
theorem dX5_allWon_57 : decode cX5_allWon 57 = .ok (.iload_n 3, 1) := by decide +kernel
theorem dX5_allWon_58 : decode cX5_allWon 58 = .ok (.ifCond .eq 28, 3) := by decide +kernel
theorem dX5_allWon_61 : decode cX5_allWon 61 = .ok (.aload_n 0, 1) := by decide +kernel
theorem dX5_allWon_62 : decode cX5_allWon 62 = .ok (.getfield 59, 3) := by decide +kernel
theorem dX5_allWon_65 : decode cX5_allWon 65 = .ok (.iload 5, 2) := by decide +kernel
theorem dX5_allWon_67 : decode cX5_allWon 67 = .ok (.iaload, 1) := by decide +kernel
theorem dX5_allWon_68 : decode cX5_allWon 68 = .ok (.iconst 1, 1) := by decide +kernel
theorem dX5_allWon_69 : decode cX5_allWon 69 = .ok (.isub, 1) := by decide +kernel
theorem dX5_allWon_70 : decode cX5_allWon 70 = .ok (.iload_n 2, 1) := by decide +kernel
theorem dX5_allWon_71 : decode cX5_allWon 71 = .ok (.if_icmp .le 15, 3) := by decide +kernel
theorem dX5_allWon_74 : decode cX5_allWon 74 = .ok (.aload_n 0, 1) := by decide +kernel
theorem dX5_allWon_75 : decode cX5_allWon 75 = .ok (.getfield 59, 3) := by decide +kernel
theorem dX5_allWon_78 : decode cX5_allWon 78 = .ok (.iload 5, 2) := by decide +kernel
theorem dX5_allWon_80 : decode cX5_allWon 80 = .ok (.iaload, 1) := by decide +kernel
theorem dX5_allWon_81 : decode cX5_allWon 81 = .ok (.iconst 1, 1) := by decide +kernel
theorem dX5_allWon_82 : decode cX5_allWon 82 = .ok (.isub, 1) := by decide +kernel
theorem dX5_allWon_83 : decode cX5_allWon 83 = .ok (.goto 4, 3) := by decide +kernel
theorem dX5_allWon_86 : decode cX5_allWon 86 = .ok (.iload_n 2, 1) := by decide +kernel
theorem dX5_allWon_87 : decode cX5_allWon 87 = .ok (.istore_n 2, 1) := by decide +kernel
theorem dX5_allWon_88 : decode cX5_allWon 88 = .ok (.iinc 4 1, 3) := by decide +kernel
theorem dX5_allWon_91 : decode cX5_allWon 91 = .ok (.goto (-84), 3) := by decide +kernel
theorem dX5_allWon_94 : decode cX5_allWon 94 = .ok (.iload_n 3, 1) := by decide +kernel
theorem dX5_allWon_95 : decode cX5_allWon 95 = .ok (.ifCond .eq 7, 3) := by decide +kernel
theorem dX5_allWon_98 : decode cX5_allWon 98 = .ok (.iload_n 2, 1) := by decide +kernel
theorem dX5_allWon_99 : decode cX5_allWon 99 = .ok (.goto 4, 3) := by decide +kernel
theorem dX5_allWon_102 : decode cX5_allWon 102 = .ok (.iconst (-1), 1) := by decide +kernel
theorem dX5_allWon_103 : decode cX5_allWon 103 = .ok (.ireturn, 1) := by decide +kernel
set_option maxRecDepth 20000 in
theorem ggX5_solve_X5_develop : GoodIn wsX5_solve wsX5_develop := goodIn_r _ [8, 3, 9, 10, 11, 12, 7, 13, 14, 15, 16, 17, 18, 19, 32, 33, 34, 35, 36, 37, 38, 39, 40, 41, 42, 43, 44, 45, 46, 47, 48, 49, 50, 51] (by decide +kernel) (by decide +kernel)
set_option maxRecDepth 20000 in
theorem gX5_solve_X5_develop : GoodIn wsX5_solve (wsV RX5 117 RX5 yX5_develop wsX5_develop) := goodIn_app (goodIn_of _ (by decide +kernel)) ggX5_solve_X5_develop
set_option maxRecDepth 20000 in
theorem ggX5_solve_X5_judge : GoodIn wsX5_solve wsX5_judge := goodIn_r _ [23, 24, 25, 26, 7, 27, 3, 2, 28, 29, 30, 31, 32, 33, 34, 35, 36, 37, 38, 39, 40, 41, 42, 43, 44, 45, 46, 47, 48, 49, 50, 51] (by decide +kernel) (by decide +kernel)
set_option maxRecDepth 20000 in
theorem gX5_solve_X5_judge : GoodIn wsX5_solve (wsV RX5 121 RX5 yX5_judge wsX5_judge) := goodIn_app (goodIn_of _ (by decide +kernel)) ggX5_solve_X5_judge
theorem dX5_solve_0 : decode cX5_solve 0 = .ok (.aload_n 0, 1) := by decide +kernel
theorem dX5_solve_1 : decode cX5_solve 1 = .ok (.getfield 113, 3) := by decide +kernel
theorem dX5_solve_4 : decode cX5_solve 4 = .ok (.ifCond .eq 4, 3) := by decide +kernel
theorem dX5_solve_7 : decode cX5_solve 7 = .ok (.return_, 1) := by decide +kernel
theorem dX5_solve_8 : decode cX5_solve 8 = .ok (.aload_n 0, 1) := by decide +kernel
theorem dX5_solve_9 : decode cX5_solve 9 = .ok (.iconst 1, 1) := by decide +kernel
theorem dX5_solve_10 : decode cX5_solve 10 = .ok (.putfield 113, 3) := by decide +kernel
theorem dX5_solve_13 : decode cX5_solve 13 = .ok (.iconst 0, 1) := by decide +kernel
theorem dX5_solve_14 : decode cX5_solve 14 = .ok (.istore_n 1, 1) := by decide +kernel
theorem dX5_solve_15 : decode cX5_solve 15 = .ok (.iload_n 1, 1) := by decide +kernel
theorem dX5_solve_16 : decode cX5_solve 16 = .ok (.sipush 2592, 3) := by decide +kernel
theorem dX5_solve_19 : decode cX5_solve 19 = .ok (.if_icmp .ge 90, 3) := by decide +kernel
theorem dX5_solve_22 : decode cX5_solve 22 = .ok (.iload_n 1, 1) := by decide +kernel
theorem dX5_solve_23 : decode cX5_solve 23 = .ok (.bipush 36, 2) := by decide +kernel
theorem dX5_solve_25 : decode cX5_solve 25 = .ok (.idiv, 1) := by decide +kernel
theorem dX5_solve_26 : decode cX5_solve 26 = .ok (.bipush 18, 2) := by decide +kernel
theorem dX5_solve_28 : decode cX5_solve 28 = .ok (.irem, 1) := by decide +kernel
theorem dX5_solve_29 : decode cX5_solve 29 = .ok (.istore_n 2, 1) := by decide +kernel
theorem dX5_solve_30 : decode cX5_solve 30 = .ok (.iload_n 1, 1) := by decide +kernel
theorem dX5_solve_31 : decode cX5_solve 31 = .ok (.bipush 18, 2) := by decide +kernel
theorem dX5_solve_33 : decode cX5_solve 33 = .ok (.irem, 1) := by decide +kernel
theorem dX5_solve_34 : decode cX5_solve 34 = .ok (.istore_n 3, 1) := by decide +kernel
theorem dX5_solve_35 : decode cX5_solve 35 = .ok (.iload_n 1, 1) := by decide +kernel
theorem dX5_solve_36 : decode cX5_solve 36 = .ok (.sipush 1296, 3) := by decide +kernel
theorem dX5_solve_39 : decode cX5_solve 39 = .ok (.idiv, 1) := by decide +kernel
theorem dX5_solve_40 : decode cX5_solve 40 = .ok (.istore 4, 2) := by decide +kernel
theorem dX5_solve_42 : decode cX5_solve 42 = .ok (.aload_n 0, 1) := by decide +kernel
theorem dX5_solve_43 : decode cX5_solve 43 = .ok (.iload 4, 2) := by decide +kernel
theorem dX5_solve_45 : decode cX5_solve 45 = .ok (.iload_n 1, 1) := by decide +kernel
theorem dX5_solve_46 : decode cX5_solve 46 = .ok (.sipush 648, 3) := by decide +kernel
theorem dX5_solve_49 : decode cX5_solve 49 = .ok (.idiv, 1) := by decide +kernel
theorem dX5_solve_50 : decode cX5_solve 50 = .ok (.iconst 2, 1) := by decide +kernel
theorem dX5_solve_51 : decode cX5_solve 51 = .ok (.irem, 1) := by decide +kernel
theorem dX5_solve_52 : decode cX5_solve 52 = .ok (.iconst 1, 1) := by decide +kernel
theorem dX5_solve_53 : decode cX5_solve 53 = .ok (.if_icmp .ne 7, 3) := by decide +kernel
theorem dX5_solve_56 : decode cX5_solve 56 = .ok (.iconst 1, 1) := by decide +kernel
theorem dX5_solve_57 : decode cX5_solve 57 = .ok (.goto 4, 3) := by decide +kernel
theorem dX5_solve_60 : decode cX5_solve 60 = .ok (.iconst 0, 1) := by decide +kernel
theorem dX5_solve_61 : decode cX5_solve 61 = .ok (.iload_n 2, 1) := by decide +kernel
theorem dX5_solve_62 : decode cX5_solve 62 = .ok (.iload_n 1, 1) := by decide +kernel
theorem dX5_solve_63 : decode cX5_solve 63 = .ok (.bipush 36, 2) := by decide +kernel
theorem dX5_solve_65 : decode cX5_solve 65 = .ok (.irem, 1) := by decide +kernel
theorem dX5_solve_66 : decode cX5_solve 66 = .ok (.bipush 18, 2) := by decide +kernel
theorem dX5_solve_68 : decode cX5_solve 68 = .ok (.if_icmp .lt 7, 3) := by decide +kernel
theorem dX5_solve_71 : decode cX5_solve 71 = .ok (.iconst 1, 1) := by decide +kernel
theorem dX5_solve_72 : decode cX5_solve 72 = .ok (.goto 4, 3) := by decide +kernel
theorem dX5_solve_75 : decode cX5_solve 75 = .ok (.iconst 0, 1) := by decide +kernel
theorem dX5_solve_76 : decode cX5_solve 76 = .ok (.iload_n 3, 1) := by decide +kernel
theorem dX5_solve_77 : decode cX5_solve 77 = .ok (.invokevirtual 117, 3) := by decide +kernel
theorem dX5_solve_80 : decode cX5_solve 80 = .ok (.aload_n 0, 1) := by decide +kernel
theorem dX5_solve_81 : decode cX5_solve 81 = .ok (.getfield 59, 3) := by decide +kernel
theorem dX5_solve_84 : decode cX5_solve 84 = .ok (.iload_n 1, 1) := by decide +kernel
theorem dX5_solve_85 : decode cX5_solve 85 = .ok (.aload_n 0, 1) := by decide +kernel
theorem dX5_solve_86 : decode cX5_solve 86 = .ok (.getfield 56, 3) := by decide +kernel
theorem dX5_solve_89 : decode cX5_solve 89 = .ok (.iconst 4, 1) := by decide +kernel
theorem dX5_solve_90 : decode cX5_solve 90 = .ok (.iload_n 1, 1) := by decide +kernel
theorem dX5_solve_91 : decode cX5_solve 91 = .ok (.imul, 1) := by decide +kernel
theorem dX5_solve_92 : decode cX5_solve 92 = .ok (.iaload, 1) := by decide +kernel
theorem dX5_solve_93 : decode cX5_solve 93 = .ok (.iconst (-1), 1) := by decide +kernel
theorem dX5_solve_94 : decode cX5_solve 94 = .ok (.if_icmp .ne 7, 3) := by decide +kernel
theorem dX5_solve_97 : decode cX5_solve 97 = .ok (.iconst (-1), 1) := by decide +kernel
theorem dX5_solve_98 : decode cX5_solve 98 = .ok (.goto 4, 3) := by decide +kernel
theorem dX5_solve_101 : decode cX5_solve 101 = .ok (.iconst 0, 1) := by decide +kernel
theorem dX5_solve_102 : decode cX5_solve 102 = .ok (.iastore, 1) := by decide +kernel
theorem dX5_solve_103 : decode cX5_solve 103 = .ok (.iinc 1 1, 3) := by decide +kernel
theorem dX5_solve_106 : decode cX5_solve 106 = .ok (.goto (-91), 3) := by decide +kernel
theorem dX5_solve_109 : decode cX5_solve 109 = .ok (.iconst 1, 1) := by decide +kernel
theorem dX5_solve_110 : decode cX5_solve 110 = .ok (.istore_n 1, 1) := by decide +kernel
theorem dX5_solve_111 : decode cX5_solve 111 = .ok (.iconst 1, 1) := by decide +kernel
theorem dX5_solve_112 : decode cX5_solve 112 = .ok (.istore_n 2, 1) := by decide +kernel
theorem dX5_solve_113 : decode cX5_solve 113 = .ok (.iload_n 1, 1) := by decide +kernel
theorem dX5_solve_114 : decode cX5_solve 114 = .ok (.ifCond .eq 66, 3) := by decide +kernel
theorem dX5_solve_117 : decode cX5_solve 117 = .ok (.iconst 0, 1) := by decide +kernel
theorem dX5_solve_118 : decode cX5_solve 118 = .ok (.istore_n 1, 1) := by decide +kernel
theorem dX5_solve_119 : decode cX5_solve 119 = .ok (.iconst 0, 1) := by decide +kernel
theorem dX5_solve_120 : decode cX5_solve 120 = .ok (.istore_n 3, 1) := by decide +kernel
theorem dX5_solve_121 : decode cX5_solve 121 = .ok (.iload_n 3, 1) := by decide +kernel
theorem dX5_solve_122 : decode cX5_solve 122 = .ok (.sipush 2592, 3) := by decide +kernel
theorem dX5_solve_125 : decode cX5_solve 125 = .ok (.if_icmp .ge 49, 3) := by decide +kernel
theorem dX5_solve_128 : decode cX5_solve 128 = .ok (.aload_n 0, 1) := by decide +kernel
theorem dX5_solve_129 : decode cX5_solve 129 = .ok (.getfield 59, 3) := by decide +kernel
theorem dX5_solve_132 : decode cX5_solve 132 = .ok (.iload_n 3, 1) := by decide +kernel
theorem dX5_solve_133 : decode cX5_solve 133 = .ok (.iaload, 1) := by decide +kernel
theorem dX5_solve_134 : decode cX5_solve 134 = .ok (.ifCond .ne 34, 3) := by decide +kernel
theorem dX5_solve_137 : decode cX5_solve 137 = .ok (.aload_n 0, 1) := by decide +kernel
theorem dX5_solve_138 : decode cX5_solve 138 = .ok (.iload_n 3, 1) := by decide +kernel
theorem dX5_solve_139 : decode cX5_solve 139 = .ok (.iload_n 2, 1) := by decide +kernel
theorem dX5_solve_140 : decode cX5_solve 140 = .ok (.invokevirtual 121, 3) := by decide +kernel
theorem dX5_solve_143 : decode cX5_solve 143 = .ok (.istore 4, 2) := by decide +kernel
theorem dX5_solve_145 : decode cX5_solve 145 = .ok (.aload_n 0, 1) := by decide +kernel
theorem dX5_solve_146 : decode cX5_solve 146 = .ok (.getfield 59, 3) := by decide +kernel
theorem dX5_solve_149 : decode cX5_solve 149 = .ok (.iload_n 3, 1) := by decide +kernel
theorem dX5_solve_150 : decode cX5_solve 150 = .ok (.iload 4, 2) := by decide +kernel
theorem dX5_solve_152 : decode cX5_solve 152 = .ok (.iastore, 1) := by decide +kernel
theorem dX5_solve_153 : decode cX5_solve 153 = .ok (.iload_n 1, 1) := by decide +kernel
theorem dX5_solve_154 : decode cX5_solve 154 = .ok (.ifCond .ne 8, 3) := by decide +kernel
theorem dX5_solve_157 : decode cX5_solve 157 = .ok (.iload 4, 2) := by decide +kernel
theorem dX5_solve_159 : decode cX5_solve 159 = .ok (.ifCond .eq 7, 3) := by decide +kernel
theorem dX5_solve_162 : decode cX5_solve 162 = .ok (.iconst 1, 1) := by decide +kernel
theorem dX5_solve_163 : decode cX5_solve 163 = .ok (.goto 4, 3) := by decide +kernel
theorem dX5_solve_166 : decode cX5_solve 166 = .ok (.iconst 0, 1) := by decide +kernel
theorem dX5_solve_167 : decode cX5_solve 167 = .ok (.istore_n 1, 1) := by decide +kernel
theorem dX5_solve_168 : decode cX5_solve 168 = .ok (.iinc 3 1, 3) := by decide +kernel
theorem dX5_solve_171 : decode cX5_solve 171 = .ok (.goto (-50), 3) := by decide +kernel
theorem dX5_solve_174 : decode cX5_solve 174 = .ok (.iinc 2 1, 3) := by decide +kernel
theorem dX5_solve_177 : decode cX5_solve 177 = .ok (.goto (-64), 3) := by decide +kernel
theorem dX5_solve_180 : decode cX5_solve 180 = .ok (.return_, 1) := by decide +kernel
set_option maxRecDepth 20000 in
theorem ggX5_judge_X5_someLost : GoodIn wsX5_judge wsX5_someLost := goodIn_r _ [5, 6, 7, 12, 13, 14, 15, 16, 17, 18, 19, 20, 21, 22, 23, 24, 25, 26, 27, 28, 29, 30, 31] (by decide +kernel) (by decide +kernel)
set_option maxRecDepth 20000 in
theorem gX5_judge_X5_someLost : GoodIn wsX5_judge (wsV RX5 125 RX5 yX5_someLost wsX5_someLost) := goodIn_app (goodIn_of _ (by decide +kernel)) ggX5_judge_X5_someLost
set_option maxRecDepth 20000 in
theorem ggX5_judge_X5_allWon : GoodIn wsX5_judge wsX5_allWon := goodIn_r _ [11, 6, 7, 12, 13, 14, 15, 16, 17, 18, 19, 20, 21, 22, 23, 24, 25, 26, 27, 28, 29, 30, 31] (by decide +kernel) (by decide +kernel)
set_option maxRecDepth 20000 in
theorem gX5_judge_X5_allWon : GoodIn wsX5_judge (wsV RX5 128 RX5 yX5_allWon wsX5_allWon) := goodIn_app (goodIn_of _ (by decide +kernel)) ggX5_judge_X5_allWon
theorem dX5_judge_0 : decode cX5_judge 0 = .ok (.aload_n 0, 1) := by decide +kernel
theorem dX5_judge_1 : decode cX5_judge 1 = .ok (.iload_n 1, 1) := by decide +kernel
theorem dX5_judge_2 : decode cX5_judge 2 = .ok (.iload_n 2, 1) := by decide +kernel
theorem dX5_judge_3 : decode cX5_judge 3 = .ok (.iconst 1, 1) := by decide +kernel
theorem dX5_judge_4 : decode cX5_judge 4 = .ok (.isub, 1) := by decide +kernel
theorem dX5_judge_5 : decode cX5_judge 5 = .ok (.invokevirtual 125, 3) := by decide +kernel
theorem dX5_judge_8 : decode cX5_judge 8 = .ok (.ifCond .eq 7, 3) := by decide +kernel
theorem dX5_judge_11 : decode cX5_judge 11 = .ok (.iload_n 2, 1) := by decide +kernel
theorem dX5_judge_12 : decode cX5_judge 12 = .ok (.iconst 1, 1) := by decide +kernel
theorem dX5_judge_13 : decode cX5_judge 13 = .ok (.iadd, 1) := by decide +kernel
theorem dX5_judge_14 : decode cX5_judge 14 = .ok (.ireturn, 1) := by decide +kernel
theorem dX5_judge_15 : decode cX5_judge 15 = .ok (.aload_n 0, 1) := by decide +kernel
theorem dX5_judge_16 : decode cX5_judge 16 = .ok (.iload_n 1, 1) := by decide +kernel
theorem dX5_judge_17 : decode cX5_judge 17 = .ok (.invokevirtual 128, 3) := by decide +kernel
theorem dX5_judge_20 : decode cX5_judge 20 = .ok (.iload_n 2, 1) := by decide +kernel
theorem dX5_judge_21 : decode cX5_judge 21 = .ok (.iconst 1, 1) := by decide +kernel
theorem dX5_judge_22 : decode cX5_judge 22 = .ok (.isub, 1) := by decide +kernel
theorem dX5_judge_23 : decode cX5_judge 23 = .ok (.if_icmp .ne 10, 3) := by decide +kernel
theorem dX5_judge_26 : decode cX5_judge 26 = .ok (.iload_n 2, 1) := by decide +kernel
theorem dX5_judge_27 : decode cX5_judge 27 = .ok (.ineg, 1) := by decide +kernel
theorem dX5_judge_28 : decode cX5_judge 28 = .ok (.iconst 1, 1) := by decide +kernel
theorem dX5_judge_29 : decode cX5_judge 29 = .ok (.isub, 1) := by decide +kernel
theorem dX5_judge_30 : decode cX5_judge 30 = .ok (.goto 4, 3) := by decide +kernel
theorem dX5_judge_33 : decode cX5_judge 33 = .ok (.iconst 0, 1) := by decide +kernel
theorem dX5_judge_34 : decode cX5_judge 34 = .ok (.ireturn, 1) := by decide +kernel
set_option maxRecDepth 20000 in
theorem ggX5_ending_X5_sideOf : GoodIn wsX5_ending wsX5_sideOf := goodIn_r _ [6] (by decide +kernel) (by decide +kernel)
set_option maxRecDepth 20000 in
theorem gX5_ending_X5_sideOf : GoodIn wsX5_ending (va_wsS RX5 90 yX5_sideOf wsX5_sideOf) := goodIn_app (goodIn_of _ (by decide +kernel)) ggX5_ending_X5_sideOf
set_option maxRecDepth 20000 in
theorem ggX5_ending_X5_isKing : GoodIn wsX5_ending wsX5_isKing := goodIn_r _ [9] (by decide +kernel) (by decide +kernel)
set_option maxRecDepth 20000 in
theorem gX5_ending_X5_isKing : GoodIn wsX5_ending (va_wsS RX5 73 yX5_isKing wsX5_isKing) := goodIn_app (goodIn_of _ (by decide +kernel)) ggX5_ending_X5_isKing
set_option maxRecDepth 20000 in
theorem ggX5_ending_X5_code : GoodIn wsX5_ending wsX5_code := goodIn_r _ [12] (by decide +kernel) (by decide +kernel)
set_option maxRecDepth 20000 in
theorem gX5_ending_X5_code : GoodIn wsX5_ending (va_wsS RX5 109 yX5_code wsX5_code) := goodIn_app (goodIn_of _ (by decide +kernel)) ggX5_ending_X5_code
theorem dX5_ending_0 : decode cX5_ending 0 = .ok (.iconst (-1), 1) := by decide +kernel
theorem dX5_ending_1 : decode cX5_ending 1 = .ok (.istore_n 2, 1) := by decide +kernel
theorem dX5_ending_2 : decode cX5_ending 2 = .ok (.iconst (-1), 1) := by decide +kernel
theorem dX5_ending_3 : decode cX5_ending 3 = .ok (.istore_n 3, 1) := by decide +kernel
theorem dX5_ending_4 : decode cX5_ending 4 = .ok (.iconst 0, 1) := by decide +kernel
theorem dX5_ending_5 : decode cX5_ending 5 = .ok (.istore 4, 2) := by decide +kernel
theorem dX5_ending_7 : decode cX5_ending 7 = .ok (.iconst 0, 1) := by decide +kernel
theorem dX5_ending_8 : decode cX5_ending 8 = .ok (.istore 5, 2) := by decide +kernel
theorem dX5_ending_10 : decode cX5_ending 10 = .ok (.iload 5, 2) := by decide +kernel
theorem dX5_ending_12 : decode cX5_ending 12 = .ok (.bipush 18, 2) := by decide +kernel
theorem dX5_ending_14 : decode cX5_ending 14 = .ok (.if_icmp .ge 80, 3) := by decide +kernel
theorem dX5_ending_17 : decode cX5_ending 17 = .ok (.aload_n 0, 1) := by decide +kernel
theorem dX5_ending_18 : decode cX5_ending 18 = .ok (.getfield 7, 3) := by decide +kernel
theorem dX5_ending_21 : decode cX5_ending 21 = .ok (.bipush 18, 2) := by decide +kernel
theorem dX5_ending_23 : decode cX5_ending 23 = .ok (.iload_n 1, 1) := by decide +kernel
theorem dX5_ending_24 : decode cX5_ending 24 = .ok (.imul, 1) := by decide +kernel
theorem dX5_ending_25 : decode cX5_ending 25 = .ok (.iload 5, 2) := by decide +kernel
theorem dX5_ending_27 : decode cX5_ending 27 = .ok (.iadd, 1) := by decide +kernel
theorem dX5_ending_28 : decode cX5_ending 28 = .ok (.iaload, 1) := by decide +kernel
theorem dX5_ending_29 : decode cX5_ending 29 = .ok (.invokestatic 90, 3) := by decide +kernel
theorem dX5_ending_32 : decode cX5_ending 32 = .ok (.istore 6, 2) := by decide +kernel
theorem dX5_ending_34 : decode cX5_ending 34 = .ok (.iload 6, 2) := by decide +kernel
theorem dX5_ending_36 : decode cX5_ending 36 = .ok (.ifCond .lt 10, 3) := by decide +kernel
theorem dX5_ending_39 : decode cX5_ending 39 = .ok (.iload 4, 2) := by decide +kernel
theorem dX5_ending_41 : decode cX5_ending 41 = .ok (.iconst 1, 1) := by decide +kernel
theorem dX5_ending_42 : decode cX5_ending 42 = .ok (.iadd, 1) := by decide +kernel
theorem dX5_ending_43 : decode cX5_ending 43 = .ok (.goto 5, 3) := by decide +kernel
theorem dX5_ending_46 : decode cX5_ending 46 = .ok (.iload 4, 2) := by decide +kernel
theorem dX5_ending_48 : decode cX5_ending 48 = .ok (.istore 4, 2) := by decide +kernel
theorem dX5_ending_50 : decode cX5_ending 50 = .ok (.iload 6, 2) := by decide +kernel
theorem dX5_ending_52 : decode cX5_ending 52 = .ok (.aload_n 0, 1) := by decide +kernel
theorem dX5_ending_53 : decode cX5_ending 53 = .ok (.getfield 13, 3) := by decide +kernel
theorem dX5_ending_56 : decode cX5_ending 56 = .ok (.iload_n 1, 1) := by decide +kernel
theorem dX5_ending_57 : decode cX5_ending 57 = .ok (.iaload, 1) := by decide +kernel
theorem dX5_ending_58 : decode cX5_ending 58 = .ok (.if_icmp .ne 8, 3) := by decide +kernel
theorem dX5_ending_61 : decode cX5_ending 61 = .ok (.iload 5, 2) := by decide +kernel
theorem dX5_ending_63 : decode cX5_ending 63 = .ok (.goto 4, 3) := by decide +kernel
theorem dX5_ending_66 : decode cX5_ending 66 = .ok (.iload_n 2, 1) := by decide +kernel
theorem dX5_ending_67 : decode cX5_ending 67 = .ok (.istore_n 2, 1) := by decide +kernel
theorem dX5_ending_68 : decode cX5_ending 68 = .ok (.iload 6, 2) := by decide +kernel
theorem dX5_ending_70 : decode cX5_ending 70 = .ok (.iconst 1, 1) := by decide +kernel
theorem dX5_ending_71 : decode cX5_ending 71 = .ok (.aload_n 0, 1) := by decide +kernel
theorem dX5_ending_72 : decode cX5_ending 72 = .ok (.getfield 13, 3) := by decide +kernel
theorem dX5_ending_75 : decode cX5_ending 75 = .ok (.iload_n 1, 1) := by decide +kernel
theorem dX5_ending_76 : decode cX5_ending 76 = .ok (.iaload, 1) := by decide +kernel
theorem dX5_ending_77 : decode cX5_ending 77 = .ok (.isub, 1) := by decide +kernel
theorem dX5_ending_78 : decode cX5_ending 78 = .ok (.if_icmp .ne 8, 3) := by decide +kernel
theorem dX5_ending_81 : decode cX5_ending 81 = .ok (.iload 5, 2) := by decide +kernel
theorem dX5_ending_83 : decode cX5_ending 83 = .ok (.goto 4, 3) := by decide +kernel
theorem dX5_ending_86 : decode cX5_ending 86 = .ok (.iload_n 3, 1) := by decide +kernel
theorem dX5_ending_87 : decode cX5_ending 87 = .ok (.istore_n 3, 1) := by decide +kernel
theorem dX5_ending_88 : decode cX5_ending 88 = .ok (.iinc 5 1, 3) := by decide +kernel
theorem dX5_ending_91 : decode cX5_ending 91 = .ok (.goto (-81), 3) := by decide +kernel
theorem dX5_ending_94 : decode cX5_ending 94 = .ok (.iload 4, 2) := by decide +kernel
theorem dX5_ending_96 : decode cX5_ending 96 = .ok (.iconst 2, 1) := by decide +kernel
theorem dX5_ending_97 : decode cX5_ending 97 = .ok (.if_icmp .ne 11, 3) := by decide +kernel
theorem dX5_ending_100 : decode cX5_ending 100 = .ok (.iload_n 2, 1) := by decide +kernel
theorem dX5_ending_101 : decode cX5_ending 101 = .ok (.ifCond .lt 7, 3) := by decide +kernel
theorem dX5_ending_104 : decode cX5_ending 104 = .ok (.iload_n 3, 1) := by decide +kernel
theorem dX5_ending_105 : decode cX5_ending 105 = .ok (.ifCond .ge 5, 3) := by decide +kernel
theorem dX5_ending_108 : decode cX5_ending 108 = .ok (.iconst (-1), 1) := by decide +kernel
theorem dX5_ending_109 : decode cX5_ending 109 = .ok (.ireturn, 1) := by decide +kernel
theorem dX5_ending_110 : decode cX5_ending 110 = .ok (.aload_n 0, 1) := by decide +kernel
theorem dX5_ending_111 : decode cX5_ending 111 = .ok (.getfield 13, 3) := by decide +kernel
theorem dX5_ending_114 : decode cX5_ending 114 = .ok (.iload_n 1, 1) := by decide +kernel
theorem dX5_ending_115 : decode cX5_ending 115 = .ok (.iaload, 1) := by decide +kernel
theorem dX5_ending_116 : decode cX5_ending 116 = .ok (.aload_n 0, 1) := by decide +kernel
theorem dX5_ending_117 : decode cX5_ending 117 = .ok (.getfield 7, 3) := by decide +kernel
theorem dX5_ending_120 : decode cX5_ending 120 = .ok (.bipush 18, 2) := by decide +kernel
theorem dX5_ending_122 : decode cX5_ending 122 = .ok (.iload_n 1, 1) := by decide +kernel
theorem dX5_ending_123 : decode cX5_ending 123 = .ok (.imul, 1) := by decide +kernel
theorem dX5_ending_124 : decode cX5_ending 124 = .ok (.iload_n 2, 1) := by decide +kernel
theorem dX5_ending_125 : decode cX5_ending 125 = .ok (.iadd, 1) := by decide +kernel
theorem dX5_ending_126 : decode cX5_ending 126 = .ok (.iaload, 1) := by decide +kernel
theorem dX5_ending_127 : decode cX5_ending 127 = .ok (.invokestatic 73, 3) := by decide +kernel
theorem dX5_ending_130 : decode cX5_ending 130 = .ok (.iload_n 2, 1) := by decide +kernel
theorem dX5_ending_131 : decode cX5_ending 131 = .ok (.aload_n 0, 1) := by decide +kernel
theorem dX5_ending_132 : decode cX5_ending 132 = .ok (.getfield 7, 3) := by decide +kernel
theorem dX5_ending_135 : decode cX5_ending 135 = .ok (.bipush 18, 2) := by decide +kernel
theorem dX5_ending_137 : decode cX5_ending 137 = .ok (.iload_n 1, 1) := by decide +kernel
theorem dX5_ending_138 : decode cX5_ending 138 = .ok (.imul, 1) := by decide +kernel
theorem dX5_ending_139 : decode cX5_ending 139 = .ok (.iload_n 3, 1) := by decide +kernel
theorem dX5_ending_140 : decode cX5_ending 140 = .ok (.iadd, 1) := by decide +kernel
theorem dX5_ending_141 : decode cX5_ending 141 = .ok (.iaload, 1) := by decide +kernel
theorem dX5_ending_142 : decode cX5_ending 142 = .ok (.invokestatic 73, 3) := by decide +kernel
theorem dX5_ending_145 : decode cX5_ending 145 = .ok (.iload_n 3, 1) := by decide +kernel
theorem dX5_ending_146 : decode cX5_ending 146 = .ok (.invokestatic 109, 3) := by decide +kernel
theorem dX5_ending_149 : decode cX5_ending 149 = .ok (.ireturn, 1) := by decide +kernel
set_option maxRecDepth 20000 in
theorem ggX5_verdict_X5_ending : GoodIn wsX5_verdict wsX5_ending := goodIn_r _ [6, 7, 8, 9, 10, 5, 11, 12, 13, 14, 15, 16, 17, 48, 49, 50, 51, 52, 53, 54, 55, 56, 57, 58, 59, 60, 61, 62, 63, 64, 65, 66, 67] (by decide +kernel) (by decide +kernel)
set_option maxRecDepth 20000 in
theorem gX5_verdict_X5_ending : GoodIn wsX5_verdict (wsV RX5 131 RX5 yX5_ending wsX5_ending) := goodIn_app (goodIn_of _ (by decide +kernel)) ggX5_verdict_X5_ending
set_option maxRecDepth 20000 in
theorem ggX5_verdict_X5_solve : GoodIn wsX5_verdict wsX5_solve := goodIn_r _ [21, 22, 1, 23, 24, 25, 26, 5, 27, 28, 29, 15, 16, 17, 30, 31, 32, 33, 34, 35, 36, 37, 38, 39, 40, 41, 42, 43, 44, 45, 46, 47, 48, 49, 50, 51, 52, 53, 54, 55, 56, 57, 58, 59, 60, 61, 62, 63, 64, 65, 66, 67] (by decide +kernel) (by decide +kernel)
set_option maxRecDepth 20000 in
theorem gX5_verdict_X5_solve : GoodIn wsX5_verdict (wsV RX5 134 RX5 yX5_solve wsX5_solve) := goodIn_app (goodIn_of _ (by decide +kernel)) ggX5_verdict_X5_solve
theorem dX5_verdict_0 : decode cX5_verdict 0 = .ok (.aload_n 0, 1) := by decide +kernel
theorem dX5_verdict_1 : decode cX5_verdict 1 = .ok (.iconst 0, 1) := by decide +kernel
theorem dX5_verdict_2 : decode cX5_verdict 2 = .ok (.invokevirtual 131, 3) := by decide +kernel
theorem dX5_verdict_5 : decode cX5_verdict 5 = .ok (.istore_n 1, 1) := by decide +kernel
theorem dX5_verdict_6 : decode cX5_verdict 6 = .ok (.iload_n 1, 1) := by decide +kernel
theorem dX5_verdict_7 : decode cX5_verdict 7 = .ok (.ifCond .ge 7, 3) := by decide +kernel
theorem dX5_verdict_10 : decode cX5_verdict 10 = .ok (.sipush (-2000), 3) := by decide +kernel
theorem dX5_verdict_13 : decode cX5_verdict 13 = .ok (.ireturn, 1) := by decide +kernel
theorem dX5_verdict_14 : decode cX5_verdict 14 = .ok (.aload_n 0, 1) := by decide +kernel
theorem dX5_verdict_15 : decode cX5_verdict 15 = .ok (.invokevirtual 134, 3) := by decide +kernel
theorem dX5_verdict_18 : decode cX5_verdict 18 = .ok (.aload_n 0, 1) := by decide +kernel
theorem dX5_verdict_19 : decode cX5_verdict 19 = .ok (.getfield 59, 3) := by decide +kernel
theorem dX5_verdict_22 : decode cX5_verdict 22 = .ok (.iload_n 1, 1) := by decide +kernel
theorem dX5_verdict_23 : decode cX5_verdict 23 = .ok (.iaload, 1) := by decide +kernel
theorem dX5_verdict_24 : decode cX5_verdict 24 = .ok (.istore_n 2, 1) := by decide +kernel
theorem dX5_verdict_25 : decode cX5_verdict 25 = .ok (.iload_n 2, 1) := by decide +kernel
theorem dX5_verdict_26 : decode cX5_verdict 26 = .ok (.iconst (-1), 1) := by decide +kernel
theorem dX5_verdict_27 : decode cX5_verdict 27 = .ok (.if_icmp .ne 8, 3) := by decide +kernel
theorem dX5_verdict_30 : decode cX5_verdict 30 = .ok (.bipush (-100), 2) := by decide +kernel
theorem dX5_verdict_32 : decode cX5_verdict 32 = .ok (.goto 24, 3) := by decide +kernel
theorem dX5_verdict_35 : decode cX5_verdict 35 = .ok (.iload_n 2, 1) := by decide +kernel
theorem dX5_verdict_36 : decode cX5_verdict 36 = .ok (.ifCond .le 9, 3) := by decide +kernel
theorem dX5_verdict_39 : decode cX5_verdict 39 = .ok (.iload_n 2, 1) := by decide +kernel
theorem dX5_verdict_40 : decode cX5_verdict 40 = .ok (.iconst 1, 1) := by decide +kernel
theorem dX5_verdict_41 : decode cX5_verdict 41 = .ok (.isub, 1) := by decide +kernel
theorem dX5_verdict_42 : decode cX5_verdict 42 = .ok (.goto 14, 3) := by decide +kernel
theorem dX5_verdict_45 : decode cX5_verdict 45 = .ok (.iload_n 2, 1) := by decide +kernel
theorem dX5_verdict_46 : decode cX5_verdict 46 = .ok (.ifCond .ge 9, 3) := by decide +kernel
theorem dX5_verdict_49 : decode cX5_verdict 49 = .ok (.iload_n 2, 1) := by decide +kernel
theorem dX5_verdict_50 : decode cX5_verdict 50 = .ok (.iconst 1, 1) := by decide +kernel
theorem dX5_verdict_51 : decode cX5_verdict 51 = .ok (.iadd, 1) := by decide +kernel
theorem dX5_verdict_52 : decode cX5_verdict 52 = .ok (.goto 4, 3) := by decide +kernel
theorem dX5_verdict_55 : decode cX5_verdict 55 = .ok (.iconst 0, 1) := by decide +kernel
theorem dX5_verdict_56 : decode cX5_verdict 56 = .ok (.ireturn, 1) := by decide +kernel
set_option maxRecDepth 20000 in
theorem ggX5_material_X5_isKing : GoodIn wsX5_material wsX5_isKing := goodIn_r _ [6] (by decide +kernel) (by decide +kernel)
set_option maxRecDepth 20000 in
theorem gX5_material_X5_isKing : GoodIn wsX5_material (va_wsS RX5 73 yX5_isKing wsX5_isKing) := goodIn_app (goodIn_of _ (by decide +kernel)) ggX5_material_X5_isKing
set_option maxRecDepth 20000 in
theorem ggX5_material_X5_sideOf : GoodIn wsX5_material wsX5_sideOf := goodIn_r _ [9] (by decide +kernel) (by decide +kernel)
set_option maxRecDepth 20000 in
theorem gX5_material_X5_sideOf : GoodIn wsX5_material (va_wsS RX5 90 yX5_sideOf wsX5_sideOf) := goodIn_app (goodIn_of _ (by decide +kernel)) ggX5_material_X5_sideOf
theorem dX5_material_0 : decode cX5_material 0 = .ok (.iconst 0, 1) := by decide +kernel
theorem dX5_material_1 : decode cX5_material 1 = .ok (.istore_n 2, 1) := by decide +kernel
theorem dX5_material_2 : decode cX5_material 2 = .ok (.iconst 0, 1) := by decide +kernel
theorem dX5_material_3 : decode cX5_material 3 = .ok (.istore_n 3, 1) := by decide +kernel
theorem dX5_material_4 : decode cX5_material 4 = .ok (.iload_n 3, 1) := by decide +kernel
theorem dX5_material_5 : decode cX5_material 5 = .ok (.bipush 18, 2) := by decide +kernel
theorem dX5_material_7 : decode cX5_material 7 = .ok (.if_icmp .ge 72, 3) := by decide +kernel
theorem dX5_material_10 : decode cX5_material 10 = .ok (.aload_n 0, 1) := by decide +kernel
theorem dX5_material_11 : decode cX5_material 11 = .ok (.getfield 7, 3) := by decide +kernel
theorem dX5_material_14 : decode cX5_material 14 = .ok (.bipush 18, 2) := by decide +kernel
theorem dX5_material_16 : decode cX5_material 16 = .ok (.iload_n 1, 1) := by decide +kernel
theorem dX5_material_17 : decode cX5_material 17 = .ok (.imul, 1) := by decide +kernel
theorem dX5_material_18 : decode cX5_material 18 = .ok (.iload_n 3, 1) := by decide +kernel
theorem dX5_material_19 : decode cX5_material 19 = .ok (.iadd, 1) := by decide +kernel
theorem dX5_material_20 : decode cX5_material 20 = .ok (.iaload, 1) := by decide +kernel
theorem dX5_material_21 : decode cX5_material 21 = .ok (.istore 4, 2) := by decide +kernel
theorem dX5_material_23 : decode cX5_material 23 = .ok (.iload 4, 2) := by decide +kernel
theorem dX5_material_25 : decode cX5_material 25 = .ok (.ifCond .ne 7, 3) := by decide +kernel
theorem dX5_material_28 : decode cX5_material 28 = .ok (.iconst 0, 1) := by decide +kernel
theorem dX5_material_29 : decode cX5_material 29 = .ok (.goto 16, 3) := by decide +kernel
end
section
theorem dX5_material_32 : decode cX5_material 32 = .ok (.iload 4, 2) := by decide +kernel
theorem dX5_material_34 : decode cX5_material 34 = .ok (.invokestatic 73, 3) := by decide +kernel
theorem dX5_material_37 : decode cX5_material 37 = .ok (.ifCond .eq 7, 3) := by decide +kernel
theorem dX5_material_40 : decode cX5_material 40 = .ok (.iconst 3, 1) := by decide +kernel
theorem dX5_material_41 : decode cX5_material 41 = .ok (.goto 4, 3) := by decide +kernel
theorem dX5_material_44 : decode cX5_material 44 = .ok (.iconst 2, 1) := by decide +kernel
theorem dX5_material_45 : decode cX5_material 45 = .ok (.istore 5, 2) := by decide +kernel
theorem dX5_material_47 : decode cX5_material 47 = .ok (.iload 4, 2) := by decide +kernel
theorem dX5_material_49 : decode cX5_material 49 = .ok (.invokestatic 90, 3) := by decide +kernel
theorem dX5_material_52 : decode cX5_material 52 = .ok (.aload_n 0, 1) := by decide +kernel
theorem dX5_material_53 : decode cX5_material 53 = .ok (.getfield 13, 3) := by decide +kernel
theorem dX5_material_56 : decode cX5_material 56 = .ok (.iload_n 1, 1) := by decide +kernel
theorem dX5_material_57 : decode cX5_material 57 = .ok (.iaload, 1) := by decide +kernel
theorem dX5_material_58 : decode cX5_material 58 = .ok (.if_icmp .ne 10, 3) := by decide +kernel
theorem dX5_material_61 : decode cX5_material 61 = .ok (.iload_n 2, 1) := by decide +kernel
theorem dX5_material_62 : decode cX5_material 62 = .ok (.iload 5, 2) := by decide +kernel
theorem dX5_material_64 : decode cX5_material 64 = .ok (.iadd, 1) := by decide +kernel
theorem dX5_material_65 : decode cX5_material 65 = .ok (.goto 7, 3) := by decide +kernel
theorem dX5_material_68 : decode cX5_material 68 = .ok (.iload_n 2, 1) := by decide +kernel
theorem dX5_material_69 : decode cX5_material 69 = .ok (.iload 5, 2) := by decide +kernel
theorem dX5_material_71 : decode cX5_material 71 = .ok (.isub, 1) := by decide +kernel
theorem dX5_material_72 : decode cX5_material 72 = .ok (.istore_n 2, 1) := by decide +kernel
theorem dX5_material_73 : decode cX5_material 73 = .ok (.iinc 3 1, 3) := by decide +kernel
theorem dX5_material_76 : decode cX5_material 76 = .ok (.goto (-72), 3) := by decide +kernel
theorem dX5_material_79 : decode cX5_material 79 = .ok (.iload_n 2, 1) := by decide +kernel
theorem dX5_material_80 : decode cX5_material 80 = .ok (.ireturn, 1) := by decide +kernel
set_option maxRecDepth 20000 in
theorem ggX5_atOnce_X5_ending : GoodIn wsX5_atOnce wsX5_ending := goodIn_r _ [8, 9, 10, 11, 12, 7, 13, 14, 15, 16, 17, 18, 19, 83, 84, 85, 86, 87, 88, 89, 90, 91, 92, 93, 94, 95, 96, 97, 98, 99, 100, 101, 102] (by decide +kernel) (by decide +kernel)
set_option maxRecDepth 20000 in
theorem gX5_atOnce_X5_ending : GoodIn wsX5_atOnce (wsV RX5 131 RX5 yX5_ending wsX5_ending) := goodIn_app (goodIn_of _ (by decide +kernel)) ggX5_atOnce_X5_ending
set_option maxRecDepth 20000 in
theorem ggX5_atOnce_X5_solve : GoodIn wsX5_atOnce wsX5_solve := goodIn_r _ [23, 24, 1, 25, 26, 27, 28, 7, 29, 30, 31, 17, 18, 19, 32, 33, 34, 35, 36, 37, 38, 39, 40, 41, 42, 43, 44, 45, 46, 47, 48, 49, 83, 84, 85, 86, 87, 88, 89, 90, 91, 92, 93, 94, 95, 96, 97, 98, 99, 100, 101, 102] (by decide +kernel) (by decide +kernel)
set_option maxRecDepth 20000 in
theorem gX5_atOnce_X5_solve : GoodIn wsX5_atOnce (wsV RX5 134 RX5 yX5_solve wsX5_solve) := goodIn_app (goodIn_of _ (by decide +kernel)) ggX5_atOnce_X5_solve
set_option maxRecDepth 20000 in
theorem ggX5_atOnce_X5_generate : GoodIn wsX5_atOnce wsX5_generate := goodIn_r _ [53, 2, 9, 10, 11, 12, 7, 13, 54, 55, 56, 57, 58, 59, 60, 61, 30, 31, 62, 63, 64, 65, 66, 67, 68, 69, 70, 14, 15, 16, 71, 72, 73, 74, 32, 33, 34, 35, 36, 37, 75, 76, 77, 78, 83, 84, 85, 86, 87, 88, 89, 90, 91, 92, 93, 94, 95, 96, 97, 98, 99, 100, 101, 102] (by decide +kernel) (by decide +kernel)
set_option maxRecDepth 20000 in
theorem gX5_atOnce_X5_generate : GoodIn wsX5_atOnce (wsV RX5 137 RX5 yX5_generate wsX5_generate) := goodIn_app (goodIn_of _ (by decide +kernel)) ggX5_atOnce_X5_generate
set_option maxRecDepth 20000 in
theorem ggX5_atOnce_X5_material : GoodIn wsX5_atOnce wsX5_material := goodIn_r _ [82, 9, 10, 14, 15, 7, 16, 11, 12, 13, 83, 84, 85, 86, 87, 88, 89, 90, 91, 92, 93, 94, 95, 96, 97, 98, 99, 100, 101, 102] (by decide +kernel) (by decide +kernel)
set_option maxRecDepth 20000 in
theorem gX5_atOnce_X5_material : GoodIn wsX5_atOnce (wsV RX5 141 RX5 yX5_material wsX5_material) := goodIn_app (goodIn_of _ (by decide +kernel)) ggX5_atOnce_X5_material
theorem dX5_atOnce_0 : decode cX5_atOnce 0 = .ok (.aload_n 0, 1) := by decide +kernel
theorem dX5_atOnce_1 : decode cX5_atOnce 1 = .ok (.iload_n 1, 1) := by decide +kernel
theorem dX5_atOnce_2 : decode cX5_atOnce 2 = .ok (.invokevirtual 131, 3) := by decide +kernel
theorem dX5_atOnce_5 : decode cX5_atOnce 5 = .ok (.istore_n 2, 1) := by decide +kernel
theorem dX5_atOnce_6 : decode cX5_atOnce 6 = .ok (.iload_n 2, 1) := by decide +kernel
theorem dX5_atOnce_7 : decode cX5_atOnce 7 = .ok (.ifCond .lt 41, 3) := by decide +kernel
theorem dX5_atOnce_10 : decode cX5_atOnce 10 = .ok (.aload_n 0, 1) := by decide +kernel
theorem dX5_atOnce_11 : decode cX5_atOnce 11 = .ok (.invokevirtual 134, 3) := by decide +kernel
theorem dX5_atOnce_14 : decode cX5_atOnce 14 = .ok (.aload_n 0, 1) := by decide +kernel
theorem dX5_atOnce_15 : decode cX5_atOnce 15 = .ok (.getfield 59, 3) := by decide +kernel
theorem dX5_atOnce_18 : decode cX5_atOnce 18 = .ok (.iload_n 2, 1) := by decide +kernel
theorem dX5_atOnce_19 : decode cX5_atOnce 19 = .ok (.iaload, 1) := by decide +kernel
theorem dX5_atOnce_20 : decode cX5_atOnce 20 = .ok (.istore_n 3, 1) := by decide +kernel
theorem dX5_atOnce_21 : decode cX5_atOnce 21 = .ok (.iload_n 3, 1) := by decide +kernel
theorem dX5_atOnce_22 : decode cX5_atOnce 22 = .ok (.ifCond .le 11, 3) := by decide +kernel
theorem dX5_atOnce_25 : decode cX5_atOnce 25 = .ok (.sipush 1001, 3) := by decide +kernel
theorem dX5_atOnce_28 : decode cX5_atOnce 28 = .ok (.iload_n 3, 1) := by decide +kernel
theorem dX5_atOnce_29 : decode cX5_atOnce 29 = .ok (.isub, 1) := by decide +kernel
theorem dX5_atOnce_30 : decode cX5_atOnce 30 = .ok (.goto 17, 3) := by decide +kernel
theorem dX5_atOnce_33 : decode cX5_atOnce 33 = .ok (.iload_n 3, 1) := by decide +kernel
theorem dX5_atOnce_34 : decode cX5_atOnce 34 = .ok (.ifCond .ge 12, 3) := by decide +kernel
theorem dX5_atOnce_37 : decode cX5_atOnce 37 = .ok (.iload_n 3, 1) := by decide +kernel
theorem dX5_atOnce_38 : decode cX5_atOnce 38 = .ok (.ineg, 1) := by decide +kernel
theorem dX5_atOnce_39 : decode cX5_atOnce 39 = .ok (.sipush 1001, 3) := by decide +kernel
theorem dX5_atOnce_42 : decode cX5_atOnce 42 = .ok (.isub, 1) := by decide +kernel
theorem dX5_atOnce_43 : decode cX5_atOnce 43 = .ok (.goto 4, 3) := by decide +kernel
theorem dX5_atOnce_46 : decode cX5_atOnce 46 = .ok (.iconst 0, 1) := by decide +kernel
theorem dX5_atOnce_47 : decode cX5_atOnce 47 = .ok (.ireturn, 1) := by decide +kernel
theorem dX5_atOnce_48 : decode cX5_atOnce 48 = .ok (.aload_n 0, 1) := by decide +kernel
theorem dX5_atOnce_49 : decode cX5_atOnce 49 = .ok (.iload_n 1, 1) := by decide +kernel
theorem dX5_atOnce_50 : decode cX5_atOnce 50 = .ok (.invokevirtual 137, 3) := by decide +kernel
theorem dX5_atOnce_53 : decode cX5_atOnce 53 = .ok (.aload_n 0, 1) := by decide +kernel
theorem dX5_atOnce_54 : decode cX5_atOnce 54 = .ok (.getfield 19, 3) := by decide +kernel
theorem dX5_atOnce_57 : decode cX5_atOnce 57 = .ok (.iload_n 1, 1) := by decide +kernel
theorem dX5_atOnce_58 : decode cX5_atOnce 58 = .ok (.iaload, 1) := by decide +kernel
theorem dX5_atOnce_59 : decode cX5_atOnce 59 = .ok (.ifCond .ne 7, 3) := by decide +kernel
theorem dX5_atOnce_62 : decode cX5_atOnce 62 = .ok (.sipush (-1000), 3) := by decide +kernel
theorem dX5_atOnce_65 : decode cX5_atOnce 65 = .ok (.ireturn, 1) := by decide +kernel
theorem dX5_atOnce_66 : decode cX5_atOnce 66 = .ok (.aload_n 0, 1) := by decide +kernel
theorem dX5_atOnce_67 : decode cX5_atOnce 67 = .ok (.getfield 22, 3) := by decide +kernel
theorem dX5_atOnce_70 : decode cX5_atOnce 70 = .ok (.iload_n 1, 1) := by decide +kernel
theorem dX5_atOnce_71 : decode cX5_atOnce 71 = .ok (.iaload, 1) := by decide +kernel
theorem dX5_atOnce_72 : decode cX5_atOnce 72 = .ok (.ifCond .ne 11, 3) := by decide +kernel
theorem dX5_atOnce_75 : decode cX5_atOnce 75 = .ok (.aload_n 0, 1) := by decide +kernel
theorem dX5_atOnce_76 : decode cX5_atOnce 76 = .ok (.iload_n 1, 1) := by decide +kernel
theorem dX5_atOnce_77 : decode cX5_atOnce 77 = .ok (.invokevirtual 141, 3) := by decide +kernel
theorem dX5_atOnce_80 : decode cX5_atOnce 80 = .ok (.goto 6, 3) := by decide +kernel
theorem dX5_atOnce_83 : decode cX5_atOnce 83 = .ok (.sipush (-9999), 3) := by decide +kernel
theorem dX5_atOnce_86 : decode cX5_atOnce 86 = .ok (.ireturn, 1) := by decide +kernel
set_option maxRecDepth 20000 in
theorem ggX5_search_X5_enter : GoodIn wsX5_search wsX5_enter := goodIn_r _ [9, 2, 3, 10, 11, 12, 8, 13, 14, 4, 1, 15, 16, 17, 18, 19, 20, 21, 22, 23, 24, 25, 26, 27, 28, 29, 30, 31, 32, 33, 34, 35, 36, 37, 38, 39, 40, 41, 42, 43, 44, 45, 46, 47, 48, 49, 50, 51, 52, 53, 54, 55, 56, 57, 58, 59, 60, 61, 62, 63, 64, 65, 66, 67, 68, 69, 70, 71, 72, 73, 74, 75, 76, 77, 78, 79, 80, 81, 82, 83, 84, 85, 86, 87, 88, 89, 90, 91, 92, 103, 104, 105, 106, 107, 108, 109, 110, 111, 112, 113, 114, 115, 116, 117, 118, 119, 120, 121, 122] (by decide +kernel) (by decide +kernel)
set_option maxRecDepth 20000 in
theorem gX5_search_X5_enter : GoodIn wsX5_search (wsV RX5 144 RX5 yX5_enter wsX5_enter) := goodIn_app (goodIn_of _ (by decide +kernel)) ggX5_search_X5_enter
set_option maxRecDepth 20000 in
theorem ggX5_search_X5_make : GoodIn wsX5_search wsX5_make := goodIn_r _ [96, 77, 76, 19, 20, 97, 98, 8, 99, 100, 101, 102, 42, 43, 44, 45, 46, 47, 103, 104, 105, 106, 107, 108, 109, 110, 111, 112, 113, 114, 115, 116, 117, 118, 119, 120, 121, 122] (by decide +kernel) (by decide +kernel)
set_option maxRecDepth 20000 in
theorem gX5_search_X5_make : GoodIn wsX5_search (wsV RX5 147 RX5 yX5_make wsX5_make) := goodIn_app (goodIn_of _ (by decide +kernel)) ggX5_search_X5_make
theorem dX5_search_0 : decode cX5_search 0 = .ok (.iload_n 1, 1) := by decide +kernel
theorem dX5_search_1 : decode cX5_search 1 = .ok (.istore_n 3, 1) := by decide +kernel
theorem dX5_search_2 : decode cX5_search 2 = .ok (.aload_n 0, 1) := by decide +kernel
theorem dX5_search_3 : decode cX5_search 3 = .ok (.getfield 22, 3) := by decide +kernel
theorem dX5_search_6 : decode cX5_search 6 = .ok (.iload_n 3, 1) := by decide +kernel
theorem dX5_search_7 : decode cX5_search 7 = .ok (.iload_n 2, 1) := by decide +kernel
theorem dX5_search_8 : decode cX5_search 8 = .ok (.iastore, 1) := by decide +kernel
theorem dX5_search_9 : decode cX5_search 9 = .ok (.aload_n 0, 1) := by decide +kernel
theorem dX5_search_10 : decode cX5_search 10 = .ok (.iload_n 3, 1) := by decide +kernel
theorem dX5_search_11 : decode cX5_search 11 = .ok (.invokevirtual 144, 3) := by decide +kernel
theorem dX5_search_14 : decode cX5_search 14 = .ok (.istore 4, 2) := by decide +kernel
theorem dX5_search_16 : decode cX5_search 16 = .ok (.iload_n 3, 1) := by decide +kernel
theorem dX5_search_17 : decode cX5_search 17 = .ok (.iload_n 1, 1) := by decide +kernel
theorem dX5_search_18 : decode cX5_search 18 = .ok (.if_icmp .gt 11, 3) := by decide +kernel
theorem dX5_search_21 : decode cX5_search 21 = .ok (.iload 4, 2) := by decide +kernel
theorem dX5_search_23 : decode cX5_search 23 = .ok (.sipush (-9999), 3) := by decide +kernel
theorem dX5_search_26 : decode cX5_search 26 = .ok (.if_icmp .ne 126, 3) := by decide +kernel
theorem dX5_search_29 : decode cX5_search 29 = .ok (.iload 4, 2) := by decide +kernel
theorem dX5_search_31 : decode cX5_search 31 = .ok (.sipush (-9999), 3) := by decide +kernel
theorem dX5_search_34 : decode cX5_search 34 = .ok (.if_icmp .ne 43, 3) := by decide +kernel
theorem dX5_search_37 : decode cX5_search 37 = .ok (.aload_n 0, 1) := by decide +kernel
theorem dX5_search_38 : decode cX5_search 38 = .ok (.iload_n 3, 1) := by decide +kernel
theorem dX5_search_39 : decode cX5_search 39 = .ok (.aload_n 0, 1) := by decide +kernel
theorem dX5_search_40 : decode cX5_search 40 = .ok (.getfield 25, 3) := by decide +kernel
theorem dX5_search_43 : decode cX5_search 43 = .ok (.iload_n 3, 1) := by decide +kernel
theorem dX5_search_44 : decode cX5_search 44 = .ok (.iaload, 1) := by decide +kernel
theorem dX5_search_45 : decode cX5_search 45 = .ok (.invokevirtual 147, 3) := by decide +kernel
theorem dX5_search_48 : decode cX5_search 48 = .ok (.aload_n 0, 1) := by decide +kernel
theorem dX5_search_49 : decode cX5_search 49 = .ok (.getfield 22, 3) := by decide +kernel
theorem dX5_search_52 : decode cX5_search 52 = .ok (.iload_n 3, 1) := by decide +kernel
theorem dX5_search_53 : decode cX5_search 53 = .ok (.iconst 1, 1) := by decide +kernel
theorem dX5_search_54 : decode cX5_search 54 = .ok (.iadd, 1) := by decide +kernel
theorem dX5_search_55 : decode cX5_search 55 = .ok (.aload_n 0, 1) := by decide +kernel
theorem dX5_search_56 : decode cX5_search 56 = .ok (.getfield 22, 3) := by decide +kernel
theorem dX5_search_59 : decode cX5_search 59 = .ok (.iload_n 3, 1) := by decide +kernel
theorem dX5_search_60 : decode cX5_search 60 = .ok (.iaload, 1) := by decide +kernel
theorem dX5_search_61 : decode cX5_search 61 = .ok (.iconst 1, 1) := by decide +kernel
theorem dX5_search_62 : decode cX5_search 62 = .ok (.isub, 1) := by decide +kernel
theorem dX5_search_63 : decode cX5_search 63 = .ok (.iastore, 1) := by decide +kernel
theorem dX5_search_64 : decode cX5_search 64 = .ok (.iinc 3 1, 3) := by decide +kernel
theorem dX5_search_67 : decode cX5_search 67 = .ok (.aload_n 0, 1) := by decide +kernel
theorem dX5_search_68 : decode cX5_search 68 = .ok (.iload_n 3, 1) := by decide +kernel
theorem dX5_search_69 : decode cX5_search 69 = .ok (.invokevirtual 144, 3) := by decide +kernel
theorem dX5_search_72 : decode cX5_search 72 = .ok (.istore 4, 2) := by decide +kernel
theorem dX5_search_74 : decode cX5_search 74 = .ok (.goto (-58), 3) := by decide +kernel
theorem dX5_search_77 : decode cX5_search 77 = .ok (.iinc 3 (-1), 3) := by decide +kernel
theorem dX5_search_80 : decode cX5_search 80 = .ok (.aload_n 0, 1) := by decide +kernel
theorem dX5_search_81 : decode cX5_search 81 = .ok (.getfield 28, 3) := by decide +kernel
theorem dX5_search_84 : decode cX5_search 84 = .ok (.iload_n 3, 1) := by decide +kernel
theorem dX5_search_85 : decode cX5_search 85 = .ok (.iload 4, 2) := by decide +kernel
theorem dX5_search_87 : decode cX5_search 87 = .ok (.ineg, 1) := by decide +kernel
theorem dX5_search_88 : decode cX5_search 88 = .ok (.aload_n 0, 1) := by decide +kernel
theorem dX5_search_89 : decode cX5_search 89 = .ok (.getfield 28, 3) := by decide +kernel
theorem dX5_search_92 : decode cX5_search 92 = .ok (.iload_n 3, 1) := by decide +kernel
theorem dX5_search_93 : decode cX5_search 93 = .ok (.iaload, 1) := by decide +kernel
theorem dX5_search_94 : decode cX5_search 94 = .ok (.if_icmp .le 9, 3) := by decide +kernel
theorem dX5_search_97 : decode cX5_search 97 = .ok (.iload 4, 2) := by decide +kernel
theorem dX5_search_99 : decode cX5_search 99 = .ok (.ineg, 1) := by decide +kernel
theorem dX5_search_100 : decode cX5_search 100 = .ok (.goto 9, 3) := by decide +kernel
theorem dX5_search_103 : decode cX5_search 103 = .ok (.aload_n 0, 1) := by decide +kernel
theorem dX5_search_104 : decode cX5_search 104 = .ok (.getfield 28, 3) := by decide +kernel
theorem dX5_search_107 : decode cX5_search 107 = .ok (.iload_n 3, 1) := by decide +kernel
theorem dX5_search_108 : decode cX5_search 108 = .ok (.iaload, 1) := by decide +kernel
theorem dX5_search_109 : decode cX5_search 109 = .ok (.iastore, 1) := by decide +kernel
theorem dX5_search_110 : decode cX5_search 110 = .ok (.aload_n 0, 1) := by decide +kernel
theorem dX5_search_111 : decode cX5_search 111 = .ok (.getfield 25, 3) := by decide +kernel
theorem dX5_search_114 : decode cX5_search 114 = .ok (.iload_n 3, 1) := by decide +kernel
theorem dX5_search_115 : decode cX5_search 115 = .ok (.dup2, 1) := by decide +kernel
theorem dX5_search_116 : decode cX5_search 116 = .ok (.iaload, 1) := by decide +kernel
theorem dX5_search_117 : decode cX5_search 117 = .ok (.iconst 1, 1) := by decide +kernel
theorem dX5_search_118 : decode cX5_search 118 = .ok (.iadd, 1) := by decide +kernel
theorem dX5_search_119 : decode cX5_search 119 = .ok (.iastore, 1) := by decide +kernel
theorem dX5_search_120 : decode cX5_search 120 = .ok (.aload_n 0, 1) := by decide +kernel
theorem dX5_search_121 : decode cX5_search 121 = .ok (.getfield 25, 3) := by decide +kernel
theorem dX5_search_124 : decode cX5_search 124 = .ok (.iload_n 3, 1) := by decide +kernel
theorem dX5_search_125 : decode cX5_search 125 = .ok (.iaload, 1) := by decide +kernel
theorem dX5_search_126 : decode cX5_search 126 = .ok (.aload_n 0, 1) := by decide +kernel
theorem dX5_search_127 : decode cX5_search 127 = .ok (.getfield 19, 3) := by decide +kernel
theorem dX5_search_130 : decode cX5_search 130 = .ok (.iload_n 3, 1) := by decide +kernel
theorem dX5_search_131 : decode cX5_search 131 = .ok (.iaload, 1) := by decide +kernel
theorem dX5_search_132 : decode cX5_search 132 = .ok (.if_icmp .ge 9, 3) := by decide +kernel
theorem dX5_search_135 : decode cX5_search 135 = .ok (.sipush (-9999), 3) := by decide +kernel
theorem dX5_search_138 : decode cX5_search 138 = .ok (.goto 9, 3) := by decide +kernel
theorem dX5_search_141 : decode cX5_search 141 = .ok (.aload_n 0, 1) := by decide +kernel
theorem dX5_search_142 : decode cX5_search 142 = .ok (.getfield 28, 3) := by decide +kernel
theorem dX5_search_145 : decode cX5_search 145 = .ok (.iload_n 3, 1) := by decide +kernel
theorem dX5_search_146 : decode cX5_search 146 = .ok (.iaload, 1) := by decide +kernel
theorem dX5_search_147 : decode cX5_search 147 = .ok (.istore 4, 2) := by decide +kernel
theorem dX5_search_149 : decode cX5_search 149 = .ok (.goto (-133), 3) := by decide +kernel
theorem dX5_search_152 : decode cX5_search 152 = .ok (.iload 4, 2) := by decide +kernel
theorem dX5_search_154 : decode cX5_search 154 = .ok (.ireturn, 1) := by decide +kernel
set_option maxRecDepth 20000 in
theorem ggX5_enter_X5_atOnce : GoodIn wsX5_enter wsX5_atOnce := goodIn_r _ [7, 8, 9, 10, 11, 12, 13, 6, 14, 15, 16, 17, 18, 19, 20, 21, 22, 23, 24, 25, 26, 27, 28, 29, 30, 31, 32, 33, 34, 35, 36, 37, 38, 39, 40, 41, 42, 43, 44, 45, 46, 47, 48, 49, 50, 51, 52, 53, 54, 55, 56, 57, 58, 59, 60, 61, 62, 63, 64, 65, 66, 67, 68, 69, 70, 71, 72, 73, 74, 75, 76, 77, 78, 79, 80, 81, 82, 83, 84, 85, 86, 87, 88, 89, 90, 91, 92, 93, 94, 95, 96, 97, 98, 99, 100, 101, 102, 103, 104, 105, 106, 107, 108] (by decide +kernel) (by decide +kernel)
set_option maxRecDepth 20000 in
theorem gX5_enter_X5_atOnce : GoodIn wsX5_enter (wsV RX5 150 RX5 yX5_atOnce wsX5_atOnce) := goodIn_app (goodIn_of _ (by decide +kernel)) ggX5_enter_X5_atOnce
theorem dX5_enter_0 : decode cX5_enter 0 = .ok (.aload_n 0, 1) := by decide +kernel
theorem dX5_enter_1 : decode cX5_enter 1 = .ok (.getfield 25, 3) := by decide +kernel
theorem dX5_enter_4 : decode cX5_enter 4 = .ok (.iload_n 1, 1) := by decide +kernel
theorem dX5_enter_5 : decode cX5_enter 5 = .ok (.iconst 0, 1) := by decide +kernel
theorem dX5_enter_6 : decode cX5_enter 6 = .ok (.iastore, 1) := by decide +kernel
theorem dX5_enter_7 : decode cX5_enter 7 = .ok (.aload_n 0, 1) := by decide +kernel
theorem dX5_enter_8 : decode cX5_enter 8 = .ok (.getfield 28, 3) := by decide +kernel
theorem dX5_enter_11 : decode cX5_enter 11 = .ok (.iload_n 1, 1) := by decide +kernel
theorem dX5_enter_12 : decode cX5_enter 12 = .ok (.sipush (-9999), 3) := by decide +kernel
theorem dX5_enter_15 : decode cX5_enter 15 = .ok (.iastore, 1) := by decide +kernel
theorem dX5_enter_16 : decode cX5_enter 16 = .ok (.aload_n 0, 1) := by decide +kernel
theorem dX5_enter_17 : decode cX5_enter 17 = .ok (.iload_n 1, 1) := by decide +kernel
theorem dX5_enter_18 : decode cX5_enter 18 = .ok (.invokevirtual 150, 3) := by decide +kernel
theorem dX5_enter_21 : decode cX5_enter 21 = .ok (.ireturn, 1) := by decide +kernel
set_option maxRecDepth 20000 in
theorem ggX5_value_X5_search : GoodIn wsX5_value wsX5_search := goodIn_r _ [5, 6, 7, 8, 9, 10, 11, 12, 4, 13, 14, 15, 16, 17, 18, 19, 20, 21, 22, 23, 24, 25, 26, 27, 28, 29, 30, 31, 32, 33, 34, 35, 36, 37, 38, 39, 40, 41, 42, 43, 44, 45, 46, 47, 48, 49, 50, 51, 52, 53, 54, 55, 56, 57, 58, 59, 60, 61, 62, 63, 64, 65, 66, 67, 68, 69, 70, 71, 72, 73, 74, 75, 76, 77, 78, 79, 80, 81, 82, 83, 84, 85, 86, 87, 88, 89, 90, 91, 92, 93, 94, 95, 96, 97, 98, 99, 100, 101, 102, 103, 104, 105, 106, 107, 108, 109, 110, 111, 112, 113, 114, 115, 116, 117, 118, 119, 120, 121, 122, 123, 124, 125, 126] (by decide +kernel) (by decide +kernel)
set_option maxRecDepth 20000 in
theorem gX5_value_X5_search : GoodIn wsX5_value (wsV RX5 153 RX5 yX5_search wsX5_search) := goodIn_app (goodIn_of _ (by decide +kernel)) ggX5_value_X5_search
theorem dX5_value_0 : decode cX5_value 0 = .ok (.iload_n 1, 1) := by decide +kernel
theorem dX5_value_1 : decode cX5_value 1 = .ok (.ifCond .lt 8, 3) := by decide +kernel
theorem dX5_value_4 : decode cX5_value 4 = .ok (.iload_n 1, 1) := by decide +kernel
theorem dX5_value_5 : decode cX5_value 5 = .ok (.iconst 4, 1) := by decide +kernel
theorem dX5_value_6 : decode cX5_value 6 = .ok (.if_icmp .le 9, 3) := by decide +kernel
theorem dX5_value_9 : decode cX5_value 9 = .ok (.sipush (-2000), 3) := by decide +kernel
theorem dX5_value_12 : decode cX5_value 12 = .ok (.goto 9, 3) := by decide +kernel
theorem dX5_value_15 : decode cX5_value 15 = .ok (.aload_n 0, 1) := by decide +kernel
theorem dX5_value_16 : decode cX5_value 16 = .ok (.iconst 0, 1) := by decide +kernel
theorem dX5_value_17 : decode cX5_value 17 = .ok (.iload_n 1, 1) := by decide +kernel
theorem dX5_value_18 : decode cX5_value 18 = .ok (.invokevirtual 153, 3) := by decide +kernel
theorem dX5_value_21 : decode cX5_value 21 = .ok (.ireturn, 1) := by decide +kernel
set_option maxRecDepth 20000 in
theorem ggX5_best_X5_generate : GoodIn wsX5_best wsX5_generate := goodIn_r _ [6, 1, 7, 8, 9, 10, 5, 11, 12, 13, 14, 15, 16, 17, 18, 19, 20, 21, 22, 23, 24, 25, 26, 27, 28, 29, 30, 31, 32, 33, 34, 35, 36, 37, 38, 39, 40, 41, 42, 43, 44, 45, 46, 47, 107, 108, 109, 110, 111, 112, 113, 114, 115, 116, 117, 118, 119, 120, 121, 122, 123, 124, 125, 126] (by decide +kernel) (by decide +kernel)
set_option maxRecDepth 20000 in
theorem gX5_best_X5_generate : GoodIn wsX5_best (wsV RX5 137 RX5 yX5_generate wsX5_generate) := goodIn_app (goodIn_of _ (by decide +kernel)) ggX5_best_X5_generate
set_option maxRecDepth 20000 in
theorem ggX5_best_X5_make : GoodIn wsX5_best wsX5_make := goodIn_r _ [51, 27, 26, 7, 8, 52, 53, 5, 54, 55, 56, 57, 38, 39, 40, 41, 42, 43, 107, 108, 109, 110, 111, 112, 113, 114, 115, 116, 117, 118, 119, 120, 121, 122, 123, 124, 125, 126] (by decide +kernel) (by decide +kernel)
set_option maxRecDepth 20000 in
theorem gX5_best_X5_make : GoodIn wsX5_best (wsV RX5 147 RX5 yX5_make wsX5_make) := goodIn_app (goodIn_of _ (by decide +kernel)) ggX5_best_X5_make
set_option maxRecDepth 20000 in
theorem ggX5_best_X5_search : GoodIn wsX5_best wsX5_search := goodIn_r _ [61, 62, 63, 64, 1, 65, 66, 67, 5, 68, 69, 70, 71, 72, 73, 74, 75, 76, 77, 7, 8, 9, 10, 11, 31, 32, 33, 78, 79, 80, 81, 82, 83, 84, 85, 86, 87, 88, 89, 90, 20, 21, 38, 39, 40, 41, 42, 43, 91, 92, 93, 94, 95, 96, 97, 98, 99, 100, 101, 102, 2, 3, 4, 6, 12, 13, 14, 15, 16, 17, 18, 19, 22, 23, 24, 25, 26, 27, 28, 29, 30, 34, 35, 36, 37, 44, 45, 46, 47, 103, 104, 105, 106, 48, 49, 50, 51, 52, 53, 54, 55, 56, 57, 107, 108, 109, 110, 111, 112, 113, 114, 115, 116, 117, 118, 119, 120, 121, 122, 123, 124, 125, 126] (by decide +kernel) (by decide +kernel)
set_option maxRecDepth 20000 in
theorem gX5_best_X5_search : GoodIn wsX5_best (wsV RX5 153 RX5 yX5_search wsX5_search) := goodIn_app (goodIn_of _ (by decide +kernel)) ggX5_best_X5_search
theorem dX5_best_0 : decode cX5_best 0 = .ok (.aload_n 0, 1) := by decide +kernel
theorem dX5_best_1 : decode cX5_best 1 = .ok (.iconst 0, 1) := by decide +kernel
theorem dX5_best_2 : decode cX5_best 2 = .ok (.invokevirtual 137, 3) := by decide +kernel
theorem dX5_best_5 : decode cX5_best 5 = .ok (.iload_n 1, 1) := by decide +kernel
theorem dX5_best_6 : decode cX5_best 6 = .ok (.iconst 1, 1) := by decide +kernel
theorem dX5_best_7 : decode cX5_best 7 = .ok (.if_icmp .lt 17, 3) := by decide +kernel
theorem dX5_best_10 : decode cX5_best 10 = .ok (.iload_n 1, 1) := by decide +kernel
theorem dX5_best_11 : decode cX5_best 11 = .ok (.iconst 4, 1) := by decide +kernel
theorem dX5_best_12 : decode cX5_best 12 = .ok (.if_icmp .gt 12, 3) := by decide +kernel
theorem dX5_best_15 : decode cX5_best 15 = .ok (.aload_n 0, 1) := by decide +kernel
theorem dX5_best_16 : decode cX5_best 16 = .ok (.getfield 19, 3) := by decide +kernel
theorem dX5_best_19 : decode cX5_best 19 = .ok (.iconst 0, 1) := by decide +kernel
theorem dX5_best_20 : decode cX5_best 20 = .ok (.iaload, 1) := by decide +kernel
theorem dX5_best_21 : decode cX5_best 21 = .ok (.ifCond .ne 5, 3) := by decide +kernel
theorem dX5_best_24 : decode cX5_best 24 = .ok (.iconst (-1), 1) := by decide +kernel
theorem dX5_best_25 : decode cX5_best 25 = .ok (.ireturn, 1) := by decide +kernel
theorem dX5_best_26 : decode cX5_best 26 = .ok (.iconst (-1), 1) := by decide +kernel
theorem dX5_best_27 : decode cX5_best 27 = .ok (.istore_n 2, 1) := by decide +kernel
theorem dX5_best_28 : decode cX5_best 28 = .ok (.iconst 0, 1) := by decide +kernel
theorem dX5_best_29 : decode cX5_best 29 = .ok (.istore_n 3, 1) := by decide +kernel
theorem dX5_best_30 : decode cX5_best 30 = .ok (.iconst 0, 1) := by decide +kernel
theorem dX5_best_31 : decode cX5_best 31 = .ok (.istore 4, 2) := by decide +kernel
theorem dX5_best_33 : decode cX5_best 33 = .ok (.iload 4, 2) := by decide +kernel
theorem dX5_best_35 : decode cX5_best 35 = .ok (.aload_n 0, 1) := by decide +kernel
theorem dX5_best_36 : decode cX5_best 36 = .ok (.getfield 19, 3) := by decide +kernel
theorem dX5_best_39 : decode cX5_best 39 = .ok (.iconst 0, 1) := by decide +kernel
theorem dX5_best_40 : decode cX5_best 40 = .ok (.iaload, 1) := by decide +kernel
theorem dX5_best_41 : decode cX5_best 41 = .ok (.if_icmp .ge 42, 3) := by decide +kernel
theorem dX5_best_44 : decode cX5_best 44 = .ok (.aload_n 0, 1) := by decide +kernel
theorem dX5_best_45 : decode cX5_best 45 = .ok (.iconst 0, 1) := by decide +kernel
theorem dX5_best_46 : decode cX5_best 46 = .ok (.iload 4, 2) := by decide +kernel
theorem dX5_best_48 : decode cX5_best 48 = .ok (.invokevirtual 147, 3) := by decide +kernel
theorem dX5_best_51 : decode cX5_best 51 = .ok (.aload_n 0, 1) := by decide +kernel
theorem dX5_best_52 : decode cX5_best 52 = .ok (.iconst 1, 1) := by decide +kernel
theorem dX5_best_53 : decode cX5_best 53 = .ok (.iload_n 1, 1) := by decide +kernel
theorem dX5_best_54 : decode cX5_best 54 = .ok (.iconst 1, 1) := by decide +kernel
theorem dX5_best_55 : decode cX5_best 55 = .ok (.isub, 1) := by decide +kernel
theorem dX5_best_56 : decode cX5_best 56 = .ok (.invokevirtual 153, 3) := by decide +kernel
theorem dX5_best_59 : decode cX5_best 59 = .ok (.istore 5, 2) := by decide +kernel
theorem dX5_best_61 : decode cX5_best 61 = .ok (.iload_n 2, 1) := by decide +kernel
theorem dX5_best_62 : decode cX5_best 62 = .ok (.ifCond .lt 9, 3) := by decide +kernel
theorem dX5_best_65 : decode cX5_best 65 = .ok (.iload 5, 2) := by decide +kernel
theorem dX5_best_67 : decode cX5_best 67 = .ok (.iload_n 3, 1) := by decide +kernel
theorem dX5_best_68 : decode cX5_best 68 = .ok (.if_icmp .ge 9, 3) := by decide +kernel
theorem dX5_best_71 : decode cX5_best 71 = .ok (.iload 4, 2) := by decide +kernel
theorem dX5_best_73 : decode cX5_best 73 = .ok (.istore_n 2, 1) := by decide +kernel
theorem dX5_best_74 : decode cX5_best 74 = .ok (.iload 5, 2) := by decide +kernel
theorem dX5_best_76 : decode cX5_best 76 = .ok (.istore_n 3, 1) := by decide +kernel
theorem dX5_best_77 : decode cX5_best 77 = .ok (.iinc 4 1, 3) := by decide +kernel
theorem dX5_best_80 : decode cX5_best 80 = .ok (.goto (-47), 3) := by decide +kernel
theorem dX5_best_83 : decode cX5_best 83 = .ok (.iload_n 2, 1) := by decide +kernel
theorem dX5_best_84 : decode cX5_best 84 = .ok (.ireturn, 1) := by decide +kernel
set_option maxRecDepth 20000 in
theorem ggX5_ways_X5_generate : GoodIn wsX5_ways wsX5_generate := goodIn_r _ [7, 2, 8, 9, 10, 11, 6, 12, 13, 14, 15, 16, 17, 18, 19, 20, 21, 22, 23, 24, 25, 26, 27, 28, 29, 30, 31, 32, 33, 34, 35, 36, 37, 38, 39, 40, 41, 42, 43, 44, 45, 46, 47, 48, 59, 60, 61, 62, 63, 64, 65, 66, 67, 68, 69, 70, 71, 72, 73, 74, 75, 76, 77, 78] (by decide +kernel) (by decide +kernel)
set_option maxRecDepth 20000 in
theorem gX5_ways_X5_generate : GoodIn wsX5_ways (wsV RX5 137 RX5 yX5_generate wsX5_generate) := goodIn_app (goodIn_of _ (by decide +kernel)) ggX5_ways_X5_generate
set_option maxRecDepth 20000 in
theorem ggX5_ways_X5_make : GoodIn wsX5_ways wsX5_make := goodIn_r _ [52, 28, 27, 8, 9, 53, 54, 6, 55, 56, 57, 58, 39, 40, 41, 42, 43, 44, 59, 60, 61, 62, 63, 64, 65, 66, 67, 68, 69, 70, 71, 72, 73, 74, 75, 76, 77, 78] (by decide +kernel) (by decide +kernel)
set_option maxRecDepth 20000 in
theorem gX5_ways_X5_make : GoodIn wsX5_ways (wsV RX5 147 RX5 yX5_make wsX5_make) := goodIn_app (goodIn_of _ (by decide +kernel)) ggX5_ways_X5_make
theorem dX5_ways_0 : decode cX5_ways 0 = .ok (.iload_n 1, 1) := by decide +kernel
theorem dX5_ways_1 : decode cX5_ways 1 = .ok (.ifCond .lt 8, 3) := by decide +kernel
theorem dX5_ways_4 : decode cX5_ways 4 = .ok (.iload_n 1, 1) := by decide +kernel
theorem dX5_ways_5 : decode cX5_ways 5 = .ok (.iconst 4, 1) := by decide +kernel
theorem dX5_ways_6 : decode cX5_ways 6 = .ok (.if_icmp .le 5, 3) := by decide +kernel
theorem dX5_ways_9 : decode cX5_ways 9 = .ok (.iconst (-1), 1) := by decide +kernel
theorem dX5_ways_10 : decode cX5_ways 10 = .ok (.ireturn, 1) := by decide +kernel
theorem dX5_ways_11 : decode cX5_ways 11 = .ok (.iload_n 1, 1) := by decide +kernel
theorem dX5_ways_12 : decode cX5_ways 12 = .ok (.ifCond .ne 5, 3) := by decide +kernel
theorem dX5_ways_15 : decode cX5_ways 15 = .ok (.iconst 1, 1) := by decide +kernel
theorem dX5_ways_16 : decode cX5_ways 16 = .ok (.ireturn, 1) := by decide +kernel
theorem dX5_ways_17 : decode cX5_ways 17 = .ok (.iconst 0, 1) := by decide +kernel
theorem dX5_ways_18 : decode cX5_ways 18 = .ok (.istore_n 2, 1) := by decide +kernel
theorem dX5_ways_19 : decode cX5_ways 19 = .ok (.iconst 0, 1) := by decide +kernel
theorem dX5_ways_20 : decode cX5_ways 20 = .ok (.istore_n 3, 1) := by decide +kernel
theorem dX5_ways_21 : decode cX5_ways 21 = .ok (.aload_n 0, 1) := by decide +kernel
theorem dX5_ways_22 : decode cX5_ways 22 = .ok (.iconst 0, 1) := by decide +kernel
theorem dX5_ways_23 : decode cX5_ways 23 = .ok (.invokevirtual 137, 3) := by decide +kernel
theorem dX5_ways_26 : decode cX5_ways 26 = .ok (.aload_n 0, 1) := by decide +kernel
theorem dX5_ways_27 : decode cX5_ways 27 = .ok (.getfield 25, 3) := by decide +kernel
theorem dX5_ways_30 : decode cX5_ways 30 = .ok (.iconst 0, 1) := by decide +kernel
theorem dX5_ways_31 : decode cX5_ways 31 = .ok (.iconst 0, 1) := by decide +kernel
theorem dX5_ways_32 : decode cX5_ways 32 = .ok (.iastore, 1) := by decide +kernel
theorem dX5_ways_33 : decode cX5_ways 33 = .ok (.iload_n 3, 1) := by decide +kernel
theorem dX5_ways_34 : decode cX5_ways 34 = .ok (.ifCond .lt 85, 3) := by decide +kernel
theorem dX5_ways_37 : decode cX5_ways 37 = .ok (.iload_n 3, 1) := by decide +kernel
theorem dX5_ways_38 : decode cX5_ways 38 = .ok (.iload_n 1, 1) := by decide +kernel
theorem dX5_ways_39 : decode cX5_ways 39 = .ok (.iconst 1, 1) := by decide +kernel
theorem dX5_ways_40 : decode cX5_ways 40 = .ok (.isub, 1) := by decide +kernel
theorem dX5_ways_41 : decode cX5_ways 41 = .ok (.if_icmp .ne 18, 3) := by decide +kernel
theorem dX5_ways_44 : decode cX5_ways 44 = .ok (.iload_n 2, 1) := by decide +kernel
theorem dX5_ways_45 : decode cX5_ways 45 = .ok (.aload_n 0, 1) := by decide +kernel
theorem dX5_ways_46 : decode cX5_ways 46 = .ok (.getfield 19, 3) := by decide +kernel
theorem dX5_ways_49 : decode cX5_ways 49 = .ok (.iload_n 3, 1) := by decide +kernel
theorem dX5_ways_50 : decode cX5_ways 50 = .ok (.iaload, 1) := by decide +kernel
theorem dX5_ways_51 : decode cX5_ways 51 = .ok (.iadd, 1) := by decide +kernel
theorem dX5_ways_52 : decode cX5_ways 52 = .ok (.istore_n 2, 1) := by decide +kernel
theorem dX5_ways_53 : decode cX5_ways 53 = .ok (.iinc 3 (-1), 3) := by decide +kernel
theorem dX5_ways_56 : decode cX5_ways 56 = .ok (.goto (-23), 3) := by decide +kernel
theorem dX5_ways_59 : decode cX5_ways 59 = .ok (.aload_n 0, 1) := by decide +kernel
theorem dX5_ways_60 : decode cX5_ways 60 = .ok (.getfield 25, 3) := by decide +kernel
theorem dX5_ways_63 : decode cX5_ways 63 = .ok (.iload_n 3, 1) := by decide +kernel
theorem dX5_ways_64 : decode cX5_ways 64 = .ok (.iaload, 1) := by decide +kernel
theorem dX5_ways_65 : decode cX5_ways 65 = .ok (.aload_n 0, 1) := by decide +kernel
theorem dX5_ways_66 : decode cX5_ways 66 = .ok (.getfield 19, 3) := by decide +kernel
theorem dX5_ways_69 : decode cX5_ways 69 = .ok (.iload_n 3, 1) := by decide +kernel
theorem dX5_ways_70 : decode cX5_ways 70 = .ok (.iaload, 1) := by decide +kernel
theorem dX5_ways_71 : decode cX5_ways 71 = .ok (.if_icmp .ge 42, 3) := by decide +kernel
theorem dX5_ways_74 : decode cX5_ways 74 = .ok (.aload_n 0, 1) := by decide +kernel
theorem dX5_ways_75 : decode cX5_ways 75 = .ok (.iload_n 3, 1) := by decide +kernel
theorem dX5_ways_76 : decode cX5_ways 76 = .ok (.aload_n 0, 1) := by decide +kernel
theorem dX5_ways_77 : decode cX5_ways 77 = .ok (.getfield 25, 3) := by decide +kernel
theorem dX5_ways_80 : decode cX5_ways 80 = .ok (.iload_n 3, 1) := by decide +kernel
theorem dX5_ways_81 : decode cX5_ways 81 = .ok (.iaload, 1) := by decide +kernel
theorem dX5_ways_82 : decode cX5_ways 82 = .ok (.invokevirtual 147, 3) := by decide +kernel
theorem dX5_ways_85 : decode cX5_ways 85 = .ok (.aload_n 0, 1) := by decide +kernel
theorem dX5_ways_86 : decode cX5_ways 86 = .ok (.getfield 25, 3) := by decide +kernel
theorem dX5_ways_89 : decode cX5_ways 89 = .ok (.iload_n 3, 1) := by decide +kernel
theorem dX5_ways_90 : decode cX5_ways 90 = .ok (.dup2, 1) := by decide +kernel
theorem dX5_ways_91 : decode cX5_ways 91 = .ok (.iaload, 1) := by decide +kernel
theorem dX5_ways_92 : decode cX5_ways 92 = .ok (.iconst 1, 1) := by decide +kernel
theorem dX5_ways_93 : decode cX5_ways 93 = .ok (.iadd, 1) := by decide +kernel
theorem dX5_ways_94 : decode cX5_ways 94 = .ok (.iastore, 1) := by decide +kernel
theorem dX5_ways_95 : decode cX5_ways 95 = .ok (.iinc 3 1, 3) := by decide +kernel
theorem dX5_ways_98 : decode cX5_ways 98 = .ok (.aload_n 0, 1) := by decide +kernel
theorem dX5_ways_99 : decode cX5_ways 99 = .ok (.iload_n 3, 1) := by decide +kernel
theorem dX5_ways_100 : decode cX5_ways 100 = .ok (.invokevirtual 137, 3) := by decide +kernel
theorem dX5_ways_103 : decode cX5_ways 103 = .ok (.aload_n 0, 1) := by decide +kernel
theorem dX5_ways_104 : decode cX5_ways 104 = .ok (.getfield 25, 3) := by decide +kernel
theorem dX5_ways_107 : decode cX5_ways 107 = .ok (.iload_n 3, 1) := by decide +kernel
theorem dX5_ways_108 : decode cX5_ways 108 = .ok (.iconst 0, 1) := by decide +kernel
theorem dX5_ways_109 : decode cX5_ways 109 = .ok (.iastore, 1) := by decide +kernel
theorem dX5_ways_110 : decode cX5_ways 110 = .ok (.goto (-77), 3) := by decide +kernel
theorem dX5_ways_113 : decode cX5_ways 113 = .ok (.iinc 3 (-1), 3) := by decide +kernel
theorem dX5_ways_116 : decode cX5_ways 116 = .ok (.goto (-83), 3) := by decide +kernel
theorem dX5_ways_119 : decode cX5_ways 119 = .ok (.iload_n 2, 1) := by decide +kernel
theorem dX5_ways_120 : decode cX5_ways 120 = .ok (.ireturn, 1) := by decide +kernel
theorem dX5_begin_0 : decode cX5_begin 0 = .ok (.iconst 0, 1) := by decide +kernel
theorem dX5_begin_1 : decode cX5_begin 1 = .ok (.istore_n 1, 1) := by decide +kernel
theorem dX5_begin_2 : decode cX5_begin 2 = .ok (.iload_n 1, 1) := by decide +kernel
theorem dX5_begin_3 : decode cX5_begin 3 = .ok (.bipush 18, 2) := by decide +kernel
theorem dX5_begin_5 : decode cX5_begin 5 = .ok (.if_icmp .ge 36, 3) := by decide +kernel
theorem dX5_begin_8 : decode cX5_begin 8 = .ok (.aload_n 0, 1) := by decide +kernel
theorem dX5_begin_9 : decode cX5_begin 9 = .ok (.getfield 7, 3) := by decide +kernel
theorem dX5_begin_12 : decode cX5_begin 12 = .ok (.iload_n 1, 1) := by decide +kernel
theorem dX5_begin_13 : decode cX5_begin 13 = .ok (.iload_n 1, 1) := by decide +kernel
theorem dX5_begin_14 : decode cX5_begin 14 = .ok (.bipush 6, 2) := by decide +kernel
theorem dX5_begin_16 : decode cX5_begin 16 = .ok (.if_icmp .ge 7, 3) := by decide +kernel
theorem dX5_begin_19 : decode cX5_begin 19 = .ok (.iconst 1, 1) := by decide +kernel
theorem dX5_begin_20 : decode cX5_begin 20 = .ok (.goto 14, 3) := by decide +kernel
theorem dX5_begin_23 : decode cX5_begin 23 = .ok (.iload_n 1, 1) := by decide +kernel
theorem dX5_begin_24 : decode cX5_begin 24 = .ok (.bipush 11, 2) := by decide +kernel
theorem dX5_begin_26 : decode cX5_begin 26 = .ok (.if_icmp .le 7, 3) := by decide +kernel
theorem dX5_begin_29 : decode cX5_begin 29 = .ok (.iconst 3, 1) := by decide +kernel
theorem dX5_begin_30 : decode cX5_begin 30 = .ok (.goto 4, 3) := by decide +kernel
theorem dX5_begin_33 : decode cX5_begin 33 = .ok (.iconst 0, 1) := by decide +kernel
theorem dX5_begin_34 : decode cX5_begin 34 = .ok (.iastore, 1) := by decide +kernel
theorem dX5_begin_35 : decode cX5_begin 35 = .ok (.iinc 1 1, 3) := by decide +kernel
theorem dX5_begin_38 : decode cX5_begin 38 = .ok (.goto (-36), 3) := by decide +kernel
theorem dX5_begin_41 : decode cX5_begin 41 = .ok (.aload_n 0, 1) := by decide +kernel
theorem dX5_begin_42 : decode cX5_begin 42 = .ok (.getfield 13, 3) := by decide +kernel
theorem dX5_begin_45 : decode cX5_begin 45 = .ok (.iconst 0, 1) := by decide +kernel
theorem dX5_begin_46 : decode cX5_begin 46 = .ok (.iconst 0, 1) := by decide +kernel
theorem dX5_begin_47 : decode cX5_begin 47 = .ok (.iastore, 1) := by decide +kernel
theorem dX5_begin_48 : decode cX5_begin 48 = .ok (.aload_n 0, 1) := by decide +kernel
theorem dX5_begin_49 : decode cX5_begin 49 = .ok (.iconst 0, 1) := by decide +kernel
theorem dX5_begin_50 : decode cX5_begin 50 = .ok (.putfield 156, 3) := by decide +kernel
theorem dX5_begin_53 : decode cX5_begin 53 = .ok (.aload_n 0, 1) := by decide +kernel
theorem dX5_begin_54 : decode cX5_begin 54 = .ok (.iconst 0, 1) := by decide +kernel
theorem dX5_begin_55 : decode cX5_begin 55 = .ok (.putfield 160, 3) := by decide +kernel
theorem dX5_begin_58 : decode cX5_begin 58 = .ok (.return_, 1) := by decide +kernel
theorem dX5_clear_0 : decode cX5_clear 0 = .ok (.iconst 0, 1) := by decide +kernel
theorem dX5_clear_1 : decode cX5_clear 1 = .ok (.istore_n 1, 1) := by decide +kernel
theorem dX5_clear_2 : decode cX5_clear 2 = .ok (.iload_n 1, 1) := by decide +kernel
theorem dX5_clear_3 : decode cX5_clear 3 = .ok (.bipush 18, 2) := by decide +kernel
theorem dX5_clear_5 : decode cX5_clear 5 = .ok (.if_icmp .ge 16, 3) := by decide +kernel
theorem dX5_clear_8 : decode cX5_clear 8 = .ok (.aload_n 0, 1) := by decide +kernel
theorem dX5_clear_9 : decode cX5_clear 9 = .ok (.getfield 7, 3) := by decide +kernel
theorem dX5_clear_12 : decode cX5_clear 12 = .ok (.iload_n 1, 1) := by decide +kernel
theorem dX5_clear_13 : decode cX5_clear 13 = .ok (.iconst 0, 1) := by decide +kernel
theorem dX5_clear_14 : decode cX5_clear 14 = .ok (.iastore, 1) := by decide +kernel
theorem dX5_clear_15 : decode cX5_clear 15 = .ok (.iinc 1 1, 3) := by decide +kernel
theorem dX5_clear_18 : decode cX5_clear 18 = .ok (.goto (-16), 3) := by decide +kernel
theorem dX5_clear_21 : decode cX5_clear 21 = .ok (.aload_n 0, 1) := by decide +kernel
theorem dX5_clear_22 : decode cX5_clear 22 = .ok (.getfield 13, 3) := by decide +kernel
theorem dX5_clear_25 : decode cX5_clear 25 = .ok (.iconst 0, 1) := by decide +kernel
theorem dX5_clear_26 : decode cX5_clear 26 = .ok (.iconst 0, 1) := by decide +kernel
theorem dX5_clear_27 : decode cX5_clear 27 = .ok (.iastore, 1) := by decide +kernel
theorem dX5_clear_28 : decode cX5_clear 28 = .ok (.aload_n 0, 1) := by decide +kernel
theorem dX5_clear_29 : decode cX5_clear 29 = .ok (.iconst 0, 1) := by decide +kernel
theorem dX5_clear_30 : decode cX5_clear 30 = .ok (.putfield 156, 3) := by decide +kernel
theorem dX5_clear_33 : decode cX5_clear 33 = .ok (.aload_n 0, 1) := by decide +kernel
theorem dX5_clear_34 : decode cX5_clear 34 = .ok (.iconst 0, 1) := by decide +kernel
theorem dX5_clear_35 : decode cX5_clear 35 = .ok (.putfield 160, 3) := by decide +kernel
theorem dX5_clear_38 : decode cX5_clear 38 = .ok (.return_, 1) := by decide +kernel
set_option maxRecDepth 20000 in
theorem ggX5_put_X5_rowOf : GoodIn wsX5_put wsX5_rowOf := goodIn_r _ [7] (by decide +kernel) (by decide +kernel)
set_option maxRecDepth 20000 in
theorem gX5_put_X5_rowOf : GoodIn wsX5_put (va_wsS RX5 69 yX5_rowOf wsX5_rowOf) := goodIn_app (goodIn_of _ (by decide +kernel)) ggX5_put_X5_rowOf
theorem dX5_put_0 : decode cX5_put 0 = .ok (.iload_n 1, 1) := by decide +kernel
theorem dX5_put_1 : decode cX5_put 1 = .ok (.ifCond .lt 43, 3) := by decide +kernel
theorem dX5_put_4 : decode cX5_put 4 = .ok (.iload_n 1, 1) := by decide +kernel
theorem dX5_put_5 : decode cX5_put 5 = .ok (.bipush 17, 2) := by decide +kernel
theorem dX5_put_7 : decode cX5_put 7 = .ok (.if_icmp .gt 37, 3) := by decide +kernel
theorem dX5_put_10 : decode cX5_put 10 = .ok (.iload_n 2, 1) := by decide +kernel
theorem dX5_put_11 : decode cX5_put 11 = .ok (.ifCond .lt 33, 3) := by decide +kernel
theorem dX5_put_14 : decode cX5_put 14 = .ok (.iload_n 2, 1) := by decide +kernel
theorem dX5_put_15 : decode cX5_put 15 = .ok (.iconst 4, 1) := by decide +kernel
theorem dX5_put_16 : decode cX5_put 16 = .ok (.if_icmp .gt 28, 3) := by decide +kernel
theorem dX5_put_19 : decode cX5_put 19 = .ok (.iload_n 2, 1) := by decide +kernel
theorem dX5_put_20 : decode cX5_put 20 = .ok (.iconst 1, 1) := by decide +kernel
theorem dX5_put_21 : decode cX5_put 21 = .ok (.if_icmp .ne 11, 3) := by decide +kernel
theorem dX5_put_24 : decode cX5_put 24 = .ok (.iload_n 1, 1) := by decide +kernel
theorem dX5_put_25 : decode cX5_put 25 = .ok (.invokestatic 69, 3) := by decide +kernel
theorem dX5_put_28 : decode cX5_put 28 = .ok (.iconst 5, 1) := by decide +kernel
theorem dX5_put_29 : decode cX5_put 29 = .ok (.if_icmp .eq 15, 3) := by decide +kernel
theorem dX5_put_32 : decode cX5_put 32 = .ok (.iload_n 2, 1) := by decide +kernel
theorem dX5_put_33 : decode cX5_put 33 = .ok (.iconst 3, 1) := by decide +kernel
theorem dX5_put_34 : decode cX5_put 34 = .ok (.if_icmp .ne 12, 3) := by decide +kernel
theorem dX5_put_37 : decode cX5_put 37 = .ok (.iload_n 1, 1) := by decide +kernel
theorem dX5_put_38 : decode cX5_put 38 = .ok (.invokestatic 69, 3) := by decide +kernel
theorem dX5_put_41 : decode cX5_put 41 = .ok (.ifCond .ne 5, 3) := by decide +kernel
theorem dX5_put_44 : decode cX5_put 44 = .ok (.iconst 0, 1) := by decide +kernel
theorem dX5_put_45 : decode cX5_put 45 = .ok (.ireturn, 1) := by decide +kernel
theorem dX5_put_46 : decode cX5_put 46 = .ok (.aload_n 0, 1) := by decide +kernel
theorem dX5_put_47 : decode cX5_put 47 = .ok (.getfield 7, 3) := by decide +kernel
theorem dX5_put_50 : decode cX5_put 50 = .ok (.iload_n 1, 1) := by decide +kernel
theorem dX5_put_51 : decode cX5_put 51 = .ok (.iload_n 2, 1) := by decide +kernel
theorem dX5_put_52 : decode cX5_put 52 = .ok (.iastore, 1) := by decide +kernel
theorem dX5_put_53 : decode cX5_put 53 = .ok (.aload_n 0, 1) := by decide +kernel
theorem dX5_put_54 : decode cX5_put 54 = .ok (.iconst 0, 1) := by decide +kernel
theorem dX5_put_55 : decode cX5_put 55 = .ok (.putfield 156, 3) := by decide +kernel
theorem dX5_put_58 : decode cX5_put 58 = .ok (.aload_n 0, 1) := by decide +kernel
theorem dX5_put_59 : decode cX5_put 59 = .ok (.iconst 0, 1) := by decide +kernel
theorem dX5_put_60 : decode cX5_put 60 = .ok (.putfield 160, 3) := by decide +kernel
theorem dX5_put_63 : decode cX5_put 63 = .ok (.iconst 1, 1) := by decide +kernel
theorem dX5_put_64 : decode cX5_put 64 = .ok (.ireturn, 1) := by decide +kernel
theorem dX5_turn_0 : decode cX5_turn 0 = .ok (.iload_n 1, 1) := by decide +kernel
theorem dX5_turn_1 : decode cX5_turn 1 = .ok (.ifCond .eq 10, 3) := by decide +kernel
theorem dX5_turn_4 : decode cX5_turn 4 = .ok (.iload_n 1, 1) := by decide +kernel
theorem dX5_turn_5 : decode cX5_turn 5 = .ok (.iconst 1, 1) := by decide +kernel
theorem dX5_turn_6 : decode cX5_turn 6 = .ok (.if_icmp .eq 5, 3) := by decide +kernel
theorem dX5_turn_9 : decode cX5_turn 9 = .ok (.iconst 0, 1) := by decide +kernel
theorem dX5_turn_10 : decode cX5_turn 10 = .ok (.ireturn, 1) := by decide +kernel
theorem dX5_turn_11 : decode cX5_turn 11 = .ok (.aload_n 0, 1) := by decide +kernel
theorem dX5_turn_12 : decode cX5_turn 12 = .ok (.getfield 13, 3) := by decide +kernel
theorem dX5_turn_15 : decode cX5_turn 15 = .ok (.iconst 0, 1) := by decide +kernel
theorem dX5_turn_16 : decode cX5_turn 16 = .ok (.iload_n 1, 1) := by decide +kernel
theorem dX5_turn_17 : decode cX5_turn 17 = .ok (.iastore, 1) := by decide +kernel
theorem dX5_turn_18 : decode cX5_turn 18 = .ok (.aload_n 0, 1) := by decide +kernel
theorem dX5_turn_19 : decode cX5_turn 19 = .ok (.iconst 0, 1) := by decide +kernel
theorem dX5_turn_20 : decode cX5_turn 20 = .ok (.putfield 156, 3) := by decide +kernel
theorem dX5_turn_23 : decode cX5_turn 23 = .ok (.aload_n 0, 1) := by decide +kernel
theorem dX5_turn_24 : decode cX5_turn 24 = .ok (.iconst 0, 1) := by decide +kernel
theorem dX5_turn_25 : decode cX5_turn 25 = .ok (.putfield 160, 3) := by decide +kernel
theorem dX5_turn_28 : decode cX5_turn 28 = .ok (.iconst 1, 1) := by decide +kernel
theorem dX5_turn_29 : decode cX5_turn 29 = .ok (.ireturn, 1) := by decide +kernel
theorem dX5_at_0 : decode cX5_at 0 = .ok (.iload_n 1, 1) := by decide +kernel
theorem dX5_at_1 : decode cX5_at 1 = .ok (.ifCond .lt 9, 3) := by decide +kernel
theorem dX5_at_4 : decode cX5_at 4 = .ok (.iload_n 1, 1) := by decide +kernel
theorem dX5_at_5 : decode cX5_at 5 = .ok (.bipush 17, 2) := by decide +kernel
theorem dX5_at_7 : decode cX5_at 7 = .ok (.if_icmp .le 7, 3) := by decide +kernel
theorem dX5_at_10 : decode cX5_at 10 = .ok (.iconst (-1), 1) := by decide +kernel
theorem dX5_at_11 : decode cX5_at 11 = .ok (.goto 9, 3) := by decide +kernel
theorem dX5_at_14 : decode cX5_at 14 = .ok (.aload_n 0, 1) := by decide +kernel
theorem dX5_at_15 : decode cX5_at 15 = .ok (.getfield 7, 3) := by decide +kernel
theorem dX5_at_18 : decode cX5_at 18 = .ok (.iload_n 1, 1) := by decide +kernel
theorem dX5_at_19 : decode cX5_at 19 = .ok (.iaload, 1) := by decide +kernel
theorem dX5_at_20 : decode cX5_at 20 = .ok (.ireturn, 1) := by decide +kernel
theorem dX5_side_0 : decode cX5_side 0 = .ok (.aload_n 0, 1) := by decide +kernel
theorem dX5_side_1 : decode cX5_side 1 = .ok (.getfield 13, 3) := by decide +kernel
theorem dX5_side_4 : decode cX5_side 4 = .ok (.iconst 0, 1) := by decide +kernel
theorem dX5_side_5 : decode cX5_side 5 = .ok (.iaload, 1) := by decide +kernel
theorem dX5_side_6 : decode cX5_side 6 = .ok (.ireturn, 1) := by decide +kernel
set_option maxRecDepth 20000 in
theorem ggX5_moves_X5_generate : GoodIn wsX5_moves wsX5_generate := goodIn_r _ [6, 1, 7, 8, 9, 10, 5, 11, 12, 13, 14, 15, 16, 17, 18, 19, 20, 21, 22, 23, 24, 25, 26, 27, 28, 29, 30, 31, 32, 33, 34, 35, 36, 37, 38, 39, 40, 41, 42, 43, 44, 45, 46, 47, 48, 49, 50, 51, 52, 53, 54, 55, 56, 57, 58, 59, 60, 61, 62, 63, 64, 65, 66, 67] (by decide +kernel) (by decide +kernel)
set_option maxRecDepth 20000 in
theorem gX5_moves_X5_generate : GoodIn wsX5_moves (wsV RX5 137 RX5 yX5_generate wsX5_generate) := goodIn_app (goodIn_of _ (by decide +kernel)) ggX5_moves_X5_generate
theorem dX5_moves_0 : decode cX5_moves 0 = .ok (.aload_n 0, 1) := by decide +kernel
theorem dX5_moves_1 : decode cX5_moves 1 = .ok (.iconst 0, 1) := by decide +kernel
theorem dX5_moves_2 : decode cX5_moves 2 = .ok (.invokevirtual 137, 3) := by decide +kernel
theorem dX5_moves_5 : decode cX5_moves 5 = .ok (.aload_n 0, 1) := by decide +kernel
theorem dX5_moves_6 : decode cX5_moves 6 = .ok (.getfield 19, 3) := by decide +kernel
theorem dX5_moves_9 : decode cX5_moves 9 = .ok (.iconst 0, 1) := by decide +kernel
theorem dX5_moves_10 : decode cX5_moves 10 = .ok (.iaload, 1) := by decide +kernel
theorem dX5_moves_11 : decode cX5_moves 11 = .ok (.ireturn, 1) := by decide +kernel
set_option maxRecDepth 20000 in
theorem ggX5_move_X5_moves : GoodIn wsX5_move wsX5_moves := goodIn_r _ [7, 8, 9, 10, 11, 6, 12, 13, 14, 15, 16, 17, 18, 19, 20, 21, 22, 23, 24, 25, 26, 27, 28, 29, 30, 31, 2, 1, 32, 33, 34, 35, 36, 37, 38, 39, 40, 41, 42, 43, 44, 45, 46, 47, 48, 49, 50, 51, 58, 59, 60, 61, 62, 63, 64, 65, 66, 67, 68, 69, 70, 71, 72, 73, 74, 75, 76, 77] (by decide +kernel) (by decide +kernel)
set_option maxRecDepth 20000 in
theorem gX5_move_X5_moves : GoodIn wsX5_move (wsV RX5 163 RX5 yX5_moves wsX5_moves) := goodIn_app (goodIn_of _ (by decide +kernel)) ggX5_move_X5_moves
set_option maxRecDepth 20000 in
theorem ggX5_move_X5_beginning : GoodIn wsX5_move wsX5_beginning := goodIn_r _ [54, 2] (by decide +kernel) (by decide +kernel)
set_option maxRecDepth 20000 in
theorem gX5_move_X5_beginning : GoodIn wsX5_move (va_wsS RX5 103 yX5_beginning wsX5_beginning) := goodIn_app (goodIn_of _ (by decide +kernel)) ggX5_move_X5_beginning
set_option maxRecDepth 20000 in
theorem ggX5_move_X5_end : GoodIn wsX5_move wsX5_end := goodIn_r _ [57, 2] (by decide +kernel) (by decide +kernel)
set_option maxRecDepth 20000 in
theorem gX5_move_X5_end : GoodIn wsX5_move (va_wsS RX5 106 yX5_end wsX5_end) := goodIn_app (goodIn_of _ (by decide +kernel)) ggX5_move_X5_end
theorem dX5_move_0 : decode cX5_move 0 = .ok (.iload_n 1, 1) := by decide +kernel
theorem dX5_move_1 : decode cX5_move 1 = .ok (.ifCond .lt 20, 3) := by decide +kernel
theorem dX5_move_4 : decode cX5_move 4 = .ok (.iload_n 1, 1) := by decide +kernel
theorem dX5_move_5 : decode cX5_move 5 = .ok (.aload_n 0, 1) := by decide +kernel
theorem dX5_move_6 : decode cX5_move 6 = .ok (.invokevirtual 163, 3) := by decide +kernel
theorem dX5_move_9 : decode cX5_move 9 = .ok (.if_icmp .ge 12, 3) := by decide +kernel
theorem dX5_move_12 : decode cX5_move 12 = .ok (.iload_n 2, 1) := by decide +kernel
theorem dX5_move_13 : decode cX5_move 13 = .ok (.ifCond .lt 8, 3) := by decide +kernel
theorem dX5_move_16 : decode cX5_move 16 = .ok (.iload_n 2, 1) := by decide +kernel
theorem dX5_move_17 : decode cX5_move 17 = .ok (.iconst 2, 1) := by decide +kernel
theorem dX5_move_18 : decode cX5_move 18 = .ok (.if_icmp .le 5, 3) := by decide +kernel
theorem dX5_move_21 : decode cX5_move 21 = .ok (.iconst (-1), 1) := by decide +kernel
theorem dX5_move_22 : decode cX5_move 22 = .ok (.ireturn, 1) := by decide +kernel
theorem dX5_move_23 : decode cX5_move 23 = .ok (.aload_n 0, 1) := by decide +kernel
theorem dX5_move_24 : decode cX5_move 24 = .ok (.getfield 16, 3) := by decide +kernel
theorem dX5_move_27 : decode cX5_move 27 = .ok (.iload_n 1, 1) := by decide +kernel
theorem dX5_move_28 : decode cX5_move 28 = .ok (.iaload, 1) := by decide +kernel
theorem dX5_move_29 : decode cX5_move 29 = .ok (.istore_n 3, 1) := by decide +kernel
theorem dX5_move_30 : decode cX5_move 30 = .ok (.iload_n 2, 1) := by decide +kernel
theorem dX5_move_31 : decode cX5_move 31 = .ok (.ifCond .ne 10, 3) := by decide +kernel
theorem dX5_move_34 : decode cX5_move 34 = .ok (.iload_n 3, 1) := by decide +kernel
theorem dX5_move_35 : decode cX5_move 35 = .ok (.invokestatic 103, 3) := by decide +kernel
theorem dX5_move_38 : decode cX5_move 38 = .ok (.goto 19, 3) := by decide +kernel
theorem dX5_move_41 : decode cX5_move 41 = .ok (.iload_n 2, 1) := by decide +kernel
theorem dX5_move_42 : decode cX5_move 42 = .ok (.iconst 1, 1) := by decide +kernel
theorem dX5_move_43 : decode cX5_move 43 = .ok (.if_icmp .ne 10, 3) := by decide +kernel
theorem dX5_move_46 : decode cX5_move 46 = .ok (.iload_n 3, 1) := by decide +kernel
theorem dX5_move_47 : decode cX5_move 47 = .ok (.invokestatic 106, 3) := by decide +kernel
theorem dX5_move_50 : decode cX5_move 50 = .ok (.goto 7, 3) := by decide +kernel
theorem dX5_move_53 : decode cX5_move 53 = .ok (.iload_n 3, 1) := by decide +kernel
theorem dX5_move_54 : decode cX5_move 54 = .ok (.ldc 77, 2) := by decide +kernel
theorem dX5_move_56 : decode cX5_move 56 = .ok (.irem, 1) := by decide +kernel
theorem dX5_move_57 : decode cX5_move 57 = .ok (.ireturn, 1) := by decide +kernel
set_option maxRecDepth 20000 in
theorem ggX5_over_X5_moves : GoodIn wsX5_over wsX5_moves := goodIn_r _ [7, 8, 9, 10, 11, 6, 12, 13, 1, 14, 15, 16, 17, 18, 19, 20, 21, 22, 23, 24, 25, 26, 27, 28, 29, 30, 31, 32, 33, 34, 35, 36, 37, 38, 39, 40, 41, 42, 43, 44, 45, 46, 47, 48, 49, 50, 51, 52, 53, 54, 55, 56, 57, 58, 59, 60, 61, 62, 63, 64, 65, 66, 67, 68, 69, 70, 71, 72] (by decide +kernel) (by decide +kernel)
set_option maxRecDepth 20000 in
theorem gX5_over_X5_moves : GoodIn wsX5_over (wsV RX5 163 RX5 yX5_moves wsX5_moves) := goodIn_app (goodIn_of _ (by decide +kernel)) ggX5_over_X5_moves
theorem dX5_over_0 : decode cX5_over 0 = .ok (.aload_n 0, 1) := by decide +kernel
theorem dX5_over_1 : decode cX5_over 1 = .ok (.invokevirtual 163, 3) := by decide +kernel
theorem dX5_over_4 : decode cX5_over 4 = .ok (.ifCond .ne 18, 3) := by decide +kernel
theorem dX5_over_7 : decode cX5_over 7 = .ok (.aload_n 0, 1) := by decide +kernel
theorem dX5_over_8 : decode cX5_over 8 = .ok (.getfield 13, 3) := by decide +kernel
theorem dX5_over_11 : decode cX5_over 11 = .ok (.iconst 0, 1) := by decide +kernel
theorem dX5_over_12 : decode cX5_over 12 = .ok (.iaload, 1) := by decide +kernel
theorem dX5_over_13 : decode cX5_over 13 = .ok (.ifCond .ne 7, 3) := by decide +kernel
theorem dX5_over_16 : decode cX5_over 16 = .ok (.iconst 2, 1) := by decide +kernel
theorem dX5_over_17 : decode cX5_over 17 = .ok (.goto 4, 3) := by decide +kernel
theorem dX5_over_20 : decode cX5_over 20 = .ok (.iconst 1, 1) := by decide +kernel
theorem dX5_over_21 : decode cX5_over 21 = .ok (.ireturn, 1) := by decide +kernel
theorem dX5_over_22 : decode cX5_over 22 = .ok (.aload_n 0, 1) := by decide +kernel
theorem dX5_over_23 : decode cX5_over 23 = .ok (.getfield 160, 3) := by decide +kernel
theorem dX5_over_26 : decode cX5_over 26 = .ok (.bipush 20, 2) := by decide +kernel
theorem dX5_over_28 : decode cX5_over 28 = .ok (.if_icmp .lt 7, 3) := by decide +kernel
theorem dX5_over_31 : decode cX5_over 31 = .ok (.iconst 3, 1) := by decide +kernel
theorem dX5_over_32 : decode cX5_over 32 = .ok (.goto 4, 3) := by decide +kernel
theorem dX5_over_35 : decode cX5_over 35 = .ok (.iconst 0, 1) := by decide +kernel
theorem dX5_over_36 : decode cX5_over 36 = .ok (.ireturn, 1) := by decide +kernel
set_option maxRecDepth 20000 in
theorem ggX5_play_X5_over : GoodIn wsX5_play wsX5_over := goodIn_r _ [14, 9, 8, 15, 16, 17, 13, 18, 1, 19, 20, 21, 22, 5, 23, 24, 25, 26, 27, 28, 29, 30, 31, 32, 33, 34, 35, 36, 37, 38, 39, 4, 3, 40, 41, 42, 43, 44, 45, 46, 47, 48, 49, 50, 51, 52, 53, 54, 55, 56, 57, 58, 59, 70, 71, 72, 73, 74, 75, 76, 77, 78, 79, 80, 81, 82, 83, 84, 85, 86, 87, 88, 89] (by decide +kernel) (by decide +kernel)
set_option maxRecDepth 20000 in
theorem gX5_play_X5_over : GoodIn wsX5_play (wsV RX5 167 RX5 yX5_over wsX5_over) := goodIn_app (goodIn_of _ (by decide +kernel)) ggX5_play_X5_over
set_option maxRecDepth 20000 in
theorem ggX5_play_X5_beginning : GoodIn wsX5_play wsX5_beginning := goodIn_r _ [62, 4] (by decide +kernel) (by decide +kernel)
set_option maxRecDepth 20000 in
theorem gX5_play_X5_beginning : GoodIn wsX5_play (va_wsS RX5 103 yX5_beginning wsX5_beginning) := goodIn_app (goodIn_of _ (by decide +kernel)) ggX5_play_X5_beginning
set_option maxRecDepth 20000 in
theorem ggX5_play_X5_isKing : GoodIn wsX5_play wsX5_isKing := goodIn_r _ [45] (by decide +kernel) (by decide +kernel)
set_option maxRecDepth 20000 in
theorem gX5_play_X5_isKing : GoodIn wsX5_play (va_wsS RX5 73 yX5_isKing wsX5_isKing) := goodIn_app (goodIn_of _ (by decide +kernel)) ggX5_play_X5_isKing
set_option maxRecDepth 20000 in
theorem ggX5_play_X5_make : GoodIn wsX5_play wsX5_make := goodIn_r _ [66, 3, 4, 5, 9, 60, 61, 13, 62, 67, 68, 69, 50, 51, 52, 53, 54, 55, 70, 71, 72, 73, 74, 75, 76, 77, 78, 79, 80, 81, 82, 83, 84, 85, 86, 87, 88, 89] (by decide +kernel) (by decide +kernel)
set_option maxRecDepth 20000 in
theorem gX5_play_X5_make : GoodIn wsX5_play (wsV RX5 147 RX5 yX5_make wsX5_make) := goodIn_app (goodIn_of _ (by decide +kernel)) ggX5_play_X5_make
theorem dX5_play_0 : decode cX5_play 0 = .ok (.aload_n 0, 1) := by decide +kernel
theorem dX5_play_1 : decode cX5_play 1 = .ok (.invokevirtual 167, 3) := by decide +kernel
theorem dX5_play_4 : decode cX5_play 4 = .ok (.ifCond .ne 26, 3) := by decide +kernel
theorem dX5_play_7 : decode cX5_play 7 = .ok (.iload_n 1, 1) := by decide +kernel
theorem dX5_play_8 : decode cX5_play 8 = .ok (.ifCond .lt 22, 3) := by decide +kernel
theorem dX5_play_11 : decode cX5_play 11 = .ok (.iload_n 1, 1) := by decide +kernel
theorem dX5_play_12 : decode cX5_play 12 = .ok (.aload_n 0, 1) := by decide +kernel
theorem dX5_play_13 : decode cX5_play 13 = .ok (.getfield 19, 3) := by decide +kernel
theorem dX5_play_16 : decode cX5_play 16 = .ok (.iconst 0, 1) := by decide +kernel
theorem dX5_play_17 : decode cX5_play 17 = .ok (.iaload, 1) := by decide +kernel
theorem dX5_play_18 : decode cX5_play 18 = .ok (.if_icmp .ge 12, 3) := by decide +kernel
theorem dX5_play_21 : decode cX5_play 21 = .ok (.aload_n 0, 1) := by decide +kernel
theorem dX5_play_22 : decode cX5_play 22 = .ok (.getfield 156, 3) := by decide +kernel
theorem dX5_play_25 : decode cX5_play 25 = .ok (.bipush 100, 2) := by decide +kernel
theorem dX5_play_27 : decode cX5_play 27 = .ok (.if_icmp .ne 5, 3) := by decide +kernel
theorem dX5_play_30 : decode cX5_play 30 = .ok (.iconst (-1), 1) := by decide +kernel
theorem dX5_play_31 : decode cX5_play 31 = .ok (.ireturn, 1) := by decide +kernel
theorem dX5_play_32 : decode cX5_play 32 = .ok (.aload_n 0, 1) := by decide +kernel
theorem dX5_play_33 : decode cX5_play 33 = .ok (.getfield 16, 3) := by decide +kernel
theorem dX5_play_36 : decode cX5_play 36 = .ok (.iload_n 1, 1) := by decide +kernel
theorem dX5_play_37 : decode cX5_play 37 = .ok (.iaload, 1) := by decide +kernel
theorem dX5_play_38 : decode cX5_play 38 = .ok (.istore_n 2, 1) := by decide +kernel
theorem dX5_play_39 : decode cX5_play 39 = .ok (.iload_n 2, 1) := by decide +kernel
theorem dX5_play_40 : decode cX5_play 40 = .ok (.ldc 77, 2) := by decide +kernel
theorem dX5_play_42 : decode cX5_play 42 = .ok (.irem, 1) := by decide +kernel
theorem dX5_play_43 : decode cX5_play 43 = .ok (.ifCond .ne 22, 3) := by decide +kernel
theorem dX5_play_46 : decode cX5_play 46 = .ok (.aload_n 0, 1) := by decide +kernel
theorem dX5_play_47 : decode cX5_play 47 = .ok (.getfield 7, 3) := by decide +kernel
theorem dX5_play_50 : decode cX5_play 50 = .ok (.iload_n 2, 1) := by decide +kernel
theorem dX5_play_51 : decode cX5_play 51 = .ok (.invokestatic 103, 3) := by decide +kernel
theorem dX5_play_54 : decode cX5_play 54 = .ok (.iaload, 1) := by decide +kernel
theorem dX5_play_55 : decode cX5_play 55 = .ok (.invokestatic 73, 3) := by decide +kernel
theorem dX5_play_58 : decode cX5_play 58 = .ok (.ifCond .eq 7, 3) := by decide +kernel
theorem dX5_play_61 : decode cX5_play 61 = .ok (.iconst 1, 1) := by decide +kernel
theorem dX5_play_62 : decode cX5_play 62 = .ok (.goto 4, 3) := by decide +kernel
theorem dX5_play_65 : decode cX5_play 65 = .ok (.iconst 0, 1) := by decide +kernel
theorem dX5_play_66 : decode cX5_play 66 = .ok (.istore_n 3, 1) := by decide +kernel
theorem dX5_play_67 : decode cX5_play 67 = .ok (.iconst 0, 1) := by decide +kernel
theorem dX5_play_68 : decode cX5_play 68 = .ok (.istore 4, 2) := by decide +kernel
theorem dX5_play_70 : decode cX5_play 70 = .ok (.iload 4, 2) := by decide +kernel
theorem dX5_play_72 : decode cX5_play 72 = .ok (.bipush 18, 2) := by decide +kernel
theorem dX5_play_74 : decode cX5_play 74 = .ok (.if_icmp .ge 31, 3) := by decide +kernel
theorem dX5_play_77 : decode cX5_play 77 = .ok (.aload_n 0, 1) := by decide +kernel
theorem dX5_play_78 : decode cX5_play 78 = .ok (.getfield 50, 3) := by decide +kernel
theorem dX5_play_81 : decode cX5_play 81 = .ok (.bipush 18, 2) := by decide +kernel
theorem dX5_play_83 : decode cX5_play 83 = .ok (.aload_n 0, 1) := by decide +kernel
theorem dX5_play_84 : decode cX5_play 84 = .ok (.getfield 156, 3) := by decide +kernel
theorem dX5_play_87 : decode cX5_play 87 = .ok (.imul, 1) := by decide +kernel
theorem dX5_play_88 : decode cX5_play 88 = .ok (.iload 4, 2) := by decide +kernel
theorem dX5_play_90 : decode cX5_play 90 = .ok (.iadd, 1) := by decide +kernel
theorem dX5_play_91 : decode cX5_play 91 = .ok (.aload_n 0, 1) := by decide +kernel
theorem dX5_play_92 : decode cX5_play 92 = .ok (.getfield 7, 3) := by decide +kernel
theorem dX5_play_95 : decode cX5_play 95 = .ok (.iload 4, 2) := by decide +kernel
theorem dX5_play_97 : decode cX5_play 97 = .ok (.iaload, 1) := by decide +kernel
theorem dX5_play_98 : decode cX5_play 98 = .ok (.iastore, 1) := by decide +kernel
theorem dX5_play_99 : decode cX5_play 99 = .ok (.iinc 4 1, 3) := by decide +kernel
theorem dX5_play_102 : decode cX5_play 102 = .ok (.goto (-32), 3) := by decide +kernel
theorem dX5_play_105 : decode cX5_play 105 = .ok (.aload_n 0, 1) := by decide +kernel
theorem dX5_play_106 : decode cX5_play 106 = .ok (.getfield 53, 3) := by decide +kernel
theorem dX5_play_109 : decode cX5_play 109 = .ok (.aload_n 0, 1) := by decide +kernel
theorem dX5_play_110 : decode cX5_play 110 = .ok (.getfield 156, 3) := by decide +kernel
theorem dX5_play_113 : decode cX5_play 113 = .ok (.aload_n 0, 1) := by decide +kernel
theorem dX5_play_114 : decode cX5_play 114 = .ok (.getfield 160, 3) := by decide +kernel
theorem dX5_play_117 : decode cX5_play 117 = .ok (.iastore, 1) := by decide +kernel
theorem dX5_play_118 : decode cX5_play 118 = .ok (.aload_n 0, 1) := by decide +kernel
theorem dX5_play_119 : decode cX5_play 119 = .ok (.dup, 1) := by decide +kernel
theorem dX5_play_120 : decode cX5_play 120 = .ok (.getfield 156, 3) := by decide +kernel
theorem dX5_play_123 : decode cX5_play 123 = .ok (.iconst 1, 1) := by decide +kernel
theorem dX5_play_124 : decode cX5_play 124 = .ok (.iadd, 1) := by decide +kernel
theorem dX5_play_125 : decode cX5_play 125 = .ok (.putfield 156, 3) := by decide +kernel
theorem dX5_play_128 : decode cX5_play 128 = .ok (.aload_n 0, 1) := by decide +kernel
theorem dX5_play_129 : decode cX5_play 129 = .ok (.iload_n 3, 1) := by decide +kernel
theorem dX5_play_130 : decode cX5_play 130 = .ok (.ifCond .eq 12, 3) := by decide +kernel
theorem dX5_play_133 : decode cX5_play 133 = .ok (.aload_n 0, 1) := by decide +kernel
theorem dX5_play_134 : decode cX5_play 134 = .ok (.getfield 160, 3) := by decide +kernel
theorem dX5_play_137 : decode cX5_play 137 = .ok (.iconst 1, 1) := by decide +kernel
theorem dX5_play_138 : decode cX5_play 138 = .ok (.iadd, 1) := by decide +kernel
theorem dX5_play_139 : decode cX5_play 139 = .ok (.goto 4, 3) := by decide +kernel
theorem dX5_play_142 : decode cX5_play 142 = .ok (.iconst 0, 1) := by decide +kernel
theorem dX5_play_143 : decode cX5_play 143 = .ok (.putfield 160, 3) := by decide +kernel
theorem dX5_play_146 : decode cX5_play 146 = .ok (.aload_n 0, 1) := by decide +kernel
theorem dX5_play_147 : decode cX5_play 147 = .ok (.iconst 0, 1) := by decide +kernel
theorem dX5_play_148 : decode cX5_play 148 = .ok (.iload_n 1, 1) := by decide +kernel
theorem dX5_play_149 : decode cX5_play 149 = .ok (.invokevirtual 147, 3) := by decide +kernel
theorem dX5_play_152 : decode cX5_play 152 = .ok (.iconst 0, 1) := by decide +kernel
theorem dX5_play_153 : decode cX5_play 153 = .ok (.istore 4, 2) := by decide +kernel
theorem dX5_play_155 : decode cX5_play 155 = .ok (.iconst 0, 1) := by decide +kernel
theorem dX5_play_156 : decode cX5_play 156 = .ok (.istore 5, 2) := by decide +kernel
theorem dX5_play_158 : decode cX5_play 158 = .ok (.iload 5, 2) := by decide +kernel
theorem dX5_play_160 : decode cX5_play 160 = .ok (.bipush 18, 2) := by decide +kernel
theorem dX5_play_162 : decode cX5_play 162 = .ok (.if_icmp .ge 50, 3) := by decide +kernel
theorem dX5_play_165 : decode cX5_play 165 = .ok (.aload_n 0, 1) := by decide +kernel
theorem dX5_play_166 : decode cX5_play 166 = .ok (.getfield 7, 3) := by decide +kernel
theorem dX5_play_169 : decode cX5_play 169 = .ok (.iload 5, 2) := by decide +kernel
theorem dX5_play_171 : decode cX5_play 171 = .ok (.aload_n 0, 1) := by decide +kernel
theorem dX5_play_172 : decode cX5_play 172 = .ok (.getfield 7, 3) := by decide +kernel
theorem dX5_play_175 : decode cX5_play 175 = .ok (.bipush 18, 2) := by decide +kernel
theorem dX5_play_177 : decode cX5_play 177 = .ok (.iload 5, 2) := by decide +kernel
theorem dX5_play_179 : decode cX5_play 179 = .ok (.iadd, 1) := by decide +kernel
theorem dX5_play_180 : decode cX5_play 180 = .ok (.iaload, 1) := by decide +kernel
theorem dX5_play_181 : decode cX5_play 181 = .ok (.iastore, 1) := by decide +kernel
theorem dX5_play_182 : decode cX5_play 182 = .ok (.iload_n 2, 1) := by decide +kernel
theorem dX5_play_183 : decode cX5_play 183 = .ok (.ldc 77, 2) := by decide +kernel
theorem dX5_play_185 : decode cX5_play 185 = .ok (.irem, 1) := by decide +kernel
theorem dX5_play_186 : decode cX5_play 186 = .ok (.iload 5, 2) := by decide +kernel
theorem dX5_play_188 : decode cX5_play 188 = .ok (.ishr, 1) := by decide +kernel
theorem dX5_play_189 : decode cX5_play 189 = .ok (.iconst 1, 1) := by decide +kernel
theorem dX5_play_190 : decode cX5_play 190 = .ok (.iand, 1) := by decide +kernel
theorem dX5_play_191 : decode cX5_play 191 = .ok (.iconst 1, 1) := by decide +kernel
theorem dX5_play_192 : decode cX5_play 192 = .ok (.if_icmp .ne 10, 3) := by decide +kernel
theorem dX5_play_195 : decode cX5_play 195 = .ok (.iload 4, 2) := by decide +kernel
theorem dX5_play_197 : decode cX5_play 197 = .ok (.iconst 1, 1) := by decide +kernel
theorem dX5_play_198 : decode cX5_play 198 = .ok (.iadd, 1) := by decide +kernel
theorem dX5_play_199 : decode cX5_play 199 = .ok (.goto 5, 3) := by decide +kernel
theorem dX5_play_202 : decode cX5_play 202 = .ok (.iload 4, 2) := by decide +kernel
theorem dX5_play_204 : decode cX5_play 204 = .ok (.istore 4, 2) := by decide +kernel
theorem dX5_play_206 : decode cX5_play 206 = .ok (.iinc 5 1, 3) := by decide +kernel
theorem dX5_play_209 : decode cX5_play 209 = .ok (.goto (-51), 3) := by decide +kernel
theorem dX5_play_212 : decode cX5_play 212 = .ok (.aload_n 0, 1) := by decide +kernel
theorem dX5_play_213 : decode cX5_play 213 = .ok (.getfield 13, 3) := by decide +kernel
theorem dX5_play_216 : decode cX5_play 216 = .ok (.iconst 0, 1) := by decide +kernel
theorem dX5_play_217 : decode cX5_play 217 = .ok (.aload_n 0, 1) := by decide +kernel
theorem dX5_play_218 : decode cX5_play 218 = .ok (.getfield 13, 3) := by decide +kernel
theorem dX5_play_221 : decode cX5_play 221 = .ok (.iconst 1, 1) := by decide +kernel
theorem dX5_play_222 : decode cX5_play 222 = .ok (.iaload, 1) := by decide +kernel
theorem dX5_play_223 : decode cX5_play 223 = .ok (.iastore, 1) := by decide +kernel
theorem dX5_play_224 : decode cX5_play 224 = .ok (.iload 4, 2) := by decide +kernel
theorem dX5_play_226 : decode cX5_play 226 = .ok (.ireturn, 1) := by decide +kernel
theorem dX5_undo_0 : decode cX5_undo 0 = .ok (.aload_n 0, 1) := by decide +kernel
theorem dX5_undo_1 : decode cX5_undo 1 = .ok (.getfield 156, 3) := by decide +kernel
theorem dX5_undo_4 : decode cX5_undo 4 = .ok (.ifCond .ne 5, 3) := by decide +kernel
theorem dX5_undo_7 : decode cX5_undo 7 = .ok (.iconst 0, 1) := by decide +kernel
theorem dX5_undo_8 : decode cX5_undo 8 = .ok (.ireturn, 1) := by decide +kernel
theorem dX5_undo_9 : decode cX5_undo 9 = .ok (.aload_n 0, 1) := by decide +kernel
theorem dX5_undo_10 : decode cX5_undo 10 = .ok (.dup, 1) := by decide +kernel
theorem dX5_undo_11 : decode cX5_undo 11 = .ok (.getfield 156, 3) := by decide +kernel
theorem dX5_undo_14 : decode cX5_undo 14 = .ok (.iconst 1, 1) := by decide +kernel
theorem dX5_undo_15 : decode cX5_undo 15 = .ok (.isub, 1) := by decide +kernel
theorem dX5_undo_16 : decode cX5_undo 16 = .ok (.putfield 156, 3) := by decide +kernel
theorem dX5_undo_19 : decode cX5_undo 19 = .ok (.iconst 0, 1) := by decide +kernel
theorem dX5_undo_20 : decode cX5_undo 20 = .ok (.istore_n 1, 1) := by decide +kernel
theorem dX5_undo_21 : decode cX5_undo 21 = .ok (.iload_n 1, 1) := by decide +kernel
theorem dX5_undo_22 : decode cX5_undo 22 = .ok (.bipush 18, 2) := by decide +kernel
theorem dX5_undo_24 : decode cX5_undo 24 = .ok (.if_icmp .ge 29, 3) := by decide +kernel
theorem dX5_undo_27 : decode cX5_undo 27 = .ok (.aload_n 0, 1) := by decide +kernel
theorem dX5_undo_28 : decode cX5_undo 28 = .ok (.getfield 7, 3) := by decide +kernel
theorem dX5_undo_31 : decode cX5_undo 31 = .ok (.iload_n 1, 1) := by decide +kernel
theorem dX5_undo_32 : decode cX5_undo 32 = .ok (.aload_n 0, 1) := by decide +kernel
theorem dX5_undo_33 : decode cX5_undo 33 = .ok (.getfield 50, 3) := by decide +kernel
theorem dX5_undo_36 : decode cX5_undo 36 = .ok (.bipush 18, 2) := by decide +kernel
theorem dX5_undo_38 : decode cX5_undo 38 = .ok (.aload_n 0, 1) := by decide +kernel
theorem dX5_undo_39 : decode cX5_undo 39 = .ok (.getfield 156, 3) := by decide +kernel
theorem dX5_undo_42 : decode cX5_undo 42 = .ok (.imul, 1) := by decide +kernel
theorem dX5_undo_43 : decode cX5_undo 43 = .ok (.iload_n 1, 1) := by decide +kernel
theorem dX5_undo_44 : decode cX5_undo 44 = .ok (.iadd, 1) := by decide +kernel
theorem dX5_undo_45 : decode cX5_undo 45 = .ok (.iaload, 1) := by decide +kernel
theorem dX5_undo_46 : decode cX5_undo 46 = .ok (.iastore, 1) := by decide +kernel
theorem dX5_undo_47 : decode cX5_undo 47 = .ok (.iinc 1 1, 3) := by decide +kernel
theorem dX5_undo_50 : decode cX5_undo 50 = .ok (.goto (-29), 3) := by decide +kernel
theorem dX5_undo_53 : decode cX5_undo 53 = .ok (.aload_n 0, 1) := by decide +kernel
theorem dX5_undo_54 : decode cX5_undo 54 = .ok (.aload_n 0, 1) := by decide +kernel
theorem dX5_undo_55 : decode cX5_undo 55 = .ok (.getfield 53, 3) := by decide +kernel
theorem dX5_undo_58 : decode cX5_undo 58 = .ok (.aload_n 0, 1) := by decide +kernel
theorem dX5_undo_59 : decode cX5_undo 59 = .ok (.getfield 156, 3) := by decide +kernel
theorem dX5_undo_62 : decode cX5_undo 62 = .ok (.iaload, 1) := by decide +kernel
theorem dX5_undo_63 : decode cX5_undo 63 = .ok (.putfield 160, 3) := by decide +kernel
theorem dX5_undo_66 : decode cX5_undo 66 = .ok (.aload_n 0, 1) := by decide +kernel
theorem dX5_undo_67 : decode cX5_undo 67 = .ok (.getfield 13, 3) := by decide +kernel
theorem dX5_undo_70 : decode cX5_undo 70 = .ok (.iconst 0, 1) := by decide +kernel
theorem dX5_undo_71 : decode cX5_undo 71 = .ok (.iconst 1, 1) := by decide +kernel
theorem dX5_undo_72 : decode cX5_undo 72 = .ok (.aload_n 0, 1) := by decide +kernel
theorem dX5_undo_73 : decode cX5_undo 73 = .ok (.getfield 13, 3) := by decide +kernel
theorem dX5_undo_76 : decode cX5_undo 76 = .ok (.iconst 0, 1) := by decide +kernel
theorem dX5_undo_77 : decode cX5_undo 77 = .ok (.iaload, 1) := by decide +kernel
theorem dX5_undo_78 : decode cX5_undo 78 = .ok (.isub, 1) := by decide +kernel
theorem dX5_undo_79 : decode cX5_undo 79 = .ok (.iastore, 1) := by decide +kernel
theorem dX5_undo_80 : decode cX5_undo 80 = .ok (.iconst 1, 1) := by decide +kernel
theorem dX5_undo_81 : decode cX5_undo 81 = .ok (.ireturn, 1) := by decide +kernel
theorem dX5_played_0 : decode cX5_played 0 = .ok (.aload_n 0, 1) := by decide +kernel
theorem dX5_played_1 : decode cX5_played 1 = .ok (.getfield 156, 3) := by decide +kernel
theorem dX5_played_4 : decode cX5_played 4 = .ok (.ireturn, 1) := by decide +kernel
theorem dX5_quiet_0 : decode cX5_quiet 0 = .ok (.aload_n 0, 1) := by decide +kernel
theorem dX5_quiet_1 : decode cX5_quiet 1 = .ok (.getfield 160, 3) := by decide +kernel
theorem dX5_quiet_4 : decode cX5_quiet 4 = .ok (.ireturn, 1) := by decide +kernel
theorem dJ6_numberOfTrailingZeros_0f7a4_0 : decode cJ6_numberOfTrailingZeros_0f7a4 0 = .ok (.iload_n 0, 1) := by decide +kernel
theorem dJ6_numberOfTrailingZeros_0f7a4_1 : decode cJ6_numberOfTrailingZeros_0f7a4 1 = .ok (.iconst (-1), 1) := by decide +kernel
theorem dJ6_numberOfTrailingZeros_0f7a4_2 : decode cJ6_numberOfTrailingZeros_0f7a4 2 = .ok (.ixor, 1) := by decide +kernel
theorem dJ6_numberOfTrailingZeros_0f7a4_3 : decode cJ6_numberOfTrailingZeros_0f7a4 3 = .ok (.iload_n 0, 1) := by decide +kernel
theorem dJ6_numberOfTrailingZeros_0f7a4_4 : decode cJ6_numberOfTrailingZeros_0f7a4 4 = .ok (.iconst 1, 1) := by decide +kernel
theorem dJ6_numberOfTrailingZeros_0f7a4_5 : decode cJ6_numberOfTrailingZeros_0f7a4 5 = .ok (.isub, 1) := by decide +kernel
theorem dJ6_numberOfTrailingZeros_0f7a4_6 : decode cJ6_numberOfTrailingZeros_0f7a4 6 = .ok (.iand, 1) := by decide +kernel
theorem dJ6_numberOfTrailingZeros_0f7a4_7 : decode cJ6_numberOfTrailingZeros_0f7a4 7 = .ok (.istore_n 0, 1) := by decide +kernel
theorem dJ6_numberOfTrailingZeros_0f7a4_8 : decode cJ6_numberOfTrailingZeros_0f7a4 8 = .ok (.iload_n 0, 1) := by decide +kernel
theorem dJ6_numberOfTrailingZeros_0f7a4_9 : decode cJ6_numberOfTrailingZeros_0f7a4 9 = .ok (.ifCond .gt 8, 3) := by decide +kernel
theorem dJ6_numberOfTrailingZeros_0f7a4_12 : decode cJ6_numberOfTrailingZeros_0f7a4 12 = .ok (.iload_n 0, 1) := by decide +kernel
theorem dJ6_numberOfTrailingZeros_0f7a4_13 : decode cJ6_numberOfTrailingZeros_0f7a4 13 = .ok (.bipush 32, 2) := by decide +kernel
theorem dJ6_numberOfTrailingZeros_0f7a4_15 : decode cJ6_numberOfTrailingZeros_0f7a4 15 = .ok (.iand, 1) := by decide +kernel
theorem dJ6_numberOfTrailingZeros_0f7a4_16 : decode cJ6_numberOfTrailingZeros_0f7a4 16 = .ok (.ireturn, 1) := by decide +kernel
theorem dJ6_numberOfTrailingZeros_0f7a4_17 : decode cJ6_numberOfTrailingZeros_0f7a4 17 = .ok (.iconst 1, 1) := by decide +kernel
theorem dJ6_numberOfTrailingZeros_0f7a4_18 : decode cJ6_numberOfTrailingZeros_0f7a4 18 = .ok (.istore_n 1, 1) := by decide +kernel
theorem dJ6_numberOfTrailingZeros_0f7a4_19 : decode cJ6_numberOfTrailingZeros_0f7a4 19 = .ok (.iload_n 0, 1) := by decide +kernel
theorem dJ6_numberOfTrailingZeros_0f7a4_20 : decode cJ6_numberOfTrailingZeros_0f7a4 20 = .ok (.ldc_w 264, 3) := by decide +kernel
theorem dJ6_numberOfTrailingZeros_0f7a4_23 : decode cJ6_numberOfTrailingZeros_0f7a4 23 = .ok (.if_icmp .le 11, 3) := by decide +kernel
theorem dJ6_numberOfTrailingZeros_0f7a4_26 : decode cJ6_numberOfTrailingZeros_0f7a4 26 = .ok (.iinc 1 16, 3) := by decide +kernel
theorem dJ6_numberOfTrailingZeros_0f7a4_29 : decode cJ6_numberOfTrailingZeros_0f7a4 29 = .ok (.iload_n 0, 1) := by decide +kernel
theorem dJ6_numberOfTrailingZeros_0f7a4_30 : decode cJ6_numberOfTrailingZeros_0f7a4 30 = .ok (.bipush 16, 2) := by decide +kernel
theorem dJ6_numberOfTrailingZeros_0f7a4_32 : decode cJ6_numberOfTrailingZeros_0f7a4 32 = .ok (.iushr, 1) := by decide +kernel
theorem dJ6_numberOfTrailingZeros_0f7a4_33 : decode cJ6_numberOfTrailingZeros_0f7a4 33 = .ok (.istore_n 0, 1) := by decide +kernel
theorem dJ6_numberOfTrailingZeros_0f7a4_34 : decode cJ6_numberOfTrailingZeros_0f7a4 34 = .ok (.iload_n 0, 1) := by decide +kernel
theorem dJ6_numberOfTrailingZeros_0f7a4_35 : decode cJ6_numberOfTrailingZeros_0f7a4 35 = .ok (.sipush 256, 3) := by decide +kernel
theorem dJ6_numberOfTrailingZeros_0f7a4_38 : decode cJ6_numberOfTrailingZeros_0f7a4 38 = .ok (.if_icmp .le 11, 3) := by decide +kernel
theorem dJ6_numberOfTrailingZeros_0f7a4_41 : decode cJ6_numberOfTrailingZeros_0f7a4 41 = .ok (.iinc 1 8, 3) := by decide +kernel
theorem dJ6_numberOfTrailingZeros_0f7a4_44 : decode cJ6_numberOfTrailingZeros_0f7a4 44 = .ok (.iload_n 0, 1) := by decide +kernel
theorem dJ6_numberOfTrailingZeros_0f7a4_45 : decode cJ6_numberOfTrailingZeros_0f7a4 45 = .ok (.bipush 8, 2) := by decide +kernel
theorem dJ6_numberOfTrailingZeros_0f7a4_47 : decode cJ6_numberOfTrailingZeros_0f7a4 47 = .ok (.iushr, 1) := by decide +kernel
theorem dJ6_numberOfTrailingZeros_0f7a4_48 : decode cJ6_numberOfTrailingZeros_0f7a4 48 = .ok (.istore_n 0, 1) := by decide +kernel
theorem dJ6_numberOfTrailingZeros_0f7a4_49 : decode cJ6_numberOfTrailingZeros_0f7a4 49 = .ok (.iload_n 0, 1) := by decide +kernel
theorem dJ6_numberOfTrailingZeros_0f7a4_50 : decode cJ6_numberOfTrailingZeros_0f7a4 50 = .ok (.bipush 16, 2) := by decide +kernel
theorem dJ6_numberOfTrailingZeros_0f7a4_52 : decode cJ6_numberOfTrailingZeros_0f7a4 52 = .ok (.if_icmp .le 10, 3) := by decide +kernel
theorem dJ6_numberOfTrailingZeros_0f7a4_55 : decode cJ6_numberOfTrailingZeros_0f7a4 55 = .ok (.iinc 1 4, 3) := by decide +kernel
theorem dJ6_numberOfTrailingZeros_0f7a4_58 : decode cJ6_numberOfTrailingZeros_0f7a4 58 = .ok (.iload_n 0, 1) := by decide +kernel
theorem dJ6_numberOfTrailingZeros_0f7a4_59 : decode cJ6_numberOfTrailingZeros_0f7a4 59 = .ok (.iconst 4, 1) := by decide +kernel
theorem dJ6_numberOfTrailingZeros_0f7a4_60 : decode cJ6_numberOfTrailingZeros_0f7a4 60 = .ok (.iushr, 1) := by decide +kernel
theorem dJ6_numberOfTrailingZeros_0f7a4_61 : decode cJ6_numberOfTrailingZeros_0f7a4 61 = .ok (.istore_n 0, 1) := by decide +kernel
theorem dJ6_numberOfTrailingZeros_0f7a4_62 : decode cJ6_numberOfTrailingZeros_0f7a4 62 = .ok (.iload_n 0, 1) := by decide +kernel
theorem dJ6_numberOfTrailingZeros_0f7a4_63 : decode cJ6_numberOfTrailingZeros_0f7a4 63 = .ok (.iconst 4, 1) := by decide +kernel
theorem dJ6_numberOfTrailingZeros_0f7a4_64 : decode cJ6_numberOfTrailingZeros_0f7a4 64 = .ok (.if_icmp .le 10, 3) := by decide +kernel
theorem dJ6_numberOfTrailingZeros_0f7a4_67 : decode cJ6_numberOfTrailingZeros_0f7a4 67 = .ok (.iinc 1 2, 3) := by decide +kernel
theorem dJ6_numberOfTrailingZeros_0f7a4_70 : decode cJ6_numberOfTrailingZeros_0f7a4 70 = .ok (.iload_n 0, 1) := by decide +kernel
theorem dJ6_numberOfTrailingZeros_0f7a4_71 : decode cJ6_numberOfTrailingZeros_0f7a4 71 = .ok (.iconst 2, 1) := by decide +kernel
theorem dJ6_numberOfTrailingZeros_0f7a4_72 : decode cJ6_numberOfTrailingZeros_0f7a4 72 = .ok (.iushr, 1) := by decide +kernel
theorem dJ6_numberOfTrailingZeros_0f7a4_73 : decode cJ6_numberOfTrailingZeros_0f7a4 73 = .ok (.istore_n 0, 1) := by decide +kernel
theorem dJ6_numberOfTrailingZeros_0f7a4_74 : decode cJ6_numberOfTrailingZeros_0f7a4 74 = .ok (.iload_n 1, 1) := by decide +kernel
theorem dJ6_numberOfTrailingZeros_0f7a4_75 : decode cJ6_numberOfTrailingZeros_0f7a4 75 = .ok (.iload_n 0, 1) := by decide +kernel
theorem dJ6_numberOfTrailingZeros_0f7a4_76 : decode cJ6_numberOfTrailingZeros_0f7a4 76 = .ok (.iconst 1, 1) := by decide +kernel
theorem dJ6_numberOfTrailingZeros_0f7a4_77 : decode cJ6_numberOfTrailingZeros_0f7a4 77 = .ok (.iushr, 1) := by decide +kernel
theorem dJ6_numberOfTrailingZeros_0f7a4_78 : decode cJ6_numberOfTrailingZeros_0f7a4 78 = .ok (.iadd, 1) := by decide +kernel
theorem dJ6_numberOfTrailingZeros_0f7a4_79 : decode cJ6_numberOfTrailingZeros_0f7a4 79 = .ok (.ireturn, 1) := by decide +kernel
theorem dJ6_bitCount_0f7a4_0 : decode cJ6_bitCount_0f7a4 0 = .ok (.iload_n 0, 1) := by decide +kernel
theorem dJ6_bitCount_0f7a4_1 : decode cJ6_bitCount_0f7a4 1 = .ok (.iload_n 0, 1) := by decide +kernel
theorem dJ6_bitCount_0f7a4_2 : decode cJ6_bitCount_0f7a4 2 = .ok (.iconst 1, 1) := by decide +kernel
theorem dJ6_bitCount_0f7a4_3 : decode cJ6_bitCount_0f7a4 3 = .ok (.iushr, 1) := by decide +kernel
theorem dJ6_bitCount_0f7a4_4 : decode cJ6_bitCount_0f7a4 4 = .ok (.ldc_w 265, 3) := by decide +kernel
theorem dJ6_bitCount_0f7a4_7 : decode cJ6_bitCount_0f7a4 7 = .ok (.iand, 1) := by decide +kernel
theorem dJ6_bitCount_0f7a4_8 : decode cJ6_bitCount_0f7a4 8 = .ok (.isub, 1) := by decide +kernel
theorem dJ6_bitCount_0f7a4_9 : decode cJ6_bitCount_0f7a4 9 = .ok (.istore_n 0, 1) := by decide +kernel
theorem dJ6_bitCount_0f7a4_10 : decode cJ6_bitCount_0f7a4 10 = .ok (.iload_n 0, 1) := by decide +kernel
theorem dJ6_bitCount_0f7a4_11 : decode cJ6_bitCount_0f7a4 11 = .ok (.ldc_w 266, 3) := by decide +kernel
theorem dJ6_bitCount_0f7a4_14 : decode cJ6_bitCount_0f7a4 14 = .ok (.iand, 1) := by decide +kernel
theorem dJ6_bitCount_0f7a4_15 : decode cJ6_bitCount_0f7a4 15 = .ok (.iload_n 0, 1) := by decide +kernel
theorem dJ6_bitCount_0f7a4_16 : decode cJ6_bitCount_0f7a4 16 = .ok (.iconst 2, 1) := by decide +kernel
theorem dJ6_bitCount_0f7a4_17 : decode cJ6_bitCount_0f7a4 17 = .ok (.iushr, 1) := by decide +kernel
theorem dJ6_bitCount_0f7a4_18 : decode cJ6_bitCount_0f7a4 18 = .ok (.ldc_w 266, 3) := by decide +kernel
theorem dJ6_bitCount_0f7a4_21 : decode cJ6_bitCount_0f7a4 21 = .ok (.iand, 1) := by decide +kernel
theorem dJ6_bitCount_0f7a4_22 : decode cJ6_bitCount_0f7a4 22 = .ok (.iadd, 1) := by decide +kernel
theorem dJ6_bitCount_0f7a4_23 : decode cJ6_bitCount_0f7a4 23 = .ok (.istore_n 0, 1) := by decide +kernel
theorem dJ6_bitCount_0f7a4_24 : decode cJ6_bitCount_0f7a4 24 = .ok (.iload_n 0, 1) := by decide +kernel
theorem dJ6_bitCount_0f7a4_25 : decode cJ6_bitCount_0f7a4 25 = .ok (.iload_n 0, 1) := by decide +kernel
theorem dJ6_bitCount_0f7a4_26 : decode cJ6_bitCount_0f7a4 26 = .ok (.iconst 4, 1) := by decide +kernel
theorem dJ6_bitCount_0f7a4_27 : decode cJ6_bitCount_0f7a4 27 = .ok (.iushr, 1) := by decide +kernel
theorem dJ6_bitCount_0f7a4_28 : decode cJ6_bitCount_0f7a4 28 = .ok (.iadd, 1) := by decide +kernel
theorem dJ6_bitCount_0f7a4_29 : decode cJ6_bitCount_0f7a4 29 = .ok (.ldc_w 267, 3) := by decide +kernel
theorem dJ6_bitCount_0f7a4_32 : decode cJ6_bitCount_0f7a4 32 = .ok (.iand, 1) := by decide +kernel
theorem dJ6_bitCount_0f7a4_33 : decode cJ6_bitCount_0f7a4 33 = .ok (.istore_n 0, 1) := by decide +kernel
theorem dJ6_bitCount_0f7a4_34 : decode cJ6_bitCount_0f7a4 34 = .ok (.iload_n 0, 1) := by decide +kernel
theorem dJ6_bitCount_0f7a4_35 : decode cJ6_bitCount_0f7a4 35 = .ok (.iload_n 0, 1) := by decide +kernel
theorem dJ6_bitCount_0f7a4_36 : decode cJ6_bitCount_0f7a4 36 = .ok (.bipush 8, 2) := by decide +kernel
theorem dJ6_bitCount_0f7a4_38 : decode cJ6_bitCount_0f7a4 38 = .ok (.iushr, 1) := by decide +kernel
theorem dJ6_bitCount_0f7a4_39 : decode cJ6_bitCount_0f7a4 39 = .ok (.iadd, 1) := by decide +kernel
theorem dJ6_bitCount_0f7a4_40 : decode cJ6_bitCount_0f7a4 40 = .ok (.istore_n 0, 1) := by decide +kernel
theorem dJ6_bitCount_0f7a4_41 : decode cJ6_bitCount_0f7a4 41 = .ok (.iload_n 0, 1) := by decide +kernel
theorem dJ6_bitCount_0f7a4_42 : decode cJ6_bitCount_0f7a4 42 = .ok (.iload_n 0, 1) := by decide +kernel
theorem dJ6_bitCount_0f7a4_43 : decode cJ6_bitCount_0f7a4 43 = .ok (.bipush 16, 2) := by decide +kernel
theorem dJ6_bitCount_0f7a4_45 : decode cJ6_bitCount_0f7a4 45 = .ok (.iushr, 1) := by decide +kernel
theorem dJ6_bitCount_0f7a4_46 : decode cJ6_bitCount_0f7a4 46 = .ok (.iadd, 1) := by decide +kernel
theorem dJ6_bitCount_0f7a4_47 : decode cJ6_bitCount_0f7a4 47 = .ok (.istore_n 0, 1) := by decide +kernel
theorem dJ6_bitCount_0f7a4_48 : decode cJ6_bitCount_0f7a4 48 = .ok (.iload_n 0, 1) := by decide +kernel
theorem dJ6_bitCount_0f7a4_49 : decode cJ6_bitCount_0f7a4 49 = .ok (.bipush 63, 2) := by decide +kernel
theorem dJ6_bitCount_0f7a4_51 : decode cJ6_bitCount_0f7a4 51 = .ok (.iand, 1) := by decide +kernel
theorem dJ6_bitCount_0f7a4_52 : decode cJ6_bitCount_0f7a4 52 = .ok (.ireturn, 1) := by decide +kernel
theorem dJ9_max_7cf53_0 : decode cJ9_max_7cf53 0 = .ok (.iload_n 0, 1) := by decide +kernel
theorem dJ9_max_7cf53_1 : decode cJ9_max_7cf53 1 = .ok (.iload_n 1, 1) := by decide +kernel
theorem dJ9_max_7cf53_2 : decode cJ9_max_7cf53 2 = .ok (.if_icmp .lt 7, 3) := by decide +kernel
theorem dJ9_max_7cf53_5 : decode cJ9_max_7cf53 5 = .ok (.iload_n 0, 1) := by decide +kernel
theorem dJ9_max_7cf53_6 : decode cJ9_max_7cf53 6 = .ok (.goto 4, 3) := by decide +kernel
theorem dJ9_max_7cf53_9 : decode cJ9_max_7cf53 9 = .ok (.iload_n 1, 1) := by decide +kernel
theorem dJ9_max_7cf53_10 : decode cJ9_max_7cf53 10 = .ok (.ireturn, 1) := by decide +kernel
theorem dJ9_min_7cf53_0 : decode cJ9_min_7cf53 0 = .ok (.iload_n 0, 1) := by decide +kernel
theorem dJ9_min_7cf53_1 : decode cJ9_min_7cf53 1 = .ok (.iload_n 1, 1) := by decide +kernel
theorem dJ9_min_7cf53_2 : decode cJ9_min_7cf53 2 = .ok (.if_icmp .gt 7, 3) := by decide +kernel
theorem dJ9_min_7cf53_5 : decode cJ9_min_7cf53 5 = .ok (.iload_n 0, 1) := by decide +kernel
theorem dJ9_min_7cf53_6 : decode cJ9_min_7cf53 6 = .ok (.goto 4, 3) := by decide +kernel
theorem dJ9_min_7cf53_9 : decode cJ9_min_7cf53 9 = .ok (.iload_n 1, 1) := by decide +kernel
theorem dJ9_min_7cf53_10 : decode cJ9_min_7cf53 10 = .ok (.ireturn, 1) := by decide +kernel
theorem dL_law_0 : decode cL_law 0 = .ok (.new 7, 3) := by decide +kernel
theorem dL_law_3 : decode cL_law 3 = .ok (.dup, 1) := by decide +kernel
theorem dL_law_4 : decode cL_law 4 = .ok (.invokespecial 9, 3) := by decide +kernel
theorem dL_law_7 : decode cL_law 7 = .ok (.astore_n 1, 1) := by decide +kernel
theorem dL_law_8 : decode cL_law 8 = .ok (.new 10, 3) := by decide +kernel
theorem dL_law_11 : decode cL_law 11 = .ok (.dup, 1) := by decide +kernel
theorem dL_law_12 : decode cL_law 12 = .ok (.invokespecial 12, 3) := by decide +kernel
theorem dL_law_15 : decode cL_law 15 = .ok (.astore_n 2, 1) := by decide +kernel
theorem dL_law_16 : decode cL_law 16 = .ok (.iconst 0, 1) := by decide +kernel
theorem dL_law_17 : decode cL_law 17 = .ok (.istore_n 3, 1) := by decide +kernel
theorem dL_law_18 : decode cL_law 18 = .ok (.iload_n 3, 1) := by decide +kernel
theorem dL_law_19 : decode cL_law 19 = .ok (.aload_n 0, 1) := by decide +kernel
theorem dL_law_20 : decode cL_law 20 = .ok (.arraylength, 1) := by decide +kernel
theorem dL_law_21 : decode cL_law 21 = .ok (.iconst 3, 1) := by decide +kernel
theorem dL_law_22 : decode cL_law 22 = .ok (.isub, 1) := by decide +kernel
theorem dL_law_23 : decode cL_law 23 = .ok (.if_icmp .gt 416, 3) := by decide +kernel
theorem dL_law_26 : decode cL_law 26 = .ok (.aload_n 0, 1) := by decide +kernel
theorem dL_law_27 : decode cL_law 27 = .ok (.iload_n 3, 1) := by decide +kernel
theorem dL_law_28 : decode cL_law 28 = .ok (.iaload, 1) := by decide +kernel
theorem dL_law_29 : decode cL_law 29 = .ok (.bipush 31, 2) := by decide +kernel
theorem dL_law_31 : decode cL_law 31 = .ok (.iand, 1) := by decide +kernel
theorem dL_law_32 : decode cL_law 32 = .ok (.tableswitch 401 0 16 #[84, 95, 106, 139, 162, 185, 198, 211, 244, 267, 280, 293, 306, 319, 342, 355, 378], 84) := by decide +kernel
theorem dL_law_116 : decode cL_law 116 = .ok (.aload_n 1, 1) := by decide +kernel
theorem dL_law_117 : decode cL_law 117 = .ok (.invokevirtual 13, 3) := by decide +kernel
theorem dL_law_120 : decode cL_law 120 = .ok (.aload_n 2, 1) := by decide +kernel
theorem dL_law_121 : decode cL_law 121 = .ok (.invokevirtual 16, 3) := by decide +kernel
theorem dL_law_124 : decode cL_law 124 = .ok (.goto 309, 3) := by decide +kernel
theorem dL_law_127 : decode cL_law 127 = .ok (.aload_n 1, 1) := by decide +kernel
theorem dL_law_128 : decode cL_law 128 = .ok (.invokevirtual 17, 3) := by decide +kernel
theorem dL_law_131 : decode cL_law 131 = .ok (.aload_n 2, 1) := by decide +kernel
theorem dL_law_132 : decode cL_law 132 = .ok (.invokevirtual 20, 3) := by decide +kernel
theorem dL_law_135 : decode cL_law 135 = .ok (.goto 298, 3) := by decide +kernel
theorem dL_law_138 : decode cL_law 138 = .ok (.aload_n 1, 1) := by decide +kernel
theorem dL_law_139 : decode cL_law 139 = .ok (.aload_n 0, 1) := by decide +kernel
theorem dL_law_140 : decode cL_law 140 = .ok (.iload_n 3, 1) := by decide +kernel
theorem dL_law_141 : decode cL_law 141 = .ok (.iconst 1, 1) := by decide +kernel
theorem dL_law_142 : decode cL_law 142 = .ok (.iadd, 1) := by decide +kernel
theorem dL_law_143 : decode cL_law 143 = .ok (.iaload, 1) := by decide +kernel
theorem dL_law_144 : decode cL_law 144 = .ok (.aload_n 0, 1) := by decide +kernel
theorem dL_law_145 : decode cL_law 145 = .ok (.iload_n 3, 1) := by decide +kernel
theorem dL_law_146 : decode cL_law 146 = .ok (.iconst 2, 1) := by decide +kernel
theorem dL_law_147 : decode cL_law 147 = .ok (.iadd, 1) := by decide +kernel
theorem dL_law_148 : decode cL_law 148 = .ok (.iaload, 1) := by decide +kernel
theorem dL_law_149 : decode cL_law 149 = .ok (.invokevirtual 21, 3) := by decide +kernel
theorem dL_law_152 : decode cL_law 152 = .ok (.aload_n 2, 1) := by decide +kernel
theorem dL_law_153 : decode cL_law 153 = .ok (.aload_n 0, 1) := by decide +kernel
theorem dL_law_154 : decode cL_law 154 = .ok (.iload_n 3, 1) := by decide +kernel
theorem dL_law_155 : decode cL_law 155 = .ok (.iconst 1, 1) := by decide +kernel
theorem dL_law_156 : decode cL_law 156 = .ok (.iadd, 1) := by decide +kernel
theorem dL_law_157 : decode cL_law 157 = .ok (.iaload, 1) := by decide +kernel
theorem dL_law_158 : decode cL_law 158 = .ok (.aload_n 0, 1) := by decide +kernel
theorem dL_law_159 : decode cL_law 159 = .ok (.iload_n 3, 1) := by decide +kernel
theorem dL_law_160 : decode cL_law 160 = .ok (.iconst 2, 1) := by decide +kernel
theorem dL_law_161 : decode cL_law 161 = .ok (.iadd, 1) := by decide +kernel
theorem dL_law_162 : decode cL_law 162 = .ok (.iaload, 1) := by decide +kernel
theorem dL_law_163 : decode cL_law 163 = .ok (.invokevirtual 25, 3) := by decide +kernel
theorem dL_law_166 : decode cL_law 166 = .ok (.if_icmp .eq 267, 3) := by decide +kernel
theorem dL_law_169 : decode cL_law 169 = .ok (.iconst 0, 1) := by decide +kernel
theorem dL_law_170 : decode cL_law 170 = .ok (.ireturn, 1) := by decide +kernel
theorem dL_law_171 : decode cL_law 171 = .ok (.aload_n 1, 1) := by decide +kernel
theorem dL_law_172 : decode cL_law 172 = .ok (.aload_n 0, 1) := by decide +kernel
theorem dL_law_173 : decode cL_law 173 = .ok (.iload_n 3, 1) := by decide +kernel
theorem dL_law_174 : decode cL_law 174 = .ok (.iconst 1, 1) := by decide +kernel
theorem dL_law_175 : decode cL_law 175 = .ok (.iadd, 1) := by decide +kernel
theorem dL_law_176 : decode cL_law 176 = .ok (.iaload, 1) := by decide +kernel
theorem dL_law_177 : decode cL_law 177 = .ok (.invokevirtual 26, 3) := by decide +kernel
theorem dL_law_180 : decode cL_law 180 = .ok (.aload_n 2, 1) := by decide +kernel
theorem dL_law_181 : decode cL_law 181 = .ok (.aload_n 0, 1) := by decide +kernel
theorem dL_law_182 : decode cL_law 182 = .ok (.iload_n 3, 1) := by decide +kernel
theorem dL_law_183 : decode cL_law 183 = .ok (.iconst 1, 1) := by decide +kernel
theorem dL_law_184 : decode cL_law 184 = .ok (.iadd, 1) := by decide +kernel
theorem dL_law_185 : decode cL_law 185 = .ok (.iaload, 1) := by decide +kernel
theorem dL_law_186 : decode cL_law 186 = .ok (.invokevirtual 30, 3) := by decide +kernel
theorem dL_law_189 : decode cL_law 189 = .ok (.if_icmp .eq 244, 3) := by decide +kernel
theorem dL_law_192 : decode cL_law 192 = .ok (.iconst 0, 1) := by decide +kernel
theorem dL_law_193 : decode cL_law 193 = .ok (.ireturn, 1) := by decide +kernel
theorem dL_law_194 : decode cL_law 194 = .ok (.aload_n 1, 1) := by decide +kernel
theorem dL_law_195 : decode cL_law 195 = .ok (.aload_n 0, 1) := by decide +kernel
theorem dL_law_196 : decode cL_law 196 = .ok (.iload_n 3, 1) := by decide +kernel
theorem dL_law_197 : decode cL_law 197 = .ok (.iconst 1, 1) := by decide +kernel
theorem dL_law_198 : decode cL_law 198 = .ok (.iadd, 1) := by decide +kernel
theorem dL_law_199 : decode cL_law 199 = .ok (.iaload, 1) := by decide +kernel
theorem dL_law_200 : decode cL_law 200 = .ok (.invokevirtual 31, 3) := by decide +kernel
theorem dL_law_203 : decode cL_law 203 = .ok (.aload_n 2, 1) := by decide +kernel
theorem dL_law_204 : decode cL_law 204 = .ok (.aload_n 0, 1) := by decide +kernel
theorem dL_law_205 : decode cL_law 205 = .ok (.iload_n 3, 1) := by decide +kernel
theorem dL_law_206 : decode cL_law 206 = .ok (.iconst 1, 1) := by decide +kernel
theorem dL_law_207 : decode cL_law 207 = .ok (.iadd, 1) := by decide +kernel
theorem dL_law_208 : decode cL_law 208 = .ok (.iaload, 1) := by decide +kernel
theorem dL_law_209 : decode cL_law 209 = .ok (.invokevirtual 35, 3) := by decide +kernel
theorem dL_law_212 : decode cL_law 212 = .ok (.if_icmp .eq 221, 3) := by decide +kernel
theorem dL_law_215 : decode cL_law 215 = .ok (.iconst 0, 1) := by decide +kernel
theorem dL_law_216 : decode cL_law 216 = .ok (.ireturn, 1) := by decide +kernel
theorem dL_law_217 : decode cL_law 217 = .ok (.aload_n 1, 1) := by decide +kernel
theorem dL_law_218 : decode cL_law 218 = .ok (.invokevirtual 36, 3) := by decide +kernel
theorem dL_law_221 : decode cL_law 221 = .ok (.aload_n 2, 1) := by decide +kernel
theorem dL_law_222 : decode cL_law 222 = .ok (.invokevirtual 40, 3) := by decide +kernel
theorem dL_law_225 : decode cL_law 225 = .ok (.if_icmp .eq 208, 3) := by decide +kernel
theorem dL_law_228 : decode cL_law 228 = .ok (.iconst 0, 1) := by decide +kernel
theorem dL_law_229 : decode cL_law 229 = .ok (.ireturn, 1) := by decide +kernel
theorem dL_law_230 : decode cL_law 230 = .ok (.aload_n 1, 1) := by decide +kernel
theorem dL_law_231 : decode cL_law 231 = .ok (.invokevirtual 41, 3) := by decide +kernel
theorem dL_law_234 : decode cL_law 234 = .ok (.aload_n 2, 1) := by decide +kernel
theorem dL_law_235 : decode cL_law 235 = .ok (.invokevirtual 44, 3) := by decide +kernel
theorem dL_law_238 : decode cL_law 238 = .ok (.if_icmp .eq 195, 3) := by decide +kernel
theorem dL_law_241 : decode cL_law 241 = .ok (.iconst 0, 1) := by decide +kernel
theorem dL_law_242 : decode cL_law 242 = .ok (.ireturn, 1) := by decide +kernel
theorem dL_law_243 : decode cL_law 243 = .ok (.aload_n 1, 1) := by decide +kernel
theorem dL_law_244 : decode cL_law 244 = .ok (.aload_n 0, 1) := by decide +kernel
theorem dL_law_245 : decode cL_law 245 = .ok (.iload_n 3, 1) := by decide +kernel
theorem dL_law_246 : decode cL_law 246 = .ok (.iconst 1, 1) := by decide +kernel
theorem dL_law_247 : decode cL_law 247 = .ok (.iadd, 1) := by decide +kernel
theorem dL_law_248 : decode cL_law 248 = .ok (.iaload, 1) := by decide +kernel
theorem dL_law_249 : decode cL_law 249 = .ok (.aload_n 0, 1) := by decide +kernel
theorem dL_law_250 : decode cL_law 250 = .ok (.iload_n 3, 1) := by decide +kernel
theorem dL_law_251 : decode cL_law 251 = .ok (.iconst 2, 1) := by decide +kernel
theorem dL_law_252 : decode cL_law 252 = .ok (.iadd, 1) := by decide +kernel
theorem dL_law_253 : decode cL_law 253 = .ok (.iaload, 1) := by decide +kernel
theorem dL_law_254 : decode cL_law 254 = .ok (.invokevirtual 45, 3) := by decide +kernel
theorem dL_law_257 : decode cL_law 257 = .ok (.aload_n 2, 1) := by decide +kernel
theorem dL_law_258 : decode cL_law 258 = .ok (.aload_n 0, 1) := by decide +kernel
theorem dL_law_259 : decode cL_law 259 = .ok (.iload_n 3, 1) := by decide +kernel
theorem dL_law_260 : decode cL_law 260 = .ok (.iconst 1, 1) := by decide +kernel
theorem dL_law_261 : decode cL_law 261 = .ok (.iadd, 1) := by decide +kernel
theorem dL_law_262 : decode cL_law 262 = .ok (.iaload, 1) := by decide +kernel
theorem dL_law_263 : decode cL_law 263 = .ok (.aload_n 0, 1) := by decide +kernel
theorem dL_law_264 : decode cL_law 264 = .ok (.iload_n 3, 1) := by decide +kernel
theorem dL_law_265 : decode cL_law 265 = .ok (.iconst 2, 1) := by decide +kernel
theorem dL_law_266 : decode cL_law 266 = .ok (.iadd, 1) := by decide +kernel
theorem dL_law_267 : decode cL_law 267 = .ok (.iaload, 1) := by decide +kernel
theorem dL_law_268 : decode cL_law 268 = .ok (.invokevirtual 49, 3) := by decide +kernel
theorem dL_law_271 : decode cL_law 271 = .ok (.if_icmp .eq 162, 3) := by decide +kernel
theorem dL_law_274 : decode cL_law 274 = .ok (.iconst 0, 1) := by decide +kernel
theorem dL_law_275 : decode cL_law 275 = .ok (.ireturn, 1) := by decide +kernel
theorem dL_law_276 : decode cL_law 276 = .ok (.aload_n 1, 1) := by decide +kernel
theorem dL_law_277 : decode cL_law 277 = .ok (.aload_n 0, 1) := by decide +kernel
theorem dL_law_278 : decode cL_law 278 = .ok (.iload_n 3, 1) := by decide +kernel
theorem dL_law_279 : decode cL_law 279 = .ok (.iconst 1, 1) := by decide +kernel
theorem dL_law_280 : decode cL_law 280 = .ok (.iadd, 1) := by decide +kernel
theorem dL_law_281 : decode cL_law 281 = .ok (.iaload, 1) := by decide +kernel
theorem dL_law_282 : decode cL_law 282 = .ok (.invokevirtual 50, 3) := by decide +kernel
theorem dL_law_285 : decode cL_law 285 = .ok (.aload_n 2, 1) := by decide +kernel
theorem dL_law_286 : decode cL_law 286 = .ok (.aload_n 0, 1) := by decide +kernel
theorem dL_law_287 : decode cL_law 287 = .ok (.iload_n 3, 1) := by decide +kernel
theorem dL_law_288 : decode cL_law 288 = .ok (.iconst 1, 1) := by decide +kernel
theorem dL_law_289 : decode cL_law 289 = .ok (.iadd, 1) := by decide +kernel
theorem dL_law_290 : decode cL_law 290 = .ok (.iaload, 1) := by decide +kernel
theorem dL_law_291 : decode cL_law 291 = .ok (.invokevirtual 53, 3) := by decide +kernel
theorem dL_law_294 : decode cL_law 294 = .ok (.if_icmp .eq 139, 3) := by decide +kernel
theorem dL_law_297 : decode cL_law 297 = .ok (.iconst 0, 1) := by decide +kernel
theorem dL_law_298 : decode cL_law 298 = .ok (.ireturn, 1) := by decide +kernel
theorem dL_law_299 : decode cL_law 299 = .ok (.aload_n 1, 1) := by decide +kernel
theorem dL_law_300 : decode cL_law 300 = .ok (.invokevirtual 54, 3) := by decide +kernel
theorem dL_law_303 : decode cL_law 303 = .ok (.aload_n 2, 1) := by decide +kernel
theorem dL_law_304 : decode cL_law 304 = .ok (.invokevirtual 58, 3) := by decide +kernel
theorem dL_law_307 : decode cL_law 307 = .ok (.if_icmp .eq 126, 3) := by decide +kernel
theorem dL_law_310 : decode cL_law 310 = .ok (.iconst 0, 1) := by decide +kernel
theorem dL_law_311 : decode cL_law 311 = .ok (.ireturn, 1) := by decide +kernel
theorem dL_law_312 : decode cL_law 312 = .ok (.aload_n 1, 1) := by decide +kernel
theorem dL_law_313 : decode cL_law 313 = .ok (.invokevirtual 59, 3) := by decide +kernel
theorem dL_law_316 : decode cL_law 316 = .ok (.aload_n 2, 1) := by decide +kernel
theorem dL_law_317 : decode cL_law 317 = .ok (.invokevirtual 62, 3) := by decide +kernel
theorem dL_law_320 : decode cL_law 320 = .ok (.if_icmp .eq 113, 3) := by decide +kernel
theorem dL_law_323 : decode cL_law 323 = .ok (.iconst 0, 1) := by decide +kernel
theorem dL_law_324 : decode cL_law 324 = .ok (.ireturn, 1) := by decide +kernel
theorem dL_law_325 : decode cL_law 325 = .ok (.aload_n 1, 1) := by decide +kernel
theorem dL_law_326 : decode cL_law 326 = .ok (.invokevirtual 63, 3) := by decide +kernel
theorem dL_law_329 : decode cL_law 329 = .ok (.aload_n 2, 1) := by decide +kernel
theorem dL_law_330 : decode cL_law 330 = .ok (.invokevirtual 66, 3) := by decide +kernel
theorem dL_law_333 : decode cL_law 333 = .ok (.if_icmp .eq 100, 3) := by decide +kernel
theorem dL_law_336 : decode cL_law 336 = .ok (.iconst 0, 1) := by decide +kernel
theorem dL_law_337 : decode cL_law 337 = .ok (.ireturn, 1) := by decide +kernel
theorem dL_law_338 : decode cL_law 338 = .ok (.aload_n 1, 1) := by decide +kernel
theorem dL_law_339 : decode cL_law 339 = .ok (.invokevirtual 67, 3) := by decide +kernel
theorem dL_law_342 : decode cL_law 342 = .ok (.aload_n 2, 1) := by decide +kernel
theorem dL_law_343 : decode cL_law 343 = .ok (.invokevirtual 70, 3) := by decide +kernel
theorem dL_law_346 : decode cL_law 346 = .ok (.if_icmp .eq 87, 3) := by decide +kernel
theorem dL_law_349 : decode cL_law 349 = .ok (.iconst 0, 1) := by decide +kernel
theorem dL_law_350 : decode cL_law 350 = .ok (.ireturn, 1) := by decide +kernel
theorem dL_law_351 : decode cL_law 351 = .ok (.aload_n 1, 1) := by decide +kernel
theorem dL_law_352 : decode cL_law 352 = .ok (.aload_n 0, 1) := by decide +kernel
theorem dL_law_353 : decode cL_law 353 = .ok (.iload_n 3, 1) := by decide +kernel
theorem dL_law_354 : decode cL_law 354 = .ok (.iconst 1, 1) := by decide +kernel
theorem dL_law_355 : decode cL_law 355 = .ok (.iadd, 1) := by decide +kernel
theorem dL_law_356 : decode cL_law 356 = .ok (.iaload, 1) := by decide +kernel
theorem dL_law_357 : decode cL_law 357 = .ok (.invokevirtual 71, 3) := by decide +kernel
theorem dL_law_360 : decode cL_law 360 = .ok (.aload_n 2, 1) := by decide +kernel
theorem dL_law_361 : decode cL_law 361 = .ok (.aload_n 0, 1) := by decide +kernel
theorem dL_law_362 : decode cL_law 362 = .ok (.iload_n 3, 1) := by decide +kernel
theorem dL_law_363 : decode cL_law 363 = .ok (.iconst 1, 1) := by decide +kernel
theorem dL_law_364 : decode cL_law 364 = .ok (.iadd, 1) := by decide +kernel
theorem dL_law_365 : decode cL_law 365 = .ok (.iaload, 1) := by decide +kernel
theorem dL_law_366 : decode cL_law 366 = .ok (.invokevirtual 74, 3) := by decide +kernel
theorem dL_law_369 : decode cL_law 369 = .ok (.if_icmp .eq 64, 3) := by decide +kernel
theorem dL_law_372 : decode cL_law 372 = .ok (.iconst 0, 1) := by decide +kernel
theorem dL_law_373 : decode cL_law 373 = .ok (.ireturn, 1) := by decide +kernel
theorem dL_law_374 : decode cL_law 374 = .ok (.aload_n 1, 1) := by decide +kernel
theorem dL_law_375 : decode cL_law 375 = .ok (.invokevirtual 75, 3) := by decide +kernel
theorem dL_law_378 : decode cL_law 378 = .ok (.aload_n 2, 1) := by decide +kernel
theorem dL_law_379 : decode cL_law 379 = .ok (.invokevirtual 78, 3) := by decide +kernel
theorem dL_law_382 : decode cL_law 382 = .ok (.if_icmp .eq 51, 3) := by decide +kernel
theorem dL_law_385 : decode cL_law 385 = .ok (.iconst 0, 1) := by decide +kernel
theorem dL_law_386 : decode cL_law 386 = .ok (.ireturn, 1) := by decide +kernel
theorem dL_law_387 : decode cL_law 387 = .ok (.aload_n 1, 1) := by decide +kernel
theorem dL_law_388 : decode cL_law 388 = .ok (.aload_n 0, 1) := by decide +kernel
theorem dL_law_389 : decode cL_law 389 = .ok (.iload_n 3, 1) := by decide +kernel
theorem dL_law_390 : decode cL_law 390 = .ok (.iconst 1, 1) := by decide +kernel
theorem dL_law_391 : decode cL_law 391 = .ok (.iadd, 1) := by decide +kernel
theorem dL_law_392 : decode cL_law 392 = .ok (.iaload, 1) := by decide +kernel
theorem dL_law_393 : decode cL_law 393 = .ok (.invokevirtual 79, 3) := by decide +kernel
theorem dL_law_396 : decode cL_law 396 = .ok (.aload_n 2, 1) := by decide +kernel
theorem dL_law_397 : decode cL_law 397 = .ok (.aload_n 0, 1) := by decide +kernel
theorem dL_law_398 : decode cL_law 398 = .ok (.iload_n 3, 1) := by decide +kernel
theorem dL_law_399 : decode cL_law 399 = .ok (.iconst 1, 1) := by decide +kernel
theorem dL_law_400 : decode cL_law 400 = .ok (.iadd, 1) := by decide +kernel
theorem dL_law_401 : decode cL_law 401 = .ok (.iaload, 1) := by decide +kernel
theorem dL_law_402 : decode cL_law 402 = .ok (.invokevirtual 82, 3) := by decide +kernel
theorem dL_law_405 : decode cL_law 405 = .ok (.if_icmp .eq 28, 3) := by decide +kernel
theorem dL_law_408 : decode cL_law 408 = .ok (.iconst 0, 1) := by decide +kernel
theorem dL_law_409 : decode cL_law 409 = .ok (.ireturn, 1) := by decide +kernel
theorem dL_law_410 : decode cL_law 410 = .ok (.aload_n 1, 1) := by decide +kernel
theorem dL_law_411 : decode cL_law 411 = .ok (.aload_n 0, 1) := by decide +kernel
theorem dL_law_412 : decode cL_law 412 = .ok (.iload_n 3, 1) := by decide +kernel
theorem dL_law_413 : decode cL_law 413 = .ok (.iconst 1, 1) := by decide +kernel
theorem dL_law_414 : decode cL_law 414 = .ok (.iadd, 1) := by decide +kernel
theorem dL_law_415 : decode cL_law 415 = .ok (.iaload, 1) := by decide +kernel
theorem dL_law_416 : decode cL_law 416 = .ok (.invokevirtual 83, 3) := by decide +kernel
theorem dL_law_419 : decode cL_law 419 = .ok (.aload_n 2, 1) := by decide +kernel
theorem dL_law_420 : decode cL_law 420 = .ok (.aload_n 0, 1) := by decide +kernel
theorem dL_law_421 : decode cL_law 421 = .ok (.iload_n 3, 1) := by decide +kernel
theorem dL_law_422 : decode cL_law 422 = .ok (.iconst 1, 1) := by decide +kernel
theorem dL_law_423 : decode cL_law 423 = .ok (.iadd, 1) := by decide +kernel
theorem dL_law_424 : decode cL_law 424 = .ok (.iaload, 1) := by decide +kernel
theorem dL_law_425 : decode cL_law 425 = .ok (.invokevirtual 86, 3) := by decide +kernel
theorem dL_law_428 : decode cL_law 428 = .ok (.if_icmp .eq 5, 3) := by decide +kernel
theorem dL_law_431 : decode cL_law 431 = .ok (.iconst 0, 1) := by decide +kernel
theorem dL_law_432 : decode cL_law 432 = .ok (.ireturn, 1) := by decide +kernel
theorem dL_law_433 : decode cL_law 433 = .ok (.iinc 3 3, 3) := by decide +kernel
theorem dL_law_436 : decode cL_law 436 = .ok (.goto (-418), 3) := by decide +kernel
theorem dL_law_439 : decode cL_law 439 = .ok (.iconst 1, 1) := by decide +kernel
theorem dL_law_440 : decode cL_law 440 = .ok (.ireturn, 1) := by decide +kernel
abbrev vwCl : List vw_C := [(RX0, TX0, 3), (RX1, TX1, 2), (RX2, TX2, 5), (RX3, TX3, 2), (RX4, TX4, 8), (RX5, TX5, 20)]
end
section
/-! The memory: one pool; L holds the addresses, M says what stands at each. Array classes: dA 0 int, 1 byte, 2 short, 3 boolean, 4 Position, 5 MoveList. -/
abbrev mm_M : Type := Nat → va_E
/-- no address stands twice -/
def mm_nd (L : List Nat) : Prop := ∀ (i j a : Nat), L[i]? = some a → L[j]? = some a → i = j
def mm_tys (dA : Nat → ClassId) : List (ClassId × FieldType) := [(dA 0, .int), (dA 1, .byte), (dA 2, .short), (dA 3, .boolean), (dA 4, .object "JumpBoard$Position"), (dA 5, .object "JumpBoard$MoveList")]
def mm_N (U : State) : Prop := va_Nw (.methodLinkNest RX0 24 yX1_init RX4) U ∧ va_Nw (.methodLinkNest RX0 27 yX2_init RX4) U ∧ va_Nw (.methodLinkNest RX4 32 yX1_init RX4) U ∧ va_Nw (.methodLinkNest RX4 37 yX2_init RX4) U ∧ va_AO "JumpBoard$Position" U ∧ va_AO "JumpBoard$MoveList" U
def mm_K (D : va_G) (dA : Nat → ClassId) (U : State) : Prop := va_K D vwCl (mm_tys dA) U ∧ mm_N U
theorem mm_K.warm {D : va_G} {dA : Nat → ClassId} {s U : State} (hW : s.WarmedH U.vm) (h : mm_K D dA s) : mm_K D dA U :=
  ⟨va_K.moved hW.alike h.1, va_Nw.warmM hW h.2.1, va_Nw.warmM hW h.2.2.1, va_Nw.warmM hW h.2.2.2.1, va_Nw.warmM hW h.2.2.2.2.1, va_AO.moved hW.alike h.2.2.2.2.2.1, va_AO.moved hW.alike h.2.2.2.2.2.2⟩
def mm_A (L : List Nat) (sz : Nat) : Nat → Prop := fun q => q ∈ L ∨ sz ≤ q
/-- the world in a walk: the pool, apart, inside A; nothing else has changed since s -/
def mm_V (A : Nat → Prop) (D : va_G) (L : List Nat) (M : mm_M) (s : State) (H : Heap) (locs : List Loc) : Prop :=
  va_P D vwCl (va_pl L M) H ∧ mm_nd L ∧ (∀ a ∈ L, A a) ∧ va_S A s.heap H locs ∧ (∀ q, s.heap.size ≤ q → A q)
def mm_B (D : va_G) (dA : Nat → ClassId) (L : List Nat) (M : mm_M) (sz : Nat) (U : State) : Prop :=
  U.heap.size = sz ∧ va_P D vwCl (va_pl L M) U.heap ∧ mm_nd L ∧ mm_K D dA U
def mm_rm (k mc ms : Nat) : Room := { frames := k, cells := mc, slots := ms, locals := 40 * k }
def mm_Eb (D : va_G) (A : Nat → Prop) (u : List Nat × mm_M) (t : State) : Prop := va_P D vwCl (va_pl u.1 u.2) t.heap ∧ mm_nd u.1 ∧ ∀ a ∈ u.1, A a
def mm_Qi (D : va_G) (A : Nat → Prop) (post : Int32 → List Nat → mm_M → Prop) : Array Value → State → Outcome → State → Prop := va_Qi (S := List Nat × mm_M) (fun r u => post r u.1 u.2) (mm_Eb D A) A
def mm_Qv (D : va_G) (A : Nat → Prop) (post : List Nat → mm_M → Prop) : Array Value → State → Outcome → State → Prop := va_Qv (S := List Nat × mm_M) (fun u => post u.1 u.2) (mm_Eb D A) A
/-- contracts: a method that answers an int (or a boolean), one that answers nothing; k its level (frames, locals), mc cells of ms slots may come -/
def mm_Ci (l : Launch) (D : va_G) (dA : Nat → ClassId) (y : MethodName) (ws : List Cond) (k mc ms : Nat) (av : List Value) (L : List Nat) (M : mm_M) (post : Int32 → List Nat → mm_M → Prop) : Prop :=
  ∀ sz, Met l y ws (mm_rm k mc ms) (va_Pc av (mm_B D dA L M sz)) (mm_Qi D (mm_A L sz) post) mc ms (mm_A L sz)
def mm_Cv (l : Launch) (D : va_G) (dA : Nat → ClassId) (y : MethodName) (ws : List Cond) (k mc ms : Nat) (av : List Value) (L : List Nat) (M : mm_M) (post : List Nat → mm_M → Prop) : Prop :=
  ∀ sz, Met l y ws (mm_rm k mc ms) (va_Pc av (mm_B D dA L M sz)) (mm_Qv D (mm_A L sz) post) mc ms (mm_A L sz)
theorem mm_plfst (L : List Nat) (M : mm_M) (i : Nat) : (va_pl L M)[i]? = L[i]?.map (fun a => (a, M a)) := by simp [va_pl]
theorem mm_D {A : Nat → Prop} {L : List Nat} (M : mm_M) (hn : mm_nd L) (hA : ∀ a ∈ L, A a) : va_D A (va_pl L M) := by
  refine ⟨fun i j p q hi hj e => ?_, fun k q hk => ?_⟩
  · rw [mm_plfst] at hi hj
    cases h1 : L[i]? with
    | none => rw [h1] at hi; cases hi
    | some a =>
      cases h2 : L[j]? with
      | none => rw [h2] at hj; cases hj
      | some b =>
        rw [h1] at hi; rw [h2] at hj
        cases hi; cases hj
        cases (show a = b from e)
        exact hn i j a h1 h2
  · rw [mm_plfst] at hk
    cases h1 : L[k]? with
    | none => rw [h1] at hk; cases hk
    | some a =>
      rw [h1] at hk; cases hk
      exact hA a (List.mem_of_getElem? h1)
theorem mm_D_nodup {A : Nat → Prop} {L : List Nat} {M : mm_M} (h : va_D A (va_pl L M)) : mm_nd L := by
  intro i j a hi hj
  have e1 : (va_pl L M)[i]? = some (a, M a) := by rw [mm_plfst, hi]; rfl
  have e2 : (va_pl L M)[j]? = some (a, M a) := by rw [mm_plfst, hj]; rfl
  exact h.1 i j _ _ e1 e2 rfl
theorem mm_D_in {A : Nat → Prop} {L : List Nat} {M : mm_M} (h : va_D A (va_pl L M)) : ∀ a ∈ L, A a := by
  intro a ha
  obtain ⟨k, hk⟩ := va_pl_get (X := []) (f := M) ha
  exact h.2 k _ hk
theorem mm_V.D {A : Nat → Prop} {D : va_G} {L : List Nat} {M : mm_M} {s : State} {H : Heap} {locs : List Loc} (h : mm_V A D L M s H locs) : va_D A (va_pl L M) := mm_D M h.2.1 h.2.2.1
theorem mm_get_k {L : List Nat} {M : mm_M} {a : Nat} {x : va_E} (ha : a ∈ L) (he : M a = x) : ∃ k : Nat, (va_pl L M)[k]? = some (a, x) := by
  obtain ⟨k, hk⟩ := va_pl_get (X := []) (f := M) ha
  exact ⟨k, by rw [he] at hk; exact hk⟩
section MMR
variable {p : Program} {l : Launch} {e : Env} {R : Room} {s : State} {m : MethodId} {args : Array Value} {below : List Frame} {meth : Method} {c : Code} {H : Heap} {locs : List Loc} {cells slots : Nat} {Q : State → Prop}
variable {cc : ByteArray} {pc : Nat} {ls : Array Slot} {rest : List Value} {D : va_G} {dA : Nat → ClassId} {A : Nat → Prop} {a : Nat} {L : List Nat} {M : mm_M}
theorem mm_set {k : Nat} {x y : va_E} {A : Nat → Prop} (hn : mm_nd L) (hA : ∀ a ∈ L, A a) (ha : a ∈ L) (he : M a = x) (hk : (va_pl L M)[k]? = some (a, x)) : (va_pl L M).set k (a, y) = va_pl L (va_up M a y) := by
  have h := va_pl_set (X := []) (e := y) (mm_D M hn hA) ha (by rw [List.nil_append, he]; exact hk)
  simpa using h
/-- getfield -/
theorem mm_get (hexec : p.tables.exec = Jvm.exec) (hb : c.code = cc) {own ref C : String} {T : u_T} {N ci index : Nat} {Ts : List Cond} (hts : ∀ w ∈ Ts, w.before args s = true) (hin : ∀ w ∈ u_ws C T N, w ∈ Ts) (hown : s.vm.findClass own = some m.cls) (hK : mm_K D dA s) (hV : mm_V A D L M s H locs) {fs : List Value} (ha : a ∈ L) (he : M a = .inr (ci, fs)) (hc : vwCl[ci]? = some (C, T, N)) (k : Nat) (hk : k < N) (hlink : (Cond.fieldLink own index ref (T k).2.1 (T k).2.2.1).before args s = true) (hsame : ∀ x, s.fieldFound? (T k).1 (T k).2.1 (T k).2.2.1 = some x → s.fieldFound? ref (T k).2.1 (T k).2.2.1 = some x) {v : Value} (hv : fs[k]? = some v) (hdg : decode cc pc = .ok (.getfield index, 3))
    (kk : W p l e R s m args below meth c H locs cells slots Q (F0 m (pc + 3) ls (v :: rest))) : W p l e R s m args below meth c H locs cells slots Q (F0 m pc ls (.ref a :: rest)) := by
  obtain ⟨q, hq⟩ := mm_get_k ha he
  exact va_get hexec hb hts hin hown hK.1 hV.1 q hq hc k hk hlink hsame hv hdg kk
/-- putfield -/
theorem mm_put (hexec : p.tables.exec = Jvm.exec) (hb : c.code = cc) {own ref C : String} {T : u_T} {N ci index : Nat} {Ts : List Cond} (hts : ∀ w ∈ Ts, w.before args s = true) (hin : ∀ w ∈ u_ws C T N, w ∈ Ts) (ty0 : Nat → FieldType) (hty : ∀ k, k < N → parseFieldDescriptor (T k).2.2.1 = some (ty0 k)) (hnm : ∀ a, a < N → ∀ b, b < N → a ≠ b → (T a).2.1 ≠ (T b).2.1) (hown : s.vm.findClass own = some m.cls) (hK : mm_K D dA s) (hV : mm_V A D L M s H locs) {fs : List Value} (ha : a ∈ L) (he : M a = .inr (ci, fs)) (hc : vwCl[ci]? = some (C, T, N)) (k : Nat) (hk : k < N) (hlink : (Cond.fieldLink own index ref (T k).2.1 (T k).2.2.1).before args s = true) (hsame : ∀ x, s.fieldFound? (T k).1 (T k).2.1 (T k).2.2.1 = some x → s.fieldFound? ref (T k).2.1 (T k).2.2.1 = some x) (hfin : (T k).2.2.2 = false) {ty : FieldType} {v : Value} (hd : parseFieldDescriptor (T k).2.2.1 = some ty) (hn : narrow ty v = v) (hfit : fits ty v = true) (hl : k < fs.length) {fs' : List Value} (hfs : fs.set k v = fs')
    (hdg : decode cc pc = .ok (.putfield index, 3)) (kk : ∀ (M1 : mm_M) (H1 : Heap) (locs1 : List Loc), M1 = va_up M a (.inr (ci, fs')) → mm_V A D L M1 s H1 locs1 → W p l e R s m args below meth c H1 locs1 cells slots Q (F0 m (pc + 3) ls rest)) : W p l e R s m args below meth c H locs cells slots Q (F0 m pc ls (v :: .ref a :: rest)) := by
  obtain ⟨q, hq⟩ := mm_get_k ha he
  refine va_put hexec hb hts hin ty0 hty hnm hown hK.1 hV.1 hV.D hV.2.2.2.1 q hq hc k hk hlink hsame hfin hd hn hfit hl hdg (fun H1 locs1 h1 _ h3 => kk _ H1 locs1 rfl ?_)
  rw [mm_set hV.2.1 hV.2.2.1 ha he hq, hfs] at h1
  exact ⟨h1, hV.2.1, hV.2.2.1, h3, hV.2.2.2.2⟩
theorem mm_putF (hexec : p.tables.exec = Jvm.exec) (hb : c.code = cc) {own ref C : String} {T : u_T} {N ci index : Nat} {Ts : List Cond} (hts : ∀ w ∈ Ts, w.before args s = true) (hin : ∀ w ∈ u_ws C T N, w ∈ Ts) (ty0 : Nat → FieldType) (hty : ∀ k, k < N → parseFieldDescriptor (T k).2.2.1 = some (ty0 k)) (hnm : ∀ a, a < N → ∀ b, b < N → a ≠ b → (T a).2.1 ≠ (T b).2.1) (hown : s.vm.findClass own = some m.cls) (hK : mm_K D dA s) (hV : mm_V A D L M s H locs) {fs : List Value} (ha : a ∈ L) (he : M a = .inr (ci, fs)) (hc : vwCl[ci]? = some (C, T, N)) (k : Nat) (hk : k < N) (hlink : (Cond.fieldLink own index ref (T k).2.1 (T k).2.2.1).before args s = true) (hsame : ∀ x, s.fieldFound? (T k).1 (T k).2.1 (T k).2.2.1 = some x → s.fieldFound? ref (T k).2.1 (T k).2.2.1 = some x) (hfin : (T k).2.2.2 = true) (hin2 : meth.name = "<init>") (hdecl : (T k).1 = own) {ty : FieldType} {v : Value} (hd : parseFieldDescriptor (T k).2.2.1 = some ty) (hn : narrow ty v = v) (hfit : fits ty v = true) (hl : k < fs.length) {fs' : List Value} (hfs : fs.set k v = fs')
    (hdg : decode cc pc = .ok (.putfield index, 3)) (kk : ∀ (M1 : mm_M) (H1 : Heap) (locs1 : List Loc), M1 = va_up M a (.inr (ci, fs')) → mm_V A D L M1 s H1 locs1 → W p l e R s m args below meth c H1 locs1 cells slots Q (F0 m (pc + 3) ls rest)) : W p l e R s m args below meth c H locs cells slots Q (F0 m pc ls (v :: .ref a :: rest)) := by
  obtain ⟨q, hq⟩ := mm_get_k ha he
  refine va_putF hexec hb hts hin ty0 hty hnm hown hK.1 hV.1 hV.D hV.2.2.2.1 q hq hc k hk hlink hsame hfin hin2 hdecl hd hn hfit hl hdg (fun H1 locs1 h1 _ h3 => kk _ H1 locs1 rfl ?_)
  rw [mm_set hV.2.1 hV.2.2.1 ha he hq, hfs] at h1
  exact ⟨h1, hV.2.1, hV.2.2.1, h3, hV.2.2.2.2⟩
/-- array loads -/
theorem mm_iald (hexec : p.tables.exec = Jvm.exec) (hb : c.code = cc) (hK : mm_K D dA s) (hV : mm_V A D L M s H locs) {n : Nat} {f : Nat → Int32} (ha : a ∈ L) (he : M a = .inl (dA 0, n, .inl f)) {i : Int32} (hin : vp_in i n) (hdg : decode cc pc = .ok (.iaload, 1))
    (kk : W p l e R s m args below meth c H locs cells slots Q (F0 m (pc + 1) ls (.int (f i.toNatClampNeg) :: rest))) : W p l e R s m args below meth c H locs cells slots Q (F0 m pc ls (.int i :: .ref a :: rest)) := by
  obtain ⟨q, hq⟩ := mm_get_k ha he
  exact va_iald hexec hb hK.1 hV.1 q 0 hq rfl hin hdg kk
theorem mm_bald (hexec : p.tables.exec = Jvm.exec) (hb : c.code = cc) (hK : mm_K D dA s) (hV : mm_V A D L M s H locs) {n : Nat} {f : Nat → Int32} (ha : a ∈ L) (he : M a = .inl (dA 1, n, .inl f)) {i : Int32} (hin : vp_in i n) (hdg : decode cc pc = .ok (.baload, 1))
    (kk : W p l e R s m args below meth c H locs cells slots Q (F0 m (pc + 1) ls (.int (f i.toNatClampNeg) :: rest))) : W p l e R s m args below meth c H locs cells slots Q (F0 m pc ls (.int i :: .ref a :: rest)) := by
  obtain ⟨q, hq⟩ := mm_get_k ha he
  exact va_bald hexec hb hK.1 hV.1 q 1 hq rfl hin hdg kk
theorem mm_sald (hexec : p.tables.exec = Jvm.exec) (hb : c.code = cc) (hK : mm_K D dA s) (hV : mm_V A D L M s H locs) {n : Nat} {f : Nat → Int32} (ha : a ∈ L) (he : M a = .inl (dA 2, n, .inl f)) {i : Int32} (hin : vp_in i n) (hdg : decode cc pc = .ok (.saload, 1))
    (kk : W p l e R s m args below meth c H locs cells slots Q (F0 m (pc + 1) ls (.int (f i.toNatClampNeg) :: rest))) : W p l e R s m args below meth c H locs cells slots Q (F0 m pc ls (.int i :: .ref a :: rest)) := by
  obtain ⟨q, hq⟩ := mm_get_k ha he
  exact va_sald hexec hb hK.1 hV.1 q 2 hq rfl hin hdg kk
theorem mm_zald (hexec : p.tables.exec = Jvm.exec) (hb : c.code = cc) (hK : mm_K D dA s) (hV : mm_V A D L M s H locs) {n : Nat} {f : Nat → Int32} (ha : a ∈ L) (he : M a = .inl (dA 3, n, .inl f)) {i : Int32} (hin : vp_in i n) (hdg : decode cc pc = .ok (.baload, 1))
    (kk : W p l e R s m args below meth c H locs cells slots Q (F0 m (pc + 1) ls (.int (f i.toNatClampNeg) :: rest))) : W p l e R s m args below meth c H locs cells slots Q (F0 m pc ls (.int i :: .ref a :: rest)) := by
  obtain ⟨q, hq⟩ := mm_get_k ha he
  exact va_zald hexec hb hK.1 hV.1 q 3 hq rfl hin hdg kk
/-- aaload: t = 4 Position, 5 MoveList -/
theorem mm_aald (hexec : p.tables.exec = Jvm.exec) (hb : c.code = cc) (hK : mm_K D dA s) (hV : mm_V A D L M s H locs) (t : Nat) {C : String} {n : Nat} {f : Nat → Option Nat} (ha : a ∈ L) (he : M a = .inl (dA t, n, .inr (.inr (.inr (.inr f))))) (ht : (mm_tys dA)[t]? = some (dA t, .object C)) {i : Int32} (hin : vp_in i n) {b : Nat} (hb2 : f i.toNatClampNeg = some b) (hdg : decode cc pc = .ok (.aaload, 1))
    (kk : W p l e R s m args below meth c H locs cells slots Q (F0 m (pc + 1) ls (.ref b :: rest))) : W p l e R s m args below meth c H locs cells slots Q (F0 m pc ls (.int i :: .ref a :: rest)) := by
  obtain ⟨q, hq⟩ := mm_get_k ha he
  exact va_aldq hexec hb hK.1 hV.1 q t hq ht hin hdg (by rw [hb2]; exact kk)
/-- array stores -/
theorem mm_iast (hexec : p.tables.exec = Jvm.exec) (hb : c.code = cc) (hK : mm_K D dA s) (hV : mm_V A D L M s H locs) {n : Nat} {f : Nat → Int32} (ha : a ∈ L) (he : M a = .inl (dA 0, n, .inl f)) {i x : Int32} (hin : vp_in i n) (hdg : decode cc pc = .ok (.iastore, 1))
    (kk : ∀ (H1 : Heap) (locs1 : List Loc), mm_V A D L (va_up M a (.inl (dA 0, n, .inl (upd f i.toNatClampNeg x)))) s H1 locs1 → W p l e R s m args below meth c H1 locs1 cells slots Q (F0 m (pc + 1) ls rest)) : W p l e R s m args below meth c H locs cells slots Q (F0 m pc ls (.int x :: .int i :: .ref a :: rest)) := by
  obtain ⟨q, hq⟩ := mm_get_k ha he
  refine va_iast hexec hb hK.1 hV.1 hV.D hV.2.2.2.1 q 0 hq rfl hin hdg (fun H1 locs1 h1 _ h3 => kk H1 locs1 ?_)
  rw [mm_set hV.2.1 hV.2.2.1 ha he hq] at h1
  exact ⟨h1, hV.2.1, hV.2.2.1, h3, hV.2.2.2.2⟩
theorem mm_bast (hexec : p.tables.exec = Jvm.exec) (hb : c.code = cc) (hK : mm_K D dA s) (hV : mm_V A D L M s H locs) {n : Nat} {f : Nat → Int32} (ha : a ∈ L) (he : M a = .inl (dA 1, n, .inl f)) {i x : Int32} (hin : vp_in i n) (hdg : decode cc pc = .ok (.bastore, 1))
    (kk : ∀ (H1 : Heap) (locs1 : List Loc), mm_V A D L (va_up M a (.inl (dA 1, n, .inl (upd f i.toNatClampNeg (vp_nar .byte x))))) s H1 locs1 → W p l e R s m args below meth c H1 locs1 cells slots Q (F0 m (pc + 1) ls rest)) : W p l e R s m args below meth c H locs cells slots Q (F0 m pc ls (.int x :: .int i :: .ref a :: rest)) := by
  obtain ⟨q, hq⟩ := mm_get_k ha he
  refine va_bast hexec hb hK.1 hV.1 hV.D hV.2.2.2.1 q 1 hq rfl hin hdg (fun H1 locs1 h1 _ h3 => kk H1 locs1 ?_)
  rw [mm_set hV.2.1 hV.2.2.1 ha he hq] at h1
  exact ⟨h1, hV.2.1, hV.2.2.1, h3, hV.2.2.2.2⟩
theorem mm_sast (hexec : p.tables.exec = Jvm.exec) (hb : c.code = cc) (hK : mm_K D dA s) (hV : mm_V A D L M s H locs) {n : Nat} {f : Nat → Int32} (ha : a ∈ L) (he : M a = .inl (dA 2, n, .inl f)) {i x : Int32} (hin : vp_in i n) (hdg : decode cc pc = .ok (.sastore, 1))
    (kk : ∀ (H1 : Heap) (locs1 : List Loc), mm_V A D L (va_up M a (.inl (dA 2, n, .inl (upd f i.toNatClampNeg (vp_nar .short x))))) s H1 locs1 → W p l e R s m args below meth c H1 locs1 cells slots Q (F0 m (pc + 1) ls rest)) : W p l e R s m args below meth c H locs cells slots Q (F0 m pc ls (.int x :: .int i :: .ref a :: rest)) := by
  obtain ⟨q, hq⟩ := mm_get_k ha he
  refine va_sast hexec hb hK.1 hV.1 hV.D hV.2.2.2.1 q 2 hq rfl hin hdg (fun H1 locs1 h1 _ h3 => kk H1 locs1 ?_)
  rw [mm_set hV.2.1 hV.2.2.1 ha he hq] at h1
  exact ⟨h1, hV.2.1, hV.2.2.1, h3, hV.2.2.2.2⟩
theorem mm_zast (hexec : p.tables.exec = Jvm.exec) (hb : c.code = cc) (hK : mm_K D dA s) (hV : mm_V A D L M s H locs) {n : Nat} {f : Nat → Int32} (ha : a ∈ L) (he : M a = .inl (dA 3, n, .inl f)) {i x : Int32} (hin : vp_in i n) (hdg : decode cc pc = .ok (.bastore, 1))
    (kk : ∀ (H1 : Heap) (locs1 : List Loc), mm_V A D L (va_up M a (.inl (dA 3, n, .inl (upd f i.toNatClampNeg (vp_nar .boolean x))))) s H1 locs1 → W p l e R s m args below meth c H1 locs1 cells slots Q (F0 m (pc + 1) ls rest)) : W p l e R s m args below meth c H locs cells slots Q (F0 m pc ls (.int x :: .int i :: .ref a :: rest)) := by
  obtain ⟨q, hq⟩ := mm_get_k ha he
  refine va_zast hexec hb hK.1 hV.1 hV.D hV.2.2.2.1 q 3 hq rfl hin hdg (fun H1 locs1 h1 _ h3 => kk H1 locs1 ?_)
  rw [mm_set hV.2.1 hV.2.2.1 ha he hq] at h1
  exact ⟨h1, hV.2.1, hV.2.2.1, h3, hV.2.2.2.2⟩
theorem mm_aast (hexec : p.tables.exec = Jvm.exec) (hb : c.code = cc) (hK : mm_K D dA s) (hV : mm_V A D L M s H locs) (t : Nat) {n ci v : Nat} {r : vw_C} {vs : List Value} {f : Nat → Option Nat} (ha : a ∈ L) (he : M a = .inl (dA t, n, .inr (.inr (.inr (.inr f))))) (ht : (mm_tys dA)[t]? = some (dA t, .object r.1)) (hv : v ∈ L) (hve : M v = .inr (ci, vs)) (hc : vwCl[ci]? = some r) {i : Int32} (hin : vp_in i n) (hdg : decode cc pc = .ok (.aastore, 1))
    (kk : ∀ (H1 : Heap) (locs1 : List Loc), mm_V A D L (va_up M a (.inl (dA t, n, .inr (.inr (.inr (.inr (va_up f i.toNatClampNeg (some v)))))))) s H1 locs1 → W p l e R s m args below meth c H1 locs1 cells slots Q (F0 m (pc + 1) ls rest)) : W p l e R s m args below meth c H locs cells slots Q (F0 m pc ls (.ref v :: .int i :: .ref a :: rest)) := by
  obtain ⟨q, hq⟩ := mm_get_k ha he
  obtain ⟨q2, hq2⟩ := mm_get_k hv hve
  refine va_astq hexec hb hK.1 hV.1 hV.D hV.2.2.2.1 q t q2 ci hq ht hq2 hc hin hdg (fun H1 locs1 h1 _ h3 => kk H1 locs1 ?_)
  rw [mm_set hV.2.1 hV.2.2.1 ha he hq] at h1
  exact ⟨h1, hV.2.1, hV.2.2.1, h3, hV.2.2.2.2⟩
theorem mm_push {x : va_E} {q : Nat} {s : State} {H1 : Heap} {locs : List Loc} (hV : mm_V A D L M s H locs) (h1 : va_P D vwCl (va_pl L M ++ [(q, x)]) H1) (h2 : va_D A (va_pl L M ++ [(q, x)])) (h3 : va_S A s.heap H1 locs) : q ∉ L ∧ mm_V A D (L ++ [q]) (va_up M q x) s H1 locs := by
  have hq : q ∉ L := by
    intro hq
    obtain ⟨k, hk⟩ := va_pl_get (X := []) (f := M) hq
    rw [List.nil_append] at hk
    have hl := (List.getElem?_eq_some_iff.mp hk).1
    have e1 : (va_pl L M ++ [(q, x)])[k]? = some (q, M q) := by rw [List.getElem?_append_left hl]; exact hk
    have e2 : (va_pl L M ++ [(q, x)])[(va_pl L M).length]? = some (q, x) := by simp
    have := h2.1 _ _ _ _ e1 e2 rfl
    omega
  rw [va_pl_push hq] at h1 h2
  exact ⟨hq, h1, mm_D_nodup h2, mm_D_in h2, h3, hV.2.2.2.2⟩
/-- new -/
theorem mm_new (hexec : p.tables.exec = Jvm.exec) (hb : c.code = cc) {own C : String} {T : u_T} {N ci index : Nat} {Ts : List Cond} (hts : ∀ w ∈ Ts, w.before args s = true) (hin : ∀ w ∈ u_ws C T N, w ∈ Ts) (ty : Nat → FieldType) (hty : ∀ k, k < N → parseFieldDescriptor (T k).2.2.1 = some (ty k)) (hown : s.vm.findClass own = some m.cls) (hcl : (Cond.classLink own index C).before args s = true) (hinst : (Cond.instantiable C N).before args s = true) (hini : (Cond.initialized C).before args s = true)
    (hK : mm_K D dA s) (hV : mm_V A D L M s H locs) (hc : vwCl[ci]? = some (C, T, N)) {fs : List Value} (hfs : ∀ j, j < N → defaultValue (ty j) = vp_V fs j) (hcells : cells + 1 ≤ R.cells) (hslots : slots + N ≤ R.slots) (hdg : decode cc pc = .ok (.new index, 3))
    (kk : ∀ (q : Nat) (H1 : Heap), q ∉ L → mm_V A D (L ++ [q]) (va_up M q (.inr (ci, fs))) s H1 locs →
      W p l e R s m args below meth c H1 locs (cells + 1) (slots + N) Q (F0 m (pc + 3) ls (.ref q :: rest))) : W p l e R s m args below meth c H locs cells slots Q (F0 m pc ls rest) := by
  refine va_new hexec hb hts hin ty hty hown hcl hinst hini hK.1 hV.1 hV.D hV.2.2.2.1 hV.2.2.2.2 hc hfs hcells hslots hdg (fun q H1 h1 h2 h3 => ?_)
  obtain ⟨g1, g2⟩ := mm_push hV h1 h2 h3
  exact kk q H1 g1 g2
end MMR
theorem mm_lastK {D : va_G} {cl : List vw_C} {tys : List (ClassId × FieldType)} {cA : ClassId} {ty : FieldType} {s : State} (h : va_K D cl (tys ++ [(cA, ty)]) s) : va_RA s cA ty := (h.2 tys.length (cA, ty) (by simp)).2
theorem mm_newcls {D : va_G} {dA : Nat → ClassId} {s : State} (hK : mm_K D dA s) (t : Nat) {cA : ClassId} {ty : FieldType} (ht : (mm_tys dA)[t]? = some (dA t, ty)) (hp : ∀ c, va_RA s c ty → s.vm.findClass ("[" ++ ty.toString) = some c) (h : va_K D vwCl (mm_tys dA ++ [(cA, ty)]) s) : cA = dA t := by
  have h1 := hp _ (mm_lastK h)
  have h2 := hp _ (hK.1.2 t _ ht).2
  exact Option.some.inj (h1.symm.trans h2)
section MMR2
variable {p : Program} {l : Launch} {e : Env} {R : Room} {s : State} {m : MethodId} {args : Array Value} {below : List Frame} {meth : Method} {c : Code} {H : Heap} {locs : List Loc} {cells slots : Nat} {Q : State → Prop}
variable {cc : ByteArray} {pc : Nat} {ls : Array Slot} {rest : List Value} {D : va_G} {dA : Nat → ClassId} {A : Nat → Prop} {a : Nat} {L : List Nat} {M : mm_M}
/-- newarray of numbers: t = 0 int, 1 byte, 2 short, 3 boolean -/
theorem mm_newa (hexec : p.tables.exec = Jvm.exec) (hb : c.code = cc) {atype : ArrayType} (harr : (Cond.arrayClass (newarray.typeOf atype)).before args s = true) {ty : FieldType} (hty : newarray.typeOf atype = ty) (t : Nat) (ht : (mm_tys dA)[t]? = some (dA t, ty)) (hp : ∀ c, va_RA s c ty → s.vm.findClass ("[" ++ ty.toString) = some c) (hd : defaultValue ty = .int 0) (hK : mm_K D dA s) (hV : mm_V A D L M s H locs)
    {n : Int32} {N' : Nat} (hn : ¬ n < 0) (hN : n.toNatClampNeg = N') (hbytes : N' * componentBytes ty ≤ 536870912) (hcells : cells + 1 ≤ R.cells) (hslots : slots + N' ≤ R.slots) (hdg : decode cc pc = .ok (.newarray atype, 2))
    (kk : ∀ (q : Nat) (H1 : Heap), q ∉ L → mm_V A D (L ++ [q]) (va_up M q (.inl (dA t, N', .inl (fun _ => 0)))) s H1 locs →
      W p l e R s m args below meth c H1 locs (cells + 1) (slots + N') Q (F0 m (pc + 2) ls (.ref q :: rest))) : W p l e R s m args below meth c H locs cells slots Q (F0 m pc ls (.int n :: rest)) := by
  refine va_newa (a0 := (N', .inl (fun _ => 0))) hexec hb harr hty hK.1 hV.1 hV.D hV.2.2.2.1 hV.2.2.2.2 (fun cA => by rw [hd]; rfl) hn hN hbytes hcells hslots hdg (fun q cA H1 hk h1 h2 h3 => ?_)
  have hc := mm_newcls hK t ht hp hk
  subst hc
  obtain ⟨g1, g2⟩ := mm_push hV h1 h2 h3
  exact kk q H1 g1 g2
/-- anewarray: t = 4 Position, 5 MoveList -/
theorem mm_newq (hexec : p.tables.exec = Jvm.exec) (hb : c.code = cc) {own C : String} {index : Nat} (hown : s.vm.findClass own = some m.cls) (hclink : (Cond.classLink own index C).before args s = true) (hover : va_AO C s) (t : Nat) (ht : (mm_tys dA)[t]? = some (dA t, .object C)) (hK : mm_K D dA s) (hV : mm_V A D L M s H locs)
    {n : Int32} {N' : Nat} (hn : ¬ n < 0) (hN : n.toNatClampNeg = N') (hbytes : N' * 4 ≤ 536870912) (hcells : cells + 1 ≤ R.cells) (hslots : slots + N' ≤ R.slots) (hdg : decode cc pc = .ok (.anewarray index, 3))
    (kk : ∀ (q : Nat) (H1 : Heap), q ∉ L → mm_V A D (L ++ [q]) (va_up M q (.inl (dA t, N', .inr (.inr (.inr (.inr (fun _ => none))))))) s H1 locs →
      W p l e R s m args below meth c H1 locs (cells + 1) (slots + N') Q (F0 m (pc + 3) ls (.ref q :: rest))) : W p l e R s m args below meth c H locs cells slots Q (F0 m pc ls (.int n :: rest)) := by
  refine va_newq hexec hb hown hclink hover hK.1 hV.1 hV.D hV.2.2.2.1 hV.2.2.2.2 hn hN hbytes hcells hslots hdg (fun q cA H1 hk h1 h2 h3 => ?_)
  have hc := mm_newcls hK t ht (fun c h => by obtain ⟨_, _, _, _, _, h4⟩ := h; exact h4) hk
  subst hc
  obtain ⟨g1, g2⟩ := mm_push hV h1 h2 h3
  exact kk q H1 g1 g2
end MMR2
theorem mm_neq {M : mm_M} {a b : Nat} {x y : va_E} (ha : M a = x) (hb : M b = y) (h : x ≠ y) : a ≠ b := fun e => h (by rw [← ha, ← hb, e])
section MMN
variable {p : Program} {l : Launch} {e : Env} {R : Room} {s : State} {m : MethodId} {args : Array Value} {below : List Frame} {meth : Method} {c : Code} {H : Heap} {locs : List Loc} {cells slots : Nat} {Q : State → Prop}
variable {cc : ByteArray} {pc : Nat} {ls : Array Slot} {rest : List Value} {D : va_G} {dA : Nat → ClassId} {A : Nat → Prop} {a : Nat} {L : List Nat} {M : mm_M}
/-- the same, with indices that are naturals -/
theorem mm_ialdN (hexec : p.tables.exec = Jvm.exec) (hb : c.code = cc) (hK : mm_K D dA s) (hV : mm_V A D L M s H locs) {n : Nat} {f : Nat → Int32} (ha : a ∈ L) (he : M a = .inl (dA 0, n, .inl f)) {i : Int32} {j : Nat} (hi : i = nI j) (hj : j < n) (hn : n < 2 ^ 31) (hdg : decode cc pc = .ok (.iaload, 1))
    (kk : W p l e R s m args below meth c H locs cells slots Q (F0 m (pc + 1) ls (.int (f j) :: rest))) : W p l e R s m args below meth c H locs cells slots Q (F0 m pc ls (.int i :: .ref a :: rest)) := by
  subst hi
  refine mm_iald hexec hb hK hV ha he (vp_in_nI hj hn) hdg ?_
  rw [nI_clamp (by omega)]
  exact kk
theorem mm_baldN (hexec : p.tables.exec = Jvm.exec) (hb : c.code = cc) (hK : mm_K D dA s) (hV : mm_V A D L M s H locs) {n : Nat} {f : Nat → Int32} (ha : a ∈ L) (he : M a = .inl (dA 1, n, .inl f)) {i : Int32} {j : Nat} (hi : i = nI j) (hj : j < n) (hn : n < 2 ^ 31) (hdg : decode cc pc = .ok (.baload, 1))
    (kk : W p l e R s m args below meth c H locs cells slots Q (F0 m (pc + 1) ls (.int (f j) :: rest))) : W p l e R s m args below meth c H locs cells slots Q (F0 m pc ls (.int i :: .ref a :: rest)) := by
  subst hi
  refine mm_bald hexec hb hK hV ha he (vp_in_nI hj hn) hdg ?_
  rw [nI_clamp (by omega)]
  exact kk
theorem mm_saldN (hexec : p.tables.exec = Jvm.exec) (hb : c.code = cc) (hK : mm_K D dA s) (hV : mm_V A D L M s H locs) {n : Nat} {f : Nat → Int32} (ha : a ∈ L) (he : M a = .inl (dA 2, n, .inl f)) {i : Int32} {j : Nat} (hi : i = nI j) (hj : j < n) (hn : n < 2 ^ 31) (hdg : decode cc pc = .ok (.saload, 1))
    (kk : W p l e R s m args below meth c H locs cells slots Q (F0 m (pc + 1) ls (.int (f j) :: rest))) : W p l e R s m args below meth c H locs cells slots Q (F0 m pc ls (.int i :: .ref a :: rest)) := by
  subst hi
  refine mm_sald hexec hb hK hV ha he (vp_in_nI hj hn) hdg ?_
  rw [nI_clamp (by omega)]
  exact kk
theorem mm_zaldN (hexec : p.tables.exec = Jvm.exec) (hb : c.code = cc) (hK : mm_K D dA s) (hV : mm_V A D L M s H locs) {n : Nat} {f : Nat → Int32} (ha : a ∈ L) (he : M a = .inl (dA 3, n, .inl f)) {i : Int32} {j : Nat} (hi : i = nI j) (hj : j < n) (hn : n < 2 ^ 31) (hdg : decode cc pc = .ok (.baload, 1))
    (kk : W p l e R s m args below meth c H locs cells slots Q (F0 m (pc + 1) ls (.int (f j) :: rest))) : W p l e R s m args below meth c H locs cells slots Q (F0 m pc ls (.int i :: .ref a :: rest)) := by
  subst hi
  refine mm_zald hexec hb hK hV ha he (vp_in_nI hj hn) hdg ?_
  rw [nI_clamp (by omega)]
  exact kk
theorem mm_aaldN (hexec : p.tables.exec = Jvm.exec) (hb : c.code = cc) (hK : mm_K D dA s) (hV : mm_V A D L M s H locs) (t : Nat) {C : String} {n : Nat} {f : Nat → Option Nat} (ha : a ∈ L) (he : M a = .inl (dA t, n, .inr (.inr (.inr (.inr f))))) (ht : (mm_tys dA)[t]? = some (dA t, .object C)) {i : Int32} {j : Nat} (hi : i = nI j) (hj : j < n) (hn : n < 2 ^ 31) {b : Nat} (hb2 : f j = some b) (hdg : decode cc pc = .ok (.aaload, 1))
    (kk : W p l e R s m args below meth c H locs cells slots Q (F0 m (pc + 1) ls (.ref b :: rest))) : W p l e R s m args below meth c H locs cells slots Q (F0 m pc ls (.int i :: .ref a :: rest)) := by
  subst hi
  exact mm_aald hexec hb hK hV t ha he ht (vp_in_nI hj hn) (by rw [nI_clamp (by omega)]; exact hb2) hdg kk
theorem mm_iastN (hexec : p.tables.exec = Jvm.exec) (hb : c.code = cc) (hK : mm_K D dA s) (hV : mm_V A D L M s H locs) {n : Nat} {f : Nat → Int32} (ha : a ∈ L) (he : M a = .inl (dA 0, n, .inl f)) {i x : Int32} {j : Nat} (hi : i = nI j) (hj : j < n) (hn : n < 2 ^ 31) (hdg : decode cc pc = .ok (.iastore, 1))
    (kk : ∀ (M1 : mm_M) (H1 : Heap) (locs1 : List Loc), M1 = va_up M a (.inl (dA 0, n, .inl (upd f j x))) → mm_V A D L M1 s H1 locs1 → W p l e R s m args below meth c H1 locs1 cells slots Q (F0 m (pc + 1) ls rest)) : W p l e R s m args below meth c H locs cells slots Q (F0 m pc ls (.int x :: .int i :: .ref a :: rest)) := by
  subst hi
  refine mm_iast hexec hb hK hV ha he (vp_in_nI hj hn) hdg (fun H1 locs1 h => kk _ H1 locs1 rfl ?_)
  rw [nI_clamp (by omega)] at h
  exact h
theorem mm_bastN (hexec : p.tables.exec = Jvm.exec) (hb : c.code = cc) (hK : mm_K D dA s) (hV : mm_V A D L M s H locs) {n : Nat} {f : Nat → Int32} (ha : a ∈ L) (he : M a = .inl (dA 1, n, .inl f)) {i x : Int32} {j : Nat} (hi : i = nI j) (hj : j < n) (hn : n < 2 ^ 31) (hdg : decode cc pc = .ok (.bastore, 1))
    (kk : ∀ (M1 : mm_M) (H1 : Heap) (locs1 : List Loc), M1 = va_up M a (.inl (dA 1, n, .inl (upd f j (vp_nar .byte x)))) → mm_V A D L M1 s H1 locs1 → W p l e R s m args below meth c H1 locs1 cells slots Q (F0 m (pc + 1) ls rest)) : W p l e R s m args below meth c H locs cells slots Q (F0 m pc ls (.int x :: .int i :: .ref a :: rest)) := by
  subst hi
  refine mm_bast hexec hb hK hV ha he (vp_in_nI hj hn) hdg (fun H1 locs1 h => kk _ H1 locs1 rfl ?_)
  rw [nI_clamp (by omega)] at h
  exact h
theorem mm_sastN (hexec : p.tables.exec = Jvm.exec) (hb : c.code = cc) (hK : mm_K D dA s) (hV : mm_V A D L M s H locs) {n : Nat} {f : Nat → Int32} (ha : a ∈ L) (he : M a = .inl (dA 2, n, .inl f)) {i x : Int32} {j : Nat} (hi : i = nI j) (hj : j < n) (hn : n < 2 ^ 31) (hdg : decode cc pc = .ok (.sastore, 1))
    (kk : ∀ (M1 : mm_M) (H1 : Heap) (locs1 : List Loc), M1 = va_up M a (.inl (dA 2, n, .inl (upd f j (vp_nar .short x)))) → mm_V A D L M1 s H1 locs1 → W p l e R s m args below meth c H1 locs1 cells slots Q (F0 m (pc + 1) ls rest)) : W p l e R s m args below meth c H locs cells slots Q (F0 m pc ls (.int x :: .int i :: .ref a :: rest)) := by
  subst hi
  refine mm_sast hexec hb hK hV ha he (vp_in_nI hj hn) hdg (fun H1 locs1 h => kk _ H1 locs1 rfl ?_)
  rw [nI_clamp (by omega)] at h
  exact h
theorem mm_zastN (hexec : p.tables.exec = Jvm.exec) (hb : c.code = cc) (hK : mm_K D dA s) (hV : mm_V A D L M s H locs) {n : Nat} {f : Nat → Int32} (ha : a ∈ L) (he : M a = .inl (dA 3, n, .inl f)) {i x : Int32} {j : Nat} (hi : i = nI j) (hj : j < n) (hn : n < 2 ^ 31) (hdg : decode cc pc = .ok (.bastore, 1))
    (kk : ∀ (M1 : mm_M) (H1 : Heap) (locs1 : List Loc), M1 = va_up M a (.inl (dA 3, n, .inl (upd f j (vp_nar .boolean x)))) → mm_V A D L M1 s H1 locs1 → W p l e R s m args below meth c H1 locs1 cells slots Q (F0 m (pc + 1) ls rest)) : W p l e R s m args below meth c H locs cells slots Q (F0 m pc ls (.int x :: .int i :: .ref a :: rest)) := by
  subst hi
  refine mm_zast hexec hb hK hV ha he (vp_in_nI hj hn) hdg (fun H1 locs1 h => kk _ H1 locs1 rfl ?_)
  rw [nI_clamp (by omega)] at h
  exact h
theorem mm_aastN (hexec : p.tables.exec = Jvm.exec) (hb : c.code = cc) (hK : mm_K D dA s) (hV : mm_V A D L M s H locs) (t : Nat) {n ci v : Nat} {r : vw_C} {vs : List Value} {f : Nat → Option Nat} (ha : a ∈ L) (he : M a = .inl (dA t, n, .inr (.inr (.inr (.inr f))))) (ht : (mm_tys dA)[t]? = some (dA t, .object r.1)) (hv : v ∈ L) (hve : M v = .inr (ci, vs)) (hc : vwCl[ci]? = some r) {i : Int32} {j : Nat} (hi : i = nI j) (hj : j < n) (hn : n < 2 ^ 31) (hdg : decode cc pc = .ok (.aastore, 1))
    (kk : ∀ (M1 : mm_M) (H1 : Heap) (locs1 : List Loc), M1 = va_up M a (.inl (dA t, n, .inr (.inr (.inr (.inr (va_up f j (some v))))))) → mm_V A D L M1 s H1 locs1 → W p l e R s m args below meth c H1 locs1 cells slots Q (F0 m (pc + 1) ls rest)) : W p l e R s m args below meth c H locs cells slots Q (F0 m pc ls (.ref v :: .int i :: .ref a :: rest)) := by
  subst hi
  refine mm_aast hexec hb hK hV t ha he ht hv hve hc (vp_in_nI hj hn) hdg (fun H1 locs1 h => kk _ H1 locs1 rfl ?_)
  rw [nI_clamp (by omega)] at h
  exact h
end MMN
end
section
theorem mm_K.same {D : va_G} {dA : Nat → ClassId} {s U : State} (h : s.vm = U.vm) (hK : mm_K D dA s) : mm_K D dA U :=
  ⟨va_K.moved (h ▸ Vm.Alike.refl s.vm) hK.1, va_Nw.same rfl h hK.2.1, va_Nw.same rfl h hK.2.2.1, va_Nw.same rfl h hK.2.2.2.1, va_Nw.same rfl h hK.2.2.2.2.1, va_AO.moved (h ▸ Vm.Alike.refl s.vm) hK.2.2.2.2.2.1, va_AO.moved (h ▸ Vm.Alike.refl s.vm) hK.2.2.2.2.2.2⟩
theorem mm_blind {D : va_G} {dA : Nat → ClassId} {L : List Nat} {M : mm_M} {sz : Nat} {av : List Value} : FrameBlind (va_Pc av (mm_B D dA L M sz)) := by
  intro a U g mk q
  obtain ⟨q0, q1, qP, qN, qK⟩ := q
  exact ⟨q0, q1, qP, qN, mm_K.same (s := U) (U := U.calling g mk a) rfl qK⟩
theorem mm_start {D : va_G} {dA : Nat → ClassId} {A : Nat → Prop} {L : List Nat} {M : mm_M} {s : State} {H : Heap} {locs : List Loc} {av : List Value} (hK : mm_K D dA s) (hV : mm_V A D L M s H locs) : ∀ U : State, U.heap = H → s.WarmedH U.vm → va_Pc av (mm_B D dA L M H.size) av.toArray U := by
  intro U hU hW
  exact ⟨rfl, by rw [hU], by rw [hU]; exact hV.1, hV.2.1, mm_K.warm hW hK⟩
theorem mm_A0 {D : va_G} {A : Nat → Prop} {L : List Nat} {M : mm_M} {s : State} {H : Heap} {locs : List Loc} (hV : mm_V A D L M s H locs) : ∀ q, mm_A L H.size q → A q := by
  intro q h
  rcases h with h | h
  · exact hV.2.2.1 q h
  · exact hV.2.2.2.2 q (Nat.le_trans hV.2.2.2.1.1 h)
theorem mm_after {D : va_G} {A : Nat → Prop} {L : List Nat} {M : mm_M} {s t : State} {H H1 : Heap} {locs locs1 : List Loc} {u : List Nat × mm_M} (hV : mm_V A D L M s H locs) (ht : t.heap = H1) (hB : mm_Eb D (mm_A L H.size) u t) (hS : va_S A s.heap H1 locs1) : mm_V A D u.1 u.2 s H1 locs1 :=
  ⟨by rw [← ht]; exact hB.1, hB.2.1, fun a ha => mm_A0 hV a (hB.2.2 a ha), hS, hV.2.2.2.2⟩
theorem mm_lev {k2 k mc ms mc2 ms2 maxL : Nat} (h : k2 < k) (hm : maxL ≤ 21) : (mm_rm k2 mc2 ms2).frames + 1 ≤ (mm_rm k mc ms).frames ∧ 8 + (maxL + 11) + (mm_rm k2 mc2 ms2).locals ≤ (mm_rm k mc ms).locals := by
  simp only [mm_rm]; omega
theorem mm_levL {k2 mc2 ms2 maxL : Nat} (h : k2 < 2000) (hm : maxL ≤ 21) : (mm_rm k2 mc2 ms2).frames + 1 ≤ room_1.frames ∧ 8 + (maxL + 11) + (mm_rm k2 mc2 ms2).locals ≤ room_1.locals := by
  simp only [mm_rm, room_1]; omega
section MMC
variable {p : Program} {l : Launch} {e : Env} {R : Room} {s : State} {m : MethodId} {args : Array Value} {below : List Frame} {meth : Method} {c : Code} {H : Heap} {locs : List Loc} {cells slots : Nat} {Q : State → Prop}
variable {cc : ByteArray} {pc : Nat} {ls : Array Slot} {rest st : List Value} {D : va_G} {dA : Nat → ClassId} {A : Nat → Prop} {L : List Nat} {M : mm_M}
variable {y : MethodName} {bytes : ByteArray} {maxL nL k2 mc ms n index : Nat} {ret : Option FieldType} {ws : List Cond} {Ts : List Cond} {own C : String} {b : Addr} {As : List Value}
theorem mm_recv {ci : Nat} {fs : List Value} {T : u_T} {N : Nat} (hK : mm_K D dA s) (hV : mm_V A D L M s H locs) (hbL : b ∈ L) (hbe : M b = .inr (ci, fs)) (hc : vwCl[ci]? = some (C, T, N)) : ∃ cell : Cell, H[b]? = some cell ∧ cell.vm.isStatics = false ∧ s.vm.findClass C = some cell.cls := by
  obtain ⟨q, hq⟩ := mm_get_k hbL hbe
  exact va_recv hK.1 hV.1 hc hq
theorem mm_Vi {post : Int32 → List Nat → mm_M → Prop} {ci : Nat} {fs : List Value} {T : u_T} {N : Nat} (S : CallFix p m c cc nL s args Ts own) (hK : mm_K D dA s) (hV : mm_V A D L M s H locs) (hM : mm_Ci l D dA y ws k2 mc ms (.ref b :: As) L M post) (cw : CallW R s args own C index y bytes maxL ret ws (mm_rm k2 mc ms) mc ms n) (hbL : b ∈ L) (hbe : M b = .inr (ci, fs)) (hc : vwCl[ci]? = some (C, T, N)) (hn : As.length = n) (hsz : ls.size = nL) (hst : st = As.reverse ++ .ref b :: rest) (hW : (rest.map fun v => v.category).sum ≤ 8) (hdg : decode cc pc = .ok (.invokevirtual index, 3)) (hf : cells + mc ≤ R.cells ∧ slots + ms ≤ R.slots)
    (kk : ∀ (r : Int32) (L1 : List Nat) (M1 : mm_M) (H1 : Heap) (locs1 : List Loc), post r L1 M1 → mm_V A D L1 M1 s H1 locs1 → W p l e R s m args below meth c H1 locs1 (cells + mc) (slots + ms) Q (F0 m (pc + 3) ls (.int r :: rest))) : W p l e R s m args below meth c H locs cells slots Q (F0 m pc ls st) :=
  va_calli (va_runV (As := As) (rest := rest) S (hM H.size) cw ⟨mm_blind, mm_recv hK hV hbL hbe hc, mm_start hK hV⟩ rfl hn hsz hst (lv_room hW) hdg hf) hV.2.2.2.1 (fun q _ h => mm_A0 hV q h) (mm_A0 hV) (fun r u t H1 locs1 ht _ hw hB _ _ hS => kk r u.1 u.2 H1 locs1 hw (mm_after hV ht hB hS))
theorem mm_Vv {post : List Nat → mm_M → Prop} {ci : Nat} {fs : List Value} {T : u_T} {N : Nat} (S : CallFix p m c cc nL s args Ts own) (hK : mm_K D dA s) (hV : mm_V A D L M s H locs) (hM : mm_Cv l D dA y ws k2 mc ms (.ref b :: As) L M post) (cw : CallW R s args own C index y bytes maxL ret ws (mm_rm k2 mc ms) mc ms n) (hbL : b ∈ L) (hbe : M b = .inr (ci, fs)) (hc : vwCl[ci]? = some (C, T, N)) (hn : As.length = n) (hsz : ls.size = nL) (hst : st = As.reverse ++ .ref b :: rest) (hW : (rest.map fun v => v.category).sum ≤ 8) (hdg : decode cc pc = .ok (.invokevirtual index, 3)) (hf : cells + mc ≤ R.cells ∧ slots + ms ≤ R.slots)
    (kk : ∀ (L1 : List Nat) (M1 : mm_M) (H1 : Heap) (locs1 : List Loc), post L1 M1 → mm_V A D L1 M1 s H1 locs1 → W p l e R s m args below meth c H1 locs1 (cells + mc) (slots + ms) Q (F0 m (pc + 3) ls rest)) : W p l e R s m args below meth c H locs cells slots Q (F0 m pc ls st) :=
  va_callv (va_runV (As := As) (rest := rest) S (hM H.size) cw ⟨mm_blind, mm_recv hK hV hbL hbe hc, mm_start hK hV⟩ rfl hn hsz hst (lv_room hW) hdg hf) hV.2.2.2.1 (fun q _ h => mm_A0 hV q h) (mm_A0 hV) (fun u t H1 locs1 ht _ hw hB _ _ hS => kk u.1 u.2 H1 locs1 hw (mm_after hV ht hB hS))
theorem mm_Si {post : Int32 → List Nat → mm_M → Prop} (S : CallFix p m c cc nL s args Ts own) (hK : mm_K D dA s) (hV : mm_V A D L M s H locs) (hM : mm_Ci l D dA y ws k2 mc ms As L M post) (cw : CallB R s args own index y bytes maxL ret ws (mm_rm k2 mc ms) mc ms n ∧ (Cond.static y).before args s = true) (hn : As.length = n) (hsz : ls.size = nL) (hst : st = As.reverse ++ rest) (hW : (rest.map fun v => v.category).sum ≤ 8) (hdg : decode cc pc = .ok (.invokestatic index, 3)) (hf : cells + mc ≤ R.cells ∧ slots + ms ≤ R.slots)
    (kk : ∀ (r : Int32) (L1 : List Nat) (M1 : mm_M) (H1 : Heap) (locs1 : List Loc), post r L1 M1 → mm_V A D L1 M1 s H1 locs1 → W p l e R s m args below meth c H1 locs1 (cells + mc) (slots + ms) Q (F0 m (pc + 3) ls (.int r :: rest))) : W p l e R s m args below meth c H locs cells slots Q (F0 m pc ls st) :=
  va_calli (va_runS (As := As) (rest := rest) S (hM H.size) cw ⟨mm_blind, mm_start hK hV⟩ rfl hn hsz hst (lv_room hW) hdg hf) hV.2.2.2.1 (fun q _ h => mm_A0 hV q h) (mm_A0 hV) (fun r u t H1 locs1 ht _ hw hB _ _ hS => kk r u.1 u.2 H1 locs1 hw (mm_after hV ht hB hS))
/-- a constructor; and a nest mate's private one -/
theorem mm_Iv {post : List Nat → mm_M → Prop} (S : CallFix p m c cc nL s args Ts own) (hK : mm_K D dA s) (hV : mm_V A D L M s H locs) (hM : mm_Cv l D dA y ws k2 mc ms (.ref b :: As) L M post) (cw : CallB R s args own index y bytes maxL none ws (mm_rm k2 mc ms) mc ms n ∧ y.name = "<init>" ∧ (Cond.instanceMethod y).before args s = true) (hn : As.length = n) (hsz : ls.size = nL) (hst : st = As.reverse ++ .ref b :: rest) (hW : (rest.map fun v => v.category).sum ≤ 8) (hdg : decode cc pc = .ok (.invokespecial index, 3)) (hf : cells + mc ≤ R.cells ∧ slots + ms ≤ R.slots)
    (kk : ∀ (L1 : List Nat) (M1 : mm_M) (H1 : Heap) (locs1 : List Loc), post L1 M1 → mm_V A D L1 M1 s H1 locs1 → W p l e R s m args below meth c H1 locs1 (cells + mc) (slots + ms) Q (F0 m (pc + 3) ls rest)) : W p l e R s m args below meth c H locs cells slots Q (F0 m pc ls st) :=
  va_callv (va_runI (As := As) (rest := rest) S (hM H.size) cw ⟨mm_blind, mm_start hK hV⟩ rfl hn hsz hst (lv_room hW) hdg hf) hV.2.2.2.1 (fun q _ h => mm_A0 hV q h) (mm_A0 hV) (fun u t H1 locs1 ht _ hw hB _ _ hS => kk u.1 u.2 H1 locs1 hw (mm_after hV ht hB hS))
theorem mm_INv {host : String} {post : List Nat → mm_M → Prop} (S : CallFix p m c cc nL s args Ts own) (hK : mm_K D dA s) (hV : mm_V A D L M s H locs) (hM : mm_Cv l D dA y ws k2 mc ms (.ref b :: As) L M post) (cw : va_CN R s args own index y host bytes maxL none ws (mm_rm k2 mc ms) mc ms n ∧ y.name = "<init>" ∧ (Cond.instanceMethod y).before args s = true) (hn : As.length = n) (hsz : ls.size = nL) (hst : st = As.reverse ++ .ref b :: rest) (hW : (rest.map fun v => v.category).sum ≤ 8) (hdg : decode cc pc = .ok (.invokespecial index, 3)) (hf : cells + mc ≤ R.cells ∧ slots + ms ≤ R.slots)
    (kk : ∀ (L1 : List Nat) (M1 : mm_M) (H1 : Heap) (locs1 : List Loc), post L1 M1 → mm_V A D L1 M1 s H1 locs1 → W p l e R s m args below meth c H1 locs1 (cells + mc) (slots + ms) Q (F0 m (pc + 3) ls rest)) : W p l e R s m args below meth c H locs cells slots Q (F0 m pc ls st) :=
  va_callv (va_runIN (As := As) (rest := rest) S (hM H.size) cw ⟨mm_blind, mm_start hK hV⟩ rfl hn hsz hst (lv_room hW) hdg hf) hV.2.2.2.1 (fun q _ h => mm_A0 hV q h) (mm_A0 hV) (fun u t H1 locs1 ht _ hw hB _ _ hS => kk u.1 u.2 H1 locs1 hw (mm_after hV ht hB hS))
/-- returns -/
theorem mm_ret_i {post : Int32 → List Nat → mm_M → Prop} {v : Int32} (hexec : p.tables.exec = Jvm.exec) (hb : c.code = cc) (hr : meth.sig.returnType = some .int) (hlocks : meth.locks = false) (hV : mm_V A D L M s H locs) (hc : cells ≤ mc) (hs : slots ≤ ms) (hdg : decode cc pc = .ok (.ireturn, 1)) (hp : post v L M) : W p l e R s m args below meth c H locs cells slots (MQ below (mm_Qi D A post) args s mc ms A) (F0 m pc ls [.int v]) :=
  W.widen hc hs (W.iret (v := v) hexec hb hr (fun t ht _ => ⟨⟨v, (L, M), rfl, hp, by rw [ht]; exact hV.1, hV.2.1, hV.2.2.1⟩, hV.2.2.2.1.F ht⟩) hV.2.2.2.1.2.2 hdg hlocks)
theorem mm_ret_z {post : Int32 → List Nat → mm_M → Prop} {v : Int32} (hexec : p.tables.exec = Jvm.exec) (hb : c.code = cc) (hr : meth.sig.returnType = some .boolean) (hlocks : meth.locks = false) (hV : mm_V A D L M s H locs) (hc : cells ≤ mc) (hs : slots ≤ ms) (hdg : decode cc pc = .ok (.ireturn, 1)) (hz : v = 0 ∨ v = 1) (hp : post v L M) : W p l e R s m args below meth c H locs cells slots (MQ below (mm_Qi D A post) args s mc ms A) (F0 m pc ls [.int v]) :=
  W.widen hc hs (W.zret (v := v) hexec hb hr (by rcases hz with rfl | rfl <;> rfl) (fun t ht _ => ⟨⟨v, (L, M), rfl, hp, by rw [ht]; exact hV.1, hV.2.1, hV.2.2.1⟩, hV.2.2.2.1.F ht⟩) hV.2.2.2.1.2.2 hdg hlocks)
theorem mm_ret_v {post : List Nat → mm_M → Prop} (hexec : p.tables.exec = Jvm.exec) (hb : c.code = cc) (hr : meth.sig.returnType = none) (hlocks : meth.locks = false) (hV : mm_V A D L M s H locs) (hc : cells ≤ mc) (hs : slots ≤ ms) (hdg : decode cc pc = .ok (.return_, 1)) (hp : post L M) : W p l e R s m args below meth c H locs cells slots (MQ below (mm_Qv D A post) args s mc ms A) (F0 m pc ls []) :=
  W.widen hc hs (W.vret hexec hb hr (fun t ht _ => ⟨⟨(L, M), rfl, hp, by rw [ht]; exact hV.1, hV.2.1, hV.2.2.1⟩, hV.2.2.2.1.F ht⟩) hV.2.2.2.1.2.2 hdg hlocks)
end MMC
theorem mm_enter_i {l : Launch} {D : va_G} {dA : Nat → ClassId} {y : MethodName} {ws ws' : List Cond} {k mc ms : Nat} {av : List Value} {L : List Nat} {M : mm_M} {post : Int32 → List Nat → mm_M → Prop} {cc : ByteArray} {maxL : Nat}
    (hy : plainName y.cls = true) (hw : ws = Cond.code y cc maxL (some .int) :: ws') (hlen : (lg_sl av).length ≤ maxL)
    (body : ∀ (p : Program) (e : Env) (R : Room) (s : State) (m : MethodId) (args : Array Value) (below : List Frame) (meth : Method) (c : Code) (A : Nat → Prop) (ls : Array Slot) (H : Heap) (locs : List Loc) (Q : State → Prop), R = mm_rm k mc ms → p.tables.exec = Jvm.exec → c.code = cc → c.maxLocals = maxL → meth.name = y.name → s.vm.findClass y.cls = some m.cls → (∀ w ∈ ws, w.before args s = true) → mm_K D dA s → mm_V A D L M s H locs → lv_has ls maxL (lv_args 0 av) →
      (∀ {pc : Nat} {ls : Array Slot} {H : Heap} {locs : List Loc} {L1 : List Nat} {M1 : mm_M} {cells slots : Nat} {v : Int32}, decode cc pc = .ok (.ireturn, 1) → mm_V A D L1 M1 s H locs → cells ≤ mc → slots ≤ ms → post v L1 M1 → W p l e R s m args below meth c H locs cells slots Q (F0 m pc ls [.int v])) →
      W p l e R s m args below meth c H locs 0 0 Q (F0 m 0 ls [])) : mm_Ci l D dA y ws k mc ms av L M post := by
  intro sz
  refine Met.ofW (cc := cc) (maxL := maxL) (ret := (some .int)) hy hw ?_
  intro p e s m args below meth c s₁ B hml hv
  obtain ⟨rfl, rfl, hP, hN, hK⟩ := hv
  have hl := lv_entry av (n := maxL) hlen
  rw [lg_entry_eq]
  refine body p e _ s m _ below meth c (mm_A L s.heap.size) _ _ _ _ rfl B.exec B.bytes hml (name_of_methodNamed B.named B.method).1 (findClass_of_methodNamed B.named) (atoms_spec (ws := ws) B.pre) hK ⟨hP, hN, fun a h => Or.inl h, va_S.rf, fun q h => Or.inr h⟩ hl ?_
  intro pc ls H locs L1 M1 cells slots v hdg hV hc hs hp
  exact mm_ret_i (post := post) B.exec B.bytes B.returns B.notSynchronized hV hc hs hdg hp
theorem mm_enter_z {l : Launch} {D : va_G} {dA : Nat → ClassId} {y : MethodName} {ws ws' : List Cond} {k mc ms : Nat} {av : List Value} {L : List Nat} {M : mm_M} {post : Int32 → List Nat → mm_M → Prop} {cc : ByteArray} {maxL : Nat}
    (hy : plainName y.cls = true) (hw : ws = Cond.code y cc maxL (some .boolean) :: ws') (hlen : (lg_sl av).length ≤ maxL)
    (body : ∀ (p : Program) (e : Env) (R : Room) (s : State) (m : MethodId) (args : Array Value) (below : List Frame) (meth : Method) (c : Code) (A : Nat → Prop) (ls : Array Slot) (H : Heap) (locs : List Loc) (Q : State → Prop), R = mm_rm k mc ms → p.tables.exec = Jvm.exec → c.code = cc → c.maxLocals = maxL → meth.name = y.name → s.vm.findClass y.cls = some m.cls → (∀ w ∈ ws, w.before args s = true) → mm_K D dA s → mm_V A D L M s H locs → lv_has ls maxL (lv_args 0 av) →
      (∀ {pc : Nat} {ls : Array Slot} {H : Heap} {locs : List Loc} {L1 : List Nat} {M1 : mm_M} {cells slots : Nat} {v : Int32}, decode cc pc = .ok (.ireturn, 1) → mm_V A D L1 M1 s H locs → cells ≤ mc → slots ≤ ms → (v = 0 ∨ v = 1) → post v L1 M1 → W p l e R s m args below meth c H locs cells slots Q (F0 m pc ls [.int v])) →
      W p l e R s m args below meth c H locs 0 0 Q (F0 m 0 ls [])) : mm_Ci l D dA y ws k mc ms av L M post := by
  intro sz
  refine Met.ofW (cc := cc) (maxL := maxL) (ret := (some .boolean)) hy hw ?_
  intro p e s m args below meth c s₁ B hml hv
  obtain ⟨rfl, rfl, hP, hN, hK⟩ := hv
  have hl := lv_entry av (n := maxL) hlen
  rw [lg_entry_eq]
  refine body p e _ s m _ below meth c (mm_A L s.heap.size) _ _ _ _ rfl B.exec B.bytes hml (name_of_methodNamed B.named B.method).1 (findClass_of_methodNamed B.named) (atoms_spec (ws := ws) B.pre) hK ⟨hP, hN, fun a h => Or.inl h, va_S.rf, fun q h => Or.inr h⟩ hl ?_
  intro pc ls H locs L1 M1 cells slots v hdg hV hc hs hz hp
  exact mm_ret_z (post := post) B.exec B.bytes B.returns B.notSynchronized hV hc hs hdg hz hp
theorem mm_enter_v {l : Launch} {D : va_G} {dA : Nat → ClassId} {y : MethodName} {ws ws' : List Cond} {k mc ms : Nat} {av : List Value} {L : List Nat} {M : mm_M} {post : List Nat → mm_M → Prop} {cc : ByteArray} {maxL : Nat}
    (hy : plainName y.cls = true) (hw : ws = Cond.code y cc maxL none :: ws') (hlen : (lg_sl av).length ≤ maxL)
    (body : ∀ (p : Program) (e : Env) (R : Room) (s : State) (m : MethodId) (args : Array Value) (below : List Frame) (meth : Method) (c : Code) (A : Nat → Prop) (ls : Array Slot) (H : Heap) (locs : List Loc) (Q : State → Prop), R = mm_rm k mc ms → p.tables.exec = Jvm.exec → c.code = cc → c.maxLocals = maxL → meth.name = y.name → s.vm.findClass y.cls = some m.cls → (∀ w ∈ ws, w.before args s = true) → mm_K D dA s → mm_V A D L M s H locs → lv_has ls maxL (lv_args 0 av) →
      (∀ {pc : Nat} {ls : Array Slot} {H : Heap} {locs : List Loc} {L1 : List Nat} {M1 : mm_M} {cells slots : Nat}, decode cc pc = .ok (.return_, 1) → mm_V A D L1 M1 s H locs → cells ≤ mc → slots ≤ ms → post L1 M1 → W p l e R s m args below meth c H locs cells slots Q (F0 m pc ls [])) →
      W p l e R s m args below meth c H locs 0 0 Q (F0 m 0 ls [])) : mm_Cv l D dA y ws k mc ms av L M post := by
  intro sz
  refine Met.ofW (cc := cc) (maxL := maxL) (ret := none) hy hw ?_
  intro p e s m args below meth c s₁ B hml hv
  obtain ⟨rfl, rfl, hP, hN, hK⟩ := hv
  have hl := lv_entry av (n := maxL) hlen
  rw [lg_entry_eq]
  refine body p e _ s m _ below meth c (mm_A L s.heap.size) _ _ _ _ rfl B.exec B.bytes hml (name_of_methodNamed B.named B.method).1 (findClass_of_methodNamed B.named) (atoms_spec (ws := ws) B.pre) hK ⟨hP, hN, fun a h => Or.inl h, va_S.rf, fun q h => Or.inr h⟩ hl ?_
  intro pc ls H locs L1 M1 cells slots hdg hV hc hs hp
  exact mm_ret_v (post := post) B.exec B.bytes B.returns B.notSynchronized hV hc hs hdg hp
theorem mm_levR {R : Room} {k2 k mc ms mc2 ms2 maxL : Nat} (hR : R = mm_rm k mc ms) (h : k2 < k) (hm : maxL ≤ 21) : (mm_rm k2 mc2 ms2).frames + 1 ≤ R.frames ∧ 8 + (maxL + 11) + (mm_rm k2 mc2 ms2).locals ≤ R.locals := by
  subst hR; exact mm_lev h hm
/-- contracts without new cells: a pure answer; an effect; an answer and an effect -/
def mm_Cp (l : Launch) (D : va_G) (dA : Nat → ClassId) (y : MethodName) (ws : List Cond) (k : Nat) (av : List Value) (L : List Nat) (M : mm_M) (v : Int32) : Prop := mm_Ci l D dA y ws k 0 0 av L M (fun r L1 M1 => r = v ∧ L1 = L ∧ M1 = M)
def mm_Cm (l : Launch) (D : va_G) (dA : Nat → ClassId) (y : MethodName) (ws : List Cond) (k : Nat) (av : List Value) (L : List Nat) (M : mm_M) (P : mm_M → Prop) : Prop := mm_Cv l D dA y ws k 0 0 av L M (fun L1 M1 => L1 = L ∧ P M1)
def mm_Cn (l : Launch) (D : va_G) (dA : Nat → ClassId) (y : MethodName) (ws : List Cond) (k : Nat) (av : List Value) (L : List Nat) (M : mm_M) (P : Int32 → mm_M → Prop) : Prop := mm_Ci l D dA y ws k 0 0 av L M (fun r L1 M1 => L1 = L ∧ P r M1)
section MMP
variable {p : Program} {l : Launch} {e : Env} {R : Room} {s : State} {m : MethodId} {args : Array Value} {below : List Frame} {meth : Method} {c : Code} {H : Heap} {locs : List Loc} {cells slots : Nat} {Q : State → Prop}
variable {cc : ByteArray} {pc : Nat} {ls : Array Slot} {rest st : List Value} {D : va_G} {dA : Nat → ClassId} {A : Nat → Prop} {L : List Nat} {M : mm_M}
variable {y : MethodName} {bytes : ByteArray} {maxL nL k2 n index : Nat} {ret : Option FieldType} {ws : List Cond} {Ts : List Cond} {own C : String} {b : Addr} {As : List Value}
theorem mm_Vp {v : Int32} {ci : Nat} {fs : List Value} {T : u_T} {N : Nat} (S : CallFix p m c cc nL s args Ts own) (hK : mm_K D dA s) (hV : mm_V A D L M s H locs) (hM : mm_Cp l D dA y ws k2 (.ref b :: As) L M v) (cw : CallW R s args own C index y bytes maxL ret ws (mm_rm k2 0 0) 0 0 n) (hbL : b ∈ L) (hbe : M b = .inr (ci, fs)) (hc : vwCl[ci]? = some (C, T, N)) (hn : As.length = n) (hsz : ls.size = nL) (hst : st = As.reverse ++ .ref b :: rest) (hW : (rest.map fun v => v.category).sum ≤ 8) (hdg : decode cc pc = .ok (.invokevirtual index, 3)) (hf : cells ≤ R.cells ∧ slots ≤ R.slots)
    (kk : ∀ (H1 : Heap) (locs1 : List Loc), mm_V A D L M s H1 locs1 → W p l e R s m args below meth c H1 locs1 cells slots Q (F0 m (pc + 3) ls (.int v :: rest))) : W p l e R s m args below meth c H locs cells slots Q (F0 m pc ls st) := by
  refine mm_Vi S hK hV hM cw hbL hbe hc hn hsz hst hW hdg hf (fun r L1 M1 H1 locs1 hp hV1 => ?_)
  obtain ⟨rfl, h2, h3⟩ := hp
  rw [h2, h3] at hV1
  exact kk H1 locs1 hV1
theorem mm_Vm {P : mm_M → Prop} {ci : Nat} {fs : List Value} {T : u_T} {N : Nat} (S : CallFix p m c cc nL s args Ts own) (hK : mm_K D dA s) (hV : mm_V A D L M s H locs) (hM : mm_Cm l D dA y ws k2 (.ref b :: As) L M P) (cw : CallW R s args own C index y bytes maxL ret ws (mm_rm k2 0 0) 0 0 n) (hbL : b ∈ L) (hbe : M b = .inr (ci, fs)) (hc : vwCl[ci]? = some (C, T, N)) (hn : As.length = n) (hsz : ls.size = nL) (hst : st = As.reverse ++ .ref b :: rest) (hW : (rest.map fun v => v.category).sum ≤ 8) (hdg : decode cc pc = .ok (.invokevirtual index, 3)) (hf : cells ≤ R.cells ∧ slots ≤ R.slots)
    (kk : ∀ (M1 : mm_M) (H1 : Heap) (locs1 : List Loc), P M1 → mm_V A D L M1 s H1 locs1 → W p l e R s m args below meth c H1 locs1 cells slots Q (F0 m (pc + 3) ls rest)) : W p l e R s m args below meth c H locs cells slots Q (F0 m pc ls st) := by
  refine mm_Vv S hK hV hM cw hbL hbe hc hn hsz hst hW hdg hf (fun L1 M1 H1 locs1 hp hV1 => ?_)
  obtain ⟨h2, h3⟩ := hp
  rw [h2] at hV1
  exact kk M1 H1 locs1 h3 hV1
theorem mm_Vn {P : Int32 → mm_M → Prop} {ci : Nat} {fs : List Value} {T : u_T} {N : Nat} (S : CallFix p m c cc nL s args Ts own) (hK : mm_K D dA s) (hV : mm_V A D L M s H locs) (hM : mm_Cn l D dA y ws k2 (.ref b :: As) L M P) (cw : CallW R s args own C index y bytes maxL ret ws (mm_rm k2 0 0) 0 0 n) (hbL : b ∈ L) (hbe : M b = .inr (ci, fs)) (hc : vwCl[ci]? = some (C, T, N)) (hn : As.length = n) (hsz : ls.size = nL) (hst : st = As.reverse ++ .ref b :: rest) (hW : (rest.map fun v => v.category).sum ≤ 8) (hdg : decode cc pc = .ok (.invokevirtual index, 3)) (hf : cells ≤ R.cells ∧ slots ≤ R.slots)
    (kk : ∀ (r : Int32) (M1 : mm_M) (H1 : Heap) (locs1 : List Loc), P r M1 → mm_V A D L M1 s H1 locs1 → W p l e R s m args below meth c H1 locs1 cells slots Q (F0 m (pc + 3) ls (.int r :: rest))) : W p l e R s m args below meth c H locs cells slots Q (F0 m pc ls st) := by
  refine mm_Vi S hK hV hM cw hbL hbe hc hn hsz hst hW hdg hf (fun r L1 M1 H1 locs1 hp hV1 => ?_)
  obtain ⟨h2, h3⟩ := hp
  rw [h2] at hV1
  exact kk r M1 H1 locs1 h3 hV1
theorem mm_Sp {v : Int32} (S : CallFix p m c cc nL s args Ts own) (hK : mm_K D dA s) (hV : mm_V A D L M s H locs) (hM : mm_Cp l D dA y ws k2 As L M v) (cw : CallB R s args own index y bytes maxL ret ws (mm_rm k2 0 0) 0 0 n ∧ (Cond.static y).before args s = true) (hn : As.length = n) (hsz : ls.size = nL) (hst : st = As.reverse ++ rest) (hW : (rest.map fun v => v.category).sum ≤ 8) (hdg : decode cc pc = .ok (.invokestatic index, 3)) (hf : cells ≤ R.cells ∧ slots ≤ R.slots)
    (kk : ∀ (H1 : Heap) (locs1 : List Loc), mm_V A D L M s H1 locs1 → W p l e R s m args below meth c H1 locs1 cells slots Q (F0 m (pc + 3) ls (.int v :: rest))) : W p l e R s m args below meth c H locs cells slots Q (F0 m pc ls st) := by
  refine mm_Si S hK hV hM cw hn hsz hst hW hdg hf (fun r L1 M1 H1 locs1 hp hV1 => ?_)
  obtain ⟨rfl, h2, h3⟩ := hp
  rw [h2, h3] at hV1
  exact kk H1 locs1 hV1
theorem mm_Sn {P : Int32 → mm_M → Prop} (S : CallFix p m c cc nL s args Ts own) (hK : mm_K D dA s) (hV : mm_V A D L M s H locs) (hM : mm_Cn l D dA y ws k2 As L M P) (cw : CallB R s args own index y bytes maxL ret ws (mm_rm k2 0 0) 0 0 n ∧ (Cond.static y).before args s = true) (hn : As.length = n) (hsz : ls.size = nL) (hst : st = As.reverse ++ rest) (hW : (rest.map fun v => v.category).sum ≤ 8) (hdg : decode cc pc = .ok (.invokestatic index, 3)) (hf : cells ≤ R.cells ∧ slots ≤ R.slots)
    (kk : ∀ (r : Int32) (M1 : mm_M) (H1 : Heap) (locs1 : List Loc), P r M1 → mm_V A D L M1 s H1 locs1 → W p l e R s m args below meth c H1 locs1 cells slots Q (F0 m (pc + 3) ls (.int r :: rest))) : W p l e R s m args below meth c H locs cells slots Q (F0 m pc ls st) := by
  refine mm_Si S hK hV hM cw hn hsz hst hW hdg hf (fun r L1 M1 H1 locs1 hp hV1 => ?_)
  obtain ⟨h2, h3⟩ := hp
  rw [h2] at hV1
  exact kk r M1 H1 locs1 h3 hV1
end MMP
end
section
/-! Positions: five ints (white, black, kings, mover, kingSteps) -/
abbrev Ps : Type := Int32 × Int32 × Int32 × Int32 × Int32
def oP (P : Ps) : va_E := .inr (2, [.int P.1, .int P.2.1, .int P.2.2.1, .int P.2.2.2.1, .int P.2.2.2.2])
theorem mm_fin1 {M M1 : mm_M} {a : Nat} {e : va_E} (h : M1 a = e) (fr : ∀ q : Nat, q ≠ a → M1 q = M q) : M1 = va_up M a e := by
  funext q
  by_cases hq : q = a
  · subst hq; rw [va_up_self]; exact h
  · rw [va_up_ne _ _ hq]; exact fr q hq
theorem mm_fin2 {M M1 : mm_M} {a b : Nat} {e f : va_E} (h : M1 a = e) (h2 : M1 b = f) (hab : a ≠ b) (fr : ∀ q : Nat, q ≠ a → q ≠ b → M1 q = M q) : M1 = va_up (va_up M a e) b f := by
  funext q
  by_cases hq : q = b
  · subst hq; rw [va_up_self]; exact h2
  · rw [va_up_ne _ _ hq]
    by_cases hq2 : q = a
    · subst hq2; rw [va_up_self]; exact h
    · rw [va_up_ne _ _ hq2]; exact fr q hq2 hq
/-- what a move's int says -/
def mvB (x : Int32) : Int32 := (x >>> ((23 : Int32) &&& 31)) &&& 31
def mvE (x : Int32) : Int32 := (x >>> ((18 : Int32) &&& 31)) &&& 31
def mvT (x : Int32) : Int32 := x &&& 262143
def ush (x k : Int32) : Int32 := (x.toUInt32 >>> (k.toUInt32 &&& Int32.toUInt32 31)).toInt32
/-- Integer.bitCount, as its code goes -/
def bitC (x : Int32) : Int32 :=
  let a := x - (ush x 1 &&& 1431655765)
  let b := (a &&& 858993459) + (ush a 2 &&& 858993459)
  let c := (b + ush b 4) &&& 252645135
  let d := c + ush c 8
  let f := d + ush d 16
  f &&& 63
def ownP (P : Ps) : Int32 := if P.2.2.2.1 = 0 then P.1 else P.2.1
def othP (P : Ps) : Int32 := if P.2.2.2.1 = 0 then P.2.1 else P.1
def kingP (P : Ps) (q : Int32) : Int32 := if (P.2.2.1 >>> (q &&& 31)) &&& 1 = 0 then 0 else 1
def oneP (P : Ps) : Int32 := if bitC P.1 = 1 then (if bitC P.2.1 = 1 then 1 else 0) else 0
def pieceP (P : Ps) (bit : Int32) : Int32 := if P.1 &&& bit = 0 then (if P.2.1 &&& bit = 0 then 0 else (if P.2.2.1 &&& bit = 0 then 3 else 4)) else (if P.2.2.1 &&& bit = 0 then 1 else 2)
def placeP (P : Ps) (bit pc : Int32) : Ps :=
  (if pc = 1 ∨ pc = 2 then (P.1 &&& (bit ^^^ (-1))) ||| bit else P.1 &&& (bit ^^^ (-1)), if pc = 3 ∨ pc = 4 then (P.2.1 &&& (bit ^^^ (-1))) ||| bit else P.2.1 &&& (bit ^^^ (-1)), if pc = 2 ∨ pc = 4 then (P.2.2.1 &&& (bit ^^^ (-1))) ||| bit else P.2.2.1 &&& (bit ^^^ (-1)), P.2.2.2.1, P.2.2.2.2)
def setUpP : Ps := (63, 258048, 0, 0, 0)
def wipeP : Ps := (0, 0, 0, 0, 0)
def balP (P : Ps) : Int32 := (2 * bitC (ownP P) + bitC (ownP P &&& P.2.2.1)) - (2 * bitC (othP P) + bitC (othP P &&& P.2.2.1))
def followP (P : Ps) (x : Int32) : Ps :=
  let st := (1 : Int32) <<< (mvB x &&& 31)
  let go := (1 : Int32) <<< (mvE x &&& 31)
  let tk := mvT x
  let kg := P.2.2.1 &&& (st ^^^ (-1)) &&& (tk ^^^ (-1))
  if P.2.2.2.1 = 0 then
    (P.1 &&& (st ^^^ (-1)) ||| go, P.2.1 &&& (tk ^^^ (-1)), (if P.2.2.1 &&& st = 0 then (if go &&& 229376 = 0 then kg else kg ||| go) else kg ||| go), 1, (if P.2.2.1 &&& st = 0 then 0 else (if tk = 0 then P.2.2.2.2 + 1 else 0)))
  else
    (P.1 &&& (tk ^^^ (-1)), P.2.1 &&& (st ^^^ (-1)) ||| go, (if P.2.2.1 &&& st = 0 then (if go &&& 7 = 0 then kg else kg ||| go) else kg ||| go), 0, (if P.2.2.1 &&& st = 0 then 0 else (if tk = 0 then P.2.2.2.2 + 1 else 0)))

set_option maxHeartbeats 4000000 in
set_option maxRecDepth 100000 in
theorem c_X1_beginning (l : Launch) (D : va_G) (dA : Nat → ClassId) {L : List Nat} {M : mm_M} (x : Int32)  : mm_Cp l D dA yX1_beginning wsX1_beginning 0 [.int x] L M (mvB x) := by
  refine mm_enter_i (cc := cX1_beginning) (maxL := 1) (by decide) rfl (Nat.le_of_ble_eq_true rfl) ?_
  intro p e R s m args below meth c A ls H locs Q hR hx hb hml hin hown hts hK hV hl hret
  have hl : lv_has ls 1 [(0, .int x)] := hl
  have hown : s.vm.findClass RX1 = some m.cls := hown
  refine lv_iload_n hx hb dX1_beginning_0 rfl (lv_at hl 0 rfl) ?_
  refine lv_bipush (v := 23) hx hb dX1_beginning_1 (by decide) ?_
  refine lv_ishr hx hb dX1_beginning_3 ?_
  refine lv_bipush (v := 31) hx hb dX1_beginning_4 (by decide) ?_
  refine lv_iand hx hb dX1_beginning_6 ?_
  exact hret (v := ((x >>> (23 &&& 31)) &&& 31)) dX1_beginning_7 hV (by decide) (by decide) ⟨rfl, rfl, rfl⟩

set_option maxHeartbeats 4000000 in
set_option maxRecDepth 100000 in
theorem c_X1_end (l : Launch) (D : va_G) (dA : Nat → ClassId) {L : List Nat} {M : mm_M} (x : Int32)  : mm_Cp l D dA yX1_end wsX1_end 0 [.int x] L M (mvE x) := by
  refine mm_enter_i (cc := cX1_end) (maxL := 1) (by decide) rfl (Nat.le_of_ble_eq_true rfl) ?_
  intro p e R s m args below meth c A ls H locs Q hR hx hb hml hin hown hts hK hV hl hret
  have hl : lv_has ls 1 [(0, .int x)] := hl
  have hown : s.vm.findClass RX1 = some m.cls := hown
  refine lv_iload_n hx hb dX1_end_0 rfl (lv_at hl 0 rfl) ?_
  refine lv_bipush (v := 18) hx hb dX1_end_1 (by decide) ?_
  refine lv_ishr hx hb dX1_end_3 ?_
  refine lv_bipush (v := 31) hx hb dX1_end_4 (by decide) ?_
  refine lv_iand hx hb dX1_end_6 ?_
  exact hret (v := ((x >>> (18 &&& 31)) &&& 31)) dX1_end_7 hV (by decide) (by decide) ⟨rfl, rfl, rfl⟩

set_option maxHeartbeats 4000000 in
set_option maxRecDepth 100000 in
theorem c_X1_taken (l : Launch) (D : va_G) (dA : Nat → ClassId) {L : List Nat} {M : mm_M} (x : Int32)  : mm_Cp l D dA yX1_taken wsX1_taken 0 [.int x] L M (mvT x) := by
  refine mm_enter_i (cc := cX1_taken) (maxL := 1) (by decide) rfl (Nat.le_of_ble_eq_true rfl) ?_
  intro p e R s m args below meth c A ls H locs Q hR hx hb hml hin hown hts hK hV hl hret
  have hl : lv_has ls 1 [(0, .int x)] := hl
  have hown : s.vm.findClass RX1 = some m.cls := hown
  refine lv_iload_n hx hb dX1_taken_0 rfl (lv_at hl 0 rfl) ?_
  refine lv_ldc hx hb hown (hts (.constant RX1 15 (262143)) (by decide +kernel)) dX1_taken_1 ?_
  refine lv_iand hx hb dX1_taken_3 ?_
  exact hret (v := (x &&& 262143)) dX1_taken_4 hV (by decide) (by decide) ⟨rfl, rfl, rfl⟩

set_option maxHeartbeats 4000000 in
set_option maxRecDepth 100000 in
theorem c_bitCount (l : Launch) (D : va_G) (dA : Nat → ClassId) {L : List Nat} {M : mm_M} (x : Int32)  : mm_Cp l D dA yJ6_bitCount_0f7a4 wsJ6_bitCount_0f7a4 0 [.int x] L M (bitC x) := by
  refine mm_enter_i (cc := cJ6_bitCount_0f7a4) (maxL := 1) (by decide) rfl (Nat.le_of_ble_eq_true rfl) ?_
  intro p e R s m args below meth c A ls H locs Q hR hx hb hml hin hown hts hK hV hl hret
  have hl : lv_has ls 1 [(0, .int x)] := hl
  have hown : s.vm.findClass RJ6 = some m.cls := hown
  refine lv_iload_n hx hb dJ6_bitCount_0f7a4_0 rfl (lv_at hl 0 rfl) ?_
  refine lv_iload_n hx hb dJ6_bitCount_0f7a4_1 rfl (lv_at hl 0 rfl) ?_
  refine lv_iconst (v := 1) hx hb dJ6_bitCount_0f7a4_2 (by decide) ?_
  refine lv_iushr hx hb dJ6_bitCount_0f7a4_3 rfl ?_
  refine lv_ldcw hx hb hown (hts (.constant RJ6 265 (1431655765)) (by decide +kernel)) dJ6_bitCount_0f7a4_4 ?_
  refine lv_iand hx hb dJ6_bitCount_0f7a4_7 ?_
  refine lv_isub hx hb dJ6_bitCount_0f7a4_8 ?_
  refine lv_topi (fun x0_1 ex0_1 => ?_)
  refine lv_istore_n (lv' := [(0, .int x0_1)]) hx hb dJ6_bitCount_0f7a4_9 rfl hl (by decide) rfl (fun ls hl => ?_)
  refine lv_iload_n hx hb dJ6_bitCount_0f7a4_10 rfl (lv_at hl 0 rfl) ?_
  refine lv_ldcw hx hb hown (hts (.constant RJ6 266 (858993459)) (by decide +kernel)) dJ6_bitCount_0f7a4_11 ?_
  refine lv_iand hx hb dJ6_bitCount_0f7a4_14 ?_
  refine lv_iload_n hx hb dJ6_bitCount_0f7a4_15 rfl (lv_at hl 0 rfl) ?_
  refine lv_iconst (v := 2) hx hb dJ6_bitCount_0f7a4_16 (by decide) ?_
  refine lv_iushr hx hb dJ6_bitCount_0f7a4_17 rfl ?_
  refine lv_ldcw hx hb hown (hts (.constant RJ6 266 (858993459)) (by decide +kernel)) dJ6_bitCount_0f7a4_18 ?_
  refine lv_iand hx hb dJ6_bitCount_0f7a4_21 ?_
  refine lv_iadd hx hb dJ6_bitCount_0f7a4_22 ?_
  refine lv_topi (fun x0_2 ex0_2 => ?_)
  refine lv_istore_n (lv' := [(0, .int x0_2)]) hx hb dJ6_bitCount_0f7a4_23 rfl hl (by decide) rfl (fun ls hl => ?_)
  refine lv_iload_n hx hb dJ6_bitCount_0f7a4_24 rfl (lv_at hl 0 rfl) ?_
  refine lv_iload_n hx hb dJ6_bitCount_0f7a4_25 rfl (lv_at hl 0 rfl) ?_
  refine lv_iconst (v := 4) hx hb dJ6_bitCount_0f7a4_26 (by decide) ?_
  refine lv_iushr hx hb dJ6_bitCount_0f7a4_27 rfl ?_
  refine lv_iadd hx hb dJ6_bitCount_0f7a4_28 ?_
  refine lv_ldcw hx hb hown (hts (.constant RJ6 267 (252645135)) (by decide +kernel)) dJ6_bitCount_0f7a4_29 ?_
  refine lv_iand hx hb dJ6_bitCount_0f7a4_32 ?_
  refine lv_topi (fun x0_3 ex0_3 => ?_)
  refine lv_istore_n (lv' := [(0, .int x0_3)]) hx hb dJ6_bitCount_0f7a4_33 rfl hl (by decide) rfl (fun ls hl => ?_)
  refine lv_iload_n hx hb dJ6_bitCount_0f7a4_34 rfl (lv_at hl 0 rfl) ?_
  refine lv_iload_n hx hb dJ6_bitCount_0f7a4_35 rfl (lv_at hl 0 rfl) ?_
  refine lv_bipush (v := 8) hx hb dJ6_bitCount_0f7a4_36 (by decide) ?_
  refine lv_iushr hx hb dJ6_bitCount_0f7a4_38 rfl ?_
  refine lv_iadd hx hb dJ6_bitCount_0f7a4_39 ?_
  refine lv_topi (fun x0_4 ex0_4 => ?_)
  refine lv_istore_n (lv' := [(0, .int x0_4)]) hx hb dJ6_bitCount_0f7a4_40 rfl hl (by decide) rfl (fun ls hl => ?_)
  refine lv_iload_n hx hb dJ6_bitCount_0f7a4_41 rfl (lv_at hl 0 rfl) ?_
  refine lv_iload_n hx hb dJ6_bitCount_0f7a4_42 rfl (lv_at hl 0 rfl) ?_
  refine lv_bipush (v := 16) hx hb dJ6_bitCount_0f7a4_43 (by decide) ?_
  refine lv_iushr hx hb dJ6_bitCount_0f7a4_45 rfl ?_
  refine lv_iadd hx hb dJ6_bitCount_0f7a4_46 ?_
  refine lv_topi (fun x0_5 ex0_5 => ?_)
  refine lv_istore_n (lv' := [(0, .int x0_5)]) hx hb dJ6_bitCount_0f7a4_47 rfl hl (by decide) rfl (fun ls hl => ?_)
  refine lv_iload_n hx hb dJ6_bitCount_0f7a4_48 rfl (lv_at hl 0 rfl) ?_
  refine lv_bipush (v := 63) hx hb dJ6_bitCount_0f7a4_49 (by decide) ?_
  refine lv_iand hx hb dJ6_bitCount_0f7a4_51 ?_
  exact hret (v := (x0_5 &&& 63)) dJ6_bitCount_0f7a4_52 hV (by decide) (by decide) ⟨by subst_vars; rfl, rfl, rfl⟩

set_option maxHeartbeats 4000000 in
set_option maxRecDepth 100000 in
theorem c_own (l : Launch) (D : va_G) (dA : Nat → ClassId) {L : List Nat} {M : mm_M} {a : Nat} {P : Ps} (i_a : a ∈ L) (m_a : M a = oP P) : mm_Cp l D dA yX2_own wsX2_own 0 [.ref a] L M (ownP P) := by
  obtain ⟨w, b, k, mv, q⟩ := P
  have m_a : M a = .inr (2, [.int w, .int b, .int k, .int mv, .int q]) := m_a
  refine mm_enter_i (cc := cX2_own) (maxL := 1) (by decide) rfl (Nat.le_of_ble_eq_true rfl) ?_
  intro p e R s m args below meth c A ls H locs Q hR hx hb hml hin hown hts hK hV hl hret
  have hl : lv_has ls 1 [(0, .ref a)] := hl
  have hown : s.vm.findClass RX2 = some m.cls := hown
  have f_21 := hts (.fieldLink RX2 21 "JumpBoard$Position" "mover" "I") (by decide +kernel)
  have in_X2 : ∀ w ∈ wsX20, w ∈ wsX2_own := by decide +kernel
  have f_15 := hts (.fieldLink RX2 15 "JumpBoard$Position" "black" "I") (by decide +kernel)
  have f_9 := hts (.fieldLink RX2 9 "JumpBoard$Position" "white" "I") (by decide +kernel)
  refine lv_aload_n hx hb dX2_own_0 rfl (lv_at hl 0 rfl) ?_
  refine mm_get (ci := 2) (C := RX2) (T := TX2) (N := 5) hx hb hts in_X2 hown hK hV i_a m_a rfl 3 (by decide) f_21 (fun _ h => h) rfl dX2_own_1 ?_
  have J18 : ∀ (v18_1 : Int32), v18_1 = (if mv = 0 then w else b) → W p l e R s m args below meth c H locs 0 0 Q (F0 m 18 ls [.int v18_1]) := by
    intro v18_1 ev18_1
    exact hret (v := v18_1) dX2_own_18 hV (by decide) (by decide) ⟨by subst_vars; rfl, rfl, rfl⟩
  refine lv_if_ne (tgt := 14) hx hb dX2_own_4 (by decide) (fun c4 => ?_) (fun c4 => ?_)
  · refine lv_aload_n hx hb dX2_own_14 rfl (lv_at hl 0 rfl) ?_
    refine mm_get (ci := 2) (C := RX2) (T := TX2) (N := 5) hx hb hts in_X2 hown hK hV i_a m_a rfl 1 (by decide) f_15 (fun _ h => h) rfl dX2_own_15 ?_
    exact J18 _ (by rw [if_neg c4])
  · refine lv_aload_n hx hb dX2_own_7 rfl (lv_at hl 0 rfl) ?_
    refine mm_get (ci := 2) (C := RX2) (T := TX2) (N := 5) hx hb hts in_X2 hown hK hV i_a m_a rfl 0 (by decide) f_9 (fun _ h => h) rfl dX2_own_8 ?_
    refine lv_goto (tgt := 18) hx hb dX2_own_11 (by decide) ?_
    exact J18 _ (by rw [if_pos c4])

set_option maxHeartbeats 4000000 in
set_option maxRecDepth 100000 in
theorem c_others (l : Launch) (D : va_G) (dA : Nat → ClassId) {L : List Nat} {M : mm_M} {a : Nat} {P : Ps} (i_a : a ∈ L) (m_a : M a = oP P) : mm_Cp l D dA yX2_others wsX2_others 0 [.ref a] L M (othP P) := by
  obtain ⟨w, b, k, mv, q⟩ := P
  have m_a : M a = .inr (2, [.int w, .int b, .int k, .int mv, .int q]) := m_a
  refine mm_enter_i (cc := cX2_others) (maxL := 1) (by decide) rfl (Nat.le_of_ble_eq_true rfl) ?_
  intro p e R s m args below meth c A ls H locs Q hR hx hb hml hin hown hts hK hV hl hret
  have hl : lv_has ls 1 [(0, .ref a)] := hl
  have hown : s.vm.findClass RX2 = some m.cls := hown
  have f_21 := hts (.fieldLink RX2 21 "JumpBoard$Position" "mover" "I") (by decide +kernel)
  have in_X2 : ∀ w ∈ wsX20, w ∈ wsX2_others := by decide +kernel
  have f_9 := hts (.fieldLink RX2 9 "JumpBoard$Position" "white" "I") (by decide +kernel)
  have f_15 := hts (.fieldLink RX2 15 "JumpBoard$Position" "black" "I") (by decide +kernel)
  refine lv_aload_n hx hb dX2_others_0 rfl (lv_at hl 0 rfl) ?_
  refine mm_get (ci := 2) (C := RX2) (T := TX2) (N := 5) hx hb hts in_X2 hown hK hV i_a m_a rfl 3 (by decide) f_21 (fun _ h => h) rfl dX2_others_1 ?_
  have J18 : ∀ (v18_1 : Int32), v18_1 = (if mv = 0 then b else w) → W p l e R s m args below meth c H locs 0 0 Q (F0 m 18 ls [.int v18_1]) := by
    intro v18_1 ev18_1
    exact hret (v := v18_1) dX2_others_18 hV (by decide) (by decide) ⟨by subst_vars; rfl, rfl, rfl⟩
  refine lv_if_ne (tgt := 14) hx hb dX2_others_4 (by decide) (fun c4 => ?_) (fun c4 => ?_)
  · refine lv_aload_n hx hb dX2_others_14 rfl (lv_at hl 0 rfl) ?_
    refine mm_get (ci := 2) (C := RX2) (T := TX2) (N := 5) hx hb hts in_X2 hown hK hV i_a m_a rfl 0 (by decide) f_9 (fun _ h => h) rfl dX2_others_15 ?_
    exact J18 _ (by rw [if_neg c4])
  · refine lv_aload_n hx hb dX2_others_7 rfl (lv_at hl 0 rfl) ?_
    refine mm_get (ci := 2) (C := RX2) (T := TX2) (N := 5) hx hb hts in_X2 hown hK hV i_a m_a rfl 1 (by decide) f_15 (fun _ h => h) rfl dX2_others_8 ?_
    refine lv_goto (tgt := 18) hx hb dX2_others_11 (by decide) ?_
    exact J18 _ (by rw [if_pos c4])

set_option maxHeartbeats 4000000 in
set_option maxRecDepth 100000 in
theorem c_isKing (l : Launch) (D : va_G) (dA : Nat → ClassId) {L : List Nat} {M : mm_M} {a : Nat} {P : Ps} (sq : Int32) (i_a : a ∈ L) (m_a : M a = oP P) : mm_Cp l D dA yX2_isKing wsX2_isKing 0 [.ref a, .int sq] L M (kingP P sq) := by
  obtain ⟨w, b, k, mv, q⟩ := P
  have m_a : M a = .inr (2, [.int w, .int b, .int k, .int mv, .int q]) := m_a
  refine mm_enter_z (cc := cX2_isKing) (maxL := 2) (by decide) rfl (Nat.le_of_ble_eq_true rfl) ?_
  intro p e R s m args below meth c A ls H locs Q hR hx hb hml hin hown hts hK hV hl hret
  have hl : lv_has ls 2 [(0, .ref a), (1, .int sq)] := hl
  have hown : s.vm.findClass RX2 = some m.cls := hown
  have f_18 := hts (.fieldLink RX2 18 "JumpBoard$Position" "kings" "I") (by decide +kernel)
  have in_X2 : ∀ w ∈ wsX20, w ∈ wsX2_isKing := by decide +kernel
  refine lv_aload_n hx hb dX2_isKing_0 rfl (lv_at hl 0 rfl) ?_
  refine mm_get (ci := 2) (C := RX2) (T := TX2) (N := 5) hx hb hts in_X2 hown hK hV i_a m_a rfl 2 (by decide) f_18 (fun _ h => h) rfl dX2_isKing_1 ?_
  refine lv_iload_n hx hb dX2_isKing_4 rfl (lv_at hl 1 rfl) ?_
  refine lv_ishr hx hb dX2_isKing_5 ?_
  refine lv_iconst (v := 1) hx hb dX2_isKing_6 (by decide) ?_
  refine lv_iand hx hb dX2_isKing_7 ?_
  have J16 : ∀ (v16_1 : Int32), v16_1 = (if ((k >>> (sq &&& 31)) &&& 1) = 0 then 0 else 1) → W p l e R s m args below meth c H locs 0 0 Q (F0 m 16 ls [.int v16_1]) := by
    intro v16_1 ev16_1
    exact hret (v := v16_1) dX2_isKing_16 hV (by decide) (by decide) (by subst_vars; (repeat' split) <;> first | exact Or.inl rfl | exact Or.inr rfl) ⟨by subst_vars; rfl, rfl, rfl⟩
  refine lv_if_eq (tgt := 15) hx hb dX2_isKing_8 (by decide) (fun c8 => ?_) (fun c8 => ?_)
  · refine lv_iconst (v := 0) hx hb dX2_isKing_15 (by decide) ?_
    exact J16 _ (by rw [if_pos c8])
  · refine lv_iconst (v := 1) hx hb dX2_isKing_11 (by decide) ?_
    refine lv_goto (tgt := 16) hx hb dX2_isKing_12 (by decide) ?_
    exact J16 _ (by rw [if_neg c8])

set_option maxHeartbeats 4000000 in
set_option maxRecDepth 100000 in
theorem c_isOneEach (l : Launch) (D : va_G) (dA : Nat → ClassId) {L : List Nat} {M : mm_M} {a : Nat} {P : Ps} (i_a : a ∈ L) (m_a : M a = oP P) : mm_Cp l D dA yX2_isOneEach wsX2_isOneEach 1 [.ref a] L M (oneP P) := by
  obtain ⟨w, b, k, mv, q⟩ := P
  have m_a : M a = .inr (2, [.int w, .int b, .int k, .int mv, .int q]) := m_a
  refine mm_enter_z (cc := cX2_isOneEach) (maxL := 1) (by decide) rfl (Nat.le_of_ble_eq_true rfl) ?_
  intro p e R s m args below meth c A ls H locs Q hR hx hb hml hin hown hts hK hV hl hret
  have hl : lv_has ls 1 [(0, .ref a)] := hl
  have hown : s.vm.findClass RX2 = some m.cls := hown
  have f_9 := hts (.fieldLink RX2 9 "JumpBoard$Position" "white" "I") (by decide +kernel)
  have in_X2 : ∀ w ∈ wsX20, w ∈ wsX2_isOneEach := by decide +kernel
  have f_15 := hts (.fieldLink RX2 15 "JumpBoard$Position" "black" "I") (by decide +kernel)
  refine lv_aload_n hx hb dX2_isOneEach_0 rfl (lv_at hl 0 rfl) ?_
  refine mm_get (ci := 2) (C := RX2) (T := TX2) (N := 5) hx hb hts in_X2 hown hK hV i_a m_a rfl 0 (by decide) f_9 (fun _ h => h) rfl dX2_isOneEach_1 ?_
  refine mm_Sp (v := (bitC w)) (As := [.int w]) (rest := []) ⟨hx, hb, hml, hown, hts⟩ hK hV (c_bitCount l D dA w) (va_cwS 1 hts gX2_isOneEach_J6_bitCount_0f7a4 rfl rfl rfl (by decide +kernel) (mm_levR hR (by omega) (by decide))) rfl hl.1 rfl (Nat.le_of_ble_eq_true rfl) dX2_isOneEach_4 ⟨Nat.zero_le _, Nat.zero_le _⟩ (fun H locs hV => ?_)
  refine lv_iconst (v := 1) hx hb dX2_isOneEach_7 (by decide) ?_
  have J27 : ∀ (v27_1 : Int32) (H : Heap) (locs : List Loc), v27_1 = (if bitC w = 1 then (if bitC b = 1 then 1 else 0) else 0) → mm_V A D L M s H locs → W p l e R s m args below meth c H locs 0 0 Q (F0 m 27 ls [.int v27_1]) := by
    intro v27_1 H locs ev27_1 hV
    exact hret (v := v27_1) dX2_isOneEach_27 hV (by decide) (by decide) (by subst_vars; (repeat' split) <;> first | exact Or.inl rfl | exact Or.inr rfl) ⟨by subst_vars; rfl, rfl, rfl⟩
  refine lv_icmp_ne (tgt := 26) hx hb dX2_isOneEach_8 (by decide) (fun c8 => ?_) (fun c8 => ?_)
  · refine lv_iconst (v := 0) hx hb dX2_isOneEach_26 (by decide) ?_
    exact J27 _ _ _ (by rw [if_neg c8]) hV
  · refine lv_aload_n hx hb dX2_isOneEach_11 rfl (lv_at hl 0 rfl) ?_
    refine mm_get (ci := 2) (C := RX2) (T := TX2) (N := 5) hx hb hts in_X2 hown hK hV i_a m_a rfl 1 (by decide) f_15 (fun _ h => h) rfl dX2_isOneEach_12 ?_
    refine mm_Sp (v := (bitC b)) (As := [.int b]) (rest := []) ⟨hx, hb, hml, hown, hts⟩ hK hV (c_bitCount l D dA b) (va_cwS 1 hts gX2_isOneEach_J6_bitCount_0f7a4 rfl rfl rfl (by decide +kernel) (mm_levR hR (by omega) (by decide))) rfl hl.1 rfl (Nat.le_of_ble_eq_true rfl) dX2_isOneEach_15 ⟨Nat.zero_le _, Nat.zero_le _⟩ (fun H locs hV => ?_)
    refine lv_iconst (v := 1) hx hb dX2_isOneEach_18 (by decide) ?_
    refine lv_icmp_ne (tgt := 26) hx hb dX2_isOneEach_19 (by decide) (fun c19 => ?_) (fun c19 => ?_)
    · refine lv_iconst (v := 0) hx hb dX2_isOneEach_26 (by decide) ?_
      exact J27 _ _ _ (by rw [if_pos c8, if_neg c19]) hV
    · refine lv_iconst (v := 1) hx hb dX2_isOneEach_22 (by decide) ?_
      refine lv_goto (tgt := 27) hx hb dX2_isOneEach_23 (by decide) ?_
      exact J27 _ _ _ (by rw [if_pos c8, if_pos c19]) hV

set_option maxHeartbeats 4000000 in
set_option maxRecDepth 100000 in
theorem c_pieceOn (l : Launch) (D : va_G) (dA : Nat → ClassId) {L : List Nat} {M : mm_M} {a : Nat} {P : Ps} (bit : Int32) (i_a : a ∈ L) (m_a : M a = oP P) : mm_Cp l D dA yX2_pieceOn wsX2_pieceOn 0 [.ref a, .int bit] L M (pieceP P bit) := by
  obtain ⟨w, b, k, mv, q⟩ := P
  have m_a : M a = .inr (2, [.int w, .int b, .int k, .int mv, .int q]) := m_a
  refine mm_enter_i (cc := cX2_pieceOn) (maxL := 3) (by decide) rfl (Nat.le_of_ble_eq_true rfl) ?_
  intro p e R s m args below meth c A ls H locs Q hR hx hb hml hin hown hts hK hV hl hret
  have hl : lv_has ls 3 [(0, .ref a), (1, .int bit)] := hl
  have hown : s.vm.findClass RX2 = some m.cls := hown
  have f_18 := hts (.fieldLink RX2 18 "JumpBoard$Position" "kings" "I") (by decide +kernel)
  have in_X2 : ∀ w ∈ wsX20, w ∈ wsX2_pieceOn := by decide +kernel
  have f_9 := hts (.fieldLink RX2 9 "JumpBoard$Position" "white" "I") (by decide +kernel)
  have f_15 := hts (.fieldLink RX2 15 "JumpBoard$Position" "black" "I") (by decide +kernel)
  refine lv_aload_n hx hb dX2_pieceOn_0 rfl (lv_at hl 0 rfl) ?_
  refine mm_get (ci := 2) (C := RX2) (T := TX2) (N := 5) hx hb hts in_X2 hown hK hV i_a m_a rfl 2 (by decide) f_18 (fun _ h => h) rfl dX2_pieceOn_1 ?_
  refine lv_iload_n hx hb dX2_pieceOn_4 rfl (lv_at hl 1 rfl) ?_
  refine lv_iand hx hb dX2_pieceOn_5 ?_
  have J14 : ∀ (v14_1 : Int32), v14_1 = (if (k &&& bit) = 0 then 0 else 1) → W p l e R s m args below meth c H locs 0 0 Q (F0 m 14 ls [.int v14_1]) := by
    intro v14_1 ev14_1
    refine lv_istore_n (lv' := [(2, .int v14_1), (0, .ref a), (1, .int bit)]) hx hb dX2_pieceOn_14 rfl hl (by decide) rfl (fun ls hl => ?_)
    refine lv_aload_n hx hb dX2_pieceOn_15 rfl (lv_at hl 1 rfl) ?_
    refine mm_get (ci := 2) (C := RX2) (T := TX2) (N := 5) hx hb hts in_X2 hown hK hV i_a m_a rfl 0 (by decide) f_9 (fun _ h => h) rfl dX2_pieceOn_16 ?_
    refine lv_iload_n hx hb dX2_pieceOn_19 rfl (lv_at hl 2 rfl) ?_
    refine lv_iand hx hb dX2_pieceOn_20 ?_
    refine lv_if_eq (tgt := 34) hx hb dX2_pieceOn_21 (by decide) (fun c21 => ?_) (fun c21 => ?_)
    · refine lv_aload_n hx hb dX2_pieceOn_34 rfl (lv_at hl 1 rfl) ?_
      refine mm_get (ci := 2) (C := RX2) (T := TX2) (N := 5) hx hb hts in_X2 hown hK hV i_a m_a rfl 1 (by decide) f_15 (fun _ h => h) rfl dX2_pieceOn_35 ?_
      refine lv_iload_n hx hb dX2_pieceOn_38 rfl (lv_at hl 2 rfl) ?_
      refine lv_iand hx hb dX2_pieceOn_39 ?_
      refine lv_if_eq (tgt := 53) hx hb dX2_pieceOn_40 (by decide) (fun c40 => ?_) (fun c40 => ?_)
      · refine lv_iconst (v := 0) hx hb dX2_pieceOn_53 (by decide) ?_
        exact hret (v := 0) dX2_pieceOn_54 hV (by decide) (by decide) ⟨by subst_vars; unfold pieceP; simp_all, rfl, rfl⟩
      · refine lv_iload_n hx hb dX2_pieceOn_43 rfl (lv_at hl 0 rfl) ?_
        have J52 : ∀ (v52_2 : Int32), v52_2 = (if v14_1 = 0 then 3 else 4) → W p l e R s m args below meth c H locs 0 0 Q (F0 m 52 ls [.int v52_2]) := by
          intro v52_2 ev52_2
          exact hret (v := v52_2) dX2_pieceOn_52 hV (by decide) (by decide) ⟨by subst_vars; unfold pieceP; simp_all, rfl, rfl⟩
        refine lv_if_eq (tgt := 51) hx hb dX2_pieceOn_44 (by decide) (fun c44 => ?_) (fun c44 => ?_)
        · refine lv_iconst (v := 3) hx hb dX2_pieceOn_51 (by decide) ?_
          exact J52 _ (by rw [if_pos c44])
        · refine lv_iconst (v := 4) hx hb dX2_pieceOn_47 (by decide) ?_
          refine lv_goto (tgt := 52) hx hb dX2_pieceOn_48 (by decide) ?_
          exact J52 _ (by rw [if_neg c44])
    · refine lv_iload_n hx hb dX2_pieceOn_24 rfl (lv_at hl 0 rfl) ?_
      have J33 : ∀ (v33_3 : Int32), v33_3 = (if v14_1 = 0 then 1 else 2) → W p l e R s m args below meth c H locs 0 0 Q (F0 m 33 ls [.int v33_3]) := by
        intro v33_3 ev33_3
        exact hret (v := v33_3) dX2_pieceOn_33 hV (by decide) (by decide) ⟨by subst_vars; unfold pieceP; simp_all, rfl, rfl⟩
      refine lv_if_eq (tgt := 32) hx hb dX2_pieceOn_25 (by decide) (fun c25 => ?_) (fun c25 => ?_)
      · refine lv_iconst (v := 1) hx hb dX2_pieceOn_32 (by decide) ?_
        exact J33 _ (by rw [if_pos c25])
      · refine lv_iconst (v := 2) hx hb dX2_pieceOn_28 (by decide) ?_
        refine lv_goto (tgt := 33) hx hb dX2_pieceOn_29 (by decide) ?_
        exact J33 _ (by rw [if_neg c25])
  refine lv_if_eq (tgt := 13) hx hb dX2_pieceOn_6 (by decide) (fun c6 => ?_) (fun c6 => ?_)
  · refine lv_iconst (v := 0) hx hb dX2_pieceOn_13 (by decide) ?_
    exact J14 _ (by rw [if_pos c6])
  · refine lv_iconst (v := 1) hx hb dX2_pieceOn_9 (by decide) ?_
    refine lv_goto (tgt := 14) hx hb dX2_pieceOn_10 (by decide) ?_
    exact J14 _ (by rw [if_neg c6])

set_option maxHeartbeats 4000000 in
set_option maxRecDepth 100000 in
theorem c_balance (l : Launch) (D : va_G) (dA : Nat → ClassId) {L : List Nat} {M : mm_M} {a : Nat} {P : Ps} (i_a : a ∈ L) (m_a : M a = oP P) : mm_Cp l D dA yX2_balance wsX2_balance 1 [.ref a] L M (balP P) := by
  obtain ⟨w, b, k, mv, q⟩ := P
  have m_a : M a = .inr (2, [.int w, .int b, .int k, .int mv, .int q]) := m_a
  refine mm_enter_i (cc := cX2_balance) (maxL := 3) (by decide) rfl (Nat.le_of_ble_eq_true rfl) ?_
  intro p e R s m args below meth c A ls H locs Q hR hx hb hml hin hown hts hK hV hl hret
  have hl : lv_has ls 3 [(0, .ref a)] := hl
  have hown : s.vm.findClass RX2 = some m.cls := hown
  have f_18 := hts (.fieldLink RX2 18 "JumpBoard$Position" "kings" "I") (by decide +kernel)
  have in_X2 : ∀ w ∈ wsX20, w ∈ wsX2_balance := by decide +kernel
  refine lv_iconst (v := 2) hx hb dX2_balance_0 (by decide) ?_
  refine lv_aload_n hx hb dX2_balance_1 rfl (lv_at hl 0 rfl) ?_
  refine mm_Vp (v := (ownP (w, b, k, mv, q))) (ci := 2) (As := []) (rest := [.int 2]) ⟨hx, hb, hml, hown, hts⟩ hK hV (c_own l D dA (P := (w, b, k, mv, q))  i_a m_a) (cwV 0 hts gX2_balance_X2_own rfl rfl rfl (by decide +kernel) (mm_levR hR (by omega) (by decide))) i_a m_a rfl rfl hl.1 rfl (Nat.le_of_ble_eq_true rfl) dX2_balance_2 ⟨Nat.zero_le _, Nat.zero_le _⟩ (fun H locs hV => ?_)
  refine mm_Sp (v := (bitC (ownP (w, b, k, mv, q)))) (As := [.int (ownP (w, b, k, mv, q))]) (rest := [.int 2]) ⟨hx, hb, hml, hown, hts⟩ hK hV (c_bitCount l D dA (ownP (w, b, k, mv, q))) (va_cwS 1 hts gX2_balance_J6_bitCount_0f7a4 rfl rfl rfl (by decide +kernel) (mm_levR hR (by omega) (by decide))) rfl hl.1 rfl (Nat.le_of_ble_eq_true rfl) dX2_balance_5 ⟨Nat.zero_le _, Nat.zero_le _⟩ (fun H locs hV => ?_)
  refine lv_imul hx hb dX2_balance_8 ?_
  refine lv_aload_n hx hb dX2_balance_9 rfl (lv_at hl 0 rfl) ?_
  refine mm_Vp (v := (ownP (w, b, k, mv, q))) (ci := 2) (As := []) (rest := [.int (2 * bitC (ownP (w, b, k, mv, q)))]) ⟨hx, hb, hml, hown, hts⟩ hK hV (c_own l D dA (P := (w, b, k, mv, q))  i_a m_a) (cwV 0 hts gX2_balance_X2_own rfl rfl rfl (by decide +kernel) (mm_levR hR (by omega) (by decide))) i_a m_a rfl rfl hl.1 rfl (Nat.le_of_ble_eq_true rfl) dX2_balance_10 ⟨Nat.zero_le _, Nat.zero_le _⟩ (fun H locs hV => ?_)
  refine lv_aload_n hx hb dX2_balance_13 rfl (lv_at hl 0 rfl) ?_
  refine mm_get (ci := 2) (C := RX2) (T := TX2) (N := 5) hx hb hts in_X2 hown hK hV i_a m_a rfl 2 (by decide) f_18 (fun _ h => h) rfl dX2_balance_14 ?_
  refine lv_iand hx hb dX2_balance_17 ?_
  refine mm_Sp (v := (bitC (ownP (w, b, k, mv, q)  &&& k))) (As := [.int (ownP (w, b, k, mv, q)  &&& k)]) (rest := [.int (2 * bitC (ownP (w, b, k, mv, q)))]) ⟨hx, hb, hml, hown, hts⟩ hK hV (c_bitCount l D dA (ownP (w, b, k, mv, q)  &&& k)) (va_cwS 1 hts gX2_balance_J6_bitCount_0f7a4 rfl rfl rfl (by decide +kernel) (mm_levR hR (by omega) (by decide))) rfl hl.1 rfl (Nat.le_of_ble_eq_true rfl) dX2_balance_18 ⟨Nat.zero_le _, Nat.zero_le _⟩ (fun H locs hV => ?_)
  refine lv_iadd hx hb dX2_balance_21 ?_
  refine lv_topi (fun x1_1 ex1_1 => ?_)
  refine lv_istore_n (lv' := [(1, .int x1_1), (0, .ref a)]) hx hb dX2_balance_22 rfl hl (by decide) rfl (fun ls hl => ?_)
  refine lv_iconst (v := 2) hx hb dX2_balance_23 (by decide) ?_
  refine lv_aload_n hx hb dX2_balance_24 rfl (lv_at hl 1 rfl) ?_
  refine mm_Vp (v := (othP (w, b, k, mv, q))) (ci := 2) (As := []) (rest := [.int 2]) ⟨hx, hb, hml, hown, hts⟩ hK hV (c_others l D dA (P := (w, b, k, mv, q))  i_a m_a) (cwV 0 hts gX2_balance_X2_others rfl rfl rfl (by decide +kernel) (mm_levR hR (by omega) (by decide))) i_a m_a rfl rfl hl.1 rfl (Nat.le_of_ble_eq_true rfl) dX2_balance_25 ⟨Nat.zero_le _, Nat.zero_le _⟩ (fun H locs hV => ?_)
  refine mm_Sp (v := (bitC (othP (w, b, k, mv, q)))) (As := [.int (othP (w, b, k, mv, q))]) (rest := [.int 2]) ⟨hx, hb, hml, hown, hts⟩ hK hV (c_bitCount l D dA (othP (w, b, k, mv, q))) (va_cwS 1 hts gX2_balance_J6_bitCount_0f7a4 rfl rfl rfl (by decide +kernel) (mm_levR hR (by omega) (by decide))) rfl hl.1 rfl (Nat.le_of_ble_eq_true rfl) dX2_balance_28 ⟨Nat.zero_le _, Nat.zero_le _⟩ (fun H locs hV => ?_)
  refine lv_imul hx hb dX2_balance_31 ?_
  refine lv_aload_n hx hb dX2_balance_32 rfl (lv_at hl 1 rfl) ?_
  refine mm_Vp (v := (othP (w, b, k, mv, q))) (ci := 2) (As := []) (rest := [.int (2 * bitC (othP (w, b, k, mv, q)))]) ⟨hx, hb, hml, hown, hts⟩ hK hV (c_others l D dA (P := (w, b, k, mv, q))  i_a m_a) (cwV 0 hts gX2_balance_X2_others rfl rfl rfl (by decide +kernel) (mm_levR hR (by omega) (by decide))) i_a m_a rfl rfl hl.1 rfl (Nat.le_of_ble_eq_true rfl) dX2_balance_33 ⟨Nat.zero_le _, Nat.zero_le _⟩ (fun H locs hV => ?_)
  refine lv_aload_n hx hb dX2_balance_36 rfl (lv_at hl 1 rfl) ?_
  refine mm_get (ci := 2) (C := RX2) (T := TX2) (N := 5) hx hb hts in_X2 hown hK hV i_a m_a rfl 2 (by decide) f_18 (fun _ h => h) rfl dX2_balance_37 ?_
  refine lv_iand hx hb dX2_balance_40 ?_
  refine mm_Sp (v := (bitC (othP (w, b, k, mv, q)  &&& k))) (As := [.int (othP (w, b, k, mv, q)  &&& k)]) (rest := [.int (2 * bitC (othP (w, b, k, mv, q)))]) ⟨hx, hb, hml, hown, hts⟩ hK hV (c_bitCount l D dA (othP (w, b, k, mv, q)  &&& k)) (va_cwS 1 hts gX2_balance_J6_bitCount_0f7a4 rfl rfl rfl (by decide +kernel) (mm_levR hR (by omega) (by decide))) rfl hl.1 rfl (Nat.le_of_ble_eq_true rfl) dX2_balance_41 ⟨Nat.zero_le _, Nat.zero_le _⟩ (fun H locs hV => ?_)
  refine lv_iadd hx hb dX2_balance_44 ?_
  refine lv_topi (fun x2_2 ex2_2 => ?_)
  refine lv_istore_n (lv' := [(2, .int x2_2), (1, .int x1_1), (0, .ref a)]) hx hb dX2_balance_45 rfl hl (by decide) rfl (fun ls hl => ?_)
  refine lv_iload_n hx hb dX2_balance_46 rfl (lv_at hl 1 rfl) ?_
  refine lv_iload_n hx hb dX2_balance_47 rfl (lv_at hl 0 rfl) ?_
  refine lv_isub hx hb dX2_balance_48 ?_
  exact hret (v := (x1_1 - x2_2)) dX2_balance_49 hV (by decide) (by decide) ⟨by subst_vars; rfl, rfl, rfl⟩

set_option maxHeartbeats 4000000 in
set_option maxRecDepth 100000 in
theorem c_wipe (l : Launch) (D : va_G) (dA : Nat → ClassId) {L : List Nat} {M : mm_M} {a : Nat} {P : Ps} (i_a : a ∈ L) (m_a : M a = oP P) : mm_Cm l D dA yX2_wipe wsX2_wipe 0 [.ref a] L M (fun M1 => M1 = va_up M a (oP (wipeP))) := by
  obtain ⟨w, b, k, mv, q⟩ := P
  have m_a : M a = .inr (2, [.int w, .int b, .int k, .int mv, .int q]) := m_a
  refine mm_enter_v (cc := cX2_wipe) (maxL := 1) (by decide) rfl (Nat.le_of_ble_eq_true rfl) ?_
  intro p e R s m args below meth c A ls H locs Q hR hx hb hml hin hown hts hK hV hl hret
  have hl : lv_has ls 1 [(0, .ref a)] := hl
  have hown : s.vm.findClass RX2 = some m.cls := hown
  have f_9 := hts (.fieldLink RX2 9 "JumpBoard$Position" "white" "I") (by decide +kernel)
  have in_X2 : ∀ w ∈ wsX20, w ∈ wsX2_wipe := by decide +kernel
  have f_15 := hts (.fieldLink RX2 15 "JumpBoard$Position" "black" "I") (by decide +kernel)
  have f_18 := hts (.fieldLink RX2 18 "JumpBoard$Position" "kings" "I") (by decide +kernel)
  have f_21 := hts (.fieldLink RX2 21 "JumpBoard$Position" "mover" "I") (by decide +kernel)
  have f_24 := hts (.fieldLink RX2 24 "JumpBoard$Position" "kingSteps" "I") (by decide +kernel)
  refine lv_aload_n hx hb dX2_wipe_0 rfl (lv_at hl 0 rfl) ?_
  refine lv_iconst (v := 0) hx hb dX2_wipe_1 (by decide) ?_
  refine mm_put (ci := 2) (v := .int 0) (fs' := [.int 0, .int b, .int k, .int mv, .int q]) (ty := .int) (C := RX2) (T := TX2) (N := 5) hx hb hts in_X2 tyX2 tyX2_ok nmX2 hown hK hV i_a m_a rfl 0 (by decide) f_9 (fun _ h => h) rfl (by decide +kernel) rfl rfl (Nat.le_of_ble_eq_true rfl) rfl dX2_wipe_2 (fun M_1 H locs eM_1 hV => ?_)
  have m_a : M_1 a = .inr (2, [.int 0, .int b, .int k, .int mv, .int q]) := by rw [eM_1]; exact va_up_self _ _ _
  have fr : ∀ q : Nat, q ≠ a → M_1 q = M q := fun q h0 => (congrFun eM_1 q).trans ((va_up_ne _ _ h0).trans rfl)
  refine lv_aload_n hx hb dX2_wipe_5 rfl (lv_at hl 0 rfl) ?_
  refine lv_iconst (v := 0) hx hb dX2_wipe_6 (by decide) ?_
  refine mm_put (ci := 2) (v := .int 0) (fs' := [.int 0, .int 0, .int k, .int mv, .int q]) (ty := .int) (C := RX2) (T := TX2) (N := 5) hx hb hts in_X2 tyX2 tyX2_ok nmX2 hown hK hV i_a m_a rfl 1 (by decide) f_15 (fun _ h => h) rfl (by decide +kernel) rfl rfl (Nat.le_of_ble_eq_true rfl) rfl dX2_wipe_7 (fun M_2 H locs eM_2 hV => ?_)
  have m_a : M_2 a = .inr (2, [.int 0, .int 0, .int k, .int mv, .int q]) := by rw [eM_2]; exact va_up_self _ _ _
  have fr : ∀ q : Nat, q ≠ a → M_2 q = M q := fun q h0 => (congrFun eM_2 q).trans ((va_up_ne _ _ h0).trans (fr q h0))
  refine lv_aload_n hx hb dX2_wipe_10 rfl (lv_at hl 0 rfl) ?_
  refine lv_iconst (v := 0) hx hb dX2_wipe_11 (by decide) ?_
  refine mm_put (ci := 2) (v := .int 0) (fs' := [.int 0, .int 0, .int 0, .int mv, .int q]) (ty := .int) (C := RX2) (T := TX2) (N := 5) hx hb hts in_X2 tyX2 tyX2_ok nmX2 hown hK hV i_a m_a rfl 2 (by decide) f_18 (fun _ h => h) rfl (by decide +kernel) rfl rfl (Nat.le_of_ble_eq_true rfl) rfl dX2_wipe_12 (fun M_3 H locs eM_3 hV => ?_)
  have m_a : M_3 a = .inr (2, [.int 0, .int 0, .int 0, .int mv, .int q]) := by rw [eM_3]; exact va_up_self _ _ _
  have fr : ∀ q : Nat, q ≠ a → M_3 q = M q := fun q h0 => (congrFun eM_3 q).trans ((va_up_ne _ _ h0).trans (fr q h0))
  refine lv_aload_n hx hb dX2_wipe_15 rfl (lv_at hl 0 rfl) ?_
  refine lv_iconst (v := 0) hx hb dX2_wipe_16 (by decide) ?_
  refine mm_put (ci := 2) (v := .int 0) (fs' := [.int 0, .int 0, .int 0, .int 0, .int q]) (ty := .int) (C := RX2) (T := TX2) (N := 5) hx hb hts in_X2 tyX2 tyX2_ok nmX2 hown hK hV i_a m_a rfl 3 (by decide) f_21 (fun _ h => h) rfl (by decide +kernel) rfl rfl (Nat.le_of_ble_eq_true rfl) rfl dX2_wipe_17 (fun M_4 H locs eM_4 hV => ?_)
  have m_a : M_4 a = .inr (2, [.int 0, .int 0, .int 0, .int 0, .int q]) := by rw [eM_4]; exact va_up_self _ _ _
  have fr : ∀ q : Nat, q ≠ a → M_4 q = M q := fun q h0 => (congrFun eM_4 q).trans ((va_up_ne _ _ h0).trans (fr q h0))
  refine lv_aload_n hx hb dX2_wipe_20 rfl (lv_at hl 0 rfl) ?_
  refine lv_iconst (v := 0) hx hb dX2_wipe_21 (by decide) ?_
  refine mm_put (ci := 2) (v := .int 0) (fs' := [.int 0, .int 0, .int 0, .int 0, .int 0]) (ty := .int) (C := RX2) (T := TX2) (N := 5) hx hb hts in_X2 tyX2 tyX2_ok nmX2 hown hK hV i_a m_a rfl 4 (by decide) f_24 (fun _ h => h) rfl (by decide +kernel) rfl rfl (Nat.le_of_ble_eq_true rfl) rfl dX2_wipe_22 (fun M_5 H locs eM_5 hV => ?_)
  have m_a : M_5 a = .inr (2, [.int 0, .int 0, .int 0, .int 0, .int 0]) := by rw [eM_5]; exact va_up_self _ _ _
  have fr : ∀ q : Nat, q ≠ a → M_5 q = M q := fun q h0 => (congrFun eM_5 q).trans ((va_up_ne _ _ h0).trans (fr q h0))
  exact hret dX2_wipe_25 hV (by decide) (by decide) ⟨rfl, mm_fin1 (by rw [m_a]; subst_vars; rfl) fr⟩

set_option maxHeartbeats 4000000 in
set_option maxRecDepth 100000 in
theorem c_setUp (l : Launch) (D : va_G) (dA : Nat → ClassId) {L : List Nat} {M : mm_M} {a : Nat} {P : Ps} (i_a : a ∈ L) (m_a : M a = oP P) : mm_Cm l D dA yX2_setUp wsX2_setUp 1 [.ref a] L M (fun M1 => M1 = va_up M a (oP (setUpP))) := by
  obtain ⟨w, b, k, mv, q⟩ := P
  have m_a : M a = .inr (2, [.int w, .int b, .int k, .int mv, .int q]) := m_a
  refine mm_enter_v (cc := cX2_setUp) (maxL := 1) (by decide) rfl (Nat.le_of_ble_eq_true rfl) ?_
  intro p e R s m args below meth c A ls H locs Q hR hx hb hml hin hown hts hK hV hl hret
  have hl : lv_has ls 1 [(0, .ref a)] := hl
  have hown : s.vm.findClass RX2 = some m.cls := hown
  have f_9 := hts (.fieldLink RX2 9 "JumpBoard$Position" "white" "I") (by decide +kernel)
  have in_X2 : ∀ w ∈ wsX20, w ∈ wsX2_setUp := by decide +kernel
  have f_15 := hts (.fieldLink RX2 15 "JumpBoard$Position" "black" "I") (by decide +kernel)
  refine lv_aload_n hx hb dX2_setUp_0 rfl (lv_at hl 0 rfl) ?_
  refine mm_Vm (ci := 2) (As := []) (rest := []) ⟨hx, hb, hml, hown, hts⟩ hK hV (c_wipe l D dA (P := (w, b, k, mv, q)) i_a m_a) (cwV 0 hts gX2_setUp_X2_wipe rfl rfl rfl (by decide +kernel) (mm_levR hR (by omega) (by decide))) i_a m_a rfl rfl hl.1 rfl (Nat.le_of_ble_eq_true rfl) dX2_setUp_1 ⟨Nat.zero_le _, Nat.zero_le _⟩ (fun M_1 H locs eM_1 hV => ?_)
  have m_a : M_1 a = .inr (2, [.int 0, .int 0, .int 0, .int 0, .int 0]) := by rw [eM_1]; exact va_up_self _ _ _
  have fr : ∀ q : Nat, q ≠ a → M_1 q = M q := fun q h0 => (congrFun eM_1 q).trans ((va_up_ne _ _ h0).trans rfl)
  refine lv_aload_n hx hb dX2_setUp_4 rfl (lv_at hl 0 rfl) ?_
  refine lv_bipush (v := 63) hx hb dX2_setUp_5 (by decide) ?_
  refine mm_put (ci := 2) (v := .int 63) (fs' := [.int 63, .int 0, .int 0, .int 0, .int 0]) (ty := .int) (C := RX2) (T := TX2) (N := 5) hx hb hts in_X2 tyX2 tyX2_ok nmX2 hown hK hV i_a m_a rfl 0 (by decide) f_9 (fun _ h => h) rfl (by decide +kernel) rfl rfl (Nat.le_of_ble_eq_true rfl) rfl dX2_setUp_7 (fun M_2 H locs eM_2 hV => ?_)
  have m_a : M_2 a = .inr (2, [.int 63, .int 0, .int 0, .int 0, .int 0]) := by rw [eM_2]; exact va_up_self _ _ _
  have fr : ∀ q : Nat, q ≠ a → M_2 q = M q := fun q h0 => (congrFun eM_2 q).trans ((va_up_ne _ _ h0).trans (fr q h0))
  refine lv_aload_n hx hb dX2_setUp_10 rfl (lv_at hl 0 rfl) ?_
  refine lv_ldc hx hb hown (hts (.constant RX2 30 (258048)) (by decide +kernel)) dX2_setUp_11 ?_
  refine mm_put (ci := 2) (v := .int 258048) (fs' := [.int 63, .int 258048, .int 0, .int 0, .int 0]) (ty := .int) (C := RX2) (T := TX2) (N := 5) hx hb hts in_X2 tyX2 tyX2_ok nmX2 hown hK hV i_a m_a rfl 1 (by decide) f_15 (fun _ h => h) rfl (by decide +kernel) rfl rfl (Nat.le_of_ble_eq_true rfl) rfl dX2_setUp_13 (fun M_3 H locs eM_3 hV => ?_)
  have m_a : M_3 a = .inr (2, [.int 63, .int 258048, .int 0, .int 0, .int 0]) := by rw [eM_3]; exact va_up_self _ _ _
  have fr : ∀ q : Nat, q ≠ a → M_3 q = M q := fun q h0 => (congrFun eM_3 q).trans ((va_up_ne _ _ h0).trans (fr q h0))
  exact hret dX2_setUp_16 hV (by decide) (by decide) ⟨rfl, mm_fin1 (by rw [m_a]; subst_vars; rfl) fr⟩

set_option maxHeartbeats 4000000 in
set_option maxRecDepth 100000 in
theorem c_place (l : Launch) (D : va_G) (dA : Nat → ClassId) {L : List Nat} {M : mm_M} {a : Nat} {P : Ps} (bit : Int32) (pc : Int32) (i_a : a ∈ L) (m_a : M a = oP P) : mm_Cm l D dA yX2_place wsX2_place 0 [.ref a, .int bit, .int pc] L M (fun M1 => M1 = va_up M a (oP (placeP P bit pc))) := by
  obtain ⟨w, b, k, mv, q⟩ := P
  have m_a : M a = .inr (2, [.int w, .int b, .int k, .int mv, .int q]) := m_a
  refine mm_enter_v (cc := cX2_place) (maxL := 3) (by decide) rfl (Nat.le_of_ble_eq_true rfl) ?_
  intro p e R s m args below meth c A ls H locs Q hR hx hb hml hin hown hts hK hV hl hret
  have hl : lv_has ls 3 [(0, .ref a), (1, .int bit), (2, .int pc)] := hl
  have hown : s.vm.findClass RX2 = some m.cls := hown
  have f_9 := hts (.fieldLink RX2 9 "JumpBoard$Position" "white" "I") (by decide +kernel)
  have in_X2 : ∀ w ∈ wsX20, w ∈ wsX2_place := by decide +kernel
  have f_15 := hts (.fieldLink RX2 15 "JumpBoard$Position" "black" "I") (by decide +kernel)
  have f_18 := hts (.fieldLink RX2 18 "JumpBoard$Position" "kings" "I") (by decide +kernel)
  refine lv_aload_n hx hb dX2_place_0 rfl (lv_at hl 0 rfl) ?_
  refine lv_dup hx hb dX2_place_1 rfl ?_
  refine mm_get (ci := 2) (C := RX2) (T := TX2) (N := 5) hx hb hts in_X2 hown hK hV i_a m_a rfl 0 (by decide) f_9 (fun _ h => h) rfl dX2_place_2 ?_
  refine lv_iload_n hx hb dX2_place_5 rfl (lv_at hl 1 rfl) ?_
  refine lv_iconst (v := (-1)) hx hb dX2_place_6 (by decide) ?_
  refine lv_ixor hx hb dX2_place_7 ?_
  refine lv_iand hx hb dX2_place_8 ?_
  refine lv_topi (fun v_1 ev_1 => ?_)
  refine mm_put (ci := 2) (v := .int v_1) (fs' := [.int v_1, .int b, .int k, .int mv, .int q]) (ty := .int) (C := RX2) (T := TX2) (N := 5) hx hb hts in_X2 tyX2 tyX2_ok nmX2 hown hK hV i_a m_a rfl 0 (by decide) f_9 (fun _ h => h) rfl (by decide +kernel) rfl rfl (Nat.le_of_ble_eq_true rfl) rfl dX2_place_9 (fun M_2 H locs eM_2 hV => ?_)
  have m_a : M_2 a = .inr (2, [.int v_1, .int b, .int k, .int mv, .int q]) := by rw [eM_2]; exact va_up_self _ _ _
  have fr : ∀ q : Nat, q ≠ a → M_2 q = M q := fun q h0 => (congrFun eM_2 q).trans ((va_up_ne _ _ h0).trans rfl)
  refine lv_aload_n hx hb dX2_place_12 rfl (lv_at hl 0 rfl) ?_
  refine lv_dup hx hb dX2_place_13 rfl ?_
  refine mm_get (ci := 2) (C := RX2) (T := TX2) (N := 5) hx hb hts in_X2 hown hK hV i_a m_a rfl 1 (by decide) f_15 (fun _ h => h) rfl dX2_place_14 ?_
  refine lv_iload_n hx hb dX2_place_17 rfl (lv_at hl 1 rfl) ?_
  refine lv_iconst (v := (-1)) hx hb dX2_place_18 (by decide) ?_
  refine lv_ixor hx hb dX2_place_19 ?_
  refine lv_iand hx hb dX2_place_20 ?_
  refine lv_topi (fun v_3 ev_3 => ?_)
  refine mm_put (ci := 2) (v := .int v_3) (fs' := [.int v_1, .int v_3, .int k, .int mv, .int q]) (ty := .int) (C := RX2) (T := TX2) (N := 5) hx hb hts in_X2 tyX2 tyX2_ok nmX2 hown hK hV i_a m_a rfl 1 (by decide) f_15 (fun _ h => h) rfl (by decide +kernel) rfl rfl (Nat.le_of_ble_eq_true rfl) rfl dX2_place_21 (fun M_4 H locs eM_4 hV => ?_)
  have m_a : M_4 a = .inr (2, [.int v_1, .int v_3, .int k, .int mv, .int q]) := by rw [eM_4]; exact va_up_self _ _ _
  have fr : ∀ q : Nat, q ≠ a → M_4 q = M q := fun q h0 => (congrFun eM_4 q).trans ((va_up_ne _ _ h0).trans (fr q h0))
  refine lv_aload_n hx hb dX2_place_24 rfl (lv_at hl 0 rfl) ?_
  refine lv_dup hx hb dX2_place_25 rfl ?_
  refine mm_get (ci := 2) (C := RX2) (T := TX2) (N := 5) hx hb hts in_X2 hown hK hV i_a m_a rfl 2 (by decide) f_18 (fun _ h => h) rfl dX2_place_26 ?_
  refine lv_iload_n hx hb dX2_place_29 rfl (lv_at hl 1 rfl) ?_
  refine lv_iconst (v := (-1)) hx hb dX2_place_30 (by decide) ?_
  refine lv_ixor hx hb dX2_place_31 ?_
  refine lv_iand hx hb dX2_place_32 ?_
  refine lv_topi (fun v_5 ev_5 => ?_)
  refine mm_put (ci := 2) (v := .int v_5) (fs' := [.int v_1, .int v_3, .int v_5, .int mv, .int q]) (ty := .int) (C := RX2) (T := TX2) (N := 5) hx hb hts in_X2 tyX2 tyX2_ok nmX2 hown hK hV i_a m_a rfl 2 (by decide) f_18 (fun _ h => h) rfl (by decide +kernel) rfl rfl (Nat.le_of_ble_eq_true rfl) rfl dX2_place_33 (fun M_6 H locs eM_6 hV => ?_)
  have m_a : M_6 a = .inr (2, [.int v_1, .int v_3, .int v_5, .int mv, .int q]) := by rw [eM_6]; exact va_up_self _ _ _
  have fr : ∀ q : Nat, q ≠ a → M_6 q = M q := fun q h0 => (congrFun eM_6 q).trans ((va_up_ne _ _ h0).trans (fr q h0))
  refine lv_iload_n hx hb dX2_place_36 rfl (lv_at hl 2 rfl) ?_
  refine lv_iconst (v := 1) hx hb dX2_place_37 (by decide) ?_
  have J56 : ∀ (M_11 : mm_M) (H : Heap) (locs : List Loc) (w_12 : Int32), mm_V A D L M_11 s H locs → w_12 = (if pc = 1 then (v_1 ||| bit) else (if pc = 2 then (v_1 ||| bit) else v_1)) → M_11 a = .inr (2, [.int w_12, .int v_3, .int v_5, .int mv, .int q]) → (∀ q : Nat, q ≠ a → M_11 q = M q) → W p l e R s m args below meth c H locs 0 0 Q (F0 m 56 ls []) := by
    intro M_11 H locs w_12 hV ew_12 m_a fr
    refine lv_iload_n hx hb dX2_place_56 rfl (lv_at hl 2 rfl) ?_
    refine lv_iconst (v := 3) hx hb dX2_place_57 (by decide) ?_
    have J76 : ∀ (M_17 : mm_M) (H : Heap) (locs : List Loc) (w_18 : Int32), mm_V A D L M_17 s H locs → w_18 = (if pc = 3 then (v_3 ||| bit) else (if pc = 4 then (v_3 ||| bit) else v_3)) → M_17 a = .inr (2, [.int w_12, .int w_18, .int v_5, .int mv, .int q]) → (∀ q : Nat, q ≠ a → M_17 q = M q) → W p l e R s m args below meth c H locs 0 0 Q (F0 m 76 ls []) := by
      intro M_17 H locs w_18 hV ew_18 m_a fr
      refine lv_iload_n hx hb dX2_place_76 rfl (lv_at hl 2 rfl) ?_
      refine lv_iconst (v := 2) hx hb dX2_place_77 (by decide) ?_
      have J96 : ∀ (M_23 : mm_M) (H : Heap) (locs : List Loc) (w_24 : Int32), mm_V A D L M_23 s H locs → w_24 = (if pc = 2 then (v_5 ||| bit) else (if pc = 4 then (v_5 ||| bit) else v_5)) → M_23 a = .inr (2, [.int w_12, .int w_18, .int w_24, .int mv, .int q]) → (∀ q : Nat, q ≠ a → M_23 q = M q) → W p l e R s m args below meth c H locs 0 0 Q (F0 m 96 ls []) := by
        intro M_23 H locs w_24 hV ew_24 m_a fr
        exact hret dX2_place_96 hV (by decide) (by decide) ⟨rfl, mm_fin1 (by rw [m_a]; subst_vars; unfold placeP oP; simp only []; congr 4 <;> split <;> simp_all) fr⟩
      refine lv_icmp_eq (tgt := 86) hx hb dX2_place_78 (by decide) (fun c78 => ?_) (fun c78 => ?_)
      · refine lv_aload_n hx hb dX2_place_86 rfl (lv_at hl 0 rfl) ?_
        refine lv_dup hx hb dX2_place_87 rfl ?_
        refine mm_get (ci := 2) (C := RX2) (T := TX2) (N := 5) hx hb hts in_X2 hown hK hV i_a m_a rfl 2 (by decide) f_18 (fun _ h => h) rfl dX2_place_88 ?_
        refine lv_iload_n hx hb dX2_place_91 rfl (lv_at hl 1 rfl) ?_
        refine lv_ior hx hb dX2_place_92 ?_
        refine lv_topi (fun v_19 ev_19 => ?_)
        refine mm_put (ci := 2) (v := .int v_19) (fs' := [.int w_12, .int w_18, .int v_19, .int mv, .int q]) (ty := .int) (C := RX2) (T := TX2) (N := 5) hx hb hts in_X2 tyX2 tyX2_ok nmX2 hown hK hV i_a m_a rfl 2 (by decide) f_18 (fun _ h => h) rfl (by decide +kernel) rfl rfl (Nat.le_of_ble_eq_true rfl) rfl dX2_place_93 (fun M_20 H locs eM_20 hV => ?_)
        have m_a : M_20 a = .inr (2, [.int w_12, .int w_18, .int v_19, .int mv, .int q]) := by rw [eM_20]; exact va_up_self _ _ _
        have fr : ∀ q : Nat, q ≠ a → M_20 q = M q := fun q h0 => (congrFun eM_20 q).trans ((va_up_ne _ _ h0).trans (fr q h0))
        exact J96 _ _ _ _ hV (by rw [if_pos c78, ev_19]) m_a (fun q h0 => fr q h0)
      · refine lv_iload_n hx hb dX2_place_81 rfl (lv_at hl 2 rfl) ?_
        refine lv_iconst (v := 4) hx hb dX2_place_82 (by decide) ?_
        refine lv_icmp_ne (tgt := 96) hx hb dX2_place_83 (by decide) (fun c83 => ?_) (fun c83 => ?_)
        · exact J96 _ _ _ _ hV (by rw [if_neg c78, if_neg c83]) m_a (fun q h0 => fr q h0)
        · refine lv_aload_n hx hb dX2_place_86 rfl (lv_at hl 0 rfl) ?_
          refine lv_dup hx hb dX2_place_87 rfl ?_
          refine mm_get (ci := 2) (C := RX2) (T := TX2) (N := 5) hx hb hts in_X2 hown hK hV i_a m_a rfl 2 (by decide) f_18 (fun _ h => h) rfl dX2_place_88 ?_
          refine lv_iload_n hx hb dX2_place_91 rfl (lv_at hl 1 rfl) ?_
          refine lv_ior hx hb dX2_place_92 ?_
          refine lv_topi (fun v_21 ev_21 => ?_)
          refine mm_put (ci := 2) (v := .int v_21) (fs' := [.int w_12, .int w_18, .int v_21, .int mv, .int q]) (ty := .int) (C := RX2) (T := TX2) (N := 5) hx hb hts in_X2 tyX2 tyX2_ok nmX2 hown hK hV i_a m_a rfl 2 (by decide) f_18 (fun _ h => h) rfl (by decide +kernel) rfl rfl (Nat.le_of_ble_eq_true rfl) rfl dX2_place_93 (fun M_22 H locs eM_22 hV => ?_)
          have m_a : M_22 a = .inr (2, [.int w_12, .int w_18, .int v_21, .int mv, .int q]) := by rw [eM_22]; exact va_up_self _ _ _
          have fr : ∀ q : Nat, q ≠ a → M_22 q = M q := fun q h0 => (congrFun eM_22 q).trans ((va_up_ne _ _ h0).trans (fr q h0))
          exact J96 _ _ _ _ hV (by rw [if_neg c78, if_pos c83, ev_21]) m_a (fun q h0 => fr q h0)
    refine lv_icmp_eq (tgt := 66) hx hb dX2_place_58 (by decide) (fun c58 => ?_) (fun c58 => ?_)
    · refine lv_aload_n hx hb dX2_place_66 rfl (lv_at hl 0 rfl) ?_
      refine lv_dup hx hb dX2_place_67 rfl ?_
      refine mm_get (ci := 2) (C := RX2) (T := TX2) (N := 5) hx hb hts in_X2 hown hK hV i_a m_a rfl 1 (by decide) f_15 (fun _ h => h) rfl dX2_place_68 ?_
      refine lv_iload_n hx hb dX2_place_71 rfl (lv_at hl 1 rfl) ?_
      refine lv_ior hx hb dX2_place_72 ?_
      refine lv_topi (fun v_13 ev_13 => ?_)
      refine mm_put (ci := 2) (v := .int v_13) (fs' := [.int w_12, .int v_13, .int v_5, .int mv, .int q]) (ty := .int) (C := RX2) (T := TX2) (N := 5) hx hb hts in_X2 tyX2 tyX2_ok nmX2 hown hK hV i_a m_a rfl 1 (by decide) f_15 (fun _ h => h) rfl (by decide +kernel) rfl rfl (Nat.le_of_ble_eq_true rfl) rfl dX2_place_73 (fun M_14 H locs eM_14 hV => ?_)
      have m_a : M_14 a = .inr (2, [.int w_12, .int v_13, .int v_5, .int mv, .int q]) := by rw [eM_14]; exact va_up_self _ _ _
      have fr : ∀ q : Nat, q ≠ a → M_14 q = M q := fun q h0 => (congrFun eM_14 q).trans ((va_up_ne _ _ h0).trans (fr q h0))
      exact J76 _ _ _ _ hV (by rw [if_pos c58, ev_13]) m_a (fun q h0 => fr q h0)
    · refine lv_iload_n hx hb dX2_place_61 rfl (lv_at hl 2 rfl) ?_
      refine lv_iconst (v := 4) hx hb dX2_place_62 (by decide) ?_
      refine lv_icmp_ne (tgt := 76) hx hb dX2_place_63 (by decide) (fun c63 => ?_) (fun c63 => ?_)
      · exact J76 _ _ _ _ hV (by rw [if_neg c58, if_neg c63]) m_a (fun q h0 => fr q h0)
      · refine lv_aload_n hx hb dX2_place_66 rfl (lv_at hl 0 rfl) ?_
        refine lv_dup hx hb dX2_place_67 rfl ?_
        refine mm_get (ci := 2) (C := RX2) (T := TX2) (N := 5) hx hb hts in_X2 hown hK hV i_a m_a rfl 1 (by decide) f_15 (fun _ h => h) rfl dX2_place_68 ?_
        refine lv_iload_n hx hb dX2_place_71 rfl (lv_at hl 1 rfl) ?_
        refine lv_ior hx hb dX2_place_72 ?_
        refine lv_topi (fun v_15 ev_15 => ?_)
        refine mm_put (ci := 2) (v := .int v_15) (fs' := [.int w_12, .int v_15, .int v_5, .int mv, .int q]) (ty := .int) (C := RX2) (T := TX2) (N := 5) hx hb hts in_X2 tyX2 tyX2_ok nmX2 hown hK hV i_a m_a rfl 1 (by decide) f_15 (fun _ h => h) rfl (by decide +kernel) rfl rfl (Nat.le_of_ble_eq_true rfl) rfl dX2_place_73 (fun M_16 H locs eM_16 hV => ?_)
        have m_a : M_16 a = .inr (2, [.int w_12, .int v_15, .int v_5, .int mv, .int q]) := by rw [eM_16]; exact va_up_self _ _ _
        have fr : ∀ q : Nat, q ≠ a → M_16 q = M q := fun q h0 => (congrFun eM_16 q).trans ((va_up_ne _ _ h0).trans (fr q h0))
        exact J76 _ _ _ _ hV (by rw [if_neg c58, if_pos c63, ev_15]) m_a (fun q h0 => fr q h0)
  refine lv_icmp_eq (tgt := 46) hx hb dX2_place_38 (by decide) (fun c38 => ?_) (fun c38 => ?_)
  · refine lv_aload_n hx hb dX2_place_46 rfl (lv_at hl 0 rfl) ?_
    refine lv_dup hx hb dX2_place_47 rfl ?_
    refine mm_get (ci := 2) (C := RX2) (T := TX2) (N := 5) hx hb hts in_X2 hown hK hV i_a m_a rfl 0 (by decide) f_9 (fun _ h => h) rfl dX2_place_48 ?_
    refine lv_iload_n hx hb dX2_place_51 rfl (lv_at hl 1 rfl) ?_
    refine lv_ior hx hb dX2_place_52 ?_
    refine lv_topi (fun v_7 ev_7 => ?_)
    refine mm_put (ci := 2) (v := .int v_7) (fs' := [.int v_7, .int v_3, .int v_5, .int mv, .int q]) (ty := .int) (C := RX2) (T := TX2) (N := 5) hx hb hts in_X2 tyX2 tyX2_ok nmX2 hown hK hV i_a m_a rfl 0 (by decide) f_9 (fun _ h => h) rfl (by decide +kernel) rfl rfl (Nat.le_of_ble_eq_true rfl) rfl dX2_place_53 (fun M_8 H locs eM_8 hV => ?_)
    have m_a : M_8 a = .inr (2, [.int v_7, .int v_3, .int v_5, .int mv, .int q]) := by rw [eM_8]; exact va_up_self _ _ _
    have fr : ∀ q : Nat, q ≠ a → M_8 q = M q := fun q h0 => (congrFun eM_8 q).trans ((va_up_ne _ _ h0).trans (fr q h0))
    exact J56 _ _ _ _ hV (by rw [if_pos c38, ev_7]) m_a (fun q h0 => fr q h0)
  · refine lv_iload_n hx hb dX2_place_41 rfl (lv_at hl 2 rfl) ?_
    refine lv_iconst (v := 2) hx hb dX2_place_42 (by decide) ?_
    refine lv_icmp_ne (tgt := 56) hx hb dX2_place_43 (by decide) (fun c43 => ?_) (fun c43 => ?_)
    · exact J56 _ _ _ _ hV (by rw [if_neg c38, if_neg c43]) m_a (fun q h0 => fr q h0)
    · refine lv_aload_n hx hb dX2_place_46 rfl (lv_at hl 0 rfl) ?_
      refine lv_dup hx hb dX2_place_47 rfl ?_
      refine mm_get (ci := 2) (C := RX2) (T := TX2) (N := 5) hx hb hts in_X2 hown hK hV i_a m_a rfl 0 (by decide) f_9 (fun _ h => h) rfl dX2_place_48 ?_
      refine lv_iload_n hx hb dX2_place_51 rfl (lv_at hl 1 rfl) ?_
      refine lv_ior hx hb dX2_place_52 ?_
      refine lv_topi (fun v_9 ev_9 => ?_)
      refine mm_put (ci := 2) (v := .int v_9) (fs' := [.int v_9, .int v_3, .int v_5, .int mv, .int q]) (ty := .int) (C := RX2) (T := TX2) (N := 5) hx hb hts in_X2 tyX2 tyX2_ok nmX2 hown hK hV i_a m_a rfl 0 (by decide) f_9 (fun _ h => h) rfl (by decide +kernel) rfl rfl (Nat.le_of_ble_eq_true rfl) rfl dX2_place_53 (fun M_10 H locs eM_10 hV => ?_)
      have m_a : M_10 a = .inr (2, [.int v_9, .int v_3, .int v_5, .int mv, .int q]) := by rw [eM_10]; exact va_up_self _ _ _
      have fr : ∀ q : Nat, q ≠ a → M_10 q = M q := fun q h0 => (congrFun eM_10 q).trans ((va_up_ne _ _ h0).trans (fr q h0))
      exact J56 _ _ _ _ hV (by rw [if_neg c38, if_pos c43, ev_9]) m_a (fun q h0 => fr q h0)

set_option maxHeartbeats 4000000 in
set_option maxRecDepth 100000 in
theorem c_copy (l : Launch) (D : va_G) (dA : Nat → ClassId) {L : List Nat} {M : mm_M} {a b : Nat} {P0 P : Ps} (hab : a ≠ b) (i_a : a ∈ L) (i_b : b ∈ L) (m_a : M a = oP P0) (m_b : M b = oP P) : mm_Cm l D dA yX2_copy wsX2_copy 0 [.ref a, .ref b] L M (fun M1 => M1 = va_up M a (oP (P))) := by
  obtain ⟨w0, b0, k0, mv0, q0⟩ := P0
  obtain ⟨w, b1, k, mv, q⟩ := P
  have m_a : M a = .inr (2, [.int w0, .int b0, .int k0, .int mv0, .int q0]) := m_a
  have m_b : M b = .inr (2, [.int w, .int b1, .int k, .int mv, .int q]) := m_b
  refine mm_enter_v (cc := cX2_copy) (maxL := 2) (by decide) rfl (Nat.le_of_ble_eq_true rfl) ?_
  intro p e R s m args below meth c A ls H locs Q hR hx hb hml hin hown hts hK hV hl hret
  have hl : lv_has ls 2 [(0, .ref a), (1, .ref b)] := hl
  have hown : s.vm.findClass RX2 = some m.cls := hown
  have f_9 := hts (.fieldLink RX2 9 "JumpBoard$Position" "white" "I") (by decide +kernel)
  have in_X2 : ∀ w ∈ wsX20, w ∈ wsX2_copy := by decide +kernel
  have f_15 := hts (.fieldLink RX2 15 "JumpBoard$Position" "black" "I") (by decide +kernel)
  have f_18 := hts (.fieldLink RX2 18 "JumpBoard$Position" "kings" "I") (by decide +kernel)
  have f_21 := hts (.fieldLink RX2 21 "JumpBoard$Position" "mover" "I") (by decide +kernel)
  have f_24 := hts (.fieldLink RX2 24 "JumpBoard$Position" "kingSteps" "I") (by decide +kernel)
  refine lv_aload_n hx hb dX2_copy_0 rfl (lv_at hl 0 rfl) ?_
  refine lv_aload_n hx hb dX2_copy_1 rfl (lv_at hl 1 rfl) ?_
  refine mm_get (ci := 2) (C := RX2) (T := TX2) (N := 5) hx hb hts in_X2 hown hK hV i_b m_b rfl 0 (by decide) f_9 (fun _ h => h) rfl dX2_copy_2 ?_
  refine mm_put (ci := 2) (v := .int w) (fs' := [.int w, .int b0, .int k0, .int mv0, .int q0]) (ty := .int) (C := RX2) (T := TX2) (N := 5) hx hb hts in_X2 tyX2 tyX2_ok nmX2 hown hK hV i_a m_a rfl 0 (by decide) f_9 (fun _ h => h) rfl (by decide +kernel) rfl rfl (Nat.le_of_ble_eq_true rfl) rfl dX2_copy_5 (fun M_1 H locs eM_1 hV => ?_)
  have m_b : M_1 b = _ := (congrFun eM_1 b).trans ((va_up_ne _ _ (Ne.symm hab)).trans m_b)
  have m_a : M_1 a = .inr (2, [.int w, .int b0, .int k0, .int mv0, .int q0]) := by rw [eM_1]; exact va_up_self _ _ _
  have fr : ∀ q : Nat, q ≠ a → M_1 q = M q := fun q h0 => (congrFun eM_1 q).trans ((va_up_ne _ _ h0).trans rfl)
  refine lv_aload_n hx hb dX2_copy_8 rfl (lv_at hl 0 rfl) ?_
  refine lv_aload_n hx hb dX2_copy_9 rfl (lv_at hl 1 rfl) ?_
  refine mm_get (ci := 2) (C := RX2) (T := TX2) (N := 5) hx hb hts in_X2 hown hK hV i_b m_b rfl 1 (by decide) f_15 (fun _ h => h) rfl dX2_copy_10 ?_
  refine mm_put (ci := 2) (v := .int b1) (fs' := [.int w, .int b1, .int k0, .int mv0, .int q0]) (ty := .int) (C := RX2) (T := TX2) (N := 5) hx hb hts in_X2 tyX2 tyX2_ok nmX2 hown hK hV i_a m_a rfl 1 (by decide) f_15 (fun _ h => h) rfl (by decide +kernel) rfl rfl (Nat.le_of_ble_eq_true rfl) rfl dX2_copy_13 (fun M_2 H locs eM_2 hV => ?_)
  have m_b : M_2 b = _ := (congrFun eM_2 b).trans ((va_up_ne _ _ (Ne.symm hab)).trans m_b)
  have m_a : M_2 a = .inr (2, [.int w, .int b1, .int k0, .int mv0, .int q0]) := by rw [eM_2]; exact va_up_self _ _ _
  have fr : ∀ q : Nat, q ≠ a → M_2 q = M q := fun q h0 => (congrFun eM_2 q).trans ((va_up_ne _ _ h0).trans (fr q h0))
  refine lv_aload_n hx hb dX2_copy_16 rfl (lv_at hl 0 rfl) ?_
  refine lv_aload_n hx hb dX2_copy_17 rfl (lv_at hl 1 rfl) ?_
  refine mm_get (ci := 2) (C := RX2) (T := TX2) (N := 5) hx hb hts in_X2 hown hK hV i_b m_b rfl 2 (by decide) f_18 (fun _ h => h) rfl dX2_copy_18 ?_
  refine mm_put (ci := 2) (v := .int k) (fs' := [.int w, .int b1, .int k, .int mv0, .int q0]) (ty := .int) (C := RX2) (T := TX2) (N := 5) hx hb hts in_X2 tyX2 tyX2_ok nmX2 hown hK hV i_a m_a rfl 2 (by decide) f_18 (fun _ h => h) rfl (by decide +kernel) rfl rfl (Nat.le_of_ble_eq_true rfl) rfl dX2_copy_21 (fun M_3 H locs eM_3 hV => ?_)
  have m_b : M_3 b = _ := (congrFun eM_3 b).trans ((va_up_ne _ _ (Ne.symm hab)).trans m_b)
  have m_a : M_3 a = .inr (2, [.int w, .int b1, .int k, .int mv0, .int q0]) := by rw [eM_3]; exact va_up_self _ _ _
  have fr : ∀ q : Nat, q ≠ a → M_3 q = M q := fun q h0 => (congrFun eM_3 q).trans ((va_up_ne _ _ h0).trans (fr q h0))
  refine lv_aload_n hx hb dX2_copy_24 rfl (lv_at hl 0 rfl) ?_
  refine lv_aload_n hx hb dX2_copy_25 rfl (lv_at hl 1 rfl) ?_
  refine mm_get (ci := 2) (C := RX2) (T := TX2) (N := 5) hx hb hts in_X2 hown hK hV i_b m_b rfl 3 (by decide) f_21 (fun _ h => h) rfl dX2_copy_26 ?_
  refine mm_put (ci := 2) (v := .int mv) (fs' := [.int w, .int b1, .int k, .int mv, .int q0]) (ty := .int) (C := RX2) (T := TX2) (N := 5) hx hb hts in_X2 tyX2 tyX2_ok nmX2 hown hK hV i_a m_a rfl 3 (by decide) f_21 (fun _ h => h) rfl (by decide +kernel) rfl rfl (Nat.le_of_ble_eq_true rfl) rfl dX2_copy_29 (fun M_4 H locs eM_4 hV => ?_)
  have m_b : M_4 b = _ := (congrFun eM_4 b).trans ((va_up_ne _ _ (Ne.symm hab)).trans m_b)
  have m_a : M_4 a = .inr (2, [.int w, .int b1, .int k, .int mv, .int q0]) := by rw [eM_4]; exact va_up_self _ _ _
  have fr : ∀ q : Nat, q ≠ a → M_4 q = M q := fun q h0 => (congrFun eM_4 q).trans ((va_up_ne _ _ h0).trans (fr q h0))
  refine lv_aload_n hx hb dX2_copy_32 rfl (lv_at hl 0 rfl) ?_
  refine lv_aload_n hx hb dX2_copy_33 rfl (lv_at hl 1 rfl) ?_
  refine mm_get (ci := 2) (C := RX2) (T := TX2) (N := 5) hx hb hts in_X2 hown hK hV i_b m_b rfl 4 (by decide) f_24 (fun _ h => h) rfl dX2_copy_34 ?_
  refine mm_put (ci := 2) (v := .int q) (fs' := [.int w, .int b1, .int k, .int mv, .int q]) (ty := .int) (C := RX2) (T := TX2) (N := 5) hx hb hts in_X2 tyX2 tyX2_ok nmX2 hown hK hV i_a m_a rfl 4 (by decide) f_24 (fun _ h => h) rfl (by decide +kernel) rfl rfl (Nat.le_of_ble_eq_true rfl) rfl dX2_copy_37 (fun M_5 H locs eM_5 hV => ?_)
  have m_b : M_5 b = _ := (congrFun eM_5 b).trans ((va_up_ne _ _ (Ne.symm hab)).trans m_b)
  have m_a : M_5 a = .inr (2, [.int w, .int b1, .int k, .int mv, .int q]) := by rw [eM_5]; exact va_up_self _ _ _
  have fr : ∀ q : Nat, q ≠ a → M_5 q = M q := fun q h0 => (congrFun eM_5 q).trans ((va_up_ne _ _ h0).trans (fr q h0))
  exact hret dX2_copy_40 hV (by decide) (by decide) ⟨rfl, mm_fin1 (by rw [m_a]; subst_vars; rfl) fr⟩

set_option maxHeartbeats 4000000 in
set_option maxRecDepth 100000 in
theorem c_follow (l : Launch) (D : va_G) (dA : Nat → ClassId) {L : List Nat} {M : mm_M} {a b : Nat} {P0 P : Ps} (x : Int32) (hab : a ≠ b) (i_a : a ∈ L) (i_b : b ∈ L) (m_a : M a = oP P0) (m_b : M b = oP P) : mm_Cm l D dA yX2_follow wsX2_follow 1 [.ref a, .ref b, .int x] L M (fun M1 => M1 = va_up M a (oP (followP P x))) := by
  obtain ⟨w0, b0, k0, mv0, q0⟩ := P0
  obtain ⟨w, b1, k, mv, q⟩ := P
  have m_a : M a = .inr (2, [.int w0, .int b0, .int k0, .int mv0, .int q0]) := m_a
  have m_b : M b = .inr (2, [.int w, .int b1, .int k, .int mv, .int q]) := m_b
  refine mm_enter_v (cc := cX2_follow) (maxL := 9) (by decide) rfl (Nat.le_of_ble_eq_true rfl) ?_
  intro p e R s m args below meth c A ls H locs Q hR hx hb hml hin hown hts hK hV hl hret
  have hl : lv_has ls 9 [(0, .ref a), (1, .ref b), (2, .int x)] := hl
  have hown : s.vm.findClass RX2 = some m.cls := hown
  have f_21 := hts (.fieldLink RX2 21 "JumpBoard$Position" "mover" "I") (by decide +kernel)
  have in_X2 : ∀ w ∈ wsX20, w ∈ wsX2_follow := by decide +kernel
  have f_18 := hts (.fieldLink RX2 18 "JumpBoard$Position" "kings" "I") (by decide +kernel)
  have f_9 := hts (.fieldLink RX2 9 "JumpBoard$Position" "white" "I") (by decide +kernel)
  have f_15 := hts (.fieldLink RX2 15 "JumpBoard$Position" "black" "I") (by decide +kernel)
  have f_24 := hts (.fieldLink RX2 24 "JumpBoard$Position" "kingSteps" "I") (by decide +kernel)
  refine lv_iconst (v := 1) hx hb dX2_follow_0 (by decide) ?_
  refine lv_iload_n hx hb dX2_follow_1 rfl (lv_at hl 2 rfl) ?_
  refine mm_Sp (v := (mvB x)) (As := [.int x]) (rest := [.int 1]) ⟨hx, hb, hml, hown, hts⟩ hK hV (c_X1_beginning l D dA x) (va_cwS 1 hts gX2_follow_X1_beginning rfl rfl rfl (by decide +kernel) (mm_levR hR (by omega) (by decide))) rfl hl.1 rfl (Nat.le_of_ble_eq_true rfl) dX2_follow_2 ⟨Nat.zero_le _, Nat.zero_le _⟩ (fun H locs hV => ?_)
  refine lv_ishl hx hb dX2_follow_5 ?_
  refine lv_topi (fun x3_1 ex3_1 => ?_)
  refine lv_istore_n (lv' := [(3, .int x3_1), (0, .ref a), (1, .ref b), (2, .int x)]) hx hb dX2_follow_6 rfl hl (by decide) rfl (fun ls hl => ?_)
  refine lv_iconst (v := 1) hx hb dX2_follow_7 (by decide) ?_
  refine lv_iload_n hx hb dX2_follow_8 rfl (lv_at hl 3 rfl) ?_
  refine mm_Sp (v := (mvE x)) (As := [.int x]) (rest := [.int 1]) ⟨hx, hb, hml, hown, hts⟩ hK hV (c_X1_end l D dA x) (va_cwS 1 hts gX2_follow_X1_end rfl rfl rfl (by decide +kernel) (mm_levR hR (by omega) (by decide))) rfl hl.1 rfl (Nat.le_of_ble_eq_true rfl) dX2_follow_9 ⟨Nat.zero_le _, Nat.zero_le _⟩ (fun H locs hV => ?_)
  refine lv_ishl hx hb dX2_follow_12 ?_
  refine lv_topi (fun x4_2 ex4_2 => ?_)
  refine lv_istore (lv' := [(4, .int x4_2), (3, .int x3_1), (0, .ref a), (1, .ref b), (2, .int x)]) hx hb dX2_follow_13 hl (by decide) rfl (fun ls hl => ?_)
  refine lv_iload_n hx hb dX2_follow_15 rfl (lv_at hl 4 rfl) ?_
  refine mm_Sp (v := (mvT x)) (As := [.int x]) (rest := []) ⟨hx, hb, hml, hown, hts⟩ hK hV (c_X1_taken l D dA x) (va_cwS 1 hts gX2_follow_X1_taken rfl rfl rfl (by decide +kernel) (mm_levR hR (by omega) (by decide))) rfl hl.1 rfl (Nat.le_of_ble_eq_true rfl) dX2_follow_16 ⟨Nat.zero_le _, Nat.zero_le _⟩ (fun H locs hV => ?_)
  refine lv_topi (fun x5_3 ex5_3 => ?_)
  refine lv_istore (lv' := [(5, .int x5_3), (4, .int x4_2), (3, .int x3_1), (0, .ref a), (1, .ref b), (2, .int x)]) hx hb dX2_follow_19 hl (by decide) rfl (fun ls hl => ?_)
  refine lv_aload_n hx hb dX2_follow_21 rfl (lv_at hl 4 rfl) ?_
  refine mm_get (ci := 2) (C := RX2) (T := TX2) (N := 5) hx hb hts in_X2 hown hK hV i_b m_b rfl 3 (by decide) f_21 (fun _ h => h) rfl dX2_follow_22 ?_
  have J33 : ∀ (v33_4 : Int32), v33_4 = (if mv = 0 then 1 else 0) → W p l e R s m args below meth c H locs 0 0 Q (F0 m 33 ls [.int v33_4]) := by
    intro v33_4 ev33_4
    refine lv_istore (lv' := [(6, .int v33_4), (5, .int x5_3), (4, .int x4_2), (3, .int x3_1), (0, .ref a), (1, .ref b), (2, .int x)]) hx hb dX2_follow_33 hl (by decide) rfl (fun ls hl => ?_)
    refine lv_aload_n hx hb dX2_follow_35 rfl (lv_at hl 5 rfl) ?_
    refine mm_get (ci := 2) (C := RX2) (T := TX2) (N := 5) hx hb hts in_X2 hown hK hV i_b m_b rfl 2 (by decide) f_18 (fun _ h => h) rfl dX2_follow_36 ?_
    refine lv_iload_n hx hb dX2_follow_39 rfl (lv_at hl 3 rfl) ?_
    refine lv_iand hx hb dX2_follow_40 ?_
    have J49 : ∀ (v49_5 : Int32), v49_5 = (if (k &&& x3_1) = 0 then 0 else 1) → W p l e R s m args below meth c H locs 0 0 Q (F0 m 49 ls [.int v49_5]) := by
      intro v49_5 ev49_5
      refine lv_istore (lv' := [(7, .int v49_5), (6, .int v33_4), (5, .int x5_3), (4, .int x4_2), (3, .int x3_1), (0, .ref a), (1, .ref b), (2, .int x)]) hx hb dX2_follow_49 hl (by decide) rfl (fun ls hl => ?_)
      refine lv_iload hx hb dX2_follow_51 (lv_at hl 1 rfl) ?_
      have J63 : ∀ (v63_6 : Int32), v63_6 = (if v33_4 = 0 then 7 else 229376) → W p l e R s m args below meth c H locs 0 0 Q (F0 m 63 ls [.int v63_6]) := by
        intro v63_6 ev63_6
        refine lv_istore (lv' := [(8, .int v63_6), (7, .int v49_5), (6, .int v33_4), (5, .int x5_3), (4, .int x4_2), (3, .int x3_1), (0, .ref a), (1, .ref b), (2, .int x)]) hx hb dX2_follow_63 hl (by decide) rfl (fun ls hl => ?_)
        refine lv_aload_n hx hb dX2_follow_65 rfl (lv_at hl 6 rfl) ?_
        refine lv_iload hx hb dX2_follow_66 (lv_at hl 2 rfl) ?_
        have J94 : ∀ (v94_7 : Int32), v94_7 = (if v33_4 = 0 then (w &&& (x5_3 ^^^ (-1))) else ((w &&& (x3_1 ^^^ (-1))) ||| x4_2)) → W p l e R s m args below meth c H locs 0 0 Q (F0 m 94 ls [.int v94_7, .ref a]) := by
          intro v94_7 ev94_7
          refine mm_put (ci := 2) (v := .int v94_7) (fs' := [.int v94_7, .int b0, .int k0, .int mv0, .int q0]) (ty := .int) (C := RX2) (T := TX2) (N := 5) hx hb hts in_X2 tyX2 tyX2_ok nmX2 hown hK hV i_a m_a rfl 0 (by decide) f_9 (fun _ h => h) rfl (by decide +kernel) rfl rfl (Nat.le_of_ble_eq_true rfl) rfl dX2_follow_94 (fun M_8 H locs eM_8 hV => ?_)
          have m_b : M_8 b = _ := (congrFun eM_8 b).trans ((va_up_ne _ _ (Ne.symm hab)).trans m_b)
          have m_a : M_8 a = .inr (2, [.int v94_7, .int b0, .int k0, .int mv0, .int q0]) := by rw [eM_8]; exact va_up_self _ _ _
          have fr : ∀ q : Nat, q ≠ a → M_8 q = M q := fun q h0 => (congrFun eM_8 q).trans ((va_up_ne _ _ h0).trans rfl)
          refine lv_aload_n hx hb dX2_follow_97 rfl (lv_at hl 6 rfl) ?_
          refine lv_iload hx hb dX2_follow_98 (lv_at hl 2 rfl) ?_
          have J126 : ∀ (v126_9 : Int32), v126_9 = (if v33_4 = 0 then ((b1 &&& (x3_1 ^^^ (-1))) ||| x4_2) else (b1 &&& (x5_3 ^^^ (-1)))) → W p l e R s m args below meth c H locs 0 0 Q (F0 m 126 ls [.int v126_9, .ref a]) := by
            intro v126_9 ev126_9
            refine mm_put (ci := 2) (v := .int v126_9) (fs' := [.int v94_7, .int v126_9, .int k0, .int mv0, .int q0]) (ty := .int) (C := RX2) (T := TX2) (N := 5) hx hb hts in_X2 tyX2 tyX2_ok nmX2 hown hK hV i_a m_a rfl 1 (by decide) f_15 (fun _ h => h) rfl (by decide +kernel) rfl rfl (Nat.le_of_ble_eq_true rfl) rfl dX2_follow_126 (fun M_10 H locs eM_10 hV => ?_)
            have m_b : M_10 b = _ := (congrFun eM_10 b).trans ((va_up_ne _ _ (Ne.symm hab)).trans m_b)
            have m_a : M_10 a = .inr (2, [.int v94_7, .int v126_9, .int k0, .int mv0, .int q0]) := by rw [eM_10]; exact va_up_self _ _ _
            have fr : ∀ q : Nat, q ≠ a → M_10 q = M q := fun q h0 => (congrFun eM_10 q).trans ((va_up_ne _ _ h0).trans (fr q h0))
            refine lv_aload_n hx hb dX2_follow_129 rfl (lv_at hl 6 rfl) ?_
            refine lv_aload_n hx hb dX2_follow_130 rfl (lv_at hl 7 rfl) ?_
            refine mm_get (ci := 2) (C := RX2) (T := TX2) (N := 5) hx hb hts in_X2 hown hK hV i_b m_b rfl 2 (by decide) f_18 (fun _ h => h) rfl dX2_follow_131 ?_
            refine lv_iload_n hx hb dX2_follow_134 rfl (lv_at hl 5 rfl) ?_
            refine lv_iconst (v := (-1)) hx hb dX2_follow_135 (by decide) ?_
            refine lv_ixor hx hb dX2_follow_136 ?_
            refine lv_iand hx hb dX2_follow_137 ?_
            refine lv_iload hx hb dX2_follow_138 (lv_at hl 3 rfl) ?_
            refine lv_iconst (v := (-1)) hx hb dX2_follow_140 (by decide) ?_
            refine lv_ixor hx hb dX2_follow_141 ?_
            refine lv_iand hx hb dX2_follow_142 ?_
            refine lv_topi (fun v_11 ev_11 => ?_)
            refine mm_put (ci := 2) (v := .int v_11) (fs' := [.int v94_7, .int v126_9, .int v_11, .int mv0, .int q0]) (ty := .int) (C := RX2) (T := TX2) (N := 5) hx hb hts in_X2 tyX2 tyX2_ok nmX2 hown hK hV i_a m_a rfl 2 (by decide) f_18 (fun _ h => h) rfl (by decide +kernel) rfl rfl (Nat.le_of_ble_eq_true rfl) rfl dX2_follow_143 (fun M_12 H locs eM_12 hV => ?_)
            have m_b : M_12 b = _ := (congrFun eM_12 b).trans ((va_up_ne _ _ (Ne.symm hab)).trans m_b)
            have m_a : M_12 a = .inr (2, [.int v94_7, .int v126_9, .int v_11, .int mv0, .int q0]) := by rw [eM_12]; exact va_up_self _ _ _
            have fr : ∀ q : Nat, q ≠ a → M_12 q = M q := fun q h0 => (congrFun eM_12 q).trans ((va_up_ne _ _ h0).trans (fr q h0))
            refine lv_iload hx hb dX2_follow_146 (lv_at hl 1 rfl) ?_
            have J170 : ∀ (M_17 : mm_M) (H : Heap) (locs : List Loc) (w_18 : Int32), mm_V A D L M_17 s H locs → w_18 = (if v49_5 = 0 then (if (x4_2 &&& v63_6) = 0 then v_11 else (v_11 ||| x4_2)) else (v_11 ||| x4_2)) → M_17 a = .inr (2, [.int v94_7, .int v126_9, .int w_18, .int mv0, .int q0]) → M_17 b = .inr (2, [.int w, .int b1, .int k, .int mv, .int q]) → (∀ q : Nat, q ≠ a → M_17 q = M q) → W p l e R s m args below meth c H locs 0 0 Q (F0 m 170 ls []) := by
              intro M_17 H locs w_18 hV ew_18 m_a m_b fr
              refine lv_aload_n hx hb dX2_follow_170 rfl (lv_at hl 6 rfl) ?_
              refine lv_iload hx hb dX2_follow_171 (lv_at hl 2 rfl) ?_
              have J181 : ∀ (v181_19 : Int32), v181_19 = (if v33_4 = 0 then 0 else 1) → W p l e R s m args below meth c H locs 0 0 Q (F0 m 181 ls [.int v181_19, .ref a]) := by
                intro v181_19 ev181_19
                refine mm_put (ci := 2) (v := .int v181_19) (fs' := [.int v94_7, .int v126_9, .int w_18, .int v181_19, .int q0]) (ty := .int) (C := RX2) (T := TX2) (N := 5) hx hb hts in_X2 tyX2 tyX2_ok nmX2 hown hK hV i_a m_a rfl 3 (by decide) f_21 (fun _ h => h) rfl (by decide +kernel) rfl rfl (Nat.le_of_ble_eq_true rfl) rfl dX2_follow_181 (fun M_20 H locs eM_20 hV => ?_)
                have m_b : M_20 b = _ := (congrFun eM_20 b).trans ((va_up_ne _ _ (Ne.symm hab)).trans m_b)
                have m_a : M_20 a = .inr (2, [.int v94_7, .int v126_9, .int w_18, .int v181_19, .int q0]) := by rw [eM_20]; exact va_up_self _ _ _
                have fr : ∀ q : Nat, q ≠ a → M_20 q = M q := fun q h0 => (congrFun eM_20 q).trans ((va_up_ne _ _ h0).trans (fr q h0))
                refine lv_aload_n hx hb dX2_follow_184 rfl (lv_at hl 6 rfl) ?_
                refine lv_iload hx hb dX2_follow_185 (lv_at hl 1 rfl) ?_
                have J205 : ∀ (v205_21 : Int32), v205_21 = (if v49_5 = 0 then 0 else (if x5_3 = 0 then (q + 1) else 0)) → W p l e R s m args below meth c H locs 0 0 Q (F0 m 205 ls [.int v205_21, .ref a]) := by
                  intro v205_21 ev205_21
                  refine mm_put (ci := 2) (v := .int v205_21) (fs' := [.int v94_7, .int v126_9, .int w_18, .int v181_19, .int v205_21]) (ty := .int) (C := RX2) (T := TX2) (N := 5) hx hb hts in_X2 tyX2 tyX2_ok nmX2 hown hK hV i_a m_a rfl 4 (by decide) f_24 (fun _ h => h) rfl (by decide +kernel) rfl rfl (Nat.le_of_ble_eq_true rfl) rfl dX2_follow_205 (fun M_22 H locs eM_22 hV => ?_)
                  have m_b : M_22 b = _ := (congrFun eM_22 b).trans ((va_up_ne _ _ (Ne.symm hab)).trans m_b)
                  have m_a : M_22 a = .inr (2, [.int v94_7, .int v126_9, .int w_18, .int v181_19, .int v205_21]) := by rw [eM_22]; exact va_up_self _ _ _
                  have fr : ∀ q : Nat, q ≠ a → M_22 q = M q := fun q h0 => (congrFun eM_22 q).trans ((va_up_ne _ _ h0).trans (fr q h0))
                  exact hret dX2_follow_208 hV (by decide) (by decide) ⟨rfl, mm_fin1 (by rw [m_a]; subst_vars; unfold followP oP; simp only []; split <;> simp_all) fr⟩
                refine lv_if_eq (tgt := 204) hx hb dX2_follow_187 (by decide) (fun c187 => ?_) (fun c187 => ?_)
                · refine lv_iconst (v := 0) hx hb dX2_follow_204 (by decide) ?_
                  exact J205 _ (by rw [if_pos c187])
                · refine lv_iload hx hb dX2_follow_190 (lv_at hl 3 rfl) ?_
                  refine lv_if_ne (tgt := 204) hx hb dX2_follow_192 (by decide) (fun c192 => ?_) (fun c192 => ?_)
                  · refine lv_iconst (v := 0) hx hb dX2_follow_204 (by decide) ?_
                    exact J205 _ (by rw [if_neg c187, if_neg c192])
                  · refine lv_aload_n hx hb dX2_follow_195 rfl (lv_at hl 7 rfl) ?_
                    refine mm_get (ci := 2) (C := RX2) (T := TX2) (N := 5) hx hb hts in_X2 hown hK hV i_b m_b rfl 4 (by decide) f_24 (fun _ h => h) rfl dX2_follow_196 ?_
                    refine lv_iconst (v := 1) hx hb dX2_follow_199 (by decide) ?_
                    refine lv_iadd hx hb dX2_follow_200 ?_
                    refine lv_goto (tgt := 205) hx hb dX2_follow_201 (by decide) ?_
                    exact J205 _ (by rw [if_neg c187, if_pos c192])
              refine lv_if_eq (tgt := 180) hx hb dX2_follow_173 (by decide) (fun c173 => ?_) (fun c173 => ?_)
              · refine lv_iconst (v := 0) hx hb dX2_follow_180 (by decide) ?_
                exact J181 _ (by rw [if_pos c173])
              · refine lv_iconst (v := 1) hx hb dX2_follow_176 (by decide) ?_
                refine lv_goto (tgt := 181) hx hb dX2_follow_177 (by decide) ?_
                exact J181 _ (by rw [if_neg c173])
            refine lv_if_ne (tgt := 159) hx hb dX2_follow_148 (by decide) (fun c148 => ?_) (fun c148 => ?_)
            · refine lv_aload_n hx hb dX2_follow_159 rfl (lv_at hl 6 rfl) ?_
              refine lv_dup hx hb dX2_follow_160 rfl ?_
              refine mm_get (ci := 2) (C := RX2) (T := TX2) (N := 5) hx hb hts in_X2 hown hK hV i_a m_a rfl 2 (by decide) f_18 (fun _ h => h) rfl dX2_follow_161 ?_
              refine lv_iload hx hb dX2_follow_164 (lv_at hl 4 rfl) ?_
              refine lv_ior hx hb dX2_follow_166 ?_
              refine lv_topi (fun v_13 ev_13 => ?_)
              refine mm_put (ci := 2) (v := .int v_13) (fs' := [.int v94_7, .int v126_9, .int v_13, .int mv0, .int q0]) (ty := .int) (C := RX2) (T := TX2) (N := 5) hx hb hts in_X2 tyX2 tyX2_ok nmX2 hown hK hV i_a m_a rfl 2 (by decide) f_18 (fun _ h => h) rfl (by decide +kernel) rfl rfl (Nat.le_of_ble_eq_true rfl) rfl dX2_follow_167 (fun M_14 H locs eM_14 hV => ?_)
              have m_b : M_14 b = _ := (congrFun eM_14 b).trans ((va_up_ne _ _ (Ne.symm hab)).trans m_b)
              have m_a : M_14 a = .inr (2, [.int v94_7, .int v126_9, .int v_13, .int mv0, .int q0]) := by rw [eM_14]; exact va_up_self _ _ _
              have fr : ∀ q : Nat, q ≠ a → M_14 q = M q := fun q h0 => (congrFun eM_14 q).trans ((va_up_ne _ _ h0).trans (fr q h0))
              exact J170 _ _ _ _ hV (by rw [if_neg c148, ev_13]) m_a m_b (fun q h0 => fr q h0)
            · refine lv_iload hx hb dX2_follow_151 (lv_at hl 4 rfl) ?_
              refine lv_iload hx hb dX2_follow_153 (lv_at hl 0 rfl) ?_
              refine lv_iand hx hb dX2_follow_155 ?_
              refine lv_if_eq (tgt := 170) hx hb dX2_follow_156 (by decide) (fun c156 => ?_) (fun c156 => ?_)
              · exact J170 _ _ _ _ hV (by rw [if_pos c148, if_pos c156]) m_a m_b (fun q h0 => fr q h0)
              · refine lv_aload_n hx hb dX2_follow_159 rfl (lv_at hl 6 rfl) ?_
                refine lv_dup hx hb dX2_follow_160 rfl ?_
                refine mm_get (ci := 2) (C := RX2) (T := TX2) (N := 5) hx hb hts in_X2 hown hK hV i_a m_a rfl 2 (by decide) f_18 (fun _ h => h) rfl dX2_follow_161 ?_
                refine lv_iload hx hb dX2_follow_164 (lv_at hl 4 rfl) ?_
                refine lv_ior hx hb dX2_follow_166 ?_
                refine lv_topi (fun v_15 ev_15 => ?_)
                refine mm_put (ci := 2) (v := .int v_15) (fs' := [.int v94_7, .int v126_9, .int v_15, .int mv0, .int q0]) (ty := .int) (C := RX2) (T := TX2) (N := 5) hx hb hts in_X2 tyX2 tyX2_ok nmX2 hown hK hV i_a m_a rfl 2 (by decide) f_18 (fun _ h => h) rfl (by decide +kernel) rfl rfl (Nat.le_of_ble_eq_true rfl) rfl dX2_follow_167 (fun M_16 H locs eM_16 hV => ?_)
                have m_b : M_16 b = _ := (congrFun eM_16 b).trans ((va_up_ne _ _ (Ne.symm hab)).trans m_b)
                have m_a : M_16 a = .inr (2, [.int v94_7, .int v126_9, .int v_15, .int mv0, .int q0]) := by rw [eM_16]; exact va_up_self _ _ _
                have fr : ∀ q : Nat, q ≠ a → M_16 q = M q := fun q h0 => (congrFun eM_16 q).trans ((va_up_ne _ _ h0).trans (fr q h0))
                exact J170 _ _ _ _ hV (by rw [if_pos c148, if_neg c156, ev_15]) m_a m_b (fun q h0 => fr q h0)
          refine lv_if_eq (tgt := 115) hx hb dX2_follow_100 (by decide) (fun c100 => ?_) (fun c100 => ?_)
          · refine lv_aload_n hx hb dX2_follow_115 rfl (lv_at hl 7 rfl) ?_
            refine mm_get (ci := 2) (C := RX2) (T := TX2) (N := 5) hx hb hts in_X2 hown hK hV i_b m_b rfl 1 (by decide) f_15 (fun _ h => h) rfl dX2_follow_116 ?_
            refine lv_iload_n hx hb dX2_follow_119 rfl (lv_at hl 5 rfl) ?_
            refine lv_iconst (v := (-1)) hx hb dX2_follow_120 (by decide) ?_
            refine lv_ixor hx hb dX2_follow_121 ?_
            refine lv_iand hx hb dX2_follow_122 ?_
            refine lv_iload hx hb dX2_follow_123 (lv_at hl 4 rfl) ?_
            refine lv_ior hx hb dX2_follow_125 ?_
            exact J126 _ (by rw [if_pos c100])
          · refine lv_aload_n hx hb dX2_follow_103 rfl (lv_at hl 7 rfl) ?_
            refine mm_get (ci := 2) (C := RX2) (T := TX2) (N := 5) hx hb hts in_X2 hown hK hV i_b m_b rfl 1 (by decide) f_15 (fun _ h => h) rfl dX2_follow_104 ?_
            refine lv_iload hx hb dX2_follow_107 (lv_at hl 3 rfl) ?_
            refine lv_iconst (v := (-1)) hx hb dX2_follow_109 (by decide) ?_
            refine lv_ixor hx hb dX2_follow_110 ?_
            refine lv_iand hx hb dX2_follow_111 ?_
            refine lv_goto (tgt := 126) hx hb dX2_follow_112 (by decide) ?_
            exact J126 _ (by rw [if_neg c100])
        refine lv_if_eq (tgt := 85) hx hb dX2_follow_68 (by decide) (fun c68 => ?_) (fun c68 => ?_)
        · refine lv_aload_n hx hb dX2_follow_85 rfl (lv_at hl 7 rfl) ?_
          refine mm_get (ci := 2) (C := RX2) (T := TX2) (N := 5) hx hb hts in_X2 hown hK hV i_b m_b rfl 0 (by decide) f_9 (fun _ h => h) rfl dX2_follow_86 ?_
          refine lv_iload hx hb dX2_follow_89 (lv_at hl 3 rfl) ?_
          refine lv_iconst (v := (-1)) hx hb dX2_follow_91 (by decide) ?_
          refine lv_ixor hx hb dX2_follow_92 ?_
          refine lv_iand hx hb dX2_follow_93 ?_
          exact J94 _ (by rw [if_pos c68])
        · refine lv_aload_n hx hb dX2_follow_71 rfl (lv_at hl 7 rfl) ?_
          refine mm_get (ci := 2) (C := RX2) (T := TX2) (N := 5) hx hb hts in_X2 hown hK hV i_b m_b rfl 0 (by decide) f_9 (fun _ h => h) rfl dX2_follow_72 ?_
          refine lv_iload_n hx hb dX2_follow_75 rfl (lv_at hl 5 rfl) ?_
          refine lv_iconst (v := (-1)) hx hb dX2_follow_76 (by decide) ?_
          refine lv_ixor hx hb dX2_follow_77 ?_
          refine lv_iand hx hb dX2_follow_78 ?_
          refine lv_iload hx hb dX2_follow_79 (lv_at hl 4 rfl) ?_
          refine lv_ior hx hb dX2_follow_81 ?_
          refine lv_goto (tgt := 94) hx hb dX2_follow_82 (by decide) ?_
          exact J94 _ (by rw [if_neg c68])
      refine lv_if_eq (tgt := 61) hx hb dX2_follow_53 (by decide) (fun c53 => ?_) (fun c53 => ?_)
      · refine lv_bipush (v := 7) hx hb dX2_follow_61 (by decide) ?_
        exact J63 _ (by rw [if_pos c53])
      · refine lv_ldc hx hb hown (hts (.constant RX2 48 (229376)) (by decide +kernel)) dX2_follow_56 ?_
        refine lv_goto (tgt := 63) hx hb dX2_follow_58 (by decide) ?_
        exact J63 _ (by rw [if_neg c53])
    refine lv_if_eq (tgt := 48) hx hb dX2_follow_41 (by decide) (fun c41 => ?_) (fun c41 => ?_)
    · refine lv_iconst (v := 0) hx hb dX2_follow_48 (by decide) ?_
      exact J49 _ (by rw [if_pos c41])
    · refine lv_iconst (v := 1) hx hb dX2_follow_44 (by decide) ?_
      refine lv_goto (tgt := 49) hx hb dX2_follow_45 (by decide) ?_
      exact J49 _ (by rw [if_neg c41])
  refine lv_if_ne (tgt := 32) hx hb dX2_follow_25 (by decide) (fun c25 => ?_) (fun c25 => ?_)
  · refine lv_iconst (v := 0) hx hb dX2_follow_32 (by decide) ?_
    exact J33 _ (by rw [if_neg c25])
  · refine lv_iconst (v := 1) hx hb dX2_follow_28 (by decide) ?_
    refine lv_goto (tgt := 33) hx hb dX2_follow_29 (by decide) ?_
    exact J33 _ (by rw [if_pos c25])
end
section
/-! The list of moves: an array of 72 ints, the first n are in use -/
def oL (pk : Nat) (n : Int32) : va_E := .inr (1, [.ref pk, .int n])
/-- how many of the first n stand before v -/
def plc (f : Nat → Int32) (v : Int32) : Nat → Nat
  | 0 => 0
  | n + 1 => if f n ≤ v then n + 1 else plc f v n
theorem plc_le (f : Nat → Int32) (v : Int32) : ∀ n, plc f v n ≤ n
  | 0 => Nat.le_refl _
  | n + 1 => by
    unfold plc
    split
    · exact Nat.le_refl _
    · exact Nat.le_succ_of_le (plc_le f v n)
def enterF (f : Nat → Int32) (n : Nat) (v : Int32) : (Nat → Int32) × Nat :=
  if (0 < plc f v n ∧ f (plc f v n - 1) = v) ∨ 72 ≤ n then (f, n)
  else (fun i => if i < plc f v n then f i else if i = plc f v n then v else if i ≤ n then f (i - 1) else f i, n + 1)
def packF (x y z : Int32) : Int32 := ((x <<< ((23 : Int32) &&& 31)) ||| (y <<< ((18 : Int32) &&& 31))) ||| z
theorem mm_if2 {P Q : Prop} [Decidable P] [Decidable Q] {v : Int32} (e : v = if P then 0 else (if Q then 1 else 0)) (h : ¬ v = 0) : ¬ P ∧ Q := by
  subst e
  by_cases hp : P
  · rw [if_pos hp] at h; exact absurd rfl h
  · rw [if_neg hp] at h
    by_cases hq : Q
    · exact ⟨hp, hq⟩
    · rw [if_neg hq] at h; exact absurd rfl h
theorem mm_pred {j : Nat} (h : 0 < j) : nI j - 1 = nI (j - 1) := by
  obtain ⟨k, rfl⟩ : ∃ k, j = k + 1 := ⟨j - 1, by omega⟩
  exact nI_pred k
theorem mm_pred' {j : Nat} (h : 0 < j) : nI j + (-1) = nI (j - 1) := by
  obtain ⟨k, rfl⟩ : ∃ k, j = k + 1 := ⟨j - 1, by omega⟩
  exact pk_m1 k
theorem mm_pos {j : Nat} (hj : j < 2 ^ 31) (h : ¬ nI j ≤ 0) : 0 < j := by
  rcases Nat.eq_zero_or_pos j with h0 | h0
  · subst h0; exact absurd (by decide +kernel) h
  · exact h0
theorem mm_zero {j : Nat} (hj : j < 2 ^ 31) (h : nI j ≤ 0) : j = 0 := by
  rcases Nat.eq_zero_or_pos j with h0 | h0
  · exact h0
  · exact absurd h (nI_nle h0 hj)
/-- the array while the shift goes: places above i hold what stood one below -/
def shF (f : Nat → Int32) (n i : Nat) : Nat → Int32 := fun q => if i < q ∧ q ≤ n then f (q - 1) else f q
theorem shF_step {f : Nat → Int32} {n i : Nat} (h0 : 0 < i) (hi : i ≤ n) : upd (shF f n i) i (shF f n i (i - 1)) = shF f n (i - 1) := by
  funext q
  by_cases hq : q = i
  · subst hq
    rw [pk_us]
    unfold shF
    rw [if_neg (by omega), if_pos (by omega)]
  · rw [pk_un hq]
    unfold shF
    by_cases h : i < q ∧ q ≤ n
    · rw [if_pos h, if_pos (by omega)]
    · rw [if_neg h, if_neg (by omega)]
theorem shF_0 (f : Nat → Int32) (n : Nat) : shF f n n = f := by
  funext q; unfold shF; rw [if_neg (by omega)]
theorem shF_end (f : Nat → Int32) (n j : Nat) (v : Int32) (hj : j ≤ n) : upd (shF f n j) j v = fun i => if i < j then f i else if i = j then v else if i ≤ n then f (i - 1) else f i := by
  funext q
  by_cases hq : q = j
  · subst hq
    rw [pk_us, if_neg (by omega), if_pos rfl]
  · rw [pk_un hq]
    unfold shF
    by_cases h1 : q < j
    · rw [if_neg (by omega), if_pos h1]
    · rw [if_neg h1, if_neg hq]
      by_cases h2 : q ≤ n
      · rw [if_pos (by omega), if_pos h2]
      · rw [if_neg (by omega), if_neg h2]

set_option maxHeartbeats 4000000 in
set_option maxRecDepth 100000 in
theorem c_enter (l : Launch) (D : va_G) (dA : Nat → ClassId) {L : List Nat} {M : mm_M} {t pk : Nat} {f : Nat → Int32} {n : Nat} (x y z : Int32) (hn : n ≤ 72) (i_t : t ∈ L) (i_pk : pk ∈ L) (m_t : M t = oL pk (nI n)) (m_pk : M pk = .inl (dA 0, 72, .inl f)) : mm_Cm l D dA yX1_enter wsX1_enter 0 [.ref t, .int x, .int y, .int z] L M (fun M1 => M1 = va_up (va_up M t (oL pk (nI (enterF f n (packF x y z)).2))) pk (.inl (dA 0, 72, .inl (enterF f n (packF x y z)).1))) := by
  have m_t : M t = .inr (1, [.ref pk, .int (nI n)]) := m_t
  refine mm_enter_v (cc := cX1_enter) (maxL := 8) (by decide) rfl (Nat.le_of_ble_eq_true rfl) ?_
  intro p e R s m args below meth c A ls H locs Q hR hx hb hml hin hown hts hK hV hl hret
  have hl : lv_has ls 8 [(0, .ref t), (1, .int x), (2, .int y), (3, .int z)] := hl
  have hown : s.vm.findClass RX1 = some m.cls := hown
  have f_16 := hts (.fieldLink RX1 16 "JumpBoard$MoveList" "count" "I") (by decide +kernel)
  have in_X1 : ∀ w ∈ wsX10, w ∈ wsX1_enter := by decide +kernel
  have f_11 := hts (.fieldLink RX1 11 "JumpBoard$MoveList" "packed" "[I") (by decide +kernel)
  refine lv_iload_n hx hb dX1_enter_0 rfl (lv_at hl 1 rfl) ?_
  refine lv_bipush (v := 23) hx hb dX1_enter_1 (by decide) ?_
  refine lv_ishl hx hb dX1_enter_3 ?_
  refine lv_iload_n hx hb dX1_enter_4 rfl (lv_at hl 2 rfl) ?_
  refine lv_bipush (v := 18) hx hb dX1_enter_5 (by decide) ?_
  refine lv_ishl hx hb dX1_enter_7 ?_
  refine lv_ior hx hb dX1_enter_8 ?_
  refine lv_iload_n hx hb dX1_enter_9 rfl (lv_at hl 3 rfl) ?_
  refine lv_ior hx hb dX1_enter_10 ?_
  refine lv_topi (fun x4 ex4 => ?_)
  refine lv_istore (lv' := [(4, .int x4), (0, .ref t), (1, .int x), (2, .int y), (3, .int z)]) hx hb dX1_enter_11 hl (by decide) rfl (fun ls hl => ?_)
  have hx4 : x4 = packF x y z := ex4
  refine lv_aload_n hx hb dX1_enter_13 rfl (lv_at hl 1 rfl) ?_
  refine mm_get (ci := 1) (C := RX1) (T := TX1) (N := 2) hx hb hts in_X1 hown hK hV i_t m_t rfl 1 (by decide) f_16 (fun _ h => h) rfl dX1_enter_14 ?_
  refine lv_topi (fun x5 ex5 => ?_)
  refine lv_istore (lv' := [(5, .int x5), (4, .int x4), (0, .ref t), (1, .int x), (2, .int y), (3, .int z)]) hx hb dX1_enter_17 hl (by decide) rfl (fun ls hl => ?_)
  have K44 : ∀ (j : Nat) (x5 : Int32) (ls : Array Slot), x5 = nI j → j ≤ n → plc f x4 n = j → lv_has ls 8 [(0, .ref t), (4, .int x4), (5, .int x5)] → W p l e R s m args below meth c H locs 0 0 Q (F0 m 44 ls []) := by
    intro j x5 ls ex5 hj hpl hl
    refine lv_iload hx hb dX1_enter_44 (lv_at hl 2 rfl) ?_
    have J68 : ∀ (v68 : Int32), v68 = (if x5 ≤ 0 then 0 else (if f (j - 1) = x4 then 1 else 0)) → W p l e R s m args below meth c H locs 0 0 Q (F0 m 68 ls [.int v68]) := by
      intro v68 ev68
      refine lv_istore (lv' := [(6, .int v68), (0, .ref t), (4, .int x4), (5, .int x5)]) hx hb dX1_enter_68 hl (by decide) rfl (fun ls hl => ?_)
      refine lv_iload hx hb dX1_enter_70 (lv_at hl 0 rfl) ?_
      refine lv_if_ne (tgt := 84) hx hb dX1_enter_72 (by decide) (fun c72 => ?_) (fun c72 => ?_)
      · have hk := mm_if2 ev68 c72
        have hsame : enterF f n (packF x y z) = (f, n) := by rw [← hx4]; unfold enterF; rw [if_pos (Or.inl (by rw [hpl]; exact ⟨mm_pos (by omega) (by rw [← ex5]; exact hk.1), hk.2⟩))]
        exact hret dX1_enter_84 hV (by decide) (by decide) ⟨rfl, by rw [hsame]; exact mm_fin2 m_t m_pk (mm_neq m_t m_pk (by intro h; cases h)) (fun q _ _ => rfl)⟩
      · refine lv_aload_n hx hb dX1_enter_75 rfl (lv_at hl 1 rfl) ?_
        refine mm_get (ci := 1) (C := RX1) (T := TX1) (N := 2) hx hb hts in_X1 hown hK hV i_t m_t rfl 1 (by decide) f_16 (fun _ h => h) rfl dX1_enter_76 ?_
        refine lv_bipush (v := 72) hx hb dX1_enter_79 (by decide) ?_
        refine lv_icmp_lt (tgt := 85) hx hb dX1_enter_81 (by decide) (fun c81 => ?_) (fun c81 => ?_)
        · refine lv_aload_n hx hb dX1_enter_85 rfl (lv_at hl 1 rfl) ?_
          refine mm_get (ci := 1) (C := RX1) (T := TX1) (N := 2) hx hb hts in_X1 hown hK hV i_t m_t rfl 1 (by decide) f_16 (fun _ h => h) rfl dX1_enter_86 ?_
          refine lv_topi (fun x7 ex7 => ?_)
          refine lv_istore (lv' := [(7, .int x7), (6, .int v68), (0, .ref t), (4, .int x4), (5, .int x5)]) hx hb dX1_enter_89 hl (by decide) rfl (fun ls hl => ?_)
          have hpc : ¬ ((0 < plc f x4 n ∧ f (plc f x4 n - 1) = x4) ∨ 72 ≤ n) := by
            rintro (h | h)
            · rw [hpl] at h
              rw [ev68, ex5, if_neg (nI_nle h.1 (by omega)), if_pos h.2] at c72
              exact absurd c72 (by decide)
            · exact absurd c81 (nI_nlt (b := 72) h (by omega))
          have hent : enterF f n x4 = (fun i => if i < j then f i else if i = j then x4 else if i ≤ n then f (i - 1) else f i, n + 1) := by unfold enterF; rw [if_neg hpc, hpl]
          have LQ : ∀ (d i : Nat) (x7 : Int32) (M1 : mm_M) (H : Heap) (locs : List Loc) (ls : Array Slot), i = j + d → i ≤ n → x7 = nI i → mm_V A D L M1 s H locs → M1 t = .inr (1, [.ref pk, .int (nI n)]) → M1 pk = .inl (dA 0, 72, .inl (shF f n i)) → (∀ q : Nat, q ≠ pk → M1 q = M q) → lv_has ls 8 [(0, .ref t), (4, .int x4), (5, .int x5), (7, .int x7)] → W p l e R s m args below meth c H locs 0 0 Q (F0 m 91 ls []) := by
            intro d
            induction d with
            | zero =>
              intro i x7 M1 H locs ls hd hin7 ex7 hV m_t m_pk fr hl
              refine lv_iload hx hb dX1_enter_91 (lv_at hl 3 rfl) ?_
              refine lv_iload hx hb dX1_enter_93 (lv_at hl 2 rfl) ?_
              refine lv_icmp_le (tgt := 120) hx hb dX1_enter_95 (by decide) (fun c95 => ?_) (fun c95 => ?_)
              · refine lv_aload_n hx hb dX1_enter_120 rfl (lv_at hl 0 rfl) ?_
                refine mm_get (ci := 1) (C := RX1) (T := TX1) (N := 2) hx hb hts in_X1 hown hK hV i_t m_t rfl 0 (by decide) f_11 (fun _ h => h) rfl dX1_enter_121 ?_
                refine lv_iload hx hb dX1_enter_124 (lv_at hl 2 rfl) ?_
                refine lv_iload hx hb dX1_enter_126 (lv_at hl 1 rfl) ?_
                refine mm_iastN (j := j) (x := x4) hx hb hK hV i_pk m_pk ex5 (by omega) (by decide) dX1_enter_128 (fun M_1 H locs eM_1 hV => ?_)
                have m_t : M_1 t = _ := (congrFun eM_1 t).trans ((va_up_ne _ _ (mm_neq m_t m_pk (by intro h; cases h))).trans m_t)
                have m_pk : M_1 pk = .inl (dA 0, 72, .inl (upd (shF f n i) j x4)) := by rw [eM_1]; exact va_up_self _ _ _
                have fr : ∀ q : Nat, q ≠ pk → M_1 q = M q := fun q h0 => (congrFun eM_1 q).trans ((va_up_ne _ _ h0).trans (fr q h0))
                refine lv_aload_n hx hb dX1_enter_129 rfl (lv_at hl 0 rfl) ?_
                refine lv_dup hx hb dX1_enter_130 rfl ?_
                refine mm_get (ci := 1) (C := RX1) (T := TX1) (N := 2) hx hb hts in_X1 hown hK hV i_t m_t rfl 1 (by decide) f_16 (fun _ h => h) rfl dX1_enter_131 ?_
                refine lv_iconst (v := 1) hx hb dX1_enter_134 (by decide) ?_
                refine lv_iadd hx hb dX1_enter_135 ?_
                refine lv_topi (fun cn ecn => ?_)
                refine mm_put (ci := 1) (v := .int cn) (fs' := [.ref pk, .int cn]) (ty := .int) (C := RX1) (T := TX1) (N := 2) hx hb hts in_X1 tyX1 tyX1_ok nmX1 hown hK hV i_t m_t rfl 1 (by decide) f_16 (fun _ h => h) rfl (by decide +kernel) rfl rfl (Nat.le_of_ble_eq_true rfl) rfl dX1_enter_136 (fun M_2 H locs eM_2 hV => ?_)
                have m_pk : M_2 pk = _ := (congrFun eM_2 pk).trans ((va_up_ne _ _ (mm_neq m_pk m_t (by intro h; cases h))).trans m_pk)
                have m_t : M_2 t = .inr (1, [.ref pk, .int cn]) := by rw [eM_2]; exact va_up_self _ _ _
                have fr : ∀ q : Nat, q ≠ pk → q ≠ t → M_2 q = M q := fun q h0 h1 => (congrFun eM_2 q).trans ((va_up_ne _ _ h1).trans (fr q h0))
                exact hret dX1_enter_139 hV (by decide) (by decide) ⟨rfl, by rw [← hx4, hent]; exact mm_fin2 (by rw [m_t, ecn]; exact congrArg (fun z => Sum.inr (1, [Value.ref pk, Value.int z])) (nI_1 n)) (by rw [m_pk, show i = j by omega, shF_end f n j x4 hj]) (mm_neq m_t m_pk (by intro h; cases h)) (fun q h0 h1 => fr q h1 h0)⟩
              · exact absurd (by rw [ex7, ex5, hd]; exact Int32.le_refl _) c95
            | succ d ih =>
              intro i x7 M1 H locs ls hd hin7 ex7 hV m_t m_pk fr hl
              refine lv_iload hx hb dX1_enter_91 (lv_at hl 3 rfl) ?_
              refine lv_iload hx hb dX1_enter_93 (lv_at hl 2 rfl) ?_
              refine lv_icmp_le (tgt := 120) hx hb dX1_enter_95 (by decide) (fun c95 => ?_) (fun c95 => ?_)
              · exact absurd c95 (by rw [ex7, ex5, hd]; exact nI_ge (by omega) (by omega))
              · refine lv_aload_n hx hb dX1_enter_98 rfl (lv_at hl 0 rfl) ?_
                refine mm_get (ci := 1) (C := RX1) (T := TX1) (N := 2) hx hb hts in_X1 hown hK hV i_t m_t rfl 0 (by decide) f_11 (fun _ h => h) rfl dX1_enter_99 ?_
                refine lv_iload hx hb dX1_enter_102 (lv_at hl 3 rfl) ?_
                refine lv_aload_n hx hb dX1_enter_104 rfl (lv_at hl 0 rfl) ?_
                refine mm_get (ci := 1) (C := RX1) (T := TX1) (N := 2) hx hb hts in_X1 hown hK hV i_t m_t rfl 0 (by decide) f_11 (fun _ h => h) rfl dX1_enter_105 ?_
                refine lv_iload hx hb dX1_enter_108 (lv_at hl 3 rfl) ?_
                refine lv_iconst (v := 1) hx hb dX1_enter_110 (by decide) ?_
                refine lv_isub hx hb dX1_enter_111 ?_
                refine mm_ialdN (j := (i - 1)) hx hb hK hV i_pk m_pk (by rw [ex7]; exact mm_pred (by omega)) (by omega) (by decide) dX1_enter_112 ?_
                refine lv_topi (fun v113 ev113 => ?_)
                refine mm_iastN (j := i) (x := v113) hx hb hK hV i_pk m_pk ex7 (by omega) (by decide) dX1_enter_113 (fun M_3 H locs eM_3 hV => ?_)
                have m_t : M_3 t = _ := (congrFun eM_3 t).trans ((va_up_ne _ _ (mm_neq m_t m_pk (by intro h; cases h))).trans m_t)
                have m_pk : M_3 pk = .inl (dA 0, 72, .inl (upd (shF f n i) i v113)) := by rw [eM_3]; exact va_up_self _ _ _
                have fr : ∀ q : Nat, q ≠ pk → M_3 q = M q := fun q h0 => (congrFun eM_3 q).trans ((va_up_ne _ _ h0).trans (fr q h0))
                obtain ⟨x7_n, ex7_n⟩ : ∃ y : Int32, y = x7 + (-1) := ⟨_, rfl⟩
                refine lv_iinc (v := x7_n) (lv' := [(7, .int x7_n), (0, .ref t), (4, .int x4), (5, .int x5)]) hx hb dX1_enter_114 hl (k := 3) rfl (by rw [ex7_n]; rfl) (by decide) rfl (fun ls hl => ?_)
                refine lv_goto (tgt := 91) hx hb dX1_enter_117 (by decide) ?_
                exact ih (i - 1) x7_n M_3 _ _ ls (by omega) (by omega) (by rw [ex7_n, ex7]; exact mm_pred' (by omega)) hV m_t (by rw [m_pk, ev113, shF_step (by omega) hin7]) fr (lv_sub hl [1, 2, 3, 0] rfl)
          exact LQ (n - j) n x7 M H locs ls (by omega) (Nat.le_refl n) ex7 hV m_t (by rw [m_pk, shF_0]) (fun q _ => rfl) (lv_sub hl [2, 3, 4, 0] rfl)
        · have hfull : 72 ≤ n := Nat.not_lt.mp (fun h => c81 (nI_lt h (by decide)))
          have hsame : enterF f n (packF x y z) = (f, n) := by unfold enterF; rw [if_pos (Or.inr hfull)]
          exact hret dX1_enter_84 hV (by decide) (by decide) ⟨rfl, by rw [hsame]; exact mm_fin2 m_t m_pk (mm_neq m_t m_pk (by intro h; cases h)) (fun q _ _ => rfl)⟩
    refine lv_if_le (tgt := 67) hx hb dX1_enter_46 (by decide) (fun c46 => ?_) (fun c46 => ?_)
    · refine lv_iconst (v := 0) hx hb dX1_enter_67 (by decide) ?_
      exact J68 _ (by rw [if_pos c46])
    · have hj0 : 0 < j := mm_pos (by omega) (by rw [← ex5]; exact c46)
      refine lv_aload_n hx hb dX1_enter_49 rfl (lv_at hl 0 rfl) ?_
      refine mm_get (ci := 1) (C := RX1) (T := TX1) (N := 2) hx hb hts in_X1 hown hK hV i_t m_t rfl 0 (by decide) f_11 (fun _ h => h) rfl dX1_enter_50 ?_
      refine lv_iload hx hb dX1_enter_53 (lv_at hl 2 rfl) ?_
      refine lv_iconst (v := 1) hx hb dX1_enter_55 (by decide) ?_
      refine lv_isub hx hb dX1_enter_56 ?_
      refine mm_ialdN (j := (j - 1)) hx hb hK hV i_pk m_pk (by rw [ex5]; exact mm_pred hj0) (by omega) (by decide) dX1_enter_57 ?_
      refine lv_iload hx hb dX1_enter_58 (lv_at hl 1 rfl) ?_
      refine lv_icmp_ne (tgt := 67) hx hb dX1_enter_60 (by decide) (fun c60 => ?_) (fun c60 => ?_)
      · refine lv_iconst (v := 0) hx hb dX1_enter_67 (by decide) ?_
        exact J68 _ (by rw [if_neg c46, if_neg c60])
      · refine lv_iconst (v := 1) hx hb dX1_enter_63 (by decide) ?_
        refine lv_goto (tgt := 68) hx hb dX1_enter_64 (by decide) ?_
        exact J68 _ (by rw [if_neg c46, if_pos c60])
  have LP : ∀ (j : Nat) (x5 : Int32) (ls : Array Slot), x5 = nI j → j ≤ n → plc f x4 n = plc f x4 j → lv_has ls 8 [(0, .ref t), (4, .int x4), (5, .int x5)] → W p l e R s m args below meth c H locs 0 0 Q (F0 m 19 ls []) := by
    intro j
    induction j with
    | zero =>
      intro x5 ls ex5 hj hpl hl
      refine lv_iload hx hb dX1_enter_19 (lv_at hl 2 rfl) ?_
      refine lv_if_le (tgt := 44) hx hb dX1_enter_21 (by decide) (fun c21 => ?_) (fun c21 => ?_)
      · exact K44 0 x5 ls ex5 hj hpl (lv_sub hl [0, 1, 2] rfl)
      · exact absurd (by rw [ex5]; decide +kernel) c21
    | succ j ih =>
      intro x5 ls ex5 hj hpl hl
      have hj0 : 0 < j + 1 := Nat.succ_pos j
      refine lv_iload hx hb dX1_enter_19 (lv_at hl 2 rfl) ?_
      refine lv_if_le (tgt := 44) hx hb dX1_enter_21 (by decide) (fun c21 => ?_) (fun c21 => ?_)
      · exact absurd (by rw [← ex5]; exact c21) (nI_nle hj0 (by omega))
      · refine lv_aload_n hx hb dX1_enter_24 rfl (lv_at hl 0 rfl) ?_
        refine mm_get (ci := 1) (C := RX1) (T := TX1) (N := 2) hx hb hts in_X1 hown hK hV i_t m_t rfl 0 (by decide) f_11 (fun _ h => h) rfl dX1_enter_25 ?_
        refine lv_iload hx hb dX1_enter_28 (lv_at hl 2 rfl) ?_
        refine lv_iconst (v := 1) hx hb dX1_enter_30 (by decide) ?_
        refine lv_isub hx hb dX1_enter_31 ?_
        refine mm_ialdN (j := j) hx hb hK hV i_pk m_pk (by rw [ex5]; exact nI_pred j) (by omega) (by decide) dX1_enter_32 ?_
        refine lv_iload hx hb dX1_enter_33 (lv_at hl 1 rfl) ?_
        refine lv_icmp_le (tgt := 44) hx hb dX1_enter_35 (by decide) (fun c35 => ?_) (fun c35 => ?_)
        · exact K44 (j + 1) x5 ls ex5 hj (by rw [hpl]; unfold plc; rw [if_pos c35]) (lv_sub hl [0, 1, 2] rfl)
        · obtain ⟨x5_n, ex5_n⟩ : ∃ y : Int32, y = x5 + (-1) := ⟨_, rfl⟩
          refine lv_iinc (v := x5_n) (lv' := [(5, .int x5_n), (0, .ref t), (4, .int x4)]) hx hb dX1_enter_38 hl (k := 2) rfl (by rw [ex5_n]; rfl) (by decide) rfl (fun ls hl => ?_)
          refine lv_goto (tgt := 19) hx hb dX1_enter_41 (by decide) ?_
          exact ih x5_n ls (by rw [ex5_n, ex5]; exact pk_m1 j) (by omega) (by rw [hpl]; conv => lhs; unfold plc; rw [if_neg c35]) (lv_sub hl [1, 2, 0] rfl)
  exact LP n x5 ls ex5 (Nat.le_refl n) rfl (lv_sub hl [2, 1, 0] rfl)
end
section
/-! Rules: where pieces may go -/
def reachF (x d n : Int32) : Int32 :=
  let row := x / 3 + (if 2 ≤ d then n else -n)
  let col := (2 * (x - x / 3 * 3) + (x / 3 - x / 3 / 2 * 2)) + (if d - d / 2 * 2 = 0 then -n else n)
  if row < 0 then -1 else if 6 ≤ row then -1 else if col < 0 then -1 else if col < 6 then row * 3 + col / 2 else -1
def nearT (j : Nat) : Int32 := reachF (nI (j / 4)) (nI (j % 4)) 1
def behT (j : Nat) : Int32 := reachF (nI (j / 4)) (nI (j % 4)) 2
def fstD (P : Ps) (q : Int32) : Int32 := if kingP P q = 0 then (if P.2.2.2.1 = 1 then 0 else 2) else 0
def lstD (P : Ps) (q : Int32) : Int32 := if kingP P q = 0 then (if P.2.2.2.1 = 0 then 3 else 1) else 3
def fstN (P : Ps) (s : Nat) : Nat := if kingP P (nI s) = 0 then (if P.2.2.2.1 = 1 then 0 else 2) else 0
def lstN (P : Ps) (s : Nat) : Nat := if kingP P (nI s) = 0 then (if P.2.2.2.1 = 0 then 3 else 1) else 3
theorem fstN_eq (P : Ps) (s : Nat) : fstD P (nI s) = nI (fstN P s) := by
  unfold fstD fstN; split
  · split <;> rfl
  · rfl
theorem lstN_eq (P : Ps) (s : Nat) : lstD P (nI s) = nI (lstN P s) := by
  unfold lstD lstN; split
  · split <;> rfl
  · rfl
theorem fstN_le (P : Ps) (s : Nat) : fstN P s ≤ 2 := by
  unfold fstN; split
  · split <;> omega
  · omega
theorem lstN_le (P : Ps) (s : Nat) : lstN P s ≤ 3 := by
  unfold lstN; split
  · split <;> omega
  · omega
abbrev LSt : Type := (Nat → Int32) × Nat
theorem enterF_le {f : Nat → Int32} {n : Nat} {v : Int32} (h : n ≤ 72) : (enterF f n v).2 ≤ 72 := by
  unfold enterF
  split
  · exact h
  · rename_i hq
    have : ¬ 72 ≤ n := fun z => hq (Or.inr z)
    simp only
    omega
def fulP (P : Ps) : Int32 := P.1 ||| P.2.1
def step1 (P : Ps) (s w : Nat) (S : LSt) : LSt :=
  if nearT (4 * s + w) = -1 then S else if (fulP P >>> (nearT (4 * s + w) &&& 31)) &&& 1 = 0 then enterF S.1 S.2 (packF (nI s) (nearT (4 * s + w)) 0) else S
def stepL (P : Ps) (s : Nat) : Nat → Nat → LSt → LSt
  | 0, _, S => S
  | k + 1, w, S => if lstN P s < w then S else stepL P s k (w + 1) (step1 P s w S)
/-- the steps of the piece on s -/
def stepsF (P : Ps) (s : Nat) (S : LSt) : LSt := stepL P s (4 - fstN P s) (fstN P s) S
/-- a leap from u in direction w, the pieces T being taken -/
def leapOK (P : Ps) (s u w : Nat) (T : Int32) : Prop := ¬ behT (4 * u + w) = -1 ∧ ¬ ((othP P &&& (T ^^^ (-1))) >>> (nearT (4 * u + w) &&& 31)) &&& 1 = 0 ∧ ((fulP P &&& (((1 : Int32) <<< (nI s &&& 31)) ^^^ (-1))) >>> (behT (4 * u + w) &&& 31)) &&& 1 = 0
def lpW (P : Ps) (s d u : Nat) (T : Int32) (rc : Nat → Int32 → LSt → LSt) : Nat → Nat → Int32 → LSt → LSt × Int32
  | 0, _, en, S => (S, en)
  | k + 1, w, en, S => if lstN P s < w then (S, en) else if d = 0 then (S, en) else if ¬ behT (4 * u + w) = -1 ∧ ¬ ((othP P &&& (T ^^^ (-1))) >>> (nearT (4 * u + w) &&& 31)) &&& 1 = 0 ∧ ((fulP P &&& (((1 : Int32) <<< (nI s &&& 31)) ^^^ (-1))) >>> (behT (4 * u + w) &&& 31)) &&& 1 = 0 then lpW P s d u T rc k (w + 1) 0 (rc (behT (4 * u + w)).toNatClampNeg (T ||| ((1 : Int32) <<< (nearT (4 * u + w) &&& 31))) S) else lpW P s d u T rc k (w + 1) en S
def lpE (s u : Nat) (T : Int32) (r : LSt × Int32) : LSt := if r.2 = 0 then r.1 else if T = 0 then r.1 else enterF r.1.1 r.1.2 (packF (nI s) (nI u) T)
def lpF (P : Ps) (s d u : Nat) (T : Int32) (rc : Nat → Int32 → LSt → LSt) (S : LSt) : LSt := lpE s u T (lpW P s d u T rc (4 - fstN P s) (fstN P s) 1 S)
/-- the jumps of the piece on s, come to u with T taken; d leaps are allowed still -/
def leapF (P : Ps) (s : Nat) : Nat → Nat → Int32 → LSt → LSt
  | 0, u, T, S => lpF P s 0 u T (fun _ _ S => S) S
  | d + 1, u, T, S => lpF P s (d + 1) u T (leapF P s d) S
def ruW (dA : Nat → ClassId) (L : List Nat) (M : mm_M) (r nr bh : Nat) : Prop := r ∈ L ∧ nr ∈ L ∧ bh ∈ L ∧ M r = .inr (3, [.ref nr, .ref bh]) ∧ M nr = .inl (dA 0, 72, .inl nearT) ∧ M bh = .inl (dA 0, 72, .inl behT)
def liW (dA : Nat → ClassId) (L : List Nat) (M : mm_M) (t pk : Nat) (f : Nat → Int32) (n : Nat) : Prop := t ∈ L ∧ pk ∈ L ∧ M t = oL pk (nI n) ∧ M pk = .inl (dA 0, 72, .inl f) ∧ n ≤ 72
theorem beh_ok : ∀ j, j < 72 → behT j = -1 ∨ ((behT j).toNatClampNeg < 18 ∧ behT j = nI (behT j).toNatClampNeg) := by decide +kernel
theorem ixN {s w : Nat} {x y : Int32} (hx : x = nI s) (hy : y = nI w) : x * 4 + y = nI (4 * s + w) := by
  subst hx; subst hy
  rw [show (4 : Int32) = nI 4 from rfl, pk_mul, nI_add, Nat.mul_comm]

set_option maxHeartbeats 4000000 in
set_option maxRecDepth 100000 in
theorem c_reach (l : Launch) (D : va_G) (dA : Nat → ClassId) {L : List Nat} {M : mm_M} (x d n : Int32)  : mm_Cp l D dA yX3_reach wsX3_reach 0 [.int x, .int d, .int n] L M (reachF x d n) := by
  refine mm_enter_i (cc := cX3_reach) (maxL := 5) (by decide) rfl (Nat.le_of_ble_eq_true rfl) ?_
  intro p e R s m args below meth c A ls H locs Q hR hx hb hml hin hown hts hK hV hl hret
  have hl : lv_has ls 5 [(0, .int x), (1, .int d), (2, .int n)] := hl
  have hown : s.vm.findClass RX3 = some m.cls := hown
  refine lv_iload_n hx hb dX3_reach_0 rfl (lv_at hl 0 rfl) ?_
  refine lv_iconst (v := 3) hx hb dX3_reach_1 (by decide) ?_
  refine lv_idiv hx hb dX3_reach_2 (by decide) ?_
  refine lv_topi (fun x3_1 ex3_1 => ?_)
  refine lv_istore_n (lv' := [(3, .int x3_1), (0, .int x), (1, .int d), (2, .int n)]) hx hb dX3_reach_3 rfl hl (by decide) rfl (fun ls hl => ?_)
  refine lv_iconst (v := 2) hx hb dX3_reach_4 (by decide) ?_
  refine lv_iload_n hx hb dX3_reach_5 rfl (lv_at hl 1 rfl) ?_
  refine lv_iconst (v := 3) hx hb dX3_reach_6 (by decide) ?_
  refine lv_irem hx hb dX3_reach_7 (by decide) ?_
  refine lv_imul hx hb dX3_reach_8 ?_
  refine lv_iload_n hx hb dX3_reach_9 rfl (lv_at hl 0 rfl) ?_
  refine lv_iconst (v := 2) hx hb dX3_reach_10 (by decide) ?_
  refine lv_irem hx hb dX3_reach_11 (by decide) ?_
  refine lv_iadd hx hb dX3_reach_12 ?_
  refine lv_topi (fun x4_2 ex4_2 => ?_)
  refine lv_istore (lv' := [(4, .int x4_2), (3, .int x3_1), (0, .int x), (1, .int d), (2, .int n)]) hx hb dX3_reach_13 hl (by decide) rfl (fun ls hl => ?_)
  refine lv_iload_n hx hb dX3_reach_15 rfl (lv_at hl 1 rfl) ?_
  refine lv_iload_n hx hb dX3_reach_16 rfl (lv_at hl 3 rfl) ?_
  refine lv_iconst (v := 2) hx hb dX3_reach_17 (by decide) ?_
  have J27 : ∀ (v27_3 : Int32), v27_3 = (if 2 ≤ d then n else (-n)) → W p l e R s m args below meth c H locs 0 0 Q (F0 m 27 ls [.int v27_3, .int x3_1]) := by
    intro v27_3 ev27_3
    refine lv_iadd hx hb dX3_reach_27 ?_
    refine lv_topi (fun x3_4 ex3_4 => ?_)
    refine lv_istore_n (lv' := [(3, .int x3_4), (4, .int x4_2), (0, .int x), (1, .int d), (2, .int n)]) hx hb dX3_reach_28 rfl hl (by decide) rfl (fun ls hl => ?_)
    refine lv_iload hx hb dX3_reach_29 (lv_at hl 1 rfl) ?_
    refine lv_iload_n hx hb dX3_reach_31 rfl (lv_at hl 3 rfl) ?_
    refine lv_iconst (v := 2) hx hb dX3_reach_32 (by decide) ?_
    refine lv_irem hx hb dX3_reach_33 (by decide) ?_
    have J43 : ∀ (v43_5 : Int32), v43_5 = (if (d - d / 2 * 2) = 0 then (-n) else n) → W p l e R s m args below meth c H locs 0 0 Q (F0 m 43 ls [.int v43_5, .int x4_2]) := by
      intro v43_5 ev43_5
      refine lv_iadd hx hb dX3_reach_43 ?_
      refine lv_topi (fun x4_6 ex4_6 => ?_)
      refine lv_istore (lv' := [(4, .int x4_6), (3, .int x3_4), (0, .int x), (1, .int d), (2, .int n)]) hx hb dX3_reach_44 hl (by decide) rfl (fun ls hl => ?_)
      refine lv_iload_n hx hb dX3_reach_46 rfl (lv_at hl 1 rfl) ?_
      refine lv_if_lt (tgt := 68) hx hb dX3_reach_47 (by decide) (fun c47 => ?_) (fun c47 => ?_)
      · refine lv_iconst (v := (-1)) hx hb dX3_reach_68 (by decide) ?_
        exact hret (v := (-1)) dX3_reach_69 hV (by decide) (by decide) ⟨by subst_vars; unfold reachF; simp only [c47, ↓reduceIte], rfl, rfl⟩
      · refine lv_iload_n hx hb dX3_reach_50 rfl (lv_at hl 1 rfl) ?_
        refine lv_bipush (v := 6) hx hb dX3_reach_51 (by decide) ?_
        refine lv_icmp_ge (tgt := 68) hx hb dX3_reach_53 (by decide) (fun c53 => ?_) (fun c53 => ?_)
        · refine lv_iconst (v := (-1)) hx hb dX3_reach_68 (by decide) ?_
          exact hret (v := (-1)) dX3_reach_69 hV (by decide) (by decide) ⟨by subst_vars; unfold reachF; simp only [c47, c53, ↓reduceIte], rfl, rfl⟩
        · refine lv_iload hx hb dX3_reach_56 (lv_at hl 0 rfl) ?_
          refine lv_if_lt (tgt := 68) hx hb dX3_reach_58 (by decide) (fun c58 => ?_) (fun c58 => ?_)
          · refine lv_iconst (v := (-1)) hx hb dX3_reach_68 (by decide) ?_
            exact hret (v := (-1)) dX3_reach_69 hV (by decide) (by decide) ⟨by subst_vars; unfold reachF; simp only [c47, c53, c58, ↓reduceIte], rfl, rfl⟩
          · refine lv_iload hx hb dX3_reach_61 (lv_at hl 0 rfl) ?_
            refine lv_bipush (v := 6) hx hb dX3_reach_63 (by decide) ?_
            refine lv_icmp_lt (tgt := 70) hx hb dX3_reach_65 (by decide) (fun c65 => ?_) (fun c65 => ?_)
            · refine lv_iload_n hx hb dX3_reach_70 rfl (lv_at hl 1 rfl) ?_
              refine lv_iconst (v := 3) hx hb dX3_reach_71 (by decide) ?_
              refine lv_imul hx hb dX3_reach_72 ?_
              refine lv_iload hx hb dX3_reach_73 (lv_at hl 0 rfl) ?_
              refine lv_iconst (v := 2) hx hb dX3_reach_75 (by decide) ?_
              refine lv_idiv hx hb dX3_reach_76 (by decide) ?_
              refine lv_iadd hx hb dX3_reach_77 ?_
              exact hret (v := ((x3_4 * 3) + (x4_6 / 2))) dX3_reach_78 hV (by decide) (by decide) ⟨by subst_vars; unfold reachF; simp only [c47, c53, c58, c65, ↓reduceIte], rfl, rfl⟩
            · refine lv_iconst (v := (-1)) hx hb dX3_reach_68 (by decide) ?_
              exact hret (v := (-1)) dX3_reach_69 hV (by decide) (by decide) ⟨by subst_vars; unfold reachF; simp only [c47, c53, c58, c65, ↓reduceIte], rfl, rfl⟩
    refine lv_if_ne (tgt := 42) hx hb dX3_reach_34 (by decide) (fun c34 => ?_) (fun c34 => ?_)
    · refine lv_iload_n hx hb dX3_reach_42 rfl (lv_at hl 4 rfl) ?_
      exact J43 _ (by rw [if_neg c34])
    · refine lv_iload_n hx hb dX3_reach_37 rfl (lv_at hl 4 rfl) ?_
      refine lv_ineg hx hb dX3_reach_38 ?_
      refine lv_goto (tgt := 43) hx hb dX3_reach_39 (by decide) ?_
      exact J43 _ (by rw [if_pos c34])
  refine lv_icmp_ge (tgt := 26) hx hb dX3_reach_18 (by decide) (fun c18 => ?_) (fun c18 => ?_)
  · refine lv_iload_n hx hb dX3_reach_26 rfl (lv_at hl 4 rfl) ?_
    exact J27 _ (by rw [if_pos c18])
  · refine lv_iload_n hx hb dX3_reach_21 rfl (lv_at hl 4 rfl) ?_
    refine lv_ineg hx hb dX3_reach_22 ?_
    refine lv_goto (tgt := 27) hx hb dX3_reach_23 (by decide) ?_
    exact J27 _ (by rw [if_neg c18])

set_option maxHeartbeats 4000000 in
set_option maxRecDepth 100000 in
theorem c_firstD (l : Launch) (D : va_G) (dA : Nat → ClassId) {L : List Nat} {M : mm_M} {a : Nat} {P : Ps} (sq : Int32) (i_a : a ∈ L) (m_a : M a = oP P) : mm_Cp l D dA yX3_firstDirection wsX3_firstDirection 1 [.ref a, .int sq] L M (fstD P sq) := by
  have m_a : M a = .inr (2, [.int P.1, .int P.2.1, .int P.2.2.1, .int P.2.2.2.1, .int P.2.2.2.2]) := m_a
  refine mm_enter_i (cc := cX3_firstDirection) (maxL := 2) (by decide) rfl (Nat.le_of_ble_eq_true rfl) ?_
  intro p e R s m args below meth c A ls H locs Q hR hx hb hml hin hown hts hK hV hl hret
  have hl : lv_has ls 2 [(0, .ref a), (1, .int sq)] := hl
  have hown : s.vm.findClass RX3 = some m.cls := hown
  have f_28 := hts (.fieldLink RX3 28 "JumpBoard$Position" "mover" "I") (by decide +kernel)
  have in_X2 : ∀ w ∈ wsX20, w ∈ wsX3_firstDirection := by decide +kernel
  refine lv_aload_n hx hb dX3_firstDirection_0 rfl (lv_at hl 0 rfl) ?_
  refine lv_iload_n hx hb dX3_firstDirection_1 rfl (lv_at hl 1 rfl) ?_
  refine mm_Vp (v := (kingP P sq)) (ci := 2) (As := [.int sq]) (rest := []) ⟨hx, hb, hml, hown, hts⟩ hK hV (c_isKing l D dA (P := P) sq i_a m_a) (cwV 1 hts gX3_firstDirection_X2_isKing rfl rfl rfl (by decide +kernel) (mm_levR hR (by omega) (by decide))) i_a m_a rfl rfl hl.1 rfl (Nat.le_of_ble_eq_true rfl) dX3_firstDirection_2 ⟨Nat.zero_le _, Nat.zero_le _⟩ (fun H locs hV => ?_)
  have J21 : ∀ (v21_1 : Int32), v21_1 = (if kingP P sq = 0 then (if P.2.2.2.1 = 1 then 0 else 2) else 0) → W p l e R s m args below meth c H locs 0 0 Q (F0 m 21 ls [.int v21_1]) := by
    intro v21_1 ev21_1
    exact hret (v := v21_1) dX3_firstDirection_21 hV (by decide) (by decide) ⟨by subst_vars; rfl, rfl, rfl⟩
  refine lv_if_ne (tgt := 16) hx hb dX3_firstDirection_5 (by decide) (fun c5 => ?_) (fun c5 => ?_)
  · refine lv_iconst (v := 0) hx hb dX3_firstDirection_16 (by decide) ?_
    refine lv_goto (tgt := 21) hx hb dX3_firstDirection_17 (by decide) ?_
    exact J21 _ (by rw [if_neg c5])
  · refine lv_aload_n hx hb dX3_firstDirection_8 rfl (lv_at hl 0 rfl) ?_
    refine mm_get (ci := 2) (C := RX2) (T := TX2) (N := 5) hx hb hts in_X2 hown hK hV i_a m_a rfl 3 (by decide) f_28 (fun _ h => h) rfl dX3_firstDirection_9 ?_
    refine lv_iconst (v := 1) hx hb dX3_firstDirection_12 (by decide) ?_
    refine lv_icmp_ne (tgt := 20) hx hb dX3_firstDirection_13 (by decide) (fun c13 => ?_) (fun c13 => ?_)
    · refine lv_iconst (v := 2) hx hb dX3_firstDirection_20 (by decide) ?_
      exact J21 _ (by rw [if_pos c5, if_neg c13])
    · refine lv_iconst (v := 0) hx hb dX3_firstDirection_16 (by decide) ?_
      refine lv_goto (tgt := 21) hx hb dX3_firstDirection_17 (by decide) ?_
      exact J21 _ (by rw [if_pos c5, if_pos c13])

set_option maxHeartbeats 4000000 in
set_option maxRecDepth 100000 in
theorem c_lastD (l : Launch) (D : va_G) (dA : Nat → ClassId) {L : List Nat} {M : mm_M} {a : Nat} {P : Ps} (sq : Int32) (i_a : a ∈ L) (m_a : M a = oP P) : mm_Cp l D dA yX3_lastDirection wsX3_lastDirection 1 [.ref a, .int sq] L M (lstD P sq) := by
  have m_a : M a = .inr (2, [.int P.1, .int P.2.1, .int P.2.2.1, .int P.2.2.2.1, .int P.2.2.2.2]) := m_a
  refine mm_enter_i (cc := cX3_lastDirection) (maxL := 2) (by decide) rfl (Nat.le_of_ble_eq_true rfl) ?_
  intro p e R s m args below meth c A ls H locs Q hR hx hb hml hin hown hts hK hV hl hret
  have hl : lv_has ls 2 [(0, .ref a), (1, .int sq)] := hl
  have hown : s.vm.findClass RX3 = some m.cls := hown
  have f_28 := hts (.fieldLink RX3 28 "JumpBoard$Position" "mover" "I") (by decide +kernel)
  have in_X2 : ∀ w ∈ wsX20, w ∈ wsX3_lastDirection := by decide +kernel
  refine lv_aload_n hx hb dX3_lastDirection_0 rfl (lv_at hl 0 rfl) ?_
  refine lv_iload_n hx hb dX3_lastDirection_1 rfl (lv_at hl 1 rfl) ?_
  refine mm_Vp (v := (kingP P sq)) (ci := 2) (As := [.int sq]) (rest := []) ⟨hx, hb, hml, hown, hts⟩ hK hV (c_isKing l D dA (P := P) sq i_a m_a) (cwV 1 hts gX3_lastDirection_X2_isKing rfl rfl rfl (by decide +kernel) (mm_levR hR (by omega) (by decide))) i_a m_a rfl rfl hl.1 rfl (Nat.le_of_ble_eq_true rfl) dX3_lastDirection_2 ⟨Nat.zero_le _, Nat.zero_le _⟩ (fun H locs hV => ?_)
  have J20 : ∀ (v20_1 : Int32), v20_1 = (if kingP P sq = 0 then (if P.2.2.2.1 = 0 then 3 else 1) else 3) → W p l e R s m args below meth c H locs 0 0 Q (F0 m 20 ls [.int v20_1]) := by
    intro v20_1 ev20_1
    exact hret (v := v20_1) dX3_lastDirection_20 hV (by decide) (by decide) ⟨by subst_vars; rfl, rfl, rfl⟩
  refine lv_if_ne (tgt := 15) hx hb dX3_lastDirection_5 (by decide) (fun c5 => ?_) (fun c5 => ?_)
  · refine lv_iconst (v := 3) hx hb dX3_lastDirection_15 (by decide) ?_
    refine lv_goto (tgt := 20) hx hb dX3_lastDirection_16 (by decide) ?_
    exact J20 _ (by rw [if_neg c5])
  · refine lv_aload_n hx hb dX3_lastDirection_8 rfl (lv_at hl 0 rfl) ?_
    refine mm_get (ci := 2) (C := RX2) (T := TX2) (N := 5) hx hb hts in_X2 hown hK hV i_a m_a rfl 3 (by decide) f_28 (fun _ h => h) rfl dX3_lastDirection_9 ?_
    refine lv_if_ne (tgt := 19) hx hb dX3_lastDirection_12 (by decide) (fun c12 => ?_) (fun c12 => ?_)
    · refine lv_iconst (v := 1) hx hb dX3_lastDirection_19 (by decide) ?_
      exact J20 _ (by rw [if_pos c5, if_neg c12])
    · refine lv_iconst (v := 3) hx hb dX3_lastDirection_15 (by decide) ?_
      refine lv_goto (tgt := 20) hx hb dX3_lastDirection_16 (by decide) ?_
      exact J20 _ (by rw [if_pos c5, if_pos c12])

set_option maxHeartbeats 4000000 in
set_option maxRecDepth 100000 in
theorem c_listSteps (l : Launch) (D : va_G) (dA : Nat → ClassId) {L : List Nat} {M : mm_M} {r nr bh a t pk : Nat} {P : Ps} {f : Nat → Int32} {n : Nat} {s0 : Nat} (sq : Int32) (hr : ruW dA L M r nr bh) (i_a : a ∈ L) (m_a : M a = oP P) (hli : liW dA L M t pk f n) (hne1 : nr ≠ pk) (hne2 : bh ≠ pk) (hs : sq = nI s0) (hs18 : s0 < 18) : mm_Cm l D dA yX3_listSteps wsX3_listSteps 2 [.ref r, .ref a, .ref t, .int sq] L M (fun M1 => M1 = va_up (va_up M t (oL pk (nI (stepsF P s0 (f, n)).2))) pk (.inl (dA 0, 72, .inl (stepsF P s0 (f, n)).1))) := by
  obtain ⟨i_r, i_nr, i_bh, m_r, m_nr, m_bh⟩ := hr
  obtain ⟨i_t, i_pk, m_t, m_pk, hn⟩ := hli
  have m_a : M a = .inr (2, [.int P.1, .int P.2.1, .int P.2.2.1, .int P.2.2.2.1, .int P.2.2.2.2]) := m_a
  have m_t : M t = .inr (1, [.ref pk, .int (nI n)]) := m_t
  have hnt : t ≠ pk := mm_neq m_t m_pk (by intro h; cases h)
  obtain ⟨RES, eRES⟩ : ∃ z, z = stepsF P s0 (f, n) := ⟨_, rfl⟩
  rw [← eRES]
  refine mm_enter_v (cc := cX3_listSteps) (maxL := 8) (by decide) rfl (Nat.le_of_ble_eq_true rfl) ?_
  intro p e R s m args below meth c A ls H locs Q hR hx hb hml hin hown hts hK hV hl hret
  have hl : lv_has ls 8 [(0, .ref r), (1, .ref a), (2, .ref t), (3, .int sq)] := hl
  have hown : s.vm.findClass RX3 = some m.cls := hown
  have f_49 := hts (.fieldLink RX3 49 "JumpBoard$Position" "white" "I") (by decide +kernel)
  have in_X2 : ∀ w ∈ wsX20, w ∈ wsX3_listSteps := by decide +kernel
  have f_52 := hts (.fieldLink RX3 52 "JumpBoard$Position" "black" "I") (by decide +kernel)
  have f_9 := hts (.fieldLink RX3 9 "JumpBoard$Rules" "near" "[I") (by decide +kernel)
  have in_X3 : ∀ w ∈ wsX30, w ∈ wsX3_listSteps := by decide +kernel
  refine lv_aload_n hx hb dX3_listSteps_0 rfl (lv_at hl 1 rfl) ?_
  refine mm_get (ci := 2) (C := RX2) (T := TX2) (N := 5) hx hb hts in_X2 hown hK hV i_a m_a rfl 0 (by decide) f_49 (fun _ h => h) rfl dX3_listSteps_1 ?_
  refine lv_aload_n hx hb dX3_listSteps_4 rfl (lv_at hl 1 rfl) ?_
  refine mm_get (ci := 2) (C := RX2) (T := TX2) (N := 5) hx hb hts in_X2 hown hK hV i_a m_a rfl 1 (by decide) f_52 (fun _ h => h) rfl dX3_listSteps_5 ?_
  refine lv_ior hx hb dX3_listSteps_8 ?_
  refine lv_topi (fun x4 ex4 => ?_)
  refine lv_istore (lv' := [(4, .int x4), (0, .ref r), (1, .ref a), (2, .ref t), (3, .int sq)]) hx hb dX3_listSteps_9 hl (by decide) rfl (fun ls hl => ?_)
  have hx4 : x4 = fulP P := ex4
  refine lv_aload_n hx hb dX3_listSteps_11 rfl (lv_at hl 2 rfl) ?_
  refine lv_iload_n hx hb dX3_listSteps_12 rfl (lv_at hl 4 rfl) ?_
  refine mm_Sp (v := (lstD P sq)) (As := [.ref a, .int sq]) (rest := []) ⟨hx, hb, hml, hown, hts⟩ hK hV (c_lastD l D dA (P := P) sq i_a m_a) (va_cwS 2 hts gX3_listSteps_X3_lastDirection rfl rfl rfl (by decide +kernel) (mm_levR hR (by omega) (by decide))) rfl hl.1 rfl (Nat.le_of_ble_eq_true rfl) dX3_listSteps_13 ⟨Nat.zero_le _, Nat.zero_le _⟩ (fun H locs hV => ?_)
  refine lv_topi (fun x5 ex5 => ?_)
  refine lv_istore (lv' := [(5, .int x5), (4, .int x4), (0, .ref r), (1, .ref a), (2, .ref t), (3, .int sq)]) hx hb dX3_listSteps_16 hl (by decide) rfl (fun ls hl => ?_)
  have hx5 : x5 = nI (lstN P s0) := by rw [ex5, hs]; exact lstN_eq P s0
  refine lv_aload_n hx hb dX3_listSteps_18 rfl (lv_at hl 3 rfl) ?_
  refine lv_iload_n hx hb dX3_listSteps_19 rfl (lv_at hl 5 rfl) ?_
  refine mm_Sp (v := (fstD P sq)) (As := [.ref a, .int sq]) (rest := []) ⟨hx, hb, hml, hown, hts⟩ hK hV (c_firstD l D dA (P := P) sq i_a m_a) (va_cwS 2 hts gX3_listSteps_X3_firstDirection rfl rfl rfl (by decide +kernel) (mm_levR hR (by omega) (by decide))) rfl hl.1 rfl (Nat.le_of_ble_eq_true rfl) dX3_listSteps_20 ⟨Nat.zero_le _, Nat.zero_le _⟩ (fun H locs hV => ?_)
  refine lv_topi (fun x6 ex6 => ?_)
  refine lv_istore (lv' := [(6, .int x6), (5, .int x5), (4, .int x4), (0, .ref r), (1, .ref a), (2, .ref t), (3, .int sq)]) hx hb dX3_listSteps_23 hl (by decide) rfl (fun ls hl => ?_)
  have hx6 : x6 = nI (fstN P s0) := by rw [ex6, hs]; exact fstN_eq P s0
  have hl3 := lstN_le P s0
  have hf2 := fstN_le P s0
  have LP : ∀ (k w : Nat) (x6 : Int32) (f : Nat → Int32) (n : Nat) (M1 : mm_M) (H : Heap) (locs : List Loc) (ls : Array Slot), w + k = 4 → x6 = nI w → n ≤ 72 → stepL P s0 k w (f, n) = RES → mm_V A D L M1 s H locs → M1 r = .inr (3, [.ref nr, .ref bh]) → M1 nr = .inl (dA 0, 72, .inl nearT) → M1 bh = .inl (dA 0, 72, .inl behT) → M1 a = .inr (2, [.int P.1, .int P.2.1, .int P.2.2.1, .int P.2.2.2.1, .int P.2.2.2.2]) → M1 t = .inr (1, [.ref pk, .int (nI n)]) → M1 pk = .inl (dA 0, 72, .inl f) → (∀ q : Nat, q ≠ t → q ≠ pk → M1 q = M q) → lv_has ls 8 [(0, .ref r), (1, .ref a), (2, .ref t), (3, .int sq), (4, .int x4), (5, .int x5), (6, .int x6)] → W p l e R s m args below meth c H locs 0 0 Q (F0 m 25 ls []) := by
    intro k
    induction k with
    | zero =>
      intro w x6 f n M1 H locs ls hwk hx6 hn hres hV m_r m_nr m_bh m_a m_t m_pk fr hl
      refine lv_iload hx hb dX3_listSteps_25 (lv_at hl 6 rfl) ?_
      refine lv_iload hx hb dX3_listSteps_27 (lv_at hl 5 rfl) ?_
      refine lv_icmp_gt (tgt := 75) hx hb dX3_listSteps_29 (by decide) (fun c29 => ?_) (fun c29 => ?_)
      · have hlw : lstN P s0 < w := (nI_ltI (by omega) (by omega)).mp (by rw [← hx5, ← hx6]; exact c29)
        have hres2 : RES = (f, n) := by rw [← hres]; rfl
        exact hret dX3_listSteps_75 hV (by decide) (by decide) ⟨rfl, by rw [hres2]; exact mm_fin2 m_t m_pk hnt (fun q h0 h1 => fr q h0 h1)⟩
      · exact absurd (by rw [hx5, hx6]; exact nI_lt (by omega) (by omega)) c29
    | succ k ih =>
      intro w x6 f n M1 H locs ls hwk hx6 hn hres hV m_r m_nr m_bh m_a m_t m_pk fr hl
      refine lv_iload hx hb dX3_listSteps_25 (lv_at hl 6 rfl) ?_
      refine lv_iload hx hb dX3_listSteps_27 (lv_at hl 5 rfl) ?_
      refine lv_icmp_gt (tgt := 75) hx hb dX3_listSteps_29 (by decide) (fun c29 => ?_) (fun c29 => ?_)
      · have hlw : lstN P s0 < w := (nI_ltI (by omega) (by omega)).mp (by rw [← hx5, ← hx6]; exact c29)
        have hres2 : RES = (f, n) := by rw [← hres]; rw [stepL, if_pos hlw]
        exact hret dX3_listSteps_75 hV (by decide) (by decide) ⟨rfl, by rw [hres2]; exact mm_fin2 m_t m_pk hnt (fun q h0 h1 => fr q h0 h1)⟩
      · have hlw : ¬ lstN P s0 < w := fun h => c29 (by rw [hx5, hx6]; exact nI_lt h (by omega))
        refine lv_aload_n hx hb dX3_listSteps_32 rfl (lv_at hl 0 rfl) ?_
        refine mm_get (ci := 3) (C := RX3) (T := TX3) (N := 2) hx hb hts in_X3 hown hK hV i_r m_r rfl 0 (by decide) f_9 (fun _ h => h) rfl dX3_listSteps_33 ?_
        refine lv_iload_n hx hb dX3_listSteps_36 rfl (lv_at hl 3 rfl) ?_
        refine lv_iconst (v := 4) hx hb dX3_listSteps_37 (by decide) ?_
        refine lv_imul hx hb dX3_listSteps_38 ?_
        refine lv_iload hx hb dX3_listSteps_39 (lv_at hl 6 rfl) ?_
        refine lv_iadd hx hb dX3_listSteps_41 ?_
        refine mm_ialdN (j := (4 * s0 + w)) hx hb hK hV i_nr m_nr (ixN hs hx6) (by omega) (by decide) dX3_listSteps_42 ?_
        refine lv_topi (fun x7 ex7 => ?_)
        refine lv_istore (lv' := [(7, .int x7), (0, .ref r), (1, .ref a), (2, .ref t), (3, .int sq), (4, .int x4), (5, .int x5), (6, .int x6)]) hx hb dX3_listSteps_43 hl (by decide) rfl (fun ls hl => ?_)
        refine lv_iload hx hb dX3_listSteps_45 (lv_at hl 0 rfl) ?_
        refine lv_iconst (v := (-1)) hx hb dX3_listSteps_47 (by decide) ?_
        refine lv_icmp_eq (tgt := 69) hx hb dX3_listSteps_48 (by decide) (fun c48 => ?_) (fun c48 => ?_)
        · obtain ⟨x6_n, ex6_n⟩ : ∃ y : Int32, y = x6 + 1 := ⟨_, rfl⟩
          refine lv_iinc (v := x6_n) (lv' := [(6, .int x6_n), (7, .int x7), (0, .ref r), (1, .ref a), (2, .ref t), (3, .int sq), (4, .int x4), (5, .int x5)]) hx hb dX3_listSteps_69 hl (k := 7) rfl (by rw [ex6_n]; rfl) (by decide) rfl (fun ls hl => ?_)
          refine lv_goto (tgt := 25) hx hb dX3_listSteps_72 (by decide) ?_
          exact ih (w + 1) x6_n f n M1 _ _ ls (by omega) (by rw [ex6_n, hx6]; exact nI_1 w) hn (by rw [← hres, stepL, if_neg hlw, step1, ← ex7, if_pos c48]) hV m_r m_nr m_bh m_a m_t m_pk fr (lv_sub hl [2, 3, 4, 5, 6, 7, 0] rfl)
        · refine lv_iload hx hb dX3_listSteps_51 (lv_at hl 5 rfl) ?_
          refine lv_iload hx hb dX3_listSteps_53 (lv_at hl 0 rfl) ?_
          refine lv_ishr hx hb dX3_listSteps_55 ?_
          refine lv_iconst (v := 1) hx hb dX3_listSteps_56 (by decide) ?_
          refine lv_iand hx hb dX3_listSteps_57 ?_
          refine lv_if_ne (tgt := 69) hx hb dX3_listSteps_58 (by decide) (fun c58 => ?_) (fun c58 => ?_)
          · obtain ⟨x6_n, ex6_n⟩ : ∃ y : Int32, y = x6 + 1 := ⟨_, rfl⟩
            refine lv_iinc (v := x6_n) (lv' := [(6, .int x6_n), (7, .int x7), (0, .ref r), (1, .ref a), (2, .ref t), (3, .int sq), (4, .int x4), (5, .int x5)]) hx hb dX3_listSteps_69 hl (k := 7) rfl (by rw [ex6_n]; rfl) (by decide) rfl (fun ls hl => ?_)
            refine lv_goto (tgt := 25) hx hb dX3_listSteps_72 (by decide) ?_
            exact ih (w + 1) x6_n f n M1 _ _ ls (by omega) (by rw [ex6_n, hx6]; exact nI_1 w) hn (by rw [← hres, stepL, if_neg hlw, step1, ← ex7, if_neg c48, ← hx4, if_neg c58]) hV m_r m_nr m_bh m_a m_t m_pk fr (lv_sub hl [2, 3, 4, 5, 6, 7, 0] rfl)
          · refine lv_aload_n hx hb dX3_listSteps_61 rfl (lv_at hl 3 rfl) ?_
            refine lv_iload_n hx hb dX3_listSteps_62 rfl (lv_at hl 4 rfl) ?_
            refine lv_iload hx hb dX3_listSteps_63 (lv_at hl 0 rfl) ?_
            refine lv_iconst (v := 0) hx hb dX3_listSteps_65 (by decide) ?_
            refine mm_Vm (ci := 1) (As := [.int sq, .int x7, .int 0]) (rest := []) ⟨hx, hb, hml, hown, hts⟩ hK hV (c_enter l D dA sq x7 0 hn i_t i_pk m_t m_pk) (cwV 3 hts gX3_listSteps_X1_enter rfl rfl rfl (by decide +kernel) (mm_levR hR (by omega) (by decide))) i_t m_t rfl rfl hl.1 rfl (Nat.le_of_ble_eq_true rfl) dX3_listSteps_66 ⟨Nat.zero_le _, Nat.zero_le _⟩ (fun M_1 H locs eM_1 hV => ?_)
            have m_r : M_1 r = _ := (congrFun eM_1 r).trans ((va_up_ne _ _ (mm_neq m_r m_pk (by intro h; cases h))).trans ((va_up_ne _ _ (mm_neq m_r m_t (by intro h; cases h))).trans m_r))
            have m_nr : M_1 nr = _ := (congrFun eM_1 nr).trans ((va_up_ne _ _ hne1).trans ((va_up_ne _ _ (mm_neq m_nr m_t (by intro h; cases h))).trans m_nr))
            have m_bh : M_1 bh = _ := (congrFun eM_1 bh).trans ((va_up_ne _ _ hne2).trans ((va_up_ne _ _ (mm_neq m_bh m_t (by intro h; cases h))).trans m_bh))
            have m_a : M_1 a = _ := (congrFun eM_1 a).trans ((va_up_ne _ _ (mm_neq m_a m_pk (by intro h; cases h))).trans ((va_up_ne _ _ (mm_neq m_a m_t (by intro h; cases h))).trans m_a))
            have m_t : M_1 t = .inr (1, [.ref pk, .int (nI (enterF f n (packF sq x7 0)).2)]) := (congrFun eM_1 t).trans ((va_up_ne _ _ hnt).trans (va_up_self _ _ _))
            have m_pk : M_1 pk = .inl (dA 0, 72, .inl ((enterF f n (packF sq x7 0)).1)) := (congrFun eM_1 pk).trans (va_up_self _ _ _)
            have fr : ∀ q : Nat, q ≠ t → q ≠ pk → M_1 q = M q := fun q h0 h1 => (congrFun eM_1 q).trans ((va_up_ne _ _ h1).trans ((va_up_ne _ _ h0).trans (fr q h0 h1)))
            obtain ⟨x6_n, ex6_n⟩ : ∃ y : Int32, y = x6 + 1 := ⟨_, rfl⟩
            refine lv_iinc (v := x6_n) (lv' := [(6, .int x6_n), (7, .int x7), (0, .ref r), (1, .ref a), (2, .ref t), (3, .int sq), (4, .int x4), (5, .int x5)]) hx hb dX3_listSteps_69 hl (k := 7) rfl (by rw [ex6_n]; rfl) (by decide) rfl (fun ls hl => ?_)
            refine lv_goto (tgt := 25) hx hb dX3_listSteps_72 (by decide) ?_
            exact ih (w + 1) x6_n ((enterF f n (packF sq x7 0)).1) ((enterF f n (packF sq x7 0)).2) M_1 _ _ ls (by omega) (by rw [ex6_n, hx6]; exact nI_1 w) (enterF_le hn) (by rw [← hres, stepL, if_neg hlw, step1, ← ex7, if_neg c48, ← hx4, if_pos c58, ← hs]) hV m_r m_nr m_bh m_a m_t m_pk fr (lv_sub hl [2, 3, 4, 5, 6, 7, 0] rfl)
  exact LP (4 - fstN P s0) (fstN P s0) x6 f n M H locs ls (by omega) hx6 hn eRES.symm hV m_r m_nr m_bh m_a m_t m_pk (fun q _ _ => rfl) (lv_sub hl [3, 4, 5, 6, 2, 1, 0] rfl)
end
section
theorem lpW_le {P : Ps} {s d u : Nat} {T : Int32} {rc : Nat → Int32 → LSt → LSt} (hrc : ∀ u T S, S.2 ≤ 72 → (rc u T S).2 ≤ 72) : ∀ (k w : Nat) (en : Int32) (S : LSt), S.2 ≤ 72 → (lpW P s d u T rc k w en S).1.2 ≤ 72
  | 0, _, _, _, h => h
  | k + 1, w, en, S, h => by
    unfold lpW
    split
    · exact h
    · split
      · exact h
      · split
        · exact lpW_le hrc k _ _ _ (hrc _ _ _ h)
        · exact lpW_le hrc k _ _ _ h
theorem lpF_le {P : Ps} {s d u : Nat} {T : Int32} {rc : Nat → Int32 → LSt → LSt} (hrc : ∀ u T S, S.2 ≤ 72 → (rc u T S).2 ≤ 72) (S : LSt) (h : S.2 ≤ 72) : (lpF P s d u T rc S).2 ≤ 72 := by
  unfold lpF lpE
  have h1 := lpW_le (P := P) (s := s) (d := d) (u := u) (T := T) hrc (4 - fstN P s) (fstN P s) 1 S h
  split
  · exact h1
  · split
    · exact h1
    · exact enterF_le h1
theorem leapF_le {P : Ps} {s : Nat} : ∀ (d u : Nat) (T : Int32) (S : LSt), S.2 ≤ 72 → (leapF P s d u T S).2 ≤ 72
  | 0, u, T, S, h => lpF_le (fun _ _ _ h => h) S h
  | d + 1, u, T, S, h => lpF_le (fun u T S h => leapF_le d u T S h) S h

set_option maxHeartbeats 4000000 in
set_option maxRecDepth 100000 in
theorem c_leapOn_step (l : Launch) (D : va_G) (dA : Nat → ClassId) {L : List Nat} {M : mm_M} {r nr bh a t pk : Nat} {P : Ps} {f : Nat → Int32} {n : Nat} {s0 d u : Nat} {rc : Nat → Int32 → LSt → LSt} (x3 x4 x5 x6 : Int32) (hs : x3 = nI s0) (hu : x4 = nI u) (hu18 : u < 18) (hl6 : x6 = nI (18 - d)) (hd : d ≤ 18) (hrc : ∀ u T S, S.2 ≤ 72 → (rc u T S).2 ≤ 72) (ih : 0 < d → ∀ (M : mm_M) (u : Nat) (T xs xu xl : Int32) (f : Nat → Int32) (n : Nat), xs = nI s0 → xu = nI u → u < 18 → xl = nI (18 - (d - 1)) → ruW dA L M r nr bh → M a = oP P → liW dA L M t pk f n → mm_Cm l D dA yX3_leapOn wsX3_leapOn ((d - 1) + 2) [.ref r, .ref a, .ref t, .int xs, .int xu, .int T, .int xl] L M (fun M1 => M1 = va_up (va_up M t (oL pk (nI (rc u T (f, n)).2))) pk (.inl (dA 0, 72, .inl (rc u T (f, n)).1)))) (hr : ruW dA L M r nr bh) (i_a : a ∈ L) (m_a : M a = oP P) (hli : liW dA L M t pk f n) (hne1 : nr ≠ pk) (hne2 : bh ≠ pk) : mm_Cm l D dA yX3_leapOn wsX3_leapOn (d + 2) [.ref r, .ref a, .ref t, .int x3, .int x4, .int x5, .int x6] L M (fun M1 => M1 = va_up (va_up M t (oL pk (nI (lpF P s0 d u x5 rc (f, n)).2))) pk (.inl (dA 0, 72, .inl (lpF P s0 d u x5 rc (f, n)).1))) := by
  obtain ⟨i_r, i_nr, i_bh, m_r, m_nr, m_bh⟩ := hr
  obtain ⟨i_t, i_pk, m_t, m_pk, hn⟩ := hli
  have m_a : M a = .inr (2, [.int P.1, .int P.2.1, .int P.2.2.1, .int P.2.2.2.1, .int P.2.2.2.2]) := m_a
  have m_t : M t = .inr (1, [.ref pk, .int (nI n)]) := m_t
  have hnt : t ≠ pk := mm_neq m_t m_pk (by intro h; cases h)
  obtain ⟨RES, eRES⟩ : ∃ z, z = lpF P s0 d u x5 rc (f, n) := ⟨_, rfl⟩
  rw [← eRES]
  obtain ⟨RESW, eRESW⟩ : ∃ z, z = lpW P s0 d u x5 rc (4 - fstN P s0) (fstN P s0) 1 (f, n) := ⟨_, rfl⟩
  refine mm_enter_v (cc := cX3_leapOn) (maxL := 14) (by decide) rfl (Nat.le_of_ble_eq_true rfl) ?_
  intro p e R s m args below meth c A ls H locs Q hR hx hb hml hin hown hts hK hV hl hret
  have hl : lv_has ls 14 [(0, .ref r), (1, .ref a), (2, .ref t), (3, .int x3), (4, .int x4), (5, .int x5), (6, .int x6)] := hl
  have hown : s.vm.findClass RX3 = some m.cls := hown
  have f_49 := hts (.fieldLink RX3 49 "JumpBoard$Position" "white" "I") (by decide +kernel)
  have in_X2 : ∀ w ∈ wsX20, w ∈ wsX3_leapOn := by decide +kernel
  have f_52 := hts (.fieldLink RX3 52 "JumpBoard$Position" "black" "I") (by decide +kernel)
  have f_9 := hts (.fieldLink RX3 9 "JumpBoard$Rules" "near" "[I") (by decide +kernel)
  have in_X3 : ∀ w ∈ wsX30, w ∈ wsX3_leapOn := by decide +kernel
  have f_15 := hts (.fieldLink RX3 15 "JumpBoard$Rules" "behind" "[I") (by decide +kernel)
  refine lv_aload_n hx hb dX3_leapOn_0 rfl (lv_at hl 1 rfl) ?_
  refine mm_Vp (v := (othP P)) (ci := 2) (As := []) (rest := []) ⟨hx, hb, hml, hown, hts⟩ hK hV (c_others l D dA (P := P)  i_a m_a) (cwV 0 hts gX3_leapOn_X2_others rfl rfl rfl (by decide +kernel) (mm_levR hR (by omega) (by decide))) i_a m_a rfl rfl hl.1 rfl (Nat.le_of_ble_eq_true rfl) dX3_leapOn_1 ⟨Nat.zero_le _, Nat.zero_le _⟩ (fun H locs hV => ?_)
  refine lv_iload hx hb dX3_leapOn_4 (lv_at hl 5 rfl) ?_
  refine lv_iconst (v := (-1)) hx hb dX3_leapOn_6 (by decide) ?_
  refine lv_ixor hx hb dX3_leapOn_7 ?_
  refine lv_iand hx hb dX3_leapOn_8 ?_
  refine lv_topi (fun x7 ex7 => ?_)
  refine lv_istore (lv' := [(7, .int x7), (0, .ref r), (1, .ref a), (2, .ref t), (3, .int x3), (4, .int x4), (5, .int x5), (6, .int x6)]) hx hb dX3_leapOn_9 hl (by decide) rfl (fun ls hl => ?_)
  refine lv_aload_n hx hb dX3_leapOn_11 rfl (lv_at hl 2 rfl) ?_
  refine mm_get (ci := 2) (C := RX2) (T := TX2) (N := 5) hx hb hts in_X2 hown hK hV i_a m_a rfl 0 (by decide) f_49 (fun _ h => h) rfl dX3_leapOn_12 ?_
  refine lv_aload_n hx hb dX3_leapOn_15 rfl (lv_at hl 2 rfl) ?_
  refine mm_get (ci := 2) (C := RX2) (T := TX2) (N := 5) hx hb hts in_X2 hown hK hV i_a m_a rfl 1 (by decide) f_52 (fun _ h => h) rfl dX3_leapOn_16 ?_
  refine lv_ior hx hb dX3_leapOn_19 ?_
  refine lv_iconst (v := 1) hx hb dX3_leapOn_20 (by decide) ?_
  refine lv_iload_n hx hb dX3_leapOn_21 rfl (lv_at hl 4 rfl) ?_
  refine lv_ishl hx hb dX3_leapOn_22 ?_
  refine lv_iconst (v := (-1)) hx hb dX3_leapOn_23 (by decide) ?_
  refine lv_ixor hx hb dX3_leapOn_24 ?_
  refine lv_iand hx hb dX3_leapOn_25 ?_
  refine lv_topi (fun x8 ex8 => ?_)
  refine lv_istore (lv' := [(8, .int x8), (7, .int x7), (0, .ref r), (1, .ref a), (2, .ref t), (3, .int x3), (4, .int x4), (5, .int x5), (6, .int x6)]) hx hb dX3_leapOn_26 hl (by decide) rfl (fun ls hl => ?_)
  have hx8 : x8 = fulP P &&& (((1 : Int32) <<< (nI s0 &&& 31)) ^^^ (-1)) := by rw [ex8, hs]; rfl
  refine lv_aload_n hx hb dX3_leapOn_28 rfl (lv_at hl 3 rfl) ?_
  refine lv_iload_n hx hb dX3_leapOn_29 rfl (lv_at hl 5 rfl) ?_
  refine mm_Sp (v := (lstD P x3)) (As := [.ref a, .int x3]) (rest := []) ⟨hx, hb, hml, hown, hts⟩ hK hV (c_lastD l D dA (P := P) x3 i_a m_a) (va_cwS 2 hts gX3_leapOn_X3_lastDirection rfl rfl rfl (by decide +kernel) (mm_levR hR (by omega) (by decide))) rfl hl.1 rfl (Nat.le_of_ble_eq_true rfl) dX3_leapOn_30 ⟨Nat.zero_le _, Nat.zero_le _⟩ (fun H locs hV => ?_)
  refine lv_topi (fun x9 ex9 => ?_)
  refine lv_istore (lv' := [(9, .int x9), (8, .int x8), (7, .int x7), (0, .ref r), (1, .ref a), (2, .ref t), (3, .int x3), (4, .int x4), (5, .int x5), (6, .int x6)]) hx hb dX3_leapOn_33 hl (by decide) rfl (fun ls hl => ?_)
  have hx9 : x9 = nI (lstN P s0) := by rw [ex9, hs]; exact lstN_eq P s0
  refine lv_iconst (v := 1) hx hb dX3_leapOn_35 (by decide) ?_
  refine lv_topi (fun x10 ex10 => ?_)
  refine lv_istore (lv' := [(10, .int x10), (9, .int x9), (8, .int x8), (7, .int x7), (0, .ref r), (1, .ref a), (2, .ref t), (3, .int x3), (4, .int x4), (5, .int x5), (6, .int x6)]) hx hb dX3_leapOn_36 hl (by decide) rfl (fun ls hl => ?_)
  refine lv_aload_n hx hb dX3_leapOn_38 rfl (lv_at hl 5 rfl) ?_
  refine lv_iload_n hx hb dX3_leapOn_39 rfl (lv_at hl 7 rfl) ?_
  refine mm_Sp (v := (fstD P x3)) (As := [.ref a, .int x3]) (rest := []) ⟨hx, hb, hml, hown, hts⟩ hK hV (c_firstD l D dA (P := P) x3 i_a m_a) (va_cwS 2 hts gX3_leapOn_X3_firstDirection rfl rfl rfl (by decide +kernel) (mm_levR hR (by omega) (by decide))) rfl hl.1 rfl (Nat.le_of_ble_eq_true rfl) dX3_leapOn_40 ⟨Nat.zero_le _, Nat.zero_le _⟩ (fun H locs hV => ?_)
  refine lv_topi (fun x11 ex11 => ?_)
  refine lv_istore (lv' := [(11, .int x11), (10, .int x10), (9, .int x9), (8, .int x8), (7, .int x7), (0, .ref r), (1, .ref a), (2, .ref t), (3, .int x3), (4, .int x4), (5, .int x5), (6, .int x6)]) hx hb dX3_leapOn_43 hl (by decide) rfl (fun ls hl => ?_)
  have hx11 : x11 = nI (fstN P s0) := by rw [ex11, hs]; exact fstN_eq P s0
  have hl3 := lstN_le P s0
  have hf2 := fstN_le P s0
  have K142 : ∀ (x10 : Int32) (f : Nat → Int32) (n : Nat) (M1 : mm_M) (H : Heap) (locs : List Loc) (ls : Array Slot), n ≤ 72 → RESW = ((f, n), x10) → mm_V A D L M1 s H locs → M1 r = .inr (3, [.ref nr, .ref bh]) → M1 nr = .inl (dA 0, 72, .inl nearT) → M1 bh = .inl (dA 0, 72, .inl behT) → M1 a = .inr (2, [.int P.1, .int P.2.1, .int P.2.2.1, .int P.2.2.2.1, .int P.2.2.2.2]) → M1 t = .inr (1, [.ref pk, .int (nI n)]) → M1 pk = .inl (dA 0, 72, .inl f) → (∀ q : Nat, q ≠ t → q ≠ pk → M1 q = M q) → lv_has ls 14 [(0, .ref r), (1, .ref a), (2, .ref t), (3, .int x3), (4, .int x4), (5, .int x5), (10, .int x10)] → W p l e R s m args below meth c H locs 0 0 Q (F0 m 142 ls []) := by
    intro x10 f n M1 H locs ls hn hRW hV m_r m_nr m_bh m_a m_t m_pk fr hl
    refine lv_iload hx hb dX3_leapOn_142 (lv_at hl 6 rfl) ?_
    refine lv_if_eq (tgt := 161) hx hb dX3_leapOn_144 (by decide) (fun c144 => ?_) (fun c144 => ?_)
    · have hfin : RES = (f, n) := by rw [eRES, lpF, ← eRESW, hRW, lpE, if_pos c144]
      exact hret dX3_leapOn_161 hV (by decide) (by decide) ⟨rfl, by rw [hfin]; exact mm_fin2 m_t m_pk hnt (fun q h0 h1 => fr q h0 h1)⟩
    · refine lv_iload hx hb dX3_leapOn_147 (lv_at hl 5 rfl) ?_
      refine lv_if_eq (tgt := 161) hx hb dX3_leapOn_149 (by decide) (fun c149 => ?_) (fun c149 => ?_)
      · have hfin : RES = (f, n) := by rw [eRES, lpF, ← eRESW, hRW, lpE, if_neg c144, if_pos c149]
        exact hret dX3_leapOn_161 hV (by decide) (by decide) ⟨rfl, by rw [hfin]; exact mm_fin2 m_t m_pk hnt (fun q h0 h1 => fr q h0 h1)⟩
      · have hfin : RES = enterF f n (packF x3 x4 x5) := by rw [eRES, lpF, ← eRESW, hRW, lpE, if_neg c144, if_neg c149, ← hs, ← hu]
        refine lv_aload_n hx hb dX3_leapOn_152 rfl (lv_at hl 2 rfl) ?_
        refine lv_iload_n hx hb dX3_leapOn_153 rfl (lv_at hl 3 rfl) ?_
        refine lv_iload hx hb dX3_leapOn_154 (lv_at hl 4 rfl) ?_
        refine lv_iload hx hb dX3_leapOn_156 (lv_at hl 5 rfl) ?_
        refine mm_Vm (ci := 1) (As := [.int x3, .int x4, .int x5]) (rest := []) ⟨hx, hb, hml, hown, hts⟩ hK hV (c_enter l D dA x3 x4 x5 hn i_t i_pk m_t m_pk) (cwV 3 hts gX3_leapOn_X1_enter rfl rfl rfl (by decide +kernel) (mm_levR hR (by omega) (by decide))) i_t m_t rfl rfl hl.1 rfl (Nat.le_of_ble_eq_true rfl) dX3_leapOn_158 ⟨Nat.zero_le _, Nat.zero_le _⟩ (fun M_1 H locs eM_1 hV => ?_)
        have m_r : M_1 r = _ := (congrFun eM_1 r).trans ((va_up_ne _ _ (mm_neq m_r m_pk (by intro h; cases h))).trans ((va_up_ne _ _ (mm_neq m_r m_t (by intro h; cases h))).trans m_r))
        have m_nr : M_1 nr = _ := (congrFun eM_1 nr).trans ((va_up_ne _ _ hne1).trans ((va_up_ne _ _ (mm_neq m_nr m_t (by intro h; cases h))).trans m_nr))
        have m_bh : M_1 bh = _ := (congrFun eM_1 bh).trans ((va_up_ne _ _ hne2).trans ((va_up_ne _ _ (mm_neq m_bh m_t (by intro h; cases h))).trans m_bh))
        have m_a : M_1 a = _ := (congrFun eM_1 a).trans ((va_up_ne _ _ (mm_neq m_a m_pk (by intro h; cases h))).trans ((va_up_ne _ _ (mm_neq m_a m_t (by intro h; cases h))).trans m_a))
        have m_t : M_1 t = .inr (1, [.ref pk, .int (nI (enterF f n (packF x3 x4 x5)).2)]) := (congrFun eM_1 t).trans ((va_up_ne _ _ hnt).trans (va_up_self _ _ _))
        have m_pk : M_1 pk = .inl (dA 0, 72, .inl ((enterF f n (packF x3 x4 x5)).1)) := (congrFun eM_1 pk).trans (va_up_self _ _ _)
        have fr : ∀ q : Nat, q ≠ t → q ≠ pk → M_1 q = M q := fun q h0 h1 => (congrFun eM_1 q).trans ((va_up_ne _ _ h1).trans ((va_up_ne _ _ h0).trans (fr q h0 h1)))
        exact hret dX3_leapOn_161 hV (by decide) (by decide) ⟨rfl, by rw [hfin]; exact mm_fin2 m_t m_pk hnt (fun q h0 h1 => fr q h0 h1)⟩
  have LP : ∀ (k w : Nat) (x10 x11 : Int32) (f : Nat → Int32) (n : Nat) (M1 : mm_M) (H : Heap) (locs : List Loc) (ls : Array Slot), w + k = 4 → x11 = nI w → n ≤ 72 → lpW P s0 d u x5 rc k w x10 (f, n) = RESW → mm_V A D L M1 s H locs → M1 r = .inr (3, [.ref nr, .ref bh]) → M1 nr = .inl (dA 0, 72, .inl nearT) → M1 bh = .inl (dA 0, 72, .inl behT) → M1 a = .inr (2, [.int P.1, .int P.2.1, .int P.2.2.1, .int P.2.2.2.1, .int P.2.2.2.2]) → M1 t = .inr (1, [.ref pk, .int (nI n)]) → M1 pk = .inl (dA 0, 72, .inl f) → (∀ q : Nat, q ≠ t → q ≠ pk → M1 q = M q) → lv_has ls 14 [(0, .ref r), (1, .ref a), (2, .ref t), (3, .int x3), (4, .int x4), (5, .int x5), (6, .int x6), (7, .int x7), (8, .int x8), (9, .int x9), (10, .int x10), (11, .int x11)] → W p l e R s m args below meth c H locs 0 0 Q (F0 m 45 ls []) := by
    intro k
    induction k with
    | zero =>
      intro w x10 x11 f n M1 H locs ls hwk hx11 hn hres hV m_r m_nr m_bh m_a m_t m_pk fr hl
      refine lv_iload hx hb dX3_leapOn_45 (lv_at hl 11 rfl) ?_
      refine lv_iload hx hb dX3_leapOn_47 (lv_at hl 9 rfl) ?_
      refine lv_icmp_gt (tgt := 142) hx hb dX3_leapOn_49 (by decide) (fun c49 => ?_) (fun c49 => ?_)
      · have hlw : lstN P s0 < w := (nI_ltI (by omega) (by omega)).mp (by rw [← hx9, ← hx11]; exact c49)
        exact K142 x10 f n M1 _ _ ls hn (by rw [← hres]; rfl) hV m_r m_nr m_bh m_a m_t m_pk fr (lv_sub hl [0, 1, 2, 3, 4, 5, 10] rfl)
      · exact absurd (by rw [hx9, hx11]; exact nI_lt (by omega) (by omega)) c49
    | succ k ih2 =>
      intro w x10 x11 f n M1 H locs ls hwk hx11 hn hres hV m_r m_nr m_bh m_a m_t m_pk fr hl
      refine lv_iload hx hb dX3_leapOn_45 (lv_at hl 11 rfl) ?_
      refine lv_iload hx hb dX3_leapOn_47 (lv_at hl 9 rfl) ?_
      refine lv_icmp_gt (tgt := 142) hx hb dX3_leapOn_49 (by decide) (fun c49 => ?_) (fun c49 => ?_)
      · have hlw : lstN P s0 < w := (nI_ltI (by omega) (by omega)).mp (by rw [← hx9, ← hx11]; exact c49)
        exact K142 x10 f n M1 _ _ ls hn (by rw [← hres, lpW, if_pos hlw]) hV m_r m_nr m_bh m_a m_t m_pk fr (lv_sub hl [0, 1, 2, 3, 4, 5, 10] rfl)
      · have hlw : ¬ lstN P s0 < w := fun h => c49 (by rw [hx9, hx11]; exact nI_lt h (by omega))
        refine lv_iload hx hb dX3_leapOn_52 (lv_at hl 6 rfl) ?_
        refine lv_bipush (v := 18) hx hb dX3_leapOn_54 (by decide) ?_
        refine lv_icmp_ge (tgt := 142) hx hb dX3_leapOn_56 (by decide) (fun c56 => ?_) (fun c56 => ?_)
        · have hd0 : d = 0 := Nat.eq_zero_of_not_pos (fun hp => absurd c56 (by rw [hl6]; exact nI_ge (b := 18) (by omega) (by decide)))
          exact K142 x10 f n M1 _ _ ls hn (by rw [← hres, lpW, if_neg hlw, if_pos hd0]) hV m_r m_nr m_bh m_a m_t m_pk fr (lv_sub hl [0, 1, 2, 3, 4, 5, 10] rfl)
        · have hd0 : 0 < d := Nat.pos_of_ne_zero (fun hz => c56 (by rw [hl6, hz]; exact Int32.le_refl _))
          refine lv_aload_n hx hb dX3_leapOn_59 rfl (lv_at hl 0 rfl) ?_
          refine mm_get (ci := 3) (C := RX3) (T := TX3) (N := 2) hx hb hts in_X3 hown hK hV i_r m_r rfl 0 (by decide) f_9 (fun _ h => h) rfl dX3_leapOn_60 ?_
          refine lv_iload hx hb dX3_leapOn_63 (lv_at hl 4 rfl) ?_
          refine lv_iconst (v := 4) hx hb dX3_leapOn_65 (by decide) ?_
          refine lv_imul hx hb dX3_leapOn_66 ?_
          refine lv_iload hx hb dX3_leapOn_67 (lv_at hl 11 rfl) ?_
          refine lv_iadd hx hb dX3_leapOn_69 ?_
          refine mm_ialdN (j := (4 * u + w)) hx hb hK hV i_nr m_nr (ixN hu hx11) (by omega) (by decide) dX3_leapOn_70 ?_
          refine lv_topi (fun x12 ex12 => ?_)
          refine lv_istore (lv' := [(12, .int x12), (0, .ref r), (1, .ref a), (2, .ref t), (3, .int x3), (4, .int x4), (5, .int x5), (6, .int x6), (7, .int x7), (8, .int x8), (9, .int x9), (10, .int x10), (11, .int x11)]) hx hb dX3_leapOn_71 hl (by decide) rfl (fun ls hl => ?_)
          refine lv_aload_n hx hb dX3_leapOn_73 rfl (lv_at hl 1 rfl) ?_
          refine mm_get (ci := 3) (C := RX3) (T := TX3) (N := 2) hx hb hts in_X3 hown hK hV i_r m_r rfl 1 (by decide) f_15 (fun _ h => h) rfl dX3_leapOn_74 ?_
          refine lv_iload hx hb dX3_leapOn_77 (lv_at hl 5 rfl) ?_
          refine lv_iconst (v := 4) hx hb dX3_leapOn_79 (by decide) ?_
          refine lv_imul hx hb dX3_leapOn_80 ?_
          refine lv_iload hx hb dX3_leapOn_81 (lv_at hl 12 rfl) ?_
          refine lv_iadd hx hb dX3_leapOn_83 ?_
          refine mm_ialdN (j := (4 * u + w)) hx hb hK hV i_bh m_bh (ixN hu hx11) (by omega) (by decide) dX3_leapOn_84 ?_
          refine lv_topi (fun x13 ex13 => ?_)
          refine lv_istore (lv' := [(13, .int x13), (12, .int x12), (0, .ref r), (1, .ref a), (2, .ref t), (3, .int x3), (4, .int x4), (5, .int x5), (6, .int x6), (7, .int x7), (8, .int x8), (9, .int x9), (10, .int x10), (11, .int x11)]) hx hb dX3_leapOn_85 hl (by decide) rfl (fun ls hl => ?_)
          refine lv_iload hx hb dX3_leapOn_87 (lv_at hl 0 rfl) ?_
          refine lv_iconst (v := (-1)) hx hb dX3_leapOn_89 (by decide) ?_
          refine lv_icmp_eq (tgt := 136) hx hb dX3_leapOn_90 (by decide) (fun c90 => ?_) (fun c90 => ?_)
          · obtain ⟨x11_n, ex11_n⟩ : ∃ y : Int32, y = x11 + 1 := ⟨_, rfl⟩
            refine lv_iinc (v := x11_n) (lv' := [(11, .int x11_n), (13, .int x13), (12, .int x12), (0, .ref r), (1, .ref a), (2, .ref t), (3, .int x3), (4, .int x4), (5, .int x5), (6, .int x6), (7, .int x7), (8, .int x8), (9, .int x9), (10, .int x10)]) hx hb dX3_leapOn_136 hl (k := 13) rfl (by rw [ex11_n]; rfl) (by decide) rfl (fun ls hl => ?_)
            refine lv_goto (tgt := 45) hx hb dX3_leapOn_139 (by decide) ?_
            exact ih2 (w + 1) x10 x11_n f n M1 _ _ ls (by omega) (by rw [ex11_n, hx11]; exact nI_1 w) hn (by rw [← hres, lpW, if_neg hlw, if_neg (Nat.ne_of_gt hd0), if_neg (fun h => h.1 (by rw [← ex13]; exact c90))]) hV m_r m_nr m_bh m_a m_t m_pk fr (lv_sub hl [3, 4, 5, 6, 7, 8, 9, 10, 11, 12, 13, 0] rfl)
          · have hg := (beh_ok (4 * u + w) (by omega)).resolve_left (by rw [← ex13]; exact c90)
            have hx13 : x13 = nI (behT (4 * u + w)).toNatClampNeg := by rw [ex13]; exact hg.2
            refine lv_iload hx hb dX3_leapOn_93 (lv_at hl 9 rfl) ?_
            refine lv_iload hx hb dX3_leapOn_95 (lv_at hl 1 rfl) ?_
            refine lv_ishr hx hb dX3_leapOn_97 ?_
            refine lv_iconst (v := 1) hx hb dX3_leapOn_98 (by decide) ?_
            refine lv_iand hx hb dX3_leapOn_99 ?_
            refine lv_if_eq (tgt := 136) hx hb dX3_leapOn_100 (by decide) (fun c100 => ?_) (fun c100 => ?_)
            · obtain ⟨x11_n, ex11_n⟩ : ∃ y : Int32, y = x11 + 1 := ⟨_, rfl⟩
              refine lv_iinc (v := x11_n) (lv' := [(11, .int x11_n), (13, .int x13), (12, .int x12), (0, .ref r), (1, .ref a), (2, .ref t), (3, .int x3), (4, .int x4), (5, .int x5), (6, .int x6), (7, .int x7), (8, .int x8), (9, .int x9), (10, .int x10)]) hx hb dX3_leapOn_136 hl (k := 13) rfl (by rw [ex11_n]; rfl) (by decide) rfl (fun ls hl => ?_)
              refine lv_goto (tgt := 45) hx hb dX3_leapOn_139 (by decide) ?_
              exact ih2 (w + 1) x10 x11_n f n M1 _ _ ls (by omega) (by rw [ex11_n, hx11]; exact nI_1 w) hn (by rw [← hres, lpW, if_neg hlw, if_neg (Nat.ne_of_gt hd0), if_neg (fun h => h.2.1 (by rw [← ex7, ← ex12]; exact c100))]) hV m_r m_nr m_bh m_a m_t m_pk fr (lv_sub hl [3, 4, 5, 6, 7, 8, 9, 10, 11, 12, 13, 0] rfl)
            · refine lv_iload hx hb dX3_leapOn_103 (lv_at hl 10 rfl) ?_
              refine lv_iload hx hb dX3_leapOn_105 (lv_at hl 0 rfl) ?_
              refine lv_ishr hx hb dX3_leapOn_107 ?_
              refine lv_iconst (v := 1) hx hb dX3_leapOn_108 (by decide) ?_
              refine lv_iand hx hb dX3_leapOn_109 ?_
              refine lv_if_ne (tgt := 136) hx hb dX3_leapOn_110 (by decide) (fun c110 => ?_) (fun c110 => ?_)
              · obtain ⟨x11_n, ex11_n⟩ : ∃ y : Int32, y = x11 + 1 := ⟨_, rfl⟩
                refine lv_iinc (v := x11_n) (lv' := [(11, .int x11_n), (13, .int x13), (12, .int x12), (0, .ref r), (1, .ref a), (2, .ref t), (3, .int x3), (4, .int x4), (5, .int x5), (6, .int x6), (7, .int x7), (8, .int x8), (9, .int x9), (10, .int x10)]) hx hb dX3_leapOn_136 hl (k := 13) rfl (by rw [ex11_n]; rfl) (by decide) rfl (fun ls hl => ?_)
                refine lv_goto (tgt := 45) hx hb dX3_leapOn_139 (by decide) ?_
                exact ih2 (w + 1) x10 x11_n f n M1 _ _ ls (by omega) (by rw [ex11_n, hx11]; exact nI_1 w) hn (by rw [← hres, lpW, if_neg hlw, if_neg (Nat.ne_of_gt hd0), if_neg (fun h => c110 (by rw [hx8, ex13]; exact h.2.2))]) hV m_r m_nr m_bh m_a m_t m_pk fr (lv_sub hl [3, 4, 5, 6, 7, 8, 9, 10, 11, 12, 13, 0] rfl)
              · refine lv_iconst (v := 0) hx hb dX3_leapOn_113 (by decide) ?_
                refine lv_topi (fun x10_n ex10_n => ?_)
                refine lv_istore (lv' := [(10, .int x10_n), (13, .int x13), (12, .int x12), (0, .ref r), (1, .ref a), (2, .ref t), (3, .int x3), (4, .int x4), (5, .int x5), (6, .int x6), (7, .int x7), (8, .int x8), (9, .int x9), (11, .int x11)]) hx hb dX3_leapOn_114 hl (by decide) rfl (fun ls hl => ?_)
                refine lv_aload_n hx hb dX3_leapOn_116 rfl (lv_at hl 3 rfl) ?_
                refine lv_aload_n hx hb dX3_leapOn_117 rfl (lv_at hl 4 rfl) ?_
                refine lv_aload_n hx hb dX3_leapOn_118 rfl (lv_at hl 5 rfl) ?_
                refine lv_iload_n hx hb dX3_leapOn_119 rfl (lv_at hl 6 rfl) ?_
                refine lv_iload hx hb dX3_leapOn_120 (lv_at hl 1 rfl) ?_
                refine lv_iload hx hb dX3_leapOn_122 (lv_at hl 8 rfl) ?_
                refine lv_iconst (v := 1) hx hb dX3_leapOn_124 (by decide) ?_
                refine lv_iload hx hb dX3_leapOn_125 (lv_at hl 2 rfl) ?_
                refine lv_ishl hx hb dX3_leapOn_127 ?_
                refine lv_ior hx hb dX3_leapOn_128 ?_
                refine lv_iload hx hb dX3_leapOn_129 (lv_at hl 9 rfl) ?_
                refine lv_iconst (v := 1) hx hb dX3_leapOn_131 (by decide) ?_
                refine lv_iadd hx hb dX3_leapOn_132 ?_
                refine mm_Vm (ci := 3) (As := [.ref a, .ref t, .int x3, .int x13, .int (x5 ||| (1 <<< (x12 &&& 31))), .int (x6 + 1)]) (rest := []) ⟨hx, hb, hml, hown, hts⟩ hK hV (ih hd0 M1 ((behT (4 * u + w)).toNatClampNeg) (x5 ||| (1 <<< (x12 &&& 31))) x3 x13 (x6 + 1) f n hs hx13 hg.1 (by rw [hl6]; exact (nI_1 _).trans (congrArg nI (by omega))) ⟨i_r, i_nr, i_bh, m_r, m_nr, m_bh⟩ m_a ⟨i_t, i_pk, m_t, m_pk, hn⟩) (cwV 6 hts gX3_leapOn_X3_leapOn rfl rfl rfl (by decide +kernel) (mm_levR hR (by omega) (by decide))) i_r m_r rfl rfl hl.1 rfl (Nat.le_of_ble_eq_true rfl) dX3_leapOn_133 ⟨Nat.zero_le _, Nat.zero_le _⟩ (fun M_2 H locs eM_2 hV => ?_)
                have m_r : M_2 r = _ := (congrFun eM_2 r).trans ((va_up_ne _ _ (mm_neq m_r m_pk (by intro h; cases h))).trans ((va_up_ne _ _ (mm_neq m_r m_t (by intro h; cases h))).trans m_r))
                have m_nr : M_2 nr = _ := (congrFun eM_2 nr).trans ((va_up_ne _ _ hne1).trans ((va_up_ne _ _ (mm_neq m_nr m_t (by intro h; cases h))).trans m_nr))
                have m_bh : M_2 bh = _ := (congrFun eM_2 bh).trans ((va_up_ne _ _ hne2).trans ((va_up_ne _ _ (mm_neq m_bh m_t (by intro h; cases h))).trans m_bh))
                have m_a : M_2 a = _ := (congrFun eM_2 a).trans ((va_up_ne _ _ (mm_neq m_a m_pk (by intro h; cases h))).trans ((va_up_ne _ _ (mm_neq m_a m_t (by intro h; cases h))).trans m_a))
                have m_t : M_2 t = .inr (1, [.ref pk, .int (nI (rc (behT (4 * u + w)).toNatClampNeg (x5 ||| (1 <<< (x12 &&& 31))) (f, n)).2)]) := (congrFun eM_2 t).trans ((va_up_ne _ _ hnt).trans (va_up_self _ _ _))
                have m_pk : M_2 pk = .inl (dA 0, 72, .inl ((rc (behT (4 * u + w)).toNatClampNeg (x5 ||| (1 <<< (x12 &&& 31))) (f, n)).1)) := (congrFun eM_2 pk).trans (va_up_self _ _ _)
                have fr : ∀ q : Nat, q ≠ t → q ≠ pk → M_2 q = M q := fun q h0 h1 => (congrFun eM_2 q).trans ((va_up_ne _ _ h1).trans ((va_up_ne _ _ h0).trans (fr q h0 h1)))
                obtain ⟨x11_n, ex11_n⟩ : ∃ y : Int32, y = x11 + 1 := ⟨_, rfl⟩
                refine lv_iinc (v := x11_n) (lv' := [(11, .int x11_n), (10, .int x10_n), (13, .int x13), (12, .int x12), (0, .ref r), (1, .ref a), (2, .ref t), (3, .int x3), (4, .int x4), (5, .int x5), (6, .int x6), (7, .int x7), (8, .int x8), (9, .int x9)]) hx hb dX3_leapOn_136 hl (k := 13) rfl (by rw [ex11_n]; rfl) (by decide) rfl (fun ls hl => ?_)
                refine lv_goto (tgt := 45) hx hb dX3_leapOn_139 (by decide) ?_
                exact ih2 (w + 1) x10_n x11_n ((rc (behT (4 * u + w)).toNatClampNeg (x5 ||| (1 <<< (x12 &&& 31))) (f, n)).1) ((rc (behT (4 * u + w)).toNatClampNeg (x5 ||| (1 <<< (x12 &&& 31))) (f, n)).2) M_2 _ _ ls (by omega) (by rw [ex11_n, hx11]; exact nI_1 w) (hrc _ _ _ hn) (by rw [← hres, lpW, if_neg hlw, if_neg (Nat.ne_of_gt hd0), if_pos ⟨by rw [← ex13]; exact c90, by rw [← ex7, ← ex12]; exact c100, by rw [← hx8, ← ex13]; exact c110⟩, ← ex12, ← ex10_n]) hV m_r m_nr m_bh m_a m_t m_pk fr (lv_sub hl [4, 5, 6, 7, 8, 9, 10, 11, 12, 13, 1, 0] rfl)
  exact LP (4 - fstN P s0) (fstN P s0) x10 x11 f n M H locs ls (by omega) hx11 hn (by rw [ex10]; exact eRESW.symm) hV m_r m_nr m_bh m_a m_t m_pk (fun q _ _ => rfl) (lv_sub hl [5, 6, 7, 8, 9, 10, 11, 4, 3, 2, 1, 0] rfl)

/-- leapOn: the jumps of the piece on s0 -/
theorem c_leapOn (l : Launch) (D : va_G) (dA : Nat → ClassId) {L : List Nat} {r nr bh a t pk : Nat} {P : Ps} {s0 : Nat} (hne1 : nr ≠ pk) (hne2 : bh ≠ pk) (i_a : a ∈ L) : ∀ (d : Nat), d ≤ 18 → ∀ (M : mm_M) (u : Nat) (T xs xu xl : Int32) (f : Nat → Int32) (n : Nat), xs = nI s0 → xu = nI u → u < 18 → xl = nI (18 - d) → ruW dA L M r nr bh → M a = oP P → liW dA L M t pk f n → mm_Cm l D dA yX3_leapOn wsX3_leapOn (d + 2) [.ref r, .ref a, .ref t, .int xs, .int xu, .int T, .int xl] L M (fun M1 => M1 = va_up (va_up M t (oL pk (nI (leapF P s0 d u T (f, n)).2))) pk (.inl (dA 0, 72, .inl (leapF P s0 d u T (f, n)).1))) := by
  intro d
  induction d with
  | zero =>
    intro hd M u T xs xu xl f n hs hu hu18 hl hr hm hli
    exact c_leapOn_step l D dA (d := 0) (rc := fun _ _ S => S) xs xu T xl hs hu hu18 hl hd (fun _ _ _ h => h) (fun h => absurd h (by omega)) hr i_a hm hli hne1 hne2
  | succ d ih =>
    intro hd M u T xs xu xl f n hs hu hu18 hl hr hm hli
    exact c_leapOn_step l D dA (d := d + 1) (rc := leapF P s0 d) xs xu T xl hs hu hu18 hl hd (fun u T S h => leapF_le d u T S h) (fun _ M u T xs xu xl f n h1 h2 h3 h4 h5 h6 h7 => ih (by omega) M u T xs xu xl f n h1 h2 h3 h4 h5 h6 h7) hr i_a hm hli hne1 hne2
end
section
def ownBit (P : Ps) (i : Nat) : Int32 := (ownP P >>> (nI i &&& 31)) &&& 1
def allJ (P : Ps) : Nat → Nat → LSt → LSt
  | 0, _, S => S
  | k + 1, i, S => allJ P k (i + 1) (if ownBit P i = 0 then S else leapF P i 18 i 0 S)
def allS (P : Ps) : Nat → Nat → LSt → LSt
  | 0, _, S => S
  | k + 1, i, S => allS P k (i + 1) (if ownBit P i = 0 then S else stepsF P i S)
/-- all moves, in order -/
def movesF (P : Ps) (f : Nat → Int32) : LSt := if (allJ P 18 0 (f, 0)).2 = 0 then allS P 18 0 (allJ P 18 0 (f, 0)) else allJ P 18 0 (f, 0)
theorem step1_le {P : Ps} {s w : Nat} {S : LSt} (h : S.2 ≤ 72) : (step1 P s w S).2 ≤ 72 := by
  unfold step1
  split
  · exact h
  · split
    · exact enterF_le h
    · exact h
theorem stepL_le {P : Ps} {s : Nat} : ∀ (k w : Nat) (S : LSt), S.2 ≤ 72 → (stepL P s k w S).2 ≤ 72
  | 0, _, _, h => h
  | k + 1, w, S, h => by
    unfold stepL
    split
    · exact h
    · exact stepL_le k _ _ (step1_le h)
theorem stepsF_le {P : Ps} {s : Nat} {S : LSt} (h : S.2 ≤ 72) : (stepsF P s S).2 ≤ 72 := stepL_le _ _ _ h
theorem allJ_le {P : Ps} : ∀ (k i : Nat) (S : LSt), S.2 ≤ 72 → (allJ P k i S).2 ≤ 72
  | 0, _, _, h => h
  | k + 1, i, S, h => by
    unfold allJ
    apply allJ_le k
    split
    · exact h
    · exact leapF_le _ _ _ _ h
theorem allS_le {P : Ps} : ∀ (k i : Nat) (S : LSt), S.2 ≤ 72 → (allS P k i S).2 ≤ 72
  | 0, _, _, h => h
  | k + 1, i, S, h => by
    unfold allS
    apply allS_le k
    split
    · exact h
    · exact stepsF_le h
theorem movesF_le (P : Ps) (f : Nat → Int32) : (movesF P f).2 ≤ 72 := by
  unfold movesF
  split
  · exact allS_le _ _ _ (allJ_le _ _ _ (by simp))
  · exact allJ_le _ _ _ (by simp)
def tgtF (P : Ps) (s w : Nat) : Int32 := if nearT (4 * s + w) = -1 then nearT (4 * s + w) else if (othP P >>> (nearT (4 * s + w) &&& 31)) &&& 1 = 0 then nearT (4 * s + w) else behT (4 * s + w)
def canW (P : Ps) (s : Nat) : Nat → Nat → Int32
  | 0, _ => 0
  | k + 1, w => if lstN P s < w then 0 else if tgtF P s w = -1 then canW P s k (w + 1) else if (fulP P >>> (tgtF P s w &&& 31)) &&& 1 = 0 then 1 else canW P s k (w + 1)
def canL (P : Ps) (s : Nat) : Int32 := canW P s (4 - fstN P s) (fstN P s)
def canK (P : Ps) : Nat → Nat → Int32
  | 0, _ => 0
  | k + 1, i => if ownBit P i = 0 then canK P k (i + 1) else if canL P i = 0 then canK P k (i + 1) else 1
def canM (P : Ps) : Int32 := canK P 18 0
theorem canW_01 (P : Ps) (s : Nat) : ∀ k w, canW P s k w = 0 ∨ canW P s k w = 1
  | 0, _ => Or.inl rfl
  | k + 1, w => by
    unfold canW
    split
    · exact Or.inl rfl
    · split
      · exact canW_01 P s k _
      · split
        · exact Or.inr rfl
        · exact canW_01 P s k _

set_option maxHeartbeats 4000000 in
set_option maxRecDepth 100000 in
theorem c_canLeave (l : Launch) (D : va_G) (dA : Nat → ClassId) {L : List Nat} {M : mm_M} {r nr bh a : Nat} {P : Ps} {s0 : Nat} (sq : Int32) (hr : ruW dA L M r nr bh) (i_a : a ∈ L) (m_a : M a = oP P) (hs : sq = nI s0) (hs18 : s0 < 18) : mm_Cp l D dA yX3_canLeave wsX3_canLeave 2 [.ref r, .ref a, .int sq] L M (canL P s0) := by
  obtain ⟨i_r, i_nr, i_bh, m_r, m_nr, m_bh⟩ := hr
  have m_a : M a = .inr (2, [.int P.1, .int P.2.1, .int P.2.2.1, .int P.2.2.2.1, .int P.2.2.2.2]) := m_a
  refine mm_enter_z (cc := cX3_canLeave) (maxL := 8) (by decide) rfl (Nat.le_of_ble_eq_true rfl) ?_
  intro p e R s m args below meth c A ls H locs Q hR hx hb hml hin hown hts hK hV hl hret
  have hl : lv_has ls 8 [(0, .ref r), (1, .ref a), (2, .int sq)] := hl
  have hown : s.vm.findClass RX3 = some m.cls := hown
  have f_49 := hts (.fieldLink RX3 49 "JumpBoard$Position" "white" "I") (by decide +kernel)
  have in_X2 : ∀ w ∈ wsX20, w ∈ wsX3_canLeave := by decide +kernel
  have f_52 := hts (.fieldLink RX3 52 "JumpBoard$Position" "black" "I") (by decide +kernel)
  have f_9 := hts (.fieldLink RX3 9 "JumpBoard$Rules" "near" "[I") (by decide +kernel)
  have in_X3 : ∀ w ∈ wsX30, w ∈ wsX3_canLeave := by decide +kernel
  have f_15 := hts (.fieldLink RX3 15 "JumpBoard$Rules" "behind" "[I") (by decide +kernel)
  refine lv_aload_n hx hb dX3_canLeave_0 rfl (lv_at hl 1 rfl) ?_
  refine mm_Vp (v := (othP P)) (ci := 2) (As := []) (rest := []) ⟨hx, hb, hml, hown, hts⟩ hK hV (c_others l D dA (P := P)  i_a m_a) (cwV 0 hts gX3_canLeave_X2_others rfl rfl rfl (by decide +kernel) (mm_levR hR (by omega) (by decide))) i_a m_a rfl rfl hl.1 rfl (Nat.le_of_ble_eq_true rfl) dX3_canLeave_1 ⟨Nat.zero_le _, Nat.zero_le _⟩ (fun H locs hV => ?_)
  refine lv_topi (fun x3 ex3 => ?_)
  refine lv_istore_n (lv' := [(3, .int x3), (0, .ref r), (1, .ref a), (2, .int sq)]) hx hb dX3_canLeave_4 rfl hl (by decide) rfl (fun ls hl => ?_)
  refine lv_aload_n hx hb dX3_canLeave_5 rfl (lv_at hl 2 rfl) ?_
  refine mm_get (ci := 2) (C := RX2) (T := TX2) (N := 5) hx hb hts in_X2 hown hK hV i_a m_a rfl 0 (by decide) f_49 (fun _ h => h) rfl dX3_canLeave_6 ?_
  refine lv_aload_n hx hb dX3_canLeave_9 rfl (lv_at hl 2 rfl) ?_
  refine mm_get (ci := 2) (C := RX2) (T := TX2) (N := 5) hx hb hts in_X2 hown hK hV i_a m_a rfl 1 (by decide) f_52 (fun _ h => h) rfl dX3_canLeave_10 ?_
  refine lv_ior hx hb dX3_canLeave_13 ?_
  refine lv_topi (fun x4 ex4 => ?_)
  refine lv_istore (lv' := [(4, .int x4), (3, .int x3), (0, .ref r), (1, .ref a), (2, .int sq)]) hx hb dX3_canLeave_14 hl (by decide) rfl (fun ls hl => ?_)
  have hx4 : x4 = fulP P := ex4
  refine lv_aload_n hx hb dX3_canLeave_16 rfl (lv_at hl 3 rfl) ?_
  refine lv_iload_n hx hb dX3_canLeave_17 rfl (lv_at hl 4 rfl) ?_
  refine mm_Sp (v := (lstD P sq)) (As := [.ref a, .int sq]) (rest := []) ⟨hx, hb, hml, hown, hts⟩ hK hV (c_lastD l D dA (P := P) sq i_a m_a) (va_cwS 2 hts gX3_canLeave_X3_lastDirection rfl rfl rfl (by decide +kernel) (mm_levR hR (by omega) (by decide))) rfl hl.1 rfl (Nat.le_of_ble_eq_true rfl) dX3_canLeave_18 ⟨Nat.zero_le _, Nat.zero_le _⟩ (fun H locs hV => ?_)
  refine lv_topi (fun x5 ex5 => ?_)
  refine lv_istore (lv' := [(5, .int x5), (4, .int x4), (3, .int x3), (0, .ref r), (1, .ref a), (2, .int sq)]) hx hb dX3_canLeave_21 hl (by decide) rfl (fun ls hl => ?_)
  have hx5 : x5 = nI (lstN P s0) := by rw [ex5, hs]; exact lstN_eq P s0
  refine lv_aload_n hx hb dX3_canLeave_23 rfl (lv_at hl 4 rfl) ?_
  refine lv_iload_n hx hb dX3_canLeave_24 rfl (lv_at hl 5 rfl) ?_
  refine mm_Sp (v := (fstD P sq)) (As := [.ref a, .int sq]) (rest := []) ⟨hx, hb, hml, hown, hts⟩ hK hV (c_firstD l D dA (P := P) sq i_a m_a) (va_cwS 2 hts gX3_canLeave_X3_firstDirection rfl rfl rfl (by decide +kernel) (mm_levR hR (by omega) (by decide))) rfl hl.1 rfl (Nat.le_of_ble_eq_true rfl) dX3_canLeave_25 ⟨Nat.zero_le _, Nat.zero_le _⟩ (fun H locs hV => ?_)
  refine lv_topi (fun x6 ex6 => ?_)
  refine lv_istore (lv' := [(6, .int x6), (5, .int x5), (4, .int x4), (3, .int x3), (0, .ref r), (1, .ref a), (2, .int sq)]) hx hb dX3_canLeave_28 hl (by decide) rfl (fun ls hl => ?_)
  have hx6 : x6 = nI (fstN P s0) := by rw [ex6, hs]; exact fstN_eq P s0
  have hl3 := lstN_le P s0
  have hf2 := fstN_le P s0
  have LP : ∀ (k w : Nat) (x6 : Int32) (ls : Array Slot), w + k = 4 → x6 = nI w → canW P s0 k w = canL P s0 → lv_has ls 8 [(0, .ref r), (1, .ref a), (2, .int sq), (3, .int x3), (4, .int x4), (5, .int x5), (6, .int x6)] → W p l e R s m args below meth c H locs 0 0 Q (F0 m 30 ls []) := by
    intro k
    induction k with
    | zero =>
      intro w x6 ls hwk hx6 hres hl
      refine lv_iload hx hb dX3_canLeave_30 (lv_at hl 6 rfl) ?_
      refine lv_iload hx hb dX3_canLeave_32 (lv_at hl 5 rfl) ?_
      refine lv_icmp_gt (tgt := 102) hx hb dX3_canLeave_34 (by decide) (fun c34 => ?_) (fun c34 => ?_)
      · have hlw : lstN P s0 < w := (nI_ltI (by omega) (by omega)).mp (by rw [← hx5, ← hx6]; exact c34)
        have hres2 : (0 : Int32) = canL P s0 := by rw [← hres]; rfl
        refine lv_iconst (v := 0) hx hb dX3_canLeave_102 (by decide) ?_
        exact hret (v := 0) dX3_canLeave_103 hV (by decide) (by decide) (by subst_vars; (repeat' split) <;> first | exact Or.inl rfl | exact Or.inr rfl) ⟨hres2, rfl, rfl⟩
      · exact absurd (by rw [hx5, hx6]; exact nI_lt (by omega) (by omega)) c34
    | succ k ih =>
      intro w x6 ls hwk hx6 hres hl
      refine lv_iload hx hb dX3_canLeave_30 (lv_at hl 6 rfl) ?_
      refine lv_iload hx hb dX3_canLeave_32 (lv_at hl 5 rfl) ?_
      refine lv_icmp_gt (tgt := 102) hx hb dX3_canLeave_34 (by decide) (fun c34 => ?_) (fun c34 => ?_)
      · have hlw : lstN P s0 < w := (nI_ltI (by omega) (by omega)).mp (by rw [← hx5, ← hx6]; exact c34)
        have hres2 : (0 : Int32) = canL P s0 := by rw [← hres]; rw [canW, if_pos hlw]
        refine lv_iconst (v := 0) hx hb dX3_canLeave_102 (by decide) ?_
        exact hret (v := 0) dX3_canLeave_103 hV (by decide) (by decide) (by subst_vars; (repeat' split) <;> first | exact Or.inl rfl | exact Or.inr rfl) ⟨hres2, rfl, rfl⟩
      · have hlw : ¬ lstN P s0 < w := fun h => c34 (by rw [hx5, hx6]; exact nI_lt h (by omega))
        refine lv_aload_n hx hb dX3_canLeave_37 rfl (lv_at hl 0 rfl) ?_
        refine mm_get (ci := 3) (C := RX3) (T := TX3) (N := 2) hx hb hts in_X3 hown hK hV i_r m_r rfl 0 (by decide) f_9 (fun _ h => h) rfl dX3_canLeave_38 ?_
        refine lv_iload_n hx hb dX3_canLeave_41 rfl (lv_at hl 2 rfl) ?_
        refine lv_iconst (v := 4) hx hb dX3_canLeave_42 (by decide) ?_
        refine lv_imul hx hb dX3_canLeave_43 ?_
        refine lv_iload hx hb dX3_canLeave_44 (lv_at hl 6 rfl) ?_
        refine lv_iadd hx hb dX3_canLeave_46 ?_
        refine mm_ialdN (j := (4 * s0 + w)) hx hb hK hV i_nr m_nr (ixN hs hx6) (by omega) (by decide) dX3_canLeave_47 ?_
        refine lv_topi (fun x7 ex7 => ?_)
        refine lv_istore (lv' := [(7, .int x7), (0, .ref r), (1, .ref a), (2, .int sq), (3, .int x3), (4, .int x4), (5, .int x5), (6, .int x6)]) hx hb dX3_canLeave_48 hl (by decide) rfl (fun ls hl => ?_)
        refine lv_iload hx hb dX3_canLeave_50 (lv_at hl 0 rfl) ?_
        refine lv_iconst (v := (-1)) hx hb dX3_canLeave_52 (by decide) ?_
        have J78 : ∀ (x7_1 : Int32) (ls : Array Slot), x7_1 = (if x7 = (-1) then x7 else (if ((x3 >>> (x7 &&& 31)) &&& 1) = 0 then x7 else (behT (4 * s0 + w)))) → lv_has ls 8 [(0, .ref r), (1, .ref a), (2, .int sq), (3, .int x3), (4, .int x4), (5, .int x5), (6, .int x6), (7, .int x7_1)] → W p l e R s m args below meth c H locs 0 0 Q (F0 m 78 ls []) := by
          intro x7_1 ls ex7_1 hl
          have ht : x7_1 = tgtF P s0 w := by rw [ex7_1, tgtF, ← ex7, ← ex3]
          refine lv_iload hx hb dX3_canLeave_78 (lv_at hl 7 rfl) ?_
          refine lv_iconst (v := (-1)) hx hb dX3_canLeave_80 (by decide) ?_
          refine lv_icmp_eq (tgt := 96) hx hb dX3_canLeave_81 (by decide) (fun c81 => ?_) (fun c81 => ?_)
          · obtain ⟨x6_n, ex6_n⟩ : ∃ y : Int32, y = x6 + 1 := ⟨_, rfl⟩
            refine lv_iinc (v := x6_n) (lv' := [(6, .int x6_n), (0, .ref r), (1, .ref a), (2, .int sq), (3, .int x3), (4, .int x4), (5, .int x5), (7, .int x7_1)]) hx hb dX3_canLeave_96 hl (k := 6) rfl (by rw [ex6_n]; rfl) (by decide) rfl (fun ls hl => ?_)
            refine lv_goto (tgt := 30) hx hb dX3_canLeave_99 (by decide) ?_
            exact ih (w + 1) x6_n ls (by omega) (by rw [ex6_n, hx6]; exact nI_1 w) (by rw [← hres, canW, if_neg hlw, if_pos (by rw [← ht]; exact c81)]) (lv_sub hl [1, 2, 3, 4, 5, 6, 0] rfl)
          · refine lv_iload hx hb dX3_canLeave_84 (lv_at hl 4 rfl) ?_
            refine lv_iload hx hb dX3_canLeave_86 (lv_at hl 7 rfl) ?_
            refine lv_ishr hx hb dX3_canLeave_88 ?_
            refine lv_iconst (v := 1) hx hb dX3_canLeave_89 (by decide) ?_
            refine lv_iand hx hb dX3_canLeave_90 ?_
            refine lv_if_ne (tgt := 96) hx hb dX3_canLeave_91 (by decide) (fun c91 => ?_) (fun c91 => ?_)
            · obtain ⟨x6_n, ex6_n⟩ : ∃ y : Int32, y = x6 + 1 := ⟨_, rfl⟩
              refine lv_iinc (v := x6_n) (lv' := [(6, .int x6_n), (0, .ref r), (1, .ref a), (2, .int sq), (3, .int x3), (4, .int x4), (5, .int x5), (7, .int x7_1)]) hx hb dX3_canLeave_96 hl (k := 6) rfl (by rw [ex6_n]; rfl) (by decide) rfl (fun ls hl => ?_)
              refine lv_goto (tgt := 30) hx hb dX3_canLeave_99 (by decide) ?_
              exact ih (w + 1) x6_n ls (by omega) (by rw [ex6_n, hx6]; exact nI_1 w) (by rw [← hres, canW, if_neg hlw, if_neg (by rw [← ht]; exact c81), if_neg (by rw [← ht, ← hx4]; exact c91)]) (lv_sub hl [1, 2, 3, 4, 5, 6, 0] rfl)
            · refine lv_iconst (v := 1) hx hb dX3_canLeave_94 (by decide) ?_
              exact hret (v := 1) dX3_canLeave_95 hV (by decide) (by decide) (by subst_vars; (repeat' split) <;> first | exact Or.inl rfl | exact Or.inr rfl) ⟨by rw [← hres, canW, if_neg hlw, if_neg (by rw [← ht]; exact c81), if_pos (by rw [← ht, ← hx4]; exact c91)], rfl, rfl⟩
        refine lv_icmp_eq (tgt := 78) hx hb dX3_canLeave_53 (by decide) (fun c53 => ?_) (fun c53 => ?_)
        · exact J78 _ ls (by rw [if_pos c53]) (lv_sub hl [1, 2, 3, 4, 5, 6, 7, 0] rfl)
        · refine lv_iload_n hx hb dX3_canLeave_56 rfl (lv_at hl 4 rfl) ?_
          refine lv_iload hx hb dX3_canLeave_57 (lv_at hl 0 rfl) ?_
          refine lv_ishr hx hb dX3_canLeave_59 ?_
          refine lv_iconst (v := 1) hx hb dX3_canLeave_60 (by decide) ?_
          refine lv_iand hx hb dX3_canLeave_61 ?_
          refine lv_if_eq (tgt := 78) hx hb dX3_canLeave_62 (by decide) (fun c62 => ?_) (fun c62 => ?_)
          · exact J78 _ ls (by rw [if_neg c53, if_pos c62]) (lv_sub hl [1, 2, 3, 4, 5, 6, 7, 0] rfl)
          · refine lv_aload_n hx hb dX3_canLeave_65 rfl (lv_at hl 1 rfl) ?_
            refine mm_get (ci := 3) (C := RX3) (T := TX3) (N := 2) hx hb hts in_X3 hown hK hV i_r m_r rfl 1 (by decide) f_15 (fun _ h => h) rfl dX3_canLeave_66 ?_
            refine lv_iload_n hx hb dX3_canLeave_69 rfl (lv_at hl 3 rfl) ?_
            refine lv_iconst (v := 4) hx hb dX3_canLeave_70 (by decide) ?_
            refine lv_imul hx hb dX3_canLeave_71 ?_
            refine lv_iload hx hb dX3_canLeave_72 (lv_at hl 7 rfl) ?_
            refine lv_iadd hx hb dX3_canLeave_74 ?_
            refine mm_ialdN (j := (4 * s0 + w)) hx hb hK hV i_bh m_bh (ixN hs hx6) (by omega) (by decide) dX3_canLeave_75 ?_
            refine lv_topi (fun x7b ex7b => ?_)
            refine lv_istore (lv' := [(7, .int x7b), (0, .ref r), (1, .ref a), (2, .int sq), (3, .int x3), (4, .int x4), (5, .int x5), (6, .int x6)]) hx hb dX3_canLeave_76 hl (by decide) rfl (fun ls hl => ?_)
            exact J78 _ ls (by rw [if_neg c53, if_neg c62, ex7b]) (lv_sub hl [1, 2, 3, 4, 5, 6, 7, 0] rfl)
  exact LP (4 - fstN P s0) (fstN P s0) x6 ls (by omega) hx6 rfl (lv_sub hl [4, 5, 6, 3, 2, 1, 0] rfl)

set_option maxHeartbeats 4000000 in
set_option maxRecDepth 100000 in
theorem c_canMove (l : Launch) (D : va_G) (dA : Nat → ClassId) {L : List Nat} {M : mm_M} {r nr bh a : Nat} {P : Ps} (hr : ruW dA L M r nr bh) (i_a : a ∈ L) (m_a : M a = oP P) : mm_Cp l D dA yX3_canMove wsX3_canMove 3 [.ref r, .ref a] L M (canM P) := by
  obtain ⟨i_r, i_nr, i_bh, m_r, m_nr, m_bh⟩ := hr
  have m_a : M a = .inr (2, [.int P.1, .int P.2.1, .int P.2.2.1, .int P.2.2.2.1, .int P.2.2.2.2]) := m_a
  refine mm_enter_z (cc := cX3_canMove) (maxL := 4) (by decide) rfl (Nat.le_of_ble_eq_true rfl) ?_
  intro p e R s m args below meth c A ls H locs Q hR hx hb hml hin hown hts hK hV hl hret
  have hl : lv_has ls 4 [(0, .ref r), (1, .ref a)] := hl
  have hown : s.vm.findClass RX3 = some m.cls := hown
  refine lv_aload_n hx hb dX3_canMove_0 rfl (lv_at hl 1 rfl) ?_
  refine mm_Vp (v := (ownP P)) (ci := 2) (As := []) (rest := []) ⟨hx, hb, hml, hown, hts⟩ hK hV (c_own l D dA (P := P)  i_a m_a) (cwV 0 hts gX3_canMove_X2_own rfl rfl rfl (by decide +kernel) (mm_levR hR (by omega) (by decide))) i_a m_a rfl rfl hl.1 rfl (Nat.le_of_ble_eq_true rfl) dX3_canMove_1 ⟨Nat.zero_le _, Nat.zero_le _⟩ (fun H locs hV => ?_)
  refine lv_topi (fun x2 ex2 => ?_)
  refine lv_istore_n (lv' := [(2, .int x2), (0, .ref r), (1, .ref a)]) hx hb dX3_canMove_4 rfl hl (by decide) rfl (fun ls hl => ?_)
  refine lv_iconst (v := 0) hx hb dX3_canMove_5 (by decide) ?_
  refine lv_topi (fun x3 ex3 => ?_)
  refine lv_istore_n (lv' := [(3, .int x3), (2, .int x2), (0, .ref r), (1, .ref a)]) hx hb dX3_canMove_6 rfl hl (by decide) rfl (fun ls hl => ?_)
  have LP : ∀ (k i : Nat) (x3 : Int32) (H : Heap) (locs : List Loc) (ls : Array Slot), i + k = 18 → x3 = nI i → canK P k i = canM P → mm_V A D L M s H locs → lv_has ls 4 [(0, .ref r), (1, .ref a), (2, .int x2), (3, .int x3)] → W p l e R s m args below meth c H locs 0 0 Q (F0 m 7 ls []) := by
    intro k
    induction k with
    | zero =>
      intro i x3 H locs ls hwk hx3 hres hV hl
      refine lv_iload_n hx hb dX3_canMove_7 rfl (lv_at hl 3 rfl) ?_
      refine lv_bipush (v := 18) hx hb dX3_canMove_8 (by decide) ?_
      refine lv_icmp_ge (tgt := 38) hx hb dX3_canMove_10 (by decide) (fun c10 => ?_) (fun c10 => ?_)
      · have hres2 : (0 : Int32) = canM P := by rw [← hres]; rfl
        refine lv_iconst (v := 0) hx hb dX3_canMove_38 (by decide) ?_
        exact hret (v := 0) dX3_canMove_39 hV (by decide) (by decide) (by subst_vars; (repeat' split) <;> first | exact Or.inl rfl | exact Or.inr rfl) ⟨hres2, rfl, rfl⟩
      · exact absurd (by rw [hx3]; exact nI_le (a := 18) (by omega) (by omega)) c10
    | succ k ih =>
      intro i x3 H locs ls hwk hx3 hres hV hl
      refine lv_iload_n hx hb dX3_canMove_7 rfl (lv_at hl 3 rfl) ?_
      refine lv_bipush (v := 18) hx hb dX3_canMove_8 (by decide) ?_
      refine lv_icmp_ge (tgt := 38) hx hb dX3_canMove_10 (by decide) (fun c10 => ?_) (fun c10 => ?_)
      · exact absurd c10 (by rw [hx3]; exact nI_ge (b := 18) (by omega) (by decide))
      · have hi18 : i < 18 := by omega
        refine lv_iload_n hx hb dX3_canMove_13 rfl (lv_at hl 2 rfl) ?_
        refine lv_iload_n hx hb dX3_canMove_14 rfl (lv_at hl 3 rfl) ?_
        refine lv_ishr hx hb dX3_canMove_15 ?_
        refine lv_iconst (v := 1) hx hb dX3_canMove_16 (by decide) ?_
        refine lv_iand hx hb dX3_canMove_17 ?_
        refine lv_if_eq (tgt := 32) hx hb dX3_canMove_18 (by decide) (fun c18 => ?_) (fun c18 => ?_)
        · obtain ⟨x3_n, ex3_n⟩ : ∃ y : Int32, y = x3 + 1 := ⟨_, rfl⟩
          refine lv_iinc (v := x3_n) (lv' := [(3, .int x3_n), (0, .ref r), (1, .ref a), (2, .int x2)]) hx hb dX3_canMove_32 hl (k := 3) rfl (by rw [ex3_n]; rfl) (by decide) rfl (fun ls hl => ?_)
          refine lv_goto (tgt := 7) hx hb dX3_canMove_35 (by decide) ?_
          exact ih (i + 1) x3_n _ _ ls (by omega) (by rw [ex3_n, hx3]; exact nI_1 i) (by rw [← hres, canK, if_pos (by unfold ownBit; rw [← ex2, ← hx3]; exact c18)]) hV (lv_sub hl [1, 2, 3, 0] rfl)
        · refine lv_aload_n hx hb dX3_canMove_21 rfl (lv_at hl 0 rfl) ?_
          refine lv_aload_n hx hb dX3_canMove_22 rfl (lv_at hl 1 rfl) ?_
          refine lv_iload_n hx hb dX3_canMove_23 rfl (lv_at hl 3 rfl) ?_
          refine mm_Vp (v := (canL P i)) (ci := 3) (As := [.ref a, .int x3]) (rest := []) ⟨hx, hb, hml, hown, hts⟩ hK hV (c_canLeave l D dA (P := P) (s0 := i) x3 ⟨i_r, i_nr, i_bh, m_r, m_nr, m_bh⟩ i_a m_a hx3 hi18) (cwV 2 hts gX3_canMove_X3_canLeave rfl rfl rfl (by decide +kernel) (mm_levR hR (by omega) (by decide))) i_r m_r rfl rfl hl.1 rfl (Nat.le_of_ble_eq_true rfl) dX3_canMove_24 ⟨Nat.zero_le _, Nat.zero_le _⟩ (fun H locs hV => ?_)
          refine lv_if_eq (tgt := 32) hx hb dX3_canMove_27 (by decide) (fun c27 => ?_) (fun c27 => ?_)
          · obtain ⟨x3_n, ex3_n⟩ : ∃ y : Int32, y = x3 + 1 := ⟨_, rfl⟩
            refine lv_iinc (v := x3_n) (lv' := [(3, .int x3_n), (0, .ref r), (1, .ref a), (2, .int x2)]) hx hb dX3_canMove_32 hl (k := 3) rfl (by rw [ex3_n]; rfl) (by decide) rfl (fun ls hl => ?_)
            refine lv_goto (tgt := 7) hx hb dX3_canMove_35 (by decide) ?_
            exact ih (i + 1) x3_n _ _ ls (by omega) (by rw [ex3_n, hx3]; exact nI_1 i) (by rw [← hres, canK, if_neg (by unfold ownBit; rw [← ex2, ← hx3]; exact c18), if_pos c27]) hV (lv_sub hl [1, 2, 3, 0] rfl)
          · refine lv_iconst (v := 1) hx hb dX3_canMove_30 (by decide) ?_
            exact hret (v := 1) dX3_canMove_31 hV (by decide) (by decide) (by subst_vars; (repeat' split) <;> first | exact Or.inl rfl | exact Or.inr rfl) ⟨by rw [← hres, canK, if_neg (by unfold ownBit; rw [← ex2, ← hx3]; exact c18), if_neg c27], rfl, rfl⟩
  exact LP 18 0 x3 H locs ls rfl (by rw [ex3]; rfl) rfl hV (lv_sub hl [2, 3, 1, 0] rfl)

set_option maxHeartbeats 4000000 in
set_option maxRecDepth 100000 in
theorem c_listMoves (l : Launch) (D : va_G) (dA : Nat → ClassId) {L : List Nat} {M : mm_M} {r nr bh a t pk : Nat} {P : Ps} {f0 : Nat → Int32} {n0 : Nat} (hr : ruW dA L M r nr bh) (i_a : a ∈ L) (m_a : M a = oP P) (hli : liW dA L M t pk f0 n0) (hne1 : nr ≠ pk) (hne2 : bh ≠ pk) : mm_Cm l D dA yX3_listMoves wsX3_listMoves 21 [.ref r, .ref a, .ref t] L M (fun M1 => M1 = va_up (va_up M t (oL pk (nI (movesF P f0).2))) pk (.inl (dA 0, 72, .inl (movesF P f0).1))) := by
  obtain ⟨i_r, i_nr, i_bh, m_r, m_nr, m_bh⟩ := hr
  obtain ⟨i_t, i_pk, m_t, m_pk, hn0⟩ := hli
  have m_a : M a = .inr (2, [.int P.1, .int P.2.1, .int P.2.2.1, .int P.2.2.2.1, .int P.2.2.2.2]) := m_a
  have m_t : M t = .inr (1, [.ref pk, .int (nI n0)]) := m_t
  have hnt : t ≠ pk := mm_neq m_t m_pk (by intro h; cases h)
  refine mm_enter_v (cc := cX3_listMoves) (maxL := 5) (by decide) rfl (Nat.le_of_ble_eq_true rfl) ?_
  intro p e R s m args below meth c A ls H locs Q hR hx hb hml hin hown hts hK hV hl hret
  have hl : lv_has ls 5 [(0, .ref r), (1, .ref a), (2, .ref t)] := hl
  have hown : s.vm.findClass RX3 = some m.cls := hown
  have f_32 := hts (.fieldLink RX3 32 "JumpBoard$MoveList" "count" "I") (by decide +kernel)
  have in_X1 : ∀ w ∈ wsX10, w ∈ wsX3_listMoves := by decide +kernel
  refine lv_aload_n hx hb dX3_listMoves_0 rfl (lv_at hl 2 rfl) ?_
  refine lv_iconst (v := 0) hx hb dX3_listMoves_1 (by decide) ?_
  refine mm_put (ci := 1) (v := .int 0) (fs' := [.ref pk, .int 0]) (ty := .int) (C := RX1) (T := TX1) (N := 2) hx hb hts in_X1 tyX1 tyX1_ok nmX1 hown hK hV i_t m_t rfl 1 (by decide) f_32 (fun _ h => h) rfl (by decide +kernel) rfl rfl (Nat.le_of_ble_eq_true rfl) rfl dX3_listMoves_2 (fun M_1 H locs eM_1 hV => ?_)
  have m_r : M_1 r = _ := (congrFun eM_1 r).trans ((va_up_ne _ _ (mm_neq m_r m_t (by intro h; cases h))).trans m_r)
  have m_nr : M_1 nr = _ := (congrFun eM_1 nr).trans ((va_up_ne _ _ (mm_neq m_nr m_t (by intro h; cases h))).trans m_nr)
  have m_bh : M_1 bh = _ := (congrFun eM_1 bh).trans ((va_up_ne _ _ (mm_neq m_bh m_t (by intro h; cases h))).trans m_bh)
  have m_a : M_1 a = _ := (congrFun eM_1 a).trans ((va_up_ne _ _ (mm_neq m_a m_t (by intro h; cases h))).trans m_a)
  have m_pk : M_1 pk = _ := (congrFun eM_1 pk).trans ((va_up_ne _ _ (Ne.symm hnt)).trans m_pk)
  have m_t : M_1 t = .inr (1, [.ref pk, .int 0]) := by rw [eM_1]; exact va_up_self _ _ _
  have fr : ∀ q : Nat, q ≠ t → M_1 q = M q := fun q h0 => (congrFun eM_1 q).trans ((va_up_ne _ _ h0).trans rfl)
  have m_t : M_1 t = .inr (1, [.ref pk, .int (nI 0)]) := m_t
  refine lv_aload_n hx hb dX3_listMoves_5 rfl (lv_at hl 1 rfl) ?_
  refine mm_Vp (v := (ownP P)) (ci := 2) (As := []) (rest := []) ⟨hx, hb, hml, hown, hts⟩ hK hV (c_own l D dA (P := P)  i_a m_a) (cwV 0 hts gX3_listMoves_X2_own rfl rfl rfl (by decide +kernel) (mm_levR hR (by omega) (by decide))) i_a m_a rfl rfl hl.1 rfl (Nat.le_of_ble_eq_true rfl) dX3_listMoves_6 ⟨Nat.zero_le _, Nat.zero_le _⟩ (fun H locs hV => ?_)
  refine lv_topi (fun x3 ex3 => ?_)
  refine lv_istore_n (lv' := [(3, .int x3), (0, .ref r), (1, .ref a), (2, .ref t)]) hx hb dX3_listMoves_9 rfl hl (by decide) rfl (fun ls hl => ?_)
  refine lv_iconst (v := 0) hx hb dX3_listMoves_10 (by decide) ?_
  refine lv_topi (fun x4 ex4 => ?_)
  refine lv_istore (lv' := [(4, .int x4), (3, .int x3), (0, .ref r), (1, .ref a), (2, .ref t)]) hx hb dX3_listMoves_11 hl (by decide) rfl (fun ls hl => ?_)
  have LP13 : ∀ (k i : Nat) (x4 : Int32) (f : Nat → Int32) (n : Nat) (M1 : mm_M) (H : Heap) (locs : List Loc) (ls : Array Slot), i + k = 18 → x4 = nI i → n ≤ 72 → allJ P k i (f, n) = allJ P 18 0 (f0, 0) → mm_V A D L M1 s H locs → M1 r = .inr (3, [.ref nr, .ref bh]) → M1 nr = .inl (dA 0, 72, .inl nearT) → M1 bh = .inl (dA 0, 72, .inl behT) → M1 a = .inr (2, [.int P.1, .int P.2.1, .int P.2.2.1, .int P.2.2.2.1, .int P.2.2.2.2]) → M1 t = .inr (1, [.ref pk, .int (nI n)]) → M1 pk = .inl (dA 0, 72, .inl f) → (∀ q : Nat, q ≠ t → q ≠ pk → M1 q = M q) → lv_has ls 5 [(0, .ref r), (1, .ref a), (2, .ref t), (3, .int x3), (4, .int x4)] → W p l e R s m args below meth c H locs 0 0 Q (F0 m 13 ls []) := by
    intro k
    induction k with
    | zero =>
      intro i x4 f n M1 H locs ls hwk hx4 hn hres hV m_r m_nr m_bh m_a m_t m_pk fr hl
      refine lv_iload hx hb dX3_listMoves_13 (lv_at hl 4 rfl) ?_
      refine lv_bipush (v := 18) hx hb dX3_listMoves_15 (by decide) ?_
      refine lv_icmp_ge (tgt := 47) hx hb dX3_listMoves_17 (by decide) (fun c17 => ?_) (fun c17 => ?_)
      · have hJ : allJ P 18 0 (f0, 0) = (f, n) := hres.symm
        refine lv_aload_n hx hb dX3_listMoves_47 rfl (lv_at hl 2 rfl) ?_
        refine mm_get (ci := 1) (C := RX1) (T := TX1) (N := 2) hx hb hts in_X1 hown hK hV i_t m_t rfl 1 (by decide) f_32 (fun _ h => h) rfl dX3_listMoves_48 ?_
        refine lv_if_le (tgt := 55) hx hb dX3_listMoves_51 (by decide) (fun c51 => ?_) (fun c51 => ?_)
        · have hn0 : n = 0 := mm_zero (by omega) c51
          have hfin0 : movesF P f0 = allS P 18 0 (f, n) := by unfold movesF; rw [hJ, if_pos hn0]
          refine lv_iconst (v := 0) hx hb dX3_listMoves_55 (by decide) ?_
          refine lv_topi (fun x4z ex4z => ?_)
          refine lv_istore (lv' := [(4, .int x4z), (0, .ref r), (1, .ref a), (2, .ref t), (3, .int x3)]) hx hb dX3_listMoves_56 hl (by decide) rfl (fun ls hl => ?_)
          have LP58 : ∀ (k i : Nat) (x4 : Int32) (f : Nat → Int32) (n : Nat) (M1 : mm_M) (H : Heap) (locs : List Loc) (ls : Array Slot), i + k = 18 → x4 = nI i → n ≤ 72 → allS P k i (f, n) = movesF P f0 → mm_V A D L M1 s H locs → M1 r = .inr (3, [.ref nr, .ref bh]) → M1 nr = .inl (dA 0, 72, .inl nearT) → M1 bh = .inl (dA 0, 72, .inl behT) → M1 a = .inr (2, [.int P.1, .int P.2.1, .int P.2.2.1, .int P.2.2.2.1, .int P.2.2.2.2]) → M1 t = .inr (1, [.ref pk, .int (nI n)]) → M1 pk = .inl (dA 0, 72, .inl f) → (∀ q : Nat, q ≠ t → q ≠ pk → M1 q = M q) → lv_has ls 5 [(0, .ref r), (1, .ref a), (2, .ref t), (3, .int x3), (4, .int x4)] → W p l e R s m args below meth c H locs 0 0 Q (F0 m 58 ls []) := by
            intro k
            induction k with
            | zero =>
              intro i x4 f n M1 H locs ls hwk hx4 hn hres hV m_r m_nr m_bh m_a m_t m_pk fr hl
              refine lv_iload hx hb dX3_listMoves_58 (lv_at hl 4 rfl) ?_
              refine lv_bipush (v := 18) hx hb dX3_listMoves_60 (by decide) ?_
              refine lv_icmp_ge (tgt := 88) hx hb dX3_listMoves_62 (by decide) (fun c62 => ?_) (fun c62 => ?_)
              · have hfin : movesF P f0 = (f, n) := hres.symm
                exact hret dX3_listMoves_88 hV (by decide) (by decide) ⟨rfl, by rw [hfin]; exact mm_fin2 m_t m_pk hnt (fun q h0 h1 => fr q h0 h1)⟩
              · exact absurd (by rw [hx4]; exact nI_le (a := 18) (by omega) (by omega)) c62
            | succ k ih =>
              intro i x4 f n M1 H locs ls hwk hx4 hn hres hV m_r m_nr m_bh m_a m_t m_pk fr hl
              refine lv_iload hx hb dX3_listMoves_58 (lv_at hl 4 rfl) ?_
              refine lv_bipush (v := 18) hx hb dX3_listMoves_60 (by decide) ?_
              refine lv_icmp_ge (tgt := 88) hx hb dX3_listMoves_62 (by decide) (fun c62 => ?_) (fun c62 => ?_)
              · exact absurd c62 (by rw [hx4]; exact nI_ge (b := 18) (by omega) (by decide))
              · have hi18 : i < 18 := by omega
                refine lv_iload_n hx hb dX3_listMoves_65 rfl (lv_at hl 3 rfl) ?_
                refine lv_iload hx hb dX3_listMoves_66 (lv_at hl 4 rfl) ?_
                refine lv_ishr hx hb dX3_listMoves_68 ?_
                refine lv_iconst (v := 1) hx hb dX3_listMoves_69 (by decide) ?_
                refine lv_iand hx hb dX3_listMoves_70 ?_
                refine lv_if_eq (tgt := 82) hx hb dX3_listMoves_71 (by decide) (fun c71 => ?_) (fun c71 => ?_)
                · obtain ⟨x4_n, ex4_n⟩ : ∃ y : Int32, y = x4 + 1 := ⟨_, rfl⟩
                  refine lv_iinc (v := x4_n) (lv' := [(4, .int x4_n), (0, .ref r), (1, .ref a), (2, .ref t), (3, .int x3)]) hx hb dX3_listMoves_82 hl (k := 4) rfl (by rw [ex4_n]; rfl) (by decide) rfl (fun ls hl => ?_)
                  refine lv_goto (tgt := 58) hx hb dX3_listMoves_85 (by decide) ?_
                  exact ih (i + 1) x4_n f n M1 _ _ ls (by omega) (by rw [ex4_n, hx4]; exact nI_1 i) hn (by rw [← hres, allS, if_pos (by unfold ownBit; rw [← ex3, ← hx4]; exact c71)]) hV m_r m_nr m_bh m_a m_t m_pk fr (lv_sub hl [1, 2, 3, 4, 0] rfl)
                · refine lv_aload_n hx hb dX3_listMoves_74 rfl (lv_at hl 0 rfl) ?_
                  refine lv_aload_n hx hb dX3_listMoves_75 rfl (lv_at hl 1 rfl) ?_
                  refine lv_aload_n hx hb dX3_listMoves_76 rfl (lv_at hl 2 rfl) ?_
                  refine lv_iload hx hb dX3_listMoves_77 (lv_at hl 4 rfl) ?_
                  refine mm_Vm (ci := 3) (As := [.ref a, .ref t, .int x4]) (rest := []) ⟨hx, hb, hml, hown, hts⟩ hK hV (c_listSteps l D dA (s0 := i) x4 ⟨i_r, i_nr, i_bh, m_r, m_nr, m_bh⟩ i_a m_a ⟨i_t, i_pk, m_t, m_pk, hn⟩ hne1 hne2 hx4 hi18) (cwV 3 hts gX3_listMoves_X3_listSteps rfl rfl rfl (by decide +kernel) (mm_levR hR (by omega) (by decide))) i_r m_r rfl rfl hl.1 rfl (Nat.le_of_ble_eq_true rfl) dX3_listMoves_79 ⟨Nat.zero_le _, Nat.zero_le _⟩ (fun M_2 H locs eM_2 hV => ?_)
                  have m_r : M_2 r = _ := (congrFun eM_2 r).trans ((va_up_ne _ _ (mm_neq m_r m_pk (by intro h; cases h))).trans ((va_up_ne _ _ (mm_neq m_r m_t (by intro h; cases h))).trans m_r))
                  have m_nr : M_2 nr = _ := (congrFun eM_2 nr).trans ((va_up_ne _ _ hne1).trans ((va_up_ne _ _ (mm_neq m_nr m_t (by intro h; cases h))).trans m_nr))
                  have m_bh : M_2 bh = _ := (congrFun eM_2 bh).trans ((va_up_ne _ _ hne2).trans ((va_up_ne _ _ (mm_neq m_bh m_t (by intro h; cases h))).trans m_bh))
                  have m_a : M_2 a = _ := (congrFun eM_2 a).trans ((va_up_ne _ _ (mm_neq m_a m_pk (by intro h; cases h))).trans ((va_up_ne _ _ (mm_neq m_a m_t (by intro h; cases h))).trans m_a))
                  have m_t : M_2 t = .inr (1, [.ref pk, .int (nI (stepsF P i (f, n)).2)]) := (congrFun eM_2 t).trans ((va_up_ne _ _ hnt).trans (va_up_self _ _ _))
                  have m_pk : M_2 pk = .inl (dA 0, 72, .inl ((stepsF P i (f, n)).1)) := (congrFun eM_2 pk).trans (va_up_self _ _ _)
                  have fr : ∀ q : Nat, q ≠ t → q ≠ pk → M_2 q = M q := fun q h0 h1 => (congrFun eM_2 q).trans ((va_up_ne _ _ h1).trans ((va_up_ne _ _ h0).trans (fr q h0 h1)))
                  obtain ⟨x4_n, ex4_n⟩ : ∃ y : Int32, y = x4 + 1 := ⟨_, rfl⟩
                  refine lv_iinc (v := x4_n) (lv' := [(4, .int x4_n), (0, .ref r), (1, .ref a), (2, .ref t), (3, .int x3)]) hx hb dX3_listMoves_82 hl (k := 4) rfl (by rw [ex4_n]; rfl) (by decide) rfl (fun ls hl => ?_)
                  refine lv_goto (tgt := 58) hx hb dX3_listMoves_85 (by decide) ?_
                  exact ih (i + 1) x4_n ((stepsF P i (f, n)).1) ((stepsF P i (f, n)).2) M_2 _ _ ls (by omega) (by rw [ex4_n, hx4]; exact nI_1 i) (stepsF_le hn) (by rw [← hres, allS, if_neg (by unfold ownBit; rw [← ex3, ← hx4]; exact c71)]) hV m_r m_nr m_bh m_a m_t m_pk fr (lv_sub hl [1, 2, 3, 4, 0] rfl)
          exact LP58 18 0 x4z f n M1 H locs ls rfl (by rw [ex4z]; rfl) hn hfin0.symm hV m_r m_nr m_bh m_a m_t m_pk fr (lv_sub hl [1, 2, 3, 4, 0] rfl)
        · have hfin : movesF P f0 = (f, n) := by unfold movesF; rw [hJ, if_neg (Nat.ne_of_gt (mm_pos (by omega) c51))]
          exact hret dX3_listMoves_54 hV (by decide) (by decide) ⟨rfl, by rw [hfin]; exact mm_fin2 m_t m_pk hnt (fun q h0 h1 => fr q h0 h1)⟩
      · exact absurd (by rw [hx4]; exact nI_le (a := 18) (by omega) (by omega)) c17
    | succ k ih =>
      intro i x4 f n M1 H locs ls hwk hx4 hn hres hV m_r m_nr m_bh m_a m_t m_pk fr hl
      refine lv_iload hx hb dX3_listMoves_13 (lv_at hl 4 rfl) ?_
      refine lv_bipush (v := 18) hx hb dX3_listMoves_15 (by decide) ?_
      refine lv_icmp_ge (tgt := 47) hx hb dX3_listMoves_17 (by decide) (fun c17 => ?_) (fun c17 => ?_)
      · exact absurd c17 (by rw [hx4]; exact nI_ge (b := 18) (by omega) (by decide))
      · have hi18 : i < 18 := by omega
        refine lv_iload_n hx hb dX3_listMoves_20 rfl (lv_at hl 3 rfl) ?_
        refine lv_iload hx hb dX3_listMoves_21 (lv_at hl 4 rfl) ?_
        refine lv_ishr hx hb dX3_listMoves_23 ?_
        refine lv_iconst (v := 1) hx hb dX3_listMoves_24 (by decide) ?_
        refine lv_iand hx hb dX3_listMoves_25 ?_
        refine lv_if_eq (tgt := 41) hx hb dX3_listMoves_26 (by decide) (fun c26 => ?_) (fun c26 => ?_)
        · obtain ⟨x4_n, ex4_n⟩ : ∃ y : Int32, y = x4 + 1 := ⟨_, rfl⟩
          refine lv_iinc (v := x4_n) (lv' := [(4, .int x4_n), (0, .ref r), (1, .ref a), (2, .ref t), (3, .int x3)]) hx hb dX3_listMoves_41 hl (k := 4) rfl (by rw [ex4_n]; rfl) (by decide) rfl (fun ls hl => ?_)
          refine lv_goto (tgt := 13) hx hb dX3_listMoves_44 (by decide) ?_
          exact ih (i + 1) x4_n f n M1 _ _ ls (by omega) (by rw [ex4_n, hx4]; exact nI_1 i) hn (by rw [← hres, allJ, if_pos (by unfold ownBit; rw [← ex3, ← hx4]; exact c26)]) hV m_r m_nr m_bh m_a m_t m_pk fr (lv_sub hl [1, 2, 3, 4, 0] rfl)
        · refine lv_aload_n hx hb dX3_listMoves_29 rfl (lv_at hl 0 rfl) ?_
          refine lv_aload_n hx hb dX3_listMoves_30 rfl (lv_at hl 1 rfl) ?_
          refine lv_aload_n hx hb dX3_listMoves_31 rfl (lv_at hl 2 rfl) ?_
          refine lv_iload hx hb dX3_listMoves_32 (lv_at hl 4 rfl) ?_
          refine lv_iload hx hb dX3_listMoves_34 (lv_at hl 4 rfl) ?_
          refine lv_iconst (v := 0) hx hb dX3_listMoves_36 (by decide) ?_
          refine lv_iconst (v := 0) hx hb dX3_listMoves_37 (by decide) ?_
          refine mm_Vm (ci := 3) (As := [.ref a, .ref t, .int x4, .int x4, .int 0, .int 0]) (rest := []) ⟨hx, hb, hml, hown, hts⟩ hK hV (c_leapOn l D dA hne1 hne2 i_a 18 (Nat.le_refl 18) M1 i 0 x4 x4 0 f n hx4 hx4 hi18 rfl ⟨i_r, i_nr, i_bh, m_r, m_nr, m_bh⟩ m_a ⟨i_t, i_pk, m_t, m_pk, hn⟩) (cwV 6 hts gX3_listMoves_X3_leapOn rfl rfl rfl (by decide +kernel) (mm_levR hR (by omega) (by decide))) i_r m_r rfl rfl hl.1 rfl (Nat.le_of_ble_eq_true rfl) dX3_listMoves_38 ⟨Nat.zero_le _, Nat.zero_le _⟩ (fun M_3 H locs eM_3 hV => ?_)
          have m_r : M_3 r = _ := (congrFun eM_3 r).trans ((va_up_ne _ _ (mm_neq m_r m_pk (by intro h; cases h))).trans ((va_up_ne _ _ (mm_neq m_r m_t (by intro h; cases h))).trans m_r))
          have m_nr : M_3 nr = _ := (congrFun eM_3 nr).trans ((va_up_ne _ _ hne1).trans ((va_up_ne _ _ (mm_neq m_nr m_t (by intro h; cases h))).trans m_nr))
          have m_bh : M_3 bh = _ := (congrFun eM_3 bh).trans ((va_up_ne _ _ hne2).trans ((va_up_ne _ _ (mm_neq m_bh m_t (by intro h; cases h))).trans m_bh))
          have m_a : M_3 a = _ := (congrFun eM_3 a).trans ((va_up_ne _ _ (mm_neq m_a m_pk (by intro h; cases h))).trans ((va_up_ne _ _ (mm_neq m_a m_t (by intro h; cases h))).trans m_a))
          have m_t : M_3 t = .inr (1, [.ref pk, .int (nI (leapF P i 18 i 0 (f, n)).2)]) := (congrFun eM_3 t).trans ((va_up_ne _ _ hnt).trans (va_up_self _ _ _))
          have m_pk : M_3 pk = .inl (dA 0, 72, .inl ((leapF P i 18 i 0 (f, n)).1)) := (congrFun eM_3 pk).trans (va_up_self _ _ _)
          have fr : ∀ q : Nat, q ≠ t → q ≠ pk → M_3 q = M q := fun q h0 h1 => (congrFun eM_3 q).trans ((va_up_ne _ _ h1).trans ((va_up_ne _ _ h0).trans (fr q h0 h1)))
          obtain ⟨x4_n, ex4_n⟩ : ∃ y : Int32, y = x4 + 1 := ⟨_, rfl⟩
          refine lv_iinc (v := x4_n) (lv' := [(4, .int x4_n), (0, .ref r), (1, .ref a), (2, .ref t), (3, .int x3)]) hx hb dX3_listMoves_41 hl (k := 4) rfl (by rw [ex4_n]; rfl) (by decide) rfl (fun ls hl => ?_)
          refine lv_goto (tgt := 13) hx hb dX3_listMoves_44 (by decide) ?_
          exact ih (i + 1) x4_n ((leapF P i 18 i 0 (f, n)).1) ((leapF P i 18 i 0 (f, n)).2) M_3 _ _ ls (by omega) (by rw [ex4_n, hx4]; exact nI_1 i) (leapF_le _ _ _ _ hn) (by rw [← hres, allJ, if_neg (by unfold ownBit; rw [← ex3, ← hx4]; exact c26)]) hV m_r m_nr m_bh m_a m_t m_pk fr (lv_sub hl [1, 2, 3, 4, 0] rfl)
  exact LP13 18 0 x4 f0 0 M_1 H locs ls rfl (by rw [ex4]; rfl) (by decide) rfl hV m_r m_nr m_bh m_a m_t m_pk (fun q h0 h1 => fr q h0) (lv_sub hl [2, 3, 4, 1, 0] rfl)
end
section
theorem mm_nelen {cA cB : ClassId} {n m : Nat} {x y : (Nat → Int32) ⊕ (Nat → Int64) ⊕ (Nat → UInt32) ⊕ (Nat → UInt64) ⊕ (Nat → Option Nat)} (h : n ≠ m) : (Sum.inl (cA, n, x) : va_E) ≠ .inl (cB, m, y) := fun e => h (congrArg (fun z : va_E => match z with | .inl q => q.2.1 | .inr _ => 0) e)
/-- Integer.numberOfTrailingZeros, as its code goes -/
def ntzF (x : Int32) : Int32 :=
  let a := (x ^^^ (-1)) &&& (x - 1)
  if 0 < a then
    let b := if a ≤ 65536 then a else ush a 16
    let n1 := if a ≤ 65536 then 1 else 1 + 16
    let c := if b ≤ 256 then b else ush b 8
    let n2 := if b ≤ 256 then n1 else n1 + 8
    let d := if c ≤ 16 then c else ush c 4
    let n3 := if c ≤ 16 then n2 else n2 + 4
    let e := if d ≤ 4 then d else ush d 2
    let n4 := if d ≤ 4 then n3 else n3 + 2
    n4 + ush e 1
  else a &&& 32
def kindF (P : Ps) (bit : Int32) : Int32 :=
  let sq := ntzF bit - ntzF bit / 18 * 18
  let seen := if P.2.2.2.1 = 0 then sq else 17 - sq
  if kingP P sq = 0 then seen else 18 + seen
def numF (P : Ps) : Int32 := if ownP P = 0 then 1296 else kindF P (ownP P) * 36 + kindF P (othP P)
/-- an ending's position; whether there is one -/
def arA (x : Int32) : Int32 := x / 36
def arB (x : Int32) : Int32 := x - x / 36 * 36
def arS (x : Int32) : Int32 := (1 : Int32) <<< ((arA x - arA x / 18 * 18) &&& 31)
def arT (x : Int32) : Int32 := (1 : Int32) <<< ((arB x - arB x / 18 * 18) &&& 31)
def arK (x : Int32) : Int32 := if arA x < 18 then 0 else 1
def arL (x : Int32) : Int32 := if arB x < 18 then 0 else 1
def arU (x : Int32) : Int32 := if arK x = 0 then (if arS x &&& 229376 = 0 then 0 else 1) else 0
def arV (x : Int32) : Int32 := if arL x = 0 then (if arT x &&& 7 = 0 then 0 else 1) else 0
def arrOK (x : Int32) : Int32 := if arS x = arT x then 0 else if arU x = 0 then (if arV x = 0 then 1 else 0) else 0
def arrP (x : Int32) : Ps := placeP (placeP wipeP (arS x) (if arK x = 0 then 1 else 2)) (arT x) (if arL x = 0 then 3 else 4)

set_option maxHeartbeats 4000000 in
set_option maxRecDepth 100000 in
theorem c_ntz (l : Launch) (D : va_G) (dA : Nat → ClassId) {L : List Nat} {M : mm_M} (x : Int32)  : mm_Cp l D dA yJ6_numberOfTrailingZeros_0f7a4 wsJ6_numberOfTrailingZeros_0f7a4 0 [.int x] L M (ntzF x) := by
  refine mm_enter_i (cc := cJ6_numberOfTrailingZeros_0f7a4) (maxL := 2) (by decide) rfl (Nat.le_of_ble_eq_true rfl) ?_
  intro p e R s m args below meth c A ls H locs Q hR hx hb hml hin hown hts hK hV hl hret
  have hl : lv_has ls 2 [(0, .int x)] := hl
  have hown : s.vm.findClass RJ6 = some m.cls := hown
  refine lv_iload_n hx hb dJ6_numberOfTrailingZeros_0f7a4_0 rfl (lv_at hl 0 rfl) ?_
  refine lv_iconst (v := (-1)) hx hb dJ6_numberOfTrailingZeros_0f7a4_1 (by decide) ?_
  refine lv_ixor hx hb dJ6_numberOfTrailingZeros_0f7a4_2 ?_
  refine lv_iload_n hx hb dJ6_numberOfTrailingZeros_0f7a4_3 rfl (lv_at hl 0 rfl) ?_
  refine lv_iconst (v := 1) hx hb dJ6_numberOfTrailingZeros_0f7a4_4 (by decide) ?_
  refine lv_isub hx hb dJ6_numberOfTrailingZeros_0f7a4_5 ?_
  refine lv_iand hx hb dJ6_numberOfTrailingZeros_0f7a4_6 ?_
  refine lv_topi (fun x0_1 ex0_1 => ?_)
  refine lv_istore_n (lv' := [(0, .int x0_1)]) hx hb dJ6_numberOfTrailingZeros_0f7a4_7 rfl hl (by decide) rfl (fun ls hl => ?_)
  refine lv_iload_n hx hb dJ6_numberOfTrailingZeros_0f7a4_8 rfl (lv_at hl 0 rfl) ?_
  refine lv_if_gt (tgt := 17) hx hb dJ6_numberOfTrailingZeros_0f7a4_9 (by decide) (fun c9 => ?_) (fun c9 => ?_)
  · refine lv_iconst (v := 1) hx hb dJ6_numberOfTrailingZeros_0f7a4_17 (by decide) ?_
    refine lv_topi (fun x1_2 ex1_2 => ?_)
    refine lv_istore_n (lv' := [(1, .int x1_2), (0, .int x0_1)]) hx hb dJ6_numberOfTrailingZeros_0f7a4_18 rfl hl (by decide) rfl (fun ls hl => ?_)
    refine lv_iload_n hx hb dJ6_numberOfTrailingZeros_0f7a4_19 rfl (lv_at hl 1 rfl) ?_
    refine lv_ldcw hx hb hown (hts (.constant RJ6 264 (65536)) (by decide +kernel)) dJ6_numberOfTrailingZeros_0f7a4_20 ?_
    have J34 : ∀ (x0_5 : Int32) (x1_6 : Int32) (ls : Array Slot), x0_5 = (if x0_1 ≤ 65536 then x0_1 else ((x0_1.toUInt32 >>> (Int32.toUInt32 16 &&& Int32.toUInt32 31)).toInt32)) → x1_6 = (if x0_1 ≤ 65536 then x1_2 else (x1_2 + 16)) → lv_has ls 2 [(0, .int x0_5), (1, .int x1_6)] → W p l e R s m args below meth c H locs 0 0 Q (F0 m 34 ls []) := by
      intro x0_5 x1_6 ls ex0_5 ex1_6 hl
      refine lv_iload_n hx hb dJ6_numberOfTrailingZeros_0f7a4_34 rfl (lv_at hl 0 rfl) ?_
      refine lv_sipush (v := 256) hx hb dJ6_numberOfTrailingZeros_0f7a4_35 (by decide) ?_
      have J49 : ∀ (x0_9 : Int32) (x1_10 : Int32) (ls : Array Slot), x0_9 = (if x0_5 ≤ 256 then x0_5 else ((x0_5.toUInt32 >>> (Int32.toUInt32 8 &&& Int32.toUInt32 31)).toInt32)) → x1_10 = (if x0_5 ≤ 256 then x1_6 else (x1_6 + 8)) → lv_has ls 2 [(0, .int x0_9), (1, .int x1_10)] → W p l e R s m args below meth c H locs 0 0 Q (F0 m 49 ls []) := by
        intro x0_9 x1_10 ls ex0_9 ex1_10 hl
        refine lv_iload_n hx hb dJ6_numberOfTrailingZeros_0f7a4_49 rfl (lv_at hl 0 rfl) ?_
        refine lv_bipush (v := 16) hx hb dJ6_numberOfTrailingZeros_0f7a4_50 (by decide) ?_
        have J62 : ∀ (x0_13 : Int32) (x1_14 : Int32) (ls : Array Slot), x0_13 = (if x0_9 ≤ 16 then x0_9 else ((x0_9.toUInt32 >>> (Int32.toUInt32 4 &&& Int32.toUInt32 31)).toInt32)) → x1_14 = (if x0_9 ≤ 16 then x1_10 else (x1_10 + 4)) → lv_has ls 2 [(0, .int x0_13), (1, .int x1_14)] → W p l e R s m args below meth c H locs 0 0 Q (F0 m 62 ls []) := by
          intro x0_13 x1_14 ls ex0_13 ex1_14 hl
          refine lv_iload_n hx hb dJ6_numberOfTrailingZeros_0f7a4_62 rfl (lv_at hl 0 rfl) ?_
          refine lv_iconst (v := 4) hx hb dJ6_numberOfTrailingZeros_0f7a4_63 (by decide) ?_
          have J74 : ∀ (x0_17 : Int32) (x1_18 : Int32) (ls : Array Slot), x0_17 = (if x0_13 ≤ 4 then x0_13 else ((x0_13.toUInt32 >>> (Int32.toUInt32 2 &&& Int32.toUInt32 31)).toInt32)) → x1_18 = (if x0_13 ≤ 4 then x1_14 else (x1_14 + 2)) → lv_has ls 2 [(0, .int x0_17), (1, .int x1_18)] → W p l e R s m args below meth c H locs 0 0 Q (F0 m 74 ls []) := by
            intro x0_17 x1_18 ls ex0_17 ex1_18 hl
            refine lv_iload_n hx hb dJ6_numberOfTrailingZeros_0f7a4_74 rfl (lv_at hl 1 rfl) ?_
            refine lv_iload_n hx hb dJ6_numberOfTrailingZeros_0f7a4_75 rfl (lv_at hl 0 rfl) ?_
            refine lv_iconst (v := 1) hx hb dJ6_numberOfTrailingZeros_0f7a4_76 (by decide) ?_
            refine lv_iushr hx hb dJ6_numberOfTrailingZeros_0f7a4_77 rfl ?_
            refine lv_iadd hx hb dJ6_numberOfTrailingZeros_0f7a4_78 ?_
            exact hret (v := (x1_18 + (x0_17.toUInt32 >>> (Int32.toUInt32 1 &&& Int32.toUInt32 31)).toInt32)) dJ6_numberOfTrailingZeros_0f7a4_79 hV (by decide) (by decide) ⟨by subst_vars; unfold ntzF; simp only [c9, ↓reduceIte]; try rfl, rfl, rfl⟩
          refine lv_icmp_le (tgt := 74) hx hb dJ6_numberOfTrailingZeros_0f7a4_64 (by decide) (fun c64 => ?_) (fun c64 => ?_)
          · exact J74 _ _ ls (by rw [if_pos c64]) (by rw [if_pos c64]) (lv_sub hl [0, 1] rfl)
          · obtain ⟨x1_15, ex1_15⟩ : ∃ y : Int32, y = x1_14 + 2 := ⟨_, rfl⟩
            refine lv_iinc (v := x1_15) (lv' := [(1, .int x1_15), (0, .int x0_13)]) hx hb dJ6_numberOfTrailingZeros_0f7a4_67 hl (k := 1) rfl (by rw [ex1_15]; rfl) (by decide) rfl (fun ls hl => ?_)
            refine lv_iload_n hx hb dJ6_numberOfTrailingZeros_0f7a4_70 rfl (lv_at hl 1 rfl) ?_
            refine lv_iconst (v := 2) hx hb dJ6_numberOfTrailingZeros_0f7a4_71 (by decide) ?_
            refine lv_iushr hx hb dJ6_numberOfTrailingZeros_0f7a4_72 rfl ?_
            refine lv_topi (fun x0_16 ex0_16 => ?_)
            refine lv_istore_n (lv' := [(0, .int x0_16), (1, .int x1_15)]) hx hb dJ6_numberOfTrailingZeros_0f7a4_73 rfl hl (by decide) rfl (fun ls hl => ?_)
            exact J74 _ _ ls (by rw [if_neg c64, ex0_16]) (by rw [if_neg c64, ex1_15]) (lv_sub hl [0, 1] rfl)
        refine lv_icmp_le (tgt := 62) hx hb dJ6_numberOfTrailingZeros_0f7a4_52 (by decide) (fun c52 => ?_) (fun c52 => ?_)
        · exact J62 _ _ ls (by rw [if_pos c52]) (by rw [if_pos c52]) (lv_sub hl [0, 1] rfl)
        · obtain ⟨x1_11, ex1_11⟩ : ∃ y : Int32, y = x1_10 + 4 := ⟨_, rfl⟩
          refine lv_iinc (v := x1_11) (lv' := [(1, .int x1_11), (0, .int x0_9)]) hx hb dJ6_numberOfTrailingZeros_0f7a4_55 hl (k := 1) rfl (by rw [ex1_11]; rfl) (by decide) rfl (fun ls hl => ?_)
          refine lv_iload_n hx hb dJ6_numberOfTrailingZeros_0f7a4_58 rfl (lv_at hl 1 rfl) ?_
          refine lv_iconst (v := 4) hx hb dJ6_numberOfTrailingZeros_0f7a4_59 (by decide) ?_
          refine lv_iushr hx hb dJ6_numberOfTrailingZeros_0f7a4_60 rfl ?_
          refine lv_topi (fun x0_12 ex0_12 => ?_)
          refine lv_istore_n (lv' := [(0, .int x0_12), (1, .int x1_11)]) hx hb dJ6_numberOfTrailingZeros_0f7a4_61 rfl hl (by decide) rfl (fun ls hl => ?_)
          exact J62 _ _ ls (by rw [if_neg c52, ex0_12]) (by rw [if_neg c52, ex1_11]) (lv_sub hl [0, 1] rfl)
      refine lv_icmp_le (tgt := 49) hx hb dJ6_numberOfTrailingZeros_0f7a4_38 (by decide) (fun c38 => ?_) (fun c38 => ?_)
      · exact J49 _ _ ls (by rw [if_pos c38]) (by rw [if_pos c38]) (lv_sub hl [0, 1] rfl)
      · obtain ⟨x1_7, ex1_7⟩ : ∃ y : Int32, y = x1_6 + 8 := ⟨_, rfl⟩
        refine lv_iinc (v := x1_7) (lv' := [(1, .int x1_7), (0, .int x0_5)]) hx hb dJ6_numberOfTrailingZeros_0f7a4_41 hl (k := 1) rfl (by rw [ex1_7]; rfl) (by decide) rfl (fun ls hl => ?_)
        refine lv_iload_n hx hb dJ6_numberOfTrailingZeros_0f7a4_44 rfl (lv_at hl 1 rfl) ?_
        refine lv_bipush (v := 8) hx hb dJ6_numberOfTrailingZeros_0f7a4_45 (by decide) ?_
        refine lv_iushr hx hb dJ6_numberOfTrailingZeros_0f7a4_47 rfl ?_
        refine lv_topi (fun x0_8 ex0_8 => ?_)
        refine lv_istore_n (lv' := [(0, .int x0_8), (1, .int x1_7)]) hx hb dJ6_numberOfTrailingZeros_0f7a4_48 rfl hl (by decide) rfl (fun ls hl => ?_)
        exact J49 _ _ ls (by rw [if_neg c38, ex0_8]) (by rw [if_neg c38, ex1_7]) (lv_sub hl [0, 1] rfl)
    refine lv_icmp_le (tgt := 34) hx hb dJ6_numberOfTrailingZeros_0f7a4_23 (by decide) (fun c23 => ?_) (fun c23 => ?_)
    · exact J34 _ _ ls (by rw [if_pos c23]) (by rw [if_pos c23]) (lv_sub hl [1, 0] rfl)
    · obtain ⟨x1_3, ex1_3⟩ : ∃ y : Int32, y = x1_2 + 16 := ⟨_, rfl⟩
      refine lv_iinc (v := x1_3) (lv' := [(1, .int x1_3), (0, .int x0_1)]) hx hb dJ6_numberOfTrailingZeros_0f7a4_26 hl (k := 0) rfl (by rw [ex1_3]; rfl) (by decide) rfl (fun ls hl => ?_)
      refine lv_iload_n hx hb dJ6_numberOfTrailingZeros_0f7a4_29 rfl (lv_at hl 1 rfl) ?_
      refine lv_bipush (v := 16) hx hb dJ6_numberOfTrailingZeros_0f7a4_30 (by decide) ?_
      refine lv_iushr hx hb dJ6_numberOfTrailingZeros_0f7a4_32 rfl ?_
      refine lv_topi (fun x0_4 ex0_4 => ?_)
      refine lv_istore_n (lv' := [(0, .int x0_4), (1, .int x1_3)]) hx hb dJ6_numberOfTrailingZeros_0f7a4_33 rfl hl (by decide) rfl (fun ls hl => ?_)
      exact J34 _ _ ls (by rw [if_neg c23, ex0_4]) (by rw [if_neg c23, ex1_3]) (lv_sub hl [0, 1] rfl)
  · refine lv_iload_n hx hb dJ6_numberOfTrailingZeros_0f7a4_12 rfl (lv_at hl 0 rfl) ?_
    refine lv_bipush (v := 32) hx hb dJ6_numberOfTrailingZeros_0f7a4_13 (by decide) ?_
    refine lv_iand hx hb dJ6_numberOfTrailingZeros_0f7a4_15 ?_
    exact hret (v := (x0_1 &&& 32)) dJ6_numberOfTrailingZeros_0f7a4_16 hV (by decide) (by decide) ⟨by subst_vars; unfold ntzF; simp only [c9, ↓reduceIte]; try rfl, rfl, rfl⟩

set_option maxHeartbeats 4000000 in
set_option maxRecDepth 100000 in
theorem c_kind (l : Launch) (D : va_G) (dA : Nat → ClassId) {L : List Nat} {M : mm_M} {a : Nat} {P : Ps} (bit : Int32) (i_a : a ∈ L) (m_a : M a = oP P) : mm_Cp l D dA yX0_kind wsX0_kind 1 [.ref a, .int bit] L M (kindF P bit) := by
  have m_a : M a = .inr (2, [.int P.1, .int P.2.1, .int P.2.2.1, .int P.2.2.2.1, .int P.2.2.2.2]) := m_a
  refine mm_enter_i (cc := cX0_kind) (maxL := 4) (by decide) rfl (Nat.le_of_ble_eq_true rfl) ?_
  intro p e R s m args below meth c A ls H locs Q hR hx hb hml hin hown hts hK hV hl hret
  have hl : lv_has ls 4 [(0, .ref a), (1, .int bit)] := hl
  have hown : s.vm.findClass RX0 = some m.cls := hown
  have f_74 := hts (.fieldLink RX0 74 "JumpBoard$Position" "mover" "I") (by decide +kernel)
  have in_X2 : ∀ w ∈ wsX20, w ∈ wsX0_kind := by decide +kernel
  refine lv_iload_n hx hb dX0_kind_0 rfl (lv_at hl 1 rfl) ?_
  refine mm_Sp (v := (ntzF bit)) (As := [.int bit]) (rest := []) ⟨hx, hb, hml, hown, hts⟩ hK hV (c_ntz l D dA bit) (va_cwS 1 hts gX0_kind_J6_numberOfTrailingZeros_0f7a4 rfl rfl rfl (by decide +kernel) (mm_levR hR (by omega) (by decide))) rfl hl.1 rfl (Nat.le_of_ble_eq_true rfl) dX0_kind_1 ⟨Nat.zero_le _, Nat.zero_le _⟩ (fun H locs hV => ?_)
  refine lv_bipush (v := 18) hx hb dX0_kind_4 (by decide) ?_
  refine lv_irem hx hb dX0_kind_6 (by decide) ?_
  refine lv_topi (fun x2_1 ex2_1 => ?_)
  refine lv_istore_n (lv' := [(2, .int x2_1), (0, .ref a), (1, .int bit)]) hx hb dX0_kind_7 rfl hl (by decide) rfl (fun ls hl => ?_)
  refine lv_aload_n hx hb dX0_kind_8 rfl (lv_at hl 1 rfl) ?_
  refine mm_get (ci := 2) (C := RX2) (T := TX2) (N := 5) hx hb hts in_X2 hown hK hV i_a m_a rfl 3 (by decide) f_74 (fun _ h => h) rfl dX0_kind_9 ?_
  have J23 : ∀ (v23_2 : Int32), v23_2 = (if P.2.2.2.1 = 0 then x2_1 else (17 - x2_1)) → W p l e R s m args below meth c H locs 0 0 Q (F0 m 23 ls [.int v23_2]) := by
    intro v23_2 ev23_2
    refine lv_istore_n (lv' := [(3, .int v23_2), (2, .int x2_1), (0, .ref a), (1, .int bit)]) hx hb dX0_kind_23 rfl hl (by decide) rfl (fun ls hl => ?_)
    refine lv_aload_n hx hb dX0_kind_24 rfl (lv_at hl 2 rfl) ?_
    refine lv_iload_n hx hb dX0_kind_25 rfl (lv_at hl 1 rfl) ?_
    refine mm_Vp (v := (kingP P x2_1)) (ci := 2) (As := [.int x2_1]) (rest := []) ⟨hx, hb, hml, hown, hts⟩ hK hV (c_isKing l D dA (P := P) x2_1 i_a m_a) (cwV 1 hts gX0_kind_X2_isKing rfl rfl rfl (by decide +kernel) (mm_levR hR (by omega) (by decide))) i_a m_a rfl rfl hl.1 rfl (Nat.le_of_ble_eq_true rfl) dX0_kind_26 ⟨Nat.zero_le _, Nat.zero_le _⟩ (fun H locs hV => ?_)
    have J40 : ∀ (v40_3 : Int32), v40_3 = (if kingP P x2_1 = 0 then v23_2 else (18 + v23_2)) → W p l e R s m args below meth c H locs 0 0 Q (F0 m 40 ls [.int v40_3]) := by
      intro v40_3 ev40_3
      exact hret (v := v40_3) dX0_kind_40 hV (by decide) (by decide) ⟨by subst_vars; rfl, rfl, rfl⟩
    refine lv_if_eq (tgt := 39) hx hb dX0_kind_29 (by decide) (fun c29 => ?_) (fun c29 => ?_)
    · refine lv_iload_n hx hb dX0_kind_39 rfl (lv_at hl 0 rfl) ?_
      exact J40 _ (by rw [if_pos c29])
    · refine lv_bipush (v := 18) hx hb dX0_kind_32 (by decide) ?_
      refine lv_iload_n hx hb dX0_kind_34 rfl (lv_at hl 0 rfl) ?_
      refine lv_iadd hx hb dX0_kind_35 ?_
      refine lv_goto (tgt := 40) hx hb dX0_kind_36 (by decide) ?_
      exact J40 _ (by rw [if_neg c29])
  refine lv_if_ne (tgt := 19) hx hb dX0_kind_12 (by decide) (fun c12 => ?_) (fun c12 => ?_)
  · refine lv_bipush (v := 17) hx hb dX0_kind_19 (by decide) ?_
    refine lv_iload_n hx hb dX0_kind_21 rfl (lv_at hl 0 rfl) ?_
    refine lv_isub hx hb dX0_kind_22 ?_
    exact J23 _ (by rw [if_neg c12])
  · refine lv_iload_n hx hb dX0_kind_15 rfl (lv_at hl 0 rfl) ?_
    refine lv_goto (tgt := 23) hx hb dX0_kind_16 (by decide) ?_
    exact J23 _ (by rw [if_pos c12])

set_option maxHeartbeats 4000000 in
set_option maxRecDepth 100000 in
theorem c_number (l : Launch) (D : va_G) (dA : Nat → ClassId) {L : List Nat} {M : mm_M} {a : Nat} {P : Ps} (i_a : a ∈ L) (m_a : M a = oP P) : mm_Cp l D dA yX0_number wsX0_number 2 [.ref a] L M (numF P) := by
  have m_a : M a = .inr (2, [.int P.1, .int P.2.1, .int P.2.2.1, .int P.2.2.2.1, .int P.2.2.2.2]) := m_a
  refine mm_enter_i (cc := cX0_number) (maxL := 1) (by decide) rfl (Nat.le_of_ble_eq_true rfl) ?_
  intro p e R s m args below meth c A ls H locs Q hR hx hb hml hin hown hts hK hV hl hret
  have hl : lv_has ls 1 [(0, .ref a)] := hl
  have hown : s.vm.findClass RX0 = some m.cls := hown
  refine lv_aload_n hx hb dX0_number_0 rfl (lv_at hl 0 rfl) ?_
  refine mm_Vp (v := (ownP P)) (ci := 2) (As := []) (rest := []) ⟨hx, hb, hml, hown, hts⟩ hK hV (c_own l D dA (P := P)  i_a m_a) (cwV 0 hts gX0_number_X2_own rfl rfl rfl (by decide +kernel) (mm_levR hR (by omega) (by decide))) i_a m_a rfl rfl hl.1 rfl (Nat.le_of_ble_eq_true rfl) dX0_number_1 ⟨Nat.zero_le _, Nat.zero_le _⟩ (fun H locs hV => ?_)
  refine lv_if_ne (tgt := 11) hx hb dX0_number_4 (by decide) (fun c4 => ?_) (fun c4 => ?_)
  · refine lv_aload_n hx hb dX0_number_11 rfl (lv_at hl 0 rfl) ?_
    refine lv_aload_n hx hb dX0_number_12 rfl (lv_at hl 0 rfl) ?_
    refine mm_Vp (v := (ownP P)) (ci := 2) (As := []) (rest := [.ref a]) ⟨hx, hb, hml, hown, hts⟩ hK hV (c_own l D dA (P := P)  i_a m_a) (cwV 0 hts gX0_number_X2_own rfl rfl rfl (by decide +kernel) (mm_levR hR (by omega) (by decide))) i_a m_a rfl rfl hl.1 rfl (Nat.le_of_ble_eq_true rfl) dX0_number_13 ⟨Nat.zero_le _, Nat.zero_le _⟩ (fun H locs hV => ?_)
    refine mm_Sp (v := (kindF P (ownP P))) (As := [.ref a, .int (ownP P)]) (rest := []) ⟨hx, hb, hml, hown, hts⟩ hK hV (c_kind l D dA (P := P) (ownP P) i_a m_a) (va_cwS 2 hts gX0_number_X0_kind rfl rfl rfl (by decide +kernel) (mm_levR hR (by omega) (by decide))) rfl hl.1 rfl (Nat.le_of_ble_eq_true rfl) dX0_number_16 ⟨Nat.zero_le _, Nat.zero_le _⟩ (fun H locs hV => ?_)
    refine lv_bipush (v := 36) hx hb dX0_number_19 (by decide) ?_
    refine lv_imul hx hb dX0_number_21 ?_
    refine lv_aload_n hx hb dX0_number_22 rfl (lv_at hl 0 rfl) ?_
    refine lv_aload_n hx hb dX0_number_23 rfl (lv_at hl 0 rfl) ?_
    refine mm_Vp (v := (othP P)) (ci := 2) (As := []) (rest := [.ref a, .int (kindF P (ownP P) * 36)]) ⟨hx, hb, hml, hown, hts⟩ hK hV (c_others l D dA (P := P)  i_a m_a) (cwV 0 hts gX0_number_X2_others rfl rfl rfl (by decide +kernel) (mm_levR hR (by omega) (by decide))) i_a m_a rfl rfl hl.1 rfl (Nat.le_of_ble_eq_true rfl) dX0_number_24 ⟨Nat.zero_le _, Nat.zero_le _⟩ (fun H locs hV => ?_)
    refine mm_Sp (v := (kindF P (othP P))) (As := [.ref a, .int (othP P)]) (rest := [.int (kindF P (ownP P) * 36)]) ⟨hx, hb, hml, hown, hts⟩ hK hV (c_kind l D dA (P := P) (othP P) i_a m_a) (va_cwS 2 hts gX0_number_X0_kind rfl rfl rfl (by decide +kernel) (mm_levR hR (by omega) (by decide))) rfl hl.1 rfl (Nat.le_of_ble_eq_true rfl) dX0_number_27 ⟨Nat.zero_le _, Nat.zero_le _⟩ (fun H locs hV => ?_)
    refine lv_iadd hx hb dX0_number_30 ?_
    exact hret (v := ((kindF P (ownP P) * 36) + kindF P (othP P))) dX0_number_31 hV (by decide) (by decide) ⟨by unfold numF; simp only [c4, ↓reduceIte], rfl, rfl⟩
  · refine lv_sipush (v := 1296) hx hb dX0_number_7 (by decide) ?_
    exact hret (v := 1296) dX0_number_10 hV (by decide) (by decide) ⟨by unfold numF; simp only [c4, ↓reduceIte], rfl, rfl⟩

set_option maxHeartbeats 4000000 in
set_option maxRecDepth 100000 in
theorem c_arrange (l : Launch) (D : va_G) (dA : Nat → ClassId) {L : List Nat} {M : mm_M} {a : Nat} {P : Ps} (x : Int32) (i_a : a ∈ L) (m_a : M a = oP P) : mm_Cn l D dA yX0_arrange wsX0_arrange 1 [.ref a, .int x] L M (fun r M1 => r = arrOK x ∧ M1 = if arrOK x = 0 then M else va_up M a (oP (arrP x))) := by
  have m_a : M a = .inr (2, [.int P.1, .int P.2.1, .int P.2.2.1, .int P.2.2.2.1, .int P.2.2.2.2]) := m_a
  refine mm_enter_z (cc := cX0_arrange) (maxL := 10) (by decide) rfl (Nat.le_of_ble_eq_true rfl) ?_
  intro p e R s m args below meth c A ls H locs Q hR hx hb hml hin hown hts hK hV hl hret
  have hl : lv_has ls 10 [(0, .ref a), (1, .int x)] := hl
  have hown : s.vm.findClass RX0 = some m.cls := hown
  refine lv_iload_n hx hb dX0_arrange_0 rfl (lv_at hl 1 rfl) ?_
  refine lv_bipush (v := 36) hx hb dX0_arrange_1 (by decide) ?_
  refine lv_idiv hx hb dX0_arrange_3 (by decide) ?_
  refine lv_topi (fun x2 ex2 => ?_)
  refine lv_istore_n (lv' := [(2, .int x2), (0, .ref a), (1, .int x)]) hx hb dX0_arrange_4 rfl hl (by decide) rfl (fun ls hl => ?_)
  refine lv_iload_n hx hb dX0_arrange_5 rfl (lv_at hl 2 rfl) ?_
  refine lv_bipush (v := 36) hx hb dX0_arrange_6 (by decide) ?_
  refine lv_irem hx hb dX0_arrange_8 (by decide) ?_
  refine lv_topi (fun x3 ex3 => ?_)
  refine lv_istore_n (lv' := [(3, .int x3), (2, .int x2), (0, .ref a), (1, .int x)]) hx hb dX0_arrange_9 rfl hl (by decide) rfl (fun ls hl => ?_)
  refine lv_iconst (v := 1) hx hb dX0_arrange_10 (by decide) ?_
  refine lv_iload_n hx hb dX0_arrange_11 rfl (lv_at hl 1 rfl) ?_
  refine lv_bipush (v := 18) hx hb dX0_arrange_12 (by decide) ?_
  refine lv_irem hx hb dX0_arrange_14 (by decide) ?_
  refine lv_ishl hx hb dX0_arrange_15 ?_
  refine lv_topi (fun x4 ex4 => ?_)
  refine lv_istore (lv' := [(4, .int x4), (3, .int x3), (2, .int x2), (0, .ref a), (1, .int x)]) hx hb dX0_arrange_16 hl (by decide) rfl (fun ls hl => ?_)
  have h4 : x4 = arS x := by rw [ex4, ex2]; rfl
  refine lv_iconst (v := 1) hx hb dX0_arrange_18 (by decide) ?_
  refine lv_iload_n hx hb dX0_arrange_19 rfl (lv_at hl 1 rfl) ?_
  refine lv_bipush (v := 18) hx hb dX0_arrange_20 (by decide) ?_
  refine lv_irem hx hb dX0_arrange_22 (by decide) ?_
  refine lv_ishl hx hb dX0_arrange_23 ?_
  refine lv_topi (fun x5 ex5 => ?_)
  refine lv_istore (lv' := [(5, .int x5), (4, .int x4), (3, .int x3), (2, .int x2), (0, .ref a), (1, .int x)]) hx hb dX0_arrange_24 hl (by decide) rfl (fun ls hl => ?_)
  have h5 : x5 = arT x := by rw [ex5, ex3]; rfl
  refine lv_iload_n hx hb dX0_arrange_26 rfl (lv_at hl 3 rfl) ?_
  refine lv_bipush (v := 18) hx hb dX0_arrange_27 (by decide) ?_
  have J37 : ∀ (v37 : Int32), v37 = (if x2 < 18 then 0 else 1) → W p l e R s m args below meth c H locs 0 0 Q (F0 m 37 ls [.int v37]) := by
    intro v37 ev37
    refine lv_istore (lv' := [(6, .int v37), (5, .int x5), (4, .int x4), (3, .int x3), (2, .int x2), (0, .ref a), (1, .int x)]) hx hb dX0_arrange_37 hl (by decide) rfl (fun ls hl => ?_)
    have h37 : v37 = arK x := by rw [ev37, ex2]; rfl
    refine lv_iload_n hx hb dX0_arrange_39 rfl (lv_at hl 3 rfl) ?_
    refine lv_bipush (v := 18) hx hb dX0_arrange_40 (by decide) ?_
    have J50 : ∀ (v50 : Int32), v50 = (if x3 < 18 then 0 else 1) → W p l e R s m args below meth c H locs 0 0 Q (F0 m 50 ls [.int v50]) := by
      intro v50 ev50
      refine lv_istore (lv' := [(7, .int v50), (6, .int v37), (5, .int x5), (4, .int x4), (3, .int x3), (2, .int x2), (0, .ref a), (1, .int x)]) hx hb dX0_arrange_50 hl (by decide) rfl (fun ls hl => ?_)
      have h50 : v50 = arL x := by rw [ev50, ex3]; rfl
      refine lv_iload hx hb dX0_arrange_52 (lv_at hl 1 rfl) ?_
      have J70 : ∀ (v70 : Int32), v70 = (if v37 = 0 then (if (x4 &&& 229376) = 0 then 0 else 1) else 0) → W p l e R s m args below meth c H locs 0 0 Q (F0 m 70 ls [.int v70]) := by
        intro v70 ev70
        refine lv_istore (lv' := [(8, .int v70), (7, .int v50), (6, .int v37), (5, .int x5), (4, .int x4), (3, .int x3), (2, .int x2), (0, .ref a), (1, .int x)]) hx hb dX0_arrange_70 hl (by decide) rfl (fun ls hl => ?_)
        have h70 : v70 = arU x := by rw [ev70, h37, h4]; rfl
        refine lv_iload hx hb dX0_arrange_72 (lv_at hl 1 rfl) ?_
        have J90 : ∀ (v90 : Int32), v90 = (if v50 = 0 then (if (x5 &&& 7) = 0 then 0 else 1) else 0) → W p l e R s m args below meth c H locs 0 0 Q (F0 m 90 ls [.int v90]) := by
          intro v90 ev90
          refine lv_istore (lv' := [(9, .int v90), (8, .int v70), (7, .int v50), (6, .int v37), (5, .int x5), (4, .int x4), (3, .int x3), (2, .int x2), (0, .ref a), (1, .int x)]) hx hb dX0_arrange_90 hl (by decide) rfl (fun ls hl => ?_)
          have h90 : v90 = arV x := by rw [ev90, h50, h5]; rfl
          refine lv_iload hx hb dX0_arrange_92 (lv_at hl 5 rfl) ?_
          refine lv_iload hx hb dX0_arrange_94 (lv_at hl 4 rfl) ?_
          refine lv_icmp_eq (tgt := 109) hx hb dX0_arrange_96 (by decide) (fun c96 => ?_) (fun c96 => ?_)
          · have hok0 : arrOK x = 0 := by unfold arrOK; rw [if_pos (by rw [← h4, ← h5]; exact c96)]
            refine lv_iconst (v := 0) hx hb dX0_arrange_109 (by decide) ?_
            exact hret (v := 0) dX0_arrange_110 hV (by decide) (by decide) (by subst_vars; (repeat' split) <;> first | exact Or.inl rfl | exact Or.inr rfl) ⟨rfl, hok0.symm, by rw [if_pos hok0]⟩
          · refine lv_iload hx hb dX0_arrange_99 (lv_at hl 1 rfl) ?_
            refine lv_if_ne (tgt := 109) hx hb dX0_arrange_101 (by decide) (fun c101 => ?_) (fun c101 => ?_)
            · have hok0 : arrOK x = 0 := by unfold arrOK; rw [if_neg (by rw [← h4, ← h5]; exact c96), if_neg (by rw [← h70]; exact c101)]
              refine lv_iconst (v := 0) hx hb dX0_arrange_109 (by decide) ?_
              exact hret (v := 0) dX0_arrange_110 hV (by decide) (by decide) (by subst_vars; (repeat' split) <;> first | exact Or.inl rfl | exact Or.inr rfl) ⟨rfl, hok0.symm, by rw [if_pos hok0]⟩
            · refine lv_iload hx hb dX0_arrange_104 (lv_at hl 0 rfl) ?_
              refine lv_if_eq (tgt := 111) hx hb dX0_arrange_106 (by decide) (fun c106 => ?_) (fun c106 => ?_)
              · have hok : arrOK x = 1 := by unfold arrOK; rw [if_neg (by rw [← h4, ← h5]; exact c96), if_pos (by rw [← h70]; exact c101), if_pos (by rw [← h90]; exact c106)]
                refine lv_aload_n hx hb dX0_arrange_111 rfl (lv_at hl 8 rfl) ?_
                refine mm_Vm (ci := 2) (As := []) (rest := []) ⟨hx, hb, hml, hown, hts⟩ hK hV (c_wipe l D dA (P := P) i_a m_a) (cwV 0 hts gX0_arrange_X2_wipe rfl rfl rfl (by decide +kernel) (mm_levR hR (by omega) (by decide))) i_a m_a rfl rfl hl.1 rfl (Nat.le_of_ble_eq_true rfl) dX0_arrange_112 ⟨Nat.zero_le _, Nat.zero_le _⟩ (fun M_1 H locs eM_1 hV => ?_)
                have m_a : M_1 a = .inr (2, [.int wipeP.1, .int wipeP.2.1, .int wipeP.2.2.1, .int wipeP.2.2.2.1, .int wipeP.2.2.2.2]) := by rw [eM_1]; exact va_up_self _ _ _
                have fr : ∀ q : Nat, q ≠ a → M_1 q = M q := fun q h0 => (congrFun eM_1 q).trans ((va_up_ne _ _ h0).trans rfl)
                refine lv_aload_n hx hb dX0_arrange_115 rfl (lv_at hl 8 rfl) ?_
                refine lv_iload hx hb dX0_arrange_116 (lv_at hl 5 rfl) ?_
                refine lv_iload hx hb dX0_arrange_118 (lv_at hl 3 rfl) ?_
                have J128 : ∀ (v128 : Int32), v128 = (if v37 = 0 then 1 else 2) → W p l e R s m args below meth c H locs 0 0 Q (F0 m 128 ls [.int v128, .int x4, .ref a]) := by
                  intro v128 ev128
                  refine mm_Vm (ci := 2) (As := [.int x4, .int v128]) (rest := []) ⟨hx, hb, hml, hown, hts⟩ hK hV (c_place l D dA (P := wipeP) x4 v128 i_a m_a) (cwV 2 hts gX0_arrange_X2_place rfl rfl rfl (by decide +kernel) (mm_levR hR (by omega) (by decide))) i_a m_a rfl rfl hl.1 rfl (Nat.le_of_ble_eq_true rfl) dX0_arrange_128 ⟨Nat.zero_le _, Nat.zero_le _⟩ (fun M_2 H locs eM_2 hV => ?_)
                  have m_a : M_2 a = .inr (2, [.int ((placeP wipeP x4 v128).1), .int ((placeP wipeP x4 v128).2.1), .int ((placeP wipeP x4 v128).2.2.1), .int ((placeP wipeP x4 v128).2.2.2.1), .int ((placeP wipeP x4 v128).2.2.2.2)]) := by rw [eM_2]; exact va_up_self _ _ _
                  have fr : ∀ q : Nat, q ≠ a → M_2 q = M q := fun q h0 => (congrFun eM_2 q).trans ((va_up_ne _ _ h0).trans (fr q h0))
                  refine lv_aload_n hx hb dX0_arrange_131 rfl (lv_at hl 8 rfl) ?_
                  refine lv_iload hx hb dX0_arrange_132 (lv_at hl 4 rfl) ?_
                  refine lv_iload hx hb dX0_arrange_134 (lv_at hl 2 rfl) ?_
                  have J144 : ∀ (v144 : Int32), v144 = (if v50 = 0 then 3 else 4) → W p l e R s m args below meth c H locs 0 0 Q (F0 m 144 ls [.int v144, .int x5, .ref a]) := by
                    intro v144 ev144
                    refine mm_Vm (ci := 2) (As := [.int x5, .int v144]) (rest := []) ⟨hx, hb, hml, hown, hts⟩ hK hV (c_place l D dA (P := (placeP wipeP x4 v128)) x5 v144 i_a m_a) (cwV 2 hts gX0_arrange_X2_place rfl rfl rfl (by decide +kernel) (mm_levR hR (by omega) (by decide))) i_a m_a rfl rfl hl.1 rfl (Nat.le_of_ble_eq_true rfl) dX0_arrange_144 ⟨Nat.zero_le _, Nat.zero_le _⟩ (fun M_3 H locs eM_3 hV => ?_)
                    have m_a : M_3 a = .inr (2, [.int ((placeP (placeP wipeP x4 v128) x5 v144).1), .int ((placeP (placeP wipeP x4 v128) x5 v144).2.1), .int ((placeP (placeP wipeP x4 v128) x5 v144).2.2.1), .int ((placeP (placeP wipeP x4 v128) x5 v144).2.2.2.1), .int ((placeP (placeP wipeP x4 v128) x5 v144).2.2.2.2)]) := by rw [eM_3]; exact va_up_self _ _ _
                    have fr : ∀ q : Nat, q ≠ a → M_3 q = M q := fun q h0 => (congrFun eM_3 q).trans ((va_up_ne _ _ h0).trans (fr q h0))
                    refine lv_iconst (v := 1) hx hb dX0_arrange_147 (by decide) ?_
                    exact hret (v := 1) dX0_arrange_148 hV (by decide) (by decide) (by subst_vars; (repeat' split) <;> first | exact Or.inl rfl | exact Or.inr rfl) ⟨rfl, hok.symm, by rw [if_neg (by rw [hok]; decide)]; exact mm_fin1 (m_a.trans (by rw [ev144, ev128, h37, h50, h4, h5]; rfl)) fr⟩
                  refine lv_if_eq (tgt := 143) hx hb dX0_arrange_136 (by decide) (fun c136 => ?_) (fun c136 => ?_)
                  · refine lv_iconst (v := 3) hx hb dX0_arrange_143 (by decide) ?_
                    exact J144 _ (by rw [if_pos c136])
                  · refine lv_iconst (v := 4) hx hb dX0_arrange_139 (by decide) ?_
                    refine lv_goto (tgt := 144) hx hb dX0_arrange_140 (by decide) ?_
                    exact J144 _ (by rw [if_neg c136])
                refine lv_if_eq (tgt := 127) hx hb dX0_arrange_120 (by decide) (fun c120 => ?_) (fun c120 => ?_)
                · refine lv_iconst (v := 1) hx hb dX0_arrange_127 (by decide) ?_
                  exact J128 _ (by rw [if_pos c120])
                · refine lv_iconst (v := 2) hx hb dX0_arrange_123 (by decide) ?_
                  refine lv_goto (tgt := 128) hx hb dX0_arrange_124 (by decide) ?_
                  exact J128 _ (by rw [if_neg c120])
              · have hok0 : arrOK x = 0 := by unfold arrOK; rw [if_neg (by rw [← h4, ← h5]; exact c96), if_pos (by rw [← h70]; exact c101), if_neg (by rw [← h90]; exact c106)]
                refine lv_iconst (v := 0) hx hb dX0_arrange_109 (by decide) ?_
                exact hret (v := 0) dX0_arrange_110 hV (by decide) (by decide) (by subst_vars; (repeat' split) <;> first | exact Or.inl rfl | exact Or.inr rfl) ⟨rfl, hok0.symm, by rw [if_pos hok0]⟩
        refine lv_if_ne (tgt := 89) hx hb dX0_arrange_74 (by decide) (fun c74 => ?_) (fun c74 => ?_)
        · refine lv_iconst (v := 0) hx hb dX0_arrange_89 (by decide) ?_
          exact J90 _ (by rw [if_neg c74])
        · refine lv_iload hx hb dX0_arrange_77 (lv_at hl 3 rfl) ?_
          refine lv_bipush (v := 7) hx hb dX0_arrange_79 (by decide) ?_
          refine lv_iand hx hb dX0_arrange_81 ?_
          refine lv_if_eq (tgt := 89) hx hb dX0_arrange_82 (by decide) (fun c82 => ?_) (fun c82 => ?_)
          · refine lv_iconst (v := 0) hx hb dX0_arrange_89 (by decide) ?_
            exact J90 _ (by rw [if_pos c74, if_pos c82])
          · refine lv_iconst (v := 1) hx hb dX0_arrange_85 (by decide) ?_
            refine lv_goto (tgt := 90) hx hb dX0_arrange_86 (by decide) ?_
            exact J90 _ (by rw [if_pos c74, if_neg c82])
      refine lv_if_ne (tgt := 69) hx hb dX0_arrange_54 (by decide) (fun c54 => ?_) (fun c54 => ?_)
      · refine lv_iconst (v := 0) hx hb dX0_arrange_69 (by decide) ?_
        exact J70 _ (by rw [if_neg c54])
      · refine lv_iload hx hb dX0_arrange_57 (lv_at hl 3 rfl) ?_
        refine lv_ldc hx hb hown (hts (.constant RX0 49 (229376)) (by decide +kernel)) dX0_arrange_59 ?_
        refine lv_iand hx hb dX0_arrange_61 ?_
        refine lv_if_eq (tgt := 69) hx hb dX0_arrange_62 (by decide) (fun c62 => ?_) (fun c62 => ?_)
        · refine lv_iconst (v := 0) hx hb dX0_arrange_69 (by decide) ?_
          exact J70 _ (by rw [if_pos c54, if_pos c62])
        · refine lv_iconst (v := 1) hx hb dX0_arrange_65 (by decide) ?_
          refine lv_goto (tgt := 70) hx hb dX0_arrange_66 (by decide) ?_
          exact J70 _ (by rw [if_pos c54, if_neg c62])
    refine lv_icmp_lt (tgt := 49) hx hb dX0_arrange_42 (by decide) (fun c42 => ?_) (fun c42 => ?_)
    · refine lv_iconst (v := 0) hx hb dX0_arrange_49 (by decide) ?_
      exact J50 _ (by rw [if_pos c42])
    · refine lv_iconst (v := 1) hx hb dX0_arrange_45 (by decide) ?_
      refine lv_goto (tgt := 50) hx hb dX0_arrange_46 (by decide) ?_
      exact J50 _ (by rw [if_neg c42])
  refine lv_icmp_lt (tgt := 36) hx hb dX0_arrange_29 (by decide) (fun c29 => ?_) (fun c29 => ?_)
  · refine lv_iconst (v := 0) hx hb dX0_arrange_36 (by decide) ?_
    exact J37 _ (by rw [if_pos c29])
  · refine lv_iconst (v := 1) hx hb dX0_arrange_32 (by decide) ?_
    refine lv_goto (tgt := 37) hx hb dX0_arrange_33 (by decide) ?_
    exact J37 _ (by rw [if_neg c29])
end
section
/-! The endings' tables: vf verdicts, CN e how many moves, NX e j where they lead -/
def enW (dA : Nat → ClassId) (L : List Nat) (M : mm_M) (en vd ct nz : Nat) (vf cf nf : Nat → Int32) : Prop := en ∈ L ∧ vd ∈ L ∧ ct ∈ L ∧ nz ∈ L ∧ M en = .inr (0, [.ref vd, .ref ct, .ref nz]) ∧ M vd = .inl (dA 1, 1297, .inl vf) ∧ M ct = .inl (dA 1, 1296, .inl cf) ∧ M nz = .inl (dA 2, 5184, .inl nf)
def enC (cf nf : Nat → Int32) (CN : Nat → Nat) (NX : Nat → Nat → Nat) : Prop := (∀ e, e < 1296 → cf e = nI (CN e) ∧ CN e ≤ 4) ∧ ∀ e, e < 1296 → ∀ j, j < CN e → nf (4 * e + j) = nI (NX e j) ∧ NX e j < 1297
def llK (vf : Nat → Int32) (nx : Nat → Nat) : Nat → Nat → Int32
  | 0, _ => 0
  | k + 1, j => if 0 ≤ vf (nx j) then llK vf nx k (j + 1) else 1
def lwK (vf : Nat → Int32) (nx : Nat → Nat) : Nat → Nat → Int32
  | 0, _ => 1
  | k + 1, j => if 0 < vf (nx j) then lwK vf nx k (j + 1) else 0
def fwK (n : Int32) (CN : Nat → Nat) (NX : Nat → Nat → Nat) : Nat → Nat → (Nat → Int32) → Int32 → (Nat → Int32) × Int32
  | 0, _, vf, fd => (vf, fd)
  | k + 1, e, vf, fd => if vf e = 0 then (if llK vf (NX e) (CN e) 0 = 0 then fwK n CN NX k (e + 1) vf fd else fwK n CN NX k (e + 1) (upd vf e (n.toInt8.toInt32)) 1) else fwK n CN NX k (e + 1) vf fd
def flK (n : Int32) (CN : Nat → Nat) (NX : Nat → Nat → Nat) : Nat → Nat → (Nat → Int32) → Int32 → (Nat → Int32) × Int32
  | 0, _, vf, fd => (vf, fd)
  | k + 1, e, vf, fd => if vf e = 0 then (if CN e = 0 then flK n CN NX k (e + 1) vf fd else if lwK vf (NX e) (CN e) 0 = 0 then flK n CN NX k (e + 1) vf fd else flK n CN NX k (e + 1) (upd vf e ((-n).toInt8.toInt32)) 1) else flK n CN NX k (e + 1) vf fd
def stK (CN : Nat → Nat) (NX : Nat → Nat → Nat) : Nat → Nat → Int32 → (Nat → Int32) → (Nat → Int32)
  | 0, _, _, vf => vf
  | k + 1, n, fd, vf => if fd = 0 then vf else if n % 2 = 1 then stK CN NX k (n + 1) (fwK (nI n) CN NX 1296 0 vf 0).2 (fwK (nI n) CN NX 1296 0 vf 0).1 else stK CN NX k (n + 1) (flK (nI n) CN NX 1296 0 vf 0).2 (flK (nI n) CN NX 1296 0 vf 0).1
theorem fwK_01 {n : Int32} {CN : Nat → Nat} {NX : Nat → Nat → Nat} : ∀ (k e : Nat) (vf : Nat → Int32) (fd : Int32), (fd = 0 ∨ fd = 1) → (fwK n CN NX k e vf fd).2 = 0 ∨ (fwK n CN NX k e vf fd).2 = 1
  | 0, _, _, _, h => h
  | k + 1, e, vf, fd, h => by
    unfold fwK
    split
    · split
      · exact fwK_01 k _ _ _ h
      · exact fwK_01 k _ _ _ (Or.inr rfl)
    · exact fwK_01 k _ _ _ h

set_option maxHeartbeats 4000000 in
set_option maxRecDepth 100000 in
theorem c_ltl (l : Launch) (D : va_G) (dA : Nat → ClassId) {L : List Nat} {M : mm_M} {en vd ct nz : Nat} {vf cf nf : Nat → Int32} {CN : Nat → Nat} {NX : Nat → Nat → Nat} {e0 : Nat} (x : Int32) (he : enW dA L M en vd ct nz vf cf nf) (hc : enC cf nf CN NX) (hxe : x = nI e0) (he0 : e0 < 1296) : mm_Cp l D dA yX0_leadsToLoss wsX0_leadsToLoss 0 [.ref en, .int x] L M (llK vf (NX e0) (CN e0) 0) := by
  obtain ⟨i_en, i_vd, i_ct, i_nz, m_en, m_vd, m_ct, m_nz⟩ := he
  refine mm_enter_z (cc := cX0_leadsToLoss) (maxL := 3) (by decide) rfl (Nat.le_of_ble_eq_true rfl) ?_
  intro p e R s m args below meth c A ls H locs Q hR hx hb hml hin hown hts hK hV hl hret
  have hl : lv_has ls 3 [(0, .ref en), (1, .int x)] := hl
  have hown : s.vm.findClass RX0 = some m.cls := hown
  have f_15 := hts (.fieldLink RX0 15 "JumpBoard$Endings" "counts" "[B") (by decide +kernel)
  have in_X0 : ∀ w ∈ wsX00, w ∈ wsX0_leadsToLoss := by decide +kernel
  have f_11 := hts (.fieldLink RX0 11 "JumpBoard$Endings" "verdicts" "[B") (by decide +kernel)
  have f_18 := hts (.fieldLink RX0 18 "JumpBoard$Endings" "nexts" "[S") (by decide +kernel)
  refine lv_iconst (v := 0) hx hb dX0_leadsToLoss_0 (by decide) ?_
  refine lv_topi (fun x2 ex2 => ?_)
  refine lv_istore_n (lv' := [(2, .int x2), (0, .ref en), (1, .int x)]) hx hb dX0_leadsToLoss_1 rfl hl (by decide) rfl (fun ls hl => ?_)
  have hce := hc.1 e0 he0
  have LP : ∀ (k j : Nat) (x2 : Int32) (ls : Array Slot), j + k = CN e0 → x2 = nI j → llK vf (NX e0) k j = llK vf (NX e0) (CN e0) 0 → lv_has ls 3 [(0, .ref en), (1, .int x), (2, .int x2)] → W p l e R s m args below meth c H locs 0 0 Q (F0 m 2 ls []) := by
    intro k
    induction k with
    | zero =>
      intro j x2 ls hjk hx2 hres hl
      refine lv_iload_n hx hb dX0_leadsToLoss_2 rfl (lv_at hl 2 rfl) ?_
      refine lv_aload_n hx hb dX0_leadsToLoss_3 rfl (lv_at hl 0 rfl) ?_
      refine mm_get (ci := 0) (C := RX0) (T := TX0) (N := 3) hx hb hts in_X0 hown hK hV i_en m_en rfl 1 (by decide) f_15 (fun _ h => h) rfl dX0_leadsToLoss_4 ?_
      refine lv_iload_n hx hb dX0_leadsToLoss_7 rfl (lv_at hl 1 rfl) ?_
      refine mm_baldN (j := e0) hx hb hK hV i_ct m_ct hxe (by omega) (by decide) dX0_leadsToLoss_8 ?_
      refine lv_icmp_ge (tgt := 38) hx hb dX0_leadsToLoss_9 (by decide) (fun c9 => ?_) (fun c9 => ?_)
      · refine lv_iconst (v := 0) hx hb dX0_leadsToLoss_38 (by decide) ?_
        exact hret (v := 0) dX0_leadsToLoss_39 hV (by decide) (by decide) (by subst_vars; (repeat' split) <;> first | exact Or.inl rfl | exact Or.inr rfl) ⟨by rw [← hres]; rfl, rfl, rfl⟩
      · exact absurd (by rw [hce.1, hx2, ← hjk]; exact nI_le (by omega) (by omega)) c9
    | succ k ih =>
      intro j x2 ls hjk hx2 hres hl
      refine lv_iload_n hx hb dX0_leadsToLoss_2 rfl (lv_at hl 2 rfl) ?_
      refine lv_aload_n hx hb dX0_leadsToLoss_3 rfl (lv_at hl 0 rfl) ?_
      refine mm_get (ci := 0) (C := RX0) (T := TX0) (N := 3) hx hb hts in_X0 hown hK hV i_en m_en rfl 1 (by decide) f_15 (fun _ h => h) rfl dX0_leadsToLoss_4 ?_
      refine lv_iload_n hx hb dX0_leadsToLoss_7 rfl (lv_at hl 1 rfl) ?_
      refine mm_baldN (j := e0) hx hb hK hV i_ct m_ct hxe (by omega) (by decide) dX0_leadsToLoss_8 ?_
      refine lv_icmp_ge (tgt := 38) hx hb dX0_leadsToLoss_9 (by decide) (fun c9 => ?_) (fun c9 => ?_)
      · exact absurd c9 (by rw [hce.1, hx2]; exact nI_ge (by omega) (by omega))
      · have hj : j < CN e0 := by omega
        refine lv_aload_n hx hb dX0_leadsToLoss_12 rfl (lv_at hl 0 rfl) ?_
        refine mm_get (ci := 0) (C := RX0) (T := TX0) (N := 3) hx hb hts in_X0 hown hK hV i_en m_en rfl 0 (by decide) f_11 (fun _ h => h) rfl dX0_leadsToLoss_13 ?_
        refine lv_aload_n hx hb dX0_leadsToLoss_16 rfl (lv_at hl 0 rfl) ?_
        refine mm_get (ci := 0) (C := RX0) (T := TX0) (N := 3) hx hb hts in_X0 hown hK hV i_en m_en rfl 2 (by decide) f_18 (fun _ h => h) rfl dX0_leadsToLoss_17 ?_
        refine lv_iload_n hx hb dX0_leadsToLoss_20 rfl (lv_at hl 1 rfl) ?_
        refine lv_iconst (v := 4) hx hb dX0_leadsToLoss_21 (by decide) ?_
        refine lv_imul hx hb dX0_leadsToLoss_22 ?_
        refine lv_iload_n hx hb dX0_leadsToLoss_23 rfl (lv_at hl 2 rfl) ?_
        refine lv_iadd hx hb dX0_leadsToLoss_24 ?_
        refine mm_saldN (j := (4 * e0 + j)) hx hb hK hV i_nz m_nz (ixN hxe hx2) (by omega) (by decide) dX0_leadsToLoss_25 ?_
        refine mm_baldN (j := (NX e0 j)) hx hb hK hV i_vd m_vd (hc.2 e0 he0 j hj).1 (hc.2 e0 he0 j hj).2 (by decide) dX0_leadsToLoss_26 ?_
        refine lv_if_ge (tgt := 32) hx hb dX0_leadsToLoss_27 (by decide) (fun c27 => ?_) (fun c27 => ?_)
        · obtain ⟨x2_n, ex2_n⟩ : ∃ y : Int32, y = x2 + 1 := ⟨_, rfl⟩
          refine lv_iinc (v := x2_n) (lv' := [(2, .int x2_n), (0, .ref en), (1, .int x)]) hx hb dX0_leadsToLoss_32 hl (k := 2) rfl (by rw [ex2_n]; rfl) (by decide) rfl (fun ls hl => ?_)
          refine lv_goto (tgt := 2) hx hb dX0_leadsToLoss_35 (by decide) ?_
          exact ih (j + 1) x2_n ls (by omega) (by rw [ex2_n, hx2]; exact nI_1 j) (by rw [← hres, llK, if_pos c27]) (lv_sub hl [1, 2, 0] rfl)
        · refine lv_iconst (v := 1) hx hb dX0_leadsToLoss_30 (by decide) ?_
          exact hret (v := 1) dX0_leadsToLoss_31 hV (by decide) (by decide) (by subst_vars; (repeat' split) <;> first | exact Or.inl rfl | exact Or.inr rfl) ⟨by rw [← hres, llK, if_neg c27], rfl, rfl⟩
  exact LP (CN e0) 0 x2 ls (by omega) (by rw [ex2]; rfl) rfl (lv_sub hl [1, 2, 0] rfl)

set_option maxHeartbeats 4000000 in
set_option maxRecDepth 100000 in
theorem c_ltw (l : Launch) (D : va_G) (dA : Nat → ClassId) {L : List Nat} {M : mm_M} {en vd ct nz : Nat} {vf cf nf : Nat → Int32} {CN : Nat → Nat} {NX : Nat → Nat → Nat} {e0 : Nat} (x : Int32) (he : enW dA L M en vd ct nz vf cf nf) (hc : enC cf nf CN NX) (hxe : x = nI e0) (he0 : e0 < 1296) : mm_Cp l D dA yX0_leadsToWinsAlone wsX0_leadsToWinsAlone 0 [.ref en, .int x] L M (lwK vf (NX e0) (CN e0) 0) := by
  obtain ⟨i_en, i_vd, i_ct, i_nz, m_en, m_vd, m_ct, m_nz⟩ := he
  refine mm_enter_z (cc := cX0_leadsToWinsAlone) (maxL := 3) (by decide) rfl (Nat.le_of_ble_eq_true rfl) ?_
  intro p e R s m args below meth c A ls H locs Q hR hx hb hml hin hown hts hK hV hl hret
  have hl : lv_has ls 3 [(0, .ref en), (1, .int x)] := hl
  have hown : s.vm.findClass RX0 = some m.cls := hown
  have f_15 := hts (.fieldLink RX0 15 "JumpBoard$Endings" "counts" "[B") (by decide +kernel)
  have in_X0 : ∀ w ∈ wsX00, w ∈ wsX0_leadsToWinsAlone := by decide +kernel
  have f_11 := hts (.fieldLink RX0 11 "JumpBoard$Endings" "verdicts" "[B") (by decide +kernel)
  have f_18 := hts (.fieldLink RX0 18 "JumpBoard$Endings" "nexts" "[S") (by decide +kernel)
  refine lv_iconst (v := 0) hx hb dX0_leadsToWinsAlone_0 (by decide) ?_
  refine lv_topi (fun x2 ex2 => ?_)
  refine lv_istore_n (lv' := [(2, .int x2), (0, .ref en), (1, .int x)]) hx hb dX0_leadsToWinsAlone_1 rfl hl (by decide) rfl (fun ls hl => ?_)
  have hce := hc.1 e0 he0
  have LP : ∀ (k j : Nat) (x2 : Int32) (ls : Array Slot), j + k = CN e0 → x2 = nI j → lwK vf (NX e0) k j = lwK vf (NX e0) (CN e0) 0 → lv_has ls 3 [(0, .ref en), (1, .int x), (2, .int x2)] → W p l e R s m args below meth c H locs 0 0 Q (F0 m 2 ls []) := by
    intro k
    induction k with
    | zero =>
      intro j x2 ls hjk hx2 hres hl
      refine lv_iload_n hx hb dX0_leadsToWinsAlone_2 rfl (lv_at hl 2 rfl) ?_
      refine lv_aload_n hx hb dX0_leadsToWinsAlone_3 rfl (lv_at hl 0 rfl) ?_
      refine mm_get (ci := 0) (C := RX0) (T := TX0) (N := 3) hx hb hts in_X0 hown hK hV i_en m_en rfl 1 (by decide) f_15 (fun _ h => h) rfl dX0_leadsToWinsAlone_4 ?_
      refine lv_iload_n hx hb dX0_leadsToWinsAlone_7 rfl (lv_at hl 1 rfl) ?_
      refine mm_baldN (j := e0) hx hb hK hV i_ct m_ct hxe (by omega) (by decide) dX0_leadsToWinsAlone_8 ?_
      refine lv_icmp_ge (tgt := 38) hx hb dX0_leadsToWinsAlone_9 (by decide) (fun c9 => ?_) (fun c9 => ?_)
      · refine lv_iconst (v := 1) hx hb dX0_leadsToWinsAlone_38 (by decide) ?_
        exact hret (v := 1) dX0_leadsToWinsAlone_39 hV (by decide) (by decide) (by subst_vars; (repeat' split) <;> first | exact Or.inl rfl | exact Or.inr rfl) ⟨by rw [← hres]; rfl, rfl, rfl⟩
      · exact absurd (by rw [hce.1, hx2, ← hjk]; exact nI_le (by omega) (by omega)) c9
    | succ k ih =>
      intro j x2 ls hjk hx2 hres hl
      refine lv_iload_n hx hb dX0_leadsToWinsAlone_2 rfl (lv_at hl 2 rfl) ?_
      refine lv_aload_n hx hb dX0_leadsToWinsAlone_3 rfl (lv_at hl 0 rfl) ?_
      refine mm_get (ci := 0) (C := RX0) (T := TX0) (N := 3) hx hb hts in_X0 hown hK hV i_en m_en rfl 1 (by decide) f_15 (fun _ h => h) rfl dX0_leadsToWinsAlone_4 ?_
      refine lv_iload_n hx hb dX0_leadsToWinsAlone_7 rfl (lv_at hl 1 rfl) ?_
      refine mm_baldN (j := e0) hx hb hK hV i_ct m_ct hxe (by omega) (by decide) dX0_leadsToWinsAlone_8 ?_
      refine lv_icmp_ge (tgt := 38) hx hb dX0_leadsToWinsAlone_9 (by decide) (fun c9 => ?_) (fun c9 => ?_)
      · exact absurd c9 (by rw [hce.1, hx2]; exact nI_ge (by omega) (by omega))
      · have hj : j < CN e0 := by omega
        refine lv_aload_n hx hb dX0_leadsToWinsAlone_12 rfl (lv_at hl 0 rfl) ?_
        refine mm_get (ci := 0) (C := RX0) (T := TX0) (N := 3) hx hb hts in_X0 hown hK hV i_en m_en rfl 0 (by decide) f_11 (fun _ h => h) rfl dX0_leadsToWinsAlone_13 ?_
        refine lv_aload_n hx hb dX0_leadsToWinsAlone_16 rfl (lv_at hl 0 rfl) ?_
        refine mm_get (ci := 0) (C := RX0) (T := TX0) (N := 3) hx hb hts in_X0 hown hK hV i_en m_en rfl 2 (by decide) f_18 (fun _ h => h) rfl dX0_leadsToWinsAlone_17 ?_
        refine lv_iload_n hx hb dX0_leadsToWinsAlone_20 rfl (lv_at hl 1 rfl) ?_
        refine lv_iconst (v := 4) hx hb dX0_leadsToWinsAlone_21 (by decide) ?_
        refine lv_imul hx hb dX0_leadsToWinsAlone_22 ?_
        refine lv_iload_n hx hb dX0_leadsToWinsAlone_23 rfl (lv_at hl 2 rfl) ?_
        refine lv_iadd hx hb dX0_leadsToWinsAlone_24 ?_
        refine mm_saldN (j := (4 * e0 + j)) hx hb hK hV i_nz m_nz (ixN hxe hx2) (by omega) (by decide) dX0_leadsToWinsAlone_25 ?_
        refine mm_baldN (j := (NX e0 j)) hx hb hK hV i_vd m_vd (hc.2 e0 he0 j hj).1 (hc.2 e0 he0 j hj).2 (by decide) dX0_leadsToWinsAlone_26 ?_
        refine lv_if_gt (tgt := 32) hx hb dX0_leadsToWinsAlone_27 (by decide) (fun c27 => ?_) (fun c27 => ?_)
        · obtain ⟨x2_n, ex2_n⟩ : ∃ y : Int32, y = x2 + 1 := ⟨_, rfl⟩
          refine lv_iinc (v := x2_n) (lv' := [(2, .int x2_n), (0, .ref en), (1, .int x)]) hx hb dX0_leadsToWinsAlone_32 hl (k := 2) rfl (by rw [ex2_n]; rfl) (by decide) rfl (fun ls hl => ?_)
          refine lv_goto (tgt := 2) hx hb dX0_leadsToWinsAlone_35 (by decide) ?_
          exact ih (j + 1) x2_n ls (by omega) (by rw [ex2_n, hx2]; exact nI_1 j) (by rw [← hres, lwK, if_pos c27]) (lv_sub hl [1, 2, 0] rfl)
        · refine lv_iconst (v := 0) hx hb dX0_leadsToWinsAlone_30 (by decide) ?_
          exact hret (v := 0) dX0_leadsToWinsAlone_31 hV (by decide) (by decide) (by subst_vars; (repeat' split) <;> first | exact Or.inl rfl | exact Or.inr rfl) ⟨by rw [← hres, lwK, if_neg c27], rfl, rfl⟩
  exact LP (CN e0) 0 x2 ls (by omega) (by rw [ex2]; rfl) rfl (lv_sub hl [1, 2, 0] rfl)

set_option maxHeartbeats 4000000 in
set_option maxRecDepth 100000 in
theorem c_fw (l : Launch) (D : va_G) (dA : Nat → ClassId) {L : List Nat} {M : mm_M} {en vd ct nz : Nat} {vf0 cf nf : Nat → Int32} {CN : Nat → Nat} {NX : Nat → Nat → Nat} (x : Int32) (he : enW dA L M en vd ct nz vf0 cf nf) (hc : enC cf nf CN NX) : mm_Cn l D dA yX0_findWins wsX0_findWins 1 [.ref en, .int x] L M (fun r M1 => r = (fwK x CN NX 1296 0 vf0 0).2 ∧ M1 = va_up M vd (.inl (dA 1, 1297, .inl (fwK x CN NX 1296 0 vf0 0).1))) := by
  obtain ⟨i_en, i_vd, i_ct, i_nz, m_en, m_vd, m_ct, m_nz⟩ := he
  obtain ⟨RES, eRES⟩ : ∃ z, z = fwK x CN NX 1296 0 vf0 0 := ⟨_, rfl⟩
  rw [← eRES]
  refine mm_enter_z (cc := cX0_findWins) (maxL := 4) (by decide) rfl (Nat.le_of_ble_eq_true rfl) ?_
  intro p e R s m args below meth c A ls H locs Q hR hx hb hml hin hown hts hK hV hl hret
  have hl : lv_has ls 4 [(0, .ref en), (1, .int x)] := hl
  have hown : s.vm.findClass RX0 = some m.cls := hown
  have f_11 := hts (.fieldLink RX0 11 "JumpBoard$Endings" "verdicts" "[B") (by decide +kernel)
  have in_X0 : ∀ w ∈ wsX00, w ∈ wsX0_findWins := by decide +kernel
  refine lv_iconst (v := 0) hx hb dX0_findWins_0 (by decide) ?_
  refine lv_topi (fun x2 ex2 => ?_)
  refine lv_istore_n (lv' := [(2, .int x2), (0, .ref en), (1, .int x)]) hx hb dX0_findWins_1 rfl hl (by decide) rfl (fun ls hl => ?_)
  refine lv_iconst (v := 0) hx hb dX0_findWins_2 (by decide) ?_
  refine lv_topi (fun x3 ex3 => ?_)
  refine lv_istore_n (lv' := [(3, .int x3), (2, .int x2), (0, .ref en), (1, .int x)]) hx hb dX0_findWins_3 rfl hl (by decide) rfl (fun ls hl => ?_)
  have LP : ∀ (k e0 : Nat) (x2 x3 : Int32) (vf : Nat → Int32) (M1 : mm_M) (H : Heap) (locs : List Loc) (ls : Array Slot), e0 + k = 1296 → x3 = nI e0 → (x2 = 0 ∨ x2 = 1) → fwK x CN NX k e0 vf x2 = RES → mm_V A D L M1 s H locs → M1 en = .inr (0, [.ref vd, .ref ct, .ref nz]) → M1 vd = .inl (dA 1, 1297, .inl vf) → M1 ct = .inl (dA 1, 1296, .inl cf) → M1 nz = .inl (dA 2, 5184, .inl nf) → (∀ q : Nat, q ≠ vd → M1 q = M q) → lv_has ls 4 [(0, .ref en), (1, .int x), (2, .int x2), (3, .int x3)] → W p l e R s m args below meth c H locs 0 0 Q (F0 m 4 ls []) := by
    intro k
    induction k with
    | zero =>
      intro e0 x2 x3 vf M1 H locs ls hek hx3 h01 hres hV m_en m_vd m_ct m_nz fr hl
      refine lv_iload_n hx hb dX0_findWins_4 rfl (lv_at hl 3 rfl) ?_
      refine lv_sipush (v := 1296) hx hb dX0_findWins_5 (by decide) ?_
      refine lv_icmp_ge (tgt := 44) hx hb dX0_findWins_8 (by decide) (fun c8 => ?_) (fun c8 => ?_)
      · have hres2 : RES = (vf, x2) := hres.symm
        refine lv_iload_n hx hb dX0_findWins_44 rfl (lv_at hl 2 rfl) ?_
        exact hret (v := x2) dX0_findWins_45 hV (by decide) (by decide) h01 ⟨rfl, by rw [hres2], by rw [hres2]; exact mm_fin1 m_vd fr⟩
      · exact absurd (by rw [hx3]; exact nI_le (a := 1296) (by omega) (by omega)) c8
    | succ k ih =>
      intro e0 x2 x3 vf M1 H locs ls hek hx3 h01 hres hV m_en m_vd m_ct m_nz fr hl
      refine lv_iload_n hx hb dX0_findWins_4 rfl (lv_at hl 3 rfl) ?_
      refine lv_sipush (v := 1296) hx hb dX0_findWins_5 (by decide) ?_
      refine lv_icmp_ge (tgt := 44) hx hb dX0_findWins_8 (by decide) (fun c8 => ?_) (fun c8 => ?_)
      · exact absurd c8 (by rw [hx3]; exact nI_ge (b := 1296) (by omega) (by decide))
      · have he0 : e0 < 1296 := by omega
        have hce := hc.1 e0 he0
        refine lv_aload_n hx hb dX0_findWins_11 rfl (lv_at hl 0 rfl) ?_
        refine mm_get (ci := 0) (C := RX0) (T := TX0) (N := 3) hx hb hts in_X0 hown hK hV i_en m_en rfl 0 (by decide) f_11 (fun _ h => h) rfl dX0_findWins_12 ?_
        refine lv_iload_n hx hb dX0_findWins_15 rfl (lv_at hl 3 rfl) ?_
        refine mm_baldN (j := e0) hx hb hK hV i_vd m_vd hx3 (by omega) (by decide) dX0_findWins_16 ?_
        refine lv_if_ne (tgt := 38) hx hb dX0_findWins_17 (by decide) (fun c17 => ?_) (fun c17 => ?_)
        · obtain ⟨x3_n, ex3_n⟩ : ∃ y : Int32, y = x3 + 1 := ⟨_, rfl⟩
          refine lv_iinc (v := x3_n) (lv' := [(3, .int x3_n), (0, .ref en), (1, .int x), (2, .int x2)]) hx hb dX0_findWins_38 hl (k := 3) rfl (by rw [ex3_n]; rfl) (by decide) rfl (fun ls hl => ?_)
          refine lv_goto (tgt := 4) hx hb dX0_findWins_41 (by decide) ?_
          exact ih (e0 + 1) x2 x3_n vf M1 _ _ ls (by omega) (by rw [ex3_n, hx3]; exact nI_1 e0) h01 (by rw [← hres, fwK, if_neg c17]) hV m_en m_vd m_ct m_nz fr (lv_sub hl [1, 2, 3, 0] rfl)
        · refine lv_aload_n hx hb dX0_findWins_20 rfl (lv_at hl 0 rfl) ?_
          refine lv_iload_n hx hb dX0_findWins_21 rfl (lv_at hl 3 rfl) ?_
          refine mm_Vp (v := (llK vf (NX e0) (CN e0) 0)) (ci := 0) (As := [.int x3]) (rest := []) ⟨hx, hb, hml, hown, hts⟩ hK hV (c_ltl l D dA (e0 := e0) x3 ⟨i_en, i_vd, i_ct, i_nz, m_en, m_vd, m_ct, m_nz⟩ hc hx3 he0) (cwV 1 hts gX0_findWins_X0_leadsToLoss rfl rfl rfl (by decide +kernel) (mm_levR hR (by omega) (by decide))) i_en m_en rfl rfl hl.1 rfl (Nat.le_of_ble_eq_true rfl) dX0_findWins_22 ⟨Nat.zero_le _, Nat.zero_le _⟩ (fun H locs hV => ?_)
          refine lv_if_eq (tgt := 38) hx hb dX0_findWins_25 (by decide) (fun c25 => ?_) (fun c25 => ?_)
          · obtain ⟨x3_n, ex3_n⟩ : ∃ y : Int32, y = x3 + 1 := ⟨_, rfl⟩
            refine lv_iinc (v := x3_n) (lv' := [(3, .int x3_n), (0, .ref en), (1, .int x), (2, .int x2)]) hx hb dX0_findWins_38 hl (k := 3) rfl (by rw [ex3_n]; rfl) (by decide) rfl (fun ls hl => ?_)
            refine lv_goto (tgt := 4) hx hb dX0_findWins_41 (by decide) ?_
            exact ih (e0 + 1) x2 x3_n vf M1 _ _ ls (by omega) (by rw [ex3_n, hx3]; exact nI_1 e0) h01 (by rw [← hres, fwK, if_pos c17, if_pos c25]) hV m_en m_vd m_ct m_nz fr (lv_sub hl [1, 2, 3, 0] rfl)
          · refine lv_aload_n hx hb dX0_findWins_28 rfl (lv_at hl 0 rfl) ?_
            refine mm_get (ci := 0) (C := RX0) (T := TX0) (N := 3) hx hb hts in_X0 hown hK hV i_en m_en rfl 0 (by decide) f_11 (fun _ h => h) rfl dX0_findWins_29 ?_
            refine lv_iload_n hx hb dX0_findWins_32 rfl (lv_at hl 3 rfl) ?_
            refine lv_iload_n hx hb dX0_findWins_33 rfl (lv_at hl 1 rfl) ?_
            refine lv_i2b hx hb dX0_findWins_34 rfl ?_
            refine lv_topi (fun vb evb => ?_)
            refine mm_bastN (j := e0) (x := vb) hx hb hK hV i_vd m_vd hx3 (by omega) (by decide) dX0_findWins_35 (fun M_1 H locs eM_1 hV => ?_)
            have m_en : M_1 en = _ := (congrFun eM_1 en).trans ((va_up_ne _ _ (mm_neq m_en m_vd (by intro h; cases h))).trans m_en)
            have m_ct : M_1 ct = _ := (congrFun eM_1 ct).trans ((va_up_ne _ _ (mm_neq m_ct m_vd (mm_nelen (by decide)))).trans m_ct)
            have m_nz : M_1 nz = _ := (congrFun eM_1 nz).trans ((va_up_ne _ _ (mm_neq m_nz m_vd (mm_nelen (by decide)))).trans m_nz)
            have m_vd : M_1 vd = .inl (dA 1, 1297, .inl (upd vf e0 (vp_nar .byte vb))) := by rw [eM_1]; exact va_up_self _ _ _
            have fr : ∀ q : Nat, q ≠ vd → M_1 q = M q := fun q h0 => (congrFun eM_1 q).trans ((va_up_ne _ _ h0).trans (fr q h0))
            refine lv_iconst (v := 1) hx hb dX0_findWins_36 (by decide) ?_
            refine lv_topi (fun x2_n ex2_n => ?_)
            refine lv_istore_n (lv' := [(2, .int x2_n), (0, .ref en), (1, .int x), (3, .int x3)]) hx hb dX0_findWins_37 rfl hl (by decide) rfl (fun ls hl => ?_)
            obtain ⟨x3_n, ex3_n⟩ : ∃ y : Int32, y = x3 + 1 := ⟨_, rfl⟩
            refine lv_iinc (v := x3_n) (lv' := [(3, .int x3_n), (2, .int x2_n), (0, .ref en), (1, .int x)]) hx hb dX0_findWins_38 hl (k := 3) rfl (by rw [ex3_n]; rfl) (by decide) rfl (fun ls hl => ?_)
            refine lv_goto (tgt := 4) hx hb dX0_findWins_41 (by decide) ?_
            exact ih (e0 + 1) x2_n x3_n (upd vf e0 vb) M_1 _ _ ls (by omega) (by rw [ex3_n, hx3]; exact nI_1 e0) (Or.inr ex2_n) (by rw [← hres, fwK, if_pos c17, if_neg c25, ← evb, ← ex2_n]) hV m_en (by rw [m_vd]; rw [show vp_nar .byte vb = vb from by rw [evb]; exact pk_vb _]) m_ct m_nz fr (lv_sub hl [2, 3, 1, 0] rfl)
  exact LP 1296 0 x2 x3 vf0 M H locs ls rfl (by rw [ex3]; rfl) (Or.inl ex2) (by rw [ex2]; exact eRES.symm) hV m_en m_vd m_ct m_nz (fun q _ => rfl) (lv_sub hl [2, 3, 1, 0] rfl)

set_option maxHeartbeats 4000000 in
set_option maxRecDepth 100000 in
theorem c_fl (l : Launch) (D : va_G) (dA : Nat → ClassId) {L : List Nat} {M : mm_M} {en vd ct nz : Nat} {vf0 cf nf : Nat → Int32} {CN : Nat → Nat} {NX : Nat → Nat → Nat} (x : Int32) (he : enW dA L M en vd ct nz vf0 cf nf) (hc : enC cf nf CN NX) : mm_Cn l D dA yX0_findLosses wsX0_findLosses 1 [.ref en, .int x] L M (fun r M1 => r = (flK x CN NX 1296 0 vf0 0).2 ∧ M1 = va_up M vd (.inl (dA 1, 1297, .inl (flK x CN NX 1296 0 vf0 0).1))) := by
  obtain ⟨i_en, i_vd, i_ct, i_nz, m_en, m_vd, m_ct, m_nz⟩ := he
  obtain ⟨RES, eRES⟩ : ∃ z, z = flK x CN NX 1296 0 vf0 0 := ⟨_, rfl⟩
  rw [← eRES]
  refine mm_enter_z (cc := cX0_findLosses) (maxL := 4) (by decide) rfl (Nat.le_of_ble_eq_true rfl) ?_
  intro p e R s m args below meth c A ls H locs Q hR hx hb hml hin hown hts hK hV hl hret
  have hl : lv_has ls 4 [(0, .ref en), (1, .int x)] := hl
  have hown : s.vm.findClass RX0 = some m.cls := hown
  have f_11 := hts (.fieldLink RX0 11 "JumpBoard$Endings" "verdicts" "[B") (by decide +kernel)
  have in_X0 : ∀ w ∈ wsX00, w ∈ wsX0_findLosses := by decide +kernel
  have f_15 := hts (.fieldLink RX0 15 "JumpBoard$Endings" "counts" "[B") (by decide +kernel)
  refine lv_iconst (v := 0) hx hb dX0_findLosses_0 (by decide) ?_
  refine lv_topi (fun x2 ex2 => ?_)
  refine lv_istore_n (lv' := [(2, .int x2), (0, .ref en), (1, .int x)]) hx hb dX0_findLosses_1 rfl hl (by decide) rfl (fun ls hl => ?_)
  refine lv_iconst (v := 0) hx hb dX0_findLosses_2 (by decide) ?_
  refine lv_topi (fun x3 ex3 => ?_)
  refine lv_istore_n (lv' := [(3, .int x3), (2, .int x2), (0, .ref en), (1, .int x)]) hx hb dX0_findLosses_3 rfl hl (by decide) rfl (fun ls hl => ?_)
  have LP : ∀ (k e0 : Nat) (x2 x3 : Int32) (vf : Nat → Int32) (M1 : mm_M) (H : Heap) (locs : List Loc) (ls : Array Slot), e0 + k = 1296 → x3 = nI e0 → (x2 = 0 ∨ x2 = 1) → flK x CN NX k e0 vf x2 = RES → mm_V A D L M1 s H locs → M1 en = .inr (0, [.ref vd, .ref ct, .ref nz]) → M1 vd = .inl (dA 1, 1297, .inl vf) → M1 ct = .inl (dA 1, 1296, .inl cf) → M1 nz = .inl (dA 2, 5184, .inl nf) → (∀ q : Nat, q ≠ vd → M1 q = M q) → lv_has ls 4 [(0, .ref en), (1, .int x), (2, .int x2), (3, .int x3)] → W p l e R s m args below meth c H locs 0 0 Q (F0 m 4 ls []) := by
    intro k
    induction k with
    | zero =>
      intro e0 x2 x3 vf M1 H locs ls hek hx3 h01 hres hV m_en m_vd m_ct m_nz fr hl
      refine lv_iload_n hx hb dX0_findLosses_4 rfl (lv_at hl 3 rfl) ?_
      refine lv_sipush (v := 1296) hx hb dX0_findLosses_5 (by decide) ?_
      refine lv_icmp_ge (tgt := 54) hx hb dX0_findLosses_8 (by decide) (fun c8 => ?_) (fun c8 => ?_)
      · have hres2 : RES = (vf, x2) := hres.symm
        refine lv_iload_n hx hb dX0_findLosses_54 rfl (lv_at hl 2 rfl) ?_
        exact hret (v := x2) dX0_findLosses_55 hV (by decide) (by decide) h01 ⟨rfl, by rw [hres2], by rw [hres2]; exact mm_fin1 m_vd fr⟩
      · exact absurd (by rw [hx3]; exact nI_le (a := 1296) (by omega) (by omega)) c8
    | succ k ih =>
      intro e0 x2 x3 vf M1 H locs ls hek hx3 h01 hres hV m_en m_vd m_ct m_nz fr hl
      refine lv_iload_n hx hb dX0_findLosses_4 rfl (lv_at hl 3 rfl) ?_
      refine lv_sipush (v := 1296) hx hb dX0_findLosses_5 (by decide) ?_
      refine lv_icmp_ge (tgt := 54) hx hb dX0_findLosses_8 (by decide) (fun c8 => ?_) (fun c8 => ?_)
      · exact absurd c8 (by rw [hx3]; exact nI_ge (b := 1296) (by omega) (by decide))
      · have he0 : e0 < 1296 := by omega
        have hce := hc.1 e0 he0
        refine lv_aload_n hx hb dX0_findLosses_11 rfl (lv_at hl 0 rfl) ?_
        refine mm_get (ci := 0) (C := RX0) (T := TX0) (N := 3) hx hb hts in_X0 hown hK hV i_en m_en rfl 0 (by decide) f_11 (fun _ h => h) rfl dX0_findLosses_12 ?_
        refine lv_iload_n hx hb dX0_findLosses_15 rfl (lv_at hl 3 rfl) ?_
        refine mm_baldN (j := e0) hx hb hK hV i_vd m_vd hx3 (by omega) (by decide) dX0_findLosses_16 ?_
        refine lv_if_ne (tgt := 48) hx hb dX0_findLosses_17 (by decide) (fun c17 => ?_) (fun c17 => ?_)
        · obtain ⟨x3_n, ex3_n⟩ : ∃ y : Int32, y = x3 + 1 := ⟨_, rfl⟩
          refine lv_iinc (v := x3_n) (lv' := [(3, .int x3_n), (0, .ref en), (1, .int x), (2, .int x2)]) hx hb dX0_findLosses_48 hl (k := 3) rfl (by rw [ex3_n]; rfl) (by decide) rfl (fun ls hl => ?_)
          refine lv_goto (tgt := 4) hx hb dX0_findLosses_51 (by decide) ?_
          exact ih (e0 + 1) x2 x3_n vf M1 _ _ ls (by omega) (by rw [ex3_n, hx3]; exact nI_1 e0) h01 (by rw [← hres, flK, if_neg c17]) hV m_en m_vd m_ct m_nz fr (lv_sub hl [1, 2, 3, 0] rfl)
        · refine lv_aload_n hx hb dX0_findLosses_20 rfl (lv_at hl 0 rfl) ?_
          refine mm_get (ci := 0) (C := RX0) (T := TX0) (N := 3) hx hb hts in_X0 hown hK hV i_en m_en rfl 1 (by decide) f_15 (fun _ h => h) rfl dX0_findLosses_21 ?_
          refine lv_iload_n hx hb dX0_findLosses_24 rfl (lv_at hl 3 rfl) ?_
          refine mm_baldN (j := e0) hx hb hK hV i_ct m_ct hx3 (by omega) (by decide) dX0_findLosses_25 ?_
          refine lv_if_le (tgt := 48) hx hb dX0_findLosses_26 (by decide) (fun c26 => ?_) (fun c26 => ?_)
          · obtain ⟨x3_n, ex3_n⟩ : ∃ y : Int32, y = x3 + 1 := ⟨_, rfl⟩
            refine lv_iinc (v := x3_n) (lv' := [(3, .int x3_n), (0, .ref en), (1, .int x), (2, .int x2)]) hx hb dX0_findLosses_48 hl (k := 3) rfl (by rw [ex3_n]; rfl) (by decide) rfl (fun ls hl => ?_)
            refine lv_goto (tgt := 4) hx hb dX0_findLosses_51 (by decide) ?_
            exact ih (e0 + 1) x2 x3_n vf M1 _ _ ls (by omega) (by rw [ex3_n, hx3]; exact nI_1 e0) h01 (by rw [← hres, flK, if_pos c17, if_pos (mm_zero (by omega) (by rw [← hce.1]; exact c26))]) hV m_en m_vd m_ct m_nz fr (lv_sub hl [1, 2, 3, 0] rfl)
          · refine lv_aload_n hx hb dX0_findLosses_29 rfl (lv_at hl 0 rfl) ?_
            refine lv_iload_n hx hb dX0_findLosses_30 rfl (lv_at hl 3 rfl) ?_
            refine mm_Vp (v := (lwK vf (NX e0) (CN e0) 0)) (ci := 0) (As := [.int x3]) (rest := []) ⟨hx, hb, hml, hown, hts⟩ hK hV (c_ltw l D dA (e0 := e0) x3 ⟨i_en, i_vd, i_ct, i_nz, m_en, m_vd, m_ct, m_nz⟩ hc hx3 he0) (cwV 1 hts gX0_findLosses_X0_leadsToWinsAlone rfl rfl rfl (by decide +kernel) (mm_levR hR (by omega) (by decide))) i_en m_en rfl rfl hl.1 rfl (Nat.le_of_ble_eq_true rfl) dX0_findLosses_31 ⟨Nat.zero_le _, Nat.zero_le _⟩ (fun H locs hV => ?_)
            refine lv_if_eq (tgt := 48) hx hb dX0_findLosses_34 (by decide) (fun c34 => ?_) (fun c34 => ?_)
            · obtain ⟨x3_n, ex3_n⟩ : ∃ y : Int32, y = x3 + 1 := ⟨_, rfl⟩
              refine lv_iinc (v := x3_n) (lv' := [(3, .int x3_n), (0, .ref en), (1, .int x), (2, .int x2)]) hx hb dX0_findLosses_48 hl (k := 3) rfl (by rw [ex3_n]; rfl) (by decide) rfl (fun ls hl => ?_)
              refine lv_goto (tgt := 4) hx hb dX0_findLosses_51 (by decide) ?_
              exact ih (e0 + 1) x2 x3_n vf M1 _ _ ls (by omega) (by rw [ex3_n, hx3]; exact nI_1 e0) h01 (by rw [← hres, flK, if_pos c17, if_neg (Nat.ne_of_gt (mm_pos (by omega) (by rw [← hce.1]; exact c26))), if_pos c34]) hV m_en m_vd m_ct m_nz fr (lv_sub hl [1, 2, 3, 0] rfl)
            · refine lv_aload_n hx hb dX0_findLosses_37 rfl (lv_at hl 0 rfl) ?_
              refine mm_get (ci := 0) (C := RX0) (T := TX0) (N := 3) hx hb hts in_X0 hown hK hV i_en m_en rfl 0 (by decide) f_11 (fun _ h => h) rfl dX0_findLosses_38 ?_
              refine lv_iload_n hx hb dX0_findLosses_41 rfl (lv_at hl 3 rfl) ?_
              refine lv_iload_n hx hb dX0_findLosses_42 rfl (lv_at hl 1 rfl) ?_
              refine lv_ineg hx hb dX0_findLosses_43 ?_
              refine lv_i2b hx hb dX0_findLosses_44 rfl ?_
              refine lv_topi (fun vb evb => ?_)
              refine mm_bastN (j := e0) (x := vb) hx hb hK hV i_vd m_vd hx3 (by omega) (by decide) dX0_findLosses_45 (fun M_1 H locs eM_1 hV => ?_)
              have m_en : M_1 en = _ := (congrFun eM_1 en).trans ((va_up_ne _ _ (mm_neq m_en m_vd (by intro h; cases h))).trans m_en)
              have m_ct : M_1 ct = _ := (congrFun eM_1 ct).trans ((va_up_ne _ _ (mm_neq m_ct m_vd (mm_nelen (by decide)))).trans m_ct)
              have m_nz : M_1 nz = _ := (congrFun eM_1 nz).trans ((va_up_ne _ _ (mm_neq m_nz m_vd (mm_nelen (by decide)))).trans m_nz)
              have m_vd : M_1 vd = .inl (dA 1, 1297, .inl (upd vf e0 (vp_nar .byte vb))) := by rw [eM_1]; exact va_up_self _ _ _
              have fr : ∀ q : Nat, q ≠ vd → M_1 q = M q := fun q h0 => (congrFun eM_1 q).trans ((va_up_ne _ _ h0).trans (fr q h0))
              refine lv_iconst (v := 1) hx hb dX0_findLosses_46 (by decide) ?_
              refine lv_topi (fun x2_n ex2_n => ?_)
              refine lv_istore_n (lv' := [(2, .int x2_n), (0, .ref en), (1, .int x), (3, .int x3)]) hx hb dX0_findLosses_47 rfl hl (by decide) rfl (fun ls hl => ?_)
              obtain ⟨x3_n, ex3_n⟩ : ∃ y : Int32, y = x3 + 1 := ⟨_, rfl⟩
              refine lv_iinc (v := x3_n) (lv' := [(3, .int x3_n), (2, .int x2_n), (0, .ref en), (1, .int x)]) hx hb dX0_findLosses_48 hl (k := 3) rfl (by rw [ex3_n]; rfl) (by decide) rfl (fun ls hl => ?_)
              refine lv_goto (tgt := 4) hx hb dX0_findLosses_51 (by decide) ?_
              exact ih (e0 + 1) x2_n x3_n (upd vf e0 vb) M_1 _ _ ls (by omega) (by rw [ex3_n, hx3]; exact nI_1 e0) (Or.inr ex2_n) (by rw [← hres, flK, if_pos c17, if_neg (Nat.ne_of_gt (mm_pos (by omega) (by rw [← hce.1]; exact c26))), if_neg c34, ← evb, ← ex2_n]) hV m_en (by rw [m_vd]; rw [show vp_nar .byte vb = vb from by rw [evb]; exact pk_vb _]) m_ct m_nz fr (lv_sub hl [2, 3, 1, 0] rfl)
  exact LP 1296 0 x2 x3 vf0 M H locs ls rfl (by rw [ex3]; rfl) (Or.inl ex2) (by rw [ex2]; exact eRES.symm) hV m_en m_vd m_ct m_nz (fun q _ => rfl) (lv_sub hl [2, 3, 1, 0] rfl)
end
section
set_option maxHeartbeats 4000000 in
set_option maxRecDepth 100000 in
theorem c_settle (l : Launch) (D : va_G) (dA : Nat → ClassId) {L : List Nat} {M : mm_M} {en vd ct nz : Nat} {vf0 cf nf : Nat → Int32} {CN : Nat → Nat} {NX : Nat → Nat → Nat} (he : enW dA L M en vd ct nz vf0 cf nf) (hc : enC cf nf CN NX) : mm_Cm l D dA yX0_settle wsX0_settle 2 [.ref en] L M (fun M1 => M1 = va_up M vd (.inl (dA 1, 1297, .inl (stK CN NX 1295 1 1 vf0)))) := by
  obtain ⟨i_en, i_vd, i_ct, i_nz, m_en, m_vd, m_ct, m_nz⟩ := he
  obtain ⟨RES, eRES⟩ : ∃ z, z = stK CN NX 1295 1 1 vf0 := ⟨_, rfl⟩
  rw [← eRES]
  refine mm_enter_v (cc := cX0_settle) (maxL := 3) (by decide) rfl (Nat.le_of_ble_eq_true rfl) ?_
  intro p e R s m args below meth c A ls H locs Q hR hx hb hml hin hown hts hK hV hl hret
  have hl : lv_has ls 3 [(0, .ref en)] := hl
  have hown : s.vm.findClass RX0 = some m.cls := hown
  refine lv_iconst (v := 1) hx hb dX0_settle_0 (by decide) ?_
  refine lv_topi (fun x1 ex1 => ?_)
  refine lv_istore_n (lv' := [(1, .int x1), (0, .ref en)]) hx hb dX0_settle_1 rfl hl (by decide) rfl (fun ls hl => ?_)
  refine lv_iconst (v := 1) hx hb dX0_settle_2 (by decide) ?_
  refine lv_topi (fun x2 ex2 => ?_)
  refine lv_istore_n (lv' := [(2, .int x2), (1, .int x1), (0, .ref en)]) hx hb dX0_settle_3 rfl hl (by decide) rfl (fun ls hl => ?_)
  have LP : ∀ (k n : Nat) (x1 x2 : Int32) (vf : Nat → Int32) (M1 : mm_M) (H : Heap) (locs : List Loc) (ls : Array Slot), n + k = 1296 → x2 = nI n → stK CN NX k n x1 vf = RES → mm_V A D L M1 s H locs → M1 en = .inr (0, [.ref vd, .ref ct, .ref nz]) → M1 vd = .inl (dA 1, 1297, .inl vf) → M1 ct = .inl (dA 1, 1296, .inl cf) → M1 nz = .inl (dA 2, 5184, .inl nf) → (∀ q : Nat, q ≠ vd → M1 q = M q) → lv_has ls 3 [(0, .ref en), (1, .int x1), (2, .int x2)] → W p l e R s m args below meth c H locs 0 0 Q (F0 m 4 ls []) := by
    intro k
    induction k with
    | zero =>
      intro n x1 x2 vf M1 H locs ls hnk hx2 hres hV m_en m_vd m_ct m_nz fr hl
      refine lv_iload_n hx hb dX0_settle_4 rfl (lv_at hl 2 rfl) ?_
      refine lv_sipush (v := 1296) hx hb dX0_settle_5 (by decide) ?_
      refine lv_icmp_ge (tgt := 42) hx hb dX0_settle_8 (by decide) (fun c8 => ?_) (fun c8 => ?_)
      · have hres2 : RES = vf := hres.symm
        exact hret dX0_settle_42 hV (by decide) (by decide) ⟨rfl, by rw [hres2]; exact mm_fin1 m_vd fr⟩
      · exact absurd (by rw [hx2]; exact nI_le (a := 1296) (by omega) (by omega)) c8
    | succ k ih =>
      intro n x1 x2 vf M1 H locs ls hnk hx2 hres hV m_en m_vd m_ct m_nz fr hl
      refine lv_iload_n hx hb dX0_settle_4 rfl (lv_at hl 2 rfl) ?_
      refine lv_sipush (v := 1296) hx hb dX0_settle_5 (by decide) ?_
      refine lv_icmp_ge (tgt := 42) hx hb dX0_settle_8 (by decide) (fun c8 => ?_) (fun c8 => ?_)
      · exact absurd c8 (by rw [hx2]; exact nI_ge (b := 1296) (by omega) (by decide))
      · refine lv_iload_n hx hb dX0_settle_11 rfl (lv_at hl 1 rfl) ?_
        refine lv_if_eq (tgt := 42) hx hb dX0_settle_12 (by decide) (fun c12 => ?_) (fun c12 => ?_)
        · have hres2 : RES = vf := by rw [← hres, stK, if_pos c12]
          exact hret dX0_settle_42 hV (by decide) (by decide) ⟨rfl, by rw [hres2]; exact mm_fin1 m_vd fr⟩
        · refine lv_iload_n hx hb dX0_settle_15 rfl (lv_at hl 2 rfl) ?_
          refine lv_iconst (v := 2) hx hb dX0_settle_16 (by decide) ?_
          refine lv_irem hx hb dX0_settle_17 (by decide) ?_
          refine lv_iconst (v := 1) hx hb dX0_settle_18 (by decide) ?_
          refine lv_icmp_ne (tgt := 30) hx hb dX0_settle_19 (by decide) (fun c19 => ?_) (fun c19 => ?_)
          · have hodd : ¬ n % 2 = 1 := fun h => c19 (by rw [hx2]; exact (pk_rem (d := 2) (by omega) (by decide) (by decide)).trans (congrArg nI h))
            refine lv_aload_n hx hb dX0_settle_30 rfl (lv_at hl 0 rfl) ?_
            refine lv_iload_n hx hb dX0_settle_31 rfl (lv_at hl 2 rfl) ?_
            refine mm_Vn (ci := 0) (As := [.int x2]) (rest := []) ⟨hx, hb, hml, hown, hts⟩ hK hV (c_fl l D dA (CN := CN) (NX := NX) x2 ⟨i_en, i_vd, i_ct, i_nz, m_en, m_vd, m_ct, m_nz⟩ hc) (cwV 1 hts gX0_settle_X0_findLosses rfl rfl rfl (by decide +kernel) (mm_levR hR (by omega) (by decide))) i_en m_en rfl rfl hl.1 rfl (Nat.le_of_ble_eq_true rfl) dX0_settle_32 ⟨Nat.zero_le _, Nat.zero_le _⟩ (fun r_2 M_1 H locs hp hV => ?_)
            obtain ⟨er_2, eM_1⟩ := hp
            have m_en : M_1 en = _ := (congrFun eM_1 en).trans ((va_up_ne _ _ (mm_neq m_en m_vd (by intro h; cases h))).trans m_en)
            have m_ct : M_1 ct = _ := (congrFun eM_1 ct).trans ((va_up_ne _ _ (mm_neq m_ct m_vd (mm_nelen (by decide)))).trans m_ct)
            have m_nz : M_1 nz = _ := (congrFun eM_1 nz).trans ((va_up_ne _ _ (mm_neq m_nz m_vd (mm_nelen (by decide)))).trans m_nz)
            have m_vd : M_1 vd = .inl (dA 1, 1297, .inl ((flK x2 CN NX 1296 0 vf 0).1)) := by rw [eM_1]; exact va_up_self _ _ _
            have fr : ∀ q : Nat, q ≠ vd → M_1 q = M q := fun q h0 => (congrFun eM_1 q).trans ((va_up_ne _ _ h0).trans (fr q h0))
            refine lv_istore_n (lv' := [(1, .int r_2), (0, .ref en), (2, .int x2)]) hx hb dX0_settle_35 rfl hl (by decide) rfl (fun ls hl => ?_)
            obtain ⟨x2_n, ex2_n⟩ : ∃ y : Int32, y = x2 + 1 := ⟨_, rfl⟩
            refine lv_iinc (v := x2_n) (lv' := [(2, .int x2_n), (1, .int r_2), (0, .ref en)]) hx hb dX0_settle_36 hl (k := 2) rfl (by rw [ex2_n]; rfl) (by decide) rfl (fun ls hl => ?_)
            refine lv_goto (tgt := 4) hx hb dX0_settle_39 (by decide) ?_
            exact ih (n + 1) r_2 x2_n (flK x2 CN NX 1296 0 vf 0).1 M_1 _ _ ls (by omega) (by rw [ex2_n, hx2]; exact nI_1 n) (by rw [← hres, stK, if_neg c12, if_neg hodd, er_2, hx2]) hV m_en m_vd m_ct m_nz fr (lv_sub hl [2, 1, 0] rfl)
          · have hodd : n % 2 = 1 := by
              rw [hx2] at c19
              exact (nI_eq (by omega) (by decide)).mp ((pk_rem (d := 2) (by omega) (by decide) (by decide)).symm.trans c19)
            refine lv_aload_n hx hb dX0_settle_22 rfl (lv_at hl 0 rfl) ?_
            refine lv_iload_n hx hb dX0_settle_23 rfl (lv_at hl 2 rfl) ?_
            refine mm_Vn (ci := 0) (As := [.int x2]) (rest := []) ⟨hx, hb, hml, hown, hts⟩ hK hV (c_fw l D dA (CN := CN) (NX := NX) x2 ⟨i_en, i_vd, i_ct, i_nz, m_en, m_vd, m_ct, m_nz⟩ hc) (cwV 1 hts gX0_settle_X0_findWins rfl rfl rfl (by decide +kernel) (mm_levR hR (by omega) (by decide))) i_en m_en rfl rfl hl.1 rfl (Nat.le_of_ble_eq_true rfl) dX0_settle_24 ⟨Nat.zero_le _, Nat.zero_le _⟩ (fun r_4 M_3 H locs hp hV => ?_)
            obtain ⟨er_4, eM_3⟩ := hp
            have m_en : M_3 en = _ := (congrFun eM_3 en).trans ((va_up_ne _ _ (mm_neq m_en m_vd (by intro h; cases h))).trans m_en)
            have m_ct : M_3 ct = _ := (congrFun eM_3 ct).trans ((va_up_ne _ _ (mm_neq m_ct m_vd (mm_nelen (by decide)))).trans m_ct)
            have m_nz : M_3 nz = _ := (congrFun eM_3 nz).trans ((va_up_ne _ _ (mm_neq m_nz m_vd (mm_nelen (by decide)))).trans m_nz)
            have m_vd : M_3 vd = .inl (dA 1, 1297, .inl ((fwK x2 CN NX 1296 0 vf 0).1)) := by rw [eM_3]; exact va_up_self _ _ _
            have fr : ∀ q : Nat, q ≠ vd → M_3 q = M q := fun q h0 => (congrFun eM_3 q).trans ((va_up_ne _ _ h0).trans (fr q h0))
            refine lv_goto (tgt := 35) hx hb dX0_settle_27 (by decide) ?_
            refine lv_istore_n (lv' := [(1, .int r_4), (0, .ref en), (2, .int x2)]) hx hb dX0_settle_35 rfl hl (by decide) rfl (fun ls hl => ?_)
            obtain ⟨x2_n, ex2_n⟩ : ∃ y : Int32, y = x2 + 1 := ⟨_, rfl⟩
            refine lv_iinc (v := x2_n) (lv' := [(2, .int x2_n), (1, .int r_4), (0, .ref en)]) hx hb dX0_settle_36 hl (k := 2) rfl (by rw [ex2_n]; rfl) (by decide) rfl (fun ls hl => ?_)
            refine lv_goto (tgt := 4) hx hb dX0_settle_39 (by decide) ?_
            exact ih (n + 1) r_4 x2_n (fwK x2 CN NX 1296 0 vf 0).1 M_3 _ _ ls (by omega) (by rw [ex2_n, hx2]; exact nI_1 n) (by rw [← hres, stK, if_neg c12, if_pos hodd, er_4, hx2]) hV m_en m_vd m_ct m_nz fr (lv_sub hl [2, 1, 0] rfl)
  exact LP 1295 1 x1 x2 vf0 M H locs ls rfl (by rw [ex2]; rfl) (by rw [ex1]; exact eRES.symm) hV m_en m_vd m_ct m_nz (fun q _ => rfl) (lv_sub hl [2, 1, 0] rfl)

set_option maxHeartbeats 4000000 in
set_option maxRecDepth 100000 in
theorem c_look (l : Launch) (D : va_G) (dA : Nat → ClassId) {L : List Nat} {M : mm_M} {en vd ct nz a : Nat} {vf cf nf : Nat → Int32} {P : Ps} {q0 : Nat} (he : enW dA L M en vd ct nz vf cf nf) (i_a : a ∈ L) (m_a : M a = oP P) (hq : numF P = nI q0) (hq2 : q0 ≤ 1296) : mm_Cp l D dA yX0_look wsX0_look 3 [.ref en, .ref a] L M (vf q0) := by
  obtain ⟨i_en, i_vd, i_ct, i_nz, m_en, m_vd, m_ct, m_nz⟩ := he
  have m_a : M a = .inr (2, [.int P.1, .int P.2.1, .int P.2.2.1, .int P.2.2.2.1, .int P.2.2.2.2]) := m_a
  refine mm_enter_i (cc := cX0_look) (maxL := 2) (by decide) rfl (Nat.le_of_ble_eq_true rfl) ?_
  intro p e R s m args below meth c A ls H locs Q hR hx hb hml hin hown hts hK hV hl hret
  have hl : lv_has ls 2 [(0, .ref en), (1, .ref a)] := hl
  have hown : s.vm.findClass RX0 = some m.cls := hown
  have f_11 := hts (.fieldLink RX0 11 "JumpBoard$Endings" "verdicts" "[B") (by decide +kernel)
  have in_X0 : ∀ w ∈ wsX00, w ∈ wsX0_look := by decide +kernel
  refine lv_aload_n hx hb dX0_look_0 rfl (lv_at hl 0 rfl) ?_
  refine mm_get (ci := 0) (C := RX0) (T := TX0) (N := 3) hx hb hts in_X0 hown hK hV i_en m_en rfl 0 (by decide) f_11 (fun _ h => h) rfl dX0_look_1 ?_
  refine lv_aload_n hx hb dX0_look_4 rfl (lv_at hl 1 rfl) ?_
  refine mm_Sp (v := (numF P)) (As := [.ref a]) (rest := [.ref vd]) ⟨hx, hb, hml, hown, hts⟩ hK hV (c_number l D dA (P := P) i_a m_a) (va_cwS 1 hts gX0_look_X0_number rfl rfl rfl (by decide +kernel) (mm_levR hR (by omega) (by decide))) rfl hl.1 rfl (Nat.le_of_ble_eq_true rfl) dX0_look_5 ⟨Nat.zero_le _, Nat.zero_le _⟩ (fun H locs hV => ?_)
  refine mm_baldN (j := q0) hx hb hK hV i_vd m_vd hq (by omega) (by decide) dX0_look_8 ?_
  exact hret (v := vf q0) dX0_look_9 hV (by decide) (by decide) ⟨rfl, rfl, rfl⟩

/-- how many moves are noted; what stands in the row then -/
def mnF (n : Nat) : Nat := if n < 4 then n else 4
def ntF (g : Nat → Int32) (e : Nat) (P : Ps) (f : Nat → Int32) (c : Nat) : Nat → Int32 := fun q => if 4 * e ≤ q ∧ q < 4 * e + c then (numF (followP P (f (q - 4 * e)))).toInt16.toInt32 else g q
theorem ntF_0 (g : Nat → Int32) (e : Nat) (P : Ps) (f : Nat → Int32) : ntF g e P f 0 = g := by
  funext q; unfold ntF; rw [if_neg (by omega)]
theorem ntF_s (g : Nat → Int32) (e : Nat) (P : Ps) (f : Nat → Int32) (c : Nat) : upd (ntF g e P f c) (4 * e + c) ((numF (followP P (f c))).toInt16.toInt32) = ntF g e P f (c + 1) := by
  funext q
  by_cases hq : q = 4 * e + c
  · subst hq
    rw [pk_us]; unfold ntF
    rw [if_pos (by omega), show 4 * e + c - 4 * e = c by omega]
  · rw [pk_un hq]; unfold ntF
    by_cases h : 4 * e ≤ q ∧ q < 4 * e + c
    · rw [if_pos h, if_pos (by omega)]
    · rw [if_neg h, if_neg (by omega)]
theorem mn_eq {n : Nat} (h : n ≤ 72) : (if (4 : Int32) < nI n then (4 : Int32) else nI n) = nI (mnF n) := by
  unfold mnF
  rw [show (4 : Int32) = nI 4 from rfl]
  by_cases h4 : 4 < n
  · rw [if_pos (nI_lt (a := 4) h4 (by omega)), if_neg (by omega)]
  · rw [if_neg (nI_nlt (a := 4) (b := n) (by omega) (by decide))]
    by_cases h5 : n < 4
    · rw [if_pos h5]
    · rw [if_neg h5, show n = 4 by omega]

theorem bt_small {c : Nat} (h : c ≤ 4) : (nI c).toInt8.toInt32 = nI c := by
  rcases (show c = 0 ∨ c = 1 ∨ c = 2 ∨ c = 3 ∨ c = 4 by omega) with rfl | rfl | rfl | rfl | rfl <;> decide +kernel

set_option maxHeartbeats 4000000 in
set_option maxRecDepth 100000 in
theorem c_note (l : Launch) (D : va_G) (dA : Nat → ClassId) {L : List Nat} {M : mm_M} {en vd ct nz a b t pk : Nat} {vf cf nf f : Nat → Int32} {n e0 : Nat} {P P2 : Ps} (x : Int32) (hxe : x = nI e0) (he0 : e0 < 1296) (hab : a ≠ b) (he : enW dA L M en vd ct nz vf cf nf) (i_a : a ∈ L) (m_a : M a = oP P) (i_b : b ∈ L) (m_b : M b = oP P2) (hli : liW dA L M t pk f n) : mm_Cm l D dA yX0_note wsX0_note 3 [.ref en, .int x, .ref a, .ref t, .ref b] L M (fun M1 => (∃ Q, M1 b = oP Q) ∧ M1 nz = .inl (dA 2, 5184, .inl (ntF nf e0 P f (mnF n))) ∧ M1 ct = .inl (dA 1, 1296, .inl (upd cf e0 (nI (mnF n)))) ∧ M1 vd = .inl (dA 1, 1297, .inl (if mnF n = 0 then upd vf e0 (-100) else vf)) ∧ ∀ q : Nat, q ≠ b → q ≠ nz → q ≠ ct → q ≠ vd → M1 q = M q) := by
  obtain ⟨i_en, i_vd, i_ct, i_nz, m_en, m_vd, m_ct, m_nz⟩ := he
  obtain ⟨i_t, i_pk, m_t, m_pk, hn⟩ := hli
  have m_a : M a = .inr (2, [.int P.1, .int P.2.1, .int P.2.2.1, .int P.2.2.2.1, .int P.2.2.2.2]) := m_a
  have m_b : M b = .inr (2, [.int P2.1, .int P2.2.1, .int P2.2.2.1, .int P2.2.2.2.1, .int P2.2.2.2.2]) := m_b
  have m_t : M t = .inr (1, [.ref pk, .int (nI n)]) := m_t
  refine mm_enter_v (cc := cX0_note) (maxL := 7) (by decide) rfl (Nat.le_of_ble_eq_true rfl) ?_
  intro p e R s m args below meth c A ls H locs Q hR hx hb hml hin hown hts hK hV hl hret
  have hl : lv_has ls 7 [(0, .ref en), (1, .int x), (2, .ref a), (3, .ref t), (4, .ref b)] := hl
  have hown : s.vm.findClass RX0 = some m.cls := hown
  have f_82 := hts (.fieldLink RX0 82 "JumpBoard$MoveList" "count" "I") (by decide +kernel)
  have in_X1 : ∀ w ∈ wsX10, w ∈ wsX0_note := by decide +kernel
  have f_15 := hts (.fieldLink RX0 15 "JumpBoard$Endings" "counts" "[B") (by decide +kernel)
  have in_X0 : ∀ w ∈ wsX00, w ∈ wsX0_note := by decide +kernel
  have f_11 := hts (.fieldLink RX0 11 "JumpBoard$Endings" "verdicts" "[B") (by decide +kernel)
  have f_91 := hts (.fieldLink RX0 91 "JumpBoard$MoveList" "packed" "[I") (by decide +kernel)
  have f_18 := hts (.fieldLink RX0 18 "JumpBoard$Endings" "nexts" "[S") (by decide +kernel)
  refine lv_aload_n hx hb dX0_note_0 rfl (lv_at hl 3 rfl) ?_
  refine mm_get (ci := 1) (C := RX1) (T := TX1) (N := 2) hx hb hts in_X1 hown hK hV i_t m_t rfl 1 (by decide) f_82 (fun _ h => h) rfl dX0_note_1 ?_
  refine lv_iconst (v := 4) hx hb dX0_note_4 (by decide) ?_
  refine va_mmin hx hb (hml.trans hl.1.symm) hown (hts (.methodLink RX0 85 Lib.Math.min.name) (by decide +kernel)) (hts (.static Lib.Math.min.name) (by decide +kernel)) (hts (.initialized "java/lang/Math") (by decide +kernel)) (hts (.code Lib.Math.min.name Lib.Math.min.code 2 (some .int)) (by decide +kernel)) (by rw [hR]; decide) (by rw [hR]; exact Nat.le_of_ble_eq_true rfl) (by rw [hR]; exact Nat.le_refl _) (by rw [hR]; exact Nat.le_refl _) dX0_note_5 ?_
  refine lv_topi (fun x5 ex5 => ?_)
  refine lv_istore (lv' := [(5, .int x5), (0, .ref en), (1, .int x), (2, .ref a), (3, .ref t), (4, .ref b)]) hx hb dX0_note_8 hl (by decide) rfl (fun ls hl => ?_)
  have hx5 : x5 = nI (mnF n) := by rw [ex5]; exact mn_eq hn
  have hmn : mnF n ≤ 4 ∧ mnF n ≤ n := by unfold mnF; split <;> omega
  refine lv_iconst (v := 0) hx hb dX0_note_10 (by decide) ?_
  refine lv_topi (fun x6 ex6 => ?_)
  refine lv_istore (lv' := [(6, .int x6), (5, .int x5), (0, .ref en), (1, .int x), (2, .ref a), (3, .ref t), (4, .ref b)]) hx hb dX0_note_11 hl (by decide) rfl (fun ls hl => ?_)
  have LP : ∀ (k c0 : Nat) (x6 : Int32) (P2 : Ps) (M1 : mm_M) (H : Heap) (locs : List Loc) (ls : Array Slot), c0 + k = mnF n → x6 = nI c0 → mm_V A D L M1 s H locs → M1 en = .inr (0, [.ref vd, .ref ct, .ref nz]) → M1 vd = .inl (dA 1, 1297, .inl vf) → M1 ct = .inl (dA 1, 1296, .inl cf) → M1 nz = .inl (dA 2, 5184, .inl (ntF nf e0 P f c0)) → M1 a = .inr (2, [.int P.1, .int P.2.1, .int P.2.2.1, .int P.2.2.2.1, .int P.2.2.2.2]) → M1 b = .inr (2, [.int P2.1, .int P2.2.1, .int P2.2.2.1, .int P2.2.2.2.1, .int P2.2.2.2.2]) → M1 t = .inr (1, [.ref pk, .int (nI n)]) → M1 pk = .inl (dA 0, 72, .inl f) → (∀ q : Nat, q ≠ b → q ≠ nz → M1 q = M q) → lv_has ls 7 [(0, .ref en), (1, .int x), (2, .ref a), (3, .ref t), (4, .ref b), (5, .int x5), (6, .int x6)] → W p l e R s m args below meth c H locs 0 0 Q (F0 m 13 ls []) := by
    intro k
    induction k with
    | zero =>
      intro c0 x6 P2 M1 H locs ls hck hx6 hV m_en m_vd m_ct m_nz m_a m_b m_t m_pk fr hl
      refine lv_iload hx hb dX0_note_13 (lv_at hl 6 rfl) ?_
      refine lv_iload hx hb dX0_note_15 (lv_at hl 5 rfl) ?_
      refine lv_icmp_ge (tgt := 56) hx hb dX0_note_17 (by decide) (fun c17 => ?_) (fun c17 => ?_)
      · have hc0 : c0 = mnF n := by omega
        subst hc0
        refine lv_aload_n hx hb dX0_note_56 rfl (lv_at hl 0 rfl) ?_
        refine mm_get (ci := 0) (C := RX0) (T := TX0) (N := 3) hx hb hts in_X0 hown hK hV i_en m_en rfl 1 (by decide) f_15 (fun _ h => h) rfl dX0_note_57 ?_
        refine lv_iload_n hx hb dX0_note_60 rfl (lv_at hl 1 rfl) ?_
        refine lv_iload hx hb dX0_note_61 (lv_at hl 5 rfl) ?_
        refine lv_i2b hx hb dX0_note_63 rfl ?_
        refine lv_topi (fun vb evb => ?_)
        refine mm_bastN (j := e0) (x := vb) hx hb hK hV i_ct m_ct hxe (by omega) (by decide) dX0_note_64 (fun M_1 H locs eM_1 hV => ?_)
        have m_en : M_1 en = _ := (congrFun eM_1 en).trans ((va_up_ne _ _ (mm_neq m_en m_ct (by intro h; cases h))).trans m_en)
        have m_vd : M_1 vd = _ := (congrFun eM_1 vd).trans ((va_up_ne _ _ (mm_neq m_vd m_ct (mm_nelen (by decide)))).trans m_vd)
        have m_nz : M_1 nz = _ := (congrFun eM_1 nz).trans ((va_up_ne _ _ (mm_neq m_nz m_ct (mm_nelen (by decide)))).trans m_nz)
        have m_a : M_1 a = _ := (congrFun eM_1 a).trans ((va_up_ne _ _ (mm_neq m_a m_ct (by intro h; cases h))).trans m_a)
        have m_b : M_1 b = _ := (congrFun eM_1 b).trans ((va_up_ne _ _ (mm_neq m_b m_ct (by intro h; cases h))).trans m_b)
        have m_t : M_1 t = _ := (congrFun eM_1 t).trans ((va_up_ne _ _ (mm_neq m_t m_ct (by intro h; cases h))).trans m_t)
        have m_pk : M_1 pk = _ := (congrFun eM_1 pk).trans ((va_up_ne _ _ (mm_neq m_pk m_ct (mm_nelen (by decide)))).trans m_pk)
        have m_ct : M_1 ct = .inl (dA 1, 1296, .inl (upd cf e0 (vp_nar .byte vb))) := by rw [eM_1]; exact va_up_self _ _ _
        have fr : ∀ q : Nat, q ≠ b → q ≠ nz → q ≠ ct → M_1 q = M q := fun q h0 h1 h2 => (congrFun eM_1 q).trans ((va_up_ne _ _ h2).trans (fr q h0 h1))
        have hvb : vp_nar .byte vb = nI (mnF n) := by rw [evb, pk_vb, hx5]; exact bt_small hmn.1
        refine lv_iload hx hb dX0_note_65 (lv_at hl 5 rfl) ?_
        refine lv_if_ne (tgt := 78) hx hb dX0_note_67 (by decide) (fun c67 => ?_) (fun c67 => ?_)
        · have hm0 : ¬ mnF n = 0 := fun h => c67 (by rw [hx5, h]; rfl)
          exact hret dX0_note_78 hV (by decide) (by decide) ⟨rfl, ⟨_, m_b⟩, by rw [m_nz], by rw [m_ct, hvb], by rw [m_vd, if_neg hm0], fun q h0 h1 h2 h3 => fr q h0 h1 h2⟩
        · have hm0 : mnF n = 0 := (nI_eq (b := 0) (by omega) (by decide)).mp (by rw [← hx5]; exact c67)
          refine lv_aload_n hx hb dX0_note_70 rfl (lv_at hl 0 rfl) ?_
          refine mm_get (ci := 0) (C := RX0) (T := TX0) (N := 3) hx hb hts in_X0 hown hK hV i_en m_en rfl 0 (by decide) f_11 (fun _ h => h) rfl dX0_note_71 ?_
          refine lv_iload_n hx hb dX0_note_74 rfl (lv_at hl 1 rfl) ?_
          refine lv_bipush (v := (-100)) hx hb dX0_note_75 (by decide) ?_
          refine mm_bastN (j := e0) (x := (-100)) hx hb hK hV i_vd m_vd hxe (by omega) (by decide) dX0_note_77 (fun M_2 H locs eM_2 hV => ?_)
          have m_en : M_2 en = _ := (congrFun eM_2 en).trans ((va_up_ne _ _ (mm_neq m_en m_vd (by intro h; cases h))).trans m_en)
          have m_ct : M_2 ct = _ := (congrFun eM_2 ct).trans ((va_up_ne _ _ (mm_neq m_ct m_vd (mm_nelen (by decide)))).trans m_ct)
          have m_nz : M_2 nz = _ := (congrFun eM_2 nz).trans ((va_up_ne _ _ (mm_neq m_nz m_vd (mm_nelen (by decide)))).trans m_nz)
          have m_a : M_2 a = _ := (congrFun eM_2 a).trans ((va_up_ne _ _ (mm_neq m_a m_vd (by intro h; cases h))).trans m_a)
          have m_b : M_2 b = _ := (congrFun eM_2 b).trans ((va_up_ne _ _ (mm_neq m_b m_vd (by intro h; cases h))).trans m_b)
          have m_t : M_2 t = _ := (congrFun eM_2 t).trans ((va_up_ne _ _ (mm_neq m_t m_vd (by intro h; cases h))).trans m_t)
          have m_pk : M_2 pk = _ := (congrFun eM_2 pk).trans ((va_up_ne _ _ (mm_neq m_pk m_vd (mm_nelen (by decide)))).trans m_pk)
          have m_vd : M_2 vd = .inl (dA 1, 1297, .inl (upd vf e0 (vp_nar .byte (-100)))) := by rw [eM_2]; exact va_up_self _ _ _
          have fr : ∀ q : Nat, q ≠ b → q ≠ nz → q ≠ ct → q ≠ vd → M_2 q = M q := fun q h0 h1 h2 h3 => (congrFun eM_2 q).trans ((va_up_ne _ _ h3).trans (fr q h0 h1 h2))
          exact hret dX0_note_78 hV (by decide) (by decide) ⟨rfl, ⟨_, m_b⟩, by rw [m_nz], by rw [m_ct, hvb], by rw [m_vd, if_pos hm0]; rfl, fun q h0 h1 h2 h3 => fr q h0 h1 h2 h3⟩
      · exact absurd (by rw [hx6, hx5]; exact nI_le (by omega) (by omega)) c17
    | succ k ih =>
      intro c0 x6 P2 M1 H locs ls hck hx6 hV m_en m_vd m_ct m_nz m_a m_b m_t m_pk fr hl
      refine lv_iload hx hb dX0_note_13 (lv_at hl 6 rfl) ?_
      refine lv_iload hx hb dX0_note_15 (lv_at hl 5 rfl) ?_
      refine lv_icmp_ge (tgt := 56) hx hb dX0_note_17 (by decide) (fun c17 => ?_) (fun c17 => ?_)
      · exact absurd c17 (by rw [hx6, hx5]; exact nI_ge (by omega) (by omega))
      · refine lv_aload hx hb dX0_note_20 (lv_at hl 4 rfl) ?_
        refine lv_aload_n hx hb dX0_note_22 rfl (lv_at hl 2 rfl) ?_
        refine lv_aload_n hx hb dX0_note_23 rfl (lv_at hl 3 rfl) ?_
        refine mm_get (ci := 1) (C := RX1) (T := TX1) (N := 2) hx hb hts in_X1 hown hK hV i_t m_t rfl 0 (by decide) f_91 (fun _ h => h) rfl dX0_note_24 ?_
        refine lv_iload hx hb dX0_note_27 (lv_at hl 6 rfl) ?_
        refine mm_ialdN (j := c0) hx hb hK hV i_pk m_pk hx6 (by omega) (by decide) dX0_note_29 ?_
        refine mm_Vm (ci := 2) (As := [.ref a, .int (f c0)]) (rest := []) ⟨hx, hb, hml, hown, hts⟩ hK hV (c_follow l D dA (P0 := P2) (P := P) (f c0) (Ne.symm hab) i_b i_a m_b m_a) (cwV 2 hts gX0_note_X2_follow rfl rfl rfl (by decide +kernel) (mm_levR hR (by omega) (by decide))) i_b m_b rfl rfl hl.1 rfl (Nat.le_of_ble_eq_true rfl) dX0_note_30 ⟨Nat.zero_le _, Nat.zero_le _⟩ (fun M_3 H locs eM_3 hV => ?_)
        have m_en : M_3 en = _ := (congrFun eM_3 en).trans ((va_up_ne _ _ (mm_neq m_en m_b (by intro h; cases h))).trans m_en)
        have m_vd : M_3 vd = _ := (congrFun eM_3 vd).trans ((va_up_ne _ _ (mm_neq m_vd m_b (by intro h; cases h))).trans m_vd)
        have m_ct : M_3 ct = _ := (congrFun eM_3 ct).trans ((va_up_ne _ _ (mm_neq m_ct m_b (by intro h; cases h))).trans m_ct)
        have m_nz : M_3 nz = _ := (congrFun eM_3 nz).trans ((va_up_ne _ _ (mm_neq m_nz m_b (by intro h; cases h))).trans m_nz)
        have m_a : M_3 a = _ := (congrFun eM_3 a).trans ((va_up_ne _ _ hab).trans m_a)
        have m_t : M_3 t = _ := (congrFun eM_3 t).trans ((va_up_ne _ _ (mm_neq m_t m_b (by intro h; cases h))).trans m_t)
        have m_pk : M_3 pk = _ := (congrFun eM_3 pk).trans ((va_up_ne _ _ (mm_neq m_pk m_b (by intro h; cases h))).trans m_pk)
        have m_b : M_3 b = .inr (2, [.int ((followP P (f c0)).1), .int ((followP P (f c0)).2.1), .int ((followP P (f c0)).2.2.1), .int ((followP P (f c0)).2.2.2.1), .int ((followP P (f c0)).2.2.2.2)]) := by rw [eM_3]; exact va_up_self _ _ _
        have fr : ∀ q : Nat, q ≠ b → q ≠ nz → M_3 q = M q := fun q h0 h1 => (congrFun eM_3 q).trans ((va_up_ne _ _ h0).trans (fr q h0 h1))
        refine lv_aload_n hx hb dX0_note_33 rfl (lv_at hl 0 rfl) ?_
        refine mm_get (ci := 0) (C := RX0) (T := TX0) (N := 3) hx hb hts in_X0 hown hK hV i_en m_en rfl 2 (by decide) f_18 (fun _ h => h) rfl dX0_note_34 ?_
        refine lv_iload_n hx hb dX0_note_37 rfl (lv_at hl 1 rfl) ?_
        refine lv_iconst (v := 4) hx hb dX0_note_38 (by decide) ?_
        refine lv_imul hx hb dX0_note_39 ?_
        refine lv_iload hx hb dX0_note_40 (lv_at hl 6 rfl) ?_
        refine lv_iadd hx hb dX0_note_42 ?_
        refine lv_aload hx hb dX0_note_43 (lv_at hl 4 rfl) ?_
        refine mm_Sp (v := (numF (followP P (f c0)))) (As := [.ref b]) (rest := [.int ((x * 4) + x6), .ref nz]) ⟨hx, hb, hml, hown, hts⟩ hK hV (c_number l D dA (P := (followP P (f c0))) i_b m_b) (va_cwS 1 hts gX0_note_X0_number rfl rfl rfl (by decide +kernel) (mm_levR hR (by omega) (by decide))) rfl hl.1 rfl (Nat.le_of_ble_eq_true rfl) dX0_note_45 ⟨Nat.zero_le _, Nat.zero_le _⟩ (fun H locs hV => ?_)
        refine lv_i2s hx hb dX0_note_48 rfl ?_
        refine lv_topi (fun vs evs => ?_)
        refine mm_sastN (j := (4 * e0 + c0)) (x := vs) hx hb hK hV i_nz m_nz (ixN hxe hx6) (by omega) (by decide) dX0_note_49 (fun M_4 H locs eM_4 hV => ?_)
        have m_en : M_4 en = _ := (congrFun eM_4 en).trans ((va_up_ne _ _ (mm_neq m_en m_nz (by intro h; cases h))).trans m_en)
        have m_vd : M_4 vd = _ := (congrFun eM_4 vd).trans ((va_up_ne _ _ (mm_neq m_vd m_nz (mm_nelen (by decide)))).trans m_vd)
        have m_ct : M_4 ct = _ := (congrFun eM_4 ct).trans ((va_up_ne _ _ (mm_neq m_ct m_nz (mm_nelen (by decide)))).trans m_ct)
        have m_a : M_4 a = _ := (congrFun eM_4 a).trans ((va_up_ne _ _ (mm_neq m_a m_nz (by intro h; cases h))).trans m_a)
        have m_b : M_4 b = _ := (congrFun eM_4 b).trans ((va_up_ne _ _ (mm_neq m_b m_nz (by intro h; cases h))).trans m_b)
        have m_t : M_4 t = _ := (congrFun eM_4 t).trans ((va_up_ne _ _ (mm_neq m_t m_nz (by intro h; cases h))).trans m_t)
        have m_pk : M_4 pk = _ := (congrFun eM_4 pk).trans ((va_up_ne _ _ (mm_neq m_pk m_nz (mm_nelen (by decide)))).trans m_pk)
        have m_nz : M_4 nz = .inl (dA 2, 5184, .inl (upd (ntF nf e0 P f c0) (4 * e0 + c0) (vp_nar .short vs))) := by rw [eM_4]; exact va_up_self _ _ _
        have fr : ∀ q : Nat, q ≠ b → q ≠ nz → M_4 q = M q := fun q h0 h1 => (congrFun eM_4 q).trans ((va_up_ne _ _ h1).trans (fr q h0 h1))
        obtain ⟨x6_n, ex6_n⟩ : ∃ y : Int32, y = x6 + 1 := ⟨_, rfl⟩
        refine lv_iinc (v := x6_n) (lv' := [(6, .int x6_n), (0, .ref en), (1, .int x), (2, .ref a), (3, .ref t), (4, .ref b), (5, .int x5)]) hx hb dX0_note_50 hl (k := 6) rfl (by rw [ex6_n]; rfl) (by decide) rfl (fun ls hl => ?_)
        refine lv_goto (tgt := 13) hx hb dX0_note_53 (by decide) ?_
        exact ih (c0 + 1) x6_n (followP P (f c0)) M_4 _ _ ls (by omega) (by rw [ex6_n, hx6]; exact nI_1 c0) hV m_en m_vd m_ct (by rw [m_nz, evs, pk_vs, ntF_s]) m_a m_b m_t m_pk fr (lv_sub hl [1, 2, 3, 4, 5, 6, 0] rfl)
  exact LP (mnF n) 0 x6 P2 M H locs ls (by omega) (by rw [ex6]; rfl) hV m_en m_vd m_ct (by rw [m_nz, ntF_0]) m_a m_b m_t m_pk (fun q _ _ => rfl) (lv_sub hl [2, 3, 4, 5, 6, 1, 0] rfl)
end

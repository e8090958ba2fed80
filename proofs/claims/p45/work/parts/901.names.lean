-- ===== PART A: goes FIRST, ahead of the names: the tables' words, and 'selects' of the private methods out of them =====
/-- a private method of a class that the tables say can be made, by its rows of tables_1 -/
def lw_okq (q : MethodName × Nat) : Prop := (q.1.cls ≠ "java/lang/invoke/MethodHandle" ∧ q.1.cls ≠ "java/lang/invoke/VarHandle") ∧ Cond.instantiable q.1.cls q.2 ∈ tables_1 ∧ Cond.privateMethod q.1 ∈ tables_1 ∧ Cond.instanceMethod q.1 ∈ tables_1
theorem lw_p0 : lw_okq (⟨"FirstWords", "takeShowing", "(IIZ)V"⟩, 10) := ⟨⟨by decide +kernel, by decide +kernel⟩, List.mem_of_getElem? (i := 15) (by decide +kernel), List.mem_of_getElem? (i := 355) (by decide +kernel), List.mem_of_getElem? (i := 356) (by decide +kernel)⟩
theorem lw_p1 : lw_okq (⟨"FirstWords$Minds", "frighten", "(I)V"⟩, 6) := ⟨⟨by decide +kernel, by decide +kernel⟩, List.mem_of_getElem? (i := 200) (by decide +kernel), List.mem_of_getElem? (i := 379) (by decide +kernel), List.mem_of_getElem? (i := 380) (by decide +kernel)⟩
theorem lw_p2 : lw_okq (⟨"FirstWords$Minds", "look", "(LFirstWords$Told;IIIZ)Z"⟩, 6) := ⟨⟨by decide +kernel, by decide +kernel⟩, List.mem_of_getElem? (i := 200) (by decide +kernel), List.mem_of_getElem? (i := 383) (by decide +kernel), List.mem_of_getElem? (i := 384) (by decide +kernel)⟩
theorem lw_p3 : lw_okq (⟨"FirstWords$Minds", "holdOrTurn", "(IIZ)V"⟩, 6) := ⟨⟨by decide +kernel, by decide +kernel⟩, List.mem_of_getElem? (i := 200) (by decide +kernel), List.mem_of_getElem? (i := 399) (by decide +kernel), List.mem_of_getElem? (i := 400) (by decide +kernel)⟩
theorem lw_p4 : lw_okq (⟨"FirstWords", "thinkAgain", "()V"⟩, 10) := ⟨⟨by decide +kernel, by decide +kernel⟩, List.mem_of_getElem? (i := 15) (by decide +kernel), List.mem_of_getElem? (i := 422) (by decide +kernel), List.mem_of_getElem? (i := 423) (by decide +kernel)⟩
theorem lw_p5 : lw_okq (⟨"FirstWords", "imagesKept", "()I"⟩, 10) := ⟨⟨by decide +kernel, by decide +kernel⟩, List.mem_of_getElem? (i := 15) (by decide +kernel), List.mem_of_getElem? (i := 524) (by decide +kernel), List.mem_of_getElem? (i := 525) (by decide +kernel)⟩
theorem lw_p6 : lw_okq (⟨"FirstWords$Tape", "nextToken", "()V"⟩, 9) := ⟨⟨by decide +kernel, by decide +kernel⟩, List.mem_of_getElem? (i := 23) (by decide +kernel), List.mem_of_getElem? (i := 595) (by decide +kernel), List.mem_of_getElem? (i := 596) (by decide +kernel)⟩
theorem lw_p7 : lw_okq (⟨"FirstWords$Tape", "byteAt", "(I)I"⟩, 9) := ⟨⟨by decide +kernel, by decide +kernel⟩, List.mem_of_getElem? (i := 23) (by decide +kernel), List.mem_of_getElem? (i := 599) (by decide +kernel), List.mem_of_getElem? (i := 600) (by decide +kernel)⟩
theorem lw_p8 : lw_okq (⟨"FirstWords$Tape", "tokenAt", "(I)I"⟩, 9) := ⟨⟨by decide +kernel, by decide +kernel⟩, List.mem_of_getElem? (i := 23) (by decide +kernel), List.mem_of_getElem? (i := 603) (by decide +kernel), List.mem_of_getElem? (i := 604) (by decide +kernel)⟩
theorem lw_p9 : lw_okq (⟨"FirstWords$Tape", "blame", "(I)V"⟩, 9) := ⟨⟨by decide +kernel, by decide +kernel⟩, List.mem_of_getElem? (i := 23) (by decide +kernel), List.mem_of_getElem? (i := 607) (by decide +kernel), List.mem_of_getElem? (i := 608) (by decide +kernel)⟩
theorem lw_p10 : lw_okq (⟨"FirstWords$Tape", "readLine", "(LFirstWords$Told;)V"⟩, 9) := ⟨⟨by decide +kernel, by decide +kernel⟩, List.mem_of_getElem? (i := 23) (by decide +kernel), List.mem_of_getElem? (i := 611) (by decide +kernel), List.mem_of_getElem? (i := 612) (by decide +kernel)⟩
theorem lw_p11 : lw_okq (⟨"FirstWords$Tape", "sortNamed", "()I"⟩, 9) := ⟨⟨by decide +kernel, by decide +kernel⟩, List.mem_of_getElem? (i := 23) (by decide +kernel), List.mem_of_getElem? (i := 615) (by decide +kernel), List.mem_of_getElem? (i := 616) (by decide +kernel)⟩
theorem lw_p12 : lw_okq (⟨"FirstWords$Tape", "isNamed", "(Ljava/lang/String;)Z"⟩, 9) := ⟨⟨by decide +kernel, by decide +kernel⟩, List.mem_of_getElem? (i := 23) (by decide +kernel), List.mem_of_getElem? (i := 620) (by decide +kernel), List.mem_of_getElem? (i := 621) (by decide +kernel)⟩
theorem lw_p13 : lw_okq (⟨"FirstWords$Tape", "readThing", "(LFirstWords$Told;)V"⟩, 9) := ⟨⟨by decide +kernel, by decide +kernel⟩, List.mem_of_getElem? (i := 23) (by decide +kernel), List.mem_of_getElem? (i := 676) (by decide +kernel), List.mem_of_getElem? (i := 677) (by decide +kernel)⟩
theorem lw_p14 : lw_okq (⟨"FirstWords$Tape", "takeLetters", "(I)I"⟩, 9) := ⟨⟨by decide +kernel, by decide +kernel⟩, List.mem_of_getElem? (i := 23) (by decide +kernel), List.mem_of_getElem? (i := 680) (by decide +kernel), List.mem_of_getElem? (i := 681) (by decide +kernel)⟩
theorem lw_p15 : lw_okq (⟨"FirstWords$Tape", "readMeaning", "(LFirstWords$Told;)V"⟩, 9) := ⟨⟨by decide +kernel, by decide +kernel⟩, List.mem_of_getElem? (i := 23) (by decide +kernel), List.mem_of_getElem? (i := 690) (by decide +kernel), List.mem_of_getElem? (i := 691) (by decide +kernel)⟩
def lw_privs_1 : List (MethodName × Nat) := [(⟨"FirstWords", "takeShowing", "(IIZ)V"⟩, 10), (⟨"FirstWords$Minds", "frighten", "(I)V"⟩, 6), (⟨"FirstWords$Minds", "look", "(LFirstWords$Told;IIIZ)Z"⟩, 6), (⟨"FirstWords$Minds", "holdOrTurn", "(IIZ)V"⟩, 6), (⟨"FirstWords", "thinkAgain", "()V"⟩, 10), (⟨"FirstWords", "imagesKept", "()I"⟩, 10), (⟨"FirstWords$Tape", "nextToken", "()V"⟩, 9), (⟨"FirstWords$Tape", "byteAt", "(I)I"⟩, 9), (⟨"FirstWords$Tape", "tokenAt", "(I)I"⟩, 9), (⟨"FirstWords$Tape", "blame", "(I)V"⟩, 9), (⟨"FirstWords$Tape", "readLine", "(LFirstWords$Told;)V"⟩, 9), (⟨"FirstWords$Tape", "sortNamed", "()I"⟩, 9), (⟨"FirstWords$Tape", "isNamed", "(Ljava/lang/String;)Z"⟩, 9), (⟨"FirstWords$Tape", "readThing", "(LFirstWords$Told;)V"⟩, 9), (⟨"FirstWords$Tape", "takeLetters", "(I)I"⟩, 9), (⟨"FirstWords$Tape", "readMeaning", "(LFirstWords$Told;)V"⟩, 9)]
theorem lw_r1 : ∀ q ∈ lw_privs_1, lw_okq q := List.forall_mem_cons.mpr ⟨lw_p0, List.forall_mem_cons.mpr ⟨lw_p1, List.forall_mem_cons.mpr ⟨lw_p2, List.forall_mem_cons.mpr ⟨lw_p3, List.forall_mem_cons.mpr ⟨lw_p4, List.forall_mem_cons.mpr ⟨lw_p5, List.forall_mem_cons.mpr ⟨lw_p6, List.forall_mem_cons.mpr ⟨lw_p7, List.forall_mem_cons.mpr ⟨lw_p8, List.forall_mem_cons.mpr ⟨lw_p9, List.forall_mem_cons.mpr ⟨lw_p10, List.forall_mem_cons.mpr ⟨lw_p11, List.forall_mem_cons.mpr ⟨lw_p12, List.forall_mem_cons.mpr ⟨lw_p13, List.forall_mem_cons.mpr ⟨lw_p14, List.forall_mem_cons.mpr ⟨lw_p15, fun _ h => absurd h List.not_mem_nil⟩⟩⟩⟩⟩⟩⟩⟩⟩⟩⟩⟩⟩⟩⟩⟩
theorem lw_p16 : lw_okq (⟨"FirstWords$Tape", "readWord", "(LFirstWords$Told;)V"⟩, 9) := ⟨⟨by decide +kernel, by decide +kernel⟩, List.mem_of_getElem? (i := 23) (by decide +kernel), List.mem_of_getElem? (i := 706) (by decide +kernel), List.mem_of_getElem? (i := 707) (by decide +kernel)⟩
theorem lw_p17 : lw_okq (⟨"FirstWords$Tape", "takeNumber", "(I)I"⟩, 9) := ⟨⟨by decide +kernel, by decide +kernel⟩, List.mem_of_getElem? (i := 23) (by decide +kernel), List.mem_of_getElem? (i := 710) (by decide +kernel), List.mem_of_getElem? (i := 711) (by decide +kernel)⟩
theorem lw_p18 : lw_okq (⟨"FirstWords$Tape", "readKind", "(LFirstWords$Told;I)V"⟩, 9) := ⟨⟨by decide +kernel, by decide +kernel⟩, List.mem_of_getElem? (i := 23) (by decide +kernel), List.mem_of_getElem? (i := 718) (by decide +kernel), List.mem_of_getElem? (i := 719) (by decide +kernel)⟩
theorem lw_p19 : lw_okq (⟨"FirstWords$Tape", "withNamed", "()I"⟩, 9) := ⟨⟨by decide +kernel, by decide +kernel⟩, List.mem_of_getElem? (i := 23) (by decide +kernel), List.mem_of_getElem? (i := 726) (by decide +kernel), List.mem_of_getElem? (i := 727) (by decide +kernel)⟩
theorem lw_p20 : lw_okq (⟨"FirstWords$Told", "settleMeanings", "()V"⟩, 19) := ⟨⟨by decide +kernel, by decide +kernel⟩, List.mem_of_getElem? (i := 61) (by decide +kernel), List.mem_of_getElem? (i := 738) (by decide +kernel), List.mem_of_getElem? (i := 739) (by decide +kernel)⟩
def lw_privs_2 : List (MethodName × Nat) := [(⟨"FirstWords$Tape", "readWord", "(LFirstWords$Told;)V"⟩, 9), (⟨"FirstWords$Tape", "takeNumber", "(I)I"⟩, 9), (⟨"FirstWords$Tape", "readKind", "(LFirstWords$Told;I)V"⟩, 9), (⟨"FirstWords$Tape", "withNamed", "()I"⟩, 9), (⟨"FirstWords$Told", "settleMeanings", "()V"⟩, 19)]
theorem lw_r2 : ∀ q ∈ lw_privs_2, lw_okq q := List.forall_mem_cons.mpr ⟨lw_p16, List.forall_mem_cons.mpr ⟨lw_p17, List.forall_mem_cons.mpr ⟨lw_p18, List.forall_mem_cons.mpr ⟨lw_p19, List.forall_mem_cons.mpr ⟨lw_p20, fun _ h => absurd h List.not_mem_nil⟩⟩⟩⟩⟩
def lw_privs : List (MethodName × Nat) := lw_privs_1 ++ (lw_privs_2)
def lw_tbl : List Cond := k2_sels lw_privs ++ tables_1
theorem lw_privs_ok : ∀ q ∈ lw_privs, lw_okq q := by
  show ∀ q ∈ lw_privs_1 ++ (lw_privs_2), lw_okq q
  exact List.forall_mem_append.mpr ⟨lw_r1, lw_r2⟩

/-! ===== BEGIN words of one list among another's, by their places ===== -/
theorem goodIn_r {big : List Cond} (ws : List Cond) (ps : List Nat) (hp : ws = ps.filterMap (fun i => big[i]?)) (h : ws.all goodWord = true) : GoodIn big ws := by
  intro w hw
  have h1 := List.all_eq_true.mp h w hw
  rw [hp] at hw
  obtain ⟨i, -, hi⟩ := List.mem_filterMap.mp hw
  have hm : w ∈ big := by first | exact List.mem_of_getElem? hi | exact List.getElem?_mem hi
  exact ⟨hm, good_of_word h1⟩
theorem goodIn_app {big a b : List Cond} (ha : GoodIn big a) (hb : GoodIn big b) : GoodIn big (a ++ b) := fun w h => (List.mem_append.mp h).elim (ha w) (hb w)
theorem goodIn_ca {big a b : List Cond} {c : Cond} (ha : GoodIn big (c :: a)) (hb : GoodIn big b) : GoodIn big (c :: (a ++ b)) := fun w h => (List.mem_cons.mp h).elim (fun e => ha w (List.mem_cons.mpr (Or.inl e))) (fun h => (List.mem_append.mp h).elim (fun h => ha w (List.mem_cons.mpr (Or.inr h))) (hb w))
theorem goodIn_sub {big ws : List Cond} (hm : ∀ w ∈ ws, w ∈ big) (h : ws.all goodWord = true) : GoodIn big ws := fun w hw => ⟨hm w hw, good_of_word (List.all_eq_true.mp h w hw)⟩
/-! ===== END ===== -/

/-! ===== BEGIN printed: names, fields, word lists, decode rows ===== -/
def RX0 : String := "FirstWords$Minds"
def TX0 : u_T := fun k => match k with
  | 0 => ("FirstWords$Minds", "seen", "I", false)
  | 1 => ("FirstWords$Minds", "thought", "[I", true)
  | 2 => ("FirstWords$Minds", "wrong", "[I", true)
  | 3 => ("FirstWords$Minds", "latest", "[I", true)
  | 4 => ("FirstWords$Minds", "fledAt", "[I", true)
  | _ => ("FirstWords$Minds", "fit", "[I", true)
def tyX0 : Nat → FieldType := fun k => match k with
  | 0 => .int
  | 1 => .array .int
  | 2 => .array .int
  | 3 => .array .int
  | 4 => .array .int
  | _ => .array .int
abbrev wsX00 : List Cond := u_ws RX0 TX0 6
theorem nmX0 : ∀ a, a < 6 → ∀ b, b < 6 → a ≠ b → (TX0 a).2.1 ≠ (TX0 b).2.1 := by decide +kernel
theorem tyX0_ok : ∀ k, k < 6 → parseFieldDescriptor (TX0 k).2.2.1 = some (tyX0 k) := by decide +kernel
abbrev cX0_init : ByteArray := prog_2_method_1_code
def yX0_init : MethodName := ⟨RX0, "<init>", "()V"⟩
abbrev cX0_blank : ByteArray := prog_2_method_2_code
def yX0_blank : MethodName := ⟨RX0, "blank", "(LFirstWords$Told;)V"⟩
abbrev cX0_witness : ByteArray := prog_2_method_4_code
def yX0_witness : MethodName := ⟨RX0, "witness", "(LFirstWords$Told;IIIZ)Z"⟩
abbrev cX0_frighten : ByteArray := prog_2_method_5_code
def yX0_frighten : MethodName := ⟨RX0, "frighten", "(I)V"⟩
abbrev cX0_look : ByteArray := prog_2_method_6_code
def yX0_look : MethodName := ⟨RX0, "look", "(LFirstWords$Told;IIIZ)Z"⟩
abbrev cX0_holdOrTurn : ByteArray := prog_2_method_7_code
def yX0_holdOrTurn : MethodName := ⟨RX0, "holdOrTurn", "(IIZ)V"⟩
abbrev cX0_choices : ByteArray := prog_2_method_8_code
def yX0_choices : MethodName := ⟨RX0, "choices", "(LFirstWords$Told;II)I"⟩
abbrev cX0_thoughtOf : ByteArray := prog_2_method_9_code
def yX0_thoughtOf : MethodName := ⟨RX0, "thoughtOf", "(II)I"⟩
abbrev cX0_isSame : ByteArray := prog_2_method_10_code
def yX0_isSame : MethodName := ⟨RX0, "isSame", "(LFirstWords$Told;II)Z"⟩
abbrev cX0_isSameForAll : ByteArray := prog_2_method_11_code
def yX0_isSameForAll : MethodName := ⟨RX0, "isSameForAll", "(LFirstWords$Told;II)Z"⟩
abbrev cX0_chanceOfSame : ByteArray := prog_2_method_12_code
def yX0_chanceOfSame : MethodName := ⟨RX0, "chanceOfSame", "(LFirstWords$Told;I)I"⟩
abbrev cX0_answerOf : ByteArray := prog_2_method_13_code
def yX0_answerOf : MethodName := ⟨RX0, "answerOf", "(LFirstWords$Told;III)I"⟩
def RX1 : String := "FirstWords$Scene"
def TX1 : u_T := fun k => match k with
  | 0 => ("FirstWords$Scene", "showings", "I", false)
  | 1 => ("FirstWords$Scene", "sound", "[I", true)
  | 2 => ("FirstWords$Scene", "thing", "[I", true)
  | 3 => ("FirstWords$Scene", "so", "[Z", true)
  | 4 => ("FirstWords$Scene", "left", "I", false)
  | 5 => ("FirstWords$Scene", "theirs", "I", false)
  | 6 => ("FirstWords$Scene", "theirThing", "[I", true)
  | 7 => ("FirstWords$Scene", "theirSo", "[Z", true)
  | _ => ("FirstWords$Scene", "isKept", "Z", false)
def tyX1 : Nat → FieldType := fun k => match k with
  | 0 => .int
  | 1 => .array .int
  | 2 => .array .int
  | 3 => .array .boolean
  | 4 => .int
  | 5 => .int
  | 6 => .array .int
  | 7 => .array .boolean
  | _ => .boolean
abbrev wsX10 : List Cond := u_ws RX1 TX1 9
theorem nmX1 : ∀ a, a < 9 → ∀ b, b < 9 → a ≠ b → (TX1 a).2.1 ≠ (TX1 b).2.1 := by decide +kernel
theorem tyX1_ok : ∀ k, k < 9 → parseFieldDescriptor (TX1 k).2.2.1 = some (tyX1 k) := by decide +kernel
abbrev cX1_init : ByteArray := prog_3_method_1_code
def yX1_init : MethodName := ⟨RX1, "<init>", "()V"⟩
abbrev cX1_empty : ByteArray := prog_3_method_2_code
def yX1_empty : MethodName := ⟨RX1, "empty", "(LFirstWords$Told;)V"⟩
abbrev cX1_become : ByteArray := prog_3_method_3_code
def yX1_become : MethodName := ⟨RX1, "become", "(LFirstWords$Scene;)V"⟩
def RX2 : String := "FirstWords$Sheets"
def TX2 : u_T := fun k => match k with
  | 0 => ("FirstWords$Sheets", "size", "[I", true)
  | 1 => ("FirstWords$Sheets", "laneOf", "[I", true)
  | _ => ("FirstWords$Sheets", "cells", "[[I", true)
def tyX2 : Nat → FieldType := fun k => match k with
  | 0 => .array .int
  | 1 => .array .int
  | _ => .array (.array .int)
abbrev wsX20 : List Cond := u_ws RX2 TX2 3
theorem nmX2 : ∀ a, a < 3 → ∀ b, b < 3 → a ≠ b → (TX2 a).2.1 ≠ (TX2 b).2.1 := by decide +kernel
theorem tyX2_ok : ∀ k, k < 3 → parseFieldDescriptor (TX2 k).2.2.1 = some (tyX2 k) := by decide +kernel
abbrev cX2_init : ByteArray := prog_4_method_1_code
def yX2_init : MethodName := ⟨RX2, "<init>", "()V"⟩
def RX3 : String := "FirstWords$Tape"
def TX3 : u_T := fun k => match k with
  | 0 => ("FirstWords$Tape", "bytes", "[I", true)
  | 1 => ("FirstWords$Tape", "length", "I", false)
  | 2 => ("FirstWords$Tape", "fault", "I", false)
  | 3 => ("FirstWords$Tape", "place", "I", false)
  | 4 => ("FirstWords$Tape", "lines", "I", false)
  | 5 => ("FirstWords$Tape", "at", "I", false)
  | 6 => ("FirstWords$Tape", "token", "I", false)
  | 7 => ("FirstWords$Tape", "start", "I", false)
  | _ => ("FirstWords$Tape", "stop", "I", false)
def tyX3 : Nat → FieldType := fun k => match k with
  | 0 => .array .int
  | 1 => .int
  | 2 => .int
  | 3 => .int
  | 4 => .int
  | 5 => .int
  | 6 => .int
  | 7 => .int
  | _ => .int
abbrev wsX30 : List Cond := u_ws RX3 TX3 9
theorem nmX3 : ∀ a, a < 9 → ∀ b, b < 9 → a ≠ b → (TX3 a).2.1 ≠ (TX3 b).2.1 := by decide +kernel
theorem tyX3_ok : ∀ k, k < 9 → parseFieldDescriptor (TX3 k).2.2.1 = some (tyX3 k) := by decide +kernel
abbrev cX3_init : ByteArray := prog_5_method_1_code
def yX3_init : MethodName := ⟨RX3, "<init>", "()V"⟩
abbrev cX3_put : ByteArray := prog_5_method_2_code
def yX3_put : MethodName := ⟨RX3, "put", "(I)V"⟩
abbrev cX3_readInto : ByteArray := prog_5_method_3_code
def yX3_readInto : MethodName := ⟨RX3, "readInto", "(LFirstWords$Told;)Z"⟩
abbrev cX3_blame : ByteArray := prog_5_method_4_code
def yX3_blame : MethodName := ⟨RX3, "blame", "(I)V"⟩
abbrev cX3_byteAt : ByteArray := prog_5_method_5_code
def yX3_byteAt : MethodName := ⟨RX3, "byteAt", "(I)I"⟩
abbrev cX3_tokenAt : ByteArray := prog_5_method_6_code
def yX3_tokenAt : MethodName := ⟨RX3, "tokenAt", "(I)I"⟩
abbrev cX3_nextToken : ByteArray := prog_5_method_7_code
def yX3_nextToken : MethodName := ⟨RX3, "nextToken", "()V"⟩
abbrev cX3_isNamed : ByteArray := prog_5_method_8_code
def yX3_isNamed : MethodName := ⟨RX3, "isNamed", "(Ljava/lang/String;)Z"⟩
abbrev cX3_readLine : ByteArray := prog_5_method_9_code
def yX3_readLine : MethodName := ⟨RX3, "readLine", "(LFirstWords$Told;)V"⟩
abbrev cX3_sortNamed : ByteArray := prog_5_method_10_code
def yX3_sortNamed : MethodName := ⟨RX3, "sortNamed", "()I"⟩
abbrev cX3_readThing : ByteArray := prog_5_method_11_code
def yX3_readThing : MethodName := ⟨RX3, "readThing", "(LFirstWords$Told;)V"⟩
abbrev cX3_readMeaning : ByteArray := prog_5_method_12_code
def yX3_readMeaning : MethodName := ⟨RX3, "readMeaning", "(LFirstWords$Told;)V"⟩
abbrev cX3_readWord : ByteArray := prog_5_method_13_code
def yX3_readWord : MethodName := ⟨RX3, "readWord", "(LFirstWords$Told;)V"⟩
abbrev cX3_readKind : ByteArray := prog_5_method_14_code
def yX3_readKind : MethodName := ⟨RX3, "readKind", "(LFirstWords$Told;I)V"⟩
abbrev cX3_withNamed : ByteArray := prog_5_method_15_code
def yX3_withNamed : MethodName := ⟨RX3, "withNamed", "()I"⟩
abbrev cX3_takeLetters : ByteArray := prog_5_method_16_code
def yX3_takeLetters : MethodName := ⟨RX3, "takeLetters", "(I)I"⟩
abbrev cX3_takeNumber : ByteArray := prog_5_method_17_code
def yX3_takeNumber : MethodName := ⟨RX3, "takeNumber", "(I)I"⟩
def RX4 : String := "FirstWords$Told"
def TX4 : u_T := fun k => match k with
  | 0 => ("FirstWords$Told", "things", "I", false)
  | 1 => ("FirstWords$Told", "meanings", "I", false)
  | 2 => ("FirstWords$Told", "sounds", "I", false)
  | 3 => ("FirstWords$Told", "kinds", "I", false)
  | 4 => ("FirstWords$Told", "marks", "[I", true)
  | 5 => ("FirstWords$Told", "isIt", "[I", true)
  | 6 => ("FirstWords$Told", "has", "[I", true)
  | 7 => ("FirstWords$Told", "hasNot", "[I", true)
  | 8 => ("FirstWords$Told", "asks", "[I", true)
  | 9 => ("FirstWords$Told", "are", "[I", true)
  | 10 => ("FirstWords$Told", "alike", "[I", true)
  | 11 => ("FirstWords$Told", "fromPlainest", "[I", true)
  | 12 => ("FirstWords$Told", "target", "[I", true)
  | 13 => ("FirstWords$Told", "sort", "[I", true)
  | 14 => ("FirstWords$Told", "sees", "[I", true)
  | 15 => ("FirstWords$Told", "fears", "[I", true)
  | 16 => ("FirstWords$Told", "unlike", "[Z", true)
  | 17 => ("FirstWords$Told", "chance", "[I", true)
  | _ => ("FirstWords$Told", "can", "[I", true)
def tyX4 : Nat → FieldType := fun k => match k with
  | 0 => .int
  | 1 => .int
  | 2 => .int
  | 3 => .int
  | 4 => .array .int
  | 5 => .array .int
  | 6 => .array .int
  | 7 => .array .int
  | 8 => .array .int
  | 9 => .array .int
  | 10 => .array .int
  | 11 => .array .int
  | 12 => .array .int
  | 13 => .array .int
  | 14 => .array .int
  | 15 => .array .int
  | 16 => .array .boolean
  | 17 => .array .int
  | _ => .array .int
abbrev wsX40 : List Cond := u_ws RX4 TX4 19
theorem nmX4 : ∀ a, a < 19 → ∀ b, b < 19 → a ≠ b → (TX4 a).2.1 ≠ (TX4 b).2.1 := by decide +kernel
theorem tyX4_ok : ∀ k, k < 19 → parseFieldDescriptor (TX4 k).2.2.1 = some (tyX4 k) := by decide +kernel
abbrev cX4_init : ByteArray := prog_6_method_1_code
def yX4_init : MethodName := ⟨RX4, "<init>", "()V"⟩
abbrev cX4_empty : ByteArray := prog_6_method_2_code
def yX4_empty : MethodName := ⟨RX4, "empty", "()V"⟩
abbrev cX4_addThing : ByteArray := prog_6_method_3_code
def yX4_addThing : MethodName := ⟨RX4, "addThing", "(I)V"⟩
abbrev cX4_addMeaning : ByteArray := prog_6_method_4_code
def yX4_addMeaning : MethodName := ⟨RX4, "addMeaning", "(II)V"⟩
abbrev cX4_addSound : ByteArray := prog_6_method_5_code
def yX4_addSound : MethodName := ⟨RX4, "addSound", "(I)V"⟩
abbrev cX4_addKind : ByteArray := prog_6_method_6_code
def yX4_addKind : MethodName := ⟨RX4, "addKind", "(I)V"⟩
abbrev cX4_settle : ByteArray := prog_6_method_7_code
def yX4_settle : MethodName := ⟨RX4, "settle", "()V"⟩
abbrev cX4_settleMeanings : ByteArray := prog_6_method_8_code
def yX4_settleMeanings : MethodName := ⟨RX4, "settleMeanings", "()V"⟩
abbrev cX4_hasThing : ByteArray := prog_6_method_9_code
def yX4_hasThing : MethodName := ⟨RX4, "hasThing", "(I)Z"⟩
abbrev cX4_hasMeaning : ByteArray := prog_6_method_10_code
def yX4_hasMeaning : MethodName := ⟨RX4, "hasMeaning", "(I)Z"⟩
abbrev cX4_hasSound : ByteArray := prog_6_method_11_code
def yX4_hasSound : MethodName := ⟨RX4, "hasSound", "(I)Z"⟩
abbrev cX4_hasKind : ByteArray := prog_6_method_12_code
def yX4_hasKind : MethodName := ⟨RX4, "hasKind", "(I)Z"⟩
abbrev cX4_areKinds : ByteArray := prog_6_method_13_code
def yX4_areKinds : MethodName := ⟨RX4, "areKinds", "(I)Z"⟩
abbrev cX4_allMeanings : ByteArray := prog_6_method_15_code
def yX4_allMeanings : MethodName := ⟨RX4, "allMeanings", "()I"⟩
abbrev cX4_allKinds : ByteArray := prog_6_method_16_code
def yX4_allKinds : MethodName := ⟨RX4, "allKinds", "()I"⟩
abbrev cX4_plainest : ByteArray := prog_6_method_17_code
def yX4_plainest : MethodName := ⟨RX4, "plainest", "(I)I"⟩
abbrev cX4_fitting : ByteArray := prog_6_method_18_code
def yX4_fitting : MethodName := ⟨RX4, "fitting", "(IZ)I"⟩
abbrev cX4_targetThings : ByteArray := prog_6_method_19_code
def yX4_targetThings : MethodName := ⟨RX4, "targetThings", "(I)I"⟩
abbrev cX4_likeTarget : ByteArray := prog_6_method_20_code
def yX4_likeTarget : MethodName := ⟨RX4, "likeTarget", "(I)I"⟩
abbrev cX4_isTarget : ByteArray := prog_6_method_21_code
def yX4_isTarget : MethodName := ⟨RX4, "isTarget", "(II)Z"⟩
abbrev cX4_kindsThatCan : ByteArray := prog_6_method_22_code
def yX4_kindsThatCan : MethodName := ⟨RX4, "kindsThatCan", "(I)I"⟩
abbrev cX4_chances : ByteArray := prog_6_method_24_code
def yX4_chances : MethodName := ⟨RX4, "chances", "(I)I"⟩
def RX5 : String := "FirstWords$Tutor"
def TX5 : u_T := fun k => match k with
  | 0 => ("FirstWords$Tutor", "row", "[I", true)
  | 1 => ("FirstWords$Tutor", "length", "I", false)
  | 2 => ("FirstWords$Tutor", "bestOrder", "[I", true)
  | 3 => ("FirstWords$Tutor", "bestTotal", "I", false)
  | 4 => ("FirstWords$Tutor", "tried", "[I", true)
  | 5 => ("FirstWords$Tutor", "alongRow", "[LFirstWords$Minds;", true)
  | 6 => ("FirstWords$Tutor", "alongOrder", "[LFirstWords$Minds;", true)
  | 7 => ("FirstWords$Tutor", "kinds", "I", false)
  | 8 => ("FirstWords$Tutor", "sound", "I", false)
  | _ => ("FirstWords$Tutor", "worth", "I", false)
def tyX5 : Nat → FieldType := fun k => match k with
  | 0 => .array .int
  | 1 => .int
  | 2 => .array .int
  | 3 => .int
  | 4 => .array .int
  | 5 => .array (.object "FirstWords$Minds")
  | 6 => .array (.object "FirstWords$Minds")
  | 7 => .int
  | 8 => .int
  | _ => .int
abbrev wsX50 : List Cond := u_ws RX5 TX5 10
theorem nmX5 : ∀ a, a < 10 → ∀ b, b < 10 → a ≠ b → (TX5 a).2.1 ≠ (TX5 b).2.1 := by decide +kernel
theorem tyX5_ok : ∀ k, k < 10 → parseFieldDescriptor (TX5 k).2.2.1 = some (tyX5 k) := by decide +kernel
abbrev cX5_init : ByteArray := prog_7_method_1_code
def yX5_init : MethodName := ⟨RX5, "<init>", "()V"⟩
def RX6 : String := "FirstWords"
def TX6 : u_T := fun k => match k with
  | 0 => ("FirstWords", "tape", "LFirstWords$Tape;", true)
  | 1 => ("FirstWords", "told", "LFirstWords$Told;", false)
  | 2 => ("FirstWords", "draft", "LFirstWords$Told;", false)
  | 3 => ("FirstWords", "now", "LFirstWords$Scene;", true)
  | 4 => ("FirstWords", "images", "[LFirstWords$Scene;", true)
  | 5 => ("FirstWords", "minds", "LFirstWords$Minds;", true)
  | 6 => ("FirstWords", "trial", "LFirstWords$Minds;", true)
  | 7 => ("FirstWords", "tutor", "LFirstWords$Tutor;", true)
  | 8 => ("FirstWords", "sheets", "LFirstWords$Sheets;", true)
  | _ => ("FirstWords", "tornBy", "I", false)
def tyX6 : Nat → FieldType := fun k => match k with
  | 0 => .object "FirstWords$Tape"
  | 1 => .object "FirstWords$Told"
  | 2 => .object "FirstWords$Told"
  | 3 => .object "FirstWords$Scene"
  | 4 => .array (.object "FirstWords$Scene")
  | 5 => .object "FirstWords$Minds"
  | 6 => .object "FirstWords$Minds"
  | 7 => .object "FirstWords$Tutor"
  | 8 => .object "FirstWords$Sheets"
  | _ => .int
abbrev wsX60 : List Cond := u_ws RX6 TX6 10
theorem nmX6 : ∀ a, a < 10 → ∀ b, b < 10 → a ≠ b → (TX6 a).2.1 ≠ (TX6 b).2.1 := by decide +kernel
theorem tyX6_ok : ∀ k, k < 10 → parseFieldDescriptor (TX6 k).2.2.1 = some (tyX6 k) := by decide +kernel
abbrev cX6_init : ByteArray := prog_1_method_1_code
def yX6_init : MethodName := ⟨RX6, "<init>", "()V"⟩
abbrev cX6_feed : ByteArray := prog_1_method_2_code
def yX6_feed : MethodName := ⟨RX6, "feed", "(J)I"⟩
abbrev cX6_end : ByteArray := prog_1_method_3_code
def yX6_end : MethodName := ⟨RX6, "end", "(I)I"⟩
abbrev cX6_text : ByteArray := prog_1_method_4_code
def yX6_text : MethodName := ⟨RX6, "text", "()I"⟩
abbrev cX6_thing : ByteArray := prog_1_method_6_code
def yX6_thing : MethodName := ⟨RX6, "thing", "(I)I"⟩
abbrev cX6_meaning : ByteArray := prog_1_method_7_code
def yX6_meaning : MethodName := ⟨RX6, "meaning", "(II)I"⟩
abbrev cX6_word : ByteArray := prog_1_method_8_code
def yX6_word : MethodName := ⟨RX6, "word", "(I)I"⟩
abbrev cX6_kind : ByteArray := prog_1_method_9_code
def yX6_kind : MethodName := ⟨RX6, "kind", "(II)I"⟩
abbrev cX6_show : ByteArray := prog_1_method_10_code
def yX6_show : MethodName := ⟨RX6, "show", "(IIZ)I"⟩
abbrev cX6_teach : ByteArray := prog_1_method_11_code
def yX6_teach : MethodName := ⟨RX6, "teach", "(II)I"⟩
abbrev cX6_undo : ByteArray := prog_1_method_12_code
def yX6_undo : MethodName := ⟨RX6, "undo", "()I"⟩
abbrev cX6_clear : ByteArray := prog_1_method_13_code
def yX6_clear : MethodName := ⟨RX6, "clear", "()I"⟩
abbrev cX6_shown : ByteArray := prog_1_method_14_code
def yX6_shown : MethodName := ⟨RX6, "shown", "(II)I"⟩
abbrev cX6_thinks : ByteArray := prog_1_method_15_code
def yX6_thinks : MethodName := ⟨RX6, "thinks", "(II)I"⟩
abbrev cX6_fits : ByteArray := prog_1_method_16_code
def yX6_fits : MethodName := ⟨RX6, "fits", "(II)I"⟩
abbrev cX6_same : ByteArray := prog_1_method_17_code
def yX6_same : MethodName := ⟨RX6, "same", "(II)I"⟩
abbrev cX6_fled : ByteArray := prog_1_method_18_code
def yX6_fled : MethodName := ⟨RX6, "fled", "(I)I"⟩
abbrev cX6_against : ByteArray := prog_1_method_19_code
def yX6_against : MethodName := ⟨RX6, "against", "(II)I"⟩
abbrev cX6_common : ByteArray := prog_1_method_20_code
def yX6_common : MethodName := ⟨RX6, "common", "(I)I"⟩
abbrev cX6_answer : ByteArray := prog_1_method_26_code
def yX6_answer : MethodName := ⟨RX6, "answer", "(III)I"⟩
abbrev cX6_likely : ByteArray := prog_1_method_31_code
def yX6_likely : MethodName := ⟨RX6, "likely", "(II)I"⟩
abbrev cX6_keep : ByteArray := prog_1_method_37_code
def yX6_keep : MethodName := ⟨RX6, "keep", "(I)I"⟩
abbrev cX6_back : ByteArray := prog_1_method_38_code
def yX6_back : MethodName := ⟨RX6, "back", "(I)I"⟩
abbrev cX6_count : ByteArray := prog_1_method_43_code
def yX6_count : MethodName := ⟨RX6, "count", "(I)I"⟩
abbrev cX6_isIn : ByteArray := prog_1_method_44_code
def yX6_isIn : MethodName := ⟨RX6, "isIn", "(II)Z"⟩
abbrev cX6_ofLowestTerms : ByteArray := prog_1_method_45_code
def yX6_ofLowestTerms : MethodName := ⟨RX6, "ofLowestTerms", "(IIZ)I"⟩
abbrev cX6_takeShowing : ByteArray := prog_1_method_46_code
def yX6_takeShowing : MethodName := ⟨RX6, "takeShowing", "(IIZ)V"⟩
abbrev cX6_thinkAgain : ByteArray := prog_1_method_47_code
def yX6_thinkAgain : MethodName := ⟨RX6, "thinkAgain", "()V"⟩
abbrev cX6_imagesKept : ByteArray := prog_1_method_55_code
def yX6_imagesKept : MethodName := ⟨RX6, "imagesKept", "()I"⟩
def RX7 : String := "FirstWordsModel"
def TX7 : u_T := fun k => match k with
  | _ => ("", "", "", false)
def tyX7 : Nat → FieldType := fun k => match k with
  | _ => .int
abbrev wsX70 : List Cond := u_ws RX7 TX7 0
theorem nmX7 : ∀ a, a < 0 → ∀ b, b < 0 → a ≠ b → (TX7 a).2.1 ≠ (TX7 b).2.1 := by decide +kernel
theorem tyX7_ok : ∀ k, k < 0 → parseFieldDescriptor (TX7 k).2.2.1 = some (tyX7 k) := by decide +kernel
def RJ6 : String := "java/lang/Integer"
def TJ6 : u_T := fun k => match k with
  | _ => ("", "", "", false)
def tyJ6 : Nat → FieldType := fun k => match k with
  | _ => .int
abbrev wsJ60 : List Cond := u_ws RJ6 TJ6 0
theorem nmJ6 : ∀ a, a < 0 → ∀ b, b < 0 → a ≠ b → (TJ6 a).2.1 ≠ (TJ6 b).2.1 := by decide +kernel
theorem tyJ6_ok : ∀ k, k < 0 → parseFieldDescriptor (TJ6 k).2.2.1 = some (tyJ6 k) := by decide +kernel
abbrev cJ6_bitCount_0f7a4 : ByteArray := prog_10_method_49_code
def yJ6_bitCount_0f7a4 : MethodName := ⟨RJ6, "bitCount", "(I)I"⟩
def RJ0 : String := "java/lang/String"
def TJ0 : u_T := fun k => match k with
  | _ => ("", "", "", false)
def tyJ0 : Nat → FieldType := fun k => match k with
  | _ => .int
abbrev wsJ00 : List Cond := u_ws RJ0 TJ0 0
theorem nmJ0 : ∀ a, a < 0 → ∀ b, b < 0 → a ≠ b → (TJ0 a).2.1 ≠ (TJ0 b).2.1 := by decide +kernel
theorem tyJ0_ok : ∀ k, k < 0 → parseFieldDescriptor (TJ0 k).2.2.1 = some (tyJ0 k) := by decide +kernel
abbrev cJ0_length_8abf5 : ByteArray := prog_11_method_54_code
def yJ0_length_8abf5 : MethodName := ⟨RJ0, "length", "()I"⟩
abbrev cJ0_charAt_5068e : ByteArray := prog_11_method_56_code
def yJ0_charAt_5068e : MethodName := ⟨RJ0, "charAt", "(I)C"⟩
abbrev cJ0_coder_7d493 : ByteArray := prog_11_method_152_code
def yJ0_coder_7d493 : MethodName := ⟨RJ0, "coder", "()B"⟩
abbrev cJ0_isLatin1_aae02 : ByteArray := prog_11_method_154_code
def yJ0_isLatin1_aae02 : MethodName := ⟨RJ0, "isLatin1", "()Z"⟩
abbrev cJ0_checkIndex_df160 : ByteArray := prog_11_method_155_code
def yJ0_checkIndex_df160 : MethodName := ⟨RJ0, "checkIndex", "(II)V"⟩
def RJ1 : String := "java/lang/StringLatin1"
def TJ1 : u_T := fun k => match k with
  | _ => ("", "", "", false)
def tyJ1 : Nat → FieldType := fun k => match k with
  | _ => .int
abbrev wsJ10 : List Cond := u_ws RJ1 TJ1 0
theorem nmJ1 : ∀ a, a < 0 → ∀ b, b < 0 → a ≠ b → (TJ1 a).2.1 ≠ (TJ1 b).2.1 := by decide +kernel
theorem tyJ1_ok : ∀ k, k < 0 → parseFieldDescriptor (TJ1 k).2.2.1 = some (tyJ1 k) := by decide +kernel
abbrev cJ1_charAt_3b067 : ByteArray := prog_12_method_2_code
def yJ1_charAt_3b067 : MethodName := ⟨RJ1, "charAt", "([BI)C"⟩
def RJ2 : String := "java/lang/StringUTF16"
def TJ2 : u_T := fun k => match k with
  | _ => ("", "", "", false)
def tyJ2 : Nat → FieldType := fun k => match k with
  | _ => .int
abbrev wsJ20 : List Cond := u_ws RJ2 TJ2 0
theorem nmJ2 : ∀ a, a < 0 → ∀ b, b < 0 → a ≠ b → (TJ2 a).2.1 ≠ (TJ2 b).2.1 := by decide +kernel
theorem tyJ2_ok : ∀ k, k < 0 → parseFieldDescriptor (TJ2 k).2.2.1 = some (tyJ2 k) := by decide +kernel
abbrev cJ2_getChar_3b067 : ByteArray := prog_13_method_5_code
def yJ2_getChar_3b067 : MethodName := ⟨RJ2, "getChar", "([BI)C"⟩
abbrev cJ2_length_9d52b : ByteArray := prog_13_method_6_code
def yJ2_length_9d52b : MethodName := ⟨RJ2, "length", "([B)I"⟩
abbrev cJ2_charAt_3b067 : ByteArray := prog_13_method_83_code
def yJ2_charAt_3b067 : MethodName := ⟨RJ2, "charAt", "([BI)C"⟩
abbrev cJ2_checkIndex_2214a : ByteArray := prog_13_method_91_code
def yJ2_checkIndex_2214a : MethodName := ⟨RJ2, "checkIndex", "(I[B)V"⟩
def RJ10 : String := "java/lang/System"
def TJ10 : u_T := fun k => match k with
  | _ => ("", "", "", false)
def tyJ10 : Nat → FieldType := fun k => match k with
  | _ => .int
abbrev wsJ100 : List Cond := u_ws RJ10 TJ10 0
theorem nmJ10 : ∀ a, a < 0 → ∀ b, b < 0 → a ≠ b → (TJ10 a).2.1 ≠ (TJ10 b).2.1 := by decide +kernel
theorem tyJ10_ok : ∀ k, k < 0 → parseFieldDescriptor (TJ10 k).2.2.1 = some (tyJ10 k) := by decide +kernel
def RJ3 : String := "jdk/internal/util/Preconditions"
def TJ3 : u_T := fun k => match k with
  | _ => ("", "", "", false)
def tyJ3 : Nat → FieldType := fun k => match k with
  | _ => .int
abbrev wsJ30 : List Cond := u_ws RJ3 TJ3 0
theorem nmJ3 : ∀ a, a < 0 → ∀ b, b < 0 → a ≠ b → (TJ3 a).2.1 ≠ (TJ3 b).2.1 := by decide +kernel
theorem tyJ3_ok : ∀ k, k < 0 → parseFieldDescriptor (TJ3 k).2.2.1 = some (tyJ3 k) := by decide +kernel
abbrev cJ3_checkIndex_8e157 : ByteArray := prog_15_method_11_code
def yJ3_checkIndex_8e157 : MethodName := ⟨RJ3, "checkIndex", "(IILjava/util/function/BiFunction;)I"⟩
def RLw : String := "FirstWordsLaw"
abbrev cL_cell : ByteArray := method_2_code
def yL_cell : MethodName := ⟨RLw, "cell", "([II)I"⟩
abbrev cL_low : ByteArray := method_3_code
def yL_low : MethodName := ⟨RLw, "low", "(II)I"⟩
abbrev cL_put : ByteArray := method_4_code
def yL_put : MethodName := ⟨RLw, "put", "(LFirstWords;[JI)V"⟩
abbrev cL_word : ByteArray := method_5_code
def yL_word : MethodName := ⟨RLw, "word", "(LFirstWords;[JJ)V"⟩
abbrev cL_ended : ByteArray := method_6_code
def yL_ended : MethodName := ⟨RLw, "ended", "(LFirstWords;[J)Z"⟩
abbrev cL_number : ByteArray := method_7_code
def yL_number : MethodName := ⟨RLw, "number", "(LFirstWords;[JI)V"⟩
abbrev cL_ones : ByteArray := method_8_code
def yL_ones : MethodName := ⟨RLw, "ones", "(I)I"⟩
abbrev cL_letters : ByteArray := method_9_code
def yL_letters : MethodName := ⟨RLw, "letters", "(LFirstWords;[JI)V"⟩
abbrev cL_told : ByteArray := method_10_code
def yL_told : MethodName := ⟨RLw, "told", "(LFirstWords;[II[I[I[I[I[I)Z"⟩
abbrev cL_fresh : ByteArray := method_11_code
def yL_fresh : MethodName := ⟨RLw, "fresh", "([I)V"⟩
abbrev cL_plainest : ByteArray := method_12_code
def yL_plainest : MethodName := ⟨RLw, "plainest", "([I[II)I"⟩
abbrev cL_learns : ByteArray := method_13_code
def yL_learns : MethodName := ⟨RLw, "learns", "([I[I[I[IIIIIII)V"⟩
abbrev cL_fitting : ByteArray := method_14_code
def yL_fitting : MethodName := ⟨RLw, "fitting", "([II[I[II)I"⟩
abbrev cL_isSame : ByteArray := method_15_code
def yL_isSame : MethodName := ⟨RLw, "isSame", "([I[I[III)Z"⟩
abbrev cL_all : ByteArray := method_16_code
def yL_all : MethodName := ⟨RLw, "all", "([I[II[I[I[I)V"⟩
abbrev cL_law : ByteArray := code
def yL_law : MethodName := ⟨RLw, "law", "([I)Z"⟩
def wsL_law_r1 : List Cond := [Cond.classLink RLw 13 RX6, Cond.instantiable RX6 10, Cond.initialized RX6, Cond.arrayClass .int, Cond.methodLink RLw 97 yX6_init, Cond.instanceMethod yX6_init, Cond.code yX6_init cX6_init 2 none, Cond.methodLink RX6 1 objectInit, Cond.instanceMethod objectInit, Cond.code objectInit ⟨#[0xb1]⟩ 1 none, Cond.classLink RX6 7 RX3, Cond.instantiable RX3 9, Cond.initialized RX3, Cond.fieldLink RX6 10 "FirstWords" "tape" "LFirstWords$Tape;", Cond.classLink RX6 16 RX4, Cond.instantiable RX4 19, Cond.initialized RX4, Cond.fieldLink RX6 19 "FirstWords" "told" "LFirstWords$Told;", Cond.fieldLink RX6 23 "FirstWords" "draft" "LFirstWords$Told;", Cond.classLink RX6 26 RX1, Cond.instantiable RX1 9, Cond.initialized RX1, Cond.fieldLink RX6 29 "FirstWords" "now" "LFirstWords$Scene;", Cond.fieldLink RX6 33 "FirstWords" "images" "[LFirstWords$Scene;"]
def wsL_law_r2 : List Cond := [Cond.classLink RX6 37 RX0, Cond.instantiable RX0 6, Cond.initialized RX0, Cond.fieldLink RX6 40 "FirstWords" "minds" "LFirstWords$Minds;", Cond.fieldLink RX6 44 "FirstWords" "trial" "LFirstWords$Minds;", Cond.classLink RX6 47 RX5, Cond.instantiable RX5 10, Cond.initialized RX5, Cond.fieldLink RX6 50 "FirstWords" "tutor" "LFirstWords$Tutor;", Cond.classLink RX6 54 RX2, Cond.instantiable RX2 3, Cond.initialized RX2, Cond.fieldLink RX6 57 "FirstWords" "sheets" "LFirstWords$Sheets;", Cond.methodLink RX6 9 yX3_init, Cond.instanceMethod yX3_init, Cond.code yX3_init cX3_init 1 none, Cond.methodLink RX3 3 objectInit, Cond.fieldLink RX3 9 "FirstWords$Tape" "bytes" "[I", Cond.methodLink RX6 18 yX4_init, Cond.instanceMethod yX4_init, Cond.code yX4_init cX4_init 1 none, Cond.methodLink RX4 3 objectInit, Cond.fieldLink RX4 9 "FirstWords$Told" "marks" "[I", Cond.fieldLink RX4 15 "FirstWords$Told" "isIt" "[I"]
def wsL_law_r3 : List Cond := [Cond.fieldLink RX4 18 "FirstWords$Told" "has" "[I", Cond.fieldLink RX4 21 "FirstWords$Told" "hasNot" "[I", Cond.fieldLink RX4 24 "FirstWords$Told" "asks" "[I", Cond.fieldLink RX4 27 "FirstWords$Told" "are" "[I", Cond.fieldLink RX4 30 "FirstWords$Told" "alike" "[I", Cond.fieldLink RX4 33 "FirstWords$Told" "fromPlainest" "[I", Cond.fieldLink RX4 36 "FirstWords$Told" "target" "[I", Cond.fieldLink RX4 39 "FirstWords$Told" "sort" "[I", Cond.fieldLink RX4 42 "FirstWords$Told" "sees" "[I", Cond.fieldLink RX4 45 "FirstWords$Told" "fears" "[I", Cond.arrayClass .boolean, Cond.fieldLink RX4 48 "FirstWords$Told" "unlike" "[Z", Cond.fieldLink RX4 52 "FirstWords$Told" "chance" "[I", Cond.fieldLink RX4 55 "FirstWords$Told" "can" "[I", Cond.methodLink RX6 28 yX1_init, Cond.instanceMethod yX1_init, Cond.code yX1_init cX1_init 1 none, Cond.methodLink RX1 3 objectInit, Cond.fieldLink RX1 9 "FirstWords$Scene" "sound" "[I", Cond.fieldLink RX1 15 "FirstWords$Scene" "thing" "[I", Cond.fieldLink RX1 18 "FirstWords$Scene" "so" "[Z", Cond.fieldLink RX1 22 "FirstWords$Scene" "theirThing" "[I", Cond.fieldLink RX1 25 "FirstWords$Scene" "theirSo" "[Z", Cond.methodLink RX6 39 yX0_init]
def wsL_law_r4 : List Cond := [Cond.instanceMethod yX0_init, Cond.code yX0_init cX0_init 1 none, Cond.methodLink RX0 3 objectInit, Cond.fieldLink RX0 9 "FirstWords$Minds" "thought" "[I", Cond.fieldLink RX0 15 "FirstWords$Minds" "wrong" "[I", Cond.fieldLink RX0 18 "FirstWords$Minds" "latest" "[I", Cond.fieldLink RX0 21 "FirstWords$Minds" "fledAt" "[I", Cond.fieldLink RX0 24 "FirstWords$Minds" "fit" "[I", Cond.methodLink RX6 49 yX5_init, Cond.instanceMethod yX5_init, Cond.code yX5_init cX5_init 2 none, Cond.methodLink RX5 3 objectInit, Cond.fieldLink RX5 9 "FirstWords$Tutor" "row" "[I", Cond.fieldLink RX5 15 "FirstWords$Tutor" "bestOrder" "[I", Cond.fieldLink RX5 18 "FirstWords$Tutor" "tried" "[I", Cond.classLink RX5 21 RX0, Cond.fieldLink RX5 23 "FirstWords$Tutor" "alongRow" "[LFirstWords$Minds;", Cond.fieldLink RX5 27 "FirstWords$Tutor" "alongOrder" "[LFirstWords$Minds;", Cond.methodLink RX5 30 yX0_init, Cond.methodLink RX6 56 yX2_init, Cond.instanceMethod yX2_init, Cond.code yX2_init cX2_init 2 none, Cond.methodLink RX2 3 objectInit, Cond.fieldLink RX2 9 "FirstWords$Sheets" "size" "[I"]
def wsL_law_r5 : List Cond := [Cond.fieldLink RX2 15 "FirstWords$Sheets" "laneOf" "[I", Cond.classLink RX2 18 "[[I", Cond.fieldLink RX2 20 "FirstWords$Sheets" "cells" "[[I", Cond.methodLink RLw 98 yL_told, Cond.static yL_told, Cond.initialized RLw, Cond.code yL_told cL_told 16 (some .boolean), Cond.arrayClass .long, Cond.constantLong RLw 36 (499967946343), Cond.constantLong RLw 45 (469852319347), Cond.constantLong RLw 47 (544108404), Cond.constantLong RLw 49 (2003792484), Cond.constantLong RLw 54 (482854660462), Cond.constantLong RLw 56 (1818325876), Cond.constantLong RLw 58 (27973166649734508), Cond.constantLong RLw 60 (482956244324), Cond.constantLong RLw 62 (9116499217113957), Cond.constantLong RLw 64 (9136316380441445), Cond.constantLong RLw 66 (35624159638131), Cond.constantLong RLw 68 (139374978419), Cond.methodLink RLw 28 yL_cell, Cond.static yL_cell, Cond.code yL_cell cL_cell 2 (some .int), Cond.constant RLw 7 (15485863)]
def wsL_law_r6 : List Cond := [Cond.constant RLw 8 (32452843), Cond.methodLink RLw 32 yL_low, Cond.static yL_low, Cond.code yL_low cL_low 2 (some .int), Cond.constant RLw 9 (2147483647), Cond.methodLink RLw 38 yL_word, Cond.static yL_word, Cond.code yL_word cL_word 6 none, Cond.methodLink RLw 18 yL_put, Cond.static yL_put, Cond.code yL_put cL_put 3 none, Cond.constantLong RLw 10 (8), Cond.methodLink RLw 12 yX6_feed, Cond.instanceMethod yX6_feed, Cond.selects RX6 yX6_feed yX6_feed, Cond.code yX6_feed cX6_feed 4 (some .int), Cond.fieldLink RX6 61 "FirstWords$Tape" "length" "I", Cond.methodLink RX6 65 yX3_put, Cond.instanceMethod yX3_put, Cond.selects RX3 yX3_put yX3_put, Cond.code yX3_put cX3_put 2 none, Cond.fieldLink RX3 15 "FirstWords$Tape" "length" "I", Cond.methodLink RLw 42 yL_letters, Cond.static yL_letters]
def wsL_law_r7 : List Cond := [Cond.code yL_letters cL_letters 4 none, Cond.methodLink RLw 51 yL_number, Cond.static yL_number, Cond.code yL_number cL_number 5 none, Cond.methodLink RLw 70 yL_ended, Cond.static yL_ended, Cond.code yL_ended cL_ended 3 (some .boolean), Cond.methodLink RLw 24 yX6_end, Cond.instanceMethod yX6_end, Cond.selects RX6 yX6_end yX6_end, Cond.code yX6_end cX6_end 3 (some .int), Cond.methodLink RLw 74 yX6_text, Cond.instanceMethod yX6_text, Cond.selects RX6 yX6_text yX6_text, Cond.code yX6_text cX6_text 4 (some .int), Cond.fieldLink RX6 73 "FirstWords$Tape" "place" "I", Cond.fieldLink RX6 76 "FirstWords$Scene" "isKept" "Z", Cond.fieldLink RX6 87 "FirstWords$Tape" "lines" "I", Cond.methodLink RX6 69 yX3_readInto, Cond.instanceMethod yX3_readInto, Cond.selects RX3 yX3_readInto yX3_readInto, Cond.code yX3_readInto cX3_readInto 3 (some .boolean), Cond.fieldLink RX3 24 "FirstWords$Tape" "fault" "I", Cond.fieldLink RX3 27 "FirstWords$Tape" "place" "I"]
def wsL_law_r8 : List Cond := [Cond.fieldLink RX3 30 "FirstWords$Tape" "lines" "I", Cond.fieldLink RX3 33 "FirstWords$Tape" "at" "I", Cond.fieldLink RX3 39 "FirstWords$Tape" "token" "I", Cond.methodLink RX3 19 yX4_empty, Cond.instanceMethod yX4_empty, Cond.selects RX4 yX4_empty yX4_empty, Cond.code yX4_empty cX4_empty 1 none, Cond.fieldLink RX4 58 "FirstWords$Told" "things" "I", Cond.fieldLink RX4 62 "FirstWords$Told" "meanings" "I", Cond.fieldLink RX4 65 "FirstWords$Told" "sounds" "I", Cond.fieldLink RX4 68 "FirstWords$Told" "kinds" "I", Cond.methodLink RX3 36 yX3_nextToken, Cond.instanceMethod yX3_nextToken, Cond.selects RX3 yX3_nextToken yX3_nextToken, Cond.code yX3_nextToken cX3_nextToken 1 none, Cond.fieldLink RX3 49 "FirstWords$Tape" "start" "I", Cond.fieldLink RX3 59 "FirstWords$Tape" "stop" "I", Cond.methodLink RX3 52 yX3_byteAt, Cond.instanceMethod yX3_byteAt, Cond.selects RX3 yX3_byteAt yX3_byteAt, Cond.code yX3_byteAt cX3_byteAt 2 (some .int), Cond.methodLink RX3 56 yX3_tokenAt, Cond.instanceMethod yX3_tokenAt, Cond.selects RX3 yX3_tokenAt yX3_tokenAt]
def wsL_law_r9 : List Cond := [Cond.code yX3_tokenAt cX3_tokenAt 3 (some .int), Cond.methodLink RX3 62 yX3_blame, Cond.instanceMethod yX3_blame, Cond.selects RX3 yX3_blame yX3_blame, Cond.code yX3_blame cX3_blame 2 none, Cond.methodLink RX3 42 yX3_readLine, Cond.instanceMethod yX3_readLine, Cond.selects RX3 yX3_readLine yX3_readLine, Cond.code yX3_readLine cX3_readLine 3 none, Cond.methodLink RX3 75 yX3_sortNamed, Cond.instanceMethod yX3_sortNamed, Cond.selects RX3 yX3_sortNamed yX3_sortNamed, Cond.code yX3_sortNamed cX3_sortNamed 1 (some .int), Cond.methodLink RX3 80 yX3_isNamed, Cond.instanceMethod yX3_isNamed, Cond.selects RX3 yX3_isNamed yX3_isNamed, Cond.code yX3_isNamed cX3_isNamed 3 (some .boolean), Cond.methodLink RX3 66 yJ0_length_8abf5, Cond.instanceMethod yJ0_length_8abf5, Cond.selects RJ0 yJ0_length_8abf5 yJ0_length_8abf5, Cond.initialized RJ0, Cond.code yJ0_length_8abf5 cJ0_length_8abf5 1 (some .int), Cond.fieldLink RJ0 9 "java/lang/String" "value" "[B", Cond.methodLink RJ0 335 yJ0_coder_7d493]
def wsL_law_r10 : List Cond := [Cond.instanceMethod yJ0_coder_7d493, Cond.selects RJ0 yJ0_coder_7d493 yJ0_coder_7d493, Cond.code yJ0_coder_7d493 cJ0_coder_7d493 1 (some .byte), Cond.fieldLink RJ0 38 "java/lang/String" "COMPACT_STRINGS" "Z", Cond.fieldLink RJ0 15 "java/lang/String" "coder" "B", Cond.methodLink RX3 71 yJ0_charAt_5068e, Cond.instanceMethod yJ0_charAt_5068e, Cond.selects RJ0 yJ0_charAt_5068e yJ0_charAt_5068e, Cond.code yJ0_charAt_5068e cJ0_charAt_5068e 2 (some .char), Cond.methodLink RJ0 492 yJ0_isLatin1_aae02, Cond.instanceMethod yJ0_isLatin1_aae02, Cond.selects RJ0 yJ0_isLatin1_aae02 yJ0_isLatin1_aae02, Cond.code yJ0_isLatin1_aae02 cJ0_isLatin1_aae02 1 (some .boolean), Cond.methodLink RJ0 495 yJ1_charAt_3b067, Cond.static yJ1_charAt_3b067, Cond.initialized RJ1, Cond.code yJ1_charAt_3b067 cJ1_charAt_3b067 2 (some .char), Cond.methodLink RJ1 9 yJ0_checkIndex_df160, Cond.static yJ0_checkIndex_df160, Cond.code yJ0_checkIndex_df160 cJ0_checkIndex_df160 2 none, Cond.fieldLink RJ0 1053 "jdk/internal/util/Preconditions" "SIOOBE_FORMATTER" "Ljava/util/function/BiFunction;", Cond.methodLink RJ0 1059 yJ3_checkIndex_8e157, Cond.static yJ3_checkIndex_8e157, Cond.initialized RJ3]
def wsL_law_r11 : List Cond := [Cond.code yJ3_checkIndex_8e157 cJ3_checkIndex_8e157 3 (some .int), Cond.methodLink RJ0 498 yJ2_charAt_3b067, Cond.static yJ2_charAt_3b067, Cond.initialized RJ2, Cond.code yJ2_charAt_3b067 cJ2_charAt_3b067 2 (some .char), Cond.methodLink RJ2 67 yJ2_checkIndex_2214a, Cond.static yJ2_checkIndex_2214a, Cond.code yJ2_checkIndex_2214a cJ2_checkIndex_2214a 2 none, Cond.methodLink RJ2 48 yJ2_length_9d52b, Cond.static yJ2_length_9d52b, Cond.code yJ2_length_9d52b cJ2_length_9d52b 1 (some .int), Cond.methodLink RJ2 414 yJ0_checkIndex_df160, Cond.methodLink RJ2 71 yJ2_getChar_3b067, Cond.static yJ2_getChar_3b067, Cond.code yJ2_getChar_3b067 cJ2_getChar_3b067 2 (some .char), Cond.fieldLink RJ2 44 "java/lang/StringUTF16" "$assertionsDisabled" "Z", Cond.fieldLink RJ2 59 "java/lang/StringUTF16" "HI_BYTE_SHIFT" "I", Cond.fieldLink RJ2 63 "java/lang/StringUTF16" "LO_BYTE_SHIFT" "I", Cond.methodLink RX3 84 yX3_readThing, Cond.instanceMethod yX3_readThing, Cond.selects RX3 yX3_readThing yX3_readThing, Cond.code yX3_readThing cX3_readThing 2 none, Cond.fieldLink RX3 109 "FirstWords$Told" "things" "I", Cond.methodLink RX3 112 yX3_takeLetters]
def wsL_law_r12 : List Cond := [Cond.instanceMethod yX3_takeLetters, Cond.selects RX3 yX3_takeLetters yX3_takeLetters, Cond.code yX3_takeLetters cX3_takeLetters 5 (some .int), Cond.static yX6_isIn, Cond.code yX6_isIn cX6_isIn 2 (some .boolean), Cond.methodLink RX3 115 yX4_addThing, Cond.instanceMethod yX4_addThing, Cond.selects RX4 yX4_addThing yX4_addThing, Cond.code yX4_addThing cX4_addThing 2 none, Cond.methodLink RX3 89 yX3_readMeaning, Cond.instanceMethod yX3_readMeaning, Cond.selects RX3 yX3_readMeaning yX3_readMeaning, Cond.code yX3_readMeaning cX3_readMeaning 4 none, Cond.fieldLink RX3 118 "FirstWords$Told" "meanings" "I", Cond.methodLink RX3 123 yX4_addMeaning, Cond.instanceMethod yX4_addMeaning, Cond.selects RX4 yX4_addMeaning yX4_addMeaning, Cond.code yX4_addMeaning cX4_addMeaning 3 none, Cond.methodLink RX4 71 yJ6_bitCount_0f7a4, Cond.static yJ6_bitCount_0f7a4, Cond.initialized RJ6, Cond.code yJ6_bitCount_0f7a4 cJ6_bitCount_0f7a4 1 (some .int), Cond.constant RJ6 265 (1431655765), Cond.constant RJ6 266 (858993459)]
def wsL_law_r13 : List Cond := [Cond.constant RJ6 267 (252645135), Cond.methodLink RX3 94 yX3_readWord, Cond.instanceMethod yX3_readWord, Cond.selects RX3 yX3_readWord yX3_readWord, Cond.code yX3_readWord cX3_readWord 2 none, Cond.fieldLink RX3 127 "FirstWords$Told" "sounds" "I", Cond.methodLink RX3 130 yX3_takeNumber, Cond.instanceMethod yX3_takeNumber, Cond.selects RX3 yX3_takeNumber yX3_takeNumber, Cond.code yX3_takeNumber cX3_takeNumber 4 (some .int), Cond.methodLink RX3 133 yX4_addSound, Cond.instanceMethod yX4_addSound, Cond.selects RX4 yX4_addSound yX4_addSound, Cond.code yX4_addSound cX4_addSound 2 none, Cond.methodLink RX3 97 yX3_readKind, Cond.instanceMethod yX3_readKind, Cond.selects RX3 yX3_readKind yX3_readKind, Cond.code yX3_readKind cX3_readKind 7 none, Cond.fieldLink RX3 136 "FirstWords$Told" "kinds" "I", Cond.fieldLink RX3 149 "FirstWords$Told" "sees" "[I", Cond.fieldLink RX3 152 "FirstWords$Told" "fears" "[I", Cond.fieldLink RX3 155 "FirstWords$Told" "chance" "[I", Cond.fieldLink RX3 158 "FirstWords$Told" "unlike" "[Z", Cond.methodLink RX3 139 yX4_addKind]
def wsL_law_r14 : List Cond := [Cond.instanceMethod yX4_addKind, Cond.selects RX4 yX4_addKind yX4_addKind, Cond.code yX4_addKind cX4_addKind 2 none, Cond.methodLink RX3 142 yX3_withNamed, Cond.instanceMethod yX3_withNamed, Cond.selects RX3 yX3_withNamed yX3_withNamed, Cond.code yX3_withNamed cX3_withNamed 1 (some .int), Cond.methodLink RX3 46 yX4_settle, Cond.instanceMethod yX4_settle, Cond.selects RX4 yX4_settle yX4_settle, Cond.code yX4_settle cX4_settle 3 none, Cond.methodLink RX4 77 yX4_settleMeanings, Cond.instanceMethod yX4_settleMeanings, Cond.selects RX4 yX4_settleMeanings yX4_settleMeanings, Cond.code yX4_settleMeanings cX4_settleMeanings 4 none, Cond.methodLink RX6 80 yX1_empty, Cond.instanceMethod yX1_empty, Cond.selects RX1 yX1_empty yX1_empty, Cond.code yX1_empty cX1_empty 2 none, Cond.fieldLink RX1 28 "FirstWords$Scene" "showings" "I", Cond.fieldLink RX1 32 "FirstWords$Scene" "theirs" "I", Cond.fieldLink RX1 41 "FirstWords$Scene" "left" "I", Cond.methodLink RX1 35 yX4_allKinds, Cond.instanceMethod yX4_allKinds]
def wsL_law_r15 : List Cond := [Cond.selects RX4 yX4_allKinds yX4_allKinds, Cond.code yX4_allKinds cX4_allKinds 1 (some .int), Cond.methodLink RX6 84 yX0_blank, Cond.instanceMethod yX0_blank, Cond.selects RX0 yX0_blank yX0_blank, Cond.code yX0_blank cX0_blank 3 none, Cond.fieldLink RX0 27 "FirstWords$Minds" "seen" "I", Cond.methodLink RX0 31 yX4_allMeanings, Cond.instanceMethod yX4_allMeanings, Cond.selects RX4 yX4_allMeanings yX4_allMeanings, Cond.code yX4_allMeanings cX4_allMeanings 1 (some .int), Cond.methodLink RLw 102 yX6_thing, Cond.instanceMethod yX6_thing, Cond.selects RX6 yX6_thing yX6_thing, Cond.code yX6_thing cX6_thing 2 (some .int), Cond.fieldLink RX6 97 "FirstWords$Told" "marks" "[I", Cond.methodLink RX6 93 yX4_hasThing, Cond.instanceMethod yX4_hasThing, Cond.selects RX4 yX4_hasThing yX4_hasThing, Cond.code yX4_hasThing cX4_hasThing 2 (some .boolean), Cond.methodLink RLw 105 yX6_meaning, Cond.instanceMethod yX6_meaning, Cond.selects RX6 yX6_meaning yX6_meaning, Cond.code yX6_meaning cX6_meaning 3 (some .int)]
def wsL_law_r16 : List Cond := [Cond.fieldLink RX6 104 "FirstWords$Told" "has" "[I", Cond.fieldLink RX6 107 "FirstWords$Told" "hasNot" "[I", Cond.fieldLink RX6 110 "FirstWords$Told" "asks" "[I", Cond.fieldLink RX6 113 "FirstWords$Told" "are" "[I", Cond.methodLink RX6 101 yX4_hasMeaning, Cond.instanceMethod yX4_hasMeaning, Cond.selects RX4 yX4_hasMeaning yX4_hasMeaning, Cond.code yX4_hasMeaning cX4_hasMeaning 2 (some .boolean), Cond.methodLink RX6 116 yX4_kindsThatCan, Cond.instanceMethod yX4_kindsThatCan, Cond.selects RX4 yX4_kindsThatCan yX4_kindsThatCan, Cond.code yX4_kindsThatCan cX4_kindsThatCan 4 (some .int), Cond.methodLink RLw 78 yL_ones, Cond.static yL_ones, Cond.code yL_ones cL_ones 3 (some .int), Cond.methodLink RLw 108 yX6_kind, Cond.instanceMethod yX6_kind, Cond.selects RX6 yX6_kind yX6_kind, Cond.code yX6_kind cX6_kind 3 (some .int), Cond.fieldLink RX6 129 "FirstWords$Told" "sort" "[I", Cond.fieldLink RX6 132 "FirstWords$Told" "sees" "[I", Cond.fieldLink RX6 135 "FirstWords$Told" "fears" "[I", Cond.fieldLink RX6 138 "FirstWords$Told" "unlike" "[Z", Cond.fieldLink RX6 142 "FirstWords$Told" "chance" "[I"]
def wsL_law_r17 : List Cond := [Cond.fieldLink RX6 145 "FirstWords$Told" "can" "[I", Cond.methodLink RX6 126 yX4_hasKind, Cond.instanceMethod yX4_hasKind, Cond.selects RX4 yX4_hasKind yX4_hasKind, Cond.code yX4_hasKind cX4_hasKind 2 (some .boolean), Cond.methodLink RLw 111 yX6_teach, Cond.instanceMethod yX6_teach, Cond.selects RX6 yX6_teach yX6_teach, Cond.code yX6_teach cX6_teach 3 (some .int), Cond.methodLink RX6 155 yX4_isTarget, Cond.instanceMethod yX4_isTarget, Cond.selects RX4 yX4_isTarget yX4_isTarget, Cond.code yX4_isTarget cX4_isTarget 3 (some .boolean), Cond.methodLink RX4 98 yX4_targetThings, Cond.instanceMethod yX4_targetThings, Cond.selects RX4 yX4_targetThings yX4_targetThings, Cond.code yX4_targetThings cX4_targetThings 2 (some .int), Cond.methodLink RX4 92 yX4_hasSound, Cond.instanceMethod yX4_hasSound, Cond.selects RX4 yX4_hasSound yX4_hasSound, Cond.code yX4_hasSound cX4_hasSound 2 (some .boolean), Cond.methodLink RX4 95 yX4_hasMeaning, Cond.methodLink RX6 159 yX6_show, Cond.instanceMethod yX6_show]
def wsL_law_r18 : List Cond := [Cond.selects RX6 yX6_show yX6_show, Cond.code yX6_show cX6_show 4 (some .int), Cond.fieldLink RX6 148 "FirstWords$Scene" "showings" "I", Cond.methodLink RX6 120 yX4_hasSound, Cond.methodLink RX6 151 yX6_takeShowing, Cond.instanceMethod yX6_takeShowing, Cond.selects RX6 yX6_takeShowing yX6_takeShowing, Cond.code yX6_takeShowing cX6_takeShowing 5 none, Cond.fieldLink RX6 173 "FirstWords$Scene" "sound" "[I", Cond.fieldLink RX6 176 "FirstWords$Scene" "thing" "[I", Cond.fieldLink RX6 179 "FirstWords$Scene" "so" "[Z", Cond.methodLink RX6 166 yX4_allKinds, Cond.methodLink RX6 343 yX0_witness, Cond.instanceMethod yX0_witness, Cond.selects RX0 yX0_witness yX0_witness, Cond.code yX0_witness cX0_witness 9 (some .boolean), Cond.fieldLink RX0 54 "FirstWords$Told" "kinds" "I", Cond.fieldLink RX0 61 "FirstWords$Told" "fears" "[I", Cond.methodLink RX0 43 yX4_hasSound, Cond.methodLink RX0 47 yX4_hasThing, Cond.methodLink RX0 50 yX4_fitting, Cond.instanceMethod yX4_fitting, Cond.selects RX4 yX4_fitting yX4_fitting, Cond.code yX4_fitting cX4_fitting 3 (some .int)]
def wsL_law_r19 : List Cond := [Cond.methodLink RX4 84 yX4_hasThing, Cond.methodLink RX4 88 yX4_allMeanings, Cond.methodLink RX0 64 yX0_frighten, Cond.instanceMethod yX0_frighten, Cond.selects RX0 yX0_frighten yX0_frighten, Cond.code yX0_frighten cX0_frighten 3 none, Cond.methodLink RX0 68 yX0_look, Cond.instanceMethod yX0_look, Cond.selects RX0 yX0_look yX0_look, Cond.code yX0_look cX0_look 12 (some .boolean), Cond.fieldLink RX0 80 "FirstWords$Told" "sort" "[I", Cond.fieldLink RX0 83 "FirstWords$Told" "alike" "[I", Cond.methodLink RX0 72 yX0_choices, Cond.instanceMethod yX0_choices, Cond.selects RX0 yX0_choices yX0_choices, Cond.code yX0_choices cX0_choices 7 (some .int), Cond.fieldLink RX0 90 "FirstWords$Told" "can" "[I", Cond.fieldLink RX0 93 "FirstWords$Told" "sounds" "I", Cond.fieldLink RX0 96 "FirstWords$Told" "unlike" "[Z", Cond.methodLink RX0 100 yX0_thoughtOf, Cond.instanceMethod yX0_thoughtOf, Cond.selects RX0 yX0_thoughtOf yX0_thoughtOf, Cond.code yX0_thoughtOf cX0_thoughtOf 4 (some .int), Cond.methodLink RX0 76 yX4_plainest]
def wsL_law_r20 : List Cond := [Cond.instanceMethod yX4_plainest, Cond.selects RX4 yX4_plainest yX4_plainest, Cond.code yX4_plainest cX4_plainest 3 (some .int), Cond.methodLink RX0 86 yX0_holdOrTurn, Cond.instanceMethod yX0_holdOrTurn, Cond.selects RX0 yX0_holdOrTurn yX0_holdOrTurn, Cond.code yX0_holdOrTurn cX0_holdOrTurn 5 none, Cond.methodLink RLw 114 yX6_show, Cond.methodLink RLw 118 yX6_undo, Cond.instanceMethod yX6_undo, Cond.selects RX6 yX6_undo yX6_undo, Cond.code yX6_undo cX6_undo 1 (some .int), Cond.methodLink RX6 163 yX6_thinkAgain, Cond.instanceMethod yX6_thinkAgain, Cond.selects RX6 yX6_thinkAgain yX6_thinkAgain, Cond.code yX6_thinkAgain cX6_thinkAgain 2 none, Cond.methodLink RLw 121 yX6_keep, Cond.instanceMethod yX6_keep, Cond.selects RX6 yX6_keep yX6_keep, Cond.code yX6_keep cX6_keep 3 (some .int), Cond.methodLink RX6 308 yX1_become, Cond.instanceMethod yX1_become, Cond.selects RX1 yX1_become yX1_become, Cond.code yX1_become cX1_become 3 none]
def wsL_law_r21 : List Cond := [Cond.methodLink RX1 44 arraycopyName, Cond.native arraycopyName, Cond.static arraycopyName, Cond.initialized "java/lang/System", Cond.methodLink RLw 124 yX6_back, Cond.instanceMethod yX6_back, Cond.selects RX6 yX6_back yX6_back, Cond.code yX6_back cX6_back 2 (some .int), Cond.methodLink RLw 127 yX6_clear, Cond.instanceMethod yX6_clear, Cond.selects RX6 yX6_clear yX6_clear, Cond.code yX6_clear cX6_clear 2 (some .int), Cond.fieldLink RX6 170 "FirstWords$Scene" "left" "I", Cond.methodLink RLw 130 yL_all, Cond.static yL_all, Cond.code yL_all cL_all 9 none, Cond.methodLink RLw 85 yL_fresh, Cond.static yL_fresh, Cond.code yL_fresh cL_fresh 2 none, Cond.methodLink RLw 89 yL_fitting, Cond.static yL_fitting, Cond.code yL_fitting cL_fitting 8 (some .int), Cond.methodLink RLw 93 yL_learns, Cond.static yL_learns]
def wsL_law_r22 : List Cond := [Cond.code yL_learns cL_learns 16 none, Cond.methodLink RLw 81 yL_plainest, Cond.static yL_plainest, Cond.code yL_plainest cL_plainest 7 (some .int), Cond.methodLink RLw 134 yX6_count, Cond.instanceMethod yX6_count, Cond.selects RX6 yX6_count yX6_count, Cond.code yX6_count cX6_count 2 (some .int), Cond.fieldLink RX6 242 "FirstWords$Told" "things" "I", Cond.fieldLink RX6 334 "FirstWords$Told" "meanings" "I", Cond.fieldLink RX6 202 "FirstWords$Told" "sounds" "I", Cond.fieldLink RX6 305 "FirstWords$Told" "kinds" "I", Cond.fieldLink RX6 282 "FirstWords$Scene" "theirs" "I", Cond.fieldLink RX6 340 "FirstWords$Sheets" "size" "[I", Cond.methodLink RX6 337 yX6_imagesKept, Cond.instanceMethod yX6_imagesKept, Cond.selects RX6 yX6_imagesKept yX6_imagesKept, Cond.code yX6_imagesKept cX6_imagesKept 3 (some .int), Cond.methodLink RLw 137 yX6_shown, Cond.instanceMethod yX6_shown, Cond.selects RX6 yX6_shown yX6_shown, Cond.code yX6_shown cX6_shown 3 (some .int), Cond.methodLink RLw 140 yL_isSame, Cond.static yL_isSame]
def wsL_law_r23 : List Cond := [Cond.code yL_isSame cL_isSame 6 (some .boolean), Cond.methodLink RLw 144 yX6_thinks, Cond.instanceMethod yX6_thinks, Cond.selects RX6 yX6_thinks yX6_thinks, Cond.code yX6_thinks cX6_thinks 3 (some .int), Cond.methodLink RX6 182 yX0_thoughtOf, Cond.methodLink RLw 147 yX6_against, Cond.instanceMethod yX6_against, Cond.selects RX6 yX6_against yX6_against, Cond.code yX6_against cX6_against 3 (some .int), Cond.fieldLink RX6 196 "FirstWords$Minds" "wrong" "[I", Cond.methodLink RLw 150 yX6_same, Cond.instanceMethod yX6_same, Cond.selects RX6 yX6_same yX6_same, Cond.code yX6_same cX6_same 3 (some .int), Cond.methodLink RX6 189 yX0_isSame, Cond.instanceMethod yX0_isSame, Cond.selects RX0 yX0_isSame yX0_isSame, Cond.code yX0_isSame cX0_isSame 4 (some .boolean), Cond.methodLink RX0 104 yX4_likeTarget, Cond.instanceMethod yX4_likeTarget, Cond.selects RX4 yX4_likeTarget yX4_likeTarget, Cond.code yX4_likeTarget cX4_likeTarget 2 (some .int), Cond.methodLink RLw 153 yX6_fits]
def wsL_law_r24 : List Cond := [Cond.instanceMethod yX6_fits, Cond.selects RX6 yX6_fits yX6_fits, Cond.code yX6_fits cX6_fits 3 (some .int), Cond.fieldLink RX6 186 "FirstWords$Minds" "fit" "[I", Cond.methodLink RLw 156 yX6_fled, Cond.instanceMethod yX6_fled, Cond.selects RX6 yX6_fled yX6_fled, Cond.code yX6_fled cX6_fled 2 (some .int), Cond.fieldLink RX6 193 "FirstWords$Minds" "fledAt" "[I", Cond.methodLink RLw 159 yX6_answer, Cond.instanceMethod yX6_answer, Cond.selects RX6 yX6_answer yX6_answer, Cond.code yX6_answer cX6_answer 4 (some .int), Cond.methodLink RX6 260 yX0_answerOf, Cond.instanceMethod yX0_answerOf, Cond.selects RX0 yX0_answerOf yX0_answerOf, Cond.code yX0_answerOf cX0_answerOf 6 (some .int), Cond.fieldLink RX0 117 "FirstWords$Told" "are" "[I", Cond.methodLink RX0 114 yX4_hasMeaning, Cond.methodLink RLw 163 yX6_likely, Cond.instanceMethod yX6_likely, Cond.selects RX6 yX6_likely yX6_likely, Cond.code yX6_likely cX6_likely 4 (some .int), Cond.methodLink RX6 251 yX4_chances]
def wsL_law_r25 : List Cond := [Cond.instanceMethod yX4_chances, Cond.selects RX4 yX4_chances yX4_chances, Cond.code yX4_chances cX4_chances 4 (some .int), Cond.methodLink RX6 278 yX0_chanceOfSame, Cond.instanceMethod yX0_chanceOfSame, Cond.selects RX0 yX0_chanceOfSame yX0_chanceOfSame, Cond.code yX0_chanceOfSame cX0_chanceOfSame 5 (some .int), Cond.fieldLink RX0 111 "FirstWords$Told" "chance" "[I", Cond.methodLink RX0 107 yX0_isSame, Cond.methodLink RX6 254 yX6_ofLowestTerms, Cond.static yX6_ofLowestTerms, Cond.code yX6_ofLowestTerms cX6_ofLowestTerms 7 (some .int), Cond.methodLink RLw 166 yX6_common, Cond.instanceMethod yX6_common, Cond.selects RX6 yX6_common yX6_common, Cond.code yX6_common cX6_common 4 (some .int), Cond.methodLink RX6 199 yX4_areKinds, Cond.instanceMethod yX4_areKinds, Cond.selects RX4 yX4_areKinds yX4_areKinds, Cond.code yX4_areKinds cX4_areKinds 2 (some .boolean), Cond.methodLink RX6 205 yX0_isSameForAll, Cond.instanceMethod yX0_isSameForAll, Cond.selects RX0 yX0_isSameForAll yX0_isSameForAll, Cond.code yX0_isSameForAll cX0_isSameForAll 5 (some .boolean)]
def wsL_law_r26 : List Cond := [Cond.methodLink RLw 169 yX6_word, Cond.instanceMethod yX6_word, Cond.selects RX6 yX6_word yX6_word, Cond.code yX6_word cX6_word 2 (some .int), Cond.fieldLink RX6 123 "FirstWords$Told" "target" "[I"]
def wsL_law : List Cond := (wsL_law_r1 ++ (wsL_law_r2 ++ (wsL_law_r3 ++ (wsL_law_r4 ++ (wsL_law_r5 ++ (wsL_law_r6 ++ (wsL_law_r7 ++ (wsL_law_r8 ++ (wsL_law_r9 ++ (wsL_law_r10 ++ (wsL_law_r11 ++ (wsL_law_r12 ++ (wsL_law_r13 ++ (wsL_law_r14 ++ (wsL_law_r15 ++ (wsL_law_r16 ++ (wsL_law_r17 ++ (wsL_law_r18 ++ (wsL_law_r19 ++ (wsL_law_r20 ++ (wsL_law_r21 ++ (wsL_law_r22 ++ (wsL_law_r23 ++ (wsL_law_r24 ++ (wsL_law_r25 ++ wsL_law_r26))))))))))))))))))))))))) ++ wsX60 ++ wsX30 ++ wsX40 ++ wsX10 ++ wsX00 ++ wsX50 ++ wsX20 ++ ([] : List Cond)
theorem inlX0 : ∀ w ∈ wsX00, w ∈ wsL_law := fun _ h => List.mem_append_left _ (List.mem_append_left _ (List.mem_append_left _ (List.mem_append_right _ h)))
theorem inlX1 : ∀ w ∈ wsX10, w ∈ wsL_law := fun _ h => List.mem_append_left _ (List.mem_append_left _ (List.mem_append_left _ (List.mem_append_left _ (List.mem_append_right _ h))))
theorem inlX2 : ∀ w ∈ wsX20, w ∈ wsL_law := fun _ h => List.mem_append_left _ (List.mem_append_right _ h)
theorem inlX3 : ∀ w ∈ wsX30, w ∈ wsL_law := fun _ h => List.mem_append_left _ (List.mem_append_left _ (List.mem_append_left _ (List.mem_append_left _ (List.mem_append_left _ (List.mem_append_left _ (List.mem_append_right _ h))))))
theorem inlX4 : ∀ w ∈ wsX40, w ∈ wsL_law := fun _ h => List.mem_append_left _ (List.mem_append_left _ (List.mem_append_left _ (List.mem_append_left _ (List.mem_append_left _ (List.mem_append_right _ h)))))
theorem inlX5 : ∀ w ∈ wsX50, w ∈ wsL_law := fun _ h => List.mem_append_left _ (List.mem_append_left _ (List.mem_append_right _ h))
theorem inlX6 : ∀ w ∈ wsX60, w ∈ wsL_law := fun _ h => List.mem_append_left _ (List.mem_append_left _ (List.mem_append_left _ (List.mem_append_left _ (List.mem_append_left _ (List.mem_append_left _ (List.mem_append_left _ (List.mem_append_right _ h)))))))
abbrev vwCl : List vw_C := [(RX0, TX0, 6), (RX1, TX1, 9), (RX2, TX2, 3), (RX3, TX3, 9), (RX4, TX4, 19), (RX5, TX5, 10), (RX6, TX6, 10)]

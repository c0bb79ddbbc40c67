section
-- ===== PART A: goes FIRST, ahead of the names: the tables' words, and 'selects' of the private methods out of them =====
/-- a private method of a class that the tables say can be made, by its rows of tables_1 -/
def lw_okq (q : MethodName × Nat) : Prop := (q.1.cls ≠ "java/lang/invoke/MethodHandle" ∧ q.1.cls ≠ "java/lang/invoke/VarHandle") ∧ Cond.instantiable q.1.cls q.2 ∈ tables_1 ∧ Cond.privateMethod q.1 ∈ tables_1 ∧ Cond.instanceMethod q.1 ∈ tables_1
theorem lw_p0 : lw_okq (⟨"ChangeSync", "messageAt", "(I)LChangeSync$Message;"⟩, 14) := ⟨⟨by decide +kernel, by decide +kernel⟩, List.mem_of_getElem? (i := 14) (by decide +kernel), List.mem_of_getElem? (i := 82) (by decide +kernel), List.mem_of_getElem? (i := 83) (by decide +kernel)⟩
theorem lw_p1 : lw_okq (⟨"ChangeSync", "takeOutOfFlight", "(I)V"⟩, 14) := ⟨⟨by decide +kernel, by decide +kernel⟩, List.mem_of_getElem? (i := 14) (by decide +kernel), List.mem_of_getElem? (i := 86) (by decide +kernel), List.mem_of_getElem? (i := 87) (by decide +kernel)⟩
theorem lw_p2 : lw_okq (⟨"ChangeSync", "isReplica", "(I)Z"⟩, 14) := ⟨⟨by decide +kernel, by decide +kernel⟩, List.mem_of_getElem? (i := 14) (by decide +kernel), List.mem_of_getElem? (i := 94) (by decide +kernel), List.mem_of_getElem? (i := 95) (by decide +kernel)⟩
theorem lw_p3 : lw_okq (⟨"ChangeSync", "madeBy", "(I)I"⟩, 14) := ⟨⟨by decide +kernel, by decide +kernel⟩, List.mem_of_getElem? (i := 14) (by decide +kernel), List.mem_of_getElem? (i := 115) (by decide +kernel), List.mem_of_getElem? (i := 116) (by decide +kernel)⟩
theorem lw_p4 : lw_okq (⟨"ChangeSync", "replicasWithAll", "()I"⟩, 14) := ⟨⟨by decide +kernel, by decide +kernel⟩, List.mem_of_getElem? (i := 14) (by decide +kernel), List.mem_of_getElem? (i := 126) (by decide +kernel), List.mem_of_getElem? (i := 127) (by decide +kernel)⟩
theorem lw_p5 : lw_okq (⟨"ChangeSync", "madeByAll", "()I"⟩, 14) := ⟨⟨by decide +kernel, by decide +kernel⟩, List.mem_of_getElem? (i := 14) (by decide +kernel), List.mem_of_getElem? (i := 130) (by decide +kernel), List.mem_of_getElem? (i := 131) (by decide +kernel)⟩
theorem lw_p6 : lw_okq (⟨"ChangeSync", "bytesInFlight", "()I"⟩, 14) := ⟨⟨by decide +kernel, by decide +kernel⟩, List.mem_of_getElem? (i := 14) (by decide +kernel), List.mem_of_getElem? (i := 134) (by decide +kernel), List.mem_of_getElem? (i := 135) (by decide +kernel)⟩
theorem lw_p7 : lw_okq (⟨"java/lang/Throwable", "fillInStackTrace", "(I)Ljava/lang/Throwable;"⟩, 6) := ⟨⟨by decide +kernel, by decide +kernel⟩, List.mem_of_getElem? (i := 189) (by decide +kernel), List.mem_of_getElem? (i := 187) (by decide +kernel), List.mem_of_getElem? (i := 188) (by decide +kernel)⟩
theorem lw_p8 : lw_okq (⟨"ChangeSync", "comesToLog", "(II)Z"⟩, 14) := ⟨⟨by decide +kernel, by decide +kernel⟩, List.mem_of_getElem? (i := 14) (by decide +kernel), List.mem_of_getElem? (i := 251) (by decide +kernel), List.mem_of_getElem? (i := 252) (by decide +kernel)⟩
theorem lw_p9 : lw_okq (⟨"ChangeSync", "sendClock", "(II)V"⟩, 14) := ⟨⟨by decide +kernel, by decide +kernel⟩, List.mem_of_getElem? (i := 14) (by decide +kernel), List.mem_of_getElem? (i := 269) (by decide +kernel), List.mem_of_getElem? (i := 270) (by decide +kernel)⟩
theorem lw_p10 : lw_okq (⟨"ChangeSync", "countAsSent", "()Z"⟩, 14) := ⟨⟨by decide +kernel, by decide +kernel⟩, List.mem_of_getElem? (i := 14) (by decide +kernel), List.mem_of_getElem? (i := 273) (by decide +kernel), List.mem_of_getElem? (i := 274) (by decide +kernel)⟩
theorem lw_p11 : lw_okq (⟨"ChangeSync", "putInFlight", "(LChangeSync$Message;)V"⟩, 14) := ⟨⟨by decide +kernel, by decide +kernel⟩, List.mem_of_getElem? (i := 14) (by decide +kernel), List.mem_of_getElem? (i := 309) (by decide +kernel), List.mem_of_getElem? (i := 310) (by decide +kernel)⟩
theorem lw_p12 : lw_okq (⟨"ChangeSync", "answer", "(LChangeSync$Message;)I"⟩, 14) := ⟨⟨by decide +kernel, by decide +kernel⟩, List.mem_of_getElem? (i := 14) (by decide +kernel), List.mem_of_getElem? (i := 326) (by decide +kernel), List.mem_of_getElem? (i := 327) (by decide +kernel)⟩
theorem lw_p13 : lw_okq (⟨"ChangeSync", "sendGathered", "(IIII)V"⟩, 14) := ⟨⟨by decide +kernel, by decide +kernel⟩, List.mem_of_getElem? (i := 14) (by decide +kernel), List.mem_of_getElem? (i := 331) (by decide +kernel), List.mem_of_getElem? (i := 332) (by decide +kernel)⟩
theorem lw_p14 : lw_okq (⟨"ChangeSync", "takeChanges", "(LChangeSync$Message;)I"⟩, 14) := ⟨⟨by decide +kernel, by decide +kernel⟩, List.mem_of_getElem? (i := 14) (by decide +kernel), List.mem_of_getElem? (i := 349) (by decide +kernel), List.mem_of_getElem? (i := 350) (by decide +kernel)⟩
theorem lw_p15 : lw_okq (⟨"ChangeSyncModel", "isReplica", "(I)Z"⟩, 22) := ⟨⟨by decide +kernel, by decide +kernel⟩, List.mem_of_getElem? (i := 382) (by decide +kernel), List.mem_of_getElem? (i := 464) (by decide +kernel), List.mem_of_getElem? (i := 465) (by decide +kernel)⟩
def lw_privs_1 : List (MethodName × Nat) := [(⟨"ChangeSync", "messageAt", "(I)LChangeSync$Message;"⟩, 14), (⟨"ChangeSync", "takeOutOfFlight", "(I)V"⟩, 14), (⟨"ChangeSync", "isReplica", "(I)Z"⟩, 14), (⟨"ChangeSync", "madeBy", "(I)I"⟩, 14), (⟨"ChangeSync", "replicasWithAll", "()I"⟩, 14), (⟨"ChangeSync", "madeByAll", "()I"⟩, 14), (⟨"ChangeSync", "bytesInFlight", "()I"⟩, 14), (⟨"java/lang/Throwable", "fillInStackTrace", "(I)Ljava/lang/Throwable;"⟩, 6), (⟨"ChangeSync", "comesToLog", "(II)Z"⟩, 14), (⟨"ChangeSync", "sendClock", "(II)V"⟩, 14), (⟨"ChangeSync", "countAsSent", "()Z"⟩, 14), (⟨"ChangeSync", "putInFlight", "(LChangeSync$Message;)V"⟩, 14), (⟨"ChangeSync", "answer", "(LChangeSync$Message;)I"⟩, 14), (⟨"ChangeSync", "sendGathered", "(IIII)V"⟩, 14), (⟨"ChangeSync", "takeChanges", "(LChangeSync$Message;)I"⟩, 14), (⟨"ChangeSyncModel", "isReplica", "(I)Z"⟩, 22)]
theorem lw_r1 : ∀ q ∈ lw_privs_1, lw_okq q := List.forall_mem_cons.mpr ⟨lw_p0, List.forall_mem_cons.mpr ⟨lw_p1, List.forall_mem_cons.mpr ⟨lw_p2, List.forall_mem_cons.mpr ⟨lw_p3, List.forall_mem_cons.mpr ⟨lw_p4, List.forall_mem_cons.mpr ⟨lw_p5, List.forall_mem_cons.mpr ⟨lw_p6, List.forall_mem_cons.mpr ⟨lw_p7, List.forall_mem_cons.mpr ⟨lw_p8, List.forall_mem_cons.mpr ⟨lw_p9, List.forall_mem_cons.mpr ⟨lw_p10, List.forall_mem_cons.mpr ⟨lw_p11, List.forall_mem_cons.mpr ⟨lw_p12, List.forall_mem_cons.mpr ⟨lw_p13, List.forall_mem_cons.mpr ⟨lw_p14, List.forall_mem_cons.mpr ⟨lw_p15, fun _ h => absurd h List.not_mem_nil⟩⟩⟩⟩⟩⟩⟩⟩⟩⟩⟩⟩⟩⟩⟩⟩
theorem lw_p16 : lw_okq (⟨"ChangeSyncModel", "enter", "(II)V"⟩, 22) := ⟨⟨by decide +kernel, by decide +kernel⟩, List.mem_of_getElem? (i := 382) (by decide +kernel), List.mem_of_getElem? (i := 468) (by decide +kernel), List.mem_of_getElem? (i := 469) (by decide +kernel)⟩
theorem lw_p17 : lw_okq (⟨"ChangeSyncModel", "clockOf", "(I)J"⟩, 22) := ⟨⟨by decide +kernel, by decide +kernel⟩, List.mem_of_getElem? (i := 382) (by decide +kernel), List.mem_of_getElem? (i := 476) (by decide +kernel), List.mem_of_getElem? (i := 477) (by decide +kernel)⟩
theorem lw_p18 : lw_okq (⟨"ChangeSyncModel", "reached", "(II)I"⟩, 22) := ⟨⟨by decide +kernel, by decide +kernel⟩, List.mem_of_getElem? (i := 382) (by decide +kernel), List.mem_of_getElem? (i := 480) (by decide +kernel), List.mem_of_getElem? (i := 481) (by decide +kernel)⟩
theorem lw_p19 : lw_okq (⟨"ChangeSyncModel", "send", "(IIIJ)I"⟩, 22) := ⟨⟨by decide +kernel, by decide +kernel⟩, List.mem_of_getElem? (i := 382) (by decide +kernel), List.mem_of_getElem? (i := 484) (by decide +kernel), List.mem_of_getElem? (i := 485) (by decide +kernel)⟩
theorem lw_p20 : lw_okq (⟨"ChangeSyncModel", "isMessage", "(I)Z"⟩, 22) := ⟨⟨by decide +kernel, by decide +kernel⟩, List.mem_of_getElem? (i := 382) (by decide +kernel), List.mem_of_getElem? (i := 492) (by decide +kernel), List.mem_of_getElem? (i := 493) (by decide +kernel)⟩
theorem lw_p21 : lw_okq (⟨"ChangeSyncModel", "remove", "(I)V"⟩, 22) := ⟨⟨by decide +kernel, by decide +kernel⟩, List.mem_of_getElem? (i := 382) (by decide +kernel), List.mem_of_getElem? (i := 496) (by decide +kernel), List.mem_of_getElem? (i := 497) (by decide +kernel)⟩
theorem lw_p22 : lw_okq (⟨"ChangeSyncModel", "answer", "(IIJ)I"⟩, 22) := ⟨⟨by decide +kernel, by decide +kernel⟩, List.mem_of_getElem? (i := 382) (by decide +kernel), List.mem_of_getElem? (i := 500) (by decide +kernel), List.mem_of_getElem? (i := 501) (by decide +kernel)⟩
theorem lw_p23 : lw_okq (⟨"ChangeSyncModel", "weightOf", "(I)I"⟩, 22) := ⟨⟨by decide +kernel, by decide +kernel⟩, List.mem_of_getElem? (i := 382) (by decide +kernel), List.mem_of_getElem? (i := 505) (by decide +kernel), List.mem_of_getElem? (i := 506) (by decide +kernel)⟩
theorem lw_p24 : lw_okq (⟨"ChangeSyncModel", "take", "(II)I"⟩, 22) := ⟨⟨by decide +kernel, by decide +kernel⟩, List.mem_of_getElem? (i := 382) (by decide +kernel), List.mem_of_getElem? (i := 509) (by decide +kernel), List.mem_of_getElem? (i := 510) (by decide +kernel)⟩
theorem lw_p25 : lw_okq (⟨"ChangeSyncModel", "bytesOf", "(I)I"⟩, 22) := ⟨⟨by decide +kernel, by decide +kernel⟩, List.mem_of_getElem? (i := 382) (by decide +kernel), List.mem_of_getElem? (i := 529) (by decide +kernel), List.mem_of_getElem? (i := 530) (by decide +kernel)⟩
theorem lw_p26 : lw_okq (⟨"ChangeSyncModel", "total", "()I"⟩, 22) := ⟨⟨by decide +kernel, by decide +kernel⟩, List.mem_of_getElem? (i := 382) (by decide +kernel), List.mem_of_getElem? (i := 558) (by decide +kernel), List.mem_of_getElem? (i := 559) (by decide +kernel)⟩
def lw_privs_2 : List (MethodName × Nat) := [(⟨"ChangeSyncModel", "enter", "(II)V"⟩, 22), (⟨"ChangeSyncModel", "clockOf", "(I)J"⟩, 22), (⟨"ChangeSyncModel", "reached", "(II)I"⟩, 22), (⟨"ChangeSyncModel", "send", "(IIIJ)I"⟩, 22), (⟨"ChangeSyncModel", "isMessage", "(I)Z"⟩, 22), (⟨"ChangeSyncModel", "remove", "(I)V"⟩, 22), (⟨"ChangeSyncModel", "answer", "(IIJ)I"⟩, 22), (⟨"ChangeSyncModel", "weightOf", "(I)I"⟩, 22), (⟨"ChangeSyncModel", "take", "(II)I"⟩, 22), (⟨"ChangeSyncModel", "bytesOf", "(I)I"⟩, 22), (⟨"ChangeSyncModel", "total", "()I"⟩, 22)]
theorem lw_r2 : ∀ q ∈ lw_privs_2, lw_okq q := List.forall_mem_cons.mpr ⟨lw_p16, List.forall_mem_cons.mpr ⟨lw_p17, List.forall_mem_cons.mpr ⟨lw_p18, List.forall_mem_cons.mpr ⟨lw_p19, List.forall_mem_cons.mpr ⟨lw_p20, List.forall_mem_cons.mpr ⟨lw_p21, List.forall_mem_cons.mpr ⟨lw_p22, List.forall_mem_cons.mpr ⟨lw_p23, List.forall_mem_cons.mpr ⟨lw_p24, List.forall_mem_cons.mpr ⟨lw_p25, List.forall_mem_cons.mpr ⟨lw_p26, fun _ h => absurd h List.not_mem_nil⟩⟩⟩⟩⟩⟩⟩⟩⟩⟩⟩
def lw_privs : List (MethodName × Nat) := lw_privs_1 ++ (lw_privs_2)
def lw_tbl : List Cond := k2_sels lw_privs ++ tables_1
theorem lw_privs_ok : ∀ q ∈ lw_privs, lw_okq q := by
  show ∀ q ∈ lw_privs_1 ++ (lw_privs_2), lw_okq q
  exact List.forall_mem_append.mpr ⟨lw_r1, lw_r2⟩
end
section
/-! NAMES, by a program of mine out of the Statement: classes C (the class), M (its messages), R (the reference), L (the law), A (Arrays) -/
/-- the words that stay true: every contract takes these -/
def zT : List Cond := lw_tbl.filter goodWord
abbrev RC : String := "ChangeSync"
abbrev RM : String := "ChangeSync$Message"
abbrev RR : String := "ChangeSyncModel"
abbrev RL : String := "ChangeSyncLaw"
abbrev RA : String := "java/util/Arrays"
def TM : u_T := fun k => match k with
  | 0 => ("ChangeSync$Message", "number", "I", true)
  | 1 => ("ChangeSync$Message", "sender", "I", true)
  | 2 => ("ChangeSync$Message", "receiver", "I", true)
  | 3 => ("ChangeSync$Message", "bytes", "I", true)
  | 4 => ("ChangeSync$Message", "toldClock", "J", true)
  | _ => ("ChangeSync$Message", "changes", "[I", true)
def tM : Nat → FieldType := fun k => match k with
  | 0 => .int
  | 1 => .int
  | 2 => .int
  | 3 => .int
  | 4 => .long
  | _ => .array .int
theorem nM : ∀ a, a < 6 → ∀ b, b < 6 → a ≠ b → (TM a).2.1 ≠ (TM b).2.1 := by decide +kernel
theorem tM_ok : ∀ k, k < 6 → parseFieldDescriptor (TM k).2.2.1 = some (tM k) := by decide +kernel
theorem iM : ∀ w ∈ u_ws RM TM 6, w ∈ zT := by decide +kernel
def TC : u_T := fun k => match k with
  | 0 => ("ChangeSync", "replicaCount", "I", true)
  | 1 => ("ChangeSync", "maxBytes", "I", true)
  | 2 => ("ChangeSync", "isDown", "[Z", true)
  | 3 => ("ChangeSync", "clocks", "[J", true)
  | 4 => ("ChangeSync", "logs", "[[I", true)
  | 5 => ("ChangeSync", "logSizes", "[I", true)
  | 6 => ("ChangeSync", "weights", "[[I", true)
  | 7 => ("ChangeSync", "flight", "[LChangeSync$Message;", true)
  | 8 => ("ChangeSync", "inFlight", "I", false)
  | 9 => ("ChangeSync", "gathered", "[I", true)
  | 10 => ("ChangeSync", "sentCount", "I", false)
  | 11 => ("ChangeSync", "lostCount", "I", false)
  | 12 => ("ChangeSync", "goneCount", "I", false)
  | _ => ("ChangeSync", "passedOverCount", "I", false)
def tC : Nat → FieldType := fun k => match k with
  | 0 => .int
  | 1 => .int
  | 2 => .array .boolean
  | 3 => .array .long
  | 4 => .array (.array .int)
  | 5 => .array .int
  | 6 => .array (.array .int)
  | 7 => .array (.object "ChangeSync$Message")
  | 8 => .int
  | 9 => .array .int
  | 10 => .int
  | 11 => .int
  | 12 => .int
  | _ => .int
theorem nC : ∀ a, a < 14 → ∀ b, b < 14 → a ≠ b → (TC a).2.1 ≠ (TC b).2.1 := by decide +kernel
theorem tC_ok : ∀ k, k < 14 → parseFieldDescriptor (TC k).2.2.1 = some (tC k) := by decide +kernel
theorem iC : ∀ w ∈ u_ws RC TC 14, w ∈ zT := by decide +kernel
def TR : u_T := fun k => match k with
  | 0 => ("ChangeSyncModel", "thrown", "I", false)
  | 1 => ("ChangeSyncModel", "n", "I", true)
  | 2 => ("ChangeSyncModel", "m", "I", true)
  | 3 => ("ChangeSyncModel", "isDown", "[Z", true)
  | 4 => ("ChangeSyncModel", "made", "[I", true)
  | 5 => ("ChangeSyncModel", "weights", "[I", true)
  | 6 => ("ChangeSyncModel", "has", "[I", true)
  | 7 => ("ChangeSyncModel", "many", "[I", true)
  | 8 => ("ChangeSyncModel", "rows", "[I", true)
  | 9 => ("ChangeSyncModel", "flight", "I", false)
  | 10 => ("ChangeSyncModel", "numbers", "[I", true)
  | 11 => ("ChangeSyncModel", "from", "[I", true)
  | 12 => ("ChangeSyncModel", "to", "[I", true)
  | 13 => ("ChangeSyncModel", "sizes", "[I", true)
  | 14 => ("ChangeSyncModel", "clocks", "[J", true)
  | 15 => ("ChangeSyncModel", "inside", "[I", true)
  | 16 => ("ChangeSyncModel", "sent", "I", false)
  | 17 => ("ChangeSyncModel", "lost", "I", false)
  | 18 => ("ChangeSyncModel", "gone", "I", false)
  | 19 => ("ChangeSyncModel", "passed", "I", false)
  | 20 => ("ChangeSyncModel", "part", "[I", true)
  | _ => ("ChangeSyncModel", "parts", "I", false)
def tR : Nat → FieldType := fun k => match k with
  | 0 => .int
  | 1 => .int
  | 2 => .int
  | 3 => .array .boolean
  | 4 => .array .int
  | 5 => .array .int
  | 6 => .array .int
  | 7 => .array .int
  | 8 => .array .int
  | 9 => .int
  | 10 => .array .int
  | 11 => .array .int
  | 12 => .array .int
  | 13 => .array .int
  | 14 => .array .long
  | 15 => .array .int
  | 16 => .int
  | 17 => .int
  | 18 => .int
  | 19 => .int
  | 20 => .array .int
  | _ => .int
theorem nR : ∀ a, a < 22 → ∀ b, b < 22 → a ≠ b → (TR a).2.1 ≠ (TR b).2.1 := by decide +kernel
theorem tR_ok : ∀ k, k < 22 → parseFieldDescriptor (TR k).2.2.1 = some (tR k) := by decide +kernel
theorem iR : ∀ w ∈ u_ws RR TR 22, w ∈ zT := by decide +kernel
/-- the classes whose objects the maps hold: 0 M, 1 C, 2 R -/
abbrev zCl : List vw_C := [(RM, TM, 6), (RC, TC, 14), (RR, TR, 22)]
abbrev bC_init : ByteArray := prog_1_method_1_code
def yC_init : MethodName := ⟨"ChangeSync", "<init>", "(II)V"⟩
abbrev bC_lose : ByteArray := prog_1_method_5_code
def yC_lose : MethodName := ⟨"ChangeSync", "lose", "(I)Z"⟩
abbrev bC_messageAt : ByteArray := prog_1_method_26_code
def yC_messageAt : MethodName := ⟨"ChangeSync", "messageAt", "(I)LChangeSync$Message;"⟩
abbrev bC_takeOutOfFlight : ByteArray := prog_1_method_32_code
def yC_takeOutOfFlight : MethodName := ⟨"ChangeSync", "takeOutOfFlight", "(I)V"⟩
abbrev bC_up : ByteArray := prog_1_method_7_code
def yC_up : MethodName := ⟨"ChangeSync", "up", "(IZ)Z"⟩
abbrev bC_isReplica : ByteArray := prog_1_method_16_code
def yC_isReplica : MethodName := ⟨"ChangeSync", "isReplica", "(I)Z"⟩
abbrev bC_inside : ByteArray := prog_1_method_9_code
def yC_inside : MethodName := ⟨"ChangeSync", "inside", "(II)I"⟩
abbrev bC_told : ByteArray := prog_1_method_10_code
def yC_told : MethodName := ⟨"ChangeSync", "told", "(I)J"⟩
abbrev bC_log : ByteArray := prog_1_method_12_code
def yC_log : MethodName := ⟨"ChangeSync", "log", "(II)I"⟩
abbrev bC_weight : ByteArray := prog_1_method_13_code
def yC_weight : MethodName := ⟨"ChangeSync", "weight", "(II)I"⟩
abbrev bC_madeBy : ByteArray := prog_1_method_20_code
def yC_madeBy : MethodName := ⟨"ChangeSync", "madeBy", "(I)I"⟩
abbrev bC_countIn : ByteArray := prog_1_method_19_code
def yC_countIn : MethodName := ⟨"ChangeSync", "countIn", "(JI)I"⟩
abbrev bC_look : ByteArray := prog_1_method_15_code
def yC_look : MethodName := ⟨"ChangeSync", "look", "(I)I"⟩
abbrev bC_replicasWithAll : ByteArray := prog_1_method_22_code
def yC_replicasWithAll : MethodName := ⟨"ChangeSync", "replicasWithAll", "()I"⟩
abbrev bC_madeByAll : ByteArray := prog_1_method_21_code
def yC_madeByAll : MethodName := ⟨"ChangeSync", "madeByAll", "()I"⟩
abbrev bC_bytesInFlight : ByteArray := prog_1_method_27_code
def yC_bytesInFlight : MethodName := ⟨"ChangeSync", "bytesInFlight", "()I"⟩
abbrev bL_cell : ByteArray := method_2_code
def yL_cell : MethodName := ⟨"ChangeSyncLaw", "cell", "([II)I"⟩
abbrev bL_make : ByteArray := method_3_code
def yL_make : MethodName := ⟨"ChangeSyncLaw", "make", "(LChangeSync;II[J)I"⟩
abbrev bC_make : ByteArray := prog_1_method_2_code
def yC_make : MethodName := ⟨"ChangeSync", "make", "(II)I"⟩
abbrev bC_comesToLog : ByteArray := prog_1_method_23_code
def yC_comesToLog : MethodName := ⟨"ChangeSync", "comesToLog", "(II)Z"⟩
abbrev bC_actorOf : ByteArray := prog_1_method_17_code
def yC_actorOf : MethodName := ⟨"ChangeSync", "actorOf", "(I)I"⟩
abbrev bC_seqOf : ByteArray := prog_1_method_18_code
def yC_seqOf : MethodName := ⟨"ChangeSync", "seqOf", "(I)I"⟩
abbrev bL_tick : ByteArray := method_4_code
def yL_tick : MethodName := ⟨"ChangeSyncLaw", "tick", "(LChangeSync;I[J)I"⟩
abbrev bC_tick : ByteArray := prog_1_method_3_code
def yC_tick : MethodName := ⟨"ChangeSync", "tick", "(I)I"⟩
abbrev bC_sendClock : ByteArray := prog_1_method_28_code
def yC_sendClock : MethodName := ⟨"ChangeSync", "sendClock", "(II)V"⟩
abbrev bC_countAsSent : ByteArray := prog_1_method_30_code
def yC_countAsSent : MethodName := ⟨"ChangeSync", "countAsSent", "()Z"⟩
abbrev bM_init : ByteArray := prog_2_method_1_code
def yM_init : MethodName := ⟨"ChangeSync$Message", "<init>", "(IIIIJ[I)V"⟩
abbrev bC_putInFlight : ByteArray := prog_1_method_31_code
def yC_putInFlight : MethodName := ⟨"ChangeSync", "putInFlight", "(LChangeSync$Message;)V"⟩
abbrev bL_deliver : ByteArray := method_5_code
def yL_deliver : MethodName := ⟨"ChangeSyncLaw", "deliver", "(LChangeSync;I[J)I"⟩
abbrev bC_deliver : ByteArray := prog_1_method_4_code
def yC_deliver : MethodName := ⟨"ChangeSync", "deliver", "(I)I"⟩
abbrev bM_isClock : ByteArray := prog_2_method_2_code
def yM_isClock : MethodName := ⟨"ChangeSync$Message", "isClock", "()Z"⟩
abbrev bC_answer : ByteArray := prog_1_method_25_code
def yC_answer : MethodName := ⟨"ChangeSync", "answer", "(LChangeSync$Message;)I"⟩
abbrev bC_sendGathered : ByteArray := prog_1_method_29_code
def yC_sendGathered : MethodName := ⟨"ChangeSync", "sendGathered", "(IIII)V"⟩
abbrev bA_copyOf : ByteArray := prog_15_method_123_code
def yA_copyOf : MethodName := ⟨"java/util/Arrays", "copyOf", "([II)[I"⟩
abbrev bC_takeChanges : ByteArray := prog_1_method_24_code
def yC_takeChanges : MethodName := ⟨"ChangeSync", "takeChanges", "(LChangeSync$Message;)I"⟩
abbrev bL_twice : ByteArray := method_6_code
def yL_twice : MethodName := ⟨"ChangeSyncLaw", "twice", "(LChangeSync;I[J)I"⟩
abbrev bC_twice : ByteArray := prog_1_method_6_code
def yC_twice : MethodName := ⟨"ChangeSync", "twice", "(I)I"⟩
abbrev bL_message : ByteArray := method_7_code
def yL_message : MethodName := ⟨"ChangeSyncLaw", "message", "(LChangeSync;II[J)I"⟩
abbrev bC_message : ByteArray := prog_1_method_8_code
def yC_message : MethodName := ⟨"ChangeSync", "message", "(II)I"⟩
abbrev bL_clock : ByteArray := method_8_code
def yL_clock : MethodName := ⟨"ChangeSyncLaw", "clock", "(LChangeSync;I[J)I"⟩
abbrev bC_clock : ByteArray := prog_1_method_11_code
def yC_clock : MethodName := ⟨"ChangeSync", "clock", "(I)J"⟩
abbrev bL_lacks : ByteArray := method_9_code
def yL_lacks : MethodName := ⟨"ChangeSyncLaw", "lacks", "(LChangeSync;I[J)I"⟩
abbrev bC_lacks : ByteArray := prog_1_method_14_code
def yC_lacks : MethodName := ⟨"ChangeSync", "lacks", "(I)I"⟩
abbrev bR_init : ByteArray := prog_4_method_1_code
def yR_init : MethodName := ⟨"ChangeSyncModel", "<init>", "(II)V"⟩
abbrev bR_thrown : ByteArray := prog_4_method_2_code
def yR_thrown : MethodName := ⟨"ChangeSyncModel", "thrown", "()I"⟩
abbrev bR_make : ByteArray := prog_4_method_12_code
def yR_make : MethodName := ⟨"ChangeSyncModel", "make", "(II)I"⟩
abbrev bR_isReplica : ByteArray := prog_4_method_3_code
def yR_isReplica : MethodName := ⟨"ChangeSyncModel", "isReplica", "(I)Z"⟩
abbrev bR_enter : ByteArray := prog_4_method_7_code
def yR_enter : MethodName := ⟨"ChangeSyncModel", "enter", "(II)V"⟩
abbrev bR_tick : ByteArray := prog_4_method_13_code
def yR_tick : MethodName := ⟨"ChangeSyncModel", "tick", "(I)I"⟩
abbrev bR_clockOf : ByteArray := prog_4_method_6_code
def yR_clockOf : MethodName := ⟨"ChangeSyncModel", "clockOf", "(I)J"⟩
abbrev bR_reached : ByteArray := prog_4_method_5_code
def yR_reached : MethodName := ⟨"ChangeSyncModel", "reached", "(II)I"⟩
abbrev bR_send : ByteArray := prog_4_method_9_code
def yR_send : MethodName := ⟨"ChangeSyncModel", "send", "(IIIJ)I"⟩
abbrev bR_deliver : ByteArray := prog_4_method_16_code
def yR_deliver : MethodName := ⟨"ChangeSyncModel", "deliver", "(I)I"⟩
abbrev bR_isMessage : ByteArray := prog_4_method_4_code
def yR_isMessage : MethodName := ⟨"ChangeSyncModel", "isMessage", "(I)Z"⟩
abbrev bR_remove : ByteArray := prog_4_method_10_code
def yR_remove : MethodName := ⟨"ChangeSyncModel", "remove", "(I)V"⟩
abbrev bR_answer : ByteArray := prog_4_method_14_code
def yR_answer : MethodName := ⟨"ChangeSyncModel", "answer", "(IIJ)I"⟩
abbrev bR_weightOf : ByteArray := prog_4_method_8_code
def yR_weightOf : MethodName := ⟨"ChangeSyncModel", "weightOf", "(I)I"⟩
abbrev bR_take : ByteArray := prog_4_method_15_code
def yR_take : MethodName := ⟨"ChangeSyncModel", "take", "(II)I"⟩
abbrev bR_lose : ByteArray := prog_4_method_17_code
def yR_lose : MethodName := ⟨"ChangeSyncModel", "lose", "(I)Z"⟩
abbrev bR_twice : ByteArray := prog_4_method_18_code
def yR_twice : MethodName := ⟨"ChangeSyncModel", "twice", "(I)I"⟩
abbrev bR_up : ByteArray := prog_4_method_19_code
def yR_up : MethodName := ⟨"ChangeSyncModel", "up", "(IZ)Z"⟩
abbrev bR_message : ByteArray := prog_4_method_20_code
def yR_message : MethodName := ⟨"ChangeSyncModel", "message", "(II)I"⟩
abbrev bR_bytesOf : ByteArray := prog_4_method_11_code
def yR_bytesOf : MethodName := ⟨"ChangeSyncModel", "bytesOf", "(I)I"⟩
abbrev bR_inside : ByteArray := prog_4_method_21_code
def yR_inside : MethodName := ⟨"ChangeSyncModel", "inside", "(II)I"⟩
abbrev bR_told : ByteArray := prog_4_method_22_code
def yR_told : MethodName := ⟨"ChangeSyncModel", "told", "(I)J"⟩
abbrev bR_clock : ByteArray := prog_4_method_23_code
def yR_clock : MethodName := ⟨"ChangeSyncModel", "clock", "(I)J"⟩
abbrev bR_log : ByteArray := prog_4_method_24_code
def yR_log : MethodName := ⟨"ChangeSyncModel", "log", "(II)I"⟩
abbrev bR_weight : ByteArray := prog_4_method_25_code
def yR_weight : MethodName := ⟨"ChangeSyncModel", "weight", "(II)I"⟩
abbrev bR_lacks : ByteArray := prog_4_method_27_code
def yR_lacks : MethodName := ⟨"ChangeSyncModel", "lacks", "(I)I"⟩
abbrev bR_total : ByteArray := prog_4_method_26_code
def yR_total : MethodName := ⟨"ChangeSyncModel", "total", "()I"⟩
abbrev bR_look : ByteArray := prog_4_method_28_code
def yR_look : MethodName := ⟨"ChangeSyncModel", "look", "(I)I"⟩
abbrev bL_law : ByteArray := code
def yL_law : MethodName := ⟨"ChangeSyncLaw", "law", "([I)Z"⟩
theorem zt_mem {w : Cond} (k : Nat) (h : tables_1[k]? = some w) (g : goodWord w = true) : w ∈ zT := List.mem_filter.mpr ⟨List.mem_append_right _ (List.mem_of_getElem? h), g⟩
theorem zt_sel {w : Cond} (k : Nat) (h : (k2_sels lw_privs)[k]? = some w) (g : goodWord w = true) : w ∈ zT := List.mem_filter.mpr ⟨List.mem_append_left _ (List.mem_of_getElem? h), g⟩
theorem zt_good {w : Cond} (h : w ∈ zT) : w ∈ lw_tbl ∧ ((w.onTables && w.keeps) = true ∨ ∃ ty, w = .arrayClass ty) := ⟨(List.mem_filter.mp h).1, good_of_word (List.mem_filter.mp h).2⟩
theorem zm_0 : (Cond.initialized "ChangeSyncLaw") ∈ zT := zt_mem 0 (by decide +kernel) (by decide +kernel)
theorem zm_1 : (Cond.initialized "ChangeSync") ∈ zT := zt_mem 1 (by decide +kernel) (by decide +kernel)
theorem zm_2 : (Cond.initialized "java/lang/Math") ∈ zT := zt_mem 2 (by decide +kernel) (by decide +kernel)
theorem zm_3 : (Cond.initialized "ChangeSyncModel") ∈ zT := zt_mem 3 (by decide +kernel) (by decide +kernel)
theorem zm_4 : (Cond.initialized "java/lang/Throwable") ∈ zT := zt_mem 4 (by decide +kernel) (by decide +kernel)
theorem zm_5 : (Cond.initialized "java/lang/Exception") ∈ zT := zt_mem 5 (by decide +kernel) (by decide +kernel)
theorem zm_6 : (Cond.initialized "java/lang/RuntimeException") ∈ zT := zt_mem 6 (by decide +kernel) (by decide +kernel)
theorem zm_7 : (Cond.initialized "java/lang/IndexOutOfBoundsException") ∈ zT := zt_mem 7 (by decide +kernel) (by decide +kernel)
theorem zm_8 : (Cond.initialized "java/lang/IllegalArgumentException") ∈ zT := zt_mem 8 (by decide +kernel) (by decide +kernel)
theorem zm_9 : (Cond.initialized "java/lang/IllegalStateException") ∈ zT := zt_mem 9 (by decide +kernel) (by decide +kernel)
theorem zm_10 : (Cond.initialized "ChangeSync$Message") ∈ zT := zt_mem 10 (by decide +kernel) (by decide +kernel)
theorem zm_11 : (Cond.initialized "java/util/Arrays") ∈ zT := zt_mem 11 (by decide +kernel) (by decide +kernel)
theorem zm_12 : (Cond.initialized "java/lang/System") ∈ zT := zt_mem 12 (by decide +kernel) (by decide +kernel)
theorem zm_13 : (Cond.classLink "ChangeSyncLaw" 8 "ChangeSync") ∈ zT := zt_mem 13 (by decide +kernel) (by decide +kernel)
theorem zm_14 : (Cond.instantiable "ChangeSync" 14) ∈ zT := zt_mem 14 (by decide +kernel) (by decide +kernel)
theorem zm_15 : (Cond.methodLink "ChangeSyncLaw" 45 yC_init) ∈ zT := zt_mem 15 (by decide +kernel) (by decide +kernel)
theorem zm_16 : (Cond.instanceMethod yC_init) ∈ zT := zt_mem 16 (by decide +kernel) (by decide +kernel)
theorem zm_17 : (Cond.code yC_init prog_1_method_1_code 4 none) ∈ zT := zt_mem 17 (by decide +kernel) (by decide +kernel)
theorem zm_18 : (Cond.methodLink "ChangeSync" 1 ⟨"java/lang/Object", "<init>", "()V"⟩) ∈ zT := zt_mem 18 (by decide +kernel) (by decide +kernel)
theorem zm_19 : (Cond.instanceMethod ⟨"java/lang/Object", "<init>", "()V"⟩) ∈ zT := zt_mem 19 (by decide +kernel) (by decide +kernel)
theorem zm_20 : (Cond.code ⟨"java/lang/Object", "<init>", "()V"⟩ object_method_1_code 1 none) ∈ zT := zt_mem 20 (by decide +kernel) (by decide +kernel)
theorem zm_21 : (Cond.methodLink "ChangeSync" 9 ⟨"java/lang/Math", "min", "(II)I"⟩) ∈ zT := zt_mem 21 (by decide +kernel) (by decide +kernel)
theorem zm_22 : (Cond.static ⟨"java/lang/Math", "min", "(II)I"⟩) ∈ zT := zt_mem 22 (by decide +kernel) (by decide +kernel)
theorem zm_23 : (Cond.code ⟨"java/lang/Math", "min", "(II)I"⟩ prog_10_method_69_code 2 (some .int)) ∈ zT := zt_mem 23 (by decide +kernel) (by decide +kernel)
theorem zm_24 : (Cond.methodLink "ChangeSync" 15 ⟨"java/lang/Math", "max", "(II)I"⟩) ∈ zT := zt_mem 24 (by decide +kernel) (by decide +kernel)
theorem zm_25 : (Cond.static ⟨"java/lang/Math", "max", "(II)I"⟩) ∈ zT := zt_mem 25 (by decide +kernel) (by decide +kernel)
theorem zm_26 : (Cond.code ⟨"java/lang/Math", "max", "(II)I"⟩ prog_10_method_65_code 2 (some .int)) ∈ zT := zt_mem 26 (by decide +kernel) (by decide +kernel)
theorem zm_27 : (Cond.classLink "ChangeSync" 33 "[[I") ∈ zT := zt_mem 27 (by decide +kernel) (by decide +kernel)
theorem zm_29 : (Cond.classLink "ChangeSync" 45 "ChangeSync$Message") ∈ zT := zt_mem 29 (by decide +kernel) (by decide +kernel)
theorem zm_31 : (Cond.fieldLink "ChangeSync" 18 "ChangeSync" "replicaCount" "I") ∈ zT := zt_mem 31 (by decide +kernel) (by decide +kernel)
theorem zm_32 : (Cond.fieldLink "ChangeSync" 22 "ChangeSync" "maxBytes" "I") ∈ zT := zt_mem 32 (by decide +kernel) (by decide +kernel)
theorem zm_33 : (Cond.fieldLink "ChangeSync" 25 "ChangeSync" "isDown" "[Z") ∈ zT := zt_mem 33 (by decide +kernel) (by decide +kernel)
theorem zm_34 : (Cond.fieldLink "ChangeSync" 29 "ChangeSync" "clocks" "[J") ∈ zT := zt_mem 34 (by decide +kernel) (by decide +kernel)
theorem zm_35 : (Cond.fieldLink "ChangeSync" 35 "ChangeSync" "logs" "[[I") ∈ zT := zt_mem 35 (by decide +kernel) (by decide +kernel)
theorem zm_36 : (Cond.fieldLink "ChangeSync" 38 "ChangeSync" "logSizes" "[I") ∈ zT := zt_mem 36 (by decide +kernel) (by decide +kernel)
theorem zm_37 : (Cond.fieldLink "ChangeSync" 42 "ChangeSync" "weights" "[[I") ∈ zT := zt_mem 37 (by decide +kernel) (by decide +kernel)
theorem zm_38 : (Cond.fieldLink "ChangeSync" 47 "ChangeSync" "flight" "[LChangeSync$Message;") ∈ zT := zt_mem 38 (by decide +kernel) (by decide +kernel)
theorem zm_39 : (Cond.fieldLink "ChangeSync" 156 "ChangeSync" "inFlight" "I") ∈ zT := zt_mem 39 (by decide +kernel) (by decide +kernel)
theorem zm_40 : (Cond.fieldLink "ChangeSync" 51 "ChangeSync" "gathered" "[I") ∈ zT := zt_mem 40 (by decide +kernel) (by decide +kernel)
theorem zm_41 : (Cond.fieldLink "ChangeSync" 119 "ChangeSync" "sentCount" "I") ∈ zT := zt_mem 41 (by decide +kernel) (by decide +kernel)
theorem zm_42 : (Cond.fieldLink "ChangeSync" 116 "ChangeSync" "lostCount" "I") ∈ zT := zt_mem 42 (by decide +kernel) (by decide +kernel)
theorem zm_43 : (Cond.fieldLink "ChangeSync" 102 "ChangeSync" "goneCount" "I") ∈ zT := zt_mem 43 (by decide +kernel) (by decide +kernel)
theorem zm_44 : (Cond.fieldLink "ChangeSync" 159 "ChangeSync" "passedOverCount" "I") ∈ zT := zt_mem 44 (by decide +kernel) (by decide +kernel)
theorem zm_74 : (Cond.arrayClass .boolean) ∈ zT := zt_mem 74 (by decide +kernel) (by decide +kernel)
theorem zm_75 : (Cond.arrayClass .long) ∈ zT := zt_mem 75 (by decide +kernel) (by decide +kernel)
theorem zm_76 : (Cond.arrayClass .int) ∈ zT := zt_mem 76 (by decide +kernel) (by decide +kernel)
theorem zm_77 : (Cond.methodLink "ChangeSyncLaw" 66 yC_lose) ∈ zT := zt_mem 77 (by decide +kernel) (by decide +kernel)
theorem zm_78 : (Cond.instanceMethod yC_lose) ∈ zT := zt_mem 78 (by decide +kernel) (by decide +kernel)
theorem zm_79 : (Cond.selects "ChangeSync" yC_lose yC_lose) ∈ zT := zt_mem 79 (by decide +kernel) (by decide +kernel)
theorem zm_80 : (Cond.code yC_lose prog_1_method_5_code 2 (some .boolean)) ∈ zT := zt_mem 80 (by decide +kernel) (by decide +kernel)
theorem zm_81 : (Cond.methodLink "ChangeSync" 89 yC_messageAt) ∈ zT := zt_mem 81 (by decide +kernel) (by decide +kernel)
theorem zm_83 : (Cond.instanceMethod yC_messageAt) ∈ zT := zt_mem 83 (by decide +kernel) (by decide +kernel)
theorem zm_84 : (Cond.code yC_messageAt prog_1_method_26_code 2 (some (.object "ChangeSync$Message"))) ∈ zT := zt_mem 84 (by decide +kernel) (by decide +kernel)
theorem zm_85 : (Cond.methodLink "ChangeSync" 95 yC_takeOutOfFlight) ∈ zT := zt_mem 85 (by decide +kernel) (by decide +kernel)
theorem zm_87 : (Cond.instanceMethod yC_takeOutOfFlight) ∈ zT := zt_mem 87 (by decide +kernel) (by decide +kernel)
theorem zm_88 : (Cond.code yC_takeOutOfFlight prog_1_method_32_code 3 none) ∈ zT := zt_mem 88 (by decide +kernel) (by decide +kernel)
theorem zm_89 : (Cond.methodLink "ChangeSyncLaw" 74 yC_up) ∈ zT := zt_mem 89 (by decide +kernel) (by decide +kernel)
theorem zm_90 : (Cond.instanceMethod yC_up) ∈ zT := zt_mem 90 (by decide +kernel) (by decide +kernel)
theorem zm_91 : (Cond.selects "ChangeSync" yC_up yC_up) ∈ zT := zt_mem 91 (by decide +kernel) (by decide +kernel)
theorem zm_92 : (Cond.code yC_up prog_1_method_7_code 3 (some .boolean)) ∈ zT := zt_mem 92 (by decide +kernel) (by decide +kernel)
theorem zm_93 : (Cond.methodLink "ChangeSync" 54 yC_isReplica) ∈ zT := zt_mem 93 (by decide +kernel) (by decide +kernel)
theorem zm_95 : (Cond.instanceMethod yC_isReplica) ∈ zT := zt_mem 95 (by decide +kernel) (by decide +kernel)
theorem zm_96 : (Cond.code yC_isReplica prog_1_method_16_code 2 (some .boolean)) ∈ zT := zt_mem 96 (by decide +kernel) (by decide +kernel)
theorem zm_97 : (Cond.methodLink "ChangeSyncLaw" 82 yC_inside) ∈ zT := zt_mem 97 (by decide +kernel) (by decide +kernel)
theorem zm_98 : (Cond.instanceMethod yC_inside) ∈ zT := zt_mem 98 (by decide +kernel) (by decide +kernel)
theorem zm_99 : (Cond.selects "ChangeSync" yC_inside yC_inside) ∈ zT := zt_mem 99 (by decide +kernel) (by decide +kernel)
theorem zm_100 : (Cond.code yC_inside prog_1_method_9_code 4 (some .int)) ∈ zT := zt_mem 100 (by decide +kernel) (by decide +kernel)
theorem zm_101 : (Cond.methodLink "ChangeSyncLaw" 86 yC_told) ∈ zT := zt_mem 101 (by decide +kernel) (by decide +kernel)
theorem zm_102 : (Cond.instanceMethod yC_told) ∈ zT := zt_mem 102 (by decide +kernel) (by decide +kernel)
theorem zm_103 : (Cond.selects "ChangeSync" yC_told yC_told) ∈ zT := zt_mem 103 (by decide +kernel) (by decide +kernel)
theorem zm_104 : (Cond.code yC_told prog_1_method_10_code 3 (some .long)) ∈ zT := zt_mem 104 (by decide +kernel) (by decide +kernel)
theorem zm_105 : (Cond.constantLong "ChangeSync" 150 (-1)) ∈ zT := zt_mem 105 (by decide +kernel) (by decide +kernel)
theorem zm_106 : (Cond.methodLink "ChangeSyncLaw" 93 yC_log) ∈ zT := zt_mem 106 (by decide +kernel) (by decide +kernel)
theorem zm_107 : (Cond.instanceMethod yC_log) ∈ zT := zt_mem 107 (by decide +kernel) (by decide +kernel)
theorem zm_108 : (Cond.selects "ChangeSync" yC_log yC_log) ∈ zT := zt_mem 108 (by decide +kernel) (by decide +kernel)
theorem zm_109 : (Cond.code yC_log prog_1_method_12_code 3 (some .int)) ∈ zT := zt_mem 109 (by decide +kernel) (by decide +kernel)
theorem zm_110 : (Cond.methodLink "ChangeSyncLaw" 97 yC_weight) ∈ zT := zt_mem 110 (by decide +kernel) (by decide +kernel)
theorem zm_111 : (Cond.instanceMethod yC_weight) ∈ zT := zt_mem 111 (by decide +kernel) (by decide +kernel)
theorem zm_112 : (Cond.selects "ChangeSync" yC_weight yC_weight) ∈ zT := zt_mem 112 (by decide +kernel) (by decide +kernel)
theorem zm_113 : (Cond.code yC_weight prog_1_method_13_code 3 (some .int)) ∈ zT := zt_mem 113 (by decide +kernel) (by decide +kernel)
theorem zm_114 : (Cond.methodLink "ChangeSync" 70 yC_madeBy) ∈ zT := zt_mem 114 (by decide +kernel) (by decide +kernel)
theorem zm_116 : (Cond.instanceMethod yC_madeBy) ∈ zT := zt_mem 116 (by decide +kernel) (by decide +kernel)
theorem zm_117 : (Cond.code yC_madeBy prog_1_method_20_code 2 (some .int)) ∈ zT := zt_mem 117 (by decide +kernel) (by decide +kernel)
theorem zm_118 : (Cond.methodLink "ChangeSync" 168 yC_countIn) ∈ zT := zt_mem 118 (by decide +kernel) (by decide +kernel)
theorem zm_119 : (Cond.static yC_countIn) ∈ zT := zt_mem 119 (by decide +kernel) (by decide +kernel)
theorem zm_120 : (Cond.code yC_countIn prog_1_method_19_code 3 (some .int)) ∈ zT := zt_mem 120 (by decide +kernel) (by decide +kernel)
theorem zm_121 : (Cond.methodLink "ChangeSyncLaw" 104 yC_look) ∈ zT := zt_mem 121 (by decide +kernel) (by decide +kernel)
theorem zm_122 : (Cond.instanceMethod yC_look) ∈ zT := zt_mem 122 (by decide +kernel) (by decide +kernel)
theorem zm_123 : (Cond.selects "ChangeSync" yC_look yC_look) ∈ zT := zt_mem 123 (by decide +kernel) (by decide +kernel)
theorem zm_124 : (Cond.code yC_look prog_1_method_15_code 2 (some .int)) ∈ zT := zt_mem 124 (by decide +kernel) (by decide +kernel)
theorem zm_125 : (Cond.methodLink "ChangeSync" 162 yC_replicasWithAll) ∈ zT := zt_mem 125 (by decide +kernel) (by decide +kernel)
theorem zm_127 : (Cond.instanceMethod yC_replicasWithAll) ∈ zT := zt_mem 127 (by decide +kernel) (by decide +kernel)
theorem zm_128 : (Cond.code yC_replicasWithAll prog_1_method_22_code 4 (some .int)) ∈ zT := zt_mem 128 (by decide +kernel) (by decide +kernel)
theorem zm_129 : (Cond.methodLink "ChangeSync" 152 yC_madeByAll) ∈ zT := zt_mem 129 (by decide +kernel) (by decide +kernel)
theorem zm_131 : (Cond.instanceMethod yC_madeByAll) ∈ zT := zt_mem 131 (by decide +kernel) (by decide +kernel)
theorem zm_132 : (Cond.code yC_madeByAll prog_1_method_21_code 3 (some .int)) ∈ zT := zt_mem 132 (by decide +kernel) (by decide +kernel)
theorem zm_133 : (Cond.methodLink "ChangeSync" 165 yC_bytesInFlight) ∈ zT := zt_mem 133 (by decide +kernel) (by decide +kernel)
theorem zm_135 : (Cond.instanceMethod yC_bytesInFlight) ∈ zT := zt_mem 135 (by decide +kernel) (by decide +kernel)
theorem zm_136 : (Cond.code yC_bytesInFlight prog_1_method_27_code 4 (some .int)) ∈ zT := zt_mem 136 (by decide +kernel) (by decide +kernel)
theorem zm_137 : (Cond.methodLink "ChangeSyncLaw" 39 yL_cell) ∈ zT := zt_mem 137 (by decide +kernel) (by decide +kernel)
theorem zm_138 : (Cond.static yL_cell) ∈ zT := zt_mem 138 (by decide +kernel) (by decide +kernel)
theorem zm_139 : (Cond.code yL_cell method_2_code 2 (some .int)) ∈ zT := zt_mem 139 (by decide +kernel) (by decide +kernel)
theorem zm_140 : (Cond.methodLink "ChangeSyncLaw" 51 yL_make) ∈ zT := zt_mem 140 (by decide +kernel) (by decide +kernel)
theorem zm_141 : (Cond.static yL_make) ∈ zT := zt_mem 141 (by decide +kernel) (by decide +kernel)
theorem zm_142 : (Cond.codeWith yL_make method_3_code 5 (some .int) [(0, 10, 13, 13), (0, 10, 17, 15), (0, 10, 21, 17)]) ∈ zT := zt_mem 142 (by decide +kernel) (by decide +kernel)
theorem zm_143 : (Cond.classLink "ChangeSyncLaw" 13 "java/lang/IndexOutOfBoundsException") ∈ zT := zt_mem 143 (by decide +kernel) (by decide +kernel)
theorem zm_144 : (Cond.classLink "ChangeSyncLaw" 15 "java/lang/IllegalArgumentException") ∈ zT := zt_mem 144 (by decide +kernel) (by decide +kernel)
theorem zm_145 : (Cond.classLink "ChangeSyncLaw" 17 "java/lang/IllegalStateException") ∈ zT := zt_mem 145 (by decide +kernel) (by decide +kernel)
theorem zm_146 : (Cond.methodLink "ChangeSyncLaw" 7 yC_make) ∈ zT := zt_mem 146 (by decide +kernel) (by decide +kernel)
theorem zm_147 : (Cond.instanceMethod yC_make) ∈ zT := zt_mem 147 (by decide +kernel) (by decide +kernel)
theorem zm_148 : (Cond.selects "ChangeSync" yC_make yC_make) ∈ zT := zt_mem 148 (by decide +kernel) (by decide +kernel)
theorem zm_149 : (Cond.code yC_make prog_1_method_2_code 5 (some .int)) ∈ zT := zt_mem 149 (by decide +kernel) (by decide +kernel)
theorem zm_150 : (Cond.classLink "ChangeSync" 58 "java/lang/IndexOutOfBoundsException") ∈ zT := zt_mem 150 (by decide +kernel) (by decide +kernel)
theorem zm_151 : (Cond.instantiable "java/lang/IndexOutOfBoundsException" 6) ∈ zT := zt_mem 151 (by decide +kernel) (by decide +kernel)
theorem zm_159 : (Cond.selects "java/lang/IndexOutOfBoundsException" ⟨"java/lang/Throwable", "fillInStackTrace", "(I)Ljava/lang/Throwable;"⟩ ⟨"java/lang/Throwable", "fillInStackTrace", "(I)Ljava/lang/Throwable;"⟩) ∈ zT := zt_mem 159 (by decide +kernel) (by decide +kernel)
theorem zm_160 : (Cond.selects "java/lang/IndexOutOfBoundsException" ⟨"java/lang/Throwable", "fillInStackTrace", "()Ljava/lang/Throwable;"⟩ ⟨"java/lang/Throwable", "fillInStackTrace", "()Ljava/lang/Throwable;"⟩) ∈ zT := zt_mem 160 (by decide +kernel) (by decide +kernel)
theorem zm_171 : (Cond.fieldLink "java/lang/Throwable" 198 "java/lang/Throwable" "backtrace" "Ljava/lang/Object;") ∈ zT := zt_mem 171 (by decide +kernel) (by decide +kernel)
theorem zm_173 : (Cond.instanceMethod ⟨"java/lang/Throwable", "<init>", "()V"⟩) ∈ zT := zt_mem 173 (by decide +kernel) (by decide +kernel)
theorem zm_174 : (Cond.code ⟨"java/lang/Throwable", "<init>", "()V"⟩ prog_14_method_1_code 1 none) ∈ zT := zt_mem 174 (by decide +kernel) (by decide +kernel)
theorem zm_175 : (Cond.methodLink "java/lang/Throwable" 1 ⟨"java/lang/Object", "<init>", "()V"⟩) ∈ zT := zt_mem 175 (by decide +kernel) (by decide +kernel)
theorem zm_176 : (Cond.fieldLink "java/lang/Throwable" 13 "java/lang/Throwable" "UNASSIGNED_STACK" "[Ljava/lang/StackTraceElement;") ∈ zT := zt_mem 176 (by decide +kernel) (by decide +kernel)
theorem zm_178 : (Cond.fieldLink "java/lang/Throwable" 20 "java/lang/Throwable" "SUPPRESSED_SENTINEL" "Ljava/util/List;") ∈ zT := zt_mem 178 (by decide +kernel) (by decide +kernel)
theorem zm_180 : (Cond.methodLink "java/lang/Throwable" 27 ⟨"java/lang/Throwable", "fillInStackTrace", "()Ljava/lang/Throwable;"⟩) ∈ zT := zt_mem 180 (by decide +kernel) (by decide +kernel)
theorem zm_181 : (Cond.instanceMethod ⟨"java/lang/Throwable", "fillInStackTrace", "()Ljava/lang/Throwable;"⟩) ∈ zT := zt_mem 181 (by decide +kernel) (by decide +kernel)
theorem zm_183 : (Cond.selects "java/lang/IllegalArgumentException" ⟨"java/lang/Throwable", "fillInStackTrace", "()Ljava/lang/Throwable;"⟩ ⟨"java/lang/Throwable", "fillInStackTrace", "()Ljava/lang/Throwable;"⟩) ∈ zT := zt_mem 183 (by decide +kernel) (by decide +kernel)
theorem zm_184 : (Cond.selects "java/lang/IllegalStateException" ⟨"java/lang/Throwable", "fillInStackTrace", "()Ljava/lang/Throwable;"⟩ ⟨"java/lang/Throwable", "fillInStackTrace", "()Ljava/lang/Throwable;"⟩) ∈ zT := zt_mem 184 (by decide +kernel) (by decide +kernel)
theorem zm_186 : (Cond.methodLink "java/lang/Throwable" 202 ⟨"java/lang/Throwable", "fillInStackTrace", "(I)Ljava/lang/Throwable;"⟩) ∈ zT := zt_mem 186 (by decide +kernel) (by decide +kernel)
theorem zm_188 : (Cond.instanceMethod ⟨"java/lang/Throwable", "fillInStackTrace", "(I)Ljava/lang/Throwable;"⟩) ∈ zT := zt_mem 188 (by decide +kernel) (by decide +kernel)
theorem zm_189 : (Cond.instantiable "java/lang/Throwable" 6) ∈ zT := zt_mem 189 (by decide +kernel) (by decide +kernel)
theorem zm_190 : (Cond.native ⟨"java/lang/Throwable", "fillInStackTrace", "(I)Ljava/lang/Throwable;"⟩) ∈ zT := zt_mem 190 (by decide +kernel) (by decide +kernel)
theorem zm_192 : (Cond.methodLink "ChangeSync" 62 ⟨"java/lang/IndexOutOfBoundsException", "<init>", "(Ljava/lang/String;)V"⟩) ∈ zT := zt_mem 192 (by decide +kernel) (by decide +kernel)
theorem zm_193 : (Cond.instanceMethod ⟨"java/lang/IndexOutOfBoundsException", "<init>", "(Ljava/lang/String;)V"⟩) ∈ zT := zt_mem 193 (by decide +kernel) (by decide +kernel)
theorem zm_194 : (Cond.code ⟨"java/lang/IndexOutOfBoundsException", "<init>", "(Ljava/lang/String;)V"⟩ prog_9_method_2_code 2 none) ∈ zT := zt_mem 194 (by decide +kernel) (by decide +kernel)
theorem zm_195 : (Cond.methodLink "java/lang/IndexOutOfBoundsException" 7 ⟨"java/lang/RuntimeException", "<init>", "(Ljava/lang/String;)V"⟩) ∈ zT := zt_mem 195 (by decide +kernel) (by decide +kernel)
theorem zm_196 : (Cond.instanceMethod ⟨"java/lang/RuntimeException", "<init>", "(Ljava/lang/String;)V"⟩) ∈ zT := zt_mem 196 (by decide +kernel) (by decide +kernel)
theorem zm_197 : (Cond.code ⟨"java/lang/RuntimeException", "<init>", "(Ljava/lang/String;)V"⟩ prog_11_method_2_code 2 none) ∈ zT := zt_mem 197 (by decide +kernel) (by decide +kernel)
theorem zm_198 : (Cond.methodLink "java/lang/RuntimeException" 7 ⟨"java/lang/Exception", "<init>", "(Ljava/lang/String;)V"⟩) ∈ zT := zt_mem 198 (by decide +kernel) (by decide +kernel)
theorem zm_199 : (Cond.instanceMethod ⟨"java/lang/Exception", "<init>", "(Ljava/lang/String;)V"⟩) ∈ zT := zt_mem 199 (by decide +kernel) (by decide +kernel)
theorem zm_200 : (Cond.code ⟨"java/lang/Exception", "<init>", "(Ljava/lang/String;)V"⟩ prog_6_method_2_code 2 none) ∈ zT := zt_mem 200 (by decide +kernel) (by decide +kernel)
theorem zm_201 : (Cond.methodLink "java/lang/Exception" 7 ⟨"java/lang/Throwable", "<init>", "(Ljava/lang/String;)V"⟩) ∈ zT := zt_mem 201 (by decide +kernel) (by decide +kernel)
theorem zm_202 : (Cond.instanceMethod ⟨"java/lang/Throwable", "<init>", "(Ljava/lang/String;)V"⟩) ∈ zT := zt_mem 202 (by decide +kernel) (by decide +kernel)
theorem zm_203 : (Cond.code ⟨"java/lang/Throwable", "<init>", "(Ljava/lang/String;)V"⟩ prog_14_method_2_code 2 none) ∈ zT := zt_mem 203 (by decide +kernel) (by decide +kernel)
theorem zm_204 : (Cond.fieldLink "java/lang/Throwable" 198 "java/lang/Throwable" "backtrace" "Ljava/lang/Object;") ∈ zT := zt_mem 204 (by decide +kernel) (by decide +kernel)
theorem zm_205 : (Cond.fieldLink "java/lang/Throwable" 31 "java/lang/Throwable" "detailMessage" "Ljava/lang/String;") ∈ zT := zt_mem 205 (by decide +kernel) (by decide +kernel)
theorem zm_206 : (Cond.fieldLink "java/lang/Throwable" 7 "java/lang/Throwable" "cause" "Ljava/lang/Throwable;") ∈ zT := zt_mem 206 (by decide +kernel) (by decide +kernel)
theorem zm_207 : (Cond.fieldLink "java/lang/Throwable" 17 "java/lang/Throwable" "stackTrace" "[Ljava/lang/StackTraceElement;") ∈ zT := zt_mem 207 (by decide +kernel) (by decide +kernel)
theorem zm_208 : (Cond.fieldLink "java/lang/Throwable" 24 "java/lang/Throwable" "suppressedExceptions" "Ljava/util/List;") ∈ zT := zt_mem 208 (by decide +kernel) (by decide +kernel)
theorem zm_217 : (Cond.arrayClass .byte) ∈ zT := zt_mem 217 (by decide +kernel) (by decide +kernel)
theorem zm_218 : (Cond.classLink "ChangeSync" 65 "java/lang/IllegalArgumentException") ∈ zT := zt_mem 218 (by decide +kernel) (by decide +kernel)
theorem zm_219 : (Cond.instantiable "java/lang/IllegalArgumentException" 6) ∈ zT := zt_mem 219 (by decide +kernel) (by decide +kernel)
theorem zm_221 : (Cond.selects "java/lang/IllegalArgumentException" ⟨"java/lang/Throwable", "fillInStackTrace", "(I)Ljava/lang/Throwable;"⟩ ⟨"java/lang/Throwable", "fillInStackTrace", "(I)Ljava/lang/Throwable;"⟩) ∈ zT := zt_mem 221 (by decide +kernel) (by decide +kernel)
theorem zm_228 : (Cond.methodLink "ChangeSync" 69 ⟨"java/lang/IllegalArgumentException", "<init>", "(Ljava/lang/String;)V"⟩) ∈ zT := zt_mem 228 (by decide +kernel) (by decide +kernel)
theorem zm_229 : (Cond.instanceMethod ⟨"java/lang/IllegalArgumentException", "<init>", "(Ljava/lang/String;)V"⟩) ∈ zT := zt_mem 229 (by decide +kernel) (by decide +kernel)
theorem zm_230 : (Cond.code ⟨"java/lang/IllegalArgumentException", "<init>", "(Ljava/lang/String;)V"⟩ prog_7_method_2_code 2 none) ∈ zT := zt_mem 230 (by decide +kernel) (by decide +kernel)
theorem zm_231 : (Cond.methodLink "java/lang/IllegalArgumentException" 7 ⟨"java/lang/RuntimeException", "<init>", "(Ljava/lang/String;)V"⟩) ∈ zT := zt_mem 231 (by decide +kernel) (by decide +kernel)
theorem zm_234 : (Cond.classLink "ChangeSync" 74 "java/lang/IllegalStateException") ∈ zT := zt_mem 234 (by decide +kernel) (by decide +kernel)
theorem zm_235 : (Cond.instantiable "java/lang/IllegalStateException" 6) ∈ zT := zt_mem 235 (by decide +kernel) (by decide +kernel)
theorem zm_237 : (Cond.selects "java/lang/IllegalStateException" ⟨"java/lang/Throwable", "fillInStackTrace", "(I)Ljava/lang/Throwable;"⟩ ⟨"java/lang/Throwable", "fillInStackTrace", "(I)Ljava/lang/Throwable;"⟩) ∈ zT := zt_mem 237 (by decide +kernel) (by decide +kernel)
theorem zm_244 : (Cond.methodLink "ChangeSync" 78 ⟨"java/lang/IllegalStateException", "<init>", "(Ljava/lang/String;)V"⟩) ∈ zT := zt_mem 244 (by decide +kernel) (by decide +kernel)
theorem zm_245 : (Cond.instanceMethod ⟨"java/lang/IllegalStateException", "<init>", "(Ljava/lang/String;)V"⟩) ∈ zT := zt_mem 245 (by decide +kernel) (by decide +kernel)
theorem zm_246 : (Cond.code ⟨"java/lang/IllegalStateException", "<init>", "(Ljava/lang/String;)V"⟩ prog_8_method_2_code 2 none) ∈ zT := zt_mem 246 (by decide +kernel) (by decide +kernel)
theorem zm_247 : (Cond.methodLink "java/lang/IllegalStateException" 7 ⟨"java/lang/RuntimeException", "<init>", "(Ljava/lang/String;)V"⟩) ∈ zT := zt_mem 247 (by decide +kernel) (by decide +kernel)
theorem zm_250 : (Cond.methodLink "ChangeSync" 79 yC_comesToLog) ∈ zT := zt_mem 250 (by decide +kernel) (by decide +kernel)
theorem zm_252 : (Cond.instanceMethod yC_comesToLog) ∈ zT := zt_mem 252 (by decide +kernel) (by decide +kernel)
theorem zm_253 : (Cond.code yC_comesToLog prog_1_method_23_code 5 (some .boolean)) ∈ zT := zt_mem 253 (by decide +kernel) (by decide +kernel)
theorem zm_254 : (Cond.methodLink "ChangeSync" 172 yC_actorOf) ∈ zT := zt_mem 254 (by decide +kernel) (by decide +kernel)
theorem zm_255 : (Cond.static yC_actorOf) ∈ zT := zt_mem 255 (by decide +kernel) (by decide +kernel)
theorem zm_256 : (Cond.code yC_actorOf prog_1_method_17_code 1 (some .int)) ∈ zT := zt_mem 256 (by decide +kernel) (by decide +kernel)
theorem zm_257 : (Cond.methodLink "ChangeSync" 175 yC_seqOf) ∈ zT := zt_mem 257 (by decide +kernel) (by decide +kernel)
theorem zm_258 : (Cond.static yC_seqOf) ∈ zT := zt_mem 258 (by decide +kernel) (by decide +kernel)
theorem zm_259 : (Cond.code yC_seqOf prog_1_method_18_code 1 (some .int)) ∈ zT := zt_mem 259 (by decide +kernel) (by decide +kernel)
theorem zm_260 : (Cond.methodLink "ChangeSyncLaw" 59 yL_tick) ∈ zT := zt_mem 260 (by decide +kernel) (by decide +kernel)
theorem zm_261 : (Cond.static yL_tick) ∈ zT := zt_mem 261 (by decide +kernel) (by decide +kernel)
theorem zm_262 : (Cond.codeWith yL_tick method_4_code 4 (some .int) [(0, 9, 12, 13), (0, 9, 15, 17)]) ∈ zT := zt_mem 262 (by decide +kernel) (by decide +kernel)
theorem zm_263 : (Cond.methodLink "ChangeSyncLaw" 19 yC_tick) ∈ zT := zt_mem 263 (by decide +kernel) (by decide +kernel)
theorem zm_264 : (Cond.instanceMethod yC_tick) ∈ zT := zt_mem 264 (by decide +kernel) (by decide +kernel)
theorem zm_265 : (Cond.selects "ChangeSync" yC_tick yC_tick) ∈ zT := zt_mem 265 (by decide +kernel) (by decide +kernel)
theorem zm_266 : (Cond.code yC_tick prog_1_method_3_code 3 (some .int)) ∈ zT := zt_mem 266 (by decide +kernel) (by decide +kernel)
theorem zm_268 : (Cond.methodLink "ChangeSync" 85 yC_sendClock) ∈ zT := zt_mem 268 (by decide +kernel) (by decide +kernel)
theorem zm_270 : (Cond.instanceMethod yC_sendClock) ∈ zT := zt_mem 270 (by decide +kernel) (by decide +kernel)
theorem zm_271 : (Cond.code yC_sendClock prog_1_method_28_code 4 none) ∈ zT := zt_mem 271 (by decide +kernel) (by decide +kernel)
theorem zm_272 : (Cond.methodLink "ChangeSync" 122 yC_countAsSent) ∈ zT := zt_mem 272 (by decide +kernel) (by decide +kernel)
theorem zm_274 : (Cond.instanceMethod yC_countAsSent) ∈ zT := zt_mem 274 (by decide +kernel) (by decide +kernel)
theorem zm_275 : (Cond.code yC_countAsSent prog_1_method_30_code 1 (some .boolean)) ∈ zT := zt_mem 275 (by decide +kernel) (by decide +kernel)
theorem zm_276 : (Cond.instantiable "ChangeSync$Message" 6) ∈ zT := zt_mem 276 (by decide +kernel) (by decide +kernel)
theorem zm_277 : (Cond.fieldLink "ChangeSync" 185 "ChangeSync" "NO_CHANGES" "[I") ∈ zT := zt_mem 277 (by decide +kernel) (by decide +kernel)
theorem zm_279 : (Cond.methodLink "ChangeSync" 138 yM_init) ∈ zT := zt_mem 279 (by decide +kernel) (by decide +kernel)
theorem zm_280 : (Cond.instanceMethod yM_init) ∈ zT := zt_mem 280 (by decide +kernel) (by decide +kernel)
theorem zm_281 : (Cond.code yM_init prog_2_method_1_code 8 none) ∈ zT := zt_mem 281 (by decide +kernel) (by decide +kernel)
theorem zm_282 : (Cond.methodLink "ChangeSync$Message" 3 ⟨"java/lang/Object", "<init>", "()V"⟩) ∈ zT := zt_mem 282 (by decide +kernel) (by decide +kernel)
theorem zm_283 : (Cond.fieldLink "ChangeSync$Message" 9 "ChangeSync$Message" "number" "I") ∈ zT := zt_mem 283 (by decide +kernel) (by decide +kernel)
theorem zm_284 : (Cond.fieldLink "ChangeSync" 147 "ChangeSync$Message" "number" "I") ∈ zT := zt_mem 284 (by decide +kernel) (by decide +kernel)
theorem zm_285 : (Cond.fieldLink "ChangeSync$Message" 15 "ChangeSync$Message" "sender" "I") ∈ zT := zt_mem 285 (by decide +kernel) (by decide +kernel)
theorem zm_286 : (Cond.fieldLink "ChangeSync" 125 "ChangeSync$Message" "sender" "I") ∈ zT := zt_mem 286 (by decide +kernel) (by decide +kernel)
theorem zm_287 : (Cond.fieldLink "ChangeSync$Message" 18 "ChangeSync$Message" "receiver" "I") ∈ zT := zt_mem 287 (by decide +kernel) (by decide +kernel)
theorem zm_288 : (Cond.fieldLink "ChangeSync" 99 "ChangeSync$Message" "receiver" "I") ∈ zT := zt_mem 288 (by decide +kernel) (by decide +kernel)
theorem zm_289 : (Cond.fieldLink "ChangeSync$Message" 21 "ChangeSync$Message" "bytes" "I") ∈ zT := zt_mem 289 (by decide +kernel) (by decide +kernel)
theorem zm_290 : (Cond.fieldLink "ChangeSync" 128 "ChangeSync$Message" "bytes" "I") ∈ zT := zt_mem 290 (by decide +kernel) (by decide +kernel)
theorem zm_291 : (Cond.fieldLink "ChangeSync$Message" 24 "ChangeSync$Message" "toldClock" "J") ∈ zT := zt_mem 291 (by decide +kernel) (by decide +kernel)
theorem zm_292 : (Cond.fieldLink "ChangeSync" 131 "ChangeSync$Message" "toldClock" "J") ∈ zT := zt_mem 292 (by decide +kernel) (by decide +kernel)
theorem zm_293 : (Cond.fieldLink "ChangeSync$Message" 28 "ChangeSync$Message" "changes" "[I") ∈ zT := zt_mem 293 (by decide +kernel) (by decide +kernel)
theorem zm_294 : (Cond.fieldLink "ChangeSync" 135 "ChangeSync$Message" "changes" "[I") ∈ zT := zt_mem 294 (by decide +kernel) (by decide +kernel)
theorem zm_308 : (Cond.methodLink "ChangeSync" 141 yC_putInFlight) ∈ zT := zt_mem 308 (by decide +kernel) (by decide +kernel)
theorem zm_310 : (Cond.instanceMethod yC_putInFlight) ∈ zT := zt_mem 310 (by decide +kernel) (by decide +kernel)
theorem zm_311 : (Cond.code yC_putInFlight prog_1_method_31_code 2 none) ∈ zT := zt_mem 311 (by decide +kernel) (by decide +kernel)
theorem zm_312 : (Cond.methodLink "ChangeSyncLaw" 63 yL_deliver) ∈ zT := zt_mem 312 (by decide +kernel) (by decide +kernel)
theorem zm_313 : (Cond.static yL_deliver) ∈ zT := zt_mem 313 (by decide +kernel) (by decide +kernel)
theorem zm_314 : (Cond.codeWith yL_deliver method_5_code 4 (some .int) [(0, 9, 12, 13)]) ∈ zT := zt_mem 314 (by decide +kernel) (by decide +kernel)
theorem zm_315 : (Cond.methodLink "ChangeSyncLaw" 23 yC_deliver) ∈ zT := zt_mem 315 (by decide +kernel) (by decide +kernel)
theorem zm_316 : (Cond.instanceMethod yC_deliver) ∈ zT := zt_mem 316 (by decide +kernel) (by decide +kernel)
theorem zm_317 : (Cond.selects "ChangeSync" yC_deliver yC_deliver) ∈ zT := zt_mem 317 (by decide +kernel) (by decide +kernel)
theorem zm_318 : (Cond.code yC_deliver prog_1_method_4_code 3 (some .int)) ∈ zT := zt_mem 318 (by decide +kernel) (by decide +kernel)
theorem zm_320 : (Cond.methodLink "ChangeSync" 105 yM_isClock) ∈ zT := zt_mem 320 (by decide +kernel) (by decide +kernel)
theorem zm_321 : (Cond.instanceMethod yM_isClock) ∈ zT := zt_mem 321 (by decide +kernel) (by decide +kernel)
theorem zm_322 : (Cond.selects "ChangeSync$Message" yM_isClock yM_isClock) ∈ zT := zt_mem 322 (by decide +kernel) (by decide +kernel)
theorem zm_323 : (Cond.code yM_isClock prog_2_method_2_code 1 (some .boolean)) ∈ zT := zt_mem 323 (by decide +kernel) (by decide +kernel)
theorem zm_324 : (Cond.constantLong "ChangeSync$Message" 32 (-1)) ∈ zT := zt_mem 324 (by decide +kernel) (by decide +kernel)
theorem zm_325 : (Cond.methodLink "ChangeSync" 109 yC_answer) ∈ zT := zt_mem 325 (by decide +kernel) (by decide +kernel)
theorem zm_327 : (Cond.instanceMethod yC_answer) ∈ zT := zt_mem 327 (by decide +kernel) (by decide +kernel)
theorem zm_328 : (Cond.code yC_answer prog_1_method_25_code 9 (some .int)) ∈ zT := zt_mem 328 (by decide +kernel) (by decide +kernel)
theorem zm_329 : (Cond.methodLink "ChangeSync" 178 yC_weight) ∈ zT := zt_mem 329 (by decide +kernel) (by decide +kernel)
theorem zm_330 : (Cond.methodLink "ChangeSync" 181 yC_sendGathered) ∈ zT := zt_mem 330 (by decide +kernel) (by decide +kernel)
theorem zm_332 : (Cond.instanceMethod yC_sendGathered) ∈ zT := zt_mem 332 (by decide +kernel) (by decide +kernel)
theorem zm_333 : (Cond.code yC_sendGathered prog_1_method_29_code 6 none) ∈ zT := zt_mem 333 (by decide +kernel) (by decide +kernel)
theorem zm_334 : (Cond.methodLink "ChangeSync" 188 yA_copyOf) ∈ zT := zt_mem 334 (by decide +kernel) (by decide +kernel)
theorem zm_335 : (Cond.static yA_copyOf) ∈ zT := zt_mem 335 (by decide +kernel) (by decide +kernel)
theorem zm_336 : (Cond.code yA_copyOf prog_15_method_123_code 3 (some (.array .int))) ∈ zT := zt_mem 336 (by decide +kernel) (by decide +kernel)
theorem zm_337 : (Cond.methodLink "java/util/Arrays" 316 ⟨"[I", "clone", "()Ljava/lang/Object;"⟩) ∈ zT := zt_mem 337 (by decide +kernel) (by decide +kernel)
theorem zm_339 : (Cond.native ⟨"java/lang/Object", "clone", "()Ljava/lang/Object;"⟩) ∈ zT := zt_mem 339 (by decide +kernel) (by decide +kernel)
theorem zm_340 : (Cond.instanceMethod ⟨"java/lang/Object", "clone", "()Ljava/lang/Object;"⟩) ∈ zT := zt_mem 340 (by decide +kernel) (by decide +kernel)
theorem zm_341 : (Cond.selects "[I" ⟨"[I", "clone", "()Ljava/lang/Object;"⟩ ⟨"java/lang/Object", "clone", "()Ljava/lang/Object;"⟩) ∈ zT := zt_mem 341 (by decide +kernel) (by decide +kernel)
theorem zm_343 : (Cond.classLink "java/util/Arrays" 317 "[I") ∈ zT := zt_mem 343 (by decide +kernel) (by decide +kernel)
theorem zm_344 : (Cond.methodLink "java/util/Arrays" 304 ⟨"java/lang/Math", "min", "(II)I"⟩) ∈ zT := zt_mem 344 (by decide +kernel) (by decide +kernel)
theorem zm_345 : (Cond.methodLink "java/util/Arrays" 150 ⟨"java/lang/System", "arraycopy", "(Ljava/lang/Object;ILjava/lang/Object;II)V"⟩) ∈ zT := zt_mem 345 (by decide +kernel) (by decide +kernel)
theorem zm_346 : (Cond.static ⟨"java/lang/System", "arraycopy", "(Ljava/lang/Object;ILjava/lang/Object;II)V"⟩) ∈ zT := zt_mem 346 (by decide +kernel) (by decide +kernel)
theorem zm_347 : (Cond.native ⟨"java/lang/System", "arraycopy", "(Ljava/lang/Object;ILjava/lang/Object;II)V"⟩) ∈ zT := zt_mem 347 (by decide +kernel) (by decide +kernel)
theorem zm_348 : (Cond.methodLink "ChangeSync" 113 yC_takeChanges) ∈ zT := zt_mem 348 (by decide +kernel) (by decide +kernel)
theorem zm_350 : (Cond.instanceMethod yC_takeChanges) ∈ zT := zt_mem 350 (by decide +kernel) (by decide +kernel)
theorem zm_351 : (Cond.code yC_takeChanges prog_1_method_24_code 7 (some .int)) ∈ zT := zt_mem 351 (by decide +kernel) (by decide +kernel)
theorem zm_352 : (Cond.methodLink "ChangeSyncLaw" 71 yL_twice) ∈ zT := zt_mem 352 (by decide +kernel) (by decide +kernel)
theorem zm_353 : (Cond.static yL_twice) ∈ zT := zt_mem 353 (by decide +kernel) (by decide +kernel)
theorem zm_354 : (Cond.codeWith yL_twice method_6_code 4 (some .int) [(0, 9, 12, 13)]) ∈ zT := zt_mem 354 (by decide +kernel) (by decide +kernel)
theorem zm_355 : (Cond.methodLink "ChangeSyncLaw" 26 yC_twice) ∈ zT := zt_mem 355 (by decide +kernel) (by decide +kernel)
theorem zm_356 : (Cond.instanceMethod yC_twice) ∈ zT := zt_mem 356 (by decide +kernel) (by decide +kernel)
theorem zm_357 : (Cond.selects "ChangeSync" yC_twice yC_twice) ∈ zT := zt_mem 357 (by decide +kernel) (by decide +kernel)
theorem zm_358 : (Cond.code yC_twice prog_1_method_6_code 4 (some .int)) ∈ zT := zt_mem 358 (by decide +kernel) (by decide +kernel)
theorem zm_359 : (Cond.methodLink "ChangeSyncLaw" 79 yL_message) ∈ zT := zt_mem 359 (by decide +kernel) (by decide +kernel)
theorem zm_360 : (Cond.static yL_message) ∈ zT := zt_mem 360 (by decide +kernel) (by decide +kernel)
theorem zm_361 : (Cond.codeWith yL_message method_7_code 5 (some .int) [(0, 10, 13, 13)]) ∈ zT := zt_mem 361 (by decide +kernel) (by decide +kernel)
theorem zm_362 : (Cond.methodLink "ChangeSyncLaw" 29 yC_message) ∈ zT := zt_mem 362 (by decide +kernel) (by decide +kernel)
theorem zm_363 : (Cond.instanceMethod yC_message) ∈ zT := zt_mem 363 (by decide +kernel) (by decide +kernel)
theorem zm_364 : (Cond.selects "ChangeSync" yC_message yC_message) ∈ zT := zt_mem 364 (by decide +kernel) (by decide +kernel)
theorem zm_365 : (Cond.code yC_message prog_1_method_8_code 4 (some .int)) ∈ zT := zt_mem 365 (by decide +kernel) (by decide +kernel)
theorem zm_367 : (Cond.methodLink "ChangeSyncLaw" 90 yL_clock) ∈ zT := zt_mem 367 (by decide +kernel) (by decide +kernel)
theorem zm_368 : (Cond.static yL_clock) ∈ zT := zt_mem 368 (by decide +kernel) (by decide +kernel)
theorem zm_369 : (Cond.codeWith yL_clock method_8_code 4 (some .int) [(0, 8, 11, 13)]) ∈ zT := zt_mem 369 (by decide +kernel) (by decide +kernel)
theorem zm_370 : (Cond.methodLink "ChangeSyncLaw" 32 yC_clock) ∈ zT := zt_mem 370 (by decide +kernel) (by decide +kernel)
theorem zm_371 : (Cond.instanceMethod yC_clock) ∈ zT := zt_mem 371 (by decide +kernel) (by decide +kernel)
theorem zm_372 : (Cond.selects "ChangeSync" yC_clock yC_clock) ∈ zT := zt_mem 372 (by decide +kernel) (by decide +kernel)
theorem zm_373 : (Cond.code yC_clock prog_1_method_11_code 2 (some .long)) ∈ zT := zt_mem 373 (by decide +kernel) (by decide +kernel)
theorem zm_374 : (Cond.methodLink "ChangeSyncLaw" 101 yL_lacks) ∈ zT := zt_mem 374 (by decide +kernel) (by decide +kernel)
theorem zm_375 : (Cond.static yL_lacks) ∈ zT := zt_mem 375 (by decide +kernel) (by decide +kernel)
theorem zm_376 : (Cond.codeWith yL_lacks method_9_code 4 (some .int) [(0, 9, 12, 13)]) ∈ zT := zt_mem 376 (by decide +kernel) (by decide +kernel)
theorem zm_377 : (Cond.methodLink "ChangeSyncLaw" 36 yC_lacks) ∈ zT := zt_mem 377 (by decide +kernel) (by decide +kernel)
theorem zm_378 : (Cond.instanceMethod yC_lacks) ∈ zT := zt_mem 378 (by decide +kernel) (by decide +kernel)
theorem zm_379 : (Cond.selects "ChangeSync" yC_lacks yC_lacks) ∈ zT := zt_mem 379 (by decide +kernel) (by decide +kernel)
theorem zm_380 : (Cond.code yC_lacks prog_1_method_14_code 2 (some .int)) ∈ zT := zt_mem 380 (by decide +kernel) (by decide +kernel)
theorem zm_381 : (Cond.classLink "ChangeSyncLaw" 48 "ChangeSyncModel") ∈ zT := zt_mem 381 (by decide +kernel) (by decide +kernel)
theorem zm_382 : (Cond.instantiable "ChangeSyncModel" 22) ∈ zT := zt_mem 382 (by decide +kernel) (by decide +kernel)
theorem zm_383 : (Cond.methodLink "ChangeSyncLaw" 50 yR_init) ∈ zT := zt_mem 383 (by decide +kernel) (by decide +kernel)
theorem zm_384 : (Cond.instanceMethod yR_init) ∈ zT := zt_mem 384 (by decide +kernel) (by decide +kernel)
theorem zm_385 : (Cond.code yR_init prog_4_method_1_code 4 none) ∈ zT := zt_mem 385 (by decide +kernel) (by decide +kernel)
theorem zm_386 : (Cond.methodLink "ChangeSyncModel" 1 ⟨"java/lang/Object", "<init>", "()V"⟩) ∈ zT := zt_mem 386 (by decide +kernel) (by decide +kernel)
theorem zm_387 : (Cond.constant "ChangeSyncModel" 45 57600) ∈ zT := zt_mem 387 (by decide +kernel) (by decide +kernel)
theorem zm_388 : (Cond.fieldLink "ChangeSyncModel" 59 "ChangeSyncModel" "thrown" "I") ∈ zT := zt_mem 388 (by decide +kernel) (by decide +kernel)
theorem zm_389 : (Cond.fieldLink "ChangeSyncModel" 52 "ChangeSyncModel" "n" "I") ∈ zT := zt_mem 389 (by decide +kernel) (by decide +kernel)
theorem zm_390 : (Cond.fieldLink "ChangeSyncModel" 56 "ChangeSyncModel" "m" "I") ∈ zT := zt_mem 390 (by decide +kernel) (by decide +kernel)
theorem zm_391 : (Cond.fieldLink "ChangeSyncModel" 7 "ChangeSyncModel" "isDown" "[Z") ∈ zT := zt_mem 391 (by decide +kernel) (by decide +kernel)
theorem zm_392 : (Cond.fieldLink "ChangeSyncModel" 13 "ChangeSyncModel" "made" "[I") ∈ zT := zt_mem 392 (by decide +kernel) (by decide +kernel)
theorem zm_393 : (Cond.fieldLink "ChangeSyncModel" 17 "ChangeSyncModel" "weights" "[I") ∈ zT := zt_mem 393 (by decide +kernel) (by decide +kernel)
theorem zm_394 : (Cond.fieldLink "ChangeSyncModel" 20 "ChangeSyncModel" "has" "[I") ∈ zT := zt_mem 394 (by decide +kernel) (by decide +kernel)
theorem zm_395 : (Cond.fieldLink "ChangeSyncModel" 23 "ChangeSyncModel" "many" "[I") ∈ zT := zt_mem 395 (by decide +kernel) (by decide +kernel)
theorem zm_396 : (Cond.fieldLink "ChangeSyncModel" 26 "ChangeSyncModel" "rows" "[I") ∈ zT := zt_mem 396 (by decide +kernel) (by decide +kernel)
theorem zm_397 : (Cond.fieldLink "ChangeSyncModel" 62 "ChangeSyncModel" "flight" "I") ∈ zT := zt_mem 397 (by decide +kernel) (by decide +kernel)
theorem zm_398 : (Cond.fieldLink "ChangeSyncModel" 29 "ChangeSyncModel" "numbers" "[I") ∈ zT := zt_mem 398 (by decide +kernel) (by decide +kernel)
theorem zm_399 : (Cond.fieldLink "ChangeSyncModel" 32 "ChangeSyncModel" "from" "[I") ∈ zT := zt_mem 399 (by decide +kernel) (by decide +kernel)
theorem zm_400 : (Cond.fieldLink "ChangeSyncModel" 35 "ChangeSyncModel" "to" "[I") ∈ zT := zt_mem 400 (by decide +kernel) (by decide +kernel)
theorem zm_401 : (Cond.fieldLink "ChangeSyncModel" 38 "ChangeSyncModel" "sizes" "[I") ∈ zT := zt_mem 401 (by decide +kernel) (by decide +kernel)
theorem zm_402 : (Cond.fieldLink "ChangeSyncModel" 41 "ChangeSyncModel" "clocks" "[J") ∈ zT := zt_mem 402 (by decide +kernel) (by decide +kernel)
theorem zm_403 : (Cond.fieldLink "ChangeSyncModel" 46 "ChangeSyncModel" "inside" "[I") ∈ zT := zt_mem 403 (by decide +kernel) (by decide +kernel)
theorem zm_404 : (Cond.fieldLink "ChangeSyncModel" 69 "ChangeSyncModel" "sent" "I") ∈ zT := zt_mem 404 (by decide +kernel) (by decide +kernel)
theorem zm_405 : (Cond.fieldLink "ChangeSyncModel" 72 "ChangeSyncModel" "lost" "I") ∈ zT := zt_mem 405 (by decide +kernel) (by decide +kernel)
theorem zm_406 : (Cond.fieldLink "ChangeSyncModel" 110 "ChangeSyncModel" "gone" "I") ∈ zT := zt_mem 406 (by decide +kernel) (by decide +kernel)
theorem zm_407 : (Cond.fieldLink "ChangeSyncModel" 100 "ChangeSyncModel" "passed" "I") ∈ zT := zt_mem 407 (by decide +kernel) (by decide +kernel)
theorem zm_408 : (Cond.fieldLink "ChangeSyncModel" 49 "ChangeSyncModel" "part" "[I") ∈ zT := zt_mem 408 (by decide +kernel) (by decide +kernel)
theorem zm_409 : (Cond.fieldLink "ChangeSyncModel" 95 "ChangeSyncModel" "parts" "I") ∈ zT := zt_mem 409 (by decide +kernel) (by decide +kernel)
theorem zm_455 : (Cond.methodLink "ChangeSyncLaw" 55 yR_thrown) ∈ zT := zt_mem 455 (by decide +kernel) (by decide +kernel)
theorem zm_456 : (Cond.instanceMethod yR_thrown) ∈ zT := zt_mem 456 (by decide +kernel) (by decide +kernel)
theorem zm_457 : (Cond.selects "ChangeSyncModel" yR_thrown yR_thrown) ∈ zT := zt_mem 457 (by decide +kernel) (by decide +kernel)
theorem zm_458 : (Cond.code yR_thrown prog_4_method_2_code 1 (some .int)) ∈ zT := zt_mem 458 (by decide +kernel) (by decide +kernel)
theorem zm_459 : (Cond.methodLink "ChangeSyncLaw" 54 yR_make) ∈ zT := zt_mem 459 (by decide +kernel) (by decide +kernel)
theorem zm_460 : (Cond.instanceMethod yR_make) ∈ zT := zt_mem 460 (by decide +kernel) (by decide +kernel)
theorem zm_461 : (Cond.selects "ChangeSyncModel" yR_make yR_make) ∈ zT := zt_mem 461 (by decide +kernel) (by decide +kernel)
theorem zm_462 : (Cond.code yR_make prog_4_method_12_code 3 (some .int)) ∈ zT := zt_mem 462 (by decide +kernel) (by decide +kernel)
theorem zm_463 : (Cond.methodLink "ChangeSyncModel" 79 yR_isReplica) ∈ zT := zt_mem 463 (by decide +kernel) (by decide +kernel)
theorem zm_465 : (Cond.instanceMethod yR_isReplica) ∈ zT := zt_mem 465 (by decide +kernel) (by decide +kernel)
theorem zm_466 : (Cond.code yR_isReplica prog_4_method_3_code 2 (some .boolean)) ∈ zT := zt_mem 466 (by decide +kernel) (by decide +kernel)
theorem zm_467 : (Cond.methodLink "ChangeSyncModel" 83 yR_enter) ∈ zT := zt_mem 467 (by decide +kernel) (by decide +kernel)
theorem zm_469 : (Cond.instanceMethod yR_enter) ∈ zT := zt_mem 469 (by decide +kernel) (by decide +kernel)
theorem zm_470 : (Cond.code yR_enter prog_4_method_7_code 3 none) ∈ zT := zt_mem 470 (by decide +kernel) (by decide +kernel)
theorem zm_471 : (Cond.methodLink "ChangeSyncLaw" 62 yR_tick) ∈ zT := zt_mem 471 (by decide +kernel) (by decide +kernel)
theorem zm_472 : (Cond.instanceMethod yR_tick) ∈ zT := zt_mem 472 (by decide +kernel) (by decide +kernel)
theorem zm_473 : (Cond.selects "ChangeSyncModel" yR_tick yR_tick) ∈ zT := zt_mem 473 (by decide +kernel) (by decide +kernel)
theorem zm_474 : (Cond.code yR_tick prog_4_method_13_code 6 (some .int)) ∈ zT := zt_mem 474 (by decide +kernel) (by decide +kernel)
theorem zm_475 : (Cond.methodLink "ChangeSyncModel" 87 yR_clockOf) ∈ zT := zt_mem 475 (by decide +kernel) (by decide +kernel)
theorem zm_477 : (Cond.instanceMethod yR_clockOf) ∈ zT := zt_mem 477 (by decide +kernel) (by decide +kernel)
theorem zm_478 : (Cond.code yR_clockOf prog_4_method_6_code 5 (some .long)) ∈ zT := zt_mem 478 (by decide +kernel) (by decide +kernel)
theorem zm_479 : (Cond.methodLink "ChangeSyncModel" 65 yR_reached) ∈ zT := zt_mem 479 (by decide +kernel) (by decide +kernel)
theorem zm_481 : (Cond.instanceMethod yR_reached) ∈ zT := zt_mem 481 (by decide +kernel) (by decide +kernel)
theorem zm_482 : (Cond.code yR_reached prog_4_method_5_code 5 (some .int)) ∈ zT := zt_mem 482 (by decide +kernel) (by decide +kernel)
theorem zm_483 : (Cond.methodLink "ChangeSyncModel" 91 yR_send) ∈ zT := zt_mem 483 (by decide +kernel) (by decide +kernel)
theorem zm_485 : (Cond.instanceMethod yR_send) ∈ zT := zt_mem 485 (by decide +kernel) (by decide +kernel)
theorem zm_486 : (Cond.code yR_send prog_4_method_9_code 8 (some .int)) ∈ zT := zt_mem 486 (by decide +kernel) (by decide +kernel)
theorem zm_487 : (Cond.methodLink "ChangeSyncLaw" 65 yR_deliver) ∈ zT := zt_mem 487 (by decide +kernel) (by decide +kernel)
theorem zm_488 : (Cond.instanceMethod yR_deliver) ∈ zT := zt_mem 488 (by decide +kernel) (by decide +kernel)
theorem zm_489 : (Cond.selects "ChangeSyncModel" yR_deliver yR_deliver) ∈ zT := zt_mem 489 (by decide +kernel) (by decide +kernel)
theorem zm_490 : (Cond.code yR_deliver prog_4_method_16_code 9 (some .int)) ∈ zT := zt_mem 490 (by decide +kernel) (by decide +kernel)
theorem zm_491 : (Cond.methodLink "ChangeSyncModel" 103 yR_isMessage) ∈ zT := zt_mem 491 (by decide +kernel) (by decide +kernel)
theorem zm_493 : (Cond.instanceMethod yR_isMessage) ∈ zT := zt_mem 493 (by decide +kernel) (by decide +kernel)
theorem zm_494 : (Cond.code yR_isMessage prog_4_method_4_code 2 (some .boolean)) ∈ zT := zt_mem 494 (by decide +kernel) (by decide +kernel)
theorem zm_495 : (Cond.methodLink "ChangeSyncModel" 106 yR_remove) ∈ zT := zt_mem 495 (by decide +kernel) (by decide +kernel)
theorem zm_497 : (Cond.instanceMethod yR_remove) ∈ zT := zt_mem 497 (by decide +kernel) (by decide +kernel)
theorem zm_498 : (Cond.code yR_remove prog_4_method_10_code 4 none) ∈ zT := zt_mem 498 (by decide +kernel) (by decide +kernel)
theorem zm_499 : (Cond.methodLink "ChangeSyncModel" 113 yR_answer) ∈ zT := zt_mem 499 (by decide +kernel) (by decide +kernel)
theorem zm_501 : (Cond.instanceMethod yR_answer) ∈ zT := zt_mem 501 (by decide +kernel) (by decide +kernel)
theorem zm_502 : (Cond.code yR_answer prog_4_method_14_code 10 (some .int)) ∈ zT := zt_mem 502 (by decide +kernel) (by decide +kernel)
theorem zm_503 : (Cond.constantLong "ChangeSyncModel" 98 255) ∈ zT := zt_mem 503 (by decide +kernel) (by decide +kernel)
theorem zm_504 : (Cond.methodLink "ChangeSyncModel" 75 yR_weightOf) ∈ zT := zt_mem 504 (by decide +kernel) (by decide +kernel)
theorem zm_506 : (Cond.instanceMethod yR_weightOf) ∈ zT := zt_mem 506 (by decide +kernel) (by decide +kernel)
theorem zm_507 : (Cond.code yR_weightOf prog_4_method_8_code 2 (some .int)) ∈ zT := zt_mem 507 (by decide +kernel) (by decide +kernel)
theorem zm_508 : (Cond.methodLink "ChangeSyncModel" 117 yR_take) ∈ zT := zt_mem 508 (by decide +kernel) (by decide +kernel)
theorem zm_510 : (Cond.instanceMethod yR_take) ∈ zT := zt_mem 510 (by decide +kernel) (by decide +kernel)
theorem zm_511 : (Cond.code yR_take prog_4_method_15_code 5 (some .int)) ∈ zT := zt_mem 511 (by decide +kernel) (by decide +kernel)
theorem zm_512 : (Cond.methodLink "ChangeSyncLaw" 70 yR_lose) ∈ zT := zt_mem 512 (by decide +kernel) (by decide +kernel)
theorem zm_513 : (Cond.instanceMethod yR_lose) ∈ zT := zt_mem 513 (by decide +kernel) (by decide +kernel)
theorem zm_514 : (Cond.selects "ChangeSyncModel" yR_lose yR_lose) ∈ zT := zt_mem 514 (by decide +kernel) (by decide +kernel)
theorem zm_515 : (Cond.code yR_lose prog_4_method_17_code 2 (some .boolean)) ∈ zT := zt_mem 515 (by decide +kernel) (by decide +kernel)
theorem zm_516 : (Cond.methodLink "ChangeSyncLaw" 73 yR_twice) ∈ zT := zt_mem 516 (by decide +kernel) (by decide +kernel)
theorem zm_517 : (Cond.instanceMethod yR_twice) ∈ zT := zt_mem 517 (by decide +kernel) (by decide +kernel)
theorem zm_518 : (Cond.selects "ChangeSyncModel" yR_twice yR_twice) ∈ zT := zt_mem 518 (by decide +kernel) (by decide +kernel)
theorem zm_519 : (Cond.code yR_twice prog_4_method_18_code 4 (some .int)) ∈ zT := zt_mem 519 (by decide +kernel) (by decide +kernel)
theorem zm_520 : (Cond.methodLink "ChangeSyncLaw" 78 yR_up) ∈ zT := zt_mem 520 (by decide +kernel) (by decide +kernel)
theorem zm_521 : (Cond.instanceMethod yR_up) ∈ zT := zt_mem 521 (by decide +kernel) (by decide +kernel)
theorem zm_522 : (Cond.selects "ChangeSyncModel" yR_up yR_up) ∈ zT := zt_mem 522 (by decide +kernel) (by decide +kernel)
theorem zm_523 : (Cond.code yR_up prog_4_method_19_code 3 (some .boolean)) ∈ zT := zt_mem 523 (by decide +kernel) (by decide +kernel)
theorem zm_524 : (Cond.methodLink "ChangeSyncLaw" 81 yR_message) ∈ zT := zt_mem 524 (by decide +kernel) (by decide +kernel)
theorem zm_525 : (Cond.instanceMethod yR_message) ∈ zT := zt_mem 525 (by decide +kernel) (by decide +kernel)
theorem zm_526 : (Cond.selects "ChangeSyncModel" yR_message yR_message) ∈ zT := zt_mem 526 (by decide +kernel) (by decide +kernel)
theorem zm_527 : (Cond.code yR_message prog_4_method_20_code 4 (some .int)) ∈ zT := zt_mem 527 (by decide +kernel) (by decide +kernel)
theorem zm_528 : (Cond.methodLink "ChangeSyncModel" 120 yR_bytesOf) ∈ zT := zt_mem 528 (by decide +kernel) (by decide +kernel)
theorem zm_530 : (Cond.instanceMethod yR_bytesOf) ∈ zT := zt_mem 530 (by decide +kernel) (by decide +kernel)
theorem zm_531 : (Cond.code yR_bytesOf prog_4_method_11_code 4 (some .int)) ∈ zT := zt_mem 531 (by decide +kernel) (by decide +kernel)
theorem zm_532 : (Cond.methodLink "ChangeSyncLaw" 85 yR_inside) ∈ zT := zt_mem 532 (by decide +kernel) (by decide +kernel)
theorem zm_533 : (Cond.instanceMethod yR_inside) ∈ zT := zt_mem 533 (by decide +kernel) (by decide +kernel)
theorem zm_534 : (Cond.selects "ChangeSyncModel" yR_inside yR_inside) ∈ zT := zt_mem 534 (by decide +kernel) (by decide +kernel)
theorem zm_535 : (Cond.code yR_inside prog_4_method_21_code 3 (some .int)) ∈ zT := zt_mem 535 (by decide +kernel) (by decide +kernel)
theorem zm_536 : (Cond.methodLink "ChangeSyncLaw" 89 yR_told) ∈ zT := zt_mem 536 (by decide +kernel) (by decide +kernel)
theorem zm_537 : (Cond.instanceMethod yR_told) ∈ zT := zt_mem 537 (by decide +kernel) (by decide +kernel)
theorem zm_538 : (Cond.selects "ChangeSyncModel" yR_told yR_told) ∈ zT := zt_mem 538 (by decide +kernel) (by decide +kernel)
theorem zm_539 : (Cond.code yR_told prog_4_method_22_code 2 (some .long)) ∈ zT := zt_mem 539 (by decide +kernel) (by decide +kernel)
theorem zm_540 : (Cond.constantLong "ChangeSyncModel" 123 (-1)) ∈ zT := zt_mem 540 (by decide +kernel) (by decide +kernel)
theorem zm_541 : (Cond.methodLink "ChangeSyncLaw" 92 yR_clock) ∈ zT := zt_mem 541 (by decide +kernel) (by decide +kernel)
theorem zm_542 : (Cond.instanceMethod yR_clock) ∈ zT := zt_mem 542 (by decide +kernel) (by decide +kernel)
theorem zm_543 : (Cond.selects "ChangeSyncModel" yR_clock yR_clock) ∈ zT := zt_mem 543 (by decide +kernel) (by decide +kernel)
theorem zm_544 : (Cond.code yR_clock prog_4_method_23_code 2 (some .long)) ∈ zT := zt_mem 544 (by decide +kernel) (by decide +kernel)
theorem zm_545 : (Cond.methodLink "ChangeSyncLaw" 96 yR_log) ∈ zT := zt_mem 545 (by decide +kernel) (by decide +kernel)
theorem zm_546 : (Cond.instanceMethod yR_log) ∈ zT := zt_mem 546 (by decide +kernel) (by decide +kernel)
theorem zm_547 : (Cond.selects "ChangeSyncModel" yR_log yR_log) ∈ zT := zt_mem 547 (by decide +kernel) (by decide +kernel)
theorem zm_548 : (Cond.code yR_log prog_4_method_24_code 3 (some .int)) ∈ zT := zt_mem 548 (by decide +kernel) (by decide +kernel)
theorem zm_549 : (Cond.methodLink "ChangeSyncLaw" 100 yR_weight) ∈ zT := zt_mem 549 (by decide +kernel) (by decide +kernel)
theorem zm_550 : (Cond.instanceMethod yR_weight) ∈ zT := zt_mem 550 (by decide +kernel) (by decide +kernel)
theorem zm_551 : (Cond.selects "ChangeSyncModel" yR_weight yR_weight) ∈ zT := zt_mem 551 (by decide +kernel) (by decide +kernel)
theorem zm_552 : (Cond.code yR_weight prog_4_method_25_code 3 (some .int)) ∈ zT := zt_mem 552 (by decide +kernel) (by decide +kernel)
theorem zm_553 : (Cond.methodLink "ChangeSyncLaw" 103 yR_lacks) ∈ zT := zt_mem 553 (by decide +kernel) (by decide +kernel)
theorem zm_554 : (Cond.instanceMethod yR_lacks) ∈ zT := zt_mem 554 (by decide +kernel) (by decide +kernel)
theorem zm_555 : (Cond.selects "ChangeSyncModel" yR_lacks yR_lacks) ∈ zT := zt_mem 555 (by decide +kernel) (by decide +kernel)
theorem zm_556 : (Cond.code yR_lacks prog_4_method_27_code 2 (some .int)) ∈ zT := zt_mem 556 (by decide +kernel) (by decide +kernel)
theorem zm_557 : (Cond.methodLink "ChangeSyncModel" 125 yR_total) ∈ zT := zt_mem 557 (by decide +kernel) (by decide +kernel)
theorem zm_559 : (Cond.instanceMethod yR_total) ∈ zT := zt_mem 559 (by decide +kernel) (by decide +kernel)
theorem zm_560 : (Cond.code yR_total prog_4_method_26_code 3 (some .int)) ∈ zT := zt_mem 560 (by decide +kernel) (by decide +kernel)
theorem zm_561 : (Cond.methodLink "ChangeSyncLaw" 107 yR_look) ∈ zT := zt_mem 561 (by decide +kernel) (by decide +kernel)
theorem zm_562 : (Cond.instanceMethod yR_look) ∈ zT := zt_mem 562 (by decide +kernel) (by decide +kernel)
theorem zm_563 : (Cond.selects "ChangeSyncModel" yR_look yR_look) ∈ zT := zt_mem 563 (by decide +kernel) (by decide +kernel)
theorem zm_564 : (Cond.code yR_look prog_4_method_28_code 5 (some .int)) ∈ zT := zt_mem 564 (by decide +kernel) (by decide +kernel)
theorem zs_0 : Cond.selects "ChangeSync" yC_messageAt yC_messageAt ∈ zT := zt_sel 0 (by decide +kernel) (by decide +kernel)
theorem zs_1 : Cond.selects "ChangeSync" yC_takeOutOfFlight yC_takeOutOfFlight ∈ zT := zt_sel 1 (by decide +kernel) (by decide +kernel)
theorem zs_2 : Cond.selects "ChangeSync" yC_isReplica yC_isReplica ∈ zT := zt_sel 2 (by decide +kernel) (by decide +kernel)
theorem zs_3 : Cond.selects "ChangeSync" yC_madeBy yC_madeBy ∈ zT := zt_sel 3 (by decide +kernel) (by decide +kernel)
theorem zs_4 : Cond.selects "ChangeSync" yC_replicasWithAll yC_replicasWithAll ∈ zT := zt_sel 4 (by decide +kernel) (by decide +kernel)
theorem zs_5 : Cond.selects "ChangeSync" yC_madeByAll yC_madeByAll ∈ zT := zt_sel 5 (by decide +kernel) (by decide +kernel)
theorem zs_6 : Cond.selects "ChangeSync" yC_bytesInFlight yC_bytesInFlight ∈ zT := zt_sel 6 (by decide +kernel) (by decide +kernel)
theorem zs_7 : Cond.selects "java/lang/Throwable" ⟨"java/lang/Throwable", "fillInStackTrace", "(I)Ljava/lang/Throwable;"⟩ ⟨"java/lang/Throwable", "fillInStackTrace", "(I)Ljava/lang/Throwable;"⟩ ∈ zT := zt_sel 7 (by decide +kernel) (by decide +kernel)
theorem zs_8 : Cond.selects "ChangeSync" yC_comesToLog yC_comesToLog ∈ zT := zt_sel 8 (by decide +kernel) (by decide +kernel)
theorem zs_9 : Cond.selects "ChangeSync" yC_sendClock yC_sendClock ∈ zT := zt_sel 9 (by decide +kernel) (by decide +kernel)
theorem zs_10 : Cond.selects "ChangeSync" yC_countAsSent yC_countAsSent ∈ zT := zt_sel 10 (by decide +kernel) (by decide +kernel)
theorem zs_11 : Cond.selects "ChangeSync" yC_putInFlight yC_putInFlight ∈ zT := zt_sel 11 (by decide +kernel) (by decide +kernel)
theorem zs_12 : Cond.selects "ChangeSync" yC_answer yC_answer ∈ zT := zt_sel 12 (by decide +kernel) (by decide +kernel)
theorem zs_13 : Cond.selects "ChangeSync" yC_sendGathered yC_sendGathered ∈ zT := zt_sel 13 (by decide +kernel) (by decide +kernel)
theorem zs_14 : Cond.selects "ChangeSync" yC_takeChanges yC_takeChanges ∈ zT := zt_sel 14 (by decide +kernel) (by decide +kernel)
theorem zs_15 : Cond.selects "ChangeSyncModel" yR_isReplica yR_isReplica ∈ zT := zt_sel 15 (by decide +kernel) (by decide +kernel)
theorem zs_16 : Cond.selects "ChangeSyncModel" yR_enter yR_enter ∈ zT := zt_sel 16 (by decide +kernel) (by decide +kernel)
theorem zs_17 : Cond.selects "ChangeSyncModel" yR_clockOf yR_clockOf ∈ zT := zt_sel 17 (by decide +kernel) (by decide +kernel)
theorem zs_18 : Cond.selects "ChangeSyncModel" yR_reached yR_reached ∈ zT := zt_sel 18 (by decide +kernel) (by decide +kernel)
theorem zs_19 : Cond.selects "ChangeSyncModel" yR_send yR_send ∈ zT := zt_sel 19 (by decide +kernel) (by decide +kernel)
theorem zs_20 : Cond.selects "ChangeSyncModel" yR_isMessage yR_isMessage ∈ zT := zt_sel 20 (by decide +kernel) (by decide +kernel)
theorem zs_21 : Cond.selects "ChangeSyncModel" yR_remove yR_remove ∈ zT := zt_sel 21 (by decide +kernel) (by decide +kernel)
theorem zs_22 : Cond.selects "ChangeSyncModel" yR_answer yR_answer ∈ zT := zt_sel 22 (by decide +kernel) (by decide +kernel)
theorem zs_23 : Cond.selects "ChangeSyncModel" yR_weightOf yR_weightOf ∈ zT := zt_sel 23 (by decide +kernel) (by decide +kernel)
theorem zs_24 : Cond.selects "ChangeSyncModel" yR_take yR_take ∈ zT := zt_sel 24 (by decide +kernel) (by decide +kernel)
theorem zs_25 : Cond.selects "ChangeSyncModel" yR_bytesOf yR_bytesOf ∈ zT := zt_sel 25 (by decide +kernel) (by decide +kernel)
theorem zs_26 : Cond.selects "ChangeSyncModel" yR_total yR_total ∈ zT := zt_sel 26 (by decide +kernel) (by decide +kernel)
end
section
theorem dC_init_0 : decode bC_init 0 = .ok (.aload_n 0, 1) := by decide +kernel
theorem dC_init_1 : decode bC_init 1 = .ok (.invokespecial 1, 3) := by decide +kernel
theorem dC_init_4 : decode bC_init 4 = .ok (.aload_n 0, 1) := by decide +kernel
theorem dC_init_5 : decode bC_init 5 = .ok (.iconst 2, 1) := by decide +kernel
theorem dC_init_6 : decode bC_init 6 = .ok (.bipush 8, 2) := by decide +kernel
theorem dC_init_8 : decode bC_init 8 = .ok (.iload_n 1, 1) := by decide +kernel
theorem dC_init_9 : decode bC_init 9 = .ok (.invokestatic 9, 3) := by decide +kernel
theorem dC_init_12 : decode bC_init 12 = .ok (.invokestatic 15, 3) := by decide +kernel
theorem dC_init_15 : decode bC_init 15 = .ok (.putfield 18, 3) := by decide +kernel
theorem dC_init_18 : decode bC_init 18 = .ok (.aload_n 0, 1) := by decide +kernel
theorem dC_init_19 : decode bC_init 19 = .ok (.bipush 16, 2) := by decide +kernel
theorem dC_init_21 : decode bC_init 21 = .ok (.sipush 2000, 3) := by decide +kernel
theorem dC_init_24 : decode bC_init 24 = .ok (.iload_n 2, 1) := by decide +kernel
theorem dC_init_25 : decode bC_init 25 = .ok (.invokestatic 9, 3) := by decide +kernel
theorem dC_init_28 : decode bC_init 28 = .ok (.invokestatic 15, 3) := by decide +kernel
theorem dC_init_31 : decode bC_init 31 = .ok (.putfield 22, 3) := by decide +kernel
theorem dC_init_34 : decode bC_init 34 = .ok (.aload_n 0, 1) := by decide +kernel
theorem dC_init_35 : decode bC_init 35 = .ok (.getfield 18, 3) := by decide +kernel
theorem dC_init_38 : decode bC_init 38 = .ok (.bipush 60, 2) := by decide +kernel
theorem dC_init_40 : decode bC_init 40 = .ok (.imul, 1) := by decide +kernel
theorem dC_init_41 : decode bC_init 41 = .ok (.istore_n 3, 1) := by decide +kernel
theorem dC_init_42 : decode bC_init 42 = .ok (.aload_n 0, 1) := by decide +kernel
theorem dC_init_43 : decode bC_init 43 = .ok (.aload_n 0, 1) := by decide +kernel
theorem dC_init_44 : decode bC_init 44 = .ok (.getfield 18, 3) := by decide +kernel
theorem dC_init_47 : decode bC_init 47 = .ok (.newarray .boolean, 2) := by decide +kernel
theorem dC_init_49 : decode bC_init 49 = .ok (.putfield 25, 3) := by decide +kernel
theorem dC_init_52 : decode bC_init 52 = .ok (.aload_n 0, 1) := by decide +kernel
theorem dC_init_53 : decode bC_init 53 = .ok (.aload_n 0, 1) := by decide +kernel
theorem dC_init_54 : decode bC_init 54 = .ok (.getfield 18, 3) := by decide +kernel
theorem dC_init_57 : decode bC_init 57 = .ok (.newarray .long, 2) := by decide +kernel
theorem dC_init_59 : decode bC_init 59 = .ok (.putfield 29, 3) := by decide +kernel
theorem dC_init_62 : decode bC_init 62 = .ok (.aload_n 0, 1) := by decide +kernel
theorem dC_init_63 : decode bC_init 63 = .ok (.aload_n 0, 1) := by decide +kernel
theorem dC_init_64 : decode bC_init 64 = .ok (.getfield 18, 3) := by decide +kernel
theorem dC_init_67 : decode bC_init 67 = .ok (.iload_n 3, 1) := by decide +kernel
theorem dC_init_68 : decode bC_init 68 = .ok (.multianewarray 33 2, 4) := by decide +kernel
theorem dC_init_72 : decode bC_init 72 = .ok (.putfield 35, 3) := by decide +kernel
theorem dC_init_75 : decode bC_init 75 = .ok (.aload_n 0, 1) := by decide +kernel
theorem dC_init_76 : decode bC_init 76 = .ok (.aload_n 0, 1) := by decide +kernel
theorem dC_init_77 : decode bC_init 77 = .ok (.getfield 18, 3) := by decide +kernel
theorem dC_init_80 : decode bC_init 80 = .ok (.newarray .int, 2) := by decide +kernel
theorem dC_init_82 : decode bC_init 82 = .ok (.putfield 38, 3) := by decide +kernel
theorem dC_init_85 : decode bC_init 85 = .ok (.aload_n 0, 1) := by decide +kernel
theorem dC_init_86 : decode bC_init 86 = .ok (.aload_n 0, 1) := by decide +kernel
theorem dC_init_87 : decode bC_init 87 = .ok (.getfield 18, 3) := by decide +kernel
theorem dC_init_90 : decode bC_init 90 = .ok (.bipush 60, 2) := by decide +kernel
theorem dC_init_92 : decode bC_init 92 = .ok (.multianewarray 33 2, 4) := by decide +kernel
theorem dC_init_96 : decode bC_init 96 = .ok (.putfield 42, 3) := by decide +kernel
theorem dC_init_99 : decode bC_init 99 = .ok (.aload_n 0, 1) := by decide +kernel
theorem dC_init_100 : decode bC_init 100 = .ok (.bipush 120, 2) := by decide +kernel
theorem dC_init_102 : decode bC_init 102 = .ok (.anewarray 45, 3) := by decide +kernel
theorem dC_init_105 : decode bC_init 105 = .ok (.putfield 47, 3) := by decide +kernel
theorem dC_init_108 : decode bC_init 108 = .ok (.aload_n 0, 1) := by decide +kernel
theorem dC_init_109 : decode bC_init 109 = .ok (.iload_n 3, 1) := by decide +kernel
theorem dC_init_110 : decode bC_init 110 = .ok (.newarray .int, 2) := by decide +kernel
theorem dC_init_112 : decode bC_init 112 = .ok (.putfield 51, 3) := by decide +kernel
theorem dC_init_115 : decode bC_init 115 = .ok (.return_, 1) := by decide +kernel
theorem dC_lose_0 : decode bC_lose 0 = .ok (.aload_n 0, 1) := by decide +kernel
theorem dC_lose_1 : decode bC_lose 1 = .ok (.iload_n 1, 1) := by decide +kernel
theorem dC_lose_2 : decode bC_lose 2 = .ok (.invokevirtual 89, 3) := by decide +kernel
theorem dC_lose_5 : decode bC_lose 5 = .ok (.ifnonnull 5, 3) := by decide +kernel
theorem dC_lose_8 : decode bC_lose 8 = .ok (.iconst 0, 1) := by decide +kernel
theorem dC_lose_9 : decode bC_lose 9 = .ok (.ireturn, 1) := by decide +kernel
theorem dC_lose_10 : decode bC_lose 10 = .ok (.aload_n 0, 1) := by decide +kernel
theorem dC_lose_11 : decode bC_lose 11 = .ok (.iload_n 1, 1) := by decide +kernel
theorem dC_lose_12 : decode bC_lose 12 = .ok (.invokevirtual 95, 3) := by decide +kernel
theorem dC_lose_15 : decode bC_lose 15 = .ok (.aload_n 0, 1) := by decide +kernel
theorem dC_lose_16 : decode bC_lose 16 = .ok (.dup, 1) := by decide +kernel
theorem dC_lose_17 : decode bC_lose 17 = .ok (.getfield 116, 3) := by decide +kernel
theorem dC_lose_20 : decode bC_lose 20 = .ok (.iconst 1, 1) := by decide +kernel
theorem dC_lose_21 : decode bC_lose 21 = .ok (.iadd, 1) := by decide +kernel
theorem dC_lose_22 : decode bC_lose 22 = .ok (.putfield 116, 3) := by decide +kernel
theorem dC_lose_25 : decode bC_lose 25 = .ok (.iconst 1, 1) := by decide +kernel
theorem dC_lose_26 : decode bC_lose 26 = .ok (.ireturn, 1) := by decide +kernel
theorem dC_messageAt_0 : decode bC_messageAt 0 = .ok (.iload_n 1, 1) := by decide +kernel
theorem dC_messageAt_1 : decode bC_messageAt 1 = .ok (.ifCond .lt 20, 3) := by decide +kernel
theorem dC_messageAt_4 : decode bC_messageAt 4 = .ok (.iload_n 1, 1) := by decide +kernel
theorem dC_messageAt_5 : decode bC_messageAt 5 = .ok (.aload_n 0, 1) := by decide +kernel
theorem dC_messageAt_6 : decode bC_messageAt 6 = .ok (.getfield 156, 3) := by decide +kernel
theorem dC_messageAt_9 : decode bC_messageAt 9 = .ok (.if_icmp .ge 12, 3) := by decide +kernel
theorem dC_messageAt_12 : decode bC_messageAt 12 = .ok (.aload_n 0, 1) := by decide +kernel
theorem dC_messageAt_13 : decode bC_messageAt 13 = .ok (.getfield 47, 3) := by decide +kernel
theorem dC_messageAt_16 : decode bC_messageAt 16 = .ok (.iload_n 1, 1) := by decide +kernel
theorem dC_messageAt_17 : decode bC_messageAt 17 = .ok (.aaload, 1) := by decide +kernel
theorem dC_messageAt_18 : decode bC_messageAt 18 = .ok (.goto 4, 3) := by decide +kernel
theorem dC_messageAt_21 : decode bC_messageAt 21 = .ok (.aconst_null, 1) := by decide +kernel
theorem dC_messageAt_22 : decode bC_messageAt 22 = .ok (.areturn, 1) := by decide +kernel
theorem dC_takeOutOfFlight_0 : decode bC_takeOutOfFlight 0 = .ok (.iload_n 1, 1) := by decide +kernel
theorem dC_takeOutOfFlight_1 : decode bC_takeOutOfFlight 1 = .ok (.iconst 1, 1) := by decide +kernel
theorem dC_takeOutOfFlight_2 : decode bC_takeOutOfFlight 2 = .ok (.iadd, 1) := by decide +kernel
theorem dC_takeOutOfFlight_3 : decode bC_takeOutOfFlight 3 = .ok (.istore_n 2, 1) := by decide +kernel
theorem dC_takeOutOfFlight_4 : decode bC_takeOutOfFlight 4 = .ok (.iload_n 2, 1) := by decide +kernel
theorem dC_takeOutOfFlight_5 : decode bC_takeOutOfFlight 5 = .ok (.aload_n 0, 1) := by decide +kernel
theorem dC_takeOutOfFlight_6 : decode bC_takeOutOfFlight 6 = .ok (.getfield 156, 3) := by decide +kernel
theorem dC_takeOutOfFlight_9 : decode bC_takeOutOfFlight 9 = .ok (.if_icmp .ge 23, 3) := by decide +kernel
theorem dC_takeOutOfFlight_12 : decode bC_takeOutOfFlight 12 = .ok (.aload_n 0, 1) := by decide +kernel
theorem dC_takeOutOfFlight_13 : decode bC_takeOutOfFlight 13 = .ok (.getfield 47, 3) := by decide +kernel
theorem dC_takeOutOfFlight_16 : decode bC_takeOutOfFlight 16 = .ok (.iload_n 2, 1) := by decide +kernel
theorem dC_takeOutOfFlight_17 : decode bC_takeOutOfFlight 17 = .ok (.iconst 1, 1) := by decide +kernel
theorem dC_takeOutOfFlight_18 : decode bC_takeOutOfFlight 18 = .ok (.isub, 1) := by decide +kernel
theorem dC_takeOutOfFlight_19 : decode bC_takeOutOfFlight 19 = .ok (.aload_n 0, 1) := by decide +kernel
theorem dC_takeOutOfFlight_20 : decode bC_takeOutOfFlight 20 = .ok (.getfield 47, 3) := by decide +kernel
theorem dC_takeOutOfFlight_23 : decode bC_takeOutOfFlight 23 = .ok (.iload_n 2, 1) := by decide +kernel
theorem dC_takeOutOfFlight_24 : decode bC_takeOutOfFlight 24 = .ok (.aaload, 1) := by decide +kernel
theorem dC_takeOutOfFlight_25 : decode bC_takeOutOfFlight 25 = .ok (.aastore, 1) := by decide +kernel
theorem dC_takeOutOfFlight_26 : decode bC_takeOutOfFlight 26 = .ok (.iinc 2 1, 3) := by decide +kernel
theorem dC_takeOutOfFlight_29 : decode bC_takeOutOfFlight 29 = .ok (.goto (-25), 3) := by decide +kernel
theorem dC_takeOutOfFlight_32 : decode bC_takeOutOfFlight 32 = .ok (.aload_n 0, 1) := by decide +kernel
theorem dC_takeOutOfFlight_33 : decode bC_takeOutOfFlight 33 = .ok (.getfield 156, 3) := by decide +kernel
theorem dC_takeOutOfFlight_36 : decode bC_takeOutOfFlight 36 = .ok (.ifCond .le 23, 3) := by decide +kernel
theorem dC_takeOutOfFlight_39 : decode bC_takeOutOfFlight 39 = .ok (.aload_n 0, 1) := by decide +kernel
theorem dC_takeOutOfFlight_40 : decode bC_takeOutOfFlight 40 = .ok (.dup, 1) := by decide +kernel
theorem dC_takeOutOfFlight_41 : decode bC_takeOutOfFlight 41 = .ok (.getfield 156, 3) := by decide +kernel
theorem dC_takeOutOfFlight_44 : decode bC_takeOutOfFlight 44 = .ok (.iconst 1, 1) := by decide +kernel
theorem dC_takeOutOfFlight_45 : decode bC_takeOutOfFlight 45 = .ok (.isub, 1) := by decide +kernel
theorem dC_takeOutOfFlight_46 : decode bC_takeOutOfFlight 46 = .ok (.putfield 156, 3) := by decide +kernel
theorem dC_takeOutOfFlight_49 : decode bC_takeOutOfFlight 49 = .ok (.aload_n 0, 1) := by decide +kernel
theorem dC_takeOutOfFlight_50 : decode bC_takeOutOfFlight 50 = .ok (.getfield 47, 3) := by decide +kernel
theorem dC_takeOutOfFlight_53 : decode bC_takeOutOfFlight 53 = .ok (.aload_n 0, 1) := by decide +kernel
theorem dC_takeOutOfFlight_54 : decode bC_takeOutOfFlight 54 = .ok (.getfield 156, 3) := by decide +kernel
theorem dC_takeOutOfFlight_57 : decode bC_takeOutOfFlight 57 = .ok (.aconst_null, 1) := by decide +kernel
theorem dC_takeOutOfFlight_58 : decode bC_takeOutOfFlight 58 = .ok (.aastore, 1) := by decide +kernel
theorem dC_takeOutOfFlight_59 : decode bC_takeOutOfFlight 59 = .ok (.return_, 1) := by decide +kernel
theorem dC_up_0 : decode bC_up 0 = .ok (.aload_n 0, 1) := by decide +kernel
theorem dC_up_1 : decode bC_up 1 = .ok (.iload_n 1, 1) := by decide +kernel
theorem dC_up_2 : decode bC_up 2 = .ok (.invokevirtual 54, 3) := by decide +kernel
theorem dC_up_5 : decode bC_up 5 = .ok (.ifCond .eq 13, 3) := by decide +kernel
theorem dC_up_8 : decode bC_up 8 = .ok (.aload_n 0, 1) := by decide +kernel
theorem dC_up_9 : decode bC_up 9 = .ok (.getfield 25, 3) := by decide +kernel
theorem dC_up_12 : decode bC_up 12 = .ok (.iload_n 1, 1) := by decide +kernel
theorem dC_up_13 : decode bC_up 13 = .ok (.baload, 1) := by decide +kernel
theorem dC_up_14 : decode bC_up 14 = .ok (.iload_n 2, 1) := by decide +kernel
theorem dC_up_15 : decode bC_up 15 = .ok (.if_icmp .eq 5, 3) := by decide +kernel
theorem dC_up_18 : decode bC_up 18 = .ok (.iconst 0, 1) := by decide +kernel
theorem dC_up_19 : decode bC_up 19 = .ok (.ireturn, 1) := by decide +kernel
theorem dC_up_20 : decode bC_up 20 = .ok (.aload_n 0, 1) := by decide +kernel
theorem dC_up_21 : decode bC_up 21 = .ok (.getfield 25, 3) := by decide +kernel
theorem dC_up_24 : decode bC_up 24 = .ok (.iload_n 1, 1) := by decide +kernel
theorem dC_up_25 : decode bC_up 25 = .ok (.iload_n 2, 1) := by decide +kernel
theorem dC_up_26 : decode bC_up 26 = .ok (.ifCond .ne 7, 3) := by decide +kernel
theorem dC_up_29 : decode bC_up 29 = .ok (.iconst 1, 1) := by decide +kernel
theorem dC_up_30 : decode bC_up 30 = .ok (.goto 4, 3) := by decide +kernel
theorem dC_up_33 : decode bC_up 33 = .ok (.iconst 0, 1) := by decide +kernel
theorem dC_up_34 : decode bC_up 34 = .ok (.bastore, 1) := by decide +kernel
theorem dC_up_35 : decode bC_up 35 = .ok (.iconst 1, 1) := by decide +kernel
theorem dC_up_36 : decode bC_up 36 = .ok (.ireturn, 1) := by decide +kernel
theorem dC_isReplica_0 : decode bC_isReplica 0 = .ok (.iload_n 1, 1) := by decide +kernel
theorem dC_isReplica_1 : decode bC_isReplica 1 = .ok (.ifCond .lt 15, 3) := by decide +kernel
theorem dC_isReplica_4 : decode bC_isReplica 4 = .ok (.iload_n 1, 1) := by decide +kernel
theorem dC_isReplica_5 : decode bC_isReplica 5 = .ok (.aload_n 0, 1) := by decide +kernel
theorem dC_isReplica_6 : decode bC_isReplica 6 = .ok (.getfield 18, 3) := by decide +kernel
theorem dC_isReplica_9 : decode bC_isReplica 9 = .ok (.if_icmp .ge 7, 3) := by decide +kernel
theorem dC_isReplica_12 : decode bC_isReplica 12 = .ok (.iconst 1, 1) := by decide +kernel
theorem dC_isReplica_13 : decode bC_isReplica 13 = .ok (.goto 4, 3) := by decide +kernel
theorem dC_isReplica_16 : decode bC_isReplica 16 = .ok (.iconst 0, 1) := by decide +kernel
theorem dC_isReplica_17 : decode bC_isReplica 17 = .ok (.ireturn, 1) := by decide +kernel
theorem dC_inside_0 : decode bC_inside 0 = .ok (.aload_n 0, 1) := by decide +kernel
theorem dC_inside_1 : decode bC_inside 1 = .ok (.iload_n 1, 1) := by decide +kernel
theorem dC_inside_2 : decode bC_inside 2 = .ok (.invokevirtual 89, 3) := by decide +kernel
theorem dC_inside_5 : decode bC_inside 5 = .ok (.astore_n 3, 1) := by decide +kernel
theorem dC_inside_6 : decode bC_inside 6 = .ok (.aload_n 3, 1) := by decide +kernel
theorem dC_inside_7 : decode bC_inside 7 = .ok (.ifnull 16, 3) := by decide +kernel
theorem dC_inside_10 : decode bC_inside 10 = .ok (.iload_n 2, 1) := by decide +kernel
theorem dC_inside_11 : decode bC_inside 11 = .ok (.ifCond .lt 12, 3) := by decide +kernel
theorem dC_inside_14 : decode bC_inside 14 = .ok (.iload_n 2, 1) := by decide +kernel
theorem dC_inside_15 : decode bC_inside 15 = .ok (.aload_n 3, 1) := by decide +kernel
theorem dC_inside_16 : decode bC_inside 16 = .ok (.getfield 135, 3) := by decide +kernel
theorem dC_inside_19 : decode bC_inside 19 = .ok (.arraylength, 1) := by decide +kernel
theorem dC_inside_20 : decode bC_inside 20 = .ok (.if_icmp .lt 5, 3) := by decide +kernel
theorem dC_inside_23 : decode bC_inside 23 = .ok (.iconst (-1), 1) := by decide +kernel
theorem dC_inside_24 : decode bC_inside 24 = .ok (.ireturn, 1) := by decide +kernel
theorem dC_inside_25 : decode bC_inside 25 = .ok (.aload_n 3, 1) := by decide +kernel
theorem dC_inside_26 : decode bC_inside 26 = .ok (.getfield 135, 3) := by decide +kernel
theorem dC_inside_29 : decode bC_inside 29 = .ok (.iload_n 2, 1) := by decide +kernel
theorem dC_inside_30 : decode bC_inside 30 = .ok (.iaload, 1) := by decide +kernel
theorem dC_inside_31 : decode bC_inside 31 = .ok (.ireturn, 1) := by decide +kernel
theorem dC_told_0 : decode bC_told 0 = .ok (.aload_n 0, 1) := by decide +kernel
theorem dC_told_1 : decode bC_told 1 = .ok (.iload_n 1, 1) := by decide +kernel
theorem dC_told_2 : decode bC_told 2 = .ok (.invokevirtual 89, 3) := by decide +kernel
theorem dC_told_5 : decode bC_told 5 = .ok (.astore_n 2, 1) := by decide +kernel
theorem dC_told_6 : decode bC_told 6 = .ok (.aload_n 2, 1) := by decide +kernel
theorem dC_told_7 : decode bC_told 7 = .ok (.ifnonnull 9, 3) := by decide +kernel
theorem dC_told_10 : decode bC_told 10 = .ok (.ldc2_w 150, 3) := by decide +kernel
theorem dC_told_13 : decode bC_told 13 = .ok (.goto 7, 3) := by decide +kernel
theorem dC_told_16 : decode bC_told 16 = .ok (.aload_n 2, 1) := by decide +kernel
theorem dC_told_17 : decode bC_told 17 = .ok (.getfield 131, 3) := by decide +kernel
theorem dC_told_20 : decode bC_told 20 = .ok (.lreturn, 1) := by decide +kernel
theorem dC_log_0 : decode bC_log 0 = .ok (.aload_n 0, 1) := by decide +kernel
theorem dC_log_1 : decode bC_log 1 = .ok (.iload_n 1, 1) := by decide +kernel
theorem dC_log_2 : decode bC_log 2 = .ok (.invokevirtual 54, 3) := by decide +kernel
theorem dC_log_5 : decode bC_log 5 = .ok (.ifCond .eq 17, 3) := by decide +kernel
theorem dC_log_8 : decode bC_log 8 = .ok (.iload_n 2, 1) := by decide +kernel
theorem dC_log_9 : decode bC_log 9 = .ok (.ifCond .lt 13, 3) := by decide +kernel
theorem dC_log_12 : decode bC_log 12 = .ok (.iload_n 2, 1) := by decide +kernel
theorem dC_log_13 : decode bC_log 13 = .ok (.aload_n 0, 1) := by decide +kernel
theorem dC_log_14 : decode bC_log 14 = .ok (.getfield 38, 3) := by decide +kernel
theorem dC_log_17 : decode bC_log 17 = .ok (.iload_n 1, 1) := by decide +kernel
theorem dC_log_18 : decode bC_log 18 = .ok (.iaload, 1) := by decide +kernel
theorem dC_log_19 : decode bC_log 19 = .ok (.if_icmp .lt 5, 3) := by decide +kernel
theorem dC_log_22 : decode bC_log 22 = .ok (.iconst (-1), 1) := by decide +kernel
theorem dC_log_23 : decode bC_log 23 = .ok (.ireturn, 1) := by decide +kernel
theorem dC_log_24 : decode bC_log 24 = .ok (.aload_n 0, 1) := by decide +kernel
theorem dC_log_25 : decode bC_log 25 = .ok (.getfield 35, 3) := by decide +kernel
theorem dC_log_28 : decode bC_log 28 = .ok (.iload_n 1, 1) := by decide +kernel
theorem dC_log_29 : decode bC_log 29 = .ok (.aaload, 1) := by decide +kernel
theorem dC_log_30 : decode bC_log 30 = .ok (.iload_n 2, 1) := by decide +kernel
theorem dC_log_31 : decode bC_log 31 = .ok (.iaload, 1) := by decide +kernel
theorem dC_log_32 : decode bC_log 32 = .ok (.ireturn, 1) := by decide +kernel
theorem dC_weight_0 : decode bC_weight 0 = .ok (.aload_n 0, 1) := by decide +kernel
theorem dC_weight_1 : decode bC_weight 1 = .ok (.iload_n 1, 1) := by decide +kernel
theorem dC_weight_2 : decode bC_weight 2 = .ok (.invokevirtual 54, 3) := by decide +kernel
theorem dC_weight_5 : decode bC_weight 5 = .ok (.ifCond .eq 17, 3) := by decide +kernel
theorem dC_weight_8 : decode bC_weight 8 = .ok (.iload_n 2, 1) := by decide +kernel
theorem dC_weight_9 : decode bC_weight 9 = .ok (.iconst 1, 1) := by decide +kernel
theorem dC_weight_10 : decode bC_weight 10 = .ok (.if_icmp .lt 12, 3) := by decide +kernel
theorem dC_weight_13 : decode bC_weight 13 = .ok (.iload_n 2, 1) := by decide +kernel
theorem dC_weight_14 : decode bC_weight 14 = .ok (.aload_n 0, 1) := by decide +kernel
theorem dC_weight_15 : decode bC_weight 15 = .ok (.iload_n 1, 1) := by decide +kernel
theorem dC_weight_16 : decode bC_weight 16 = .ok (.invokevirtual 70, 3) := by decide +kernel
theorem dC_weight_19 : decode bC_weight 19 = .ok (.if_icmp .le 5, 3) := by decide +kernel
theorem dC_weight_22 : decode bC_weight 22 = .ok (.iconst (-1), 1) := by decide +kernel
theorem dC_weight_23 : decode bC_weight 23 = .ok (.ireturn, 1) := by decide +kernel
theorem dC_weight_24 : decode bC_weight 24 = .ok (.aload_n 0, 1) := by decide +kernel
theorem dC_weight_25 : decode bC_weight 25 = .ok (.getfield 42, 3) := by decide +kernel
theorem dC_weight_28 : decode bC_weight 28 = .ok (.iload_n 1, 1) := by decide +kernel
theorem dC_weight_29 : decode bC_weight 29 = .ok (.aaload, 1) := by decide +kernel
theorem dC_weight_30 : decode bC_weight 30 = .ok (.iload_n 2, 1) := by decide +kernel
theorem dC_weight_31 : decode bC_weight 31 = .ok (.iconst 1, 1) := by decide +kernel
theorem dC_weight_32 : decode bC_weight 32 = .ok (.isub, 1) := by decide +kernel
theorem dC_weight_33 : decode bC_weight 33 = .ok (.iaload, 1) := by decide +kernel
theorem dC_weight_34 : decode bC_weight 34 = .ok (.ireturn, 1) := by decide +kernel
theorem dC_madeBy_0 : decode bC_madeBy 0 = .ok (.aload_n 0, 1) := by decide +kernel
theorem dC_madeBy_1 : decode bC_madeBy 1 = .ok (.getfield 29, 3) := by decide +kernel
theorem dC_madeBy_4 : decode bC_madeBy 4 = .ok (.iload_n 1, 1) := by decide +kernel
theorem dC_madeBy_5 : decode bC_madeBy 5 = .ok (.laload, 1) := by decide +kernel
theorem dC_madeBy_6 : decode bC_madeBy 6 = .ok (.iload_n 1, 1) := by decide +kernel
theorem dC_madeBy_7 : decode bC_madeBy 7 = .ok (.invokestatic 168, 3) := by decide +kernel
theorem dC_madeBy_10 : decode bC_madeBy 10 = .ok (.ireturn, 1) := by decide +kernel
theorem dC_countIn_0 : decode bC_countIn 0 = .ok (.lload_n 0, 1) := by decide +kernel
theorem dC_countIn_1 : decode bC_countIn 1 = .ok (.bipush 8, 2) := by decide +kernel
theorem dC_countIn_3 : decode bC_countIn 3 = .ok (.iload_n 2, 1) := by decide +kernel
theorem dC_countIn_4 : decode bC_countIn 4 = .ok (.imul, 1) := by decide +kernel
theorem dC_countIn_5 : decode bC_countIn 5 = .ok (.lushr, 1) := by decide +kernel
theorem dC_countIn_6 : decode bC_countIn 6 = .ok (.l2i, 1) := by decide +kernel
theorem dC_countIn_7 : decode bC_countIn 7 = .ok (.sipush 255, 3) := by decide +kernel
theorem dC_countIn_10 : decode bC_countIn 10 = .ok (.iand, 1) := by decide +kernel
theorem dC_countIn_11 : decode bC_countIn 11 = .ok (.ireturn, 1) := by decide +kernel
theorem dC_look_0 : decode bC_look 0 = .ok (.iload_n 1, 1) := by decide +kernel
theorem dC_look_1 : decode bC_look 1 = .ok (.tableswitch 96 0 8 #[51, 56, 61, 66, 71, 76, 81, 86, 91], 51) := by decide +kernel
theorem dC_look_52 : decode bC_look 52 = .ok (.aload_n 0, 1) := by decide +kernel
theorem dC_look_53 : decode bC_look 53 = .ok (.getfield 18, 3) := by decide +kernel
theorem dC_look_56 : decode bC_look 56 = .ok (.ireturn, 1) := by decide +kernel
theorem dC_look_57 : decode bC_look 57 = .ok (.aload_n 0, 1) := by decide +kernel
theorem dC_look_58 : decode bC_look 58 = .ok (.getfield 22, 3) := by decide +kernel
theorem dC_look_61 : decode bC_look 61 = .ok (.ireturn, 1) := by decide +kernel
theorem dC_look_62 : decode bC_look 62 = .ok (.aload_n 0, 1) := by decide +kernel
theorem dC_look_63 : decode bC_look 63 = .ok (.getfield 156, 3) := by decide +kernel
theorem dC_look_66 : decode bC_look 66 = .ok (.ireturn, 1) := by decide +kernel
theorem dC_look_67 : decode bC_look 67 = .ok (.aload_n 0, 1) := by decide +kernel
theorem dC_look_68 : decode bC_look 68 = .ok (.getfield 119, 3) := by decide +kernel
theorem dC_look_71 : decode bC_look 71 = .ok (.ireturn, 1) := by decide +kernel
theorem dC_look_72 : decode bC_look 72 = .ok (.aload_n 0, 1) := by decide +kernel
theorem dC_look_73 : decode bC_look 73 = .ok (.getfield 116, 3) := by decide +kernel
theorem dC_look_76 : decode bC_look 76 = .ok (.ireturn, 1) := by decide +kernel
theorem dC_look_77 : decode bC_look 77 = .ok (.aload_n 0, 1) := by decide +kernel
theorem dC_look_78 : decode bC_look 78 = .ok (.getfield 102, 3) := by decide +kernel
theorem dC_look_81 : decode bC_look 81 = .ok (.ireturn, 1) := by decide +kernel
theorem dC_look_82 : decode bC_look 82 = .ok (.aload_n 0, 1) := by decide +kernel
theorem dC_look_83 : decode bC_look 83 = .ok (.getfield 159, 3) := by decide +kernel
theorem dC_look_86 : decode bC_look 86 = .ok (.ireturn, 1) := by decide +kernel
theorem dC_look_87 : decode bC_look 87 = .ok (.aload_n 0, 1) := by decide +kernel
theorem dC_look_88 : decode bC_look 88 = .ok (.invokevirtual 162, 3) := by decide +kernel
theorem dC_look_91 : decode bC_look 91 = .ok (.ireturn, 1) := by decide +kernel
theorem dC_look_92 : decode bC_look 92 = .ok (.aload_n 0, 1) := by decide +kernel
theorem dC_look_93 : decode bC_look 93 = .ok (.invokevirtual 165, 3) := by decide +kernel
theorem dC_look_96 : decode bC_look 96 = .ok (.ireturn, 1) := by decide +kernel
theorem dC_look_97 : decode bC_look 97 = .ok (.iconst (-1), 1) := by decide +kernel
theorem dC_look_98 : decode bC_look 98 = .ok (.ireturn, 1) := by decide +kernel
theorem dC_replicasWithAll_0 : decode bC_replicasWithAll 0 = .ok (.aload_n 0, 1) := by decide +kernel
theorem dC_replicasWithAll_1 : decode bC_replicasWithAll 1 = .ok (.invokevirtual 152, 3) := by decide +kernel
theorem dC_replicasWithAll_4 : decode bC_replicasWithAll 4 = .ok (.istore_n 1, 1) := by decide +kernel
theorem dC_replicasWithAll_5 : decode bC_replicasWithAll 5 = .ok (.iconst 0, 1) := by decide +kernel
theorem dC_replicasWithAll_6 : decode bC_replicasWithAll 6 = .ok (.istore_n 2, 1) := by decide +kernel
theorem dC_replicasWithAll_7 : decode bC_replicasWithAll 7 = .ok (.iconst 0, 1) := by decide +kernel
theorem dC_replicasWithAll_8 : decode bC_replicasWithAll 8 = .ok (.istore_n 3, 1) := by decide +kernel
theorem dC_replicasWithAll_9 : decode bC_replicasWithAll 9 = .ok (.iload_n 3, 1) := by decide +kernel
theorem dC_replicasWithAll_10 : decode bC_replicasWithAll 10 = .ok (.aload_n 0, 1) := by decide +kernel
theorem dC_replicasWithAll_11 : decode bC_replicasWithAll 11 = .ok (.getfield 18, 3) := by decide +kernel
theorem dC_replicasWithAll_14 : decode bC_replicasWithAll 14 = .ok (.if_icmp .ge 22, 3) := by decide +kernel
theorem dC_replicasWithAll_17 : decode bC_replicasWithAll 17 = .ok (.aload_n 0, 1) := by decide +kernel
theorem dC_replicasWithAll_18 : decode bC_replicasWithAll 18 = .ok (.getfield 38, 3) := by decide +kernel
theorem dC_replicasWithAll_21 : decode bC_replicasWithAll 21 = .ok (.iload_n 3, 1) := by decide +kernel
theorem dC_replicasWithAll_22 : decode bC_replicasWithAll 22 = .ok (.iaload, 1) := by decide +kernel
theorem dC_replicasWithAll_23 : decode bC_replicasWithAll 23 = .ok (.iload_n 1, 1) := by decide +kernel
theorem dC_replicasWithAll_24 : decode bC_replicasWithAll 24 = .ok (.if_icmp .ne 6, 3) := by decide +kernel
theorem dC_replicasWithAll_27 : decode bC_replicasWithAll 27 = .ok (.iinc 2 1, 3) := by decide +kernel
theorem dC_replicasWithAll_30 : decode bC_replicasWithAll 30 = .ok (.iinc 3 1, 3) := by decide +kernel
theorem dC_replicasWithAll_33 : decode bC_replicasWithAll 33 = .ok (.goto (-24), 3) := by decide +kernel
theorem dC_replicasWithAll_36 : decode bC_replicasWithAll 36 = .ok (.iload_n 2, 1) := by decide +kernel
theorem dC_replicasWithAll_37 : decode bC_replicasWithAll 37 = .ok (.ireturn, 1) := by decide +kernel
theorem dC_madeByAll_0 : decode bC_madeByAll 0 = .ok (.iconst 0, 1) := by decide +kernel
theorem dC_madeByAll_1 : decode bC_madeByAll 1 = .ok (.istore_n 1, 1) := by decide +kernel
theorem dC_madeByAll_2 : decode bC_madeByAll 2 = .ok (.iconst 0, 1) := by decide +kernel
theorem dC_madeByAll_3 : decode bC_madeByAll 3 = .ok (.istore_n 2, 1) := by decide +kernel
theorem dC_madeByAll_4 : decode bC_madeByAll 4 = .ok (.iload_n 2, 1) := by decide +kernel
theorem dC_madeByAll_5 : decode bC_madeByAll 5 = .ok (.aload_n 0, 1) := by decide +kernel
theorem dC_madeByAll_6 : decode bC_madeByAll 6 = .ok (.getfield 18, 3) := by decide +kernel
theorem dC_madeByAll_9 : decode bC_madeByAll 9 = .ok (.if_icmp .ge 17, 3) := by decide +kernel
theorem dC_madeByAll_12 : decode bC_madeByAll 12 = .ok (.iload_n 1, 1) := by decide +kernel
theorem dC_madeByAll_13 : decode bC_madeByAll 13 = .ok (.aload_n 0, 1) := by decide +kernel
theorem dC_madeByAll_14 : decode bC_madeByAll 14 = .ok (.iload_n 2, 1) := by decide +kernel
theorem dC_madeByAll_15 : decode bC_madeByAll 15 = .ok (.invokevirtual 70, 3) := by decide +kernel
theorem dC_madeByAll_18 : decode bC_madeByAll 18 = .ok (.iadd, 1) := by decide +kernel
theorem dC_madeByAll_19 : decode bC_madeByAll 19 = .ok (.istore_n 1, 1) := by decide +kernel
theorem dC_madeByAll_20 : decode bC_madeByAll 20 = .ok (.iinc 2 1, 3) := by decide +kernel
theorem dC_madeByAll_23 : decode bC_madeByAll 23 = .ok (.goto (-19), 3) := by decide +kernel
theorem dC_madeByAll_26 : decode bC_madeByAll 26 = .ok (.iload_n 1, 1) := by decide +kernel
theorem dC_madeByAll_27 : decode bC_madeByAll 27 = .ok (.ireturn, 1) := by decide +kernel
theorem dC_bytesInFlight_0 : decode bC_bytesInFlight 0 = .ok (.iconst 0, 1) := by decide +kernel
theorem dC_bytesInFlight_1 : decode bC_bytesInFlight 1 = .ok (.istore_n 1, 1) := by decide +kernel
theorem dC_bytesInFlight_2 : decode bC_bytesInFlight 2 = .ok (.iconst 0, 1) := by decide +kernel
theorem dC_bytesInFlight_3 : decode bC_bytesInFlight 3 = .ok (.istore_n 2, 1) := by decide +kernel
theorem dC_bytesInFlight_4 : decode bC_bytesInFlight 4 = .ok (.iload_n 2, 1) := by decide +kernel
theorem dC_bytesInFlight_5 : decode bC_bytesInFlight 5 = .ok (.aload_n 0, 1) := by decide +kernel
theorem dC_bytesInFlight_6 : decode bC_bytesInFlight 6 = .ok (.getfield 156, 3) := by decide +kernel
theorem dC_bytesInFlight_9 : decode bC_bytesInFlight 9 = .ok (.if_icmp .ge 26, 3) := by decide +kernel
theorem dC_bytesInFlight_12 : decode bC_bytesInFlight 12 = .ok (.aload_n 0, 1) := by decide +kernel
theorem dC_bytesInFlight_13 : decode bC_bytesInFlight 13 = .ok (.iload_n 2, 1) := by decide +kernel
theorem dC_bytesInFlight_14 : decode bC_bytesInFlight 14 = .ok (.invokevirtual 89, 3) := by decide +kernel
theorem dC_bytesInFlight_17 : decode bC_bytesInFlight 17 = .ok (.astore_n 3, 1) := by decide +kernel
theorem dC_bytesInFlight_18 : decode bC_bytesInFlight 18 = .ok (.aload_n 3, 1) := by decide +kernel
theorem dC_bytesInFlight_19 : decode bC_bytesInFlight 19 = .ok (.ifnull 10, 3) := by decide +kernel
theorem dC_bytesInFlight_22 : decode bC_bytesInFlight 22 = .ok (.iload_n 1, 1) := by decide +kernel
theorem dC_bytesInFlight_23 : decode bC_bytesInFlight 23 = .ok (.aload_n 3, 1) := by decide +kernel
theorem dC_bytesInFlight_24 : decode bC_bytesInFlight 24 = .ok (.getfield 128, 3) := by decide +kernel
theorem dC_bytesInFlight_27 : decode bC_bytesInFlight 27 = .ok (.iadd, 1) := by decide +kernel
theorem dC_bytesInFlight_28 : decode bC_bytesInFlight 28 = .ok (.istore_n 1, 1) := by decide +kernel
theorem dC_bytesInFlight_29 : decode bC_bytesInFlight 29 = .ok (.iinc 2 1, 3) := by decide +kernel
theorem dC_bytesInFlight_32 : decode bC_bytesInFlight 32 = .ok (.goto (-28), 3) := by decide +kernel
theorem dC_bytesInFlight_35 : decode bC_bytesInFlight 35 = .ok (.iload_n 1, 1) := by decide +kernel
theorem dC_bytesInFlight_36 : decode bC_bytesInFlight 36 = .ok (.ireturn, 1) := by decide +kernel
theorem dC_make_0 : decode bC_make 0 = .ok (.aload_n 0, 1) := by decide +kernel
theorem dC_make_1 : decode bC_make 1 = .ok (.iload_n 1, 1) := by decide +kernel
theorem dC_make_2 : decode bC_make 2 = .ok (.invokevirtual 54, 3) := by decide +kernel
theorem dC_make_5 : decode bC_make 5 = .ok (.ifCond .ne 13, 3) := by decide +kernel
theorem dC_make_8 : decode bC_make 8 = .ok (.new 58, 3) := by decide +kernel
theorem dC_make_11 : decode bC_make 11 = .ok (.dup, 1) := by decide +kernel
theorem dC_make_12 : decode bC_make 12 = .ok (.ldc 60, 2) := by decide +kernel
theorem dC_make_14 : decode bC_make 14 = .ok (.invokespecial 62, 3) := by decide +kernel
theorem dC_make_17 : decode bC_make 17 = .ok (.athrow, 1) := by decide +kernel
theorem dC_make_18 : decode bC_make 18 = .ok (.iload_n 2, 1) := by decide +kernel
theorem dC_make_19 : decode bC_make 19 = .ok (.iconst 1, 1) := by decide +kernel
theorem dC_make_20 : decode bC_make 20 = .ok (.if_icmp .lt 10, 3) := by decide +kernel
theorem dC_make_23 : decode bC_make 23 = .ok (.iload_n 2, 1) := by decide +kernel
theorem dC_make_24 : decode bC_make 24 = .ok (.sipush 400, 3) := by decide +kernel
theorem dC_make_27 : decode bC_make 27 = .ok (.if_icmp .le 13, 3) := by decide +kernel
theorem dC_make_30 : decode bC_make 30 = .ok (.new 65, 3) := by decide +kernel
theorem dC_make_33 : decode bC_make 33 = .ok (.dup, 1) := by decide +kernel
theorem dC_make_34 : decode bC_make 34 = .ok (.ldc 67, 2) := by decide +kernel
theorem dC_make_36 : decode bC_make 36 = .ok (.invokespecial 69, 3) := by decide +kernel
theorem dC_make_39 : decode bC_make 39 = .ok (.athrow, 1) := by decide +kernel
theorem dC_make_40 : decode bC_make 40 = .ok (.aload_n 0, 1) := by decide +kernel
theorem dC_make_41 : decode bC_make 41 = .ok (.iload_n 1, 1) := by decide +kernel
theorem dC_make_42 : decode bC_make 42 = .ok (.invokevirtual 70, 3) := by decide +kernel
theorem dC_make_45 : decode bC_make 45 = .ok (.istore_n 3, 1) := by decide +kernel
theorem dC_make_46 : decode bC_make 46 = .ok (.aload_n 0, 1) := by decide +kernel
theorem dC_make_47 : decode bC_make 47 = .ok (.getfield 25, 3) := by decide +kernel
theorem dC_make_50 : decode bC_make 50 = .ok (.iload_n 1, 1) := by decide +kernel
theorem dC_make_51 : decode bC_make 51 = .ok (.baload, 1) := by decide +kernel
theorem dC_make_52 : decode bC_make 52 = .ok (.ifCond .ne 9, 3) := by decide +kernel
theorem dC_make_55 : decode bC_make 55 = .ok (.iload_n 3, 1) := by decide +kernel
theorem dC_make_56 : decode bC_make 56 = .ok (.bipush 60, 2) := by decide +kernel
theorem dC_make_58 : decode bC_make 58 = .ok (.if_icmp .lt 13, 3) := by decide +kernel
theorem dC_make_61 : decode bC_make 61 = .ok (.new 74, 3) := by decide +kernel
theorem dC_make_64 : decode bC_make 64 = .ok (.dup, 1) := by decide +kernel
theorem dC_make_65 : decode bC_make 65 = .ok (.ldc 76, 2) := by decide +kernel
theorem dC_make_67 : decode bC_make 67 = .ok (.invokespecial 78, 3) := by decide +kernel
theorem dC_make_70 : decode bC_make 70 = .ok (.athrow, 1) := by decide +kernel
theorem dC_make_71 : decode bC_make 71 = .ok (.iload_n 3, 1) := by decide +kernel
theorem dC_make_72 : decode bC_make 72 = .ok (.iconst 1, 1) := by decide +kernel
theorem dC_make_73 : decode bC_make 73 = .ok (.iadd, 1) := by decide +kernel
theorem dC_make_74 : decode bC_make 74 = .ok (.istore 4, 2) := by decide +kernel
theorem dC_make_76 : decode bC_make 76 = .ok (.aload_n 0, 1) := by decide +kernel
theorem dC_make_77 : decode bC_make 77 = .ok (.getfield 42, 3) := by decide +kernel
theorem dC_make_80 : decode bC_make 80 = .ok (.iload_n 1, 1) := by decide +kernel
theorem dC_make_81 : decode bC_make 81 = .ok (.aaload, 1) := by decide +kernel
theorem dC_make_82 : decode bC_make 82 = .ok (.iload_n 3, 1) := by decide +kernel
theorem dC_make_83 : decode bC_make 83 = .ok (.iload_n 2, 1) := by decide +kernel
theorem dC_make_84 : decode bC_make 84 = .ok (.iastore, 1) := by decide +kernel
theorem dC_make_85 : decode bC_make 85 = .ok (.aload_n 0, 1) := by decide +kernel
theorem dC_make_86 : decode bC_make 86 = .ok (.iload_n 1, 1) := by decide +kernel
theorem dC_make_87 : decode bC_make 87 = .ok (.iload_n 1, 1) := by decide +kernel
theorem dC_make_88 : decode bC_make 88 = .ok (.bipush 8, 2) := by decide +kernel
theorem dC_make_90 : decode bC_make 90 = .ok (.iload 4, 2) := by decide +kernel
theorem dC_make_92 : decode bC_make 92 = .ok (.imul, 1) := by decide +kernel
theorem dC_make_93 : decode bC_make 93 = .ok (.iadd, 1) := by decide +kernel
theorem dC_make_94 : decode bC_make 94 = .ok (.invokevirtual 79, 3) := by decide +kernel
theorem dC_make_97 : decode bC_make 97 = .ok (.pop, 1) := by decide +kernel
theorem dC_make_98 : decode bC_make 98 = .ok (.iload 4, 2) := by decide +kernel
theorem dC_make_100 : decode bC_make 100 = .ok (.ireturn, 1) := by decide +kernel
theorem dC_comesToLog_0 : decode bC_comesToLog 0 = .ok (.iload_n 2, 1) := by decide +kernel
theorem dC_comesToLog_1 : decode bC_comesToLog 1 = .ok (.invokestatic 172, 3) := by decide +kernel
theorem dC_comesToLog_4 : decode bC_comesToLog 4 = .ok (.istore_n 3, 1) := by decide +kernel
theorem dC_comesToLog_5 : decode bC_comesToLog 5 = .ok (.aload_n 0, 1) := by decide +kernel
theorem dC_comesToLog_6 : decode bC_comesToLog 6 = .ok (.getfield 38, 3) := by decide +kernel
theorem dC_comesToLog_9 : decode bC_comesToLog 9 = .ok (.iload_n 1, 1) := by decide +kernel
theorem dC_comesToLog_10 : decode bC_comesToLog 10 = .ok (.iaload, 1) := by decide +kernel
theorem dC_comesToLog_11 : decode bC_comesToLog 11 = .ok (.istore 4, 2) := by decide +kernel
theorem dC_comesToLog_13 : decode bC_comesToLog 13 = .ok (.iload_n 2, 1) := by decide +kernel
theorem dC_comesToLog_14 : decode bC_comesToLog 14 = .ok (.invokestatic 175, 3) := by decide +kernel
theorem dC_comesToLog_17 : decode bC_comesToLog 17 = .ok (.aload_n 0, 1) := by decide +kernel
theorem dC_comesToLog_18 : decode bC_comesToLog 18 = .ok (.getfield 29, 3) := by decide +kernel
theorem dC_comesToLog_21 : decode bC_comesToLog 21 = .ok (.iload_n 1, 1) := by decide +kernel
theorem dC_comesToLog_22 : decode bC_comesToLog 22 = .ok (.laload, 1) := by decide +kernel
theorem dC_comesToLog_23 : decode bC_comesToLog 23 = .ok (.iload_n 3, 1) := by decide +kernel
theorem dC_comesToLog_24 : decode bC_comesToLog 24 = .ok (.invokestatic 168, 3) := by decide +kernel
theorem dC_comesToLog_27 : decode bC_comesToLog 27 = .ok (.iconst 1, 1) := by decide +kernel
theorem dC_comesToLog_28 : decode bC_comesToLog 28 = .ok (.iadd, 1) := by decide +kernel
theorem dC_comesToLog_29 : decode bC_comesToLog 29 = .ok (.if_icmp .ne 15, 3) := by decide +kernel
theorem dC_comesToLog_32 : decode bC_comesToLog 32 = .ok (.iload 4, 2) := by decide +kernel
theorem dC_comesToLog_34 : decode bC_comesToLog 34 = .ok (.aload_n 0, 1) := by decide +kernel
theorem dC_comesToLog_35 : decode bC_comesToLog 35 = .ok (.getfield 35, 3) := by decide +kernel
theorem dC_comesToLog_38 : decode bC_comesToLog 38 = .ok (.iload_n 1, 1) := by decide +kernel
theorem dC_comesToLog_39 : decode bC_comesToLog 39 = .ok (.aaload, 1) := by decide +kernel
theorem dC_comesToLog_40 : decode bC_comesToLog 40 = .ok (.arraylength, 1) := by decide +kernel
theorem dC_comesToLog_41 : decode bC_comesToLog 41 = .ok (.if_icmp .lt 5, 3) := by decide +kernel
theorem dC_comesToLog_44 : decode bC_comesToLog 44 = .ok (.iconst 0, 1) := by decide +kernel
theorem dC_comesToLog_45 : decode bC_comesToLog 45 = .ok (.ireturn, 1) := by decide +kernel
theorem dC_comesToLog_46 : decode bC_comesToLog 46 = .ok (.aload_n 0, 1) := by decide +kernel
theorem dC_comesToLog_47 : decode bC_comesToLog 47 = .ok (.getfield 35, 3) := by decide +kernel
theorem dC_comesToLog_50 : decode bC_comesToLog 50 = .ok (.iload_n 1, 1) := by decide +kernel
theorem dC_comesToLog_51 : decode bC_comesToLog 51 = .ok (.aaload, 1) := by decide +kernel
theorem dC_comesToLog_52 : decode bC_comesToLog 52 = .ok (.iload 4, 2) := by decide +kernel
theorem dC_comesToLog_54 : decode bC_comesToLog 54 = .ok (.iload_n 2, 1) := by decide +kernel
theorem dC_comesToLog_55 : decode bC_comesToLog 55 = .ok (.iastore, 1) := by decide +kernel
theorem dC_comesToLog_56 : decode bC_comesToLog 56 = .ok (.aload_n 0, 1) := by decide +kernel
theorem dC_comesToLog_57 : decode bC_comesToLog 57 = .ok (.getfield 38, 3) := by decide +kernel
theorem dC_comesToLog_60 : decode bC_comesToLog 60 = .ok (.iload_n 1, 1) := by decide +kernel
theorem dC_comesToLog_61 : decode bC_comesToLog 61 = .ok (.iload 4, 2) := by decide +kernel
theorem dC_comesToLog_63 : decode bC_comesToLog 63 = .ok (.iconst 1, 1) := by decide +kernel
theorem dC_comesToLog_64 : decode bC_comesToLog 64 = .ok (.iadd, 1) := by decide +kernel
theorem dC_comesToLog_65 : decode bC_comesToLog 65 = .ok (.iastore, 1) := by decide +kernel
theorem dC_comesToLog_66 : decode bC_comesToLog 66 = .ok (.aload_n 0, 1) := by decide +kernel
theorem dC_comesToLog_67 : decode bC_comesToLog 67 = .ok (.getfield 29, 3) := by decide +kernel
theorem dC_comesToLog_70 : decode bC_comesToLog 70 = .ok (.iload_n 1, 1) := by decide +kernel
theorem dC_comesToLog_71 : decode bC_comesToLog 71 = .ok (.dup2, 1) := by decide +kernel
theorem dC_comesToLog_72 : decode bC_comesToLog 72 = .ok (.laload, 1) := by decide +kernel
theorem dC_comesToLog_73 : decode bC_comesToLog 73 = .ok (.lconst 1, 1) := by decide +kernel
theorem dC_comesToLog_74 : decode bC_comesToLog 74 = .ok (.bipush 8, 2) := by decide +kernel
theorem dC_comesToLog_76 : decode bC_comesToLog 76 = .ok (.iload_n 3, 1) := by decide +kernel
theorem dC_comesToLog_77 : decode bC_comesToLog 77 = .ok (.imul, 1) := by decide +kernel
theorem dC_comesToLog_78 : decode bC_comesToLog 78 = .ok (.lshl, 1) := by decide +kernel
theorem dC_comesToLog_79 : decode bC_comesToLog 79 = .ok (.ladd, 1) := by decide +kernel
theorem dC_comesToLog_80 : decode bC_comesToLog 80 = .ok (.lastore, 1) := by decide +kernel
theorem dC_comesToLog_81 : decode bC_comesToLog 81 = .ok (.iconst 1, 1) := by decide +kernel
theorem dC_comesToLog_82 : decode bC_comesToLog 82 = .ok (.ireturn, 1) := by decide +kernel
theorem dC_actorOf_0 : decode bC_actorOf 0 = .ok (.iload_n 0, 1) := by decide +kernel
theorem dC_actorOf_1 : decode bC_actorOf 1 = .ok (.bipush 8, 2) := by decide +kernel
theorem dC_actorOf_3 : decode bC_actorOf 3 = .ok (.irem, 1) := by decide +kernel
theorem dC_actorOf_4 : decode bC_actorOf 4 = .ok (.ireturn, 1) := by decide +kernel
theorem dC_seqOf_0 : decode bC_seqOf 0 = .ok (.iload_n 0, 1) := by decide +kernel
theorem dC_seqOf_1 : decode bC_seqOf 1 = .ok (.bipush 8, 2) := by decide +kernel
theorem dC_seqOf_3 : decode bC_seqOf 3 = .ok (.idiv, 1) := by decide +kernel
theorem dC_seqOf_4 : decode bC_seqOf 4 = .ok (.ireturn, 1) := by decide +kernel
theorem dC_tick_0 : decode bC_tick 0 = .ok (.aload_n 0, 1) := by decide +kernel
theorem dC_tick_1 : decode bC_tick 1 = .ok (.iload_n 1, 1) := by decide +kernel
theorem dC_tick_2 : decode bC_tick 2 = .ok (.invokevirtual 54, 3) := by decide +kernel
theorem dC_tick_5 : decode bC_tick 5 = .ok (.ifCond .ne 13, 3) := by decide +kernel
theorem dC_tick_8 : decode bC_tick 8 = .ok (.new 58, 3) := by decide +kernel
theorem dC_tick_11 : decode bC_tick 11 = .ok (.dup, 1) := by decide +kernel
theorem dC_tick_12 : decode bC_tick 12 = .ok (.ldc 60, 2) := by decide +kernel
theorem dC_tick_14 : decode bC_tick 14 = .ok (.invokespecial 62, 3) := by decide +kernel
theorem dC_tick_17 : decode bC_tick 17 = .ok (.athrow, 1) := by decide +kernel
theorem dC_tick_18 : decode bC_tick 18 = .ok (.aload_n 0, 1) := by decide +kernel
theorem dC_tick_19 : decode bC_tick 19 = .ok (.getfield 25, 3) := by decide +kernel
theorem dC_tick_22 : decode bC_tick 22 = .ok (.iload_n 1, 1) := by decide +kernel
theorem dC_tick_23 : decode bC_tick 23 = .ok (.baload, 1) := by decide +kernel
theorem dC_tick_24 : decode bC_tick 24 = .ok (.ifCond .eq 13, 3) := by decide +kernel
theorem dC_tick_27 : decode bC_tick 27 = .ok (.new 74, 3) := by decide +kernel
theorem dC_tick_30 : decode bC_tick 30 = .ok (.dup, 1) := by decide +kernel
theorem dC_tick_31 : decode bC_tick 31 = .ok (.ldc 83, 2) := by decide +kernel
theorem dC_tick_33 : decode bC_tick 33 = .ok (.invokespecial 78, 3) := by decide +kernel
theorem dC_tick_36 : decode bC_tick 36 = .ok (.athrow, 1) := by decide +kernel
theorem dC_tick_37 : decode bC_tick 37 = .ok (.iconst 0, 1) := by decide +kernel
theorem dC_tick_38 : decode bC_tick 38 = .ok (.istore_n 2, 1) := by decide +kernel
theorem dC_tick_39 : decode bC_tick 39 = .ok (.iload_n 2, 1) := by decide +kernel
theorem dC_tick_40 : decode bC_tick 40 = .ok (.aload_n 0, 1) := by decide +kernel
theorem dC_tick_41 : decode bC_tick 41 = .ok (.getfield 18, 3) := by decide +kernel
theorem dC_tick_44 : decode bC_tick 44 = .ok (.if_icmp .ge 20, 3) := by decide +kernel
theorem dC_tick_47 : decode bC_tick 47 = .ok (.iload_n 2, 1) := by decide +kernel
theorem dC_tick_48 : decode bC_tick 48 = .ok (.iload_n 1, 1) := by decide +kernel
theorem dC_tick_49 : decode bC_tick 49 = .ok (.if_icmp .eq 9, 3) := by decide +kernel
theorem dC_tick_52 : decode bC_tick 52 = .ok (.aload_n 0, 1) := by decide +kernel
theorem dC_tick_53 : decode bC_tick 53 = .ok (.iload_n 1, 1) := by decide +kernel
theorem dC_tick_54 : decode bC_tick 54 = .ok (.iload_n 2, 1) := by decide +kernel
theorem dC_tick_55 : decode bC_tick 55 = .ok (.invokevirtual 85, 3) := by decide +kernel
theorem dC_tick_58 : decode bC_tick 58 = .ok (.iinc 2 1, 3) := by decide +kernel
theorem dC_tick_61 : decode bC_tick 61 = .ok (.goto (-22), 3) := by decide +kernel
theorem dC_tick_64 : decode bC_tick 64 = .ok (.aload_n 0, 1) := by decide +kernel
theorem dC_tick_65 : decode bC_tick 65 = .ok (.getfield 18, 3) := by decide +kernel
theorem dC_tick_68 : decode bC_tick 68 = .ok (.iconst 1, 1) := by decide +kernel
theorem dC_tick_69 : decode bC_tick 69 = .ok (.isub, 1) := by decide +kernel
theorem dC_tick_70 : decode bC_tick 70 = .ok (.ireturn, 1) := by decide +kernel
theorem dC_sendClock_0 : decode bC_sendClock 0 = .ok (.aload_n 0, 1) := by decide +kernel
theorem dC_sendClock_1 : decode bC_sendClock 1 = .ok (.getfield 119, 3) := by decide +kernel
theorem dC_sendClock_4 : decode bC_sendClock 4 = .ok (.istore_n 3, 1) := by decide +kernel
theorem dC_sendClock_5 : decode bC_sendClock 5 = .ok (.aload_n 0, 1) := by decide +kernel
theorem dC_sendClock_6 : decode bC_sendClock 6 = .ok (.invokevirtual 122, 3) := by decide +kernel
theorem dC_sendClock_9 : decode bC_sendClock 9 = .ok (.ifCond .eq 32, 3) := by decide +kernel
theorem dC_sendClock_12 : decode bC_sendClock 12 = .ok (.aload_n 0, 1) := by decide +kernel
theorem dC_sendClock_13 : decode bC_sendClock 13 = .ok (.new 45, 3) := by decide +kernel
theorem dC_sendClock_16 : decode bC_sendClock 16 = .ok (.dup, 1) := by decide +kernel
theorem dC_sendClock_17 : decode bC_sendClock 17 = .ok (.iload_n 3, 1) := by decide +kernel
theorem dC_sendClock_18 : decode bC_sendClock 18 = .ok (.iload_n 1, 1) := by decide +kernel
theorem dC_sendClock_19 : decode bC_sendClock 19 = .ok (.iload_n 2, 1) := by decide +kernel
theorem dC_sendClock_20 : decode bC_sendClock 20 = .ok (.iconst 3, 1) := by decide +kernel
theorem dC_sendClock_21 : decode bC_sendClock 21 = .ok (.aload_n 0, 1) := by decide +kernel
theorem dC_sendClock_22 : decode bC_sendClock 22 = .ok (.getfield 18, 3) := by decide +kernel
theorem dC_sendClock_25 : decode bC_sendClock 25 = .ok (.iadd, 1) := by decide +kernel
theorem dC_sendClock_26 : decode bC_sendClock 26 = .ok (.aload_n 0, 1) := by decide +kernel
theorem dC_sendClock_27 : decode bC_sendClock 27 = .ok (.getfield 29, 3) := by decide +kernel
theorem dC_sendClock_30 : decode bC_sendClock 30 = .ok (.iload_n 1, 1) := by decide +kernel
theorem dC_sendClock_31 : decode bC_sendClock 31 = .ok (.laload, 1) := by decide +kernel
theorem dC_sendClock_32 : decode bC_sendClock 32 = .ok (.getstatic 185, 3) := by decide +kernel
theorem dC_sendClock_35 : decode bC_sendClock 35 = .ok (.invokespecial 138, 3) := by decide +kernel
theorem dC_sendClock_38 : decode bC_sendClock 38 = .ok (.invokevirtual 141, 3) := by decide +kernel
theorem dC_sendClock_41 : decode bC_sendClock 41 = .ok (.return_, 1) := by decide +kernel
theorem dC_countAsSent_0 : decode bC_countAsSent 0 = .ok (.aload_n 0, 1) := by decide +kernel
theorem dC_countAsSent_1 : decode bC_countAsSent 1 = .ok (.dup, 1) := by decide +kernel
theorem dC_countAsSent_2 : decode bC_countAsSent 2 = .ok (.getfield 119, 3) := by decide +kernel
theorem dC_countAsSent_5 : decode bC_countAsSent 5 = .ok (.iconst 1, 1) := by decide +kernel
theorem dC_countAsSent_6 : decode bC_countAsSent 6 = .ok (.iadd, 1) := by decide +kernel
theorem dC_countAsSent_7 : decode bC_countAsSent 7 = .ok (.putfield 119, 3) := by decide +kernel
theorem dC_countAsSent_10 : decode bC_countAsSent 10 = .ok (.aload_n 0, 1) := by decide +kernel
theorem dC_countAsSent_11 : decode bC_countAsSent 11 = .ok (.getfield 156, 3) := by decide +kernel
theorem dC_countAsSent_14 : decode bC_countAsSent 14 = .ok (.bipush 120, 2) := by decide +kernel
theorem dC_countAsSent_16 : decode bC_countAsSent 16 = .ok (.if_icmp .ge 5, 3) := by decide +kernel
theorem dC_countAsSent_19 : decode bC_countAsSent 19 = .ok (.iconst 1, 1) := by decide +kernel
theorem dC_countAsSent_20 : decode bC_countAsSent 20 = .ok (.ireturn, 1) := by decide +kernel
theorem dC_countAsSent_21 : decode bC_countAsSent 21 = .ok (.aload_n 0, 1) := by decide +kernel
theorem dC_countAsSent_22 : decode bC_countAsSent 22 = .ok (.dup, 1) := by decide +kernel
theorem dC_countAsSent_23 : decode bC_countAsSent 23 = .ok (.getfield 116, 3) := by decide +kernel
theorem dC_countAsSent_26 : decode bC_countAsSent 26 = .ok (.iconst 1, 1) := by decide +kernel
theorem dC_countAsSent_27 : decode bC_countAsSent 27 = .ok (.iadd, 1) := by decide +kernel
theorem dC_countAsSent_28 : decode bC_countAsSent 28 = .ok (.putfield 116, 3) := by decide +kernel
theorem dC_countAsSent_31 : decode bC_countAsSent 31 = .ok (.iconst 0, 1) := by decide +kernel
theorem dC_countAsSent_32 : decode bC_countAsSent 32 = .ok (.ireturn, 1) := by decide +kernel
theorem dM_init_0 : decode bM_init 0 = .ok (.aload_n 0, 1) := by decide +kernel
theorem dM_init_1 : decode bM_init 1 = .ok (.invokespecial 3, 3) := by decide +kernel
theorem dM_init_4 : decode bM_init 4 = .ok (.aload_n 0, 1) := by decide +kernel
theorem dM_init_5 : decode bM_init 5 = .ok (.iload_n 1, 1) := by decide +kernel
theorem dM_init_6 : decode bM_init 6 = .ok (.putfield 9, 3) := by decide +kernel
theorem dM_init_9 : decode bM_init 9 = .ok (.aload_n 0, 1) := by decide +kernel
theorem dM_init_10 : decode bM_init 10 = .ok (.iload_n 2, 1) := by decide +kernel
theorem dM_init_11 : decode bM_init 11 = .ok (.putfield 15, 3) := by decide +kernel
theorem dM_init_14 : decode bM_init 14 = .ok (.aload_n 0, 1) := by decide +kernel
theorem dM_init_15 : decode bM_init 15 = .ok (.iload_n 3, 1) := by decide +kernel
theorem dM_init_16 : decode bM_init 16 = .ok (.putfield 18, 3) := by decide +kernel
theorem dM_init_19 : decode bM_init 19 = .ok (.aload_n 0, 1) := by decide +kernel
theorem dM_init_20 : decode bM_init 20 = .ok (.iload 4, 2) := by decide +kernel
theorem dM_init_22 : decode bM_init 22 = .ok (.putfield 21, 3) := by decide +kernel
theorem dM_init_25 : decode bM_init 25 = .ok (.aload_n 0, 1) := by decide +kernel
theorem dM_init_26 : decode bM_init 26 = .ok (.lload 5, 2) := by decide +kernel
theorem dM_init_28 : decode bM_init 28 = .ok (.putfield 24, 3) := by decide +kernel
theorem dM_init_31 : decode bM_init 31 = .ok (.aload_n 0, 1) := by decide +kernel
theorem dM_init_32 : decode bM_init 32 = .ok (.aload 7, 2) := by decide +kernel
theorem dM_init_34 : decode bM_init 34 = .ok (.putfield 28, 3) := by decide +kernel
theorem dM_init_37 : decode bM_init 37 = .ok (.return_, 1) := by decide +kernel
theorem dC_putInFlight_0 : decode bC_putInFlight 0 = .ok (.aload_n 0, 1) := by decide +kernel
theorem dC_putInFlight_1 : decode bC_putInFlight 1 = .ok (.getfield 156, 3) := by decide +kernel
theorem dC_putInFlight_4 : decode bC_putInFlight 4 = .ok (.aload_n 0, 1) := by decide +kernel
theorem dC_putInFlight_5 : decode bC_putInFlight 5 = .ok (.getfield 47, 3) := by decide +kernel
theorem dC_putInFlight_8 : decode bC_putInFlight 8 = .ok (.arraylength, 1) := by decide +kernel
theorem dC_putInFlight_9 : decode bC_putInFlight 9 = .ok (.if_icmp .ge 23, 3) := by decide +kernel
theorem dC_putInFlight_12 : decode bC_putInFlight 12 = .ok (.aload_n 0, 1) := by decide +kernel
theorem dC_putInFlight_13 : decode bC_putInFlight 13 = .ok (.getfield 47, 3) := by decide +kernel
theorem dC_putInFlight_16 : decode bC_putInFlight 16 = .ok (.aload_n 0, 1) := by decide +kernel
theorem dC_putInFlight_17 : decode bC_putInFlight 17 = .ok (.getfield 156, 3) := by decide +kernel
theorem dC_putInFlight_20 : decode bC_putInFlight 20 = .ok (.aload_n 1, 1) := by decide +kernel
theorem dC_putInFlight_21 : decode bC_putInFlight 21 = .ok (.aastore, 1) := by decide +kernel
theorem dC_putInFlight_22 : decode bC_putInFlight 22 = .ok (.aload_n 0, 1) := by decide +kernel
theorem dC_putInFlight_23 : decode bC_putInFlight 23 = .ok (.dup, 1) := by decide +kernel
theorem dC_putInFlight_24 : decode bC_putInFlight 24 = .ok (.getfield 156, 3) := by decide +kernel
theorem dC_putInFlight_27 : decode bC_putInFlight 27 = .ok (.iconst 1, 1) := by decide +kernel
theorem dC_putInFlight_28 : decode bC_putInFlight 28 = .ok (.iadd, 1) := by decide +kernel
theorem dC_putInFlight_29 : decode bC_putInFlight 29 = .ok (.putfield 156, 3) := by decide +kernel
theorem dC_putInFlight_32 : decode bC_putInFlight 32 = .ok (.return_, 1) := by decide +kernel
theorem dC_deliver_0 : decode bC_deliver 0 = .ok (.aload_n 0, 1) := by decide +kernel
theorem dC_deliver_1 : decode bC_deliver 1 = .ok (.iload_n 1, 1) := by decide +kernel
theorem dC_deliver_2 : decode bC_deliver 2 = .ok (.invokevirtual 89, 3) := by decide +kernel
theorem dC_deliver_5 : decode bC_deliver 5 = .ok (.astore_n 2, 1) := by decide +kernel
theorem dC_deliver_6 : decode bC_deliver 6 = .ok (.aload_n 2, 1) := by decide +kernel
theorem dC_deliver_7 : decode bC_deliver 7 = .ok (.ifnonnull 13, 3) := by decide +kernel
theorem dC_deliver_10 : decode bC_deliver 10 = .ok (.new 58, 3) := by decide +kernel
theorem dC_deliver_13 : decode bC_deliver 13 = .ok (.dup, 1) := by decide +kernel
theorem dC_deliver_14 : decode bC_deliver 14 = .ok (.ldc 93, 2) := by decide +kernel
theorem dC_deliver_16 : decode bC_deliver 16 = .ok (.invokespecial 62, 3) := by decide +kernel
theorem dC_deliver_19 : decode bC_deliver 19 = .ok (.athrow, 1) := by decide +kernel
theorem dC_deliver_20 : decode bC_deliver 20 = .ok (.aload_n 0, 1) := by decide +kernel
theorem dC_deliver_21 : decode bC_deliver 21 = .ok (.iload_n 1, 1) := by decide +kernel
theorem dC_deliver_22 : decode bC_deliver 22 = .ok (.invokevirtual 95, 3) := by decide +kernel
theorem dC_deliver_25 : decode bC_deliver 25 = .ok (.aload_n 0, 1) := by decide +kernel
theorem dC_deliver_26 : decode bC_deliver 26 = .ok (.getfield 25, 3) := by decide +kernel
theorem dC_deliver_29 : decode bC_deliver 29 = .ok (.aload_n 2, 1) := by decide +kernel
theorem dC_deliver_30 : decode bC_deliver 30 = .ok (.getfield 99, 3) := by decide +kernel
theorem dC_deliver_33 : decode bC_deliver 33 = .ok (.baload, 1) := by decide +kernel
theorem dC_deliver_34 : decode bC_deliver 34 = .ok (.ifCond .eq 15, 3) := by decide +kernel
theorem dC_deliver_37 : decode bC_deliver 37 = .ok (.aload_n 0, 1) := by decide +kernel
theorem dC_deliver_38 : decode bC_deliver 38 = .ok (.dup, 1) := by decide +kernel
theorem dC_deliver_39 : decode bC_deliver 39 = .ok (.getfield 102, 3) := by decide +kernel
theorem dC_deliver_42 : decode bC_deliver 42 = .ok (.iconst 1, 1) := by decide +kernel
theorem dC_deliver_43 : decode bC_deliver 43 = .ok (.iadd, 1) := by decide +kernel
theorem dC_deliver_44 : decode bC_deliver 44 = .ok (.putfield 102, 3) := by decide +kernel
theorem dC_deliver_47 : decode bC_deliver 47 = .ok (.iconst 0, 1) := by decide +kernel
theorem dC_deliver_48 : decode bC_deliver 48 = .ok (.ireturn, 1) := by decide +kernel
theorem dC_deliver_49 : decode bC_deliver 49 = .ok (.aload_n 2, 1) := by decide +kernel
theorem dC_deliver_50 : decode bC_deliver 50 = .ok (.invokevirtual 105, 3) := by decide +kernel
theorem dC_deliver_53 : decode bC_deliver 53 = .ok (.ifCond .eq 11, 3) := by decide +kernel
theorem dC_deliver_56 : decode bC_deliver 56 = .ok (.aload_n 0, 1) := by decide +kernel
theorem dC_deliver_57 : decode bC_deliver 57 = .ok (.aload_n 2, 1) := by decide +kernel
theorem dC_deliver_58 : decode bC_deliver 58 = .ok (.invokevirtual 109, 3) := by decide +kernel
theorem dC_deliver_61 : decode bC_deliver 61 = .ok (.goto 8, 3) := by decide +kernel
theorem dC_deliver_64 : decode bC_deliver 64 = .ok (.aload_n 0, 1) := by decide +kernel
theorem dC_deliver_65 : decode bC_deliver 65 = .ok (.aload_n 2, 1) := by decide +kernel
theorem dC_deliver_66 : decode bC_deliver 66 = .ok (.invokevirtual 113, 3) := by decide +kernel
theorem dC_deliver_69 : decode bC_deliver 69 = .ok (.ireturn, 1) := by decide +kernel
theorem dM_isClock_0 : decode bM_isClock 0 = .ok (.aload_n 0, 1) := by decide +kernel
theorem dM_isClock_1 : decode bM_isClock 1 = .ok (.getfield 24, 3) := by decide +kernel
theorem dM_isClock_4 : decode bM_isClock 4 = .ok (.ldc2_w 32, 3) := by decide +kernel
theorem dM_isClock_7 : decode bM_isClock 7 = .ok (.lcmp, 1) := by decide +kernel
theorem dM_isClock_8 : decode bM_isClock 8 = .ok (.ifCond .eq 7, 3) := by decide +kernel
theorem dM_isClock_11 : decode bM_isClock 11 = .ok (.iconst 1, 1) := by decide +kernel
theorem dM_isClock_12 : decode bM_isClock 12 = .ok (.goto 4, 3) := by decide +kernel
theorem dM_isClock_15 : decode bM_isClock 15 = .ok (.iconst 0, 1) := by decide +kernel
theorem dM_isClock_16 : decode bM_isClock 16 = .ok (.ireturn, 1) := by decide +kernel
theorem dC_answer_0 : decode bC_answer 0 = .ok (.aload_n 1, 1) := by decide +kernel
theorem dC_answer_1 : decode bC_answer 1 = .ok (.getfield 99, 3) := by decide +kernel
theorem dC_answer_4 : decode bC_answer 4 = .ok (.istore_n 2, 1) := by decide +kernel
theorem dC_answer_5 : decode bC_answer 5 = .ok (.iconst 0, 1) := by decide +kernel
theorem dC_answer_6 : decode bC_answer 6 = .ok (.istore_n 3, 1) := by decide +kernel
theorem dC_answer_7 : decode bC_answer 7 = .ok (.iconst 0, 1) := by decide +kernel
theorem dC_answer_8 : decode bC_answer 8 = .ok (.istore 4, 2) := by decide +kernel
theorem dC_answer_10 : decode bC_answer 10 = .ok (.iconst 3, 1) := by decide +kernel
theorem dC_answer_11 : decode bC_answer 11 = .ok (.istore 5, 2) := by decide +kernel
theorem dC_answer_13 : decode bC_answer 13 = .ok (.iconst 0, 1) := by decide +kernel
theorem dC_answer_14 : decode bC_answer 14 = .ok (.istore 6, 2) := by decide +kernel
theorem dC_answer_16 : decode bC_answer 16 = .ok (.iload 6, 2) := by decide +kernel
theorem dC_answer_18 : decode bC_answer 18 = .ok (.aload_n 0, 1) := by decide +kernel
theorem dC_answer_19 : decode bC_answer 19 = .ok (.getfield 38, 3) := by decide +kernel
theorem dC_answer_22 : decode bC_answer 22 = .ok (.iload_n 2, 1) := by decide +kernel
theorem dC_answer_23 : decode bC_answer 23 = .ok (.iaload, 1) := by decide +kernel
theorem dC_answer_24 : decode bC_answer 24 = .ok (.if_icmp .ge 127, 3) := by decide +kernel
theorem dC_answer_27 : decode bC_answer 27 = .ok (.iload 4, 2) := by decide +kernel
theorem dC_answer_29 : decode bC_answer 29 = .ok (.aload_n 0, 1) := by decide +kernel
theorem dC_answer_30 : decode bC_answer 30 = .ok (.getfield 51, 3) := by decide +kernel
theorem dC_answer_33 : decode bC_answer 33 = .ok (.arraylength, 1) := by decide +kernel
theorem dC_answer_34 : decode bC_answer 34 = .ok (.if_icmp .ge 117, 3) := by decide +kernel
theorem dC_answer_37 : decode bC_answer 37 = .ok (.aload_n 0, 1) := by decide +kernel
theorem dC_answer_38 : decode bC_answer 38 = .ok (.getfield 35, 3) := by decide +kernel
theorem dC_answer_41 : decode bC_answer 41 = .ok (.iload_n 2, 1) := by decide +kernel
theorem dC_answer_42 : decode bC_answer 42 = .ok (.aaload, 1) := by decide +kernel
theorem dC_answer_43 : decode bC_answer 43 = .ok (.iload 6, 2) := by decide +kernel
theorem dC_answer_45 : decode bC_answer 45 = .ok (.iaload, 1) := by decide +kernel
theorem dC_answer_46 : decode bC_answer 46 = .ok (.istore 7, 2) := by decide +kernel
theorem dC_answer_48 : decode bC_answer 48 = .ok (.iload 7, 2) := by decide +kernel
theorem dC_answer_50 : decode bC_answer 50 = .ok (.invokestatic 175, 3) := by decide +kernel
theorem dC_answer_53 : decode bC_answer 53 = .ok (.aload_n 1, 1) := by decide +kernel
theorem dC_answer_54 : decode bC_answer 54 = .ok (.getfield 131, 3) := by decide +kernel
theorem dC_answer_57 : decode bC_answer 57 = .ok (.iload 7, 2) := by decide +kernel
theorem dC_answer_59 : decode bC_answer 59 = .ok (.invokestatic 172, 3) := by decide +kernel
theorem dC_answer_62 : decode bC_answer 62 = .ok (.invokestatic 168, 3) := by decide +kernel
theorem dC_answer_65 : decode bC_answer 65 = .ok (.if_icmp .gt 6, 3) := by decide +kernel
theorem dC_answer_68 : decode bC_answer 68 = .ok (.goto 77, 3) := by decide +kernel
theorem dC_answer_71 : decode bC_answer 71 = .ok (.aload_n 0, 1) := by decide +kernel
theorem dC_answer_72 : decode bC_answer 72 = .ok (.iload 7, 2) := by decide +kernel
theorem dC_answer_74 : decode bC_answer 74 = .ok (.invokestatic 172, 3) := by decide +kernel
theorem dC_answer_77 : decode bC_answer 77 = .ok (.iload 7, 2) := by decide +kernel
theorem dC_answer_79 : decode bC_answer 79 = .ok (.invokestatic 175, 3) := by decide +kernel
theorem dC_answer_82 : decode bC_answer 82 = .ok (.invokevirtual 178, 3) := by decide +kernel
theorem dC_answer_85 : decode bC_answer 85 = .ok (.istore 8, 2) := by decide +kernel
theorem dC_answer_87 : decode bC_answer 87 = .ok (.iload 4, 2) := by decide +kernel
theorem dC_answer_89 : decode bC_answer 89 = .ok (.ifCond .le 37, 3) := by decide +kernel
theorem dC_answer_92 : decode bC_answer 92 = .ok (.iload 5, 2) := by decide +kernel
theorem dC_answer_94 : decode bC_answer 94 = .ok (.iload 8, 2) := by decide +kernel
theorem dC_answer_96 : decode bC_answer 96 = .ok (.iadd, 1) := by decide +kernel
theorem dC_answer_97 : decode bC_answer 97 = .ok (.aload_n 0, 1) := by decide +kernel
theorem dC_answer_98 : decode bC_answer 98 = .ok (.getfield 22, 3) := by decide +kernel
theorem dC_answer_101 : decode bC_answer 101 = .ok (.if_icmp .le 25, 3) := by decide +kernel
theorem dC_answer_104 : decode bC_answer 104 = .ok (.aload_n 0, 1) := by decide +kernel
theorem dC_answer_105 : decode bC_answer 105 = .ok (.iload_n 2, 1) := by decide +kernel
theorem dC_answer_106 : decode bC_answer 106 = .ok (.aload_n 1, 1) := by decide +kernel
theorem dC_answer_107 : decode bC_answer 107 = .ok (.getfield 125, 3) := by decide +kernel
theorem dC_answer_110 : decode bC_answer 110 = .ok (.iload 5, 2) := by decide +kernel
theorem dC_answer_112 : decode bC_answer 112 = .ok (.iload 4, 2) := by decide +kernel
theorem dC_answer_114 : decode bC_answer 114 = .ok (.invokevirtual 181, 3) := by decide +kernel
theorem dC_answer_117 : decode bC_answer 117 = .ok (.iinc 3 1, 3) := by decide +kernel
theorem dC_answer_120 : decode bC_answer 120 = .ok (.iconst 0, 1) := by decide +kernel
theorem dC_answer_121 : decode bC_answer 121 = .ok (.istore 4, 2) := by decide +kernel
theorem dC_answer_123 : decode bC_answer 123 = .ok (.iconst 3, 1) := by decide +kernel
theorem dC_answer_124 : decode bC_answer 124 = .ok (.istore 5, 2) := by decide +kernel
theorem dC_answer_126 : decode bC_answer 126 = .ok (.aload_n 0, 1) := by decide +kernel
theorem dC_answer_127 : decode bC_answer 127 = .ok (.getfield 51, 3) := by decide +kernel
theorem dC_answer_130 : decode bC_answer 130 = .ok (.iload 4, 2) := by decide +kernel
theorem dC_answer_132 : decode bC_answer 132 = .ok (.iload 7, 2) := by decide +kernel
theorem dC_answer_134 : decode bC_answer 134 = .ok (.iastore, 1) := by decide +kernel
theorem dC_answer_135 : decode bC_answer 135 = .ok (.iinc 4 1, 3) := by decide +kernel
theorem dC_answer_138 : decode bC_answer 138 = .ok (.iload 5, 2) := by decide +kernel
theorem dC_answer_140 : decode bC_answer 140 = .ok (.iload 8, 2) := by decide +kernel
theorem dC_answer_142 : decode bC_answer 142 = .ok (.iadd, 1) := by decide +kernel
theorem dC_answer_143 : decode bC_answer 143 = .ok (.istore 5, 2) := by decide +kernel
theorem dC_answer_145 : decode bC_answer 145 = .ok (.iinc 6 1, 3) := by decide +kernel
theorem dC_answer_148 : decode bC_answer 148 = .ok (.goto (-132), 3) := by decide +kernel
theorem dC_answer_151 : decode bC_answer 151 = .ok (.iload 4, 2) := by decide +kernel
theorem dC_answer_153 : decode bC_answer 153 = .ok (.ifCond .le 19, 3) := by decide +kernel
theorem dC_answer_156 : decode bC_answer 156 = .ok (.aload_n 0, 1) := by decide +kernel
theorem dC_answer_157 : decode bC_answer 157 = .ok (.iload_n 2, 1) := by decide +kernel
theorem dC_answer_158 : decode bC_answer 158 = .ok (.aload_n 1, 1) := by decide +kernel
theorem dC_answer_159 : decode bC_answer 159 = .ok (.getfield 125, 3) := by decide +kernel
theorem dC_answer_162 : decode bC_answer 162 = .ok (.iload 5, 2) := by decide +kernel
theorem dC_answer_164 : decode bC_answer 164 = .ok (.iload 4, 2) := by decide +kernel
theorem dC_answer_166 : decode bC_answer 166 = .ok (.invokevirtual 181, 3) := by decide +kernel
theorem dC_answer_169 : decode bC_answer 169 = .ok (.iinc 3 1, 3) := by decide +kernel
theorem dC_answer_172 : decode bC_answer 172 = .ok (.iload_n 3, 1) := by decide +kernel
theorem dC_answer_173 : decode bC_answer 173 = .ok (.ireturn, 1) := by decide +kernel
theorem dC_sendGathered_0 : decode bC_sendGathered 0 = .ok (.aload_n 0, 1) := by decide +kernel
theorem dC_sendGathered_1 : decode bC_sendGathered 1 = .ok (.getfield 119, 3) := by decide +kernel
theorem dC_sendGathered_4 : decode bC_sendGathered 4 = .ok (.istore 5, 2) := by decide +kernel
theorem dC_sendGathered_6 : decode bC_sendGathered 6 = .ok (.aload_n 0, 1) := by decide +kernel
theorem dC_sendGathered_7 : decode bC_sendGathered 7 = .ok (.invokevirtual 122, 3) := by decide +kernel
theorem dC_sendGathered_10 : decode bC_sendGathered 10 = .ok (.ifCond .eq 31, 3) := by decide +kernel
theorem dC_sendGathered_13 : decode bC_sendGathered 13 = .ok (.aload_n 0, 1) := by decide +kernel
theorem dC_sendGathered_14 : decode bC_sendGathered 14 = .ok (.new 45, 3) := by decide +kernel
theorem dC_sendGathered_17 : decode bC_sendGathered 17 = .ok (.dup, 1) := by decide +kernel
theorem dC_sendGathered_18 : decode bC_sendGathered 18 = .ok (.iload 5, 2) := by decide +kernel
theorem dC_sendGathered_20 : decode bC_sendGathered 20 = .ok (.iload_n 1, 1) := by decide +kernel
theorem dC_sendGathered_21 : decode bC_sendGathered 21 = .ok (.iload_n 2, 1) := by decide +kernel
theorem dC_sendGathered_22 : decode bC_sendGathered 22 = .ok (.iload_n 3, 1) := by decide +kernel
theorem dC_sendGathered_23 : decode bC_sendGathered 23 = .ok (.ldc2_w 150, 3) := by decide +kernel
theorem dC_sendGathered_26 : decode bC_sendGathered 26 = .ok (.aload_n 0, 1) := by decide +kernel
theorem dC_sendGathered_27 : decode bC_sendGathered 27 = .ok (.getfield 51, 3) := by decide +kernel
theorem dC_sendGathered_30 : decode bC_sendGathered 30 = .ok (.iload 4, 2) := by decide +kernel
theorem dC_sendGathered_32 : decode bC_sendGathered 32 = .ok (.invokestatic 188, 3) := by decide +kernel
theorem dC_sendGathered_35 : decode bC_sendGathered 35 = .ok (.invokespecial 138, 3) := by decide +kernel
theorem dC_sendGathered_38 : decode bC_sendGathered 38 = .ok (.invokevirtual 141, 3) := by decide +kernel
theorem dC_sendGathered_41 : decode bC_sendGathered 41 = .ok (.return_, 1) := by decide +kernel
theorem dA_copyOf_0 : decode bA_copyOf 0 = .ok (.iload_n 1, 1) := by decide +kernel
theorem dA_copyOf_1 : decode bA_copyOf 1 = .ok (.aload_n 0, 1) := by decide +kernel
theorem dA_copyOf_2 : decode bA_copyOf 2 = .ok (.arraylength, 1) := by decide +kernel
theorem dA_copyOf_3 : decode bA_copyOf 3 = .ok (.if_icmp .ne 11, 3) := by decide +kernel
theorem dA_copyOf_6 : decode bA_copyOf 6 = .ok (.aload_n 0, 1) := by decide +kernel
theorem dA_copyOf_7 : decode bA_copyOf 7 = .ok (.invokevirtual 316, 3) := by decide +kernel
theorem dA_copyOf_10 : decode bA_copyOf 10 = .ok (.checkcast 317, 3) := by decide +kernel
theorem dA_copyOf_13 : decode bA_copyOf 13 = .ok (.areturn, 1) := by decide +kernel
theorem dA_copyOf_14 : decode bA_copyOf 14 = .ok (.iload_n 1, 1) := by decide +kernel
theorem dA_copyOf_15 : decode bA_copyOf 15 = .ok (.newarray .int, 2) := by decide +kernel
theorem dA_copyOf_17 : decode bA_copyOf 17 = .ok (.astore_n 2, 1) := by decide +kernel
theorem dA_copyOf_18 : decode bA_copyOf 18 = .ok (.aload_n 0, 1) := by decide +kernel
theorem dA_copyOf_19 : decode bA_copyOf 19 = .ok (.iconst 0, 1) := by decide +kernel
theorem dA_copyOf_20 : decode bA_copyOf 20 = .ok (.aload_n 2, 1) := by decide +kernel
theorem dA_copyOf_21 : decode bA_copyOf 21 = .ok (.iconst 0, 1) := by decide +kernel
theorem dA_copyOf_22 : decode bA_copyOf 22 = .ok (.aload_n 0, 1) := by decide +kernel
theorem dA_copyOf_23 : decode bA_copyOf 23 = .ok (.arraylength, 1) := by decide +kernel
theorem dA_copyOf_24 : decode bA_copyOf 24 = .ok (.iload_n 1, 1) := by decide +kernel
theorem dA_copyOf_25 : decode bA_copyOf 25 = .ok (.invokestatic 304, 3) := by decide +kernel
theorem dA_copyOf_28 : decode bA_copyOf 28 = .ok (.invokestatic 150, 3) := by decide +kernel
theorem dA_copyOf_31 : decode bA_copyOf 31 = .ok (.aload_n 2, 1) := by decide +kernel
theorem dA_copyOf_32 : decode bA_copyOf 32 = .ok (.areturn, 1) := by decide +kernel
theorem dC_takeChanges_0 : decode bC_takeChanges 0 = .ok (.iconst 0, 1) := by decide +kernel
theorem dC_takeChanges_1 : decode bC_takeChanges 1 = .ok (.istore_n 2, 1) := by decide +kernel
theorem dC_takeChanges_2 : decode bC_takeChanges 2 = .ok (.aload_n 1, 1) := by decide +kernel
theorem dC_takeChanges_3 : decode bC_takeChanges 3 = .ok (.getfield 135, 3) := by decide +kernel
theorem dC_takeChanges_6 : decode bC_takeChanges 6 = .ok (.astore_n 3, 1) := by decide +kernel
theorem dC_takeChanges_7 : decode bC_takeChanges 7 = .ok (.aload_n 3, 1) := by decide +kernel
theorem dC_takeChanges_8 : decode bC_takeChanges 8 = .ok (.arraylength, 1) := by decide +kernel
theorem dC_takeChanges_9 : decode bC_takeChanges 9 = .ok (.istore 4, 2) := by decide +kernel
theorem dC_takeChanges_11 : decode bC_takeChanges 11 = .ok (.iconst 0, 1) := by decide +kernel
theorem dC_takeChanges_12 : decode bC_takeChanges 12 = .ok (.istore 5, 2) := by decide +kernel
theorem dC_takeChanges_14 : decode bC_takeChanges 14 = .ok (.iload 5, 2) := by decide +kernel
theorem dC_takeChanges_16 : decode bC_takeChanges 16 = .ok (.iload 4, 2) := by decide +kernel
theorem dC_takeChanges_18 : decode bC_takeChanges 18 = .ok (.if_icmp .ge 44, 3) := by decide +kernel
theorem dC_takeChanges_21 : decode bC_takeChanges 21 = .ok (.aload_n 3, 1) := by decide +kernel
theorem dC_takeChanges_22 : decode bC_takeChanges 22 = .ok (.iload 5, 2) := by decide +kernel
theorem dC_takeChanges_24 : decode bC_takeChanges 24 = .ok (.iaload, 1) := by decide +kernel
theorem dC_takeChanges_25 : decode bC_takeChanges 25 = .ok (.istore 6, 2) := by decide +kernel
theorem dC_takeChanges_27 : decode bC_takeChanges 27 = .ok (.aload_n 0, 1) := by decide +kernel
theorem dC_takeChanges_28 : decode bC_takeChanges 28 = .ok (.aload_n 1, 1) := by decide +kernel
theorem dC_takeChanges_29 : decode bC_takeChanges 29 = .ok (.getfield 99, 3) := by decide +kernel
theorem dC_takeChanges_32 : decode bC_takeChanges 32 = .ok (.iload 6, 2) := by decide +kernel
theorem dC_takeChanges_34 : decode bC_takeChanges 34 = .ok (.invokevirtual 79, 3) := by decide +kernel
theorem dC_takeChanges_37 : decode bC_takeChanges 37 = .ok (.ifCond .eq 9, 3) := by decide +kernel
theorem dC_takeChanges_40 : decode bC_takeChanges 40 = .ok (.iinc 2 1, 3) := by decide +kernel
theorem dC_takeChanges_43 : decode bC_takeChanges 43 = .ok (.goto 13, 3) := by decide +kernel
theorem dC_takeChanges_46 : decode bC_takeChanges 46 = .ok (.aload_n 0, 1) := by decide +kernel
theorem dC_takeChanges_47 : decode bC_takeChanges 47 = .ok (.dup, 1) := by decide +kernel
theorem dC_takeChanges_48 : decode bC_takeChanges 48 = .ok (.getfield 159, 3) := by decide +kernel
theorem dC_takeChanges_51 : decode bC_takeChanges 51 = .ok (.iconst 1, 1) := by decide +kernel
theorem dC_takeChanges_52 : decode bC_takeChanges 52 = .ok (.iadd, 1) := by decide +kernel
theorem dC_takeChanges_53 : decode bC_takeChanges 53 = .ok (.putfield 159, 3) := by decide +kernel
theorem dC_takeChanges_56 : decode bC_takeChanges 56 = .ok (.iinc 5 1, 3) := by decide +kernel
theorem dC_takeChanges_59 : decode bC_takeChanges 59 = .ok (.goto (-45), 3) := by decide +kernel
theorem dC_takeChanges_62 : decode bC_takeChanges 62 = .ok (.iload_n 2, 1) := by decide +kernel
theorem dC_takeChanges_63 : decode bC_takeChanges 63 = .ok (.ireturn, 1) := by decide +kernel
theorem dC_twice_0 : decode bC_twice 0 = .ok (.aload_n 0, 1) := by decide +kernel
theorem dC_twice_1 : decode bC_twice 1 = .ok (.iload_n 1, 1) := by decide +kernel
theorem dC_twice_2 : decode bC_twice 2 = .ok (.invokevirtual 89, 3) := by decide +kernel
theorem dC_twice_5 : decode bC_twice 5 = .ok (.astore_n 2, 1) := by decide +kernel
theorem dC_twice_6 : decode bC_twice 6 = .ok (.aload_n 2, 1) := by decide +kernel
theorem dC_twice_7 : decode bC_twice 7 = .ok (.ifnonnull 13, 3) := by decide +kernel
theorem dC_twice_10 : decode bC_twice 10 = .ok (.new 58, 3) := by decide +kernel
theorem dC_twice_13 : decode bC_twice 13 = .ok (.dup, 1) := by decide +kernel
theorem dC_twice_14 : decode bC_twice 14 = .ok (.ldc 93, 2) := by decide +kernel
theorem dC_twice_16 : decode bC_twice 16 = .ok (.invokespecial 62, 3) := by decide +kernel
theorem dC_twice_19 : decode bC_twice 19 = .ok (.athrow, 1) := by decide +kernel
theorem dC_twice_20 : decode bC_twice 20 = .ok (.aload_n 0, 1) := by decide +kernel
theorem dC_twice_21 : decode bC_twice 21 = .ok (.getfield 119, 3) := by decide +kernel
theorem dC_twice_24 : decode bC_twice 24 = .ok (.istore_n 3, 1) := by decide +kernel
theorem dC_twice_25 : decode bC_twice 25 = .ok (.aload_n 0, 1) := by decide +kernel
theorem dC_twice_26 : decode bC_twice 26 = .ok (.invokevirtual 122, 3) := by decide +kernel
theorem dC_twice_29 : decode bC_twice 29 = .ok (.ifCond .eq 35, 3) := by decide +kernel
theorem dC_twice_32 : decode bC_twice 32 = .ok (.aload_n 0, 1) := by decide +kernel
theorem dC_twice_33 : decode bC_twice 33 = .ok (.new 45, 3) := by decide +kernel
theorem dC_twice_36 : decode bC_twice 36 = .ok (.dup, 1) := by decide +kernel
theorem dC_twice_37 : decode bC_twice 37 = .ok (.iload_n 3, 1) := by decide +kernel
theorem dC_twice_38 : decode bC_twice 38 = .ok (.aload_n 2, 1) := by decide +kernel
theorem dC_twice_39 : decode bC_twice 39 = .ok (.getfield 125, 3) := by decide +kernel
theorem dC_twice_42 : decode bC_twice 42 = .ok (.aload_n 2, 1) := by decide +kernel
theorem dC_twice_43 : decode bC_twice 43 = .ok (.getfield 99, 3) := by decide +kernel
theorem dC_twice_46 : decode bC_twice 46 = .ok (.aload_n 2, 1) := by decide +kernel
theorem dC_twice_47 : decode bC_twice 47 = .ok (.getfield 128, 3) := by decide +kernel
theorem dC_twice_50 : decode bC_twice 50 = .ok (.aload_n 2, 1) := by decide +kernel
theorem dC_twice_51 : decode bC_twice 51 = .ok (.getfield 131, 3) := by decide +kernel
theorem dC_twice_54 : decode bC_twice 54 = .ok (.aload_n 2, 1) := by decide +kernel
theorem dC_twice_55 : decode bC_twice 55 = .ok (.getfield 135, 3) := by decide +kernel
theorem dC_twice_58 : decode bC_twice 58 = .ok (.invokespecial 138, 3) := by decide +kernel
theorem dC_twice_61 : decode bC_twice 61 = .ok (.invokevirtual 141, 3) := by decide +kernel
theorem dC_twice_64 : decode bC_twice 64 = .ok (.iload_n 3, 1) := by decide +kernel
theorem dC_twice_65 : decode bC_twice 65 = .ok (.ireturn, 1) := by decide +kernel
theorem dC_message_0 : decode bC_message 0 = .ok (.aload_n 0, 1) := by decide +kernel
theorem dC_message_1 : decode bC_message 1 = .ok (.iload_n 1, 1) := by decide +kernel
theorem dC_message_2 : decode bC_message 2 = .ok (.invokevirtual 89, 3) := by decide +kernel
theorem dC_message_5 : decode bC_message 5 = .ok (.astore_n 3, 1) := by decide +kernel
theorem dC_message_6 : decode bC_message 6 = .ok (.aload_n 3, 1) := by decide +kernel
theorem dC_message_7 : decode bC_message 7 = .ok (.ifnull 12, 3) := by decide +kernel
theorem dC_message_10 : decode bC_message 10 = .ok (.iload_n 2, 1) := by decide +kernel
theorem dC_message_11 : decode bC_message 11 = .ok (.ifCond .lt 8, 3) := by decide +kernel
theorem dC_message_14 : decode bC_message 14 = .ok (.iload_n 2, 1) := by decide +kernel
theorem dC_message_15 : decode bC_message 15 = .ok (.iconst 4, 1) := by decide +kernel
theorem dC_message_16 : decode bC_message 16 = .ok (.if_icmp .le 13, 3) := by decide +kernel
theorem dC_message_19 : decode bC_message 19 = .ok (.new 58, 3) := by decide +kernel
theorem dC_message_22 : decode bC_message 22 = .ok (.dup, 1) := by decide +kernel
theorem dC_message_23 : decode bC_message 23 = .ok (.ldc 145, 2) := by decide +kernel
theorem dC_message_25 : decode bC_message 25 = .ok (.invokespecial 62, 3) := by decide +kernel
theorem dC_message_28 : decode bC_message 28 = .ok (.athrow, 1) := by decide +kernel
theorem dC_message_29 : decode bC_message 29 = .ok (.iload_n 2, 1) := by decide +kernel
theorem dC_message_30 : decode bC_message 30 = .ok (.tableswitch 50 0 3 #[30, 35, 40, 45], 30) := by decide +kernel
theorem dC_message_60 : decode bC_message 60 = .ok (.aload_n 3, 1) := by decide +kernel
theorem dC_message_61 : decode bC_message 61 = .ok (.getfield 147, 3) := by decide +kernel
theorem dC_message_64 : decode bC_message 64 = .ok (.ireturn, 1) := by decide +kernel
theorem dC_message_65 : decode bC_message 65 = .ok (.aload_n 3, 1) := by decide +kernel
theorem dC_message_66 : decode bC_message 66 = .ok (.getfield 125, 3) := by decide +kernel
theorem dC_message_69 : decode bC_message 69 = .ok (.ireturn, 1) := by decide +kernel
theorem dC_message_70 : decode bC_message 70 = .ok (.aload_n 3, 1) := by decide +kernel
theorem dC_message_71 : decode bC_message 71 = .ok (.getfield 99, 3) := by decide +kernel
theorem dC_message_74 : decode bC_message 74 = .ok (.ireturn, 1) := by decide +kernel
theorem dC_message_75 : decode bC_message 75 = .ok (.aload_n 3, 1) := by decide +kernel
theorem dC_message_76 : decode bC_message 76 = .ok (.getfield 128, 3) := by decide +kernel
theorem dC_message_79 : decode bC_message 79 = .ok (.ireturn, 1) := by decide +kernel
theorem dC_message_80 : decode bC_message 80 = .ok (.aload_n 3, 1) := by decide +kernel
theorem dC_message_81 : decode bC_message 81 = .ok (.invokevirtual 105, 3) := by decide +kernel
theorem dC_message_84 : decode bC_message 84 = .ok (.ifCond .eq 7, 3) := by decide +kernel
theorem dC_message_87 : decode bC_message 87 = .ok (.iconst (-1), 1) := by decide +kernel
theorem dC_message_88 : decode bC_message 88 = .ok (.goto 8, 3) := by decide +kernel
theorem dC_message_91 : decode bC_message 91 = .ok (.aload_n 3, 1) := by decide +kernel
theorem dC_message_92 : decode bC_message 92 = .ok (.getfield 135, 3) := by decide +kernel
theorem dC_message_95 : decode bC_message 95 = .ok (.arraylength, 1) := by decide +kernel
theorem dC_message_96 : decode bC_message 96 = .ok (.ireturn, 1) := by decide +kernel
theorem dC_clock_0 : decode bC_clock 0 = .ok (.aload_n 0, 1) := by decide +kernel
theorem dC_clock_1 : decode bC_clock 1 = .ok (.iload_n 1, 1) := by decide +kernel
theorem dC_clock_2 : decode bC_clock 2 = .ok (.invokevirtual 54, 3) := by decide +kernel
theorem dC_clock_5 : decode bC_clock 5 = .ok (.ifCond .ne 13, 3) := by decide +kernel
theorem dC_clock_8 : decode bC_clock 8 = .ok (.new 58, 3) := by decide +kernel
theorem dC_clock_11 : decode bC_clock 11 = .ok (.dup, 1) := by decide +kernel
theorem dC_clock_12 : decode bC_clock 12 = .ok (.ldc 60, 2) := by decide +kernel
theorem dC_clock_14 : decode bC_clock 14 = .ok (.invokespecial 62, 3) := by decide +kernel
theorem dC_clock_17 : decode bC_clock 17 = .ok (.athrow, 1) := by decide +kernel
theorem dC_clock_18 : decode bC_clock 18 = .ok (.aload_n 0, 1) := by decide +kernel
theorem dC_clock_19 : decode bC_clock 19 = .ok (.getfield 29, 3) := by decide +kernel
theorem dC_clock_22 : decode bC_clock 22 = .ok (.iload_n 1, 1) := by decide +kernel
theorem dC_clock_23 : decode bC_clock 23 = .ok (.laload, 1) := by decide +kernel
theorem dC_clock_24 : decode bC_clock 24 = .ok (.lreturn, 1) := by decide +kernel
theorem dC_lacks_0 : decode bC_lacks 0 = .ok (.aload_n 0, 1) := by decide +kernel
theorem dC_lacks_1 : decode bC_lacks 1 = .ok (.iload_n 1, 1) := by decide +kernel
theorem dC_lacks_2 : decode bC_lacks 2 = .ok (.invokevirtual 54, 3) := by decide +kernel
theorem dC_lacks_5 : decode bC_lacks 5 = .ok (.ifCond .ne 13, 3) := by decide +kernel
theorem dC_lacks_8 : decode bC_lacks 8 = .ok (.new 58, 3) := by decide +kernel
theorem dC_lacks_11 : decode bC_lacks 11 = .ok (.dup, 1) := by decide +kernel
theorem dC_lacks_12 : decode bC_lacks 12 = .ok (.ldc 60, 2) := by decide +kernel
theorem dC_lacks_14 : decode bC_lacks 14 = .ok (.invokespecial 62, 3) := by decide +kernel
theorem dC_lacks_17 : decode bC_lacks 17 = .ok (.athrow, 1) := by decide +kernel
theorem dC_lacks_18 : decode bC_lacks 18 = .ok (.aload_n 0, 1) := by decide +kernel
theorem dC_lacks_19 : decode bC_lacks 19 = .ok (.invokevirtual 152, 3) := by decide +kernel
theorem dC_lacks_22 : decode bC_lacks 22 = .ok (.aload_n 0, 1) := by decide +kernel
theorem dC_lacks_23 : decode bC_lacks 23 = .ok (.getfield 38, 3) := by decide +kernel
theorem dC_lacks_26 : decode bC_lacks 26 = .ok (.iload_n 1, 1) := by decide +kernel
theorem dC_lacks_27 : decode bC_lacks 27 = .ok (.iaload, 1) := by decide +kernel
theorem dC_lacks_28 : decode bC_lacks 28 = .ok (.isub, 1) := by decide +kernel
theorem dC_lacks_29 : decode bC_lacks 29 = .ok (.ireturn, 1) := by decide +kernel
end
section
theorem dR_init_0 : decode bR_init 0 = .ok (.aload_n 0, 1) := by decide +kernel
theorem dR_init_1 : decode bR_init 1 = .ok (.invokespecial 1, 3) := by decide +kernel
theorem dR_init_4 : decode bR_init 4 = .ok (.aload_n 0, 1) := by decide +kernel
theorem dR_init_5 : decode bR_init 5 = .ok (.bipush 8, 2) := by decide +kernel
theorem dR_init_7 : decode bR_init 7 = .ok (.newarray .boolean, 2) := by decide +kernel
theorem dR_init_9 : decode bR_init 9 = .ok (.putfield 7, 3) := by decide +kernel
theorem dR_init_12 : decode bR_init 12 = .ok (.aload_n 0, 1) := by decide +kernel
theorem dR_init_13 : decode bR_init 13 = .ok (.bipush 8, 2) := by decide +kernel
theorem dR_init_15 : decode bR_init 15 = .ok (.newarray .int, 2) := by decide +kernel
theorem dR_init_17 : decode bR_init 17 = .ok (.putfield 13, 3) := by decide +kernel
theorem dR_init_20 : decode bR_init 20 = .ok (.aload_n 0, 1) := by decide +kernel
theorem dR_init_21 : decode bR_init 21 = .ok (.sipush 488, 3) := by decide +kernel
theorem dR_init_24 : decode bR_init 24 = .ok (.newarray .int, 2) := by decide +kernel
theorem dR_init_26 : decode bR_init 26 = .ok (.putfield 17, 3) := by decide +kernel
theorem dR_init_29 : decode bR_init 29 = .ok (.aload_n 0, 1) := by decide +kernel
theorem dR_init_30 : decode bR_init 30 = .ok (.sipush 3840, 3) := by decide +kernel
theorem dR_init_33 : decode bR_init 33 = .ok (.newarray .int, 2) := by decide +kernel
theorem dR_init_35 : decode bR_init 35 = .ok (.putfield 20, 3) := by decide +kernel
theorem dR_init_38 : decode bR_init 38 = .ok (.aload_n 0, 1) := by decide +kernel
theorem dR_init_39 : decode bR_init 39 = .ok (.bipush 8, 2) := by decide +kernel
theorem dR_init_41 : decode bR_init 41 = .ok (.newarray .int, 2) := by decide +kernel
theorem dR_init_43 : decode bR_init 43 = .ok (.putfield 23, 3) := by decide +kernel
theorem dR_init_46 : decode bR_init 46 = .ok (.aload_n 0, 1) := by decide +kernel
theorem dR_init_47 : decode bR_init 47 = .ok (.bipush 120, 2) := by decide +kernel
theorem dR_init_49 : decode bR_init 49 = .ok (.newarray .int, 2) := by decide +kernel
theorem dR_init_51 : decode bR_init 51 = .ok (.putfield 26, 3) := by decide +kernel
theorem dR_init_54 : decode bR_init 54 = .ok (.aload_n 0, 1) := by decide +kernel
theorem dR_init_55 : decode bR_init 55 = .ok (.bipush 120, 2) := by decide +kernel
theorem dR_init_57 : decode bR_init 57 = .ok (.newarray .int, 2) := by decide +kernel
theorem dR_init_59 : decode bR_init 59 = .ok (.putfield 29, 3) := by decide +kernel
theorem dR_init_62 : decode bR_init 62 = .ok (.aload_n 0, 1) := by decide +kernel
theorem dR_init_63 : decode bR_init 63 = .ok (.bipush 120, 2) := by decide +kernel
theorem dR_init_65 : decode bR_init 65 = .ok (.newarray .int, 2) := by decide +kernel
theorem dR_init_67 : decode bR_init 67 = .ok (.putfield 32, 3) := by decide +kernel
theorem dR_init_70 : decode bR_init 70 = .ok (.aload_n 0, 1) := by decide +kernel
theorem dR_init_71 : decode bR_init 71 = .ok (.bipush 120, 2) := by decide +kernel
theorem dR_init_73 : decode bR_init 73 = .ok (.newarray .int, 2) := by decide +kernel
theorem dR_init_75 : decode bR_init 75 = .ok (.putfield 35, 3) := by decide +kernel
theorem dR_init_78 : decode bR_init 78 = .ok (.aload_n 0, 1) := by decide +kernel
theorem dR_init_79 : decode bR_init 79 = .ok (.bipush 120, 2) := by decide +kernel
theorem dR_init_81 : decode bR_init 81 = .ok (.newarray .int, 2) := by decide +kernel
theorem dR_init_83 : decode bR_init 83 = .ok (.putfield 38, 3) := by decide +kernel
theorem dR_init_86 : decode bR_init 86 = .ok (.aload_n 0, 1) := by decide +kernel
theorem dR_init_87 : decode bR_init 87 = .ok (.bipush 120, 2) := by decide +kernel
theorem dR_init_89 : decode bR_init 89 = .ok (.newarray .long, 2) := by decide +kernel
theorem dR_init_91 : decode bR_init 91 = .ok (.putfield 41, 3) := by decide +kernel
theorem dR_init_94 : decode bR_init 94 = .ok (.aload_n 0, 1) := by decide +kernel
theorem dR_init_95 : decode bR_init 95 = .ok (.ldc 45, 2) := by decide +kernel
theorem dR_init_97 : decode bR_init 97 = .ok (.newarray .int, 2) := by decide +kernel
theorem dR_init_99 : decode bR_init 99 = .ok (.putfield 46, 3) := by decide +kernel
theorem dR_init_102 : decode bR_init 102 = .ok (.aload_n 0, 1) := by decide +kernel
theorem dR_init_103 : decode bR_init 103 = .ok (.sipush 480, 3) := by decide +kernel
theorem dR_init_106 : decode bR_init 106 = .ok (.newarray .int, 2) := by decide +kernel
theorem dR_init_108 : decode bR_init 108 = .ok (.putfield 49, 3) := by decide +kernel
theorem dR_init_111 : decode bR_init 111 = .ok (.aload_n 0, 1) := by decide +kernel
theorem dR_init_112 : decode bR_init 112 = .ok (.iload_n 1, 1) := by decide +kernel
theorem dR_init_113 : decode bR_init 113 = .ok (.iconst 2, 1) := by decide +kernel
theorem dR_init_114 : decode bR_init 114 = .ok (.if_icmp .ge 7, 3) := by decide +kernel
theorem dR_init_117 : decode bR_init 117 = .ok (.iconst 2, 1) := by decide +kernel
theorem dR_init_118 : decode bR_init 118 = .ok (.goto 15, 3) := by decide +kernel
theorem dR_init_121 : decode bR_init 121 = .ok (.iload_n 1, 1) := by decide +kernel
theorem dR_init_122 : decode bR_init 122 = .ok (.bipush 8, 2) := by decide +kernel
theorem dR_init_124 : decode bR_init 124 = .ok (.if_icmp .le 8, 3) := by decide +kernel
theorem dR_init_127 : decode bR_init 127 = .ok (.bipush 8, 2) := by decide +kernel
theorem dR_init_129 : decode bR_init 129 = .ok (.goto 4, 3) := by decide +kernel
theorem dR_init_132 : decode bR_init 132 = .ok (.iload_n 1, 1) := by decide +kernel
theorem dR_init_133 : decode bR_init 133 = .ok (.putfield 52, 3) := by decide +kernel
theorem dR_init_136 : decode bR_init 136 = .ok (.aload_n 0, 1) := by decide +kernel
theorem dR_init_137 : decode bR_init 137 = .ok (.iload_n 2, 1) := by decide +kernel
theorem dR_init_138 : decode bR_init 138 = .ok (.bipush 16, 2) := by decide +kernel
theorem dR_init_140 : decode bR_init 140 = .ok (.if_icmp .ge 8, 3) := by decide +kernel
theorem dR_init_143 : decode bR_init 143 = .ok (.bipush 16, 2) := by decide +kernel
theorem dR_init_145 : decode bR_init 145 = .ok (.goto 17, 3) := by decide +kernel
theorem dR_init_148 : decode bR_init 148 = .ok (.iload_n 2, 1) := by decide +kernel
theorem dR_init_149 : decode bR_init 149 = .ok (.sipush 2000, 3) := by decide +kernel
theorem dR_init_152 : decode bR_init 152 = .ok (.if_icmp .le 9, 3) := by decide +kernel
theorem dR_init_155 : decode bR_init 155 = .ok (.sipush 2000, 3) := by decide +kernel
theorem dR_init_158 : decode bR_init 158 = .ok (.goto 4, 3) := by decide +kernel
theorem dR_init_161 : decode bR_init 161 = .ok (.iload_n 2, 1) := by decide +kernel
theorem dR_init_162 : decode bR_init 162 = .ok (.putfield 56, 3) := by decide +kernel
theorem dR_init_165 : decode bR_init 165 = .ok (.iconst 0, 1) := by decide +kernel
theorem dR_init_166 : decode bR_init 166 = .ok (.istore_n 3, 1) := by decide +kernel
theorem dR_init_167 : decode bR_init 167 = .ok (.iload_n 3, 1) := by decide +kernel
theorem dR_init_168 : decode bR_init 168 = .ok (.bipush 120, 2) := by decide +kernel
theorem dR_init_170 : decode bR_init 170 = .ok (.if_icmp .ge 16, 3) := by decide +kernel
theorem dR_init_173 : decode bR_init 173 = .ok (.aload_n 0, 1) := by decide +kernel
theorem dR_init_174 : decode bR_init 174 = .ok (.getfield 26, 3) := by decide +kernel
theorem dR_init_177 : decode bR_init 177 = .ok (.iload_n 3, 1) := by decide +kernel
theorem dR_init_178 : decode bR_init 178 = .ok (.iload_n 3, 1) := by decide +kernel
theorem dR_init_179 : decode bR_init 179 = .ok (.iastore, 1) := by decide +kernel
theorem dR_init_180 : decode bR_init 180 = .ok (.iinc 3 1, 3) := by decide +kernel
theorem dR_init_183 : decode bR_init 183 = .ok (.goto (-16), 3) := by decide +kernel
theorem dR_init_186 : decode bR_init 186 = .ok (.return_, 1) := by decide +kernel
theorem dR_thrown_0 : decode bR_thrown 0 = .ok (.aload_n 0, 1) := by decide +kernel
theorem dR_thrown_1 : decode bR_thrown 1 = .ok (.getfield 59, 3) := by decide +kernel
theorem dR_thrown_4 : decode bR_thrown 4 = .ok (.ireturn, 1) := by decide +kernel
theorem dR_make_0 : decode bR_make 0 = .ok (.aload_n 0, 1) := by decide +kernel
theorem dR_make_1 : decode bR_make 1 = .ok (.aload_n 0, 1) := by decide +kernel
theorem dR_make_2 : decode bR_make 2 = .ok (.iload_n 1, 1) := by decide +kernel
theorem dR_make_3 : decode bR_make 3 = .ok (.invokevirtual 79, 3) := by decide +kernel
theorem dR_make_6 : decode bR_make 6 = .ok (.ifCond .ne 7, 3) := by decide +kernel
theorem dR_make_9 : decode bR_make 9 = .ok (.iconst 1, 1) := by decide +kernel
theorem dR_make_10 : decode bR_make 10 = .ok (.goto 68, 3) := by decide +kernel
theorem dR_make_13 : decode bR_make 13 = .ok (.iload_n 2, 1) := by decide +kernel
theorem dR_make_14 : decode bR_make 14 = .ok (.iconst 1, 1) := by decide +kernel
theorem dR_make_15 : decode bR_make 15 = .ok (.if_icmp .lt 10, 3) := by decide +kernel
theorem dR_make_18 : decode bR_make 18 = .ok (.iload_n 2, 1) := by decide +kernel
theorem dR_make_19 : decode bR_make 19 = .ok (.sipush 400, 3) := by decide +kernel
theorem dR_make_22 : decode bR_make 22 = .ok (.if_icmp .le 7, 3) := by decide +kernel
theorem dR_make_25 : decode bR_make 25 = .ok (.iconst 2, 1) := by decide +kernel
theorem dR_make_26 : decode bR_make 26 = .ok (.goto 52, 3) := by decide +kernel
theorem dR_make_29 : decode bR_make 29 = .ok (.aload_n 0, 1) := by decide +kernel
theorem dR_make_30 : decode bR_make 30 = .ok (.getfield 7, 3) := by decide +kernel
theorem dR_make_33 : decode bR_make 33 = .ok (.aload_n 0, 1) := by decide +kernel
theorem dR_make_34 : decode bR_make 34 = .ok (.iload_n 1, 1) := by decide +kernel
theorem dR_make_35 : decode bR_make 35 = .ok (.invokevirtual 79, 3) := by decide +kernel
theorem dR_make_38 : decode bR_make 38 = .ok (.ifCond .eq 7, 3) := by decide +kernel
theorem dR_make_41 : decode bR_make 41 = .ok (.iload_n 1, 1) := by decide +kernel
theorem dR_make_42 : decode bR_make 42 = .ok (.goto 4, 3) := by decide +kernel
theorem dR_make_45 : decode bR_make 45 = .ok (.iconst 0, 1) := by decide +kernel
theorem dR_make_46 : decode bR_make 46 = .ok (.baload, 1) := by decide +kernel
theorem dR_make_47 : decode bR_make 47 = .ok (.ifCond .ne 26, 3) := by decide +kernel
theorem dR_make_50 : decode bR_make 50 = .ok (.aload_n 0, 1) := by decide +kernel
theorem dR_make_51 : decode bR_make 51 = .ok (.getfield 13, 3) := by decide +kernel
theorem dR_make_54 : decode bR_make 54 = .ok (.aload_n 0, 1) := by decide +kernel
theorem dR_make_55 : decode bR_make 55 = .ok (.iload_n 1, 1) := by decide +kernel
theorem dR_make_56 : decode bR_make 56 = .ok (.invokevirtual 79, 3) := by decide +kernel
theorem dR_make_59 : decode bR_make 59 = .ok (.ifCond .eq 7, 3) := by decide +kernel
theorem dR_make_62 : decode bR_make 62 = .ok (.iload_n 1, 1) := by decide +kernel
theorem dR_make_63 : decode bR_make 63 = .ok (.goto 4, 3) := by decide +kernel
theorem dR_make_66 : decode bR_make 66 = .ok (.iconst 0, 1) := by decide +kernel
theorem dR_make_67 : decode bR_make 67 = .ok (.iaload, 1) := by decide +kernel
theorem dR_make_68 : decode bR_make 68 = .ok (.bipush 60, 2) := by decide +kernel
theorem dR_make_70 : decode bR_make 70 = .ok (.if_icmp .ne 7, 3) := by decide +kernel
theorem dR_make_73 : decode bR_make 73 = .ok (.iconst 3, 1) := by decide +kernel
theorem dR_make_74 : decode bR_make 74 = .ok (.goto 4, 3) := by decide +kernel
theorem dR_make_77 : decode bR_make 77 = .ok (.iconst 0, 1) := by decide +kernel
theorem dR_make_78 : decode bR_make 78 = .ok (.putfield 59, 3) := by decide +kernel
theorem dR_make_81 : decode bR_make 81 = .ok (.aload_n 0, 1) := by decide +kernel
theorem dR_make_82 : decode bR_make 82 = .ok (.getfield 59, 3) := by decide +kernel
theorem dR_make_85 : decode bR_make 85 = .ok (.ifCond .le 5, 3) := by decide +kernel
theorem dR_make_88 : decode bR_make 88 = .ok (.iconst 0, 1) := by decide +kernel
theorem dR_make_89 : decode bR_make 89 = .ok (.ireturn, 1) := by decide +kernel
theorem dR_make_90 : decode bR_make 90 = .ok (.aload_n 0, 1) := by decide +kernel
theorem dR_make_91 : decode bR_make 91 = .ok (.getfield 17, 3) := by decide +kernel
theorem dR_make_94 : decode bR_make 94 = .ok (.bipush 61, 2) := by decide +kernel
theorem dR_make_96 : decode bR_make 96 = .ok (.iload_n 1, 1) := by decide +kernel
theorem dR_make_97 : decode bR_make 97 = .ok (.imul, 1) := by decide +kernel
theorem dR_make_98 : decode bR_make 98 = .ok (.aload_n 0, 1) := by decide +kernel
theorem dR_make_99 : decode bR_make 99 = .ok (.getfield 13, 3) := by decide +kernel
theorem dR_make_102 : decode bR_make 102 = .ok (.iload_n 1, 1) := by decide +kernel
theorem dR_make_103 : decode bR_make 103 = .ok (.iaload, 1) := by decide +kernel
theorem dR_make_104 : decode bR_make 104 = .ok (.iadd, 1) := by decide +kernel
theorem dR_make_105 : decode bR_make 105 = .ok (.iload_n 2, 1) := by decide +kernel
theorem dR_make_106 : decode bR_make 106 = .ok (.iastore, 1) := by decide +kernel
theorem dR_make_107 : decode bR_make 107 = .ok (.aload_n 0, 1) := by decide +kernel
theorem dR_make_108 : decode bR_make 108 = .ok (.getfield 13, 3) := by decide +kernel
theorem dR_make_111 : decode bR_make 111 = .ok (.iload_n 1, 1) := by decide +kernel
theorem dR_make_112 : decode bR_make 112 = .ok (.dup2, 1) := by decide +kernel
theorem dR_make_113 : decode bR_make 113 = .ok (.iaload, 1) := by decide +kernel
theorem dR_make_114 : decode bR_make 114 = .ok (.iconst 1, 1) := by decide +kernel
theorem dR_make_115 : decode bR_make 115 = .ok (.iadd, 1) := by decide +kernel
theorem dR_make_116 : decode bR_make 116 = .ok (.iastore, 1) := by decide +kernel
theorem dR_make_117 : decode bR_make 117 = .ok (.aload_n 0, 1) := by decide +kernel
theorem dR_make_118 : decode bR_make 118 = .ok (.iload_n 1, 1) := by decide +kernel
theorem dR_make_119 : decode bR_make 119 = .ok (.iload_n 1, 1) := by decide +kernel
theorem dR_make_120 : decode bR_make 120 = .ok (.bipush 8, 2) := by decide +kernel
theorem dR_make_122 : decode bR_make 122 = .ok (.aload_n 0, 1) := by decide +kernel
theorem dR_make_123 : decode bR_make 123 = .ok (.getfield 13, 3) := by decide +kernel
theorem dR_make_126 : decode bR_make 126 = .ok (.iload_n 1, 1) := by decide +kernel
theorem dR_make_127 : decode bR_make 127 = .ok (.iaload, 1) := by decide +kernel
theorem dR_make_128 : decode bR_make 128 = .ok (.imul, 1) := by decide +kernel
theorem dR_make_129 : decode bR_make 129 = .ok (.iadd, 1) := by decide +kernel
theorem dR_make_130 : decode bR_make 130 = .ok (.invokevirtual 83, 3) := by decide +kernel
theorem dR_make_133 : decode bR_make 133 = .ok (.aload_n 0, 1) := by decide +kernel
theorem dR_make_134 : decode bR_make 134 = .ok (.getfield 13, 3) := by decide +kernel
theorem dR_make_137 : decode bR_make 137 = .ok (.iload_n 1, 1) := by decide +kernel
theorem dR_make_138 : decode bR_make 138 = .ok (.iaload, 1) := by decide +kernel
theorem dR_make_139 : decode bR_make 139 = .ok (.ireturn, 1) := by decide +kernel
theorem dR_isReplica_0 : decode bR_isReplica 0 = .ok (.iload_n 1, 1) := by decide +kernel
theorem dR_isReplica_1 : decode bR_isReplica 1 = .ok (.ifCond .lt 15, 3) := by decide +kernel
theorem dR_isReplica_4 : decode bR_isReplica 4 = .ok (.iload_n 1, 1) := by decide +kernel
theorem dR_isReplica_5 : decode bR_isReplica 5 = .ok (.aload_n 0, 1) := by decide +kernel
theorem dR_isReplica_6 : decode bR_isReplica 6 = .ok (.getfield 52, 3) := by decide +kernel
theorem dR_isReplica_9 : decode bR_isReplica 9 = .ok (.if_icmp .ge 7, 3) := by decide +kernel
theorem dR_isReplica_12 : decode bR_isReplica 12 = .ok (.iconst 1, 1) := by decide +kernel
theorem dR_isReplica_13 : decode bR_isReplica 13 = .ok (.goto 4, 3) := by decide +kernel
theorem dR_isReplica_16 : decode bR_isReplica 16 = .ok (.iconst 0, 1) := by decide +kernel
theorem dR_isReplica_17 : decode bR_isReplica 17 = .ok (.ireturn, 1) := by decide +kernel
theorem dR_enter_0 : decode bR_enter 0 = .ok (.aload_n 0, 1) := by decide +kernel
theorem dR_enter_1 : decode bR_enter 1 = .ok (.getfield 20, 3) := by decide +kernel
theorem dR_enter_4 : decode bR_enter 4 = .ok (.sipush 480, 3) := by decide +kernel
theorem dR_enter_7 : decode bR_enter 7 = .ok (.iload_n 1, 1) := by decide +kernel
theorem dR_enter_8 : decode bR_enter 8 = .ok (.imul, 1) := by decide +kernel
theorem dR_enter_9 : decode bR_enter 9 = .ok (.aload_n 0, 1) := by decide +kernel
theorem dR_enter_10 : decode bR_enter 10 = .ok (.getfield 23, 3) := by decide +kernel
theorem dR_enter_13 : decode bR_enter 13 = .ok (.iload_n 1, 1) := by decide +kernel
theorem dR_enter_14 : decode bR_enter 14 = .ok (.iaload, 1) := by decide +kernel
theorem dR_enter_15 : decode bR_enter 15 = .ok (.iadd, 1) := by decide +kernel
theorem dR_enter_16 : decode bR_enter 16 = .ok (.iload_n 2, 1) := by decide +kernel
theorem dR_enter_17 : decode bR_enter 17 = .ok (.iastore, 1) := by decide +kernel
theorem dR_enter_18 : decode bR_enter 18 = .ok (.aload_n 0, 1) := by decide +kernel
theorem dR_enter_19 : decode bR_enter 19 = .ok (.getfield 23, 3) := by decide +kernel
theorem dR_enter_22 : decode bR_enter 22 = .ok (.iload_n 1, 1) := by decide +kernel
theorem dR_enter_23 : decode bR_enter 23 = .ok (.dup2, 1) := by decide +kernel
theorem dR_enter_24 : decode bR_enter 24 = .ok (.iaload, 1) := by decide +kernel
theorem dR_enter_25 : decode bR_enter 25 = .ok (.iconst 1, 1) := by decide +kernel
theorem dR_enter_26 : decode bR_enter 26 = .ok (.iadd, 1) := by decide +kernel
theorem dR_enter_27 : decode bR_enter 27 = .ok (.iastore, 1) := by decide +kernel
theorem dR_enter_28 : decode bR_enter 28 = .ok (.return_, 1) := by decide +kernel
theorem dR_tick_0 : decode bR_tick 0 = .ok (.aload_n 0, 1) := by decide +kernel
theorem dR_tick_1 : decode bR_tick 1 = .ok (.aload_n 0, 1) := by decide +kernel
theorem dR_tick_2 : decode bR_tick 2 = .ok (.iload_n 1, 1) := by decide +kernel
theorem dR_tick_3 : decode bR_tick 3 = .ok (.invokevirtual 79, 3) := by decide +kernel
theorem dR_tick_6 : decode bR_tick 6 = .ok (.ifCond .ne 7, 3) := by decide +kernel
theorem dR_tick_9 : decode bR_tick 9 = .ok (.iconst 1, 1) := by decide +kernel
theorem dR_tick_10 : decode bR_tick 10 = .ok (.goto 29, 3) := by decide +kernel
theorem dR_tick_13 : decode bR_tick 13 = .ok (.aload_n 0, 1) := by decide +kernel
theorem dR_tick_14 : decode bR_tick 14 = .ok (.getfield 7, 3) := by decide +kernel
theorem dR_tick_17 : decode bR_tick 17 = .ok (.aload_n 0, 1) := by decide +kernel
theorem dR_tick_18 : decode bR_tick 18 = .ok (.iload_n 1, 1) := by decide +kernel
theorem dR_tick_19 : decode bR_tick 19 = .ok (.invokevirtual 79, 3) := by decide +kernel
theorem dR_tick_22 : decode bR_tick 22 = .ok (.ifCond .eq 7, 3) := by decide +kernel
theorem dR_tick_25 : decode bR_tick 25 = .ok (.iload_n 1, 1) := by decide +kernel
theorem dR_tick_26 : decode bR_tick 26 = .ok (.goto 4, 3) := by decide +kernel
theorem dR_tick_29 : decode bR_tick 29 = .ok (.iconst 0, 1) := by decide +kernel
theorem dR_tick_30 : decode bR_tick 30 = .ok (.baload, 1) := by decide +kernel
theorem dR_tick_31 : decode bR_tick 31 = .ok (.ifCond .eq 7, 3) := by decide +kernel
theorem dR_tick_34 : decode bR_tick 34 = .ok (.iconst 2, 1) := by decide +kernel
theorem dR_tick_35 : decode bR_tick 35 = .ok (.goto 4, 3) := by decide +kernel
theorem dR_tick_38 : decode bR_tick 38 = .ok (.iconst 0, 1) := by decide +kernel
theorem dR_tick_39 : decode bR_tick 39 = .ok (.putfield 59, 3) := by decide +kernel
theorem dR_tick_42 : decode bR_tick 42 = .ok (.aload_n 0, 1) := by decide +kernel
theorem dR_tick_43 : decode bR_tick 43 = .ok (.getfield 59, 3) := by decide +kernel
theorem dR_tick_46 : decode bR_tick 46 = .ok (.ifCond .le 5, 3) := by decide +kernel
theorem dR_tick_49 : decode bR_tick 49 = .ok (.iconst 0, 1) := by decide +kernel
theorem dR_tick_50 : decode bR_tick 50 = .ok (.ireturn, 1) := by decide +kernel
theorem dR_tick_51 : decode bR_tick 51 = .ok (.aload_n 0, 1) := by decide +kernel
theorem dR_tick_52 : decode bR_tick 52 = .ok (.iload_n 1, 1) := by decide +kernel
theorem dR_tick_53 : decode bR_tick 53 = .ok (.invokevirtual 87, 3) := by decide +kernel
theorem dR_tick_56 : decode bR_tick 56 = .ok (.lstore_n 2, 1) := by decide +kernel
theorem dR_tick_57 : decode bR_tick 57 = .ok (.iconst 0, 1) := by decide +kernel
theorem dR_tick_58 : decode bR_tick 58 = .ok (.istore 4, 2) := by decide +kernel
theorem dR_tick_60 : decode bR_tick 60 = .ok (.iload 4, 2) := by decide +kernel
theorem dR_tick_62 : decode bR_tick 62 = .ok (.aload_n 0, 1) := by decide +kernel
theorem dR_tick_63 : decode bR_tick 63 = .ok (.getfield 52, 3) := by decide +kernel
theorem dR_tick_66 : decode bR_tick 66 = .ok (.if_icmp .ge 30, 3) := by decide +kernel
theorem dR_tick_69 : decode bR_tick 69 = .ok (.iload 4, 2) := by decide +kernel
theorem dR_tick_71 : decode bR_tick 71 = .ok (.iload_n 1, 1) := by decide +kernel
theorem dR_tick_72 : decode bR_tick 72 = .ok (.if_icmp .ne 7, 3) := by decide +kernel
theorem dR_tick_75 : decode bR_tick 75 = .ok (.iconst (-1), 1) := by decide +kernel
theorem dR_tick_76 : decode bR_tick 76 = .ok (.goto 12, 3) := by decide +kernel
theorem dR_tick_79 : decode bR_tick 79 = .ok (.aload_n 0, 1) := by decide +kernel
theorem dR_tick_80 : decode bR_tick 80 = .ok (.iload_n 1, 1) := by decide +kernel
theorem dR_tick_81 : decode bR_tick 81 = .ok (.iload 4, 2) := by decide +kernel
theorem dR_tick_83 : decode bR_tick 83 = .ok (.iconst (-1), 1) := by decide +kernel
theorem dR_tick_84 : decode bR_tick 84 = .ok (.lload_n 2, 1) := by decide +kernel
theorem dR_tick_85 : decode bR_tick 85 = .ok (.invokevirtual 91, 3) := by decide +kernel
theorem dR_tick_88 : decode bR_tick 88 = .ok (.istore 5, 2) := by decide +kernel
theorem dR_tick_90 : decode bR_tick 90 = .ok (.iinc 4 1, 3) := by decide +kernel
theorem dR_tick_93 : decode bR_tick 93 = .ok (.goto (-33), 3) := by decide +kernel
theorem dR_tick_96 : decode bR_tick 96 = .ok (.aload_n 0, 1) := by decide +kernel
theorem dR_tick_97 : decode bR_tick 97 = .ok (.getfield 52, 3) := by decide +kernel
theorem dR_tick_100 : decode bR_tick 100 = .ok (.iconst 1, 1) := by decide +kernel
theorem dR_tick_101 : decode bR_tick 101 = .ok (.isub, 1) := by decide +kernel
theorem dR_tick_102 : decode bR_tick 102 = .ok (.ireturn, 1) := by decide +kernel
theorem dR_clockOf_0 : decode bR_clockOf 0 = .ok (.lconst 0, 1) := by decide +kernel
theorem dR_clockOf_1 : decode bR_clockOf 1 = .ok (.lstore_n 2, 1) := by decide +kernel
theorem dR_clockOf_2 : decode bR_clockOf 2 = .ok (.bipush 7, 2) := by decide +kernel
theorem dR_clockOf_4 : decode bR_clockOf 4 = .ok (.istore 4, 2) := by decide +kernel
theorem dR_clockOf_6 : decode bR_clockOf 6 = .ok (.iload 4, 2) := by decide +kernel
theorem dR_clockOf_8 : decode bR_clockOf 8 = .ok (.ifCond .lt 23, 3) := by decide +kernel
theorem dR_clockOf_11 : decode bR_clockOf 11 = .ok (.lload_n 2, 1) := by decide +kernel
theorem dR_clockOf_12 : decode bR_clockOf 12 = .ok (.bipush 8, 2) := by decide +kernel
theorem dR_clockOf_14 : decode bR_clockOf 14 = .ok (.lshl, 1) := by decide +kernel
theorem dR_clockOf_15 : decode bR_clockOf 15 = .ok (.aload_n 0, 1) := by decide +kernel
theorem dR_clockOf_16 : decode bR_clockOf 16 = .ok (.iload_n 1, 1) := by decide +kernel
theorem dR_clockOf_17 : decode bR_clockOf 17 = .ok (.iload 4, 2) := by decide +kernel
theorem dR_clockOf_19 : decode bR_clockOf 19 = .ok (.invokevirtual 65, 3) := by decide +kernel
theorem dR_clockOf_22 : decode bR_clockOf 22 = .ok (.i2l, 1) := by decide +kernel
theorem dR_clockOf_23 : decode bR_clockOf 23 = .ok (.lor, 1) := by decide +kernel
theorem dR_clockOf_24 : decode bR_clockOf 24 = .ok (.lstore_n 2, 1) := by decide +kernel
theorem dR_clockOf_25 : decode bR_clockOf 25 = .ok (.iinc 4 (-1), 3) := by decide +kernel
theorem dR_clockOf_28 : decode bR_clockOf 28 = .ok (.goto (-22), 3) := by decide +kernel
theorem dR_clockOf_31 : decode bR_clockOf 31 = .ok (.lload_n 2, 1) := by decide +kernel
theorem dR_clockOf_32 : decode bR_clockOf 32 = .ok (.lreturn, 1) := by decide +kernel
theorem dR_reached_0 : decode bR_reached 0 = .ok (.iconst 0, 1) := by decide +kernel
theorem dR_reached_1 : decode bR_reached 1 = .ok (.istore_n 3, 1) := by decide +kernel
theorem dR_reached_2 : decode bR_reached 2 = .ok (.iconst 0, 1) := by decide +kernel
theorem dR_reached_3 : decode bR_reached 3 = .ok (.istore 4, 2) := by decide +kernel
theorem dR_reached_5 : decode bR_reached 5 = .ok (.iload 4, 2) := by decide +kernel
theorem dR_reached_7 : decode bR_reached 7 = .ok (.aload_n 0, 1) := by decide +kernel
theorem dR_reached_8 : decode bR_reached 8 = .ok (.getfield 23, 3) := by decide +kernel
theorem dR_reached_11 : decode bR_reached 11 = .ok (.iload_n 1, 1) := by decide +kernel
theorem dR_reached_12 : decode bR_reached 12 = .ok (.iaload, 1) := by decide +kernel
theorem dR_reached_13 : decode bR_reached 13 = .ok (.if_icmp .ge 37, 3) := by decide +kernel
theorem dR_reached_16 : decode bR_reached 16 = .ok (.iload_n 3, 1) := by decide +kernel
theorem dR_reached_17 : decode bR_reached 17 = .ok (.aload_n 0, 1) := by decide +kernel
theorem dR_reached_18 : decode bR_reached 18 = .ok (.getfield 20, 3) := by decide +kernel
theorem dR_reached_21 : decode bR_reached 21 = .ok (.sipush 480, 3) := by decide +kernel
theorem dR_reached_24 : decode bR_reached 24 = .ok (.iload_n 1, 1) := by decide +kernel
theorem dR_reached_25 : decode bR_reached 25 = .ok (.imul, 1) := by decide +kernel
theorem dR_reached_26 : decode bR_reached 26 = .ok (.iload 4, 2) := by decide +kernel
theorem dR_reached_28 : decode bR_reached 28 = .ok (.iadd, 1) := by decide +kernel
theorem dR_reached_29 : decode bR_reached 29 = .ok (.iaload, 1) := by decide +kernel
theorem dR_reached_30 : decode bR_reached 30 = .ok (.bipush 8, 2) := by decide +kernel
theorem dR_reached_32 : decode bR_reached 32 = .ok (.irem, 1) := by decide +kernel
theorem dR_reached_33 : decode bR_reached 33 = .ok (.iload_n 2, 1) := by decide +kernel
theorem dR_reached_34 : decode bR_reached 34 = .ok (.if_icmp .ne 7, 3) := by decide +kernel
theorem dR_reached_37 : decode bR_reached 37 = .ok (.iconst 1, 1) := by decide +kernel
theorem dR_reached_38 : decode bR_reached 38 = .ok (.goto 4, 3) := by decide +kernel
theorem dR_reached_41 : decode bR_reached 41 = .ok (.iconst 0, 1) := by decide +kernel
theorem dR_reached_42 : decode bR_reached 42 = .ok (.iadd, 1) := by decide +kernel
theorem dR_reached_43 : decode bR_reached 43 = .ok (.istore_n 3, 1) := by decide +kernel
theorem dR_reached_44 : decode bR_reached 44 = .ok (.iinc 4 1, 3) := by decide +kernel
theorem dR_reached_47 : decode bR_reached 47 = .ok (.goto (-42), 3) := by decide +kernel
theorem dR_reached_50 : decode bR_reached 50 = .ok (.iload_n 3, 1) := by decide +kernel
theorem dR_reached_51 : decode bR_reached 51 = .ok (.ireturn, 1) := by decide +kernel
theorem dR_send_0 : decode bR_send 0 = .ok (.aload_n 0, 1) := by decide +kernel
theorem dR_send_1 : decode bR_send 1 = .ok (.dup, 1) := by decide +kernel
theorem dR_send_2 : decode bR_send 2 = .ok (.getfield 69, 3) := by decide +kernel
theorem dR_send_5 : decode bR_send 5 = .ok (.iconst 1, 1) := by decide +kernel
theorem dR_send_6 : decode bR_send 6 = .ok (.iadd, 1) := by decide +kernel
theorem dR_send_7 : decode bR_send 7 = .ok (.putfield 69, 3) := by decide +kernel
theorem dR_send_10 : decode bR_send 10 = .ok (.aload_n 0, 1) := by decide +kernel
theorem dR_send_11 : decode bR_send 11 = .ok (.getfield 62, 3) := by decide +kernel
theorem dR_send_14 : decode bR_send 14 = .ok (.bipush 120, 2) := by decide +kernel
theorem dR_send_16 : decode bR_send 16 = .ok (.if_icmp .ne 20, 3) := by decide +kernel
theorem dR_send_19 : decode bR_send 19 = .ok (.aload_n 0, 1) := by decide +kernel
theorem dR_send_20 : decode bR_send 20 = .ok (.dup, 1) := by decide +kernel
theorem dR_send_21 : decode bR_send 21 = .ok (.getfield 72, 3) := by decide +kernel
theorem dR_send_24 : decode bR_send 24 = .ok (.iconst 1, 1) := by decide +kernel
theorem dR_send_25 : decode bR_send 25 = .ok (.iadd, 1) := by decide +kernel
theorem dR_send_26 : decode bR_send 26 = .ok (.putfield 72, 3) := by decide +kernel
theorem dR_send_29 : decode bR_send 29 = .ok (.aload_n 0, 1) := by decide +kernel
theorem dR_send_30 : decode bR_send 30 = .ok (.getfield 69, 3) := by decide +kernel
theorem dR_send_33 : decode bR_send 33 = .ok (.iconst 1, 1) := by decide +kernel
theorem dR_send_34 : decode bR_send 34 = .ok (.isub, 1) := by decide +kernel
theorem dR_send_35 : decode bR_send 35 = .ok (.ireturn, 1) := by decide +kernel
theorem dR_send_36 : decode bR_send 36 = .ok (.aload_n 0, 1) := by decide +kernel
theorem dR_send_37 : decode bR_send 37 = .ok (.getfield 26, 3) := by decide +kernel
theorem dR_send_40 : decode bR_send 40 = .ok (.aload_n 0, 1) := by decide +kernel
theorem dR_send_41 : decode bR_send 41 = .ok (.getfield 62, 3) := by decide +kernel
theorem dR_send_44 : decode bR_send 44 = .ok (.iaload, 1) := by decide +kernel
theorem dR_send_45 : decode bR_send 45 = .ok (.istore 6, 2) := by decide +kernel
theorem dR_send_47 : decode bR_send 47 = .ok (.aload_n 0, 1) := by decide +kernel
theorem dR_send_48 : decode bR_send 48 = .ok (.dup, 1) := by decide +kernel
theorem dR_send_49 : decode bR_send 49 = .ok (.getfield 62, 3) := by decide +kernel
theorem dR_send_52 : decode bR_send 52 = .ok (.iconst 1, 1) := by decide +kernel
theorem dR_send_53 : decode bR_send 53 = .ok (.iadd, 1) := by decide +kernel
theorem dR_send_54 : decode bR_send 54 = .ok (.putfield 62, 3) := by decide +kernel
theorem dR_send_57 : decode bR_send 57 = .ok (.aload_n 0, 1) := by decide +kernel
theorem dR_send_58 : decode bR_send 58 = .ok (.getfield 29, 3) := by decide +kernel
theorem dR_send_61 : decode bR_send 61 = .ok (.iload 6, 2) := by decide +kernel
theorem dR_send_63 : decode bR_send 63 = .ok (.aload_n 0, 1) := by decide +kernel
theorem dR_send_64 : decode bR_send 64 = .ok (.getfield 69, 3) := by decide +kernel
theorem dR_send_67 : decode bR_send 67 = .ok (.iconst 1, 1) := by decide +kernel
theorem dR_send_68 : decode bR_send 68 = .ok (.isub, 1) := by decide +kernel
theorem dR_send_69 : decode bR_send 69 = .ok (.iastore, 1) := by decide +kernel
theorem dR_send_70 : decode bR_send 70 = .ok (.aload_n 0, 1) := by decide +kernel
theorem dR_send_71 : decode bR_send 71 = .ok (.getfield 32, 3) := by decide +kernel
theorem dR_send_74 : decode bR_send 74 = .ok (.iload 6, 2) := by decide +kernel
theorem dR_send_76 : decode bR_send 76 = .ok (.iload_n 1, 1) := by decide +kernel
theorem dR_send_77 : decode bR_send 77 = .ok (.iastore, 1) := by decide +kernel
theorem dR_send_78 : decode bR_send 78 = .ok (.aload_n 0, 1) := by decide +kernel
theorem dR_send_79 : decode bR_send 79 = .ok (.getfield 35, 3) := by decide +kernel
theorem dR_send_82 : decode bR_send 82 = .ok (.iload 6, 2) := by decide +kernel
theorem dR_send_84 : decode bR_send 84 = .ok (.iload_n 2, 1) := by decide +kernel
theorem dR_send_85 : decode bR_send 85 = .ok (.iastore, 1) := by decide +kernel
theorem dR_send_86 : decode bR_send 86 = .ok (.aload_n 0, 1) := by decide +kernel
theorem dR_send_87 : decode bR_send 87 = .ok (.getfield 38, 3) := by decide +kernel
theorem dR_send_90 : decode bR_send 90 = .ok (.iload 6, 2) := by decide +kernel
theorem dR_send_92 : decode bR_send 92 = .ok (.iload_n 3, 1) := by decide +kernel
theorem dR_send_93 : decode bR_send 93 = .ok (.iastore, 1) := by decide +kernel
theorem dR_send_94 : decode bR_send 94 = .ok (.aload_n 0, 1) := by decide +kernel
theorem dR_send_95 : decode bR_send 95 = .ok (.getfield 41, 3) := by decide +kernel
theorem dR_send_98 : decode bR_send 98 = .ok (.iload 6, 2) := by decide +kernel
theorem dR_send_100 : decode bR_send 100 = .ok (.lload 4, 2) := by decide +kernel
theorem dR_send_102 : decode bR_send 102 = .ok (.lastore, 1) := by decide +kernel
theorem dR_send_103 : decode bR_send 103 = .ok (.iconst 0, 1) := by decide +kernel
theorem dR_send_104 : decode bR_send 104 = .ok (.istore 7, 2) := by decide +kernel
theorem dR_send_106 : decode bR_send 106 = .ok (.iload 7, 2) := by decide +kernel
theorem dR_send_108 : decode bR_send 108 = .ok (.iload_n 3, 1) := by decide +kernel
theorem dR_send_109 : decode bR_send 109 = .ok (.if_icmp .ge 30, 3) := by decide +kernel
theorem dR_send_112 : decode bR_send 112 = .ok (.aload_n 0, 1) := by decide +kernel
theorem dR_send_113 : decode bR_send 113 = .ok (.getfield 46, 3) := by decide +kernel
theorem dR_send_116 : decode bR_send 116 = .ok (.sipush 480, 3) := by decide +kernel
theorem dR_send_119 : decode bR_send 119 = .ok (.iload 6, 2) := by decide +kernel
theorem dR_send_121 : decode bR_send 121 = .ok (.imul, 1) := by decide +kernel
theorem dR_send_122 : decode bR_send 122 = .ok (.iload 7, 2) := by decide +kernel
theorem dR_send_124 : decode bR_send 124 = .ok (.iadd, 1) := by decide +kernel
theorem dR_send_125 : decode bR_send 125 = .ok (.aload_n 0, 1) := by decide +kernel
theorem dR_send_126 : decode bR_send 126 = .ok (.getfield 49, 3) := by decide +kernel
theorem dR_send_129 : decode bR_send 129 = .ok (.iload 7, 2) := by decide +kernel
theorem dR_send_131 : decode bR_send 131 = .ok (.iaload, 1) := by decide +kernel
theorem dR_send_132 : decode bR_send 132 = .ok (.iastore, 1) := by decide +kernel
theorem dR_send_133 : decode bR_send 133 = .ok (.iinc 7 1, 3) := by decide +kernel
theorem dR_send_136 : decode bR_send 136 = .ok (.goto (-30), 3) := by decide +kernel
theorem dR_send_139 : decode bR_send 139 = .ok (.aload_n 0, 1) := by decide +kernel
theorem dR_send_140 : decode bR_send 140 = .ok (.getfield 69, 3) := by decide +kernel
theorem dR_send_143 : decode bR_send 143 = .ok (.iconst 1, 1) := by decide +kernel
theorem dR_send_144 : decode bR_send 144 = .ok (.isub, 1) := by decide +kernel
theorem dR_send_145 : decode bR_send 145 = .ok (.ireturn, 1) := by decide +kernel
theorem dR_deliver_0 : decode bR_deliver 0 = .ok (.aload_n 0, 1) := by decide +kernel
theorem dR_deliver_1 : decode bR_deliver 1 = .ok (.aload_n 0, 1) := by decide +kernel
theorem dR_deliver_2 : decode bR_deliver 2 = .ok (.iload_n 1, 1) := by decide +kernel
theorem dR_deliver_3 : decode bR_deliver 3 = .ok (.invokevirtual 103, 3) := by decide +kernel
theorem dR_deliver_6 : decode bR_deliver 6 = .ok (.ifCond .eq 7, 3) := by decide +kernel
theorem dR_deliver_9 : decode bR_deliver 9 = .ok (.iconst 0, 1) := by decide +kernel
theorem dR_deliver_10 : decode bR_deliver 10 = .ok (.goto 4, 3) := by decide +kernel
theorem dR_deliver_13 : decode bR_deliver 13 = .ok (.iconst 1, 1) := by decide +kernel
theorem dR_deliver_14 : decode bR_deliver 14 = .ok (.putfield 59, 3) := by decide +kernel
theorem dR_deliver_17 : decode bR_deliver 17 = .ok (.aload_n 0, 1) := by decide +kernel
theorem dR_deliver_18 : decode bR_deliver 18 = .ok (.getfield 59, 3) := by decide +kernel
theorem dR_deliver_21 : decode bR_deliver 21 = .ok (.ifCond .le 5, 3) := by decide +kernel
theorem dR_deliver_24 : decode bR_deliver 24 = .ok (.iconst 0, 1) := by decide +kernel
theorem dR_deliver_25 : decode bR_deliver 25 = .ok (.ireturn, 1) := by decide +kernel
theorem dR_deliver_26 : decode bR_deliver 26 = .ok (.aload_n 0, 1) := by decide +kernel
theorem dR_deliver_27 : decode bR_deliver 27 = .ok (.getfield 26, 3) := by decide +kernel
theorem dR_deliver_30 : decode bR_deliver 30 = .ok (.iload_n 1, 1) := by decide +kernel
theorem dR_deliver_31 : decode bR_deliver 31 = .ok (.iaload, 1) := by decide +kernel
theorem dR_deliver_32 : decode bR_deliver 32 = .ok (.istore_n 2, 1) := by decide +kernel
theorem dR_deliver_33 : decode bR_deliver 33 = .ok (.aload_n 0, 1) := by decide +kernel
theorem dR_deliver_34 : decode bR_deliver 34 = .ok (.getfield 38, 3) := by decide +kernel
theorem dR_deliver_37 : decode bR_deliver 37 = .ok (.iload_n 2, 1) := by decide +kernel
theorem dR_deliver_38 : decode bR_deliver 38 = .ok (.iaload, 1) := by decide +kernel
theorem dR_deliver_39 : decode bR_deliver 39 = .ok (.istore_n 3, 1) := by decide +kernel
theorem dR_deliver_40 : decode bR_deliver 40 = .ok (.aload_n 0, 1) := by decide +kernel
theorem dR_deliver_41 : decode bR_deliver 41 = .ok (.getfield 35, 3) := by decide +kernel
theorem dR_deliver_44 : decode bR_deliver 44 = .ok (.iload_n 2, 1) := by decide +kernel
theorem dR_deliver_45 : decode bR_deliver 45 = .ok (.iaload, 1) := by decide +kernel
theorem dR_deliver_46 : decode bR_deliver 46 = .ok (.istore 4, 2) := by decide +kernel
theorem dR_deliver_48 : decode bR_deliver 48 = .ok (.aload_n 0, 1) := by decide +kernel
theorem dR_deliver_49 : decode bR_deliver 49 = .ok (.getfield 32, 3) := by decide +kernel
theorem dR_deliver_52 : decode bR_deliver 52 = .ok (.iload_n 2, 1) := by decide +kernel
theorem dR_deliver_53 : decode bR_deliver 53 = .ok (.iaload, 1) := by decide +kernel
theorem dR_deliver_54 : decode bR_deliver 54 = .ok (.istore 5, 2) := by decide +kernel
theorem dR_deliver_56 : decode bR_deliver 56 = .ok (.aload_n 0, 1) := by decide +kernel
theorem dR_deliver_57 : decode bR_deliver 57 = .ok (.getfield 41, 3) := by decide +kernel
theorem dR_deliver_60 : decode bR_deliver 60 = .ok (.iload_n 2, 1) := by decide +kernel
theorem dR_deliver_61 : decode bR_deliver 61 = .ok (.laload, 1) := by decide +kernel
theorem dR_deliver_62 : decode bR_deliver 62 = .ok (.lstore 6, 2) := by decide +kernel
theorem dR_deliver_64 : decode bR_deliver 64 = .ok (.iconst 0, 1) := by decide +kernel
theorem dR_deliver_65 : decode bR_deliver 65 = .ok (.istore 8, 2) := by decide +kernel
theorem dR_deliver_67 : decode bR_deliver 67 = .ok (.iload 8, 2) := by decide +kernel
theorem dR_deliver_69 : decode bR_deliver 69 = .ok (.iload_n 3, 1) := by decide +kernel
theorem dR_deliver_70 : decode bR_deliver 70 = .ok (.if_icmp .ge 29, 3) := by decide +kernel
theorem dR_deliver_73 : decode bR_deliver 73 = .ok (.aload_n 0, 1) := by decide +kernel
theorem dR_deliver_74 : decode bR_deliver 74 = .ok (.getfield 49, 3) := by decide +kernel
theorem dR_deliver_77 : decode bR_deliver 77 = .ok (.iload 8, 2) := by decide +kernel
theorem dR_deliver_79 : decode bR_deliver 79 = .ok (.aload_n 0, 1) := by decide +kernel
theorem dR_deliver_80 : decode bR_deliver 80 = .ok (.getfield 46, 3) := by decide +kernel
theorem dR_deliver_83 : decode bR_deliver 83 = .ok (.sipush 480, 3) := by decide +kernel
theorem dR_deliver_86 : decode bR_deliver 86 = .ok (.iload_n 2, 1) := by decide +kernel
theorem dR_deliver_87 : decode bR_deliver 87 = .ok (.imul, 1) := by decide +kernel
theorem dR_deliver_88 : decode bR_deliver 88 = .ok (.iload 8, 2) := by decide +kernel
theorem dR_deliver_90 : decode bR_deliver 90 = .ok (.iadd, 1) := by decide +kernel
theorem dR_deliver_91 : decode bR_deliver 91 = .ok (.iaload, 1) := by decide +kernel
theorem dR_deliver_92 : decode bR_deliver 92 = .ok (.iastore, 1) := by decide +kernel
theorem dR_deliver_93 : decode bR_deliver 93 = .ok (.iinc 8 1, 3) := by decide +kernel
theorem dR_deliver_96 : decode bR_deliver 96 = .ok (.goto (-29), 3) := by decide +kernel
theorem dR_deliver_99 : decode bR_deliver 99 = .ok (.aload_n 0, 1) := by decide +kernel
theorem dR_deliver_100 : decode bR_deliver 100 = .ok (.iload_n 1, 1) := by decide +kernel
theorem dR_deliver_101 : decode bR_deliver 101 = .ok (.invokevirtual 106, 3) := by decide +kernel
theorem dR_deliver_104 : decode bR_deliver 104 = .ok (.aload_n 0, 1) := by decide +kernel
theorem dR_deliver_105 : decode bR_deliver 105 = .ok (.getfield 7, 3) := by decide +kernel
theorem dR_deliver_108 : decode bR_deliver 108 = .ok (.iload 4, 2) := by decide +kernel
theorem dR_deliver_110 : decode bR_deliver 110 = .ok (.baload, 1) := by decide +kernel
theorem dR_deliver_111 : decode bR_deliver 111 = .ok (.ifCond .eq 15, 3) := by decide +kernel
theorem dR_deliver_114 : decode bR_deliver 114 = .ok (.aload_n 0, 1) := by decide +kernel
theorem dR_deliver_115 : decode bR_deliver 115 = .ok (.dup, 1) := by decide +kernel
theorem dR_deliver_116 : decode bR_deliver 116 = .ok (.getfield 110, 3) := by decide +kernel
theorem dR_deliver_119 : decode bR_deliver 119 = .ok (.iconst 1, 1) := by decide +kernel
theorem dR_deliver_120 : decode bR_deliver 120 = .ok (.iadd, 1) := by decide +kernel
theorem dR_deliver_121 : decode bR_deliver 121 = .ok (.putfield 110, 3) := by decide +kernel
theorem dR_deliver_124 : decode bR_deliver 124 = .ok (.iconst 0, 1) := by decide +kernel
theorem dR_deliver_125 : decode bR_deliver 125 = .ok (.ireturn, 1) := by decide +kernel
theorem dR_deliver_126 : decode bR_deliver 126 = .ok (.iload_n 3, 1) := by decide +kernel
theorem dR_deliver_127 : decode bR_deliver 127 = .ok (.ifCond .ge 16, 3) := by decide +kernel
theorem dR_deliver_130 : decode bR_deliver 130 = .ok (.aload_n 0, 1) := by decide +kernel
theorem dR_deliver_131 : decode bR_deliver 131 = .ok (.iload 4, 2) := by decide +kernel
theorem dR_deliver_133 : decode bR_deliver 133 = .ok (.iload 5, 2) := by decide +kernel
theorem dR_deliver_135 : decode bR_deliver 135 = .ok (.lload 6, 2) := by decide +kernel
theorem dR_deliver_137 : decode bR_deliver 137 = .ok (.invokevirtual 113, 3) := by decide +kernel
theorem dR_deliver_140 : decode bR_deliver 140 = .ok (.goto 10, 3) := by decide +kernel
theorem dR_deliver_143 : decode bR_deliver 143 = .ok (.aload_n 0, 1) := by decide +kernel
theorem dR_deliver_144 : decode bR_deliver 144 = .ok (.iload 4, 2) := by decide +kernel
theorem dR_deliver_146 : decode bR_deliver 146 = .ok (.iload_n 3, 1) := by decide +kernel
theorem dR_deliver_147 : decode bR_deliver 147 = .ok (.invokevirtual 117, 3) := by decide +kernel
theorem dR_deliver_150 : decode bR_deliver 150 = .ok (.ireturn, 1) := by decide +kernel
theorem dR_isMessage_0 : decode bR_isMessage 0 = .ok (.iload_n 1, 1) := by decide +kernel
theorem dR_isMessage_1 : decode bR_isMessage 1 = .ok (.ifCond .lt 15, 3) := by decide +kernel
theorem dR_isMessage_4 : decode bR_isMessage 4 = .ok (.iload_n 1, 1) := by decide +kernel
theorem dR_isMessage_5 : decode bR_isMessage 5 = .ok (.aload_n 0, 1) := by decide +kernel
theorem dR_isMessage_6 : decode bR_isMessage 6 = .ok (.getfield 62, 3) := by decide +kernel
theorem dR_isMessage_9 : decode bR_isMessage 9 = .ok (.if_icmp .ge 7, 3) := by decide +kernel
theorem dR_isMessage_12 : decode bR_isMessage 12 = .ok (.iconst 1, 1) := by decide +kernel
theorem dR_isMessage_13 : decode bR_isMessage 13 = .ok (.goto 4, 3) := by decide +kernel
theorem dR_isMessage_16 : decode bR_isMessage 16 = .ok (.iconst 0, 1) := by decide +kernel
theorem dR_isMessage_17 : decode bR_isMessage 17 = .ok (.ireturn, 1) := by decide +kernel
theorem dR_remove_0 : decode bR_remove 0 = .ok (.aload_n 0, 1) := by decide +kernel
theorem dR_remove_1 : decode bR_remove 1 = .ok (.getfield 26, 3) := by decide +kernel
theorem dR_remove_4 : decode bR_remove 4 = .ok (.iload_n 1, 1) := by decide +kernel
theorem dR_remove_5 : decode bR_remove 5 = .ok (.iaload, 1) := by decide +kernel
theorem dR_remove_6 : decode bR_remove 6 = .ok (.istore_n 2, 1) := by decide +kernel
theorem dR_remove_7 : decode bR_remove 7 = .ok (.iload_n 1, 1) := by decide +kernel
theorem dR_remove_8 : decode bR_remove 8 = .ok (.istore_n 3, 1) := by decide +kernel
theorem dR_remove_9 : decode bR_remove 9 = .ok (.iload_n 3, 1) := by decide +kernel
theorem dR_remove_10 : decode bR_remove 10 = .ok (.aload_n 0, 1) := by decide +kernel
theorem dR_remove_11 : decode bR_remove 11 = .ok (.getfield 62, 3) := by decide +kernel
theorem dR_remove_14 : decode bR_remove 14 = .ok (.iconst 1, 1) := by decide +kernel
theorem dR_remove_15 : decode bR_remove 15 = .ok (.isub, 1) := by decide +kernel
theorem dR_remove_16 : decode bR_remove 16 = .ok (.if_icmp .ge 23, 3) := by decide +kernel
theorem dR_remove_19 : decode bR_remove 19 = .ok (.aload_n 0, 1) := by decide +kernel
theorem dR_remove_20 : decode bR_remove 20 = .ok (.getfield 26, 3) := by decide +kernel
theorem dR_remove_23 : decode bR_remove 23 = .ok (.iload_n 3, 1) := by decide +kernel
theorem dR_remove_24 : decode bR_remove 24 = .ok (.aload_n 0, 1) := by decide +kernel
theorem dR_remove_25 : decode bR_remove 25 = .ok (.getfield 26, 3) := by decide +kernel
theorem dR_remove_28 : decode bR_remove 28 = .ok (.iload_n 3, 1) := by decide +kernel
theorem dR_remove_29 : decode bR_remove 29 = .ok (.iconst 1, 1) := by decide +kernel
theorem dR_remove_30 : decode bR_remove 30 = .ok (.iadd, 1) := by decide +kernel
theorem dR_remove_31 : decode bR_remove 31 = .ok (.iaload, 1) := by decide +kernel
theorem dR_remove_32 : decode bR_remove 32 = .ok (.iastore, 1) := by decide +kernel
theorem dR_remove_33 : decode bR_remove 33 = .ok (.iinc 3 1, 3) := by decide +kernel
theorem dR_remove_36 : decode bR_remove 36 = .ok (.goto (-27), 3) := by decide +kernel
theorem dR_remove_39 : decode bR_remove 39 = .ok (.aload_n 0, 1) := by decide +kernel
theorem dR_remove_40 : decode bR_remove 40 = .ok (.dup, 1) := by decide +kernel
theorem dR_remove_41 : decode bR_remove 41 = .ok (.getfield 62, 3) := by decide +kernel
theorem dR_remove_44 : decode bR_remove 44 = .ok (.iconst 1, 1) := by decide +kernel
theorem dR_remove_45 : decode bR_remove 45 = .ok (.isub, 1) := by decide +kernel
theorem dR_remove_46 : decode bR_remove 46 = .ok (.putfield 62, 3) := by decide +kernel
theorem dR_remove_49 : decode bR_remove 49 = .ok (.aload_n 0, 1) := by decide +kernel
theorem dR_remove_50 : decode bR_remove 50 = .ok (.getfield 26, 3) := by decide +kernel
theorem dR_remove_53 : decode bR_remove 53 = .ok (.aload_n 0, 1) := by decide +kernel
theorem dR_remove_54 : decode bR_remove 54 = .ok (.getfield 62, 3) := by decide +kernel
theorem dR_remove_57 : decode bR_remove 57 = .ok (.iload_n 2, 1) := by decide +kernel
theorem dR_remove_58 : decode bR_remove 58 = .ok (.iastore, 1) := by decide +kernel
theorem dR_remove_59 : decode bR_remove 59 = .ok (.return_, 1) := by decide +kernel
theorem dR_answer_0 : decode bR_answer 0 = .ok (.iconst 0, 1) := by decide +kernel
theorem dR_answer_1 : decode bR_answer 1 = .ok (.istore 5, 2) := by decide +kernel
theorem dR_answer_3 : decode bR_answer 3 = .ok (.iconst 3, 1) := by decide +kernel
theorem dR_answer_4 : decode bR_answer 4 = .ok (.istore 6, 2) := by decide +kernel
theorem dR_answer_6 : decode bR_answer 6 = .ok (.aload_n 0, 1) := by decide +kernel
theorem dR_answer_7 : decode bR_answer 7 = .ok (.iconst 0, 1) := by decide +kernel
theorem dR_answer_8 : decode bR_answer 8 = .ok (.putfield 95, 3) := by decide +kernel
theorem dR_answer_11 : decode bR_answer 11 = .ok (.iconst 0, 1) := by decide +kernel
theorem dR_answer_12 : decode bR_answer 12 = .ok (.istore 7, 2) := by decide +kernel
theorem dR_answer_14 : decode bR_answer 14 = .ok (.iload 7, 2) := by decide +kernel
theorem dR_answer_16 : decode bR_answer 16 = .ok (.aload_n 0, 1) := by decide +kernel
theorem dR_answer_17 : decode bR_answer 17 = .ok (.getfield 23, 3) := by decide +kernel
theorem dR_answer_20 : decode bR_answer 20 = .ok (.iload_n 1, 1) := by decide +kernel
theorem dR_answer_21 : decode bR_answer 21 = .ok (.iaload, 1) := by decide +kernel
theorem dR_answer_22 : decode bR_answer 22 = .ok (.if_icmp .ge 118, 3) := by decide +kernel
theorem dR_answer_25 : decode bR_answer 25 = .ok (.aload_n 0, 1) := by decide +kernel
theorem dR_answer_26 : decode bR_answer 26 = .ok (.getfield 20, 3) := by decide +kernel
theorem dR_answer_29 : decode bR_answer 29 = .ok (.sipush 480, 3) := by decide +kernel
theorem dR_answer_32 : decode bR_answer 32 = .ok (.iload_n 1, 1) := by decide +kernel
theorem dR_answer_33 : decode bR_answer 33 = .ok (.imul, 1) := by decide +kernel
theorem dR_answer_34 : decode bR_answer 34 = .ok (.iload 7, 2) := by decide +kernel
theorem dR_answer_36 : decode bR_answer 36 = .ok (.iadd, 1) := by decide +kernel
theorem dR_answer_37 : decode bR_answer 37 = .ok (.iaload, 1) := by decide +kernel
theorem dR_answer_38 : decode bR_answer 38 = .ok (.istore 8, 2) := by decide +kernel
theorem dR_answer_40 : decode bR_answer 40 = .ok (.iload 8, 2) := by decide +kernel
theorem dR_answer_42 : decode bR_answer 42 = .ok (.bipush 8, 2) := by decide +kernel
theorem dR_answer_44 : decode bR_answer 44 = .ok (.idiv, 1) := by decide +kernel
theorem dR_answer_45 : decode bR_answer 45 = .ok (.lload_n 3, 1) := by decide +kernel
theorem dR_answer_46 : decode bR_answer 46 = .ok (.bipush 8, 2) := by decide +kernel
theorem dR_answer_48 : decode bR_answer 48 = .ok (.iload 8, 2) := by decide +kernel
theorem dR_answer_50 : decode bR_answer 50 = .ok (.bipush 8, 2) := by decide +kernel
theorem dR_answer_52 : decode bR_answer 52 = .ok (.irem, 1) := by decide +kernel
theorem dR_answer_53 : decode bR_answer 53 = .ok (.imul, 1) := by decide +kernel
theorem dR_answer_54 : decode bR_answer 54 = .ok (.lshr, 1) := by decide +kernel
theorem dR_answer_55 : decode bR_answer 55 = .ok (.ldc2_w 98, 3) := by decide +kernel
theorem dR_answer_58 : decode bR_answer 58 = .ok (.land, 1) := by decide +kernel
theorem dR_answer_59 : decode bR_answer 59 = .ok (.l2i, 1) := by decide +kernel
theorem dR_answer_60 : decode bR_answer 60 = .ok (.if_icmp .le 74, 3) := by decide +kernel
theorem dR_answer_63 : decode bR_answer 63 = .ok (.iload 5, 2) := by decide +kernel
theorem dR_answer_65 : decode bR_answer 65 = .ok (.ifCond .le 46, 3) := by decide +kernel
theorem dR_answer_68 : decode bR_answer 68 = .ok (.iload 6, 2) := by decide +kernel
theorem dR_answer_70 : decode bR_answer 70 = .ok (.aload_n 0, 1) := by decide +kernel
theorem dR_answer_71 : decode bR_answer 71 = .ok (.iload 8, 2) := by decide +kernel
theorem dR_answer_73 : decode bR_answer 73 = .ok (.invokevirtual 75, 3) := by decide +kernel
theorem dR_answer_76 : decode bR_answer 76 = .ok (.iadd, 1) := by decide +kernel
theorem dR_answer_77 : decode bR_answer 77 = .ok (.aload_n 0, 1) := by decide +kernel
theorem dR_answer_78 : decode bR_answer 78 = .ok (.getfield 56, 3) := by decide +kernel
theorem dR_answer_81 : decode bR_answer 81 = .ok (.if_icmp .le 30, 3) := by decide +kernel
theorem dR_answer_84 : decode bR_answer 84 = .ok (.aload_n 0, 1) := by decide +kernel
theorem dR_answer_85 : decode bR_answer 85 = .ok (.iload_n 1, 1) := by decide +kernel
theorem dR_answer_86 : decode bR_answer 86 = .ok (.iload_n 2, 1) := by decide +kernel
theorem dR_answer_87 : decode bR_answer 87 = .ok (.iload 5, 2) := by decide +kernel
theorem dR_answer_89 : decode bR_answer 89 = .ok (.lconst 0, 1) := by decide +kernel
theorem dR_answer_90 : decode bR_answer 90 = .ok (.invokevirtual 91, 3) := by decide +kernel
theorem dR_answer_93 : decode bR_answer 93 = .ok (.istore 9, 2) := by decide +kernel
theorem dR_answer_95 : decode bR_answer 95 = .ok (.aload_n 0, 1) := by decide +kernel
theorem dR_answer_96 : decode bR_answer 96 = .ok (.dup, 1) := by decide +kernel
theorem dR_answer_97 : decode bR_answer 97 = .ok (.getfield 95, 3) := by decide +kernel
theorem dR_answer_100 : decode bR_answer 100 = .ok (.iconst 1, 1) := by decide +kernel
theorem dR_answer_101 : decode bR_answer 101 = .ok (.iadd, 1) := by decide +kernel
theorem dR_answer_102 : decode bR_answer 102 = .ok (.putfield 95, 3) := by decide +kernel
theorem dR_answer_105 : decode bR_answer 105 = .ok (.iconst 0, 1) := by decide +kernel
theorem dR_answer_106 : decode bR_answer 106 = .ok (.istore 5, 2) := by decide +kernel
theorem dR_answer_108 : decode bR_answer 108 = .ok (.iconst 3, 1) := by decide +kernel
theorem dR_answer_109 : decode bR_answer 109 = .ok (.istore 6, 2) := by decide +kernel
theorem dR_answer_111 : decode bR_answer 111 = .ok (.aload_n 0, 1) := by decide +kernel
theorem dR_answer_112 : decode bR_answer 112 = .ok (.getfield 49, 3) := by decide +kernel
theorem dR_answer_115 : decode bR_answer 115 = .ok (.iload 5, 2) := by decide +kernel
theorem dR_answer_117 : decode bR_answer 117 = .ok (.iload 8, 2) := by decide +kernel
theorem dR_answer_119 : decode bR_answer 119 = .ok (.iastore, 1) := by decide +kernel
theorem dR_answer_120 : decode bR_answer 120 = .ok (.iinc 5 1, 3) := by decide +kernel
theorem dR_answer_123 : decode bR_answer 123 = .ok (.iload 6, 2) := by decide +kernel
theorem dR_answer_125 : decode bR_answer 125 = .ok (.aload_n 0, 1) := by decide +kernel
theorem dR_answer_126 : decode bR_answer 126 = .ok (.iload 8, 2) := by decide +kernel
theorem dR_answer_128 : decode bR_answer 128 = .ok (.invokevirtual 75, 3) := by decide +kernel
theorem dR_answer_131 : decode bR_answer 131 = .ok (.iadd, 1) := by decide +kernel
theorem dR_answer_132 : decode bR_answer 132 = .ok (.istore 6, 2) := by decide +kernel
theorem dR_answer_134 : decode bR_answer 134 = .ok (.iinc 7 1, 3) := by decide +kernel
theorem dR_answer_137 : decode bR_answer 137 = .ok (.goto (-123), 3) := by decide +kernel
theorem dR_answer_140 : decode bR_answer 140 = .ok (.iload 5, 2) := by decide +kernel
theorem dR_answer_142 : decode bR_answer 142 = .ok (.ifCond .le 24, 3) := by decide +kernel
theorem dR_answer_145 : decode bR_answer 145 = .ok (.aload_n 0, 1) := by decide +kernel
theorem dR_answer_146 : decode bR_answer 146 = .ok (.iload_n 1, 1) := by decide +kernel
theorem dR_answer_147 : decode bR_answer 147 = .ok (.iload_n 2, 1) := by decide +kernel
theorem dR_answer_148 : decode bR_answer 148 = .ok (.iload 5, 2) := by decide +kernel
theorem dR_answer_150 : decode bR_answer 150 = .ok (.lconst 0, 1) := by decide +kernel
theorem dR_answer_151 : decode bR_answer 151 = .ok (.invokevirtual 91, 3) := by decide +kernel
theorem dR_answer_154 : decode bR_answer 154 = .ok (.istore 7, 2) := by decide +kernel
theorem dR_answer_156 : decode bR_answer 156 = .ok (.aload_n 0, 1) := by decide +kernel
theorem dR_answer_157 : decode bR_answer 157 = .ok (.dup, 1) := by decide +kernel
theorem dR_answer_158 : decode bR_answer 158 = .ok (.getfield 95, 3) := by decide +kernel
theorem dR_answer_161 : decode bR_answer 161 = .ok (.iconst 1, 1) := by decide +kernel
theorem dR_answer_162 : decode bR_answer 162 = .ok (.iadd, 1) := by decide +kernel
theorem dR_answer_163 : decode bR_answer 163 = .ok (.putfield 95, 3) := by decide +kernel
theorem dR_answer_166 : decode bR_answer 166 = .ok (.aload_n 0, 1) := by decide +kernel
theorem dR_answer_167 : decode bR_answer 167 = .ok (.getfield 95, 3) := by decide +kernel
theorem dR_answer_170 : decode bR_answer 170 = .ok (.ireturn, 1) := by decide +kernel
theorem dR_weightOf_0 : decode bR_weightOf 0 = .ok (.aload_n 0, 1) := by decide +kernel
theorem dR_weightOf_1 : decode bR_weightOf 1 = .ok (.getfield 17, 3) := by decide +kernel
theorem dR_weightOf_4 : decode bR_weightOf 4 = .ok (.bipush 61, 2) := by decide +kernel
theorem dR_weightOf_6 : decode bR_weightOf 6 = .ok (.iload_n 1, 1) := by decide +kernel
theorem dR_weightOf_7 : decode bR_weightOf 7 = .ok (.bipush 8, 2) := by decide +kernel
theorem dR_weightOf_9 : decode bR_weightOf 9 = .ok (.irem, 1) := by decide +kernel
theorem dR_weightOf_10 : decode bR_weightOf 10 = .ok (.imul, 1) := by decide +kernel
theorem dR_weightOf_11 : decode bR_weightOf 11 = .ok (.iload_n 1, 1) := by decide +kernel
theorem dR_weightOf_12 : decode bR_weightOf 12 = .ok (.bipush 8, 2) := by decide +kernel
theorem dR_weightOf_14 : decode bR_weightOf 14 = .ok (.idiv, 1) := by decide +kernel
theorem dR_weightOf_15 : decode bR_weightOf 15 = .ok (.iadd, 1) := by decide +kernel
theorem dR_weightOf_16 : decode bR_weightOf 16 = .ok (.iconst 1, 1) := by decide +kernel
theorem dR_weightOf_17 : decode bR_weightOf 17 = .ok (.isub, 1) := by decide +kernel
theorem dR_weightOf_18 : decode bR_weightOf 18 = .ok (.iaload, 1) := by decide +kernel
theorem dR_weightOf_19 : decode bR_weightOf 19 = .ok (.ireturn, 1) := by decide +kernel
theorem dR_take_0 : decode bR_take 0 = .ok (.iconst 0, 1) := by decide +kernel
theorem dR_take_1 : decode bR_take 1 = .ok (.istore_n 3, 1) := by decide +kernel
theorem dR_take_2 : decode bR_take 2 = .ok (.iconst 0, 1) := by decide +kernel
theorem dR_take_3 : decode bR_take 3 = .ok (.istore 4, 2) := by decide +kernel
theorem dR_take_5 : decode bR_take 5 = .ok (.iload 4, 2) := by decide +kernel
theorem dR_take_7 : decode bR_take 7 = .ok (.iload_n 2, 1) := by decide +kernel
theorem dR_take_8 : decode bR_take 8 = .ok (.if_icmp .ge 67, 3) := by decide +kernel
theorem dR_take_11 : decode bR_take 11 = .ok (.aload_n 0, 1) := by decide +kernel
theorem dR_take_12 : decode bR_take 12 = .ok (.getfield 49, 3) := by decide +kernel
theorem dR_take_15 : decode bR_take 15 = .ok (.iload 4, 2) := by decide +kernel
theorem dR_take_17 : decode bR_take 17 = .ok (.iaload, 1) := by decide +kernel
theorem dR_take_18 : decode bR_take 18 = .ok (.bipush 8, 2) := by decide +kernel
theorem dR_take_20 : decode bR_take 20 = .ok (.idiv, 1) := by decide +kernel
theorem dR_take_21 : decode bR_take 21 = .ok (.aload_n 0, 1) := by decide +kernel
theorem dR_take_22 : decode bR_take 22 = .ok (.iload_n 1, 1) := by decide +kernel
theorem dR_take_23 : decode bR_take 23 = .ok (.aload_n 0, 1) := by decide +kernel
theorem dR_take_24 : decode bR_take 24 = .ok (.getfield 49, 3) := by decide +kernel
theorem dR_take_27 : decode bR_take 27 = .ok (.iload 4, 2) := by decide +kernel
theorem dR_take_29 : decode bR_take 29 = .ok (.iaload, 1) := by decide +kernel
theorem dR_take_30 : decode bR_take 30 = .ok (.bipush 8, 2) := by decide +kernel
theorem dR_take_32 : decode bR_take 32 = .ok (.irem, 1) := by decide +kernel
theorem dR_take_33 : decode bR_take 33 = .ok (.invokevirtual 65, 3) := by decide +kernel
theorem dR_take_36 : decode bR_take 36 = .ok (.iconst 1, 1) := by decide +kernel
theorem dR_take_37 : decode bR_take 37 = .ok (.iadd, 1) := by decide +kernel
theorem dR_take_38 : decode bR_take 38 = .ok (.if_icmp .ne 21, 3) := by decide +kernel
theorem dR_take_41 : decode bR_take 41 = .ok (.aload_n 0, 1) := by decide +kernel
theorem dR_take_42 : decode bR_take 42 = .ok (.iload_n 1, 1) := by decide +kernel
theorem dR_take_43 : decode bR_take 43 = .ok (.aload_n 0, 1) := by decide +kernel
theorem dR_take_44 : decode bR_take 44 = .ok (.getfield 49, 3) := by decide +kernel
theorem dR_take_47 : decode bR_take 47 = .ok (.iload 4, 2) := by decide +kernel
theorem dR_take_49 : decode bR_take 49 = .ok (.iaload, 1) := by decide +kernel
theorem dR_take_50 : decode bR_take 50 = .ok (.invokevirtual 83, 3) := by decide +kernel
theorem dR_take_53 : decode bR_take 53 = .ok (.iinc 3 1, 3) := by decide +kernel
theorem dR_take_56 : decode bR_take 56 = .ok (.goto 13, 3) := by decide +kernel
theorem dR_take_59 : decode bR_take 59 = .ok (.aload_n 0, 1) := by decide +kernel
theorem dR_take_60 : decode bR_take 60 = .ok (.dup, 1) := by decide +kernel
theorem dR_take_61 : decode bR_take 61 = .ok (.getfield 100, 3) := by decide +kernel
theorem dR_take_64 : decode bR_take 64 = .ok (.iconst 1, 1) := by decide +kernel
theorem dR_take_65 : decode bR_take 65 = .ok (.iadd, 1) := by decide +kernel
theorem dR_take_66 : decode bR_take 66 = .ok (.putfield 100, 3) := by decide +kernel
theorem dR_take_69 : decode bR_take 69 = .ok (.iinc 4 1, 3) := by decide +kernel
theorem dR_take_72 : decode bR_take 72 = .ok (.goto (-67), 3) := by decide +kernel
theorem dR_take_75 : decode bR_take 75 = .ok (.iload_n 3, 1) := by decide +kernel
theorem dR_take_76 : decode bR_take 76 = .ok (.ireturn, 1) := by decide +kernel
theorem dR_lose_0 : decode bR_lose 0 = .ok (.aload_n 0, 1) := by decide +kernel
theorem dR_lose_1 : decode bR_lose 1 = .ok (.iconst 0, 1) := by decide +kernel
theorem dR_lose_2 : decode bR_lose 2 = .ok (.putfield 59, 3) := by decide +kernel
theorem dR_lose_5 : decode bR_lose 5 = .ok (.aload_n 0, 1) := by decide +kernel
theorem dR_lose_6 : decode bR_lose 6 = .ok (.iload_n 1, 1) := by decide +kernel
theorem dR_lose_7 : decode bR_lose 7 = .ok (.invokevirtual 103, 3) := by decide +kernel
theorem dR_lose_10 : decode bR_lose 10 = .ok (.ifCond .ne 5, 3) := by decide +kernel
theorem dR_lose_13 : decode bR_lose 13 = .ok (.iconst 0, 1) := by decide +kernel
theorem dR_lose_14 : decode bR_lose 14 = .ok (.ireturn, 1) := by decide +kernel
theorem dR_lose_15 : decode bR_lose 15 = .ok (.aload_n 0, 1) := by decide +kernel
theorem dR_lose_16 : decode bR_lose 16 = .ok (.iload_n 1, 1) := by decide +kernel
theorem dR_lose_17 : decode bR_lose 17 = .ok (.invokevirtual 106, 3) := by decide +kernel
theorem dR_lose_20 : decode bR_lose 20 = .ok (.aload_n 0, 1) := by decide +kernel
theorem dR_lose_21 : decode bR_lose 21 = .ok (.dup, 1) := by decide +kernel
theorem dR_lose_22 : decode bR_lose 22 = .ok (.getfield 72, 3) := by decide +kernel
theorem dR_lose_25 : decode bR_lose 25 = .ok (.iconst 1, 1) := by decide +kernel
theorem dR_lose_26 : decode bR_lose 26 = .ok (.iadd, 1) := by decide +kernel
theorem dR_lose_27 : decode bR_lose 27 = .ok (.putfield 72, 3) := by decide +kernel
theorem dR_lose_30 : decode bR_lose 30 = .ok (.iconst 1, 1) := by decide +kernel
theorem dR_lose_31 : decode bR_lose 31 = .ok (.ireturn, 1) := by decide +kernel
theorem dR_twice_0 : decode bR_twice 0 = .ok (.aload_n 0, 1) := by decide +kernel
theorem dR_twice_1 : decode bR_twice 1 = .ok (.aload_n 0, 1) := by decide +kernel
theorem dR_twice_2 : decode bR_twice 2 = .ok (.iload_n 1, 1) := by decide +kernel
theorem dR_twice_3 : decode bR_twice 3 = .ok (.invokevirtual 103, 3) := by decide +kernel
theorem dR_twice_6 : decode bR_twice 6 = .ok (.ifCond .eq 7, 3) := by decide +kernel
theorem dR_twice_9 : decode bR_twice 9 = .ok (.iconst 0, 1) := by decide +kernel
theorem dR_twice_10 : decode bR_twice 10 = .ok (.goto 4, 3) := by decide +kernel
theorem dR_twice_13 : decode bR_twice 13 = .ok (.iconst 1, 1) := by decide +kernel
theorem dR_twice_14 : decode bR_twice 14 = .ok (.putfield 59, 3) := by decide +kernel
theorem dR_twice_17 : decode bR_twice 17 = .ok (.aload_n 0, 1) := by decide +kernel
theorem dR_twice_18 : decode bR_twice 18 = .ok (.getfield 59, 3) := by decide +kernel
theorem dR_twice_21 : decode bR_twice 21 = .ok (.ifCond .le 5, 3) := by decide +kernel
theorem dR_twice_24 : decode bR_twice 24 = .ok (.iconst 0, 1) := by decide +kernel
theorem dR_twice_25 : decode bR_twice 25 = .ok (.ireturn, 1) := by decide +kernel
theorem dR_twice_26 : decode bR_twice 26 = .ok (.aload_n 0, 1) := by decide +kernel
theorem dR_twice_27 : decode bR_twice 27 = .ok (.getfield 26, 3) := by decide +kernel
theorem dR_twice_30 : decode bR_twice 30 = .ok (.iload_n 1, 1) := by decide +kernel
theorem dR_twice_31 : decode bR_twice 31 = .ok (.iaload, 1) := by decide +kernel
theorem dR_twice_32 : decode bR_twice 32 = .ok (.istore_n 2, 1) := by decide +kernel
theorem dR_twice_33 : decode bR_twice 33 = .ok (.iconst 0, 1) := by decide +kernel
theorem dR_twice_34 : decode bR_twice 34 = .ok (.istore_n 3, 1) := by decide +kernel
theorem dR_twice_35 : decode bR_twice 35 = .ok (.iload_n 3, 1) := by decide +kernel
theorem dR_twice_36 : decode bR_twice 36 = .ok (.aload_n 0, 1) := by decide +kernel
theorem dR_twice_37 : decode bR_twice 37 = .ok (.getfield 38, 3) := by decide +kernel
theorem dR_twice_40 : decode bR_twice 40 = .ok (.iload_n 2, 1) := by decide +kernel
theorem dR_twice_41 : decode bR_twice 41 = .ok (.iaload, 1) := by decide +kernel
theorem dR_twice_42 : decode bR_twice 42 = .ok (.if_icmp .ge 27, 3) := by decide +kernel
theorem dR_twice_45 : decode bR_twice 45 = .ok (.aload_n 0, 1) := by decide +kernel
theorem dR_twice_46 : decode bR_twice 46 = .ok (.getfield 49, 3) := by decide +kernel
theorem dR_twice_49 : decode bR_twice 49 = .ok (.iload_n 3, 1) := by decide +kernel
theorem dR_twice_50 : decode bR_twice 50 = .ok (.aload_n 0, 1) := by decide +kernel
theorem dR_twice_51 : decode bR_twice 51 = .ok (.getfield 46, 3) := by decide +kernel
theorem dR_twice_54 : decode bR_twice 54 = .ok (.sipush 480, 3) := by decide +kernel
theorem dR_twice_57 : decode bR_twice 57 = .ok (.iload_n 2, 1) := by decide +kernel
theorem dR_twice_58 : decode bR_twice 58 = .ok (.imul, 1) := by decide +kernel
theorem dR_twice_59 : decode bR_twice 59 = .ok (.iload_n 3, 1) := by decide +kernel
theorem dR_twice_60 : decode bR_twice 60 = .ok (.iadd, 1) := by decide +kernel
theorem dR_twice_61 : decode bR_twice 61 = .ok (.iaload, 1) := by decide +kernel
theorem dR_twice_62 : decode bR_twice 62 = .ok (.iastore, 1) := by decide +kernel
theorem dR_twice_63 : decode bR_twice 63 = .ok (.iinc 3 1, 3) := by decide +kernel
theorem dR_twice_66 : decode bR_twice 66 = .ok (.goto (-31), 3) := by decide +kernel
theorem dR_twice_69 : decode bR_twice 69 = .ok (.aload_n 0, 1) := by decide +kernel
theorem dR_twice_70 : decode bR_twice 70 = .ok (.aload_n 0, 1) := by decide +kernel
theorem dR_twice_71 : decode bR_twice 71 = .ok (.getfield 32, 3) := by decide +kernel
theorem dR_twice_74 : decode bR_twice 74 = .ok (.iload_n 2, 1) := by decide +kernel
theorem dR_twice_75 : decode bR_twice 75 = .ok (.iaload, 1) := by decide +kernel
theorem dR_twice_76 : decode bR_twice 76 = .ok (.aload_n 0, 1) := by decide +kernel
theorem dR_twice_77 : decode bR_twice 77 = .ok (.getfield 35, 3) := by decide +kernel
theorem dR_twice_80 : decode bR_twice 80 = .ok (.iload_n 2, 1) := by decide +kernel
theorem dR_twice_81 : decode bR_twice 81 = .ok (.iaload, 1) := by decide +kernel
theorem dR_twice_82 : decode bR_twice 82 = .ok (.aload_n 0, 1) := by decide +kernel
theorem dR_twice_83 : decode bR_twice 83 = .ok (.getfield 38, 3) := by decide +kernel
theorem dR_twice_86 : decode bR_twice 86 = .ok (.iload_n 2, 1) := by decide +kernel
theorem dR_twice_87 : decode bR_twice 87 = .ok (.iaload, 1) := by decide +kernel
theorem dR_twice_88 : decode bR_twice 88 = .ok (.aload_n 0, 1) := by decide +kernel
theorem dR_twice_89 : decode bR_twice 89 = .ok (.getfield 41, 3) := by decide +kernel
theorem dR_twice_92 : decode bR_twice 92 = .ok (.iload_n 2, 1) := by decide +kernel
theorem dR_twice_93 : decode bR_twice 93 = .ok (.laload, 1) := by decide +kernel
theorem dR_twice_94 : decode bR_twice 94 = .ok (.invokevirtual 91, 3) := by decide +kernel
theorem dR_twice_97 : decode bR_twice 97 = .ok (.ireturn, 1) := by decide +kernel
theorem dR_up_0 : decode bR_up 0 = .ok (.aload_n 0, 1) := by decide +kernel
theorem dR_up_1 : decode bR_up 1 = .ok (.iconst 0, 1) := by decide +kernel
theorem dR_up_2 : decode bR_up 2 = .ok (.putfield 59, 3) := by decide +kernel
theorem dR_up_5 : decode bR_up 5 = .ok (.aload_n 0, 1) := by decide +kernel
theorem dR_up_6 : decode bR_up 6 = .ok (.iload_n 1, 1) := by decide +kernel
theorem dR_up_7 : decode bR_up 7 = .ok (.invokevirtual 79, 3) := by decide +kernel
theorem dR_up_10 : decode bR_up 10 = .ok (.ifCond .eq 25, 3) := by decide +kernel
theorem dR_up_13 : decode bR_up 13 = .ok (.aload_n 0, 1) := by decide +kernel
theorem dR_up_14 : decode bR_up 14 = .ok (.getfield 7, 3) := by decide +kernel
theorem dR_up_17 : decode bR_up 17 = .ok (.aload_n 0, 1) := by decide +kernel
theorem dR_up_18 : decode bR_up 18 = .ok (.iload_n 1, 1) := by decide +kernel
theorem dR_up_19 : decode bR_up 19 = .ok (.invokevirtual 79, 3) := by decide +kernel
theorem dR_up_22 : decode bR_up 22 = .ok (.ifCond .eq 7, 3) := by decide +kernel
theorem dR_up_25 : decode bR_up 25 = .ok (.iload_n 1, 1) := by decide +kernel
theorem dR_up_26 : decode bR_up 26 = .ok (.goto 4, 3) := by decide +kernel
theorem dR_up_29 : decode bR_up 29 = .ok (.iconst 0, 1) := by decide +kernel
theorem dR_up_30 : decode bR_up 30 = .ok (.baload, 1) := by decide +kernel
theorem dR_up_31 : decode bR_up 31 = .ok (.iload_n 2, 1) := by decide +kernel
theorem dR_up_32 : decode bR_up 32 = .ok (.if_icmp .eq 5, 3) := by decide +kernel
theorem dR_up_35 : decode bR_up 35 = .ok (.iconst 0, 1) := by decide +kernel
theorem dR_up_36 : decode bR_up 36 = .ok (.ireturn, 1) := by decide +kernel
theorem dR_up_37 : decode bR_up 37 = .ok (.aload_n 0, 1) := by decide +kernel
theorem dR_up_38 : decode bR_up 38 = .ok (.getfield 7, 3) := by decide +kernel
theorem dR_up_41 : decode bR_up 41 = .ok (.iload_n 1, 1) := by decide +kernel
theorem dR_up_42 : decode bR_up 42 = .ok (.iload_n 2, 1) := by decide +kernel
theorem dR_up_43 : decode bR_up 43 = .ok (.ifCond .ne 7, 3) := by decide +kernel
theorem dR_up_46 : decode bR_up 46 = .ok (.iconst 1, 1) := by decide +kernel
theorem dR_up_47 : decode bR_up 47 = .ok (.goto 4, 3) := by decide +kernel
theorem dR_up_50 : decode bR_up 50 = .ok (.iconst 0, 1) := by decide +kernel
theorem dR_up_51 : decode bR_up 51 = .ok (.bastore, 1) := by decide +kernel
theorem dR_up_52 : decode bR_up 52 = .ok (.iconst 1, 1) := by decide +kernel
theorem dR_up_53 : decode bR_up 53 = .ok (.ireturn, 1) := by decide +kernel
theorem dR_message_0 : decode bR_message 0 = .ok (.aload_n 0, 1) := by decide +kernel
theorem dR_message_1 : decode bR_message 1 = .ok (.aload_n 0, 1) := by decide +kernel
theorem dR_message_2 : decode bR_message 2 = .ok (.iload_n 1, 1) := by decide +kernel
theorem dR_message_3 : decode bR_message 3 = .ok (.invokevirtual 103, 3) := by decide +kernel
theorem dR_message_6 : decode bR_message 6 = .ok (.ifCond .eq 16, 3) := by decide +kernel
theorem dR_message_9 : decode bR_message 9 = .ok (.iload_n 2, 1) := by decide +kernel
theorem dR_message_10 : decode bR_message 10 = .ok (.ifCond .lt 12, 3) := by decide +kernel
theorem dR_message_13 : decode bR_message 13 = .ok (.iload_n 2, 1) := by decide +kernel
theorem dR_message_14 : decode bR_message 14 = .ok (.iconst 4, 1) := by decide +kernel
theorem dR_message_15 : decode bR_message 15 = .ok (.if_icmp .gt 7, 3) := by decide +kernel
theorem dR_message_18 : decode bR_message 18 = .ok (.iconst 0, 1) := by decide +kernel
theorem dR_message_19 : decode bR_message 19 = .ok (.goto 4, 3) := by decide +kernel
theorem dR_message_22 : decode bR_message 22 = .ok (.iconst 1, 1) := by decide +kernel
theorem dR_message_23 : decode bR_message 23 = .ok (.putfield 59, 3) := by decide +kernel
theorem dR_message_26 : decode bR_message 26 = .ok (.aload_n 0, 1) := by decide +kernel
theorem dR_message_27 : decode bR_message 27 = .ok (.getfield 59, 3) := by decide +kernel
theorem dR_message_30 : decode bR_message 30 = .ok (.ifCond .le 5, 3) := by decide +kernel
theorem dR_message_33 : decode bR_message 33 = .ok (.iconst 0, 1) := by decide +kernel
theorem dR_message_34 : decode bR_message 34 = .ok (.ireturn, 1) := by decide +kernel
theorem dR_message_35 : decode bR_message 35 = .ok (.aload_n 0, 1) := by decide +kernel
theorem dR_message_36 : decode bR_message 36 = .ok (.getfield 26, 3) := by decide +kernel
theorem dR_message_39 : decode bR_message 39 = .ok (.iload_n 1, 1) := by decide +kernel
theorem dR_message_40 : decode bR_message 40 = .ok (.iaload, 1) := by decide +kernel
theorem dR_message_41 : decode bR_message 41 = .ok (.istore_n 3, 1) := by decide +kernel
theorem dR_message_42 : decode bR_message 42 = .ok (.iload_n 2, 1) := by decide +kernel
theorem dR_message_43 : decode bR_message 43 = .ok (.ifCond .ne 12, 3) := by decide +kernel
theorem dR_message_46 : decode bR_message 46 = .ok (.aload_n 0, 1) := by decide +kernel
theorem dR_message_47 : decode bR_message 47 = .ok (.getfield 29, 3) := by decide +kernel
theorem dR_message_50 : decode bR_message 50 = .ok (.iload_n 3, 1) := by decide +kernel
theorem dR_message_51 : decode bR_message 51 = .ok (.iaload, 1) := by decide +kernel
theorem dR_message_52 : decode bR_message 52 = .ok (.goto 50, 3) := by decide +kernel
theorem dR_message_55 : decode bR_message 55 = .ok (.iload_n 2, 1) := by decide +kernel
theorem dR_message_56 : decode bR_message 56 = .ok (.iconst 1, 1) := by decide +kernel
theorem dR_message_57 : decode bR_message 57 = .ok (.if_icmp .ne 12, 3) := by decide +kernel
theorem dR_message_60 : decode bR_message 60 = .ok (.aload_n 0, 1) := by decide +kernel
theorem dR_message_61 : decode bR_message 61 = .ok (.getfield 32, 3) := by decide +kernel
theorem dR_message_64 : decode bR_message 64 = .ok (.iload_n 3, 1) := by decide +kernel
theorem dR_message_65 : decode bR_message 65 = .ok (.iaload, 1) := by decide +kernel
theorem dR_message_66 : decode bR_message 66 = .ok (.goto 36, 3) := by decide +kernel
theorem dR_message_69 : decode bR_message 69 = .ok (.iload_n 2, 1) := by decide +kernel
theorem dR_message_70 : decode bR_message 70 = .ok (.iconst 2, 1) := by decide +kernel
theorem dR_message_71 : decode bR_message 71 = .ok (.if_icmp .ne 12, 3) := by decide +kernel
theorem dR_message_74 : decode bR_message 74 = .ok (.aload_n 0, 1) := by decide +kernel
theorem dR_message_75 : decode bR_message 75 = .ok (.getfield 35, 3) := by decide +kernel
theorem dR_message_78 : decode bR_message 78 = .ok (.iload_n 3, 1) := by decide +kernel
theorem dR_message_79 : decode bR_message 79 = .ok (.iaload, 1) := by decide +kernel
theorem dR_message_80 : decode bR_message 80 = .ok (.goto 22, 3) := by decide +kernel
theorem dR_message_83 : decode bR_message 83 = .ok (.iload_n 2, 1) := by decide +kernel
theorem dR_message_84 : decode bR_message 84 = .ok (.iconst 3, 1) := by decide +kernel
theorem dR_message_85 : decode bR_message 85 = .ok (.if_icmp .ne 11, 3) := by decide +kernel
theorem dR_message_88 : decode bR_message 88 = .ok (.aload_n 0, 1) := by decide +kernel
theorem dR_message_89 : decode bR_message 89 = .ok (.iload_n 3, 1) := by decide +kernel
theorem dR_message_90 : decode bR_message 90 = .ok (.invokevirtual 120, 3) := by decide +kernel
theorem dR_message_93 : decode bR_message 93 = .ok (.goto 9, 3) := by decide +kernel
theorem dR_message_96 : decode bR_message 96 = .ok (.aload_n 0, 1) := by decide +kernel
theorem dR_message_97 : decode bR_message 97 = .ok (.getfield 38, 3) := by decide +kernel
theorem dR_message_100 : decode bR_message 100 = .ok (.iload_n 3, 1) := by decide +kernel
theorem dR_message_101 : decode bR_message 101 = .ok (.iaload, 1) := by decide +kernel
theorem dR_message_102 : decode bR_message 102 = .ok (.ireturn, 1) := by decide +kernel
theorem dR_bytesOf_0 : decode bR_bytesOf 0 = .ok (.aload_n 0, 1) := by decide +kernel
theorem dR_bytesOf_1 : decode bR_bytesOf 1 = .ok (.getfield 38, 3) := by decide +kernel
theorem dR_bytesOf_4 : decode bR_bytesOf 4 = .ok (.iload_n 1, 1) := by decide +kernel
theorem dR_bytesOf_5 : decode bR_bytesOf 5 = .ok (.iaload, 1) := by decide +kernel
theorem dR_bytesOf_6 : decode bR_bytesOf 6 = .ok (.ifCond .ge 12, 3) := by decide +kernel
theorem dR_bytesOf_9 : decode bR_bytesOf 9 = .ok (.iconst 3, 1) := by decide +kernel
theorem dR_bytesOf_10 : decode bR_bytesOf 10 = .ok (.aload_n 0, 1) := by decide +kernel
theorem dR_bytesOf_11 : decode bR_bytesOf 11 = .ok (.getfield 52, 3) := by decide +kernel
theorem dR_bytesOf_14 : decode bR_bytesOf 14 = .ok (.iadd, 1) := by decide +kernel
theorem dR_bytesOf_15 : decode bR_bytesOf 15 = .ok (.goto 4, 3) := by decide +kernel
theorem dR_bytesOf_18 : decode bR_bytesOf 18 = .ok (.iconst 3, 1) := by decide +kernel
theorem dR_bytesOf_19 : decode bR_bytesOf 19 = .ok (.istore_n 2, 1) := by decide +kernel
theorem dR_bytesOf_20 : decode bR_bytesOf 20 = .ok (.iconst 0, 1) := by decide +kernel
theorem dR_bytesOf_21 : decode bR_bytesOf 21 = .ok (.istore_n 3, 1) := by decide +kernel
theorem dR_bytesOf_22 : decode bR_bytesOf 22 = .ok (.iload_n 3, 1) := by decide +kernel
theorem dR_bytesOf_23 : decode bR_bytesOf 23 = .ok (.aload_n 0, 1) := by decide +kernel
theorem dR_bytesOf_24 : decode bR_bytesOf 24 = .ok (.getfield 38, 3) := by decide +kernel
theorem dR_bytesOf_27 : decode bR_bytesOf 27 = .ok (.iload_n 1, 1) := by decide +kernel
theorem dR_bytesOf_28 : decode bR_bytesOf 28 = .ok (.iaload, 1) := by decide +kernel
theorem dR_bytesOf_29 : decode bR_bytesOf 29 = .ok (.if_icmp .ge 28, 3) := by decide +kernel
theorem dR_bytesOf_32 : decode bR_bytesOf 32 = .ok (.iload_n 2, 1) := by decide +kernel
theorem dR_bytesOf_33 : decode bR_bytesOf 33 = .ok (.aload_n 0, 1) := by decide +kernel
theorem dR_bytesOf_34 : decode bR_bytesOf 34 = .ok (.aload_n 0, 1) := by decide +kernel
theorem dR_bytesOf_35 : decode bR_bytesOf 35 = .ok (.getfield 46, 3) := by decide +kernel
theorem dR_bytesOf_38 : decode bR_bytesOf 38 = .ok (.sipush 480, 3) := by decide +kernel
theorem dR_bytesOf_41 : decode bR_bytesOf 41 = .ok (.iload_n 1, 1) := by decide +kernel
theorem dR_bytesOf_42 : decode bR_bytesOf 42 = .ok (.imul, 1) := by decide +kernel
theorem dR_bytesOf_43 : decode bR_bytesOf 43 = .ok (.iload_n 3, 1) := by decide +kernel
theorem dR_bytesOf_44 : decode bR_bytesOf 44 = .ok (.iadd, 1) := by decide +kernel
theorem dR_bytesOf_45 : decode bR_bytesOf 45 = .ok (.iaload, 1) := by decide +kernel
theorem dR_bytesOf_46 : decode bR_bytesOf 46 = .ok (.invokevirtual 75, 3) := by decide +kernel
theorem dR_bytesOf_49 : decode bR_bytesOf 49 = .ok (.iadd, 1) := by decide +kernel
theorem dR_bytesOf_50 : decode bR_bytesOf 50 = .ok (.istore_n 2, 1) := by decide +kernel
theorem dR_bytesOf_51 : decode bR_bytesOf 51 = .ok (.iinc 3 1, 3) := by decide +kernel
theorem dR_bytesOf_54 : decode bR_bytesOf 54 = .ok (.goto (-32), 3) := by decide +kernel
theorem dR_bytesOf_57 : decode bR_bytesOf 57 = .ok (.iload_n 2, 1) := by decide +kernel
theorem dR_bytesOf_58 : decode bR_bytesOf 58 = .ok (.ireturn, 1) := by decide +kernel
theorem dR_inside_0 : decode bR_inside 0 = .ok (.aload_n 0, 1) := by decide +kernel
theorem dR_inside_1 : decode bR_inside 1 = .ok (.iconst 0, 1) := by decide +kernel
theorem dR_inside_2 : decode bR_inside 2 = .ok (.putfield 59, 3) := by decide +kernel
theorem dR_inside_5 : decode bR_inside 5 = .ok (.aload_n 0, 1) := by decide +kernel
theorem dR_inside_6 : decode bR_inside 6 = .ok (.iload_n 1, 1) := by decide +kernel
theorem dR_inside_7 : decode bR_inside 7 = .ok (.invokevirtual 103, 3) := by decide +kernel
theorem dR_inside_10 : decode bR_inside 10 = .ok (.ifCond .eq 34, 3) := by decide +kernel
theorem dR_inside_13 : decode bR_inside 13 = .ok (.iload_n 2, 1) := by decide +kernel
theorem dR_inside_14 : decode bR_inside 14 = .ok (.ifCond .lt 30, 3) := by decide +kernel
theorem dR_inside_17 : decode bR_inside 17 = .ok (.iload_n 2, 1) := by decide +kernel
theorem dR_inside_18 : decode bR_inside 18 = .ok (.aload_n 0, 1) := by decide +kernel
theorem dR_inside_19 : decode bR_inside 19 = .ok (.getfield 38, 3) := by decide +kernel
theorem dR_inside_22 : decode bR_inside 22 = .ok (.aload_n 0, 1) := by decide +kernel
theorem dR_inside_23 : decode bR_inside 23 = .ok (.getfield 26, 3) := by decide +kernel
theorem dR_inside_26 : decode bR_inside 26 = .ok (.aload_n 0, 1) := by decide +kernel
theorem dR_inside_27 : decode bR_inside 27 = .ok (.iload_n 1, 1) := by decide +kernel
theorem dR_inside_28 : decode bR_inside 28 = .ok (.invokevirtual 103, 3) := by decide +kernel
theorem dR_inside_31 : decode bR_inside 31 = .ok (.ifCond .eq 7, 3) := by decide +kernel
theorem dR_inside_34 : decode bR_inside 34 = .ok (.iload_n 1, 1) := by decide +kernel
theorem dR_inside_35 : decode bR_inside 35 = .ok (.goto 4, 3) := by decide +kernel
theorem dR_inside_38 : decode bR_inside 38 = .ok (.iconst 0, 1) := by decide +kernel
theorem dR_inside_39 : decode bR_inside 39 = .ok (.iaload, 1) := by decide +kernel
theorem dR_inside_40 : decode bR_inside 40 = .ok (.iaload, 1) := by decide +kernel
theorem dR_inside_41 : decode bR_inside 41 = .ok (.if_icmp .lt 7, 3) := by decide +kernel
theorem dR_inside_44 : decode bR_inside 44 = .ok (.iconst (-1), 1) := by decide +kernel
theorem dR_inside_45 : decode bR_inside 45 = .ok (.goto 20, 3) := by decide +kernel
theorem dR_inside_48 : decode bR_inside 48 = .ok (.aload_n 0, 1) := by decide +kernel
theorem dR_inside_49 : decode bR_inside 49 = .ok (.getfield 46, 3) := by decide +kernel
theorem dR_inside_52 : decode bR_inside 52 = .ok (.sipush 480, 3) := by decide +kernel
theorem dR_inside_55 : decode bR_inside 55 = .ok (.aload_n 0, 1) := by decide +kernel
theorem dR_inside_56 : decode bR_inside 56 = .ok (.getfield 26, 3) := by decide +kernel
theorem dR_inside_59 : decode bR_inside 59 = .ok (.iload_n 1, 1) := by decide +kernel
theorem dR_inside_60 : decode bR_inside 60 = .ok (.iaload, 1) := by decide +kernel
theorem dR_inside_61 : decode bR_inside 61 = .ok (.imul, 1) := by decide +kernel
theorem dR_inside_62 : decode bR_inside 62 = .ok (.iload_n 2, 1) := by decide +kernel
theorem dR_inside_63 : decode bR_inside 63 = .ok (.iadd, 1) := by decide +kernel
theorem dR_inside_64 : decode bR_inside 64 = .ok (.iaload, 1) := by decide +kernel
theorem dR_inside_65 : decode bR_inside 65 = .ok (.ireturn, 1) := by decide +kernel
theorem dR_told_0 : decode bR_told 0 = .ok (.aload_n 0, 1) := by decide +kernel
theorem dR_told_1 : decode bR_told 1 = .ok (.iconst 0, 1) := by decide +kernel
theorem dR_told_2 : decode bR_told 2 = .ok (.putfield 59, 3) := by decide +kernel
theorem dR_told_5 : decode bR_told 5 = .ok (.aload_n 0, 1) := by decide +kernel
theorem dR_told_6 : decode bR_told 6 = .ok (.iload_n 1, 1) := by decide +kernel
theorem dR_told_7 : decode bR_told 7 = .ok (.invokevirtual 103, 3) := by decide +kernel
theorem dR_told_10 : decode bR_told 10 = .ok (.ifCond .eq 29, 3) := by decide +kernel
theorem dR_told_13 : decode bR_told 13 = .ok (.aload_n 0, 1) := by decide +kernel
theorem dR_told_14 : decode bR_told 14 = .ok (.getfield 38, 3) := by decide +kernel
theorem dR_told_17 : decode bR_told 17 = .ok (.aload_n 0, 1) := by decide +kernel
theorem dR_told_18 : decode bR_told 18 = .ok (.getfield 26, 3) := by decide +kernel
theorem dR_told_21 : decode bR_told 21 = .ok (.aload_n 0, 1) := by decide +kernel
theorem dR_told_22 : decode bR_told 22 = .ok (.iload_n 1, 1) := by decide +kernel
theorem dR_told_23 : decode bR_told 23 = .ok (.invokevirtual 103, 3) := by decide +kernel
theorem dR_told_26 : decode bR_told 26 = .ok (.ifCond .eq 7, 3) := by decide +kernel
theorem dR_told_29 : decode bR_told 29 = .ok (.iload_n 1, 1) := by decide +kernel
theorem dR_told_30 : decode bR_told 30 = .ok (.goto 4, 3) := by decide +kernel
theorem dR_told_33 : decode bR_told 33 = .ok (.iconst 0, 1) := by decide +kernel
theorem dR_told_34 : decode bR_told 34 = .ok (.iaload, 1) := by decide +kernel
theorem dR_told_35 : decode bR_told 35 = .ok (.iaload, 1) := by decide +kernel
theorem dR_told_36 : decode bR_told 36 = .ok (.ifCond .lt 9, 3) := by decide +kernel
theorem dR_told_39 : decode bR_told 39 = .ok (.ldc2_w 123, 3) := by decide +kernel
theorem dR_told_42 : decode bR_told 42 = .ok (.goto 14, 3) := by decide +kernel
theorem dR_told_45 : decode bR_told 45 = .ok (.aload_n 0, 1) := by decide +kernel
theorem dR_told_46 : decode bR_told 46 = .ok (.getfield 41, 3) := by decide +kernel
theorem dR_told_49 : decode bR_told 49 = .ok (.aload_n 0, 1) := by decide +kernel
theorem dR_told_50 : decode bR_told 50 = .ok (.getfield 26, 3) := by decide +kernel
theorem dR_told_53 : decode bR_told 53 = .ok (.iload_n 1, 1) := by decide +kernel
theorem dR_told_54 : decode bR_told 54 = .ok (.iaload, 1) := by decide +kernel
theorem dR_told_55 : decode bR_told 55 = .ok (.laload, 1) := by decide +kernel
theorem dR_told_56 : decode bR_told 56 = .ok (.lreturn, 1) := by decide +kernel
theorem dR_clock_0 : decode bR_clock 0 = .ok (.aload_n 0, 1) := by decide +kernel
theorem dR_clock_1 : decode bR_clock 1 = .ok (.aload_n 0, 1) := by decide +kernel
theorem dR_clock_2 : decode bR_clock 2 = .ok (.iload_n 1, 1) := by decide +kernel
theorem dR_clock_3 : decode bR_clock 3 = .ok (.invokevirtual 79, 3) := by decide +kernel
theorem dR_clock_6 : decode bR_clock 6 = .ok (.ifCond .eq 7, 3) := by decide +kernel
theorem dR_clock_9 : decode bR_clock 9 = .ok (.iconst 0, 1) := by decide +kernel
theorem dR_clock_10 : decode bR_clock 10 = .ok (.goto 4, 3) := by decide +kernel
theorem dR_clock_13 : decode bR_clock 13 = .ok (.iconst 1, 1) := by decide +kernel
theorem dR_clock_14 : decode bR_clock 14 = .ok (.putfield 59, 3) := by decide +kernel
theorem dR_clock_17 : decode bR_clock 17 = .ok (.aload_n 0, 1) := by decide +kernel
theorem dR_clock_18 : decode bR_clock 18 = .ok (.getfield 59, 3) := by decide +kernel
theorem dR_clock_21 : decode bR_clock 21 = .ok (.ifCond .le 7, 3) := by decide +kernel
theorem dR_clock_24 : decode bR_clock 24 = .ok (.lconst 0, 1) := by decide +kernel
theorem dR_clock_25 : decode bR_clock 25 = .ok (.goto 8, 3) := by decide +kernel
theorem dR_clock_28 : decode bR_clock 28 = .ok (.aload_n 0, 1) := by decide +kernel
theorem dR_clock_29 : decode bR_clock 29 = .ok (.iload_n 1, 1) := by decide +kernel
theorem dR_clock_30 : decode bR_clock 30 = .ok (.invokevirtual 87, 3) := by decide +kernel
theorem dR_clock_33 : decode bR_clock 33 = .ok (.lreturn, 1) := by decide +kernel
theorem dR_log_0 : decode bR_log 0 = .ok (.aload_n 0, 1) := by decide +kernel
theorem dR_log_1 : decode bR_log 1 = .ok (.iconst 0, 1) := by decide +kernel
theorem dR_log_2 : decode bR_log 2 = .ok (.putfield 59, 3) := by decide +kernel
theorem dR_log_5 : decode bR_log 5 = .ok (.aload_n 0, 1) := by decide +kernel
theorem dR_log_6 : decode bR_log 6 = .ok (.iload_n 1, 1) := by decide +kernel
theorem dR_log_7 : decode bR_log 7 = .ok (.invokevirtual 79, 3) := by decide +kernel
theorem dR_log_10 : decode bR_log 10 = .ok (.ifCond .eq 29, 3) := by decide +kernel
theorem dR_log_13 : decode bR_log 13 = .ok (.iload_n 2, 1) := by decide +kernel
theorem dR_log_14 : decode bR_log 14 = .ok (.ifCond .lt 25, 3) := by decide +kernel
theorem dR_log_17 : decode bR_log 17 = .ok (.iload_n 2, 1) := by decide +kernel
theorem dR_log_18 : decode bR_log 18 = .ok (.aload_n 0, 1) := by decide +kernel
theorem dR_log_19 : decode bR_log 19 = .ok (.getfield 23, 3) := by decide +kernel
theorem dR_log_22 : decode bR_log 22 = .ok (.aload_n 0, 1) := by decide +kernel
theorem dR_log_23 : decode bR_log 23 = .ok (.iload_n 1, 1) := by decide +kernel
theorem dR_log_24 : decode bR_log 24 = .ok (.invokevirtual 79, 3) := by decide +kernel
theorem dR_log_27 : decode bR_log 27 = .ok (.ifCond .eq 7, 3) := by decide +kernel
theorem dR_log_30 : decode bR_log 30 = .ok (.iload_n 1, 1) := by decide +kernel
theorem dR_log_31 : decode bR_log 31 = .ok (.goto 4, 3) := by decide +kernel
theorem dR_log_34 : decode bR_log 34 = .ok (.iconst 0, 1) := by decide +kernel
theorem dR_log_35 : decode bR_log 35 = .ok (.iaload, 1) := by decide +kernel
theorem dR_log_36 : decode bR_log 36 = .ok (.if_icmp .lt 7, 3) := by decide +kernel
theorem dR_log_39 : decode bR_log 39 = .ok (.iconst (-1), 1) := by decide +kernel
theorem dR_log_40 : decode bR_log 40 = .ok (.goto 15, 3) := by decide +kernel
theorem dR_log_43 : decode bR_log 43 = .ok (.aload_n 0, 1) := by decide +kernel
theorem dR_log_44 : decode bR_log 44 = .ok (.getfield 20, 3) := by decide +kernel
theorem dR_log_47 : decode bR_log 47 = .ok (.sipush 480, 3) := by decide +kernel
theorem dR_log_50 : decode bR_log 50 = .ok (.iload_n 1, 1) := by decide +kernel
theorem dR_log_51 : decode bR_log 51 = .ok (.imul, 1) := by decide +kernel
theorem dR_log_52 : decode bR_log 52 = .ok (.iload_n 2, 1) := by decide +kernel
theorem dR_log_53 : decode bR_log 53 = .ok (.iadd, 1) := by decide +kernel
theorem dR_log_54 : decode bR_log 54 = .ok (.iaload, 1) := by decide +kernel
theorem dR_log_55 : decode bR_log 55 = .ok (.ireturn, 1) := by decide +kernel
theorem dR_weight_0 : decode bR_weight 0 = .ok (.aload_n 0, 1) := by decide +kernel
theorem dR_weight_1 : decode bR_weight 1 = .ok (.iconst 0, 1) := by decide +kernel
theorem dR_weight_2 : decode bR_weight 2 = .ok (.putfield 59, 3) := by decide +kernel
theorem dR_weight_5 : decode bR_weight 5 = .ok (.aload_n 0, 1) := by decide +kernel
theorem dR_weight_6 : decode bR_weight 6 = .ok (.iload_n 1, 1) := by decide +kernel
theorem dR_weight_7 : decode bR_weight 7 = .ok (.invokevirtual 79, 3) := by decide +kernel
theorem dR_weight_10 : decode bR_weight 10 = .ok (.ifCond .eq 30, 3) := by decide +kernel
theorem dR_weight_13 : decode bR_weight 13 = .ok (.iload_n 2, 1) := by decide +kernel
theorem dR_weight_14 : decode bR_weight 14 = .ok (.iconst 1, 1) := by decide +kernel
theorem dR_weight_15 : decode bR_weight 15 = .ok (.if_icmp .lt 25, 3) := by decide +kernel
theorem dR_weight_18 : decode bR_weight 18 = .ok (.iload_n 2, 1) := by decide +kernel
theorem dR_weight_19 : decode bR_weight 19 = .ok (.aload_n 0, 1) := by decide +kernel
theorem dR_weight_20 : decode bR_weight 20 = .ok (.getfield 13, 3) := by decide +kernel
theorem dR_weight_23 : decode bR_weight 23 = .ok (.aload_n 0, 1) := by decide +kernel
theorem dR_weight_24 : decode bR_weight 24 = .ok (.iload_n 1, 1) := by decide +kernel
theorem dR_weight_25 : decode bR_weight 25 = .ok (.invokevirtual 79, 3) := by decide +kernel
theorem dR_weight_28 : decode bR_weight 28 = .ok (.ifCond .eq 7, 3) := by decide +kernel
theorem dR_weight_31 : decode bR_weight 31 = .ok (.iload_n 1, 1) := by decide +kernel
theorem dR_weight_32 : decode bR_weight 32 = .ok (.goto 4, 3) := by decide +kernel
theorem dR_weight_35 : decode bR_weight 35 = .ok (.iconst 0, 1) := by decide +kernel
theorem dR_weight_36 : decode bR_weight 36 = .ok (.iaload, 1) := by decide +kernel
theorem dR_weight_37 : decode bR_weight 37 = .ok (.if_icmp .le 7, 3) := by decide +kernel
theorem dR_weight_40 : decode bR_weight 40 = .ok (.iconst (-1), 1) := by decide +kernel
theorem dR_weight_41 : decode bR_weight 41 = .ok (.goto 16, 3) := by decide +kernel
theorem dR_weight_44 : decode bR_weight 44 = .ok (.aload_n 0, 1) := by decide +kernel
theorem dR_weight_45 : decode bR_weight 45 = .ok (.getfield 17, 3) := by decide +kernel
theorem dR_weight_48 : decode bR_weight 48 = .ok (.bipush 61, 2) := by decide +kernel
theorem dR_weight_50 : decode bR_weight 50 = .ok (.iload_n 1, 1) := by decide +kernel
theorem dR_weight_51 : decode bR_weight 51 = .ok (.imul, 1) := by decide +kernel
theorem dR_weight_52 : decode bR_weight 52 = .ok (.iload_n 2, 1) := by decide +kernel
theorem dR_weight_53 : decode bR_weight 53 = .ok (.iadd, 1) := by decide +kernel
theorem dR_weight_54 : decode bR_weight 54 = .ok (.iconst 1, 1) := by decide +kernel
theorem dR_weight_55 : decode bR_weight 55 = .ok (.isub, 1) := by decide +kernel
theorem dR_weight_56 : decode bR_weight 56 = .ok (.iaload, 1) := by decide +kernel
theorem dR_weight_57 : decode bR_weight 57 = .ok (.ireturn, 1) := by decide +kernel
theorem dR_lacks_0 : decode bR_lacks 0 = .ok (.aload_n 0, 1) := by decide +kernel
theorem dR_lacks_1 : decode bR_lacks 1 = .ok (.aload_n 0, 1) := by decide +kernel
theorem dR_lacks_2 : decode bR_lacks 2 = .ok (.iload_n 1, 1) := by decide +kernel
theorem dR_lacks_3 : decode bR_lacks 3 = .ok (.invokevirtual 79, 3) := by decide +kernel
theorem dR_lacks_6 : decode bR_lacks 6 = .ok (.ifCond .eq 7, 3) := by decide +kernel
theorem dR_lacks_9 : decode bR_lacks 9 = .ok (.iconst 0, 1) := by decide +kernel
theorem dR_lacks_10 : decode bR_lacks 10 = .ok (.goto 4, 3) := by decide +kernel
theorem dR_lacks_13 : decode bR_lacks 13 = .ok (.iconst 1, 1) := by decide +kernel
theorem dR_lacks_14 : decode bR_lacks 14 = .ok (.putfield 59, 3) := by decide +kernel
theorem dR_lacks_17 : decode bR_lacks 17 = .ok (.aload_n 0, 1) := by decide +kernel
theorem dR_lacks_18 : decode bR_lacks 18 = .ok (.getfield 59, 3) := by decide +kernel
theorem dR_lacks_21 : decode bR_lacks 21 = .ok (.ifCond .le 7, 3) := by decide +kernel
theorem dR_lacks_24 : decode bR_lacks 24 = .ok (.iconst 0, 1) := by decide +kernel
theorem dR_lacks_25 : decode bR_lacks 25 = .ok (.goto 14, 3) := by decide +kernel
theorem dR_lacks_28 : decode bR_lacks 28 = .ok (.aload_n 0, 1) := by decide +kernel
theorem dR_lacks_29 : decode bR_lacks 29 = .ok (.invokevirtual 125, 3) := by decide +kernel
theorem dR_lacks_32 : decode bR_lacks 32 = .ok (.aload_n 0, 1) := by decide +kernel
theorem dR_lacks_33 : decode bR_lacks 33 = .ok (.getfield 23, 3) := by decide +kernel
theorem dR_lacks_36 : decode bR_lacks 36 = .ok (.iload_n 1, 1) := by decide +kernel
theorem dR_lacks_37 : decode bR_lacks 37 = .ok (.iaload, 1) := by decide +kernel
theorem dR_lacks_38 : decode bR_lacks 38 = .ok (.isub, 1) := by decide +kernel
theorem dR_lacks_39 : decode bR_lacks 39 = .ok (.ireturn, 1) := by decide +kernel
theorem dR_total_0 : decode bR_total 0 = .ok (.iconst 0, 1) := by decide +kernel
theorem dR_total_1 : decode bR_total 1 = .ok (.istore_n 1, 1) := by decide +kernel
theorem dR_total_2 : decode bR_total 2 = .ok (.iconst 0, 1) := by decide +kernel
theorem dR_total_3 : decode bR_total 3 = .ok (.istore_n 2, 1) := by decide +kernel
theorem dR_total_4 : decode bR_total 4 = .ok (.iload_n 2, 1) := by decide +kernel
theorem dR_total_5 : decode bR_total 5 = .ok (.aload_n 0, 1) := by decide +kernel
theorem dR_total_6 : decode bR_total 6 = .ok (.getfield 52, 3) := by decide +kernel
theorem dR_total_9 : decode bR_total 9 = .ok (.if_icmp .ge 18, 3) := by decide +kernel
theorem dR_total_12 : decode bR_total 12 = .ok (.iload_n 1, 1) := by decide +kernel
theorem dR_total_13 : decode bR_total 13 = .ok (.aload_n 0, 1) := by decide +kernel
theorem dR_total_14 : decode bR_total 14 = .ok (.getfield 13, 3) := by decide +kernel
theorem dR_total_17 : decode bR_total 17 = .ok (.iload_n 2, 1) := by decide +kernel
theorem dR_total_18 : decode bR_total 18 = .ok (.iaload, 1) := by decide +kernel
theorem dR_total_19 : decode bR_total 19 = .ok (.iadd, 1) := by decide +kernel
theorem dR_total_20 : decode bR_total 20 = .ok (.istore_n 1, 1) := by decide +kernel
theorem dR_total_21 : decode bR_total 21 = .ok (.iinc 2 1, 3) := by decide +kernel
theorem dR_total_24 : decode bR_total 24 = .ok (.goto (-20), 3) := by decide +kernel
theorem dR_total_27 : decode bR_total 27 = .ok (.iload_n 1, 1) := by decide +kernel
theorem dR_total_28 : decode bR_total 28 = .ok (.ireturn, 1) := by decide +kernel
theorem dR_look_0 : decode bR_look 0 = .ok (.aload_n 0, 1) := by decide +kernel
theorem dR_look_1 : decode bR_look 1 = .ok (.iconst 0, 1) := by decide +kernel
theorem dR_look_2 : decode bR_look 2 = .ok (.putfield 59, 3) := by decide +kernel
theorem dR_look_5 : decode bR_look 5 = .ok (.iconst 0, 1) := by decide +kernel
theorem dR_look_6 : decode bR_look 6 = .ok (.istore_n 2, 1) := by decide +kernel
theorem dR_look_7 : decode bR_look 7 = .ok (.iconst 0, 1) := by decide +kernel
theorem dR_look_8 : decode bR_look 8 = .ok (.istore_n 3, 1) := by decide +kernel
theorem dR_look_9 : decode bR_look 9 = .ok (.iload_n 3, 1) := by decide +kernel
theorem dR_look_10 : decode bR_look 10 = .ok (.aload_n 0, 1) := by decide +kernel
theorem dR_look_11 : decode bR_look 11 = .ok (.getfield 52, 3) := by decide +kernel
theorem dR_look_14 : decode bR_look 14 = .ok (.if_icmp .ge 30, 3) := by decide +kernel
theorem dR_look_17 : decode bR_look 17 = .ok (.iload_n 2, 1) := by decide +kernel
theorem dR_look_18 : decode bR_look 18 = .ok (.aload_n 0, 1) := by decide +kernel
theorem dR_look_19 : decode bR_look 19 = .ok (.getfield 23, 3) := by decide +kernel
theorem dR_look_22 : decode bR_look 22 = .ok (.iload_n 3, 1) := by decide +kernel
theorem dR_look_23 : decode bR_look 23 = .ok (.iaload, 1) := by decide +kernel
theorem dR_look_24 : decode bR_look 24 = .ok (.aload_n 0, 1) := by decide +kernel
theorem dR_look_25 : decode bR_look 25 = .ok (.invokevirtual 125, 3) := by decide +kernel
theorem dR_look_28 : decode bR_look 28 = .ok (.if_icmp .ne 7, 3) := by decide +kernel
theorem dR_look_31 : decode bR_look 31 = .ok (.iconst 1, 1) := by decide +kernel
theorem dR_look_32 : decode bR_look 32 = .ok (.goto 4, 3) := by decide +kernel
theorem dR_look_35 : decode bR_look 35 = .ok (.iconst 0, 1) := by decide +kernel
theorem dR_look_36 : decode bR_look 36 = .ok (.iadd, 1) := by decide +kernel
theorem dR_look_37 : decode bR_look 37 = .ok (.istore_n 2, 1) := by decide +kernel
theorem dR_look_38 : decode bR_look 38 = .ok (.iinc 3 1, 3) := by decide +kernel
theorem dR_look_41 : decode bR_look 41 = .ok (.goto (-32), 3) := by decide +kernel
theorem dR_look_44 : decode bR_look 44 = .ok (.iconst 0, 1) := by decide +kernel
theorem dR_look_45 : decode bR_look 45 = .ok (.istore_n 3, 1) := by decide +kernel
theorem dR_look_46 : decode bR_look 46 = .ok (.iconst 0, 1) := by decide +kernel
theorem dR_look_47 : decode bR_look 47 = .ok (.istore 4, 2) := by decide +kernel
theorem dR_look_49 : decode bR_look 49 = .ok (.iload 4, 2) := by decide +kernel
theorem dR_look_51 : decode bR_look 51 = .ok (.aload_n 0, 1) := by decide +kernel
theorem dR_look_52 : decode bR_look 52 = .ok (.getfield 62, 3) := by decide +kernel
theorem dR_look_55 : decode bR_look 55 = .ok (.if_icmp .ge 23, 3) := by decide +kernel
theorem dR_look_58 : decode bR_look 58 = .ok (.iload_n 3, 1) := by decide +kernel
theorem dR_look_59 : decode bR_look 59 = .ok (.aload_n 0, 1) := by decide +kernel
theorem dR_look_60 : decode bR_look 60 = .ok (.aload_n 0, 1) := by decide +kernel
theorem dR_look_61 : decode bR_look 61 = .ok (.getfield 26, 3) := by decide +kernel
theorem dR_look_64 : decode bR_look 64 = .ok (.iload 4, 2) := by decide +kernel
theorem dR_look_66 : decode bR_look 66 = .ok (.iaload, 1) := by decide +kernel
theorem dR_look_67 : decode bR_look 67 = .ok (.invokevirtual 120, 3) := by decide +kernel
theorem dR_look_70 : decode bR_look 70 = .ok (.iadd, 1) := by decide +kernel
theorem dR_look_71 : decode bR_look 71 = .ok (.istore_n 3, 1) := by decide +kernel
theorem dR_look_72 : decode bR_look 72 = .ok (.iinc 4 1, 3) := by decide +kernel
theorem dR_look_75 : decode bR_look 75 = .ok (.goto (-26), 3) := by decide +kernel
theorem dR_look_78 : decode bR_look 78 = .ok (.iload_n 1, 1) := by decide +kernel
theorem dR_look_79 : decode bR_look 79 = .ok (.tableswitch 88 0 8 #[49, 54, 59, 64, 69, 74, 79, 84, 86], 49) := by decide +kernel
theorem dR_look_128 : decode bR_look 128 = .ok (.aload_n 0, 1) := by decide +kernel
theorem dR_look_129 : decode bR_look 129 = .ok (.getfield 52, 3) := by decide +kernel
theorem dR_look_132 : decode bR_look 132 = .ok (.ireturn, 1) := by decide +kernel
theorem dR_look_133 : decode bR_look 133 = .ok (.aload_n 0, 1) := by decide +kernel
theorem dR_look_134 : decode bR_look 134 = .ok (.getfield 56, 3) := by decide +kernel
theorem dR_look_137 : decode bR_look 137 = .ok (.ireturn, 1) := by decide +kernel
theorem dR_look_138 : decode bR_look 138 = .ok (.aload_n 0, 1) := by decide +kernel
theorem dR_look_139 : decode bR_look 139 = .ok (.getfield 62, 3) := by decide +kernel
theorem dR_look_142 : decode bR_look 142 = .ok (.ireturn, 1) := by decide +kernel
theorem dR_look_143 : decode bR_look 143 = .ok (.aload_n 0, 1) := by decide +kernel
theorem dR_look_144 : decode bR_look 144 = .ok (.getfield 69, 3) := by decide +kernel
theorem dR_look_147 : decode bR_look 147 = .ok (.ireturn, 1) := by decide +kernel
theorem dR_look_148 : decode bR_look 148 = .ok (.aload_n 0, 1) := by decide +kernel
theorem dR_look_149 : decode bR_look 149 = .ok (.getfield 72, 3) := by decide +kernel
theorem dR_look_152 : decode bR_look 152 = .ok (.ireturn, 1) := by decide +kernel
theorem dR_look_153 : decode bR_look 153 = .ok (.aload_n 0, 1) := by decide +kernel
theorem dR_look_154 : decode bR_look 154 = .ok (.getfield 110, 3) := by decide +kernel
theorem dR_look_157 : decode bR_look 157 = .ok (.ireturn, 1) := by decide +kernel
theorem dR_look_158 : decode bR_look 158 = .ok (.aload_n 0, 1) := by decide +kernel
theorem dR_look_159 : decode bR_look 159 = .ok (.getfield 100, 3) := by decide +kernel
theorem dR_look_162 : decode bR_look 162 = .ok (.ireturn, 1) := by decide +kernel
theorem dR_look_163 : decode bR_look 163 = .ok (.iload_n 2, 1) := by decide +kernel
theorem dR_look_164 : decode bR_look 164 = .ok (.ireturn, 1) := by decide +kernel
theorem dR_look_165 : decode bR_look 165 = .ok (.iload_n 3, 1) := by decide +kernel
theorem dR_look_166 : decode bR_look 166 = .ok (.ireturn, 1) := by decide +kernel
theorem dR_look_167 : decode bR_look 167 = .ok (.iconst (-1), 1) := by decide +kernel
theorem dR_look_168 : decode bR_look 168 = .ok (.ireturn, 1) := by decide +kernel
end
section
theorem dL_cell_0 : decode bL_cell 0 = .ok (.iload_n 1, 1) := by decide +kernel
theorem dL_cell_1 : decode bL_cell 1 = .ok (.aload_n 0, 1) := by decide +kernel
theorem dL_cell_2 : decode bL_cell 2 = .ok (.arraylength, 1) := by decide +kernel
theorem dL_cell_3 : decode bL_cell 3 = .ok (.if_icmp .ge 9, 3) := by decide +kernel
theorem dL_cell_6 : decode bL_cell 6 = .ok (.aload_n 0, 1) := by decide +kernel
theorem dL_cell_7 : decode bL_cell 7 = .ok (.iload_n 1, 1) := by decide +kernel
theorem dL_cell_8 : decode bL_cell 8 = .ok (.iaload, 1) := by decide +kernel
theorem dL_cell_9 : decode bL_cell 9 = .ok (.goto 4, 3) := by decide +kernel
theorem dL_cell_12 : decode bL_cell 12 = .ok (.iconst 0, 1) := by decide +kernel
theorem dL_cell_13 : decode bL_cell 13 = .ok (.ireturn, 1) := by decide +kernel
theorem dL_make_0 : decode bL_make 0 = .ok (.aload_n 3, 1) := by decide +kernel
theorem dL_make_1 : decode bL_make 1 = .ok (.iconst 0, 1) := by decide +kernel
theorem dL_make_2 : decode bL_make 2 = .ok (.aload_n 0, 1) := by decide +kernel
theorem dL_make_3 : decode bL_make 3 = .ok (.iload_n 1, 1) := by decide +kernel
theorem dL_make_4 : decode bL_make 4 = .ok (.iload_n 2, 1) := by decide +kernel
theorem dL_make_5 : decode bL_make 5 = .ok (.invokevirtual 7, 3) := by decide +kernel
theorem dL_make_8 : decode bL_make 8 = .ok (.i2l, 1) := by decide +kernel
theorem dL_make_9 : decode bL_make 9 = .ok (.lastore, 1) := by decide +kernel
theorem dL_make_10 : decode bL_make 10 = .ok (.goto 15, 3) := by decide +kernel
theorem dL_make_13 : decode bL_make 13 = .ok (.astore 4, 2) := by decide +kernel
theorem dL_make_15 : decode bL_make 15 = .ok (.iconst 1, 1) := by decide +kernel
theorem dL_make_16 : decode bL_make 16 = .ok (.ireturn, 1) := by decide +kernel
theorem dL_make_17 : decode bL_make 17 = .ok (.astore 4, 2) := by decide +kernel
theorem dL_make_19 : decode bL_make 19 = .ok (.iconst 2, 1) := by decide +kernel
theorem dL_make_20 : decode bL_make 20 = .ok (.ireturn, 1) := by decide +kernel
theorem dL_make_21 : decode bL_make 21 = .ok (.astore 4, 2) := by decide +kernel
theorem dL_make_23 : decode bL_make 23 = .ok (.iconst 3, 1) := by decide +kernel
theorem dL_make_24 : decode bL_make 24 = .ok (.ireturn, 1) := by decide +kernel
theorem dL_make_25 : decode bL_make 25 = .ok (.iconst 0, 1) := by decide +kernel
theorem dL_make_26 : decode bL_make 26 = .ok (.ireturn, 1) := by decide +kernel
theorem dL_tick_0 : decode bL_tick 0 = .ok (.aload_n 2, 1) := by decide +kernel
theorem dL_tick_1 : decode bL_tick 1 = .ok (.iconst 0, 1) := by decide +kernel
theorem dL_tick_2 : decode bL_tick 2 = .ok (.aload_n 0, 1) := by decide +kernel
theorem dL_tick_3 : decode bL_tick 3 = .ok (.iload_n 1, 1) := by decide +kernel
theorem dL_tick_4 : decode bL_tick 4 = .ok (.invokevirtual 19, 3) := by decide +kernel
theorem dL_tick_7 : decode bL_tick 7 = .ok (.i2l, 1) := by decide +kernel
theorem dL_tick_8 : decode bL_tick 8 = .ok (.lastore, 1) := by decide +kernel
theorem dL_tick_9 : decode bL_tick 9 = .ok (.goto 9, 3) := by decide +kernel
theorem dL_tick_12 : decode bL_tick 12 = .ok (.astore_n 3, 1) := by decide +kernel
theorem dL_tick_13 : decode bL_tick 13 = .ok (.iconst 1, 1) := by decide +kernel
theorem dL_tick_14 : decode bL_tick 14 = .ok (.ireturn, 1) := by decide +kernel
theorem dL_tick_15 : decode bL_tick 15 = .ok (.astore_n 3, 1) := by decide +kernel
theorem dL_tick_16 : decode bL_tick 16 = .ok (.iconst 2, 1) := by decide +kernel
theorem dL_tick_17 : decode bL_tick 17 = .ok (.ireturn, 1) := by decide +kernel
theorem dL_tick_18 : decode bL_tick 18 = .ok (.iconst 0, 1) := by decide +kernel
theorem dL_tick_19 : decode bL_tick 19 = .ok (.ireturn, 1) := by decide +kernel
theorem dL_deliver_0 : decode bL_deliver 0 = .ok (.aload_n 2, 1) := by decide +kernel
theorem dL_deliver_1 : decode bL_deliver 1 = .ok (.iconst 0, 1) := by decide +kernel
theorem dL_deliver_2 : decode bL_deliver 2 = .ok (.aload_n 0, 1) := by decide +kernel
theorem dL_deliver_3 : decode bL_deliver 3 = .ok (.iload_n 1, 1) := by decide +kernel
theorem dL_deliver_4 : decode bL_deliver 4 = .ok (.invokevirtual 23, 3) := by decide +kernel
theorem dL_deliver_7 : decode bL_deliver 7 = .ok (.i2l, 1) := by decide +kernel
theorem dL_deliver_8 : decode bL_deliver 8 = .ok (.lastore, 1) := by decide +kernel
theorem dL_deliver_9 : decode bL_deliver 9 = .ok (.goto 6, 3) := by decide +kernel
theorem dL_deliver_12 : decode bL_deliver 12 = .ok (.astore_n 3, 1) := by decide +kernel
theorem dL_deliver_13 : decode bL_deliver 13 = .ok (.iconst 1, 1) := by decide +kernel
theorem dL_deliver_14 : decode bL_deliver 14 = .ok (.ireturn, 1) := by decide +kernel
theorem dL_deliver_15 : decode bL_deliver 15 = .ok (.iconst 0, 1) := by decide +kernel
theorem dL_deliver_16 : decode bL_deliver 16 = .ok (.ireturn, 1) := by decide +kernel
theorem dL_twice_0 : decode bL_twice 0 = .ok (.aload_n 2, 1) := by decide +kernel
theorem dL_twice_1 : decode bL_twice 1 = .ok (.iconst 0, 1) := by decide +kernel
theorem dL_twice_2 : decode bL_twice 2 = .ok (.aload_n 0, 1) := by decide +kernel
theorem dL_twice_3 : decode bL_twice 3 = .ok (.iload_n 1, 1) := by decide +kernel
theorem dL_twice_4 : decode bL_twice 4 = .ok (.invokevirtual 26, 3) := by decide +kernel
theorem dL_twice_7 : decode bL_twice 7 = .ok (.i2l, 1) := by decide +kernel
theorem dL_twice_8 : decode bL_twice 8 = .ok (.lastore, 1) := by decide +kernel
theorem dL_twice_9 : decode bL_twice 9 = .ok (.goto 6, 3) := by decide +kernel
theorem dL_twice_12 : decode bL_twice 12 = .ok (.astore_n 3, 1) := by decide +kernel
theorem dL_twice_13 : decode bL_twice 13 = .ok (.iconst 1, 1) := by decide +kernel
theorem dL_twice_14 : decode bL_twice 14 = .ok (.ireturn, 1) := by decide +kernel
theorem dL_twice_15 : decode bL_twice 15 = .ok (.iconst 0, 1) := by decide +kernel
theorem dL_twice_16 : decode bL_twice 16 = .ok (.ireturn, 1) := by decide +kernel
theorem dL_message_0 : decode bL_message 0 = .ok (.aload_n 3, 1) := by decide +kernel
theorem dL_message_1 : decode bL_message 1 = .ok (.iconst 0, 1) := by decide +kernel
theorem dL_message_2 : decode bL_message 2 = .ok (.aload_n 0, 1) := by decide +kernel
theorem dL_message_3 : decode bL_message 3 = .ok (.iload_n 1, 1) := by decide +kernel
theorem dL_message_4 : decode bL_message 4 = .ok (.iload_n 2, 1) := by decide +kernel
theorem dL_message_5 : decode bL_message 5 = .ok (.invokevirtual 29, 3) := by decide +kernel
theorem dL_message_8 : decode bL_message 8 = .ok (.i2l, 1) := by decide +kernel
theorem dL_message_9 : decode bL_message 9 = .ok (.lastore, 1) := by decide +kernel
theorem dL_message_10 : decode bL_message 10 = .ok (.goto 7, 3) := by decide +kernel
theorem dL_message_13 : decode bL_message 13 = .ok (.astore 4, 2) := by decide +kernel
theorem dL_message_15 : decode bL_message 15 = .ok (.iconst 1, 1) := by decide +kernel
theorem dL_message_16 : decode bL_message 16 = .ok (.ireturn, 1) := by decide +kernel
theorem dL_message_17 : decode bL_message 17 = .ok (.iconst 0, 1) := by decide +kernel
theorem dL_message_18 : decode bL_message 18 = .ok (.ireturn, 1) := by decide +kernel
theorem dL_clock_0 : decode bL_clock 0 = .ok (.aload_n 2, 1) := by decide +kernel
theorem dL_clock_1 : decode bL_clock 1 = .ok (.iconst 0, 1) := by decide +kernel
theorem dL_clock_2 : decode bL_clock 2 = .ok (.aload_n 0, 1) := by decide +kernel
theorem dL_clock_3 : decode bL_clock 3 = .ok (.iload_n 1, 1) := by decide +kernel
theorem dL_clock_4 : decode bL_clock 4 = .ok (.invokevirtual 32, 3) := by decide +kernel
theorem dL_clock_7 : decode bL_clock 7 = .ok (.lastore, 1) := by decide +kernel
theorem dL_clock_8 : decode bL_clock 8 = .ok (.goto 6, 3) := by decide +kernel
theorem dL_clock_11 : decode bL_clock 11 = .ok (.astore_n 3, 1) := by decide +kernel
theorem dL_clock_12 : decode bL_clock 12 = .ok (.iconst 1, 1) := by decide +kernel
theorem dL_clock_13 : decode bL_clock 13 = .ok (.ireturn, 1) := by decide +kernel
theorem dL_clock_14 : decode bL_clock 14 = .ok (.iconst 0, 1) := by decide +kernel
theorem dL_clock_15 : decode bL_clock 15 = .ok (.ireturn, 1) := by decide +kernel
theorem dL_lacks_0 : decode bL_lacks 0 = .ok (.aload_n 2, 1) := by decide +kernel
theorem dL_lacks_1 : decode bL_lacks 1 = .ok (.iconst 0, 1) := by decide +kernel
theorem dL_lacks_2 : decode bL_lacks 2 = .ok (.aload_n 0, 1) := by decide +kernel
theorem dL_lacks_3 : decode bL_lacks 3 = .ok (.iload_n 1, 1) := by decide +kernel
theorem dL_lacks_4 : decode bL_lacks 4 = .ok (.invokevirtual 36, 3) := by decide +kernel
theorem dL_lacks_7 : decode bL_lacks 7 = .ok (.i2l, 1) := by decide +kernel
theorem dL_lacks_8 : decode bL_lacks 8 = .ok (.lastore, 1) := by decide +kernel
theorem dL_lacks_9 : decode bL_lacks 9 = .ok (.goto 6, 3) := by decide +kernel
theorem dL_lacks_12 : decode bL_lacks 12 = .ok (.astore_n 3, 1) := by decide +kernel
theorem dL_lacks_13 : decode bL_lacks 13 = .ok (.iconst 1, 1) := by decide +kernel
theorem dL_lacks_14 : decode bL_lacks 14 = .ok (.ireturn, 1) := by decide +kernel
theorem dL_lacks_15 : decode bL_lacks 15 = .ok (.iconst 0, 1) := by decide +kernel
theorem dL_lacks_16 : decode bL_lacks 16 = .ok (.ireturn, 1) := by decide +kernel
theorem dL_law_0 : decode bL_law 0 = .ok (.new 8, 3) := by decide +kernel
theorem dL_law_3 : decode bL_law 3 = .ok (.dup, 1) := by decide +kernel
theorem dL_law_4 : decode bL_law 4 = .ok (.aload_n 0, 1) := by decide +kernel
theorem dL_law_5 : decode bL_law 5 = .ok (.iconst 0, 1) := by decide +kernel
theorem dL_law_6 : decode bL_law 6 = .ok (.invokestatic 39, 3) := by decide +kernel
theorem dL_law_9 : decode bL_law 9 = .ok (.aload_n 0, 1) := by decide +kernel
theorem dL_law_10 : decode bL_law 10 = .ok (.iconst 1, 1) := by decide +kernel
theorem dL_law_11 : decode bL_law 11 = .ok (.invokestatic 39, 3) := by decide +kernel
theorem dL_law_14 : decode bL_law 14 = .ok (.invokespecial 45, 3) := by decide +kernel
theorem dL_law_17 : decode bL_law 17 = .ok (.astore_n 1, 1) := by decide +kernel
theorem dL_law_18 : decode bL_law 18 = .ok (.new 48, 3) := by decide +kernel
theorem dL_law_21 : decode bL_law 21 = .ok (.dup, 1) := by decide +kernel
theorem dL_law_22 : decode bL_law 22 = .ok (.aload_n 0, 1) := by decide +kernel
theorem dL_law_23 : decode bL_law 23 = .ok (.iconst 0, 1) := by decide +kernel
theorem dL_law_24 : decode bL_law 24 = .ok (.invokestatic 39, 3) := by decide +kernel
theorem dL_law_27 : decode bL_law 27 = .ok (.aload_n 0, 1) := by decide +kernel
theorem dL_law_28 : decode bL_law 28 = .ok (.iconst 1, 1) := by decide +kernel
theorem dL_law_29 : decode bL_law 29 = .ok (.invokestatic 39, 3) := by decide +kernel
theorem dL_law_32 : decode bL_law 32 = .ok (.invokespecial 50, 3) := by decide +kernel
theorem dL_law_35 : decode bL_law 35 = .ok (.astore_n 2, 1) := by decide +kernel
theorem dL_law_36 : decode bL_law 36 = .ok (.iconst 1, 1) := by decide +kernel
theorem dL_law_37 : decode bL_law 37 = .ok (.newarray .long, 2) := by decide +kernel
theorem dL_law_39 : decode bL_law 39 = .ok (.astore_n 3, 1) := by decide +kernel
theorem dL_law_40 : decode bL_law 40 = .ok (.iconst 2, 1) := by decide +kernel
theorem dL_law_41 : decode bL_law 41 = .ok (.istore 4, 2) := by decide +kernel
theorem dL_law_43 : decode bL_law 43 = .ok (.iload 4, 2) := by decide +kernel
theorem dL_law_45 : decode bL_law 45 = .ok (.aload_n 0, 1) := by decide +kernel
theorem dL_law_46 : decode bL_law 46 = .ok (.arraylength, 1) := by decide +kernel
theorem dL_law_47 : decode bL_law 47 = .ok (.iconst 3, 1) := by decide +kernel
theorem dL_law_48 : decode bL_law 48 = .ok (.isub, 1) := by decide +kernel
theorem dL_law_49 : decode bL_law 49 = .ok (.if_icmp .gt 740, 3) := by decide +kernel
theorem dL_law_52 : decode bL_law 52 = .ok (.aload_n 0, 1) := by decide +kernel
theorem dL_law_53 : decode bL_law 53 = .ok (.iload 4, 2) := by decide +kernel
theorem dL_law_55 : decode bL_law 55 = .ok (.iaload, 1) := by decide +kernel
theorem dL_law_56 : decode bL_law 56 = .ok (.bipush 15, 2) := by decide +kernel
theorem dL_law_58 : decode bL_law 58 = .ok (.iand, 1) := by decide +kernel
theorem dL_law_59 : decode bL_law 59 = .ok (.tableswitch 724 0 13 #[69, 137, 193, 249, 274, 330, 383, 451, 488, 514, 569, 606, 643, 699], 69) := by decide +kernel
theorem dL_law_128 : decode bL_law 128 = .ok (.aload_n 1, 1) := by decide +kernel
theorem dL_law_129 : decode bL_law 129 = .ok (.aload_n 0, 1) := by decide +kernel
theorem dL_law_130 : decode bL_law 130 = .ok (.iload 4, 2) := by decide +kernel
theorem dL_law_132 : decode bL_law 132 = .ok (.iconst 1, 1) := by decide +kernel
theorem dL_law_133 : decode bL_law 133 = .ok (.iadd, 1) := by decide +kernel
theorem dL_law_134 : decode bL_law 134 = .ok (.iaload, 1) := by decide +kernel
theorem dL_law_135 : decode bL_law 135 = .ok (.aload_n 0, 1) := by decide +kernel
theorem dL_law_136 : decode bL_law 136 = .ok (.iload 4, 2) := by decide +kernel
theorem dL_law_138 : decode bL_law 138 = .ok (.iconst 2, 1) := by decide +kernel
theorem dL_law_139 : decode bL_law 139 = .ok (.iadd, 1) := by decide +kernel
theorem dL_law_140 : decode bL_law 140 = .ok (.iaload, 1) := by decide +kernel
theorem dL_law_141 : decode bL_law 141 = .ok (.aload_n 3, 1) := by decide +kernel
theorem dL_law_142 : decode bL_law 142 = .ok (.invokestatic 51, 3) := by decide +kernel
theorem dL_law_145 : decode bL_law 145 = .ok (.istore 5, 2) := by decide +kernel
theorem dL_law_147 : decode bL_law 147 = .ok (.aload_n 2, 1) := by decide +kernel
theorem dL_law_148 : decode bL_law 148 = .ok (.aload_n 0, 1) := by decide +kernel
theorem dL_law_149 : decode bL_law 149 = .ok (.iload 4, 2) := by decide +kernel
theorem dL_law_151 : decode bL_law 151 = .ok (.iconst 1, 1) := by decide +kernel
theorem dL_law_152 : decode bL_law 152 = .ok (.iadd, 1) := by decide +kernel
theorem dL_law_153 : decode bL_law 153 = .ok (.iaload, 1) := by decide +kernel
theorem dL_law_154 : decode bL_law 154 = .ok (.aload_n 0, 1) := by decide +kernel
theorem dL_law_155 : decode bL_law 155 = .ok (.iload 4, 2) := by decide +kernel
theorem dL_law_157 : decode bL_law 157 = .ok (.iconst 2, 1) := by decide +kernel
theorem dL_law_158 : decode bL_law 158 = .ok (.iadd, 1) := by decide +kernel
theorem dL_law_159 : decode bL_law 159 = .ok (.iaload, 1) := by decide +kernel
theorem dL_law_160 : decode bL_law 160 = .ok (.invokevirtual 54, 3) := by decide +kernel
theorem dL_law_163 : decode bL_law 163 = .ok (.istore 6, 2) := by decide +kernel
theorem dL_law_165 : decode bL_law 165 = .ok (.aload_n 2, 1) := by decide +kernel
theorem dL_law_166 : decode bL_law 166 = .ok (.invokevirtual 55, 3) := by decide +kernel
theorem dL_law_169 : decode bL_law 169 = .ok (.iload 5, 2) := by decide +kernel
theorem dL_law_171 : decode bL_law 171 = .ok (.if_icmp .eq 5, 3) := by decide +kernel
theorem dL_law_174 : decode bL_law 174 = .ok (.iconst 0, 1) := by decide +kernel
theorem dL_law_175 : decode bL_law 175 = .ok (.ireturn, 1) := by decide +kernel
theorem dL_law_176 : decode bL_law 176 = .ok (.iload 5, 2) := by decide +kernel
theorem dL_law_178 : decode bL_law 178 = .ok (.ifCond .ne 15, 3) := by decide +kernel
theorem dL_law_181 : decode bL_law 181 = .ok (.aload_n 3, 1) := by decide +kernel
theorem dL_law_182 : decode bL_law 182 = .ok (.iconst 0, 1) := by decide +kernel
theorem dL_law_183 : decode bL_law 183 = .ok (.laload, 1) := by decide +kernel
theorem dL_law_184 : decode bL_law 184 = .ok (.iload 6, 2) := by decide +kernel
theorem dL_law_186 : decode bL_law 186 = .ok (.i2l, 1) := by decide +kernel
theorem dL_law_187 : decode bL_law 187 = .ok (.lcmp, 1) := by decide +kernel
theorem dL_law_188 : decode bL_law 188 = .ok (.ifCond .eq 5, 3) := by decide +kernel
theorem dL_law_191 : decode bL_law 191 = .ok (.iconst 0, 1) := by decide +kernel
theorem dL_law_192 : decode bL_law 192 = .ok (.ireturn, 1) := by decide +kernel
theorem dL_law_193 : decode bL_law 193 = .ok (.goto 590, 3) := by decide +kernel
theorem dL_law_196 : decode bL_law 196 = .ok (.aload_n 1, 1) := by decide +kernel
theorem dL_law_197 : decode bL_law 197 = .ok (.aload_n 0, 1) := by decide +kernel
theorem dL_law_198 : decode bL_law 198 = .ok (.iload 4, 2) := by decide +kernel
theorem dL_law_200 : decode bL_law 200 = .ok (.iconst 1, 1) := by decide +kernel
theorem dL_law_201 : decode bL_law 201 = .ok (.iadd, 1) := by decide +kernel
theorem dL_law_202 : decode bL_law 202 = .ok (.iaload, 1) := by decide +kernel
theorem dL_law_203 : decode bL_law 203 = .ok (.aload_n 3, 1) := by decide +kernel
theorem dL_law_204 : decode bL_law 204 = .ok (.invokestatic 59, 3) := by decide +kernel
theorem dL_law_207 : decode bL_law 207 = .ok (.istore 5, 2) := by decide +kernel
theorem dL_law_209 : decode bL_law 209 = .ok (.aload_n 2, 1) := by decide +kernel
theorem dL_law_210 : decode bL_law 210 = .ok (.aload_n 0, 1) := by decide +kernel
theorem dL_law_211 : decode bL_law 211 = .ok (.iload 4, 2) := by decide +kernel
theorem dL_law_213 : decode bL_law 213 = .ok (.iconst 1, 1) := by decide +kernel
theorem dL_law_214 : decode bL_law 214 = .ok (.iadd, 1) := by decide +kernel
theorem dL_law_215 : decode bL_law 215 = .ok (.iaload, 1) := by decide +kernel
theorem dL_law_216 : decode bL_law 216 = .ok (.invokevirtual 62, 3) := by decide +kernel
theorem dL_law_219 : decode bL_law 219 = .ok (.istore 6, 2) := by decide +kernel
theorem dL_law_221 : decode bL_law 221 = .ok (.aload_n 2, 1) := by decide +kernel
theorem dL_law_222 : decode bL_law 222 = .ok (.invokevirtual 55, 3) := by decide +kernel
theorem dL_law_225 : decode bL_law 225 = .ok (.iload 5, 2) := by decide +kernel
theorem dL_law_227 : decode bL_law 227 = .ok (.if_icmp .eq 5, 3) := by decide +kernel
theorem dL_law_230 : decode bL_law 230 = .ok (.iconst 0, 1) := by decide +kernel
theorem dL_law_231 : decode bL_law 231 = .ok (.ireturn, 1) := by decide +kernel
theorem dL_law_232 : decode bL_law 232 = .ok (.iload 5, 2) := by decide +kernel
theorem dL_law_234 : decode bL_law 234 = .ok (.ifCond .ne 15, 3) := by decide +kernel
theorem dL_law_237 : decode bL_law 237 = .ok (.aload_n 3, 1) := by decide +kernel
theorem dL_law_238 : decode bL_law 238 = .ok (.iconst 0, 1) := by decide +kernel
theorem dL_law_239 : decode bL_law 239 = .ok (.laload, 1) := by decide +kernel
theorem dL_law_240 : decode bL_law 240 = .ok (.iload 6, 2) := by decide +kernel
theorem dL_law_242 : decode bL_law 242 = .ok (.i2l, 1) := by decide +kernel
theorem dL_law_243 : decode bL_law 243 = .ok (.lcmp, 1) := by decide +kernel
theorem dL_law_244 : decode bL_law 244 = .ok (.ifCond .eq 5, 3) := by decide +kernel
theorem dL_law_247 : decode bL_law 247 = .ok (.iconst 0, 1) := by decide +kernel
theorem dL_law_248 : decode bL_law 248 = .ok (.ireturn, 1) := by decide +kernel
theorem dL_law_249 : decode bL_law 249 = .ok (.goto 534, 3) := by decide +kernel
theorem dL_law_252 : decode bL_law 252 = .ok (.aload_n 1, 1) := by decide +kernel
theorem dL_law_253 : decode bL_law 253 = .ok (.aload_n 0, 1) := by decide +kernel
theorem dL_law_254 : decode bL_law 254 = .ok (.iload 4, 2) := by decide +kernel
theorem dL_law_256 : decode bL_law 256 = .ok (.iconst 1, 1) := by decide +kernel
theorem dL_law_257 : decode bL_law 257 = .ok (.iadd, 1) := by decide +kernel
theorem dL_law_258 : decode bL_law 258 = .ok (.iaload, 1) := by decide +kernel
theorem dL_law_259 : decode bL_law 259 = .ok (.aload_n 3, 1) := by decide +kernel
theorem dL_law_260 : decode bL_law 260 = .ok (.invokestatic 63, 3) := by decide +kernel
theorem dL_law_263 : decode bL_law 263 = .ok (.istore 5, 2) := by decide +kernel
theorem dL_law_265 : decode bL_law 265 = .ok (.aload_n 2, 1) := by decide +kernel
theorem dL_law_266 : decode bL_law 266 = .ok (.aload_n 0, 1) := by decide +kernel
theorem dL_law_267 : decode bL_law 267 = .ok (.iload 4, 2) := by decide +kernel
theorem dL_law_269 : decode bL_law 269 = .ok (.iconst 1, 1) := by decide +kernel
theorem dL_law_270 : decode bL_law 270 = .ok (.iadd, 1) := by decide +kernel
theorem dL_law_271 : decode bL_law 271 = .ok (.iaload, 1) := by decide +kernel
theorem dL_law_272 : decode bL_law 272 = .ok (.invokevirtual 65, 3) := by decide +kernel
theorem dL_law_275 : decode bL_law 275 = .ok (.istore 6, 2) := by decide +kernel
theorem dL_law_277 : decode bL_law 277 = .ok (.aload_n 2, 1) := by decide +kernel
theorem dL_law_278 : decode bL_law 278 = .ok (.invokevirtual 55, 3) := by decide +kernel
theorem dL_law_281 : decode bL_law 281 = .ok (.iload 5, 2) := by decide +kernel
theorem dL_law_283 : decode bL_law 283 = .ok (.if_icmp .eq 5, 3) := by decide +kernel
theorem dL_law_286 : decode bL_law 286 = .ok (.iconst 0, 1) := by decide +kernel
theorem dL_law_287 : decode bL_law 287 = .ok (.ireturn, 1) := by decide +kernel
theorem dL_law_288 : decode bL_law 288 = .ok (.iload 5, 2) := by decide +kernel
theorem dL_law_290 : decode bL_law 290 = .ok (.ifCond .ne 15, 3) := by decide +kernel
theorem dL_law_293 : decode bL_law 293 = .ok (.aload_n 3, 1) := by decide +kernel
theorem dL_law_294 : decode bL_law 294 = .ok (.iconst 0, 1) := by decide +kernel
theorem dL_law_295 : decode bL_law 295 = .ok (.laload, 1) := by decide +kernel
theorem dL_law_296 : decode bL_law 296 = .ok (.iload 6, 2) := by decide +kernel
theorem dL_law_298 : decode bL_law 298 = .ok (.i2l, 1) := by decide +kernel
theorem dL_law_299 : decode bL_law 299 = .ok (.lcmp, 1) := by decide +kernel
theorem dL_law_300 : decode bL_law 300 = .ok (.ifCond .eq 5, 3) := by decide +kernel
theorem dL_law_303 : decode bL_law 303 = .ok (.iconst 0, 1) := by decide +kernel
theorem dL_law_304 : decode bL_law 304 = .ok (.ireturn, 1) := by decide +kernel
theorem dL_law_305 : decode bL_law 305 = .ok (.goto 478, 3) := by decide +kernel
theorem dL_law_308 : decode bL_law 308 = .ok (.aload_n 1, 1) := by decide +kernel
theorem dL_law_309 : decode bL_law 309 = .ok (.aload_n 0, 1) := by decide +kernel
theorem dL_law_310 : decode bL_law 310 = .ok (.iload 4, 2) := by decide +kernel
theorem dL_law_312 : decode bL_law 312 = .ok (.iconst 1, 1) := by decide +kernel
theorem dL_law_313 : decode bL_law 313 = .ok (.iadd, 1) := by decide +kernel
theorem dL_law_314 : decode bL_law 314 = .ok (.iaload, 1) := by decide +kernel
theorem dL_law_315 : decode bL_law 315 = .ok (.invokevirtual 66, 3) := by decide +kernel
theorem dL_law_318 : decode bL_law 318 = .ok (.aload_n 2, 1) := by decide +kernel
theorem dL_law_319 : decode bL_law 319 = .ok (.aload_n 0, 1) := by decide +kernel
theorem dL_law_320 : decode bL_law 320 = .ok (.iload 4, 2) := by decide +kernel
theorem dL_law_322 : decode bL_law 322 = .ok (.iconst 1, 1) := by decide +kernel
theorem dL_law_323 : decode bL_law 323 = .ok (.iadd, 1) := by decide +kernel
theorem dL_law_324 : decode bL_law 324 = .ok (.iaload, 1) := by decide +kernel
theorem dL_law_325 : decode bL_law 325 = .ok (.invokevirtual 70, 3) := by decide +kernel
theorem dL_law_328 : decode bL_law 328 = .ok (.if_icmp .eq 455, 3) := by decide +kernel
theorem dL_law_331 : decode bL_law 331 = .ok (.iconst 0, 1) := by decide +kernel
theorem dL_law_332 : decode bL_law 332 = .ok (.ireturn, 1) := by decide +kernel
theorem dL_law_333 : decode bL_law 333 = .ok (.aload_n 1, 1) := by decide +kernel
theorem dL_law_334 : decode bL_law 334 = .ok (.aload_n 0, 1) := by decide +kernel
theorem dL_law_335 : decode bL_law 335 = .ok (.iload 4, 2) := by decide +kernel
theorem dL_law_337 : decode bL_law 337 = .ok (.iconst 1, 1) := by decide +kernel
theorem dL_law_338 : decode bL_law 338 = .ok (.iadd, 1) := by decide +kernel
theorem dL_law_339 : decode bL_law 339 = .ok (.iaload, 1) := by decide +kernel
theorem dL_law_340 : decode bL_law 340 = .ok (.aload_n 3, 1) := by decide +kernel
theorem dL_law_341 : decode bL_law 341 = .ok (.invokestatic 71, 3) := by decide +kernel
theorem dL_law_344 : decode bL_law 344 = .ok (.istore 5, 2) := by decide +kernel
theorem dL_law_346 : decode bL_law 346 = .ok (.aload_n 2, 1) := by decide +kernel
theorem dL_law_347 : decode bL_law 347 = .ok (.aload_n 0, 1) := by decide +kernel
theorem dL_law_348 : decode bL_law 348 = .ok (.iload 4, 2) := by decide +kernel
theorem dL_law_350 : decode bL_law 350 = .ok (.iconst 1, 1) := by decide +kernel
theorem dL_law_351 : decode bL_law 351 = .ok (.iadd, 1) := by decide +kernel
theorem dL_law_352 : decode bL_law 352 = .ok (.iaload, 1) := by decide +kernel
theorem dL_law_353 : decode bL_law 353 = .ok (.invokevirtual 73, 3) := by decide +kernel
theorem dL_law_356 : decode bL_law 356 = .ok (.istore 6, 2) := by decide +kernel
theorem dL_law_358 : decode bL_law 358 = .ok (.aload_n 2, 1) := by decide +kernel
theorem dL_law_359 : decode bL_law 359 = .ok (.invokevirtual 55, 3) := by decide +kernel
theorem dL_law_362 : decode bL_law 362 = .ok (.iload 5, 2) := by decide +kernel
theorem dL_law_364 : decode bL_law 364 = .ok (.if_icmp .eq 5, 3) := by decide +kernel
theorem dL_law_367 : decode bL_law 367 = .ok (.iconst 0, 1) := by decide +kernel
theorem dL_law_368 : decode bL_law 368 = .ok (.ireturn, 1) := by decide +kernel
theorem dL_law_369 : decode bL_law 369 = .ok (.iload 5, 2) := by decide +kernel
theorem dL_law_371 : decode bL_law 371 = .ok (.ifCond .ne 15, 3) := by decide +kernel
theorem dL_law_374 : decode bL_law 374 = .ok (.aload_n 3, 1) := by decide +kernel
theorem dL_law_375 : decode bL_law 375 = .ok (.iconst 0, 1) := by decide +kernel
theorem dL_law_376 : decode bL_law 376 = .ok (.laload, 1) := by decide +kernel
theorem dL_law_377 : decode bL_law 377 = .ok (.iload 6, 2) := by decide +kernel
theorem dL_law_379 : decode bL_law 379 = .ok (.i2l, 1) := by decide +kernel
theorem dL_law_380 : decode bL_law 380 = .ok (.lcmp, 1) := by decide +kernel
theorem dL_law_381 : decode bL_law 381 = .ok (.ifCond .eq 5, 3) := by decide +kernel
theorem dL_law_384 : decode bL_law 384 = .ok (.iconst 0, 1) := by decide +kernel
theorem dL_law_385 : decode bL_law 385 = .ok (.ireturn, 1) := by decide +kernel
theorem dL_law_386 : decode bL_law 386 = .ok (.goto 397, 3) := by decide +kernel
theorem dL_law_389 : decode bL_law 389 = .ok (.aload_n 1, 1) := by decide +kernel
theorem dL_law_390 : decode bL_law 390 = .ok (.aload_n 0, 1) := by decide +kernel
theorem dL_law_391 : decode bL_law 391 = .ok (.iload 4, 2) := by decide +kernel
theorem dL_law_393 : decode bL_law 393 = .ok (.iconst 1, 1) := by decide +kernel
theorem dL_law_394 : decode bL_law 394 = .ok (.iadd, 1) := by decide +kernel
theorem dL_law_395 : decode bL_law 395 = .ok (.iaload, 1) := by decide +kernel
theorem dL_law_396 : decode bL_law 396 = .ok (.aload_n 0, 1) := by decide +kernel
theorem dL_law_397 : decode bL_law 397 = .ok (.iload 4, 2) := by decide +kernel
theorem dL_law_399 : decode bL_law 399 = .ok (.iconst 2, 1) := by decide +kernel
theorem dL_law_400 : decode bL_law 400 = .ok (.iadd, 1) := by decide +kernel
theorem dL_law_401 : decode bL_law 401 = .ok (.iaload, 1) := by decide +kernel
theorem dL_law_402 : decode bL_law 402 = .ok (.ifCond .eq 7, 3) := by decide +kernel
theorem dL_law_405 : decode bL_law 405 = .ok (.iconst 1, 1) := by decide +kernel
theorem dL_law_406 : decode bL_law 406 = .ok (.goto 4, 3) := by decide +kernel
theorem dL_law_409 : decode bL_law 409 = .ok (.iconst 0, 1) := by decide +kernel
theorem dL_law_410 : decode bL_law 410 = .ok (.invokevirtual 74, 3) := by decide +kernel
theorem dL_law_413 : decode bL_law 413 = .ok (.aload_n 2, 1) := by decide +kernel
theorem dL_law_414 : decode bL_law 414 = .ok (.aload_n 0, 1) := by decide +kernel
theorem dL_law_415 : decode bL_law 415 = .ok (.iload 4, 2) := by decide +kernel
theorem dL_law_417 : decode bL_law 417 = .ok (.iconst 1, 1) := by decide +kernel
theorem dL_law_418 : decode bL_law 418 = .ok (.iadd, 1) := by decide +kernel
theorem dL_law_419 : decode bL_law 419 = .ok (.iaload, 1) := by decide +kernel
theorem dL_law_420 : decode bL_law 420 = .ok (.aload_n 0, 1) := by decide +kernel
theorem dL_law_421 : decode bL_law 421 = .ok (.iload 4, 2) := by decide +kernel
theorem dL_law_423 : decode bL_law 423 = .ok (.iconst 2, 1) := by decide +kernel
theorem dL_law_424 : decode bL_law 424 = .ok (.iadd, 1) := by decide +kernel
theorem dL_law_425 : decode bL_law 425 = .ok (.iaload, 1) := by decide +kernel
theorem dL_law_426 : decode bL_law 426 = .ok (.ifCond .eq 7, 3) := by decide +kernel
theorem dL_law_429 : decode bL_law 429 = .ok (.iconst 1, 1) := by decide +kernel
theorem dL_law_430 : decode bL_law 430 = .ok (.goto 4, 3) := by decide +kernel
theorem dL_law_433 : decode bL_law 433 = .ok (.iconst 0, 1) := by decide +kernel
theorem dL_law_434 : decode bL_law 434 = .ok (.invokevirtual 78, 3) := by decide +kernel
theorem dL_law_437 : decode bL_law 437 = .ok (.if_icmp .eq 346, 3) := by decide +kernel
theorem dL_law_440 : decode bL_law 440 = .ok (.iconst 0, 1) := by decide +kernel
theorem dL_law_441 : decode bL_law 441 = .ok (.ireturn, 1) := by decide +kernel
theorem dL_law_442 : decode bL_law 442 = .ok (.aload_n 1, 1) := by decide +kernel
theorem dL_law_443 : decode bL_law 443 = .ok (.aload_n 0, 1) := by decide +kernel
theorem dL_law_444 : decode bL_law 444 = .ok (.iload 4, 2) := by decide +kernel
theorem dL_law_446 : decode bL_law 446 = .ok (.iconst 1, 1) := by decide +kernel
theorem dL_law_447 : decode bL_law 447 = .ok (.iadd, 1) := by decide +kernel
theorem dL_law_448 : decode bL_law 448 = .ok (.iaload, 1) := by decide +kernel
theorem dL_law_449 : decode bL_law 449 = .ok (.aload_n 0, 1) := by decide +kernel
theorem dL_law_450 : decode bL_law 450 = .ok (.iload 4, 2) := by decide +kernel
theorem dL_law_452 : decode bL_law 452 = .ok (.iconst 2, 1) := by decide +kernel
theorem dL_law_453 : decode bL_law 453 = .ok (.iadd, 1) := by decide +kernel
theorem dL_law_454 : decode bL_law 454 = .ok (.iaload, 1) := by decide +kernel
theorem dL_law_455 : decode bL_law 455 = .ok (.aload_n 3, 1) := by decide +kernel
theorem dL_law_456 : decode bL_law 456 = .ok (.invokestatic 79, 3) := by decide +kernel
theorem dL_law_459 : decode bL_law 459 = .ok (.istore 5, 2) := by decide +kernel
theorem dL_law_461 : decode bL_law 461 = .ok (.aload_n 2, 1) := by decide +kernel
theorem dL_law_462 : decode bL_law 462 = .ok (.aload_n 0, 1) := by decide +kernel
theorem dL_law_463 : decode bL_law 463 = .ok (.iload 4, 2) := by decide +kernel
theorem dL_law_465 : decode bL_law 465 = .ok (.iconst 1, 1) := by decide +kernel
theorem dL_law_466 : decode bL_law 466 = .ok (.iadd, 1) := by decide +kernel
theorem dL_law_467 : decode bL_law 467 = .ok (.iaload, 1) := by decide +kernel
theorem dL_law_468 : decode bL_law 468 = .ok (.aload_n 0, 1) := by decide +kernel
theorem dL_law_469 : decode bL_law 469 = .ok (.iload 4, 2) := by decide +kernel
theorem dL_law_471 : decode bL_law 471 = .ok (.iconst 2, 1) := by decide +kernel
theorem dL_law_472 : decode bL_law 472 = .ok (.iadd, 1) := by decide +kernel
theorem dL_law_473 : decode bL_law 473 = .ok (.iaload, 1) := by decide +kernel
theorem dL_law_474 : decode bL_law 474 = .ok (.invokevirtual 81, 3) := by decide +kernel
theorem dL_law_477 : decode bL_law 477 = .ok (.istore 6, 2) := by decide +kernel
theorem dL_law_479 : decode bL_law 479 = .ok (.aload_n 2, 1) := by decide +kernel
theorem dL_law_480 : decode bL_law 480 = .ok (.invokevirtual 55, 3) := by decide +kernel
theorem dL_law_483 : decode bL_law 483 = .ok (.iload 5, 2) := by decide +kernel
theorem dL_law_485 : decode bL_law 485 = .ok (.if_icmp .eq 5, 3) := by decide +kernel
theorem dL_law_488 : decode bL_law 488 = .ok (.iconst 0, 1) := by decide +kernel
theorem dL_law_489 : decode bL_law 489 = .ok (.ireturn, 1) := by decide +kernel
theorem dL_law_490 : decode bL_law 490 = .ok (.iload 5, 2) := by decide +kernel
theorem dL_law_492 : decode bL_law 492 = .ok (.ifCond .ne 15, 3) := by decide +kernel
theorem dL_law_495 : decode bL_law 495 = .ok (.aload_n 3, 1) := by decide +kernel
theorem dL_law_496 : decode bL_law 496 = .ok (.iconst 0, 1) := by decide +kernel
theorem dL_law_497 : decode bL_law 497 = .ok (.laload, 1) := by decide +kernel
theorem dL_law_498 : decode bL_law 498 = .ok (.iload 6, 2) := by decide +kernel
theorem dL_law_500 : decode bL_law 500 = .ok (.i2l, 1) := by decide +kernel
theorem dL_law_501 : decode bL_law 501 = .ok (.lcmp, 1) := by decide +kernel
theorem dL_law_502 : decode bL_law 502 = .ok (.ifCond .eq 5, 3) := by decide +kernel
theorem dL_law_505 : decode bL_law 505 = .ok (.iconst 0, 1) := by decide +kernel
theorem dL_law_506 : decode bL_law 506 = .ok (.ireturn, 1) := by decide +kernel
theorem dL_law_507 : decode bL_law 507 = .ok (.goto 276, 3) := by decide +kernel
theorem dL_law_510 : decode bL_law 510 = .ok (.aload_n 1, 1) := by decide +kernel
theorem dL_law_511 : decode bL_law 511 = .ok (.aload_n 0, 1) := by decide +kernel
theorem dL_law_512 : decode bL_law 512 = .ok (.iload 4, 2) := by decide +kernel
theorem dL_law_514 : decode bL_law 514 = .ok (.iconst 1, 1) := by decide +kernel
theorem dL_law_515 : decode bL_law 515 = .ok (.iadd, 1) := by decide +kernel
theorem dL_law_516 : decode bL_law 516 = .ok (.iaload, 1) := by decide +kernel
theorem dL_law_517 : decode bL_law 517 = .ok (.aload_n 0, 1) := by decide +kernel
theorem dL_law_518 : decode bL_law 518 = .ok (.iload 4, 2) := by decide +kernel
theorem dL_law_520 : decode bL_law 520 = .ok (.iconst 2, 1) := by decide +kernel
theorem dL_law_521 : decode bL_law 521 = .ok (.iadd, 1) := by decide +kernel
theorem dL_law_522 : decode bL_law 522 = .ok (.iaload, 1) := by decide +kernel
theorem dL_law_523 : decode bL_law 523 = .ok (.invokevirtual 82, 3) := by decide +kernel
theorem dL_law_526 : decode bL_law 526 = .ok (.aload_n 2, 1) := by decide +kernel
theorem dL_law_527 : decode bL_law 527 = .ok (.aload_n 0, 1) := by decide +kernel
theorem dL_law_528 : decode bL_law 528 = .ok (.iload 4, 2) := by decide +kernel
theorem dL_law_530 : decode bL_law 530 = .ok (.iconst 1, 1) := by decide +kernel
theorem dL_law_531 : decode bL_law 531 = .ok (.iadd, 1) := by decide +kernel
theorem dL_law_532 : decode bL_law 532 = .ok (.iaload, 1) := by decide +kernel
theorem dL_law_533 : decode bL_law 533 = .ok (.aload_n 0, 1) := by decide +kernel
theorem dL_law_534 : decode bL_law 534 = .ok (.iload 4, 2) := by decide +kernel
theorem dL_law_536 : decode bL_law 536 = .ok (.iconst 2, 1) := by decide +kernel
theorem dL_law_537 : decode bL_law 537 = .ok (.iadd, 1) := by decide +kernel
theorem dL_law_538 : decode bL_law 538 = .ok (.iaload, 1) := by decide +kernel
theorem dL_law_539 : decode bL_law 539 = .ok (.invokevirtual 85, 3) := by decide +kernel
theorem dL_law_542 : decode bL_law 542 = .ok (.if_icmp .eq 241, 3) := by decide +kernel
theorem dL_law_545 : decode bL_law 545 = .ok (.iconst 0, 1) := by decide +kernel
theorem dL_law_546 : decode bL_law 546 = .ok (.ireturn, 1) := by decide +kernel
theorem dL_law_547 : decode bL_law 547 = .ok (.aload_n 1, 1) := by decide +kernel
theorem dL_law_548 : decode bL_law 548 = .ok (.aload_n 0, 1) := by decide +kernel
theorem dL_law_549 : decode bL_law 549 = .ok (.iload 4, 2) := by decide +kernel
theorem dL_law_551 : decode bL_law 551 = .ok (.iconst 1, 1) := by decide +kernel
theorem dL_law_552 : decode bL_law 552 = .ok (.iadd, 1) := by decide +kernel
theorem dL_law_553 : decode bL_law 553 = .ok (.iaload, 1) := by decide +kernel
theorem dL_law_554 : decode bL_law 554 = .ok (.invokevirtual 86, 3) := by decide +kernel
theorem dL_law_557 : decode bL_law 557 = .ok (.aload_n 2, 1) := by decide +kernel
theorem dL_law_558 : decode bL_law 558 = .ok (.aload_n 0, 1) := by decide +kernel
theorem dL_law_559 : decode bL_law 559 = .ok (.iload 4, 2) := by decide +kernel
theorem dL_law_561 : decode bL_law 561 = .ok (.iconst 1, 1) := by decide +kernel
theorem dL_law_562 : decode bL_law 562 = .ok (.iadd, 1) := by decide +kernel
theorem dL_law_563 : decode bL_law 563 = .ok (.iaload, 1) := by decide +kernel
theorem dL_law_564 : decode bL_law 564 = .ok (.invokevirtual 89, 3) := by decide +kernel
theorem dL_law_567 : decode bL_law 567 = .ok (.lcmp, 1) := by decide +kernel
theorem dL_law_568 : decode bL_law 568 = .ok (.ifCond .eq 215, 3) := by decide +kernel
theorem dL_law_571 : decode bL_law 571 = .ok (.iconst 0, 1) := by decide +kernel
theorem dL_law_572 : decode bL_law 572 = .ok (.ireturn, 1) := by decide +kernel
theorem dL_law_573 : decode bL_law 573 = .ok (.aload_n 1, 1) := by decide +kernel
theorem dL_law_574 : decode bL_law 574 = .ok (.aload_n 0, 1) := by decide +kernel
theorem dL_law_575 : decode bL_law 575 = .ok (.iload 4, 2) := by decide +kernel
theorem dL_law_577 : decode bL_law 577 = .ok (.iconst 1, 1) := by decide +kernel
theorem dL_law_578 : decode bL_law 578 = .ok (.iadd, 1) := by decide +kernel
theorem dL_law_579 : decode bL_law 579 = .ok (.iaload, 1) := by decide +kernel
theorem dL_law_580 : decode bL_law 580 = .ok (.aload_n 3, 1) := by decide +kernel
theorem dL_law_581 : decode bL_law 581 = .ok (.invokestatic 90, 3) := by decide +kernel
theorem dL_law_584 : decode bL_law 584 = .ok (.istore 5, 2) := by decide +kernel
theorem dL_law_586 : decode bL_law 586 = .ok (.aload_n 2, 1) := by decide +kernel
theorem dL_law_587 : decode bL_law 587 = .ok (.aload_n 0, 1) := by decide +kernel
theorem dL_law_588 : decode bL_law 588 = .ok (.iload 4, 2) := by decide +kernel
theorem dL_law_590 : decode bL_law 590 = .ok (.iconst 1, 1) := by decide +kernel
theorem dL_law_591 : decode bL_law 591 = .ok (.iadd, 1) := by decide +kernel
theorem dL_law_592 : decode bL_law 592 = .ok (.iaload, 1) := by decide +kernel
theorem dL_law_593 : decode bL_law 593 = .ok (.invokevirtual 92, 3) := by decide +kernel
theorem dL_law_596 : decode bL_law 596 = .ok (.lstore 6, 2) := by decide +kernel
theorem dL_law_598 : decode bL_law 598 = .ok (.aload_n 2, 1) := by decide +kernel
theorem dL_law_599 : decode bL_law 599 = .ok (.invokevirtual 55, 3) := by decide +kernel
theorem dL_law_602 : decode bL_law 602 = .ok (.iload 5, 2) := by decide +kernel
theorem dL_law_604 : decode bL_law 604 = .ok (.if_icmp .eq 5, 3) := by decide +kernel
theorem dL_law_607 : decode bL_law 607 = .ok (.iconst 0, 1) := by decide +kernel
theorem dL_law_608 : decode bL_law 608 = .ok (.ireturn, 1) := by decide +kernel
theorem dL_law_609 : decode bL_law 609 = .ok (.iload 5, 2) := by decide +kernel
theorem dL_law_611 : decode bL_law 611 = .ok (.ifCond .ne 14, 3) := by decide +kernel
theorem dL_law_614 : decode bL_law 614 = .ok (.aload_n 3, 1) := by decide +kernel
theorem dL_law_615 : decode bL_law 615 = .ok (.iconst 0, 1) := by decide +kernel
theorem dL_law_616 : decode bL_law 616 = .ok (.laload, 1) := by decide +kernel
theorem dL_law_617 : decode bL_law 617 = .ok (.lload 6, 2) := by decide +kernel
theorem dL_law_619 : decode bL_law 619 = .ok (.lcmp, 1) := by decide +kernel
theorem dL_law_620 : decode bL_law 620 = .ok (.ifCond .eq 5, 3) := by decide +kernel
theorem dL_law_623 : decode bL_law 623 = .ok (.iconst 0, 1) := by decide +kernel
theorem dL_law_624 : decode bL_law 624 = .ok (.ireturn, 1) := by decide +kernel
theorem dL_law_625 : decode bL_law 625 = .ok (.goto 158, 3) := by decide +kernel
theorem dL_law_628 : decode bL_law 628 = .ok (.aload_n 1, 1) := by decide +kernel
theorem dL_law_629 : decode bL_law 629 = .ok (.aload_n 0, 1) := by decide +kernel
theorem dL_law_630 : decode bL_law 630 = .ok (.iload 4, 2) := by decide +kernel
theorem dL_law_632 : decode bL_law 632 = .ok (.iconst 1, 1) := by decide +kernel
theorem dL_law_633 : decode bL_law 633 = .ok (.iadd, 1) := by decide +kernel
theorem dL_law_634 : decode bL_law 634 = .ok (.iaload, 1) := by decide +kernel
theorem dL_law_635 : decode bL_law 635 = .ok (.aload_n 0, 1) := by decide +kernel
theorem dL_law_636 : decode bL_law 636 = .ok (.iload 4, 2) := by decide +kernel
theorem dL_law_638 : decode bL_law 638 = .ok (.iconst 2, 1) := by decide +kernel
theorem dL_law_639 : decode bL_law 639 = .ok (.iadd, 1) := by decide +kernel
theorem dL_law_640 : decode bL_law 640 = .ok (.iaload, 1) := by decide +kernel
theorem dL_law_641 : decode bL_law 641 = .ok (.invokevirtual 93, 3) := by decide +kernel
theorem dL_law_644 : decode bL_law 644 = .ok (.aload_n 2, 1) := by decide +kernel
theorem dL_law_645 : decode bL_law 645 = .ok (.aload_n 0, 1) := by decide +kernel
theorem dL_law_646 : decode bL_law 646 = .ok (.iload 4, 2) := by decide +kernel
theorem dL_law_648 : decode bL_law 648 = .ok (.iconst 1, 1) := by decide +kernel
theorem dL_law_649 : decode bL_law 649 = .ok (.iadd, 1) := by decide +kernel
theorem dL_law_650 : decode bL_law 650 = .ok (.iaload, 1) := by decide +kernel
theorem dL_law_651 : decode bL_law 651 = .ok (.aload_n 0, 1) := by decide +kernel
theorem dL_law_652 : decode bL_law 652 = .ok (.iload 4, 2) := by decide +kernel
theorem dL_law_654 : decode bL_law 654 = .ok (.iconst 2, 1) := by decide +kernel
theorem dL_law_655 : decode bL_law 655 = .ok (.iadd, 1) := by decide +kernel
theorem dL_law_656 : decode bL_law 656 = .ok (.iaload, 1) := by decide +kernel
theorem dL_law_657 : decode bL_law 657 = .ok (.invokevirtual 96, 3) := by decide +kernel
theorem dL_law_660 : decode bL_law 660 = .ok (.if_icmp .eq 123, 3) := by decide +kernel
theorem dL_law_663 : decode bL_law 663 = .ok (.iconst 0, 1) := by decide +kernel
theorem dL_law_664 : decode bL_law 664 = .ok (.ireturn, 1) := by decide +kernel
theorem dL_law_665 : decode bL_law 665 = .ok (.aload_n 1, 1) := by decide +kernel
theorem dL_law_666 : decode bL_law 666 = .ok (.aload_n 0, 1) := by decide +kernel
theorem dL_law_667 : decode bL_law 667 = .ok (.iload 4, 2) := by decide +kernel
theorem dL_law_669 : decode bL_law 669 = .ok (.iconst 1, 1) := by decide +kernel
theorem dL_law_670 : decode bL_law 670 = .ok (.iadd, 1) := by decide +kernel
theorem dL_law_671 : decode bL_law 671 = .ok (.iaload, 1) := by decide +kernel
theorem dL_law_672 : decode bL_law 672 = .ok (.aload_n 0, 1) := by decide +kernel
theorem dL_law_673 : decode bL_law 673 = .ok (.iload 4, 2) := by decide +kernel
theorem dL_law_675 : decode bL_law 675 = .ok (.iconst 2, 1) := by decide +kernel
theorem dL_law_676 : decode bL_law 676 = .ok (.iadd, 1) := by decide +kernel
theorem dL_law_677 : decode bL_law 677 = .ok (.iaload, 1) := by decide +kernel
theorem dL_law_678 : decode bL_law 678 = .ok (.invokevirtual 97, 3) := by decide +kernel
theorem dL_law_681 : decode bL_law 681 = .ok (.aload_n 2, 1) := by decide +kernel
theorem dL_law_682 : decode bL_law 682 = .ok (.aload_n 0, 1) := by decide +kernel
theorem dL_law_683 : decode bL_law 683 = .ok (.iload 4, 2) := by decide +kernel
theorem dL_law_685 : decode bL_law 685 = .ok (.iconst 1, 1) := by decide +kernel
theorem dL_law_686 : decode bL_law 686 = .ok (.iadd, 1) := by decide +kernel
theorem dL_law_687 : decode bL_law 687 = .ok (.iaload, 1) := by decide +kernel
theorem dL_law_688 : decode bL_law 688 = .ok (.aload_n 0, 1) := by decide +kernel
theorem dL_law_689 : decode bL_law 689 = .ok (.iload 4, 2) := by decide +kernel
theorem dL_law_691 : decode bL_law 691 = .ok (.iconst 2, 1) := by decide +kernel
theorem dL_law_692 : decode bL_law 692 = .ok (.iadd, 1) := by decide +kernel
theorem dL_law_693 : decode bL_law 693 = .ok (.iaload, 1) := by decide +kernel
theorem dL_law_694 : decode bL_law 694 = .ok (.invokevirtual 100, 3) := by decide +kernel
theorem dL_law_697 : decode bL_law 697 = .ok (.if_icmp .eq 86, 3) := by decide +kernel
theorem dL_law_700 : decode bL_law 700 = .ok (.iconst 0, 1) := by decide +kernel
theorem dL_law_701 : decode bL_law 701 = .ok (.ireturn, 1) := by decide +kernel
theorem dL_law_702 : decode bL_law 702 = .ok (.aload_n 1, 1) := by decide +kernel
theorem dL_law_703 : decode bL_law 703 = .ok (.aload_n 0, 1) := by decide +kernel
theorem dL_law_704 : decode bL_law 704 = .ok (.iload 4, 2) := by decide +kernel
theorem dL_law_706 : decode bL_law 706 = .ok (.iconst 1, 1) := by decide +kernel
theorem dL_law_707 : decode bL_law 707 = .ok (.iadd, 1) := by decide +kernel
theorem dL_law_708 : decode bL_law 708 = .ok (.iaload, 1) := by decide +kernel
theorem dL_law_709 : decode bL_law 709 = .ok (.aload_n 3, 1) := by decide +kernel
theorem dL_law_710 : decode bL_law 710 = .ok (.invokestatic 101, 3) := by decide +kernel
theorem dL_law_713 : decode bL_law 713 = .ok (.istore 5, 2) := by decide +kernel
theorem dL_law_715 : decode bL_law 715 = .ok (.aload_n 2, 1) := by decide +kernel
theorem dL_law_716 : decode bL_law 716 = .ok (.aload_n 0, 1) := by decide +kernel
theorem dL_law_717 : decode bL_law 717 = .ok (.iload 4, 2) := by decide +kernel
theorem dL_law_719 : decode bL_law 719 = .ok (.iconst 1, 1) := by decide +kernel
theorem dL_law_720 : decode bL_law 720 = .ok (.iadd, 1) := by decide +kernel
theorem dL_law_721 : decode bL_law 721 = .ok (.iaload, 1) := by decide +kernel
theorem dL_law_722 : decode bL_law 722 = .ok (.invokevirtual 103, 3) := by decide +kernel
theorem dL_law_725 : decode bL_law 725 = .ok (.istore 6, 2) := by decide +kernel
theorem dL_law_727 : decode bL_law 727 = .ok (.aload_n 2, 1) := by decide +kernel
theorem dL_law_728 : decode bL_law 728 = .ok (.invokevirtual 55, 3) := by decide +kernel
theorem dL_law_731 : decode bL_law 731 = .ok (.iload 5, 2) := by decide +kernel
theorem dL_law_733 : decode bL_law 733 = .ok (.if_icmp .eq 5, 3) := by decide +kernel
theorem dL_law_736 : decode bL_law 736 = .ok (.iconst 0, 1) := by decide +kernel
theorem dL_law_737 : decode bL_law 737 = .ok (.ireturn, 1) := by decide +kernel
theorem dL_law_738 : decode bL_law 738 = .ok (.iload 5, 2) := by decide +kernel
theorem dL_law_740 : decode bL_law 740 = .ok (.ifCond .ne 15, 3) := by decide +kernel
theorem dL_law_743 : decode bL_law 743 = .ok (.aload_n 3, 1) := by decide +kernel
theorem dL_law_744 : decode bL_law 744 = .ok (.iconst 0, 1) := by decide +kernel
theorem dL_law_745 : decode bL_law 745 = .ok (.laload, 1) := by decide +kernel
theorem dL_law_746 : decode bL_law 746 = .ok (.iload 6, 2) := by decide +kernel
theorem dL_law_748 : decode bL_law 748 = .ok (.i2l, 1) := by decide +kernel
theorem dL_law_749 : decode bL_law 749 = .ok (.lcmp, 1) := by decide +kernel
theorem dL_law_750 : decode bL_law 750 = .ok (.ifCond .eq 5, 3) := by decide +kernel
theorem dL_law_753 : decode bL_law 753 = .ok (.iconst 0, 1) := by decide +kernel
theorem dL_law_754 : decode bL_law 754 = .ok (.ireturn, 1) := by decide +kernel
theorem dL_law_755 : decode bL_law 755 = .ok (.goto 28, 3) := by decide +kernel
theorem dL_law_758 : decode bL_law 758 = .ok (.aload_n 1, 1) := by decide +kernel
theorem dL_law_759 : decode bL_law 759 = .ok (.aload_n 0, 1) := by decide +kernel
theorem dL_law_760 : decode bL_law 760 = .ok (.iload 4, 2) := by decide +kernel
theorem dL_law_762 : decode bL_law 762 = .ok (.iconst 1, 1) := by decide +kernel
theorem dL_law_763 : decode bL_law 763 = .ok (.iadd, 1) := by decide +kernel
theorem dL_law_764 : decode bL_law 764 = .ok (.iaload, 1) := by decide +kernel
theorem dL_law_765 : decode bL_law 765 = .ok (.invokevirtual 104, 3) := by decide +kernel
theorem dL_law_768 : decode bL_law 768 = .ok (.aload_n 2, 1) := by decide +kernel
theorem dL_law_769 : decode bL_law 769 = .ok (.aload_n 0, 1) := by decide +kernel
theorem dL_law_770 : decode bL_law 770 = .ok (.iload 4, 2) := by decide +kernel
theorem dL_law_772 : decode bL_law 772 = .ok (.iconst 1, 1) := by decide +kernel
theorem dL_law_773 : decode bL_law 773 = .ok (.iadd, 1) := by decide +kernel
theorem dL_law_774 : decode bL_law 774 = .ok (.iaload, 1) := by decide +kernel
theorem dL_law_775 : decode bL_law 775 = .ok (.invokevirtual 107, 3) := by decide +kernel
theorem dL_law_778 : decode bL_law 778 = .ok (.if_icmp .eq 5, 3) := by decide +kernel
theorem dL_law_781 : decode bL_law 781 = .ok (.iconst 0, 1) := by decide +kernel
theorem dL_law_782 : decode bL_law 782 = .ok (.ireturn, 1) := by decide +kernel
theorem dL_law_783 : decode bL_law 783 = .ok (.iinc 4 3, 3) := by decide +kernel
theorem dL_law_786 : decode bL_law 786 = .ok (.goto (-743), 3) := by decide +kernel
theorem dL_law_789 : decode bL_law 789 = .ok (.iconst 1, 1) := by decide +kernel
theorem dL_law_790 : decode bL_law 790 = .ok (.ireturn, 1) := by decide +kernel
end
section
/-! MY WORLD: a partial map from addresses to cells (B: the first address that belongs to the run). Contracts take a map and give a map: no list of places, no joining. -/
abbrev zw_M : Type := Nat → Option va_E
/-- the heap holds the map -/
def zw_H (D : va_G) (cl : List vw_C) (B : Nat) (M : zw_M) (H : Heap) : Prop := ∀ (a : Nat) (e : va_E), M a = some e → B ≤ a ∧ va_at D cl (a, e) H
abbrev zw_A (B : Nat) : Nat → Prop := fun q => B ≤ q
/-- the map with one cell more, or another one there -/
def zw_u (M : zw_M) (a : Nat) (e : va_E) : zw_M := fun q => if q = a then some e else M q
theorem zw_us (M : zw_M) (a : Nat) (e : va_E) : zw_u M a e a = some e := by simp [zw_u]
theorem zw_un (M : zw_M) {a q : Nat} (e : va_E) (h : q ≠ a) : zw_u M a e q = M q := by simp [zw_u, h]
theorem zw_uu (M : zw_M) (a : Nat) (e e2 : va_E) : zw_u (zw_u M a e) a e2 = zw_u M a e2 := by
  funext q
  by_cases h : q = a <;> simp [zw_u, h]
theorem zw_H.lt {D : va_G} {cl : List vw_C} {B : Nat} {M : zw_M} {H : Heap} (h : zw_H D cl B M H) {a : Nat} {e : va_E} (ha : M a = some e) : a < H.size := (h a e ha).2.lt
theorem zw_H.ge {D : va_G} {cl : List vw_C} {B : Nat} {M : zw_M} {H : Heap} (h : zw_H D cl B M H) {a : Nat} {e : va_E} (ha : M a = some e) : B ≤ a := (h a e ha).1
theorem zw_H.one {D : va_G} {cl : List vw_C} {B : Nat} {M : zw_M} {H : Heap} (h : zw_H D cl B M H) {a : Nat} {e : va_E} (ha : M a = some e) : va_P D cl [(a, e)] H := by
  intro k q hk
  cases k with
  | zero => cases hk; exact (h a e ha).2
  | succ k => simp at hk
theorem zw_H.set {D : va_G} {cl : List vw_C} {B : Nat} {M : zw_M} {H H1 : Heap} {a : Nat} {e : va_E} (h : zw_H D cl B M H) (hB : B ≤ a) (he : va_at D cl (a, e) H1) (oq : ∀ q : Nat, q ≠ a → H1[q]? = H[q]?) : zw_H D cl B (zw_u M a e) H1 := by
  intro q e2 h2
  by_cases hq : q = a
  · subst hq
    rw [zw_us] at h2
    cases h2
    exact ⟨hB, he⟩
  · rw [zw_un _ _ hq] at h2
    exact ⟨(h q e2 h2).1, (h q e2 h2).2.kept (oq q hq)⟩
theorem zw_H.new {D : va_G} {cl : List vw_C} {B : Nat} {M : zw_M} {H H1 : Heap} {e : va_E} (h : zw_H D cl B M H) (hB : B ≤ H.size) (he : va_at D cl (H.size, e) H1) (oq : ∀ q : Nat, q < H.size → H1[q]? = H[q]?) : zw_H D cl B (zw_u M H.size e) H1 := by
  intro q e2 h2
  by_cases hq : q = H.size
  · subst hq
    rw [zw_us] at h2
    cases h2
    exact ⟨hB, he⟩
  · rw [zw_un _ _ hq] at h2
    exact ⟨(h q e2 h2).1, (h q e2 h2).2.kept (oq q (h.lt h2))⟩
theorem zw_H.kept {D : va_G} {cl : List vw_C} {B : Nat} {M : zw_M} {H H1 : Heap} (h : zw_H D cl B M H) (oq : ∀ q : Nat, q < H.size → H1[q]? = H[q]?) : zw_H D cl B M H1 := fun q e2 h2 => ⟨(h q e2 h2).1, (h q e2 h2).2.kept (oq q (h.lt h2))⟩
theorem zw_S.new {B : Nat} {H0 H H1 : Heap} {locs : List Loc} (hS : va_S (zw_A B) H0 H locs) (hz : H.size ≤ H1.size) (oq : ∀ q : Nat, q < H.size → H1[q]? = H[q]?) : va_S (zw_A B) H0 H1 locs :=
  ⟨Nat.le_trans hS.1 hz, fun x h1 h2 => (oq x (Nat.lt_of_lt_of_le h1 hS.1)).trans (hS.2.1 x h1 h2), hS.2.2⟩
section ZW
variable {p : Program} {l : Launch} {e : Env} {R : Room} {s : State} {m : MethodId} {args : Array Value} {below : List Frame} {meth : Method} {c : Code} {H : Heap} {locs : List Loc} {cells slots : Nat} {Q : State → Prop}
variable {cc : ByteArray} {pc : Nat} {ls : Array Slot} {rest : List Value} {D : va_G} {cl : List vw_C} {B a : Nat} {tys : List (ClassId × FieldType)} {M : zw_M} {H0 : Heap}
/-- putfield -/
theorem zw_put (hexec : p.tables.exec = Jvm.exec) (hb : c.code = cc) {own ref C : String} {T : u_T} {N ci index : Nat} {Ts : List Cond} (hts : ∀ w ∈ Ts, w.before args s = true) (hin : ∀ w ∈ u_ws C T N, w ∈ Ts) (ty0 : Nat → FieldType) (hty : ∀ k, k < N → parseFieldDescriptor (T k).2.2.1 = some (ty0 k)) (hnm : ∀ a, a < N → ∀ b, b < N → a ≠ b → (T a).2.1 ≠ (T b).2.1) (hown : s.vm.findClass own = some m.cls) (hK : va_K D cl tys s) (hP : zw_H D cl B M H) (hS0 : va_S (zw_A B) H0 H locs) {fs : List Value} (he : M a = some (.inr (ci, fs))) (hc : cl[ci]? = some (C, T, N)) (k : Nat) (hk : k < N) (hlink : (Cond.fieldLink own index ref (T k).2.1 (T k).2.2.1).before args s = true) (hsame : ∀ x, s.fieldFound? (T k).1 (T k).2.1 (T k).2.2.1 = some x → s.fieldFound? ref (T k).2.1 (T k).2.2.1 = some x) (hfin : (T k).2.2.2 = false) {ty : FieldType} {v : Value} (hd : parseFieldDescriptor (T k).2.2.1 = some ty) (hn : narrow ty v = v) (hfit : fits ty v = true) (hl : k < fs.length)
    (hdg : decode cc pc = .ok (.putfield index, 3)) (kk : ∀ (H1 : Heap) (locs1 : List Loc), zw_H D cl B (zw_u M a (.inr (ci, fs.set k v))) H1 → H1.size = H.size → va_S (zw_A B) H0 H1 locs1 → W p l e R s m args below meth c H1 locs1 cells slots Q (F0 m (pc + 3) ls rest)) : W p l e R s m args below meth c H locs cells slots Q (F0 m pc ls (v :: .ref a :: rest)) := by
  have hap := va_apart (own := own) hts hin ty0 hty hnm hK hc
  obtain ⟨hB, r, h1, cell, q1, q2, q3, q4⟩ := hP a _ he
  have hr : r = (C, T, N) := Option.some.inj (h1.symm.trans hc)
  subst hr
  obtain ⟨hS, hfc, kC, hkC, hkind⟩ := hK.1 ci _ hc
  obtain ⟨cf, kf, fi, f, hi, hsl⟩ := hS k hk
  have hlay := hts _ (hin _ (u_in_lay hk))
  unfold u_lay at hlay
  rw [if_neg (by rw [hfin]; decide)] at hlay
  have hst := (u_facts hfc hkC (u_lays hts hin hk) hi).1
  have h6 := u_store hfc hkC hkind hlay hi hd hn hfit
  refine W.putK hexec hb (f := f) ⟨hown, hlink, ⟨_, _, _, hsame _ hi⟩, hst⟩ (by rw [q2]; exact h6) q1 q3 (by rw [hsl]; exact k2_hasslot (q4 k hk)) rfl rfl hdg fun H' e1 e2 e3 => ?_
  rw [hsl] at e1 ⊢
  exact kk H' _ (hP.set hB ⟨_, hc, t_OB.to (V := updV (vp_V fs) k v) ⟨_, e1, q2, q3, t_set q4 hap hk v⟩ (fun j _ => vp_updV_set hl v j)⟩ e3) e2 (hS0.put e2 e3 hB)
/-- putfield of a final field, in the constructor -/
theorem zw_putF (hexec : p.tables.exec = Jvm.exec) (hb : c.code = cc) {own ref C : String} {T : u_T} {N ci index : Nat} {Ts : List Cond} (hts : ∀ w ∈ Ts, w.before args s = true) (hin : ∀ w ∈ u_ws C T N, w ∈ Ts) (ty0 : Nat → FieldType) (hty : ∀ k, k < N → parseFieldDescriptor (T k).2.2.1 = some (ty0 k)) (hnm : ∀ a, a < N → ∀ b, b < N → a ≠ b → (T a).2.1 ≠ (T b).2.1) (hown : s.vm.findClass own = some m.cls) (hK : va_K D cl tys s) (hP : zw_H D cl B M H) (hS0 : va_S (zw_A B) H0 H locs) {fs : List Value} (he : M a = some (.inr (ci, fs))) (hc : cl[ci]? = some (C, T, N)) (k : Nat) (hk : k < N) (hlink : (Cond.fieldLink own index ref (T k).2.1 (T k).2.2.1).before args s = true) (hsame : ∀ x, s.fieldFound? (T k).1 (T k).2.1 (T k).2.2.1 = some x → s.fieldFound? ref (T k).2.1 (T k).2.2.1 = some x) (hfin : (T k).2.2.2 = true) (hin2 : meth.name = "<init>") (hdecl : (T k).1 = own) {ty : FieldType} {v : Value} (hd : parseFieldDescriptor (T k).2.2.1 = some ty) (hn : narrow ty v = v) (hfit : fits ty v = true) (hl : k < fs.length)
    (hdg : decode cc pc = .ok (.putfield index, 3)) (kk : ∀ (H1 : Heap) (locs1 : List Loc), zw_H D cl B (zw_u M a (.inr (ci, fs.set k v))) H1 → H1.size = H.size → va_S (zw_A B) H0 H1 locs1 → W p l e R s m args below meth c H1 locs1 cells slots Q (F0 m (pc + 3) ls rest)) : W p l e R s m args below meth c H locs cells slots Q (F0 m pc ls (v :: .ref a :: rest)) := by
  have hap := va_apart (own := own) hts hin ty0 hty hnm hK hc
  obtain ⟨hB, r, h1, cell, q1, q2, q3, q4⟩ := hP a _ he
  have hr : r = (C, T, N) := Option.some.inj (h1.symm.trans hc)
  subst hr
  obtain ⟨hS, hfc, kC, hkC, hkind⟩ := hK.1 ci _ hc
  obtain ⟨cf, kf, fi, f, hi, hsl⟩ := hS k hk
  have hlay := hts _ (hin _ (u_in_lay hk))
  unfold u_lay at hlay
  rw [if_pos hfin] at hlay
  have hst := (u_facts hfc hkC (u_lays hts hin hk) hi).1
  have hcf : m.cls = cf := by
    obtain ⟨_, _, c', _, _, _, -, -, hf', -, -, -, hown2, -⟩ := Cond.laysFinal_spec hlay
    have e1 : c' = cf := by have := hi.symm.trans hf'; simp at this; exact this.1.symm
    rw [hdecl] at hown2
    rw [← e1]; exact Option.some.inj (hown.symm.trans hown2)
  have h6 := u_fits hfc hkC hkind (Or.inr hlay) hi hd hn hfit
  refine W.putFinK hexec hb hown hlink (hsame _ hi) hst hcf hin2 (by rw [q2]; exact h6) q1 q3 (by rw [hsl]; exact k2_hasslot (q4 k hk)) rfl rfl hdg fun H' e1 e2 e3 => ?_
  rw [hsl] at e1 ⊢
  exact kk H' _ (hP.set hB ⟨_, hc, t_OB.to (V := updV (vp_V fs) k v) ⟨_, e1, q2, q3, t_set q4 hap hk v⟩ (fun j _ => vp_updV_set hl v j)⟩ e3) e2 (hS0.put e2 e3 hB)
/-- the top of the stack by another name -/
theorem zw_ti {v v' : Int32} (h : v = v') (kk : W p l e R s m args below meth c H locs cells slots Q (F0 m pc ls (.int v' :: rest))) : W p l e R s m args below meth c H locs cells slots Q (F0 m pc ls (.int v :: rest)) := by rw [h]; exact kk
theorem zw_tl {v v' : Int64} (h : v = v') (kk : W p l e R s m args below meth c H locs cells slots Q (F0 m pc ls (.long v' :: rest))) : W p l e R s m args below meth c H locs cells slots Q (F0 m pc ls (.long v :: rest)) := by rw [h]; exact kk
/-- iaload -/
theorem zw_iald (hexec : p.tables.exec = Jvm.exec) (hb : c.code = cc) (hK : va_K D cl tys s) (hP : zw_H D cl B M H) (t0 : Nat) {cA : ClassId} {n : Nat} {f : Nat → Int32} (ha : M a = some (.inl (cA, n, .inl f))) (ht : tys[t0]? = some (cA, .int)) {i : Int32} (j : Nat) (hi : i = nI j) (hj : j < n) (hn : n < 2 ^ 31) (hdg : decode cc pc = .ok (.iaload, 1))
    (kk : W p l e R s m args below meth c H locs cells slots Q (F0 m (pc + 1) ls (.int (f j) :: rest))) : W p l e R s m args below meth c H locs cells slots Q (F0 m pc ls (.int i :: .ref a :: rest)) := by
  subst hi
  have hc : (nI j).toNatClampNeg = j := nI_clamp (Nat.lt_trans hj hn)
  refine va_iald hexec hb hK (hP.one ha) 0 t0 rfl ht (vp_in_nI hj hn) hdg ?_
  rw [hc]
  exact kk
/-- laload -/
theorem zw_lald (hexec : p.tables.exec = Jvm.exec) (hb : c.code = cc) (hK : va_K D cl tys s) (hP : zw_H D cl B M H) (t0 : Nat) {cA : ClassId} {n : Nat} {f : Nat → Int64} (ha : M a = some (.inl (cA, n, .inr (.inl f)))) (ht : tys[t0]? = some (cA, .long)) {i : Int32} (j : Nat) (hi : i = nI j) (hj : j < n) (hn : n < 2 ^ 31) (hdg : decode cc pc = .ok (.laload, 1))
    (kk : W p l e R s m args below meth c H locs cells slots Q (F0 m (pc + 1) ls (.long (f j) :: rest))) : W p l e R s m args below meth c H locs cells slots Q (F0 m pc ls (.int i :: .ref a :: rest)) := by
  subst hi
  have hc : (nI j).toNatClampNeg = j := nI_clamp (Nat.lt_trans hj hn)
  refine va_lald hexec hb hK (hP.one ha) 0 t0 rfl ht (vp_in_nI hj hn) hdg ?_
  rw [hc]
  exact kk
/-- baload of booleans -/
theorem zw_zald (hexec : p.tables.exec = Jvm.exec) (hb : c.code = cc) (hK : va_K D cl tys s) (hP : zw_H D cl B M H) (t0 : Nat) {cA : ClassId} {n : Nat} {f : Nat → Int32} (ha : M a = some (.inl (cA, n, .inl f))) (ht : tys[t0]? = some (cA, .boolean)) {i : Int32} (j : Nat) (hi : i = nI j) (hj : j < n) (hn : n < 2 ^ 31) (hdg : decode cc pc = .ok (.baload, 1))
    (kk : W p l e R s m args below meth c H locs cells slots Q (F0 m (pc + 1) ls (.int (f j) :: rest))) : W p l e R s m args below meth c H locs cells slots Q (F0 m pc ls (.int i :: .ref a :: rest)) := by
  subst hi
  have hc : (nI j).toNatClampNeg = j := nI_clamp (Nat.lt_trans hj hn)
  refine va_zald hexec hb hK (hP.one ha) 0 t0 rfl ht (vp_in_nI hj hn) hdg ?_
  rw [hc]
  exact kk
/-- aaload from an array of arrays, or of objects -/
theorem zw_aald (hexec : p.tables.exec = Jvm.exec) (hb : c.code = cc) (hK : va_K D cl tys s) (hP : zw_H D cl B M H) (t0 : Nat) {cA : ClassId} {ty : FieldType} {n : Nat} {f : Nat → Option Nat} (ha : M a = some (.inl (cA, n, .inr (.inr (.inr (.inr f)))))) (ht : tys[t0]? = some (cA, ty)) (hr : ty.isReference = true) {i : Int32} (j : Nat) (hi : i = nI j) (hj : j < n) (hn : n < 2 ^ 31) {v : Value} (hv : va_rf (f j) = v) (hdg : decode cc pc = .ok (.aaload, 1))
    (kk : W p l e R s m args below meth c H locs cells slots Q (F0 m (pc + 1) ls (v :: rest))) : W p l e R s m args below meth c H locs cells slots Q (F0 m pc ls (.int i :: .ref a :: rest)) := by
  subst hi
  have hc : (nI j).toNatClampNeg = j := nI_clamp (Nat.lt_trans hj hn)
  refine W.aald (v := va_rf (f j)) (ty := ty) hexec hb (hP a _ ha).2 ((hK.2 t0 _ ht).1 n (fun j => va_rf (f j))) hr (fun q => by cases q) (by show ¬ (nI j < 0 ∨ (arrV _ _ _).slots.size ≤ _); rw [arrV_size]; exact vp_in_nI hj hn) (by show (arrV _ _ _).slots[_]? = _; rw [hc, arrV_read _ _ hj]) rfl rfl hdg ?_
  rw [hv]
  exact kk
/-- arraylength -/
theorem zw_alen (hexec : p.tables.exec = Jvm.exec) (hb : c.code = cc) (hK : va_K D cl tys s) (hP : zw_H D cl B M H) (t0 : Nat) {cA : ClassId} {x : vp_A} (ha : M a = some (.inl (cA, x))) {ty : FieldType} (ht : tys[t0]? = some (cA, ty)) (hdg : decode cc pc = .ok (.arraylength, 1))
    (kk : W p l e R s m args below meth c H locs cells slots Q (F0 m (pc + 1) ls (.int (nI x.1) :: rest))) : W p l e R s m args below meth c H locs cells slots Q (F0 m pc ls (.ref a :: rest)) :=
  va_alen hexec hb hK (hP.one ha) 0 t0 rfl ht rfl hdg kk
/-- iastore -/
theorem zw_iast (hexec : p.tables.exec = Jvm.exec) (hb : c.code = cc) (hK : va_K D cl tys s) (hP : zw_H D cl B M H) (hS : va_S (zw_A B) H0 H locs) (t0 : Nat) {cA : ClassId} {n : Nat} {f : Nat → Int32} (ha : M a = some (.inl (cA, n, .inl f))) (ht : tys[t0]? = some (cA, .int)) {i : Int32} {x : Int32} (j : Nat) (hi : i = nI j) (hj : j < n) (hn : n < 2 ^ 31) (hdg : decode cc pc = .ok (.iastore, 1))
    (kk : ∀ (H1 : Heap) (locs1 : List Loc), zw_H D cl B (zw_u M a (.inl (cA, n, .inl (upd f j x)))) H1 → H1.size = H.size → va_S (zw_A B) H0 H1 locs1 → W p l e R s m args below meth c H1 locs1 cells slots Q (F0 m (pc + 1) ls rest)) : W p l e R s m args below meth c H locs cells slots Q (F0 m pc ls (.int x :: .int i :: .ref a :: rest)) := by
  subst hi
  have hc : (nI j).toNatClampNeg = j := nI_clamp (Nat.lt_trans hj hn)
  have hB := hP.ge ha
  refine W.iast hexec hb (hP a _ ha).2 ((hK.2 t0 _ ht).1 n (fun j => .int (f j))) (fun q => by cases q) (by show ¬ (nI j < 0 ∨ (arrV _ _ _).slots.size ≤ _); rw [arrV_size]; exact vp_in_nI hj hn) rfl rfl hdg fun H1 e z oq => ?_
  refine kk H1 _ (hP.set hB ?_ oq) z (hS.put z oq hB)
  show H1[a]? = some (vp_cell _ _)
  rw [e, hc, vp_cell_i, vp_cell_i, arrV_store]
  congr 2
  funext q
  by_cases hq : q = j <;> simp [updV, upd, hq]
/-- lastore -/
theorem zw_last (hexec : p.tables.exec = Jvm.exec) (hb : c.code = cc) (hK : va_K D cl tys s) (hP : zw_H D cl B M H) (hS : va_S (zw_A B) H0 H locs) (t0 : Nat) {cA : ClassId} {n : Nat} {f : Nat → Int64} (ha : M a = some (.inl (cA, n, .inr (.inl f)))) (ht : tys[t0]? = some (cA, .long)) {i : Int32} {x : Int64} (j : Nat) (hi : i = nI j) (hj : j < n) (hn : n < 2 ^ 31) (hdg : decode cc pc = .ok (.lastore, 1))
    (kk : ∀ (H1 : Heap) (locs1 : List Loc), zw_H D cl B (zw_u M a (.inl (cA, n, .inr (.inl (vp_updL f j x))))) H1 → H1.size = H.size → va_S (zw_A B) H0 H1 locs1 → W p l e R s m args below meth c H1 locs1 cells slots Q (F0 m (pc + 1) ls rest)) : W p l e R s m args below meth c H locs cells slots Q (F0 m pc ls (.long x :: .int i :: .ref a :: rest)) := by
  subst hi
  have hc : (nI j).toNatClampNeg = j := nI_clamp (Nat.lt_trans hj hn)
  have hB := hP.ge ha
  refine W.last hexec hb (hP a _ ha).2 ((hK.2 t0 _ ht).1 n (fun j => .long (f j))) (fun q => by cases q) (by show ¬ (nI j < 0 ∨ (arrV _ _ _).slots.size ≤ _); rw [arrV_size]; exact vp_in_nI hj hn) rfl rfl hdg fun H1 e z oq => ?_
  refine kk H1 _ (hP.set hB ?_ oq) z (hS.put z oq hB)
  show H1[a]? = some (vp_cell _ _)
  rw [e, hc, vp_cell_l, vp_cell_l, arrV_store]
  congr 2
  funext q
  by_cases hq : q = j <;> simp [updV, vp_updL, hq]
/-- bastore into an array of booleans -/
theorem zw_zast (hexec : p.tables.exec = Jvm.exec) (hb : c.code = cc) (hK : va_K D cl tys s) (hP : zw_H D cl B M H) (hS : va_S (zw_A B) H0 H locs) (t0 : Nat) {cA : ClassId} {n : Nat} {f : Nat → Int32} (ha : M a = some (.inl (cA, n, .inl f))) (ht : tys[t0]? = some (cA, .boolean)) {i : Int32} {x : Int32} (hx : narrow .boolean (.int x) = .int x) (j : Nat) (hi : i = nI j) (hj : j < n) (hn : n < 2 ^ 31) (hdg : decode cc pc = .ok (.bastore, 1))
    (kk : ∀ (H1 : Heap) (locs1 : List Loc), zw_H D cl B (zw_u M a (.inl (cA, n, .inl (upd f j x)))) H1 → H1.size = H.size → va_S (zw_A B) H0 H1 locs1 → W p l e R s m args below meth c H1 locs1 cells slots Q (F0 m (pc + 1) ls rest)) : W p l e R s m args below meth c H locs cells slots Q (F0 m pc ls (.int x :: .int i :: .ref a :: rest)) := by
  subst hi
  have hc : (nI j).toNatClampNeg = j := nI_clamp (Nat.lt_trans hj hn)
  have hB := hP.ge ha
  refine W.zast hexec hb (hP a _ ha).2 ((hK.2 t0 _ ht).1 n (fun j => .int (f j))) (fun q => by cases q) (by show ¬ (nI j < 0 ∨ (arrV _ _ _).slots.size ≤ _); rw [arrV_size]; exact vp_in_nI hj hn) rfl rfl hdg fun H1 e z oq => ?_
  refine kk H1 _ (hP.set hB ?_ oq) z (hS.put z oq hB)
  show H1[a]? = some (vp_cell _ _)
  rw [e, hx, hc, vp_cell_i, vp_cell_i, arrV_store]
  congr 2
  funext q
  by_cases hq : q = j <;> simp [updV, upd, hq]
/-- aastore of an object of the map into an array of its class -/
theorem zw_aast (hexec : p.tables.exec = Jvm.exec) (hb : c.code = cc) (hK : va_K D cl tys s) (hP : zw_H D cl B M H) (hS : va_S (zw_A B) H0 H locs) (t0 ci : Nat) {cA : ClassId} {r : vw_C} {n v : Nat} {vs : List Value} {f : Nat → Option Nat} (ha : M a = some (.inl (cA, n, .inr (.inr (.inr (.inr f)))))) (ht : tys[t0]? = some (cA, .object r.1)) (hv : M v = some (.inr (ci, vs))) (hc : cl[ci]? = some r) {i : Int32} (j : Nat) (hi : i = nI j) (hj : j < n) (hn : n < 2 ^ 31) (hdg : decode cc pc = .ok (.aastore, 1))
    (kk : ∀ (H1 : Heap) (locs1 : List Loc), zw_H D cl B (zw_u M a (.inl (cA, n, .inr (.inr (.inr (.inr (va_up f j (some v)))))))) H1 → H1.size = H.size → va_S (zw_A B) H0 H1 locs1 → W p l e R s m args below meth c H1 locs1 cells slots Q (F0 m (pc + 1) ls rest)) : W p l e R s m args below meth c H locs cells slots Q (F0 m pc ls (.ref v :: .int i :: .ref a :: rest)) := by
  subst hi
  have hcl : (nI j).toNatClampNeg = j := nI_clamp (Nat.lt_trans hj hn)
  have hB := hP.ge ha
  obtain ⟨-, r', hr', cellV, g1, g2, g3, -⟩ := hP v _ hv
  have hcls := (hK.1 ci r hc).2
  obtain ⟨kA, comp, k1, k2, k3, -⟩ := (hK.2 t0 _ ht).2
  have hcomp : comp = D.1 ci := Option.some.inj (k3.symm.trans hcls.1)
  subst hcomp
  obtain ⟨kC, hkC, -⟩ := hcls.2
  refine W.aast hexec hb (hP a _ ha).2 (fun q h => by cases h) (fun h => by cases h) k1 k2 rfl hkC ⟨nI_pos (Nat.lt_trans hj hn), by show _ < (arrV _ _ _).slots.size; rw [arrV_size, hcl]; exact hj⟩ g1 (fun q h => by rw [g3] at h; cases h) (by rw [g2]; exact hkC) (by rw [g2]; exact va_assign hcls) rfl rfl hdg fun H1 e z oq => ?_
  refine kk H1 _ (hP.set hB ?_ oq) z (hS.put z oq hB)
  show H1[a]? = some (vp_cell _ _)
  rw [e, hcl, vp_cell_q, vp_cell_q, arrV_store]
  congr 2
  funext q
  by_cases hq : q = j <;> simp [updV, va_up, va_rf, hq]
/-- aastore of null -/
theorem zw_aastN (hexec : p.tables.exec = Jvm.exec) (hb : c.code = cc) (hK : va_K D cl tys s) (hP : zw_H D cl B M H) (hS : va_S (zw_A B) H0 H locs) (t0 : Nat) {cA : ClassId} {C : String} {n : Nat} {f : Nat → Option Nat} (ha : M a = some (.inl (cA, n, .inr (.inr (.inr (.inr f)))))) (ht : tys[t0]? = some (cA, .object C)) {i : Int32} (j : Nat) (hi : i = nI j) (hj : j < n) (hn : n < 2 ^ 31) (hdg : decode cc pc = .ok (.aastore, 1))
    (kk : ∀ (H1 : Heap) (locs1 : List Loc), zw_H D cl B (zw_u M a (.inl (cA, n, .inr (.inr (.inr (.inr (va_up f j none))))))) H1 → H1.size = H.size → va_S (zw_A B) H0 H1 locs1 → W p l e R s m args below meth c H1 locs1 cells slots Q (F0 m (pc + 1) ls rest)) : W p l e R s m args below meth c H locs cells slots Q (F0 m pc ls (.null :: .int i :: .ref a :: rest)) := by
  subst hi
  have hc : (nI j).toNatClampNeg = j := nI_clamp (Nat.lt_trans hj hn)
  have hB := hP.ge ha
  refine va_WaastN (C := C) hexec hb (hP a _ ha).2 ((hK.2 t0 _ ht).1 n (fun j => va_rf (f j))) (fun h => by cases h) (by show ¬ (nI j < 0 ∨ (arrV _ _ _).slots.size ≤ _); rw [arrV_size]; exact vp_in_nI hj hn) rfl rfl hdg fun H1 e z oq => ?_
  refine kk H1 _ (hP.set hB ?_ oq) z (hS.put z oq hB)
  show H1[a]? = some (vp_cell _ _)
  rw [e, hc, vp_cell_q, vp_cell_q, arrV_store]
  congr 2
  funext q
  by_cases hq : q = j <;> simp [updV, va_up, va_rf, hq]
/-- newarray of a primitive type whose class the tables have -/
theorem zw_newa (hexec : p.tables.exec = Jvm.exec) (hb : c.code = cc) {atype : ArrayType} (harr : (Cond.arrayClass (newarray.typeOf atype)).before args s = true) (hK : va_K D cl tys s) (hP : zw_H D cl B M H) (hS : va_S (zw_A B) H0 H locs) (hBs : B ≤ H.size) (t0 : Nat) {cA : ClassId} (ht : tys[t0]? = some (cA, newarray.typeOf atype))
    {n : Int32} {N' : Nat} {a0 : vp_A} (ha : vp_cell cA a0 = arrV cA N' (fun _ => defaultValue (newarray.typeOf atype))) (hN : n = nI N') (hbytes : N' ≤ 1000000) (hcells : cells + 1 ≤ R.cells) (hslots : slots + N' ≤ R.slots) (hdg : decode cc pc = .ok (.newarray atype, 2))
    (kk : ∀ (H1 : Heap), zw_H D cl B (zw_u M H.size (.inl (cA, a0))) H1 → H1.size = H.size + 1 → va_S (zw_A B) H0 H1 locs → W p l e R s m args below meth c H1 locs (cells + 1) (slots + N') Q (F0 m (pc + 2) ls (.ref H.size :: rest))) : W p l e R s m args below meth c H locs cells slots Q (F0 m pc ls (.int n :: rest)) := by
  subst hN
  have hlt : N' < 2 ^ 31 := by omega
  have hRA : s.vm.findClass ("[" ++ (newarray.typeOf atype).toString) = some cA := by
    have := (hK.2 t0 _ ht).2
    cases atype <;> exact this
  refine va_newaK hexec hb harr rfl hdg rfl (nI_pos hlt) (nI_clamp hlt) (by cases atype <;> simp [newarray.typeOf, componentBytes] <;> omega) hcells hslots rfl fun H1 cA' e1 z1 o1 hAr hNm => ?_
  cases hRA.symm.trans hNm
  refine kk H1 (hP.new hBs ?_ o1) z1 (zw_S.new hS (by omega) o1)
  show H1[H.size]? = some (vp_cell _ _)
  rw [ha]
  exact e1
/-- anewarray of a class -/
theorem zw_newq (hexec : p.tables.exec = Jvm.exec) (hb : c.code = cc) {own C : String} {index : Nat} (hown : s.vm.findClass own = some m.cls) (hclink : (Cond.classLink own index C).before args s = true) (hover : (Cond.arrayOver (.object C)).before args s = true) (hK : va_K D cl tys s) (hP : zw_H D cl B M H) (hS : va_S (zw_A B) H0 H locs) (hBs : B ≤ H.size) (t0 : Nat) {cA : ClassId} (ht : tys[t0]? = some (cA, .object C))
    {n : Int32} {N' : Nat} (hN : n = nI N') (hbytes : N' ≤ 1000000) (hcells : cells + 1 ≤ R.cells) (hslots : slots + N' ≤ R.slots) (hdg : decode cc pc = .ok (.anewarray index, 3))
    (kk : ∀ (H1 : Heap), zw_H D cl B (zw_u M H.size (.inl (cA, N', .inr (.inr (.inr (.inr (fun _ => none))))))) H1 → H1.size = H.size + 1 → va_S (zw_A B) H0 H1 locs → W p l e R s m args below meth c H1 locs (cells + 1) (slots + N') Q (F0 m (pc + 3) ls (.ref H.size :: rest))) : W p l e R s m args below meth c H locs cells slots Q (F0 m pc ls (.int n :: rest)) := by
  subst hN
  have hlt : N' < 2 ^ 31 := by omega
  have hc : (nI N').toNatClampNeg = N' := nI_clamp hlt
  obtain ⟨kA0, comp0, k1, k2, k3, k4⟩ := (hK.2 t0 _ ht).2
  refine W.anew hexec hb hown hclink hover rfl hdg rfl (nI_pos hlt) (by rw [hc]; omega) hcells (by rw [hc]; exact hslots) fun cA' kA comp f1 f2 f3 f4 => ?_
  cases k4.symm.trans f1
  rw [hc]
  have o1 : ∀ q : Nat, q < H.size → (H.push ({ cls := cA, slots := Array.replicate N' .null, vm := .none } : Cell))[q]? = H[q]? := fun q hq => by rw [Array.getElem?_push, if_neg (Nat.ne_of_lt hq)]
  refine kk _ (hP.new hBs ?_ o1) (by simp) (zw_S.new hS (by simp) o1)
  show (H.push _)[H.size]? = some (vp_cell _ _)
  rw [Array.getElem?_push_size, arrV_new]
  rfl
/-- new -/
theorem zw_new (hexec : p.tables.exec = Jvm.exec) (hb : c.code = cc) {own C : String} {T : u_T} {N ci index : Nat} {Ts : List Cond} (hts : ∀ w ∈ Ts, w.before args s = true) (hin : ∀ w ∈ u_ws C T N, w ∈ Ts) (ty : Nat → FieldType) (hty : ∀ k, k < N → parseFieldDescriptor (T k).2.2.1 = some (ty k)) (hown : s.vm.findClass own = some m.cls) (hcl : (Cond.classLink own index C).before args s = true) (hinst : (Cond.instantiable C N).before args s = true) (hini : (Cond.initialized C).before args s = true)
    (hK : va_K D cl tys s) (hP : zw_H D cl B M H) (hS : va_S (zw_A B) H0 H locs) (hBs : B ≤ H.size) (hc : cl[ci]? = some (C, T, N)) {fs : List Value} (hfs : ∀ j, j < N → defaultValue (ty j) = vp_V fs j) (hcells : cells + 1 ≤ R.cells) (hslots : slots + N ≤ R.slots) (hdg : decode cc pc = .ok (.new index, 3))
    (kk : ∀ (H1 : Heap), zw_H D cl B (zw_u M H.size (.inr (ci, fs))) H1 → H1.size = H.size + 1 → va_S (zw_A B) H0 H1 locs →
      W p l e R s m args below meth c H1 locs (cells + 1) (slots + N) Q (F0 m (pc + 3) ls (.ref H.size :: rest))) : W p l e R s m args below meth c H locs cells slots Q (F0 m pc ls rest) := by
  have hKn := hK.1 ci _ hc
  refine W.newcK hexec hb hown hcl hinst hini rfl hdg hcells hslots hKn.2.1 rfl fun H1 kC hkC e1 z1 o1 => ?_
  exact kk H1 (hP.new hBs ⟨_, hc, (u_born ty hts hin hKn hkC e1 hty).to hfs⟩ o1) z1 (zw_S.new hS (by omega) o1)
end ZW
/-! compares of numbers that are known as naturals -/
section ZC
variable {p : Program} {l : Launch} {e : Env} {R : Room} {s : State} {m : MethodId} {args : Array Value} {below : List Frame} {meth : Method} {c : Code} {H : Heap} {locs : List Loc} {cells slots : Nat} {Q : State → Prop}
variable {cc : ByteArray} {pc : Nat} {ls : Array Slot} {rest : List Value}
theorem zc_eq (hexec : p.tables.exec = Jvm.exec) (hb : c.code = cc) {a b : Nat} {off : Int} {tgt : Nat} (hdg : decode cc pc = .ok (.if_icmp .eq off, 3)) (ht : (pc : Int) + off = (tgt : Int)) (ha : a < 2 ^ 31) (hb2 : b < 2 ^ 31)
    (kt : a = b → W p l e R s m args below meth c H locs cells slots Q (F0 m tgt ls rest)) (kf : a ≠ b → W p l e R s m args below meth c H locs cells slots Q (F0 m (pc + 3) ls rest)) : W p l e R s m args below meth c H locs cells slots Q (F0 m pc ls (.int (nI b) :: .int (nI a) :: rest)) :=
  lv_icmp_eq hexec hb hdg ht (fun q => kt ((nI_eq ha hb2).mp q)) (fun q => kf (fun w => q ((nI_eq ha hb2).mpr w)))
theorem zc_lt (hexec : p.tables.exec = Jvm.exec) (hb : c.code = cc) {a b : Nat} {off : Int} {tgt : Nat} (hdg : decode cc pc = .ok (.if_icmp .lt off, 3)) (ht : (pc : Int) + off = (tgt : Int)) (ha : a < 2 ^ 31) (hb2 : b < 2 ^ 31)
    (kt : a < b → W p l e R s m args below meth c H locs cells slots Q (F0 m tgt ls rest)) (kf : b ≤ a → W p l e R s m args below meth c H locs cells slots Q (F0 m (pc + 3) ls rest)) : W p l e R s m args below meth c H locs cells slots Q (F0 m pc ls (.int (nI b) :: .int (nI a) :: rest)) :=
  lv_icmp_lt hexec hb hdg ht (fun q => kt ((nI_ltI ha hb2).mp q)) (fun q => kf (by have w := mt (nI_ltI ha hb2).mpr q; omega))
theorem zc_ge (hexec : p.tables.exec = Jvm.exec) (hb : c.code = cc) {a b : Nat} {off : Int} {tgt : Nat} (hdg : decode cc pc = .ok (.if_icmp .ge off, 3)) (ht : (pc : Int) + off = (tgt : Int)) (ha : a < 2 ^ 31) (hb2 : b < 2 ^ 31)
    (kt : b ≤ a → W p l e R s m args below meth c H locs cells slots Q (F0 m tgt ls rest)) (kf : a < b → W p l e R s m args below meth c H locs cells slots Q (F0 m (pc + 3) ls rest)) : W p l e R s m args below meth c H locs cells slots Q (F0 m pc ls (.int (nI b) :: .int (nI a) :: rest)) :=
  lv_icmp_ge hexec hb hdg ht (fun q => kt ((nI_leI hb2 ha).mp q)) (fun q => kf (by have w := mt (nI_leI hb2 ha).mpr q; omega))
theorem zc_gt (hexec : p.tables.exec = Jvm.exec) (hb : c.code = cc) {a b : Nat} {off : Int} {tgt : Nat} (hdg : decode cc pc = .ok (.if_icmp .gt off, 3)) (ht : (pc : Int) + off = (tgt : Int)) (ha : a < 2 ^ 31) (hb2 : b < 2 ^ 31)
    (kt : b < a → W p l e R s m args below meth c H locs cells slots Q (F0 m tgt ls rest)) (kf : a ≤ b → W p l e R s m args below meth c H locs cells slots Q (F0 m (pc + 3) ls rest)) : W p l e R s m args below meth c H locs cells slots Q (F0 m pc ls (.int (nI b) :: .int (nI a) :: rest)) :=
  lv_icmp_gt hexec hb hdg ht (fun q => kt ((nI_ltI hb2 ha).mp q)) (fun q => kf (by have w := mt (nI_ltI hb2 ha).mpr q; omega))
theorem zc_le (hexec : p.tables.exec = Jvm.exec) (hb : c.code = cc) {a b : Nat} {off : Int} {tgt : Nat} (hdg : decode cc pc = .ok (.if_icmp .le off, 3)) (ht : (pc : Int) + off = (tgt : Int)) (ha : a < 2 ^ 31) (hb2 : b < 2 ^ 31)
    (kt : a ≤ b → W p l e R s m args below meth c H locs cells slots Q (F0 m tgt ls rest)) (kf : b < a → W p l e R s m args below meth c H locs cells slots Q (F0 m (pc + 3) ls rest)) : W p l e R s m args below meth c H locs cells slots Q (F0 m pc ls (.int (nI b) :: .int (nI a) :: rest)) :=
  lv_icmp_le hexec hb hdg ht (fun q => kt ((nI_leI ha hb2).mp q)) (fun q => kf (by have w := mt (nI_leI ha hb2).mpr q; omega))
theorem zc_ne (hexec : p.tables.exec = Jvm.exec) (hb : c.code = cc) {a b : Nat} {off : Int} {tgt : Nat} (hdg : decode cc pc = .ok (.if_icmp .ne off, 3)) (ht : (pc : Int) + off = (tgt : Int)) (ha : a < 2 ^ 31) (hb2 : b < 2 ^ 31)
    (kt : a ≠ b → W p l e R s m args below meth c H locs cells slots Q (F0 m tgt ls rest)) (kf : a = b → W p l e R s m args below meth c H locs cells slots Q (F0 m (pc + 3) ls rest)) : W p l e R s m args below meth c H locs cells slots Q (F0 m pc ls (.int (nI b) :: .int (nI a) :: rest)) :=
  lv_icmp_ne hexec hb hdg ht (fun q => kt (fun w => q ((nI_eq ha hb2).mpr w))) (fun q => kf ((nI_eq ha hb2).mp q))
theorem zc_eq0 (hexec : p.tables.exec = Jvm.exec) (hb : c.code = cc) {a : Nat} {off : Int} {tgt : Nat} (hdg : decode cc pc = .ok (.ifCond .eq off, 3)) (ht : (pc : Int) + off = (tgt : Int)) (ha : a < 2 ^ 31)
    (kt : a = 0 → W p l e R s m args below meth c H locs cells slots Q (F0 m tgt ls rest)) (kf : a ≠ 0 → W p l e R s m args below meth c H locs cells slots Q (F0 m (pc + 3) ls rest)) : W p l e R s m args below meth c H locs cells slots Q (F0 m pc ls (.int (nI a) :: rest)) :=
  lv_if_eq hexec hb hdg ht (fun q => kt ((nI_eq ha (by decide)).mp (q.trans nI_0.symm))) (fun q => kf (fun w => q (by rw [w]; exact nI_0)))
theorem zc_ne0 (hexec : p.tables.exec = Jvm.exec) (hb : c.code = cc) {a : Nat} {off : Int} {tgt : Nat} (hdg : decode cc pc = .ok (.ifCond .ne off, 3)) (ht : (pc : Int) + off = (tgt : Int)) (ha : a < 2 ^ 31)
    (kt : a ≠ 0 → W p l e R s m args below meth c H locs cells slots Q (F0 m tgt ls rest)) (kf : a = 0 → W p l e R s m args below meth c H locs cells slots Q (F0 m (pc + 3) ls rest)) : W p l e R s m args below meth c H locs cells slots Q (F0 m pc ls (.int (nI a) :: rest)) :=
  lv_if_ne hexec hb hdg ht (fun q => kt (fun w => q (by rw [w]; exact nI_0))) (fun q => kf ((nI_eq ha (by decide)).mp (q.trans nI_0.symm)))
theorem zc_le0 (hexec : p.tables.exec = Jvm.exec) (hb : c.code = cc) {a : Nat} {off : Int} {tgt : Nat} (hdg : decode cc pc = .ok (.ifCond .le off, 3)) (ht : (pc : Int) + off = (tgt : Int)) (ha : a < 2 ^ 31)
    (kt : a = 0 → W p l e R s m args below meth c H locs cells slots Q (F0 m tgt ls rest)) (kf : 0 < a → W p l e R s m args below meth c H locs cells slots Q (F0 m (pc + 3) ls rest)) : W p l e R s m args below meth c H locs cells slots Q (F0 m pc ls (.int (nI a) :: rest)) :=
  lv_if_le hexec hb hdg ht (fun q => kt (by rcases Nat.eq_zero_or_pos a with w | w; exact w; exact absurd q (nI_nle w ha))) (fun q => kf (by rcases Nat.eq_zero_or_pos a with w | w; exact absurd (by rw [w, nI_0]; exact Int32.le_refl 0) q; exact w))
theorem zc_gt0 (hexec : p.tables.exec = Jvm.exec) (hb : c.code = cc) {a : Nat} {off : Int} {tgt : Nat} (hdg : decode cc pc = .ok (.ifCond .gt off, 3)) (ht : (pc : Int) + off = (tgt : Int)) (ha : a < 2 ^ 31)
    (kt : 0 < a → W p l e R s m args below meth c H locs cells slots Q (F0 m tgt ls rest)) (kf : a = 0 → W p l e R s m args below meth c H locs cells slots Q (F0 m (pc + 3) ls rest)) : W p l e R s m args below meth c H locs cells slots Q (F0 m pc ls (.int (nI a) :: rest)) :=
  lv_if_gt hexec hb hdg ht (fun q => kt (by rcases Nat.eq_zero_or_pos a with w | w; exact absurd q (by rw [w, nI_0]; exact Int32.lt_irrefl); exact w)) (fun q => kf (by rcases Nat.eq_zero_or_pos a with w | w; exact w; exact absurd (by rw [← nI_0]; exact nI_lt w ha) q))
theorem zc_lt0 (hexec : p.tables.exec = Jvm.exec) (hb : c.code = cc) {a : Nat} {off : Int} {tgt : Nat} (hdg : decode cc pc = .ok (.ifCond .lt off, 3)) (ht : (pc : Int) + off = (tgt : Int)) (ha : a < 2 ^ 31)
    (kf : W p l e R s m args below meth c H locs cells slots Q (F0 m (pc + 3) ls rest)) : W p l e R s m args below meth c H locs cells slots Q (F0 m pc ls (.int (nI a) :: rest)) :=
  lv_if_lt hexec hb hdg ht (fun q => absurd q (nI_pos ha)) (fun _ => kf)
theorem zc_ge0 (hexec : p.tables.exec = Jvm.exec) (hb : c.code = cc) {a : Nat} {off : Int} {tgt : Nat} (hdg : decode cc pc = .ok (.ifCond .ge off, 3)) (ht : (pc : Int) + off = (tgt : Int)) (ha : a < 2 ^ 31)
    (kt : W p l e R s m args below meth c H locs cells slots Q (F0 m tgt ls rest)) : W p l e R s m args below meth c H locs cells slots Q (F0 m pc ls (.int (nI a) :: rest)) :=
  lv_if_ge hexec hb hdg ht (fun _ => kt) (fun q => absurd (nI_pos' ha) q)
end ZC
end
section
/-! THROWS: a method that throws before it has changed anything; its catching in the caller. -/
/-- a method's end by a throw of an E: nothing old has changed -/
def zx_T (E : String) (mc ms : Nat) : Array Value → State → Outcome → State → Prop := fun _ st o t =>
  ∃ (q : Addr) (ce : Cell), o = .threw q ∧ t.heap[q]? = some ce ∧ ce.vm = .none ∧ st.vm.findClass E = some ce.cls ∧ st.WarmedH t.vm ∧ st.sameButNew ({ t with vm := st.vm } : State) [] mc ms
def zx_Met (l : Launch) (y : MethodName) (ws : List Cond) (rm : Room) (Pc : Array Value → State → Prop) (E : String) (mc ms : Nat) : Prop :=
  MetFree l y (headSpec ws rm) Pc (fun _ _ _ _ _ => True) (zx_T E mc ms)
def zx_MQ (below : List Frame) (E : String) (s : State) (mc ms : Nat) : State → Prop := fun t => ∃ o, t.status = .running ∧ Ended t below o ∧ zx_T E mc ms #[] s o t
theorem zx_ofW {l : Launch} {y : MethodName} {ws ws' : List Cond} {rm : Room} {Pc : Array Value → State → Prop} {E : String} {mc ms : Nat} {cc : ByteArray} {maxL : Nat} {ret : Option FieldType}
    (hy : plainName y.cls = true) (hw : ws = Cond.code y cc maxL ret :: ws')
    (body : ∀ p e s m args below meth c s₁, BodyLoose p l y (headSpec ws rm) cc maxL ret e s m args below meth c s₁ → c.maxLocals = maxL → Pc args s →
      W p l e (headSpec ws rm).room s m args below meth c s.heap [] 0 0 (zx_MQ below E s mc ms) (entryFrame m args maxL)) : zx_Met l y ws rm Pc E mc ms := by
  refine MetFree.of_bodyS (code := cc) (maxLocals := maxL) (ret := ret) hy ?_ ?_
  · intro args s m h hn
    obtain ⟨meth, c, h1, h2, h3, h4, h5, h6, -, -⟩ := Cond.code_spec hn (atoms_spec (ws := ws) h _ (by rw [hw]; exact List.mem_cons_self))
    exact ⟨meth, c, h1, h2, h3, h4, h5, h6⟩
  · intro p e s m args below meth c s₁ B hml hP _
    have hh0 : s₁.heap = s.heap := by rw [B.state]; rfl
    obtain ⟨t, a1, o, b1, b2, b3⟩ := body p e s m args below meth c s₁ B hml hP s₁ hh0 (Stand.of_body B)
    exact ⟨t, o, a1, b1, b2, b3⟩
/-- the method's table is empty, by its word -/
theorem zx_empty {p : Program} {l : Launch} {y : MethodName} {ws : List Cond} {rm : Room} {cc : ByteArray} {maxL : Nat} {ret : Option FieldType} {e : Env} {s : State} {m : MethodId} {args : Array Value} {below : List Frame} {meth : Method} {c : Code} {s₁ : State}
    (B : BodyLoose p l y (headSpec ws rm) cc maxL ret e s m args below meth c s₁) (hw : (Cond.code y cc maxL ret).before args s = true) : c.exceptionTable.isEmpty = true := by
  obtain ⟨meth', c', h1, h2, -, -, -, -, h7, -⟩ := Cond.code_spec B.named hw
  have X := Stand.of_body B
  cases B.method.symm.trans h1
  cases X.code.symm.trans h2
  exact h7
section ZXA
variable {p : Program} {l : Launch} {e : Env} {R : Room} {s : State} {m : MethodId} {args : Array Value} {below : List Frame} {meth : Method} {c : Code} {H : Heap} {cells slots : Nat}
variable {cc : ByteArray} {pc : Nat} {ls : Array Slot}
/-- throw new E("tx") -/
theorem zx_throwS (hexec : p.tables.exec = Jvm.exec) (htr : e.platform.stackTraces = false) (hb : c.code = cc) (hemp : c.exceptionTable.isEmpty = true) (hlocks : meth.locks = false) {own E tx : String} {names : List String} {ic ix is : Nat} (hown : s.vm.findClass own = some m.cls) (hfit : Bundle.fit E = true) (hnames : ∀ n ∈ names, Bundle.fit n = true)
    (hat : ∀ a ∈ Bundle.ownAtoms own ic E names, a.before args s = true) (hclink : (Cond.classLink own ix E).before args s = true) (hini : (Cond.initialized E).before args s = true) {q : Nat} (hZ : vk_R own is tx q s) (hsize : ls.size = c.maxLocals) (hge : s.heap.size ≤ H.size)
    (d0 : decode cc pc = .ok (.new ix, 3)) (d3 : decode cc (pc + 3) = .ok (.dup, 1)) (d4 : decode cc (pc + 3 + 1) = .ok (.ldc is, 2)) (d6 : decode cc (pc + 3 + 1 + 2) = .ok (.invokespecial ic, 3)) (d9 : decode cc (pc + 3 + 1 + 2 + 3) = .ok (.athrow, 1))
    (hc : cells + 1 ≤ R.cells) (hs : slots + 6 ≤ R.slots) (hRf : names.length + 3 < R.frames) (hRl : 1 + (13 * (names.length + 1) + 42) ≤ R.locals) {mc ms : Nat} (hmc : cells + 1 ≤ mc) (hms : slots + 6 ≤ ms) :
    W p l e R s m args below meth c H [] cells slots (zx_MQ below E s mc ms) (F0 m pc ls []) := by
  have hins := hat (.instantiable E 6) (by simp [Bundle.ownAtoms])
  obtain ⟨cE, kE, hfc, -⟩ := Cond.instantiable_spec hins
  refine W.newcK hexec hb hown hclink hins hini rfl d0 hc hs hfc rfl fun H1 kC hkC e1 z1 o1 => ?_
  refine lv_dup hexec hb d3 rfl ?_
  refine va_ldcS hexec hb hown hZ d4 ?_
  intro T hT X
  obtain ⟨U, st, hrun, hend, hW, hsm, ce, hce, hO⟩ := X.ctorThrowS hexec htr hown hfit hnames hat (fun x hx => by cases hx) hfc hkC (a := H.size) (by rw [hT]; exact e1) hge (msg := .ref q) rfl
    (g := F0 m (pc + 3 + 1 + 2) ls [.ref q, .ref H.size, .ref H.size]) rfl hsize rfl rfl (rest := []) rfl (by rw [hb]; exact d6) (by rw [hb]; exact d9) (covers_of_empty hemp _) hRf (by show 2 * 0 + 1 + _ ≤ _; omega) hlocks
  exact ⟨U, st, .threw H.size, hrun, hend, H.size, ce, rfl, hce, hO.vm, hO.cls, hW, hsm.mono hmc hms⟩
end ZXA
/-- what the search for a handler gives, the tables warmed by it -/
def zx_F (e : Env) (s : State) (f : JFrame) (a : Addr) (h : Handler) (vm' : Vm) : Prop :=
  ∀ (Q : Handler → Pre) (E : CtlPost) (d : Bool) (acts : List Action), wp (findHandler f a) Q E e d acts s ↔ Q h d acts (s.setVm vm')
theorem zx_goYes {Q : Handler → Pre} {E : CtlPost} {e : Env} {d : Bool} {acts : List Action} {s : State} {f : JFrame} {a : Addr} {x : ExceptionTableEntry} {t : List ExceptionTableEntry} {c : ClassId} {cell : Cell} (hx : covers x f.pc = true) (h0 : x.catchType ≠ 0)
    (hl : s.vm.ClassLinks e.platform f.method.cls x.catchType c) (hcell : s.heap[a]? = some cell) (hobj : ∀ k, cell.vm ≠ .statics k) (hk : ∃ k, s.vm.classes[cell.cls]? = some k) (hc : ∃ k, s.vm.classes[c]? = some k) (hy : s.vm.assignable cell.cls c = true) :
    wp (findHandler.go f a (x :: t)) Q E e d acts s ↔ Q (.found x.handlerPc) d acts (s.setVm (s.vm.noted f.method.cls x.catchType (.cls c))) := by
  simp only [covers] at hx
  obtain ⟨ha, ht⟩ := (resolveClass_links e.toSetting hl).op (op := VmOp.resolveClass f.method.cls x.catchType) rfl
  have hal : s.vm.Alike (s.vm.noted f.method.cls x.catchType (.cls c)) := (Vm.Alike.refl s.vm).noted _ _ _
  obtain ⟨k1, hk1⟩ := hk
  obtain ⟨k2, hk2⟩ := hc
  obtain ⟨k1', hk1', -⟩ := hal.2.2 _ _ hk1
  obtain ⟨k2', hk2', -⟩ := hal.2.2 _ _ hk2
  have hy' : (s.vm.noted f.method.cls x.catchType (.cls c)).assignable cell.cls c = true := by rw [hal.assignable]; exact hy
  simp [findHandler.go, hx, h0, ha, ht, hcell, hobj, hk1', hk2', hy', VmOp.dirties, VmOp.acts]
theorem zx_goNo {Q : Handler → Pre} {E : CtlPost} {e : Env} {d : Bool} {acts : List Action} {s : State} {f : JFrame} {a : Addr} {x : ExceptionTableEntry} {t : List ExceptionTableEntry} {c : ClassId} {cell : Cell} (hx : covers x f.pc = true) (h0 : x.catchType ≠ 0)
    (hl : s.vm.ClassLinks e.platform f.method.cls x.catchType c) (hcell : s.heap[a]? = some cell) (hobj : ∀ k, cell.vm ≠ .statics k) (hk : ∃ k, s.vm.classes[cell.cls]? = some k) (hc : ∃ k, s.vm.classes[c]? = some k) (hno : s.vm.assignable cell.cls c = false) :
    wp (findHandler.go f a (x :: t)) Q E e d acts s ↔ wp (findHandler.go f a t) Q E e d acts (s.setVm (s.vm.noted f.method.cls x.catchType (.cls c))) := by
  simp only [covers] at hx
  obtain ⟨ha, ht⟩ := (resolveClass_links e.toSetting hl).op (op := VmOp.resolveClass f.method.cls x.catchType) rfl
  have hal : s.vm.Alike (s.vm.noted f.method.cls x.catchType (.cls c)) := (Vm.Alike.refl s.vm).noted _ _ _
  obtain ⟨k1, hk1⟩ := hk
  obtain ⟨k2, hk2⟩ := hc
  obtain ⟨k1', hk1', -⟩ := hal.2.2 _ _ hk1
  obtain ⟨k2', hk2', -⟩ := hal.2.2 _ _ hk2
  have hno' : (s.vm.noted f.method.cls x.catchType (.cls c)).assignable cell.cls c = false := by rw [hal.assignable]; exact hno
  simp [findHandler.go, hx, h0, ha, ht, hcell, hobj, hk1', hk2', hno', VmOp.dirties, VmOp.acts]
/-- a search over rows that all cover the place: the first ones name classes that don't take the object, the next one does -/
theorem zx_search {e : Env} {s₀ : State} {f : JFrame} {a : Addr} {cell : Cell} (hobj : ∀ k, cell.vm ≠ .statics k) (hk0 : ∃ k, s₀.vm.classes[cell.cls]? = some k) (x : ExceptionTableEntry) (rest : List ExceptionTableEntry) (hx : covers x f.pc = true) (h0 : x.catchType ≠ 0) {cx : ClassId} (hl : s₀.vm.ClassLinks e.platform f.method.cls x.catchType cx) (hy : s₀.vm.assignable cell.cls cx = true) :
    ∀ (pre : List ExceptionTableEntry) (S : State), s₀.WarmedH S.vm → S.heap[a]? = some cell → (∀ y ∈ pre, covers y f.pc = true ∧ y.catchType ≠ 0 ∧ ∃ c, s₀.vm.ClassLinks e.platform f.method.cls y.catchType c ∧ s₀.vm.assignable cell.cls c = false) →
      ∃ vm', s₀.WarmedH vm' ∧ ∀ (Q : Handler → Pre) (E : CtlPost) (d : Bool) (acts : List Action), wp (findHandler.go f a (pre ++ x :: rest)) Q E e d acts S ↔ Q (.found x.handlerPc) d acts (S.setVm vm') := by
  obtain ⟨k0, hk0⟩ := hk0
  intro pre
  induction pre with
  | nil =>
    intro S hW hcell _
    obtain ⟨k0', hk0', -⟩ := hW.alike.2.2 _ _ hk0
    obtain ⟨dk, _, _, kt, hd, _, _, _, _, hkt, _, hopen⟩ := hl.here
    obtain ⟨kt', hkt', -⟩ := hW.alike.2.2 _ _ hkt
    exact ⟨_, hW.noted hd hopen (State.rightAt_cls hl), fun Q E d acts => by
      rw [List.nil_append]
      exact zx_goYes hx h0 (hW.classLinks hl) hcell hobj ⟨k0', hk0'⟩ ⟨kt', hkt'⟩ (by rw [hW.alike.assignable]; exact hy)⟩
  | cons y ys ih =>
    intro S hW hcell hpass
    obtain ⟨k0', hk0', -⟩ := hW.alike.2.2 _ _ hk0
    obtain ⟨hcov, h1, c, hl1, hno⟩ := hpass y (List.mem_cons_self ..)
    obtain ⟨dk, _, _, kt, hd, _, _, _, _, hkt, _, hopen⟩ := hl1.here
    obtain ⟨kt', hkt', -⟩ := hW.alike.2.2 _ _ hkt
    obtain ⟨vm', hW', hq⟩ := ih (S.setVm (S.vm.noted f.method.cls y.catchType (.cls c))) (hW.noted hd hopen (State.rightAt_cls hl1)) hcell (fun z hz => hpass z (List.mem_cons_of_mem _ hz))
    exact ⟨vm', hW', fun Q E d acts => by
      rw [List.cons_append, zx_goNo hcov h1 (hW.classLinks hl1) hcell hobj ⟨k0', hk0'⟩ ⟨kt', hkt'⟩ (by rw [hW.alike.assignable]; exact hno)]
      exact hq Q E d acts⟩
theorem zx_stepCatch {e : Env} {s : State} {a : Addr} {f : JFrame} {r : List Frame} {pc : Nat} {vm' : Vm} (hfind : zx_F e s f a (.found pc) vm') :
    (stepThrowing e s a (.java f :: r)).Is ((s.setVm vm').setFrames (.java { f with pc := pc, stack := [.ref a] } :: r)) [] := by
  simp only [stepThrowing, searchFrame, vmDo]
  generalize hr : Sem.go _ e false [] s = res
  obtain ⟨as, rfl, ha⟩ := Sem.eq_ok_of hr (a := Handler.found pc) (s' := s.setVm vm') (acts' := []) (by simp [hfind _ _ _ _])
  exact ⟨rfl, ha⟩
theorem zx_caught {tb : Tables} {e : Env} {s target : State} {g : JFrame} {c : Code} {below : List Frame} {a : Addr} (h : At s g.method c below) {pc : Nat} {vm' : Vm} (hfind : zx_F e ((s.setTop g).pushFrame (.throwing a)) g a (.found pc) vm')
    (hrest : Steps tb e below ((s.setVm vm').setTop { g with pc := pc, stack := [.ref a] }) target) :
    Steps tb e below ((s.setTop g).pushFrame (.throwing a)) target := by
  obtain ⟨hgo, hw⟩ := h.throwing a
  refine Steps.head hgo hw ?_
  rw [stepThread_throwing (frames_entered h.top _), (zx_stepCatch (s := (s.setTop g).pushFrame (.throwing a)) hfind).1]
  obtain ⟨g₀, hg⟩ := Option.isSome_iff_exists.mp h.top
  obtain ⟨r, hr⟩ := State.topJava?_eq_some.mp hg
  have hr' : (s.setVm vm').frames = .java g₀ :: r := hr
  rw [State.setTop_of_frames _ hr'] at hrest
  have e1 : ((((s.setTop g).pushFrame (.throwing a)).setVm vm').setFrames (.java { g with pc := pc, stack := [.ref a] } :: s.frames.tail)) = (s.setVm vm').setFrames (.java { g with pc := pc, stack := [.ref a] } :: r) := by
    rw [State.pushFrame, State.setTop_of_frames _ hr, State.setFrames_setFrames]
    rw [hr]
    show ((s.setFrames _).setVm vm').setFrames _ = _
    have e2 : ∀ fs, (s.setFrames fs).setVm vm' = (s.setVm vm').setFrames fs := fun fs => rfl
    rw [e2, State.setFrames_setFrames]
    rfl
  rw [e1]
  exact hrest
section ZXB
variable {p : Program} {l : Launch} {e : Env} {R : Room} {s : State} {m : MethodId} {args : Array Value} {below : List Frame} {meth : Method} {c : Code} {H : Heap} {locs : List Loc} {cells slots : Nat} {Q : State → Prop}
variable {cc : ByteArray} {pc : Nat} {ls : Array Slot} {rest st0 : List Value}
/-- old cells stay, by sameButNew without places -/
theorem zx_old {st : State} {T : State} {k n : Nat} (h : st.sameButNew T [] k n) : st.heap.size ≤ T.heap.size ∧ ∀ q : Nat, q < st.heap.size → T.heap[q]? = st.heap[q]? := by
  obtain ⟨-, h2, -, -, -, h6⟩ := h
  refine ⟨h2, fun q hq => ?_⟩
  obtain ⟨c9, e1, e2, e3, e4⟩ := h6 q _ (Array.getElem?_eq_getElem hq)
  have hs : c9.slots = (st.heap[q]).slots := Array.ext_getElem? fun i => e4 i (by simp)
  have h9 : c9 = st.heap[q] := by
    rw [hs] at e2
    exact e2
  rw [e1, h9, Array.getElem?_eq_getElem hq]
set_option maxHeartbeats 1000000 in
/-- a virtual call that throws an E, caught by the row x of this method's table; the rows ahead don't take it -/
theorem zx_tryV {y : MethodName} {bytes : ByteArray} {maxL nL mc ms n index : Nat} {ret : Option FieldType} {ws : List Cond} {rm : Room} {Pc : Array Value → State → Prop} {E : String} {Ts : List Cond} {own C : String} {b : Addr} {As : List Value}
    (S : CallFix p m c cc nL s args Ts own) (hM : zx_Met l y ws rm Pc E mc ms) (cw : CallW R s args own C index y bytes maxL ret ws rm mc ms n) (hp : PreV s H C b Pc As)
    (hn : As.length = n) (hsize : ls.size = nL) (hstack : st0 = As.reverse ++ .ref b :: rest) (hW : (rest.map fun v => v.category).sum ≤ 8) (hdg : decode cc pc = .ok (.invokevirtual index, 3)) (hf : cells + mc ≤ R.cells ∧ slots + ms ≤ R.slots)
    (pre : List ExceptionTableEntry) (x : ExceptionTableEntry) (suf : List ExceptionTableEntry) (hsplit : c.exceptionTable.toList = pre ++ x :: suf) (hpass : ∀ z ∈ pre, covers z pc = true ∧ z.catchType ≠ 0 ∧ ∃ nm : String, (Cond.classLink own z.catchType nm).before args s = true ∧ va_Nc E nm s) (hx : covers x pc = true) (h0 : x.catchType ≠ 0) {nm : String}
    (hlink : (Cond.classLink own x.catchType nm).before args s = true) (hcast : (Cond.castable E nm).before args s = true)
    (kk : ∀ (H1 : Heap) (q : Nat), H.size ≤ H1.size → (∀ a : Nat, a < H.size → H1[a]? = H[a]?) → W p l e R s m args below meth c H1 locs (cells + mc) (slots + ms) Q (F0 m x.handlerPc ls [.ref q])) : W p l e R s m args below meth c H locs cells slots Q (F0 m pc ls st0) := by
  obtain ⟨⟨hrc, hrs, hfr, hlo, hws, hcw, hcode, hini, hy, hlen, hl⟩, hin, hse⟩ := cw
  obtain ⟨hexec, hb, hml, ho, -⟩ := S
  obtain ⟨hbl, ⟨cellB, hcB, hoB, hclB⟩, hPc⟩ := hp
  intro T hT X
  have hpl : e.platform.magicAccessors = ({} : Platform).magicAccessors := by rw [X.admits.platform]
  obtain ⟨mk, methM, hnamed, hmethM, hstM, habM⟩ := Cond.instanceMethod_spec hin
  obtain ⟨methM', cM, hmethM', hcM, -, hlM, -, -, -, hsigM⟩ := Cond.code_spec hnamed hcode
  cases hmethM.symm.trans hmethM'
  obtain ⟨c2, r2, m2, q1, q2, q3, q4, kP, hkP, hkPi⟩ := Cond.selects_spec hse
  cases hclB.symm.trans q1
  cases (State.methodFound?_of_named hnamed hy).symm.trans q2
  cases hnamed.symm.trans q3
  have hselP : selectMethod e.platform s.vm cellB.cls mk = .method mk := by rw [Launch.admits_selectMethod X.admits]; exact q4
  obtain ⟨vm₁, X₁, hstep₁⟩ := X.invokevirtual hexec ho hl hnamed hmethM hstM hkP hkPi hy (a := b) (cell := cellB) (by rw [hT]; exact hcB)
    (fun z h => by rw [h] at hoB; cases hoB) hselP hmethM habM hkP hkPi (g := F0 m pc ls st0) rfl (argsL := As) (rest := rest) (hn.trans (hlen _ hsigM)) hstack (by rw [hb]; exact hdg)
  have hal := X₁.warmed.alike
  have hn1 : (T.setVm vm₁).methodNamed? y = some mk := X₁.named hnamed
  have hmM1 : (T.setVm vm₁).vm.method? mk = some methM := by rw [hal.method?]; exact hmethM
  obtain ⟨kY, hkY, -⟩ := className_of_methodNamed hn1
  have hinitY : kY.init = .initialized := Cond.initialized_spec (findClass_of_methodNamed hn1) hkY (word_at (a' := args) X₁.warmed (Or.inl (by first | rfl | simp [Cond.onTables, Cond.keeps, Cond.steady])) hini)
  have h1 : (headSpec ws rm).pre.before (Value.ref b :: As).toArray (T.setVm vm₁) = true := atoms_intro fun w hw => hws w hw _ _ X₁.warmed
  have hdg1 : decode c.code (F0 m pc ls rest).pc = .ok (.invokevirtual index, 3) := by rw [hb]; exact hdg
  have happ : (headSpec ws rm).appliesLoose y e.platform ((T.setVm vm₁).calling (F0 m pc ls rest) mk (Value.ref b :: As).toArray) = true :=
    Spec.appliesLoose_calling (g := F0 m pc ls rest) X₁.here hdg1 hn1 hkY hinitY
      (X₁.room_calling (g := F0 m pc ls rest) (R' := (headSpec ws rm).room) (hsize.trans hml.symm) hmM1 hcM hfr (by rw [hlM]; show 2 * 0 + (rest.map fun v => v.category).sum + _ + rm.locals ≤ _; omega) (by show cells + rm.cells ≤ _; rw [hrc]; exact hf.1) (by show slots + rm.slots ≤ _; rw [hrs]; exact hf.2)) h1
  obtain ⟨mid, hmid⟩ := X₁.here.above
  have hfr1 : ((T.setVm vm₁).setTop (F0 m pc ls rest)).frames = (.java (F0 m pc ls rest) :: mid) ++ below := by rw [State.frames_setTop' _ X₁.here.top, hmid]; rfl
  obtain ⟨o, s₂, hsteps, -, hend, hq⟩ := Steps.callFree hM p X.admits X.cas X.clock (acts := []) hfr1 happ (hbl _ _ (F0 m pc ls rest) mk (hPc (T.setVm vm₁) hT X₁.warmed)) trivial
  obtain ⟨q, ce, rfl, hce, hcv, hcl, hW₂, hsm⟩ := hq
  rw [State.frames_setTop' _ X₁.here.top, X₁.tail] at hend
  obtain ⟨T', X', hW', hsB, ht⟩ := X₁.outOfThrown (g := F0 m pc ls rest) rfl hend hW₂ hsm
  have hhp : s₂.heap = T'.heap := by rw [ht]; exact Stand.throwing_heap _ _ _
  rw [hhp] at hce
  obtain ⟨hz, hold⟩ := zx_old hsB
  have hzT : (T.setVm vm₁).heap = H := hT
  rw [hzT] at hz hold
  have hclE : s.vm.findClass E = some ce.cls := by rw [← hal.findClass]; exact hcl
  obtain ⟨c3, c4, hc3, hc4, hasg⟩ := Cond.castable_spec hcast
  cases Option.some.inj (hc3.symm.trans hclE)
  obtain ⟨c5, hc5, hcl5⟩ := Cond.classLink_spec ho hlink e.platform hpl
  cases Option.some.inj (hc4.symm.trans hc5)
  obtain ⟨vm', hWv, hqs⟩ := zx_search (e := e) (s₀ := s) (f := F0 m pc ls rest) (a := q) (cell := ce) (VmData.ne_statics_of (by rw [hcv]; rfl)) (by obtain ⟨k9, h9, -⟩ := Vm.findClass_spec hclE; exact ⟨k9, h9⟩) x suf hx h0 hcl5 hasg pre
    ((T'.setTop (F0 m pc ls rest)).pushFrame (.throwing q)) X'.warmed hce (fun z hz => by
      obtain ⟨w1, w2, nm1, w3, a8, b8, w4, w5, w6⟩ := hpass z hz
      obtain ⟨c6, hc6, hcl6⟩ := Cond.classLink_spec ho w3 e.platform hpl
      cases Option.some.inj (w4.symm.trans hclE)
      cases Option.some.inj (w5.symm.trans hc6)
      exact ⟨w1, w2, _, hcl6, w6⟩)
  have hF : zx_F e ((T'.setTop (F0 m pc ls rest)).pushFrame (.throwing q)) (F0 m pc ls rest) q (.found x.handlerPc) vm' := fun Q E d acts => by
    rw [W.findHandler_eq X'.method' X'.code, hsplit]
    exact hqs Q E d acts
  rw [List.append_nil] at X'
  obtain ⟨t, a1, b1⟩ := kk T'.heap q hz hold (T'.setVm vm') rfl (X'.noted hWv)
  refine ⟨t, hstep₁ _ (fun acts => ?_), b1⟩
  rw [doInvoke_state]
  rw [ht] at hsteps
  exact hsteps.trans (zx_caught X'.here hF a1)
end ZXB
end
section
/-! new int[n][k]: an outer array and its rows, one behind the other -/
def zg_o (cA : ClassId) (N h0 i : Nat) : Cell := arrV cA N (fun j => if j < i then .ref (h0 + 1 + j) else .null)
def zg_r (comp : ClassId) (K : Nat) : Cell := arrV comp K (fun _ => .int 0)
theorem zg_os (cA : ClassId) (N h0 i : Nat) : (zg_o cA N h0 i).setSlot i (.ref (h0 + 1 + i)) = zg_o cA N h0 (i + 1) := by
  show (arrV _ _ _).setSlot _ _ = arrV _ _ _
  rw [arrV_store]
  congr 1
  funext j
  by_cases h : j = i
  · subst h; simp [updV]
  · by_cases h2 : j < i
    · simp [updV, h, h2, Nat.lt_succ_of_lt h2]
    · have h3 : ¬ j < i + 1 := by omega
      simp [updV, h, h2, h3]
def zg_f (s : State) (cA comp : ClassId) (N K : Nat) : Nat → State
  | 0 => s.pushCell (zg_o cA N s.heap.size 0)
  | i + 1 => ((zg_f s cA comp N K i).pushCell (zg_r comp K)).setCell s.heap.size (zg_o cA N s.heap.size (i + 1))
theorem zg_facts (s : State) (cA comp : ClassId) (N K : Nat) : ∀ i : Nat, (zg_f s cA comp N K i).heap.size = s.heap.size + 1 + i ∧ (zg_f s cA comp N K i).heap[s.heap.size]? = some (zg_o cA N s.heap.size i) ∧ (zg_f s cA comp N K i).vm = s.vm ∧ (zg_f s cA comp N K i).slotsUsed = s.slotsUsed + N + i * K ∧
    (∀ a : Nat, a < s.heap.size → (zg_f s cA comp N K i).heap[a]? = s.heap[a]?) ∧ (∀ j : Nat, j < i → (zg_f s cA comp N K i).heap[s.heap.size + 1 + j]? = some (zg_r comp K)) := by
  intro i
  induction i with
  | zero =>
    refine ⟨by simp [zg_f], by simp [zg_f], rfl, by simp [zg_f, zg_o, arrV_size], fun a ha => ?_, fun j hj => absurd hj (Nat.not_lt_zero _)⟩
    exact State.heap_pushCell_of_lt _ _ ha
  | succ i ih =>
    obtain ⟨f1, f2, f3, f4, f5, f6⟩ := ih
    have hlt : s.heap.size < (zg_f s cA comp N K i).heap.size := by omega
    have hb' : ((zg_f s cA comp N K i).pushCell (zg_r comp K)).heap[s.heap.size]? = some (zg_o cA N s.heap.size i) := by rw [State.heap_pushCell_of_lt (h := hlt)]; exact f2
    refine ⟨?_, State.heap_setCell_self hb', by simp [zg_f, f3], ?_, fun a ha => ?_, fun j hj => ?_⟩
    · simp [zg_f, State.setCell, f1]; omega
    · simp [zg_f, f4, zg_r, arrV_size, Nat.succ_mul]; omega
    · show (((zg_f s cA comp N K i).pushCell (zg_r comp K)).setCell s.heap.size _).heap[a]? = _
      rw [State.heap_setCell_other (Nat.ne_of_gt ha), State.heap_pushCell_of_lt (h := Nat.lt_trans ha hlt)]
      exact f5 a ha
    · show (((zg_f s cA comp N K i).pushCell (zg_r comp K)).setCell s.heap.size _).heap[s.heap.size + 1 + j]? = _
      rw [State.heap_setCell_other (show s.heap.size ≠ s.heap.size + 1 + j by omega)]
      rcases Nat.lt_or_ge j i with h | h
      · have hlj : s.heap.size + 1 + j < (zg_f s cA comp N K i).heap.size := by rw [f1]; omega
        rw [State.heap_pushCell_of_lt (h := hlj)]
        exact f6 j h
      · have e : j = i := by omega
        subst e
        rw [← f1]
        exact State.heap_pushCell_size _ _
theorem zg_top (s : State) (f : JFrame) (cA comp : ClassId) (N K : Nat) : ∀ i, zg_f (s.setTop f) cA comp N K i = (zg_f s cA comp N K i).setTop f
  | 0 => rfl
  | i + 1 => by simp only [zg_f, zg_top s f cA comp N K i, State.heap_setTop, State.pushCell_setTop, State.setCell_setTop]
section ZGW
variable {E : CtlPost} {e : Env} {d : Bool} {acts : List Action} {s : State}
theorem zg_arr {c comp : ClassId} {k : Class} {type : FieldType} {len : Nat} {init : Value} (hk : s.vm.classes[c]? = some k) (hkind : k.kind = .array comp type)
    (hlimit : ¬ len > e.platform.arrayLengthLimit) (hheap : ¬ len * componentBytes type > e.platform.maxHeapBytes) (hfit : fits type init = true) (hdef : init.isDefault = true) {Q : Addr → Pre}
    (h1 : s.heap.size < e.platform.maxCells) (h2 : s.slotsUsed + len ≤ e.platform.maxSlots)
    (hq : Q s.heap.size d acts (s.pushCell (arrV c len (fun _ => init)))) : wp (Jvm.newArray c len init) Q E e d acts s := by
  rw [← arrV_new] at hq
  have hfits : ∀ i v, (Array.replicate len init)[i]? = some v → s.fitsSlot c .none i v = true := by
    intro i v hv
    simp only [Array.getElem?_replicate] at hv
    split at hv
    · cases hv; simp [State.fitsSlot, State.slotType?, hk, hkind, hfit]
    · cases hv
  have hda : allocActs (Array.replicate len init) s.heap.size acts = acts := by
    have hall : ((Array.replicate len init).all (·.isDefault)) = true := by
      rw [Array.all_replicate]; split <;> simp [hdef]
    unfold allocActs; rw [if_pos hall]
  simp only [Jvm.newArray, Jvm.arrayFits, wp_bind', W.ask, W.ite, hlimit, if_false, wp_pure', W.theClass, hk, hkind, hheap, W.alloc, W.stop, Option.some.injEq, exists_eq_left', Array.size_replicate, hda]
  rw [if_neg (by omega)]
  exact ⟨h1, h2, hfits, hq⟩
theorem zg_make {c comp cc : ClassId} {k kc : Class} {n m : Int32} (hk : s.vm.classes[c]? = some k) (hkind : k.kind = .array comp (.array .int))
    (hkc : s.vm.classes[comp]? = some kc) (hkindc : kc.kind = .array cc .int) (hn : ¬ n < 0) (hm : ¬ m < 0)
    (hl1 : ¬ n.toNatClampNeg > e.platform.arrayLengthLimit) (hh1 : ¬ n.toNatClampNeg * 4 > e.platform.maxHeapBytes)
    (hl2 : ¬ m.toNatClampNeg > e.platform.arrayLengthLimit) (hh2 : ¬ m.toNatClampNeg * 4 > e.platform.maxHeapBytes)
    (hc : s.heap.size + 1 + n.toNatClampNeg ≤ e.platform.maxCells) (hs : s.slotsUsed + n.toNatClampNeg + n.toNatClampNeg * m.toNatClampNeg ≤ e.platform.maxSlots)
    {Q : Addr → Pre} (hq : ∀ d' acts', Q s.heap.size d' acts' (zg_f s c comp n.toNatClampNeg m.toNatClampNeg n.toNatClampNeg)) :
    wp (Op.multianewarray.make c [n, m]) Q E e d acts s := by
  have hfind : ([m].find? (· < 0)) = none := by simp [hm]
  rw [Op.multianewarray.make]
  simp only [wp_bind', W.ite, hn, if_false, wp_pure', W.theClass, hk, hkind, Option.some.injEq, exists_eq_left']
  refine zg_arr hk hkind hl1 hh1 rfl rfl (by omega) (by have := Nat.zero_le (n.toNatClampNeg * m.toNatClampNeg); omega) ?_
  simp only [hfind]
  rw [ite_self, wp_bind', Std.Legacy.Range.forIn_eq_forIn_range']
  have hsz : ([:n.toNatClampNeg] : Std.Legacy.Range).size = n.toNatClampNeg := by simp [Std.Legacy.Range.size]
  rw [hsz]
  show wp (forIn (List.range' 0 n.toNatClampNeg 1) PUnit.unit _) _ E e d acts _
  refine wp_forIn_inv (fun rest s' => ∃ i, i ≤ n.toNatClampNeg ∧ rest = List.range' i (n.toNatClampNeg - i) ∧ s' = zg_f s c comp n.toNatClampNeg m.toNatClampNeg i) _ _ ⟨0, Nat.zero_le _, rfl, ?_⟩ ?_ ?_
  · show s.pushCell _ = s.pushCell _
    congr 1
  · rintro x rest s' d' acts' Q' ⟨i, hi, hl, rfl⟩ hnext
    have hlt : i < n.toNatClampNeg := by
      rcases Nat.lt_or_ge i n.toNatClampNeg with h | h
      · exact h
      · rw [show n.toNatClampNeg - i = 0 from by omega] at hl; simp at hl
    obtain ⟨rfl, hrest⟩ : x = i ∧ rest = List.range' (i + 1) (n.toNatClampNeg - (i + 1)) := by
      rw [show n.toNatClampNeg - i = (n.toNatClampNeg - (i + 1)) + 1 from by omega, List.range'_succ] at hl
      exact ⟨(List.cons.inj hl).1, (List.cons.inj hl).2⟩
    obtain ⟨f1, f2, f3, f4, -, -⟩ := zg_facts s c comp n.toNatClampNeg m.toNatClampNeg x
    have hmul : x * m.toNatClampNeg + m.toNatClampNeg ≤ n.toNatClampNeg * m.toNatClampNeg := by
      have := Nat.mul_le_mul_right m.toNatClampNeg (show x + 1 ≤ n.toNatClampNeg from hlt)
      rw [Nat.succ_mul] at this; exact this
    have hlt0 : s.heap.size < (zg_f s c comp n.toNatClampNeg m.toNatClampNeg x).heap.size := by rw [f1]; omega
    simp only [wp_bind']
    rw [Op.multianewarray.make]
    simp only [wp_bind', W.ite, hm, if_false, wp_pure', W.theClass, f3, hkc, hkindc, Option.some.injEq, exists_eq_left']
    refine zg_arr (by rw [f3]; exact hkc) hkindc hl2 hh2 rfl rfl (by rw [f1]; omega) (by rw [f4]; omega) ?_
    simp only [wp_bind', W.writeLoc, wp_pure']
    refine ⟨zg_o c n.toNatClampNeg s.heap.size x, by rw [State.heap_pushCell_of_lt (h := hlt0)]; exact f2, (fun h => by cases h), by show x < (arrV _ _ _).slots.size; rw [arrV_size]; exact hlt, ?_, hnext _ _ _ ⟨x + 1, hlt, hrest, ?_⟩⟩
    · simp [zg_o, arrV, State.fitsSlot, State.slotType?, f3, hk, hkind, fits]
    · rw [f1, zg_os]; rfl
  · rintro s' d' acts' ⟨i, hi, hl, rfl⟩
    have hiN : i = n.toNatClampNeg := by
      rcases Nat.lt_or_ge i n.toNatClampNeg with h | h
      · rw [show n.toNatClampNeg - i = (n.toNatClampNeg - (i + 1)) + 1 from by omega, List.range'_succ] at hl; cases hl
      · omega
    subst hiN
    simp only [wp_pure']
    exact hq _ _
end ZGW
section ZGS
variable {p : Program} {l : Launch} {e : Env} {R : Room} {s : State} {m : MethodId} {args : Array Value} {below : List Frame} {meth : Method} {c : Code} {H : Heap} {locs : List Loc} {cells slots : Nat} {Q : State → Prop}
variable {cc : ByteArray} {pc : Nat} {ls : Array Slot} {rest : List Value}
theorem zg_stand {T : State} (X : Stand p l e R s m args below meth c T locs cells slots) (cA comp : ClassId) (N K : Nat) : ∀ i, Stand p l e R s m args below meth c (zg_f T cA comp N K i) (locs ++ (List.range i).map fun j => ⟨T.heap.size, j⟩) (cells + 1 + i) (slots + N + i * K) := by
  intro i
  induction i with
  | zero =>
    have h := X.pushed (zg_o cA N T.heap.size 0)
    rw [show (zg_o cA N T.heap.size 0).slots.size = N from arrV_size _ _ _] at h
    simpa [zg_f] using h
  | succ i ih =>
    obtain ⟨f1, f2, -, -, -, -⟩ := zg_facts T cA comp N K i
    have hlt0 : T.heap.size < (zg_f T cA comp N K i).heap.size := by rw [f1]; omega
    have hcell : ((zg_f T cA comp N K i).pushCell (zg_r comp K)).heap[T.heap.size]? = some (zg_o cA N T.heap.size i) := by rw [State.heap_pushCell_of_lt (h := hlt0)]; exact f2
    have h := (ih.pushed (zg_r comp K)).stored hcell i (.ref (T.heap.size + 1 + i))
    rw [show (zg_r comp K).slots.size = K from arrV_size _ _ _, zg_os] at h
    have e2 : (locs ++ (List.range (i + 1)).map fun j => (⟨T.heap.size, j⟩ : Loc)) = (locs ++ (List.range i).map fun j => (⟨T.heap.size, j⟩ : Loc)) ++ [⟨T.heap.size, i⟩] := by simp [List.range_succ, List.append_assoc]
    have e3 : slots + N + (i + 1) * K = slots + N + i * K + K := by rw [Nat.succ_mul]; omega
    rw [e2, e3]
    exact h
set_option maxHeartbeats 1000000 in
theorem zg_multi (hexec : p.tables.exec = Jvm.exec) (hb : c.code = cc) {own : String} {index : Nat} (hown : s.vm.findClass own = some m.cls) (hclink : (Cond.classLink own index "[[I").before args s = true)
    (hover : (Cond.arrayOver (.array .int)).before args s = true) (harr : (Cond.arrayClass .int).before args s = true) (hdg : decode cc pc = .ok (.multianewarray index 2, 4)) {n k : Int32} {N K : Nat} (hN : n.toNatClampNeg = N) (hKk : k.toNatClampNeg = K)
    (hn : ¬ n < 0) (hk : ¬ k < 0) (hb1 : N ≤ 100000) (hb2 : K ≤ 100000) (hcells : cells + (1 + N) ≤ R.cells) (hslots : slots + (N + N * K) ≤ R.slots)
    (kk : ∀ (H1 : Heap) (cA comp : ClassId), s.vm.findClass "[[I" = some cA → s.vm.findClass "[I" = some comp → H1.size = H.size + 1 + N → H1[H.size]? = some (zg_o cA N H.size N) → (∀ a : Nat, a < H.size → H1[a]? = H[a]?) → (∀ j : Nat, j < N → H1[H.size + 1 + j]? = some (zg_r comp K)) →
      W p l e R s m args below meth c H1 locs (cells + 1 + N) (slots + N + N * K) Q (F0 m (pc + 4) ls (.ref H.size :: rest))) : W p l e R s m args below meth c H locs cells slots Q (F0 m pc ls (.int k :: .int n :: rest)) := by
  intro T hT X
  subst hN; subst hKk; subst hT; subst hb
  have hpl : e.platform.magicAccessors = ({} : Platform).magicAccessors := by rw [X.admits.platform]
  obtain ⟨comp, cA, kA, hcomp, -, hkA, hkindA, hnameA⟩ := arrayOverA_spec hover
  obtain ⟨comp', kC, cc, hcomp', hkC, hkindC⟩ := Cond.arrayClass_spec harr
  have ecomp : comp' = comp := Option.some.inj (hcomp'.symm.trans hcomp)
  subst ecomp
  obtain ⟨c0, hfc0, hcl⟩ := Cond.classLink_spec hown hclink e.platform hpl
  have hnA : s.vm.findClass "[[I" = some cA := hnameA
  cases hnA.symm.trans hfc0
  obtain ⟨hg₁, hwarm₁, hready₁⟩ := State.classEntry (e := e) X.warmed hcl
  generalize T.vm.noted m.cls index (.cls cA) = vm₁ at hg₁ hwarm₁ hready₁
  have hal : s.vm.Alike vm₁ := hwarm₁.alike
  obtain ⟨kA₁, hkA₁, heA⟩ := hal.2.2 _ _ hkA
  obtain ⟨kC₁, hkC₁, heC⟩ := hal.2.2 _ _ hkC
  have hkindA₁ : kA₁.kind = .array comp' (.array .int) := by rw [heA]; exact hkindA
  have hkindC₁ : kC₁.kind = .array cc .int := by rw [heC]; exact hkindC
  have X₁ := X.noted hwarm₁
  obtain ⟨hr1, hr2⟩ := X.roomAbove hcells hslots
  have XF := zg_stand X₁ cA comp' n.toNatClampNeg k.toNatClampNeg n.toNatClampNeg
  have XG := Stand.forget (extra := (List.range n.toNatClampNeg).map fun j => (⟨(T.setVm vm₁).heap.size, j⟩ : Loc)) XF (fun x hx => by
    obtain ⟨j, -, rfl⟩ := List.mem_map.mp hx
    exact X.same.2.1)
  obtain ⟨f1, f2, -, -, f5, f6⟩ := zg_facts (T.setVm vm₁) cA comp' n.toNatClampNeg k.toNatClampNeg n.toNatClampNeg
  obtain ⟨t, a1, b1⟩ := kk (zg_f (T.setVm vm₁) cA comp' n.toNatClampNeg k.toNatClampNeg n.toNatClampNeg).heap cA comp' hnA hcomp f1 f2 f5 f6 _ rfl XG
  refine ⟨t, ?_, b1⟩
  have hl1 : ¬ n.toNatClampNeg > e.platform.arrayLengthLimit := by rw [Launch.admits_arrayLengthLimit X.admits]; omega
  have hh1 : ¬ n.toNatClampNeg * 4 > e.platform.maxHeapBytes := by rw [Launch.admits_maxHeapBytes X.admits]; omega
  have hl2 : ¬ k.toNatClampNeg > e.platform.arrayLengthLimit := by rw [Launch.admits_arrayLengthLimit X.admits]; omega
  have hh2 : ¬ k.toNatClampNeg * 4 > e.platform.maxHeapBytes := by rw [Launch.admits_maxHeapBytes X.admits]; omega
  jvm_step X.here [hexec, hdg]
  simp only [Op.multianewarray.sem, wp_bind', W.resolveClassAt_links (State.method?_setTop (F0 m pc ls (.int k :: .int n :: rest)) X.here.top) hg₁]
  rw [W.popN, if_neg (by decide)]
  refine ⟨F0 m pc ls (.int k :: .int n :: rest), State.topJava?_setTop' (s := T.setVm vm₁) _ X.here.top, [.int n, .int k], rest, rfl, rfl, ?_⟩
  simp only [List.mapM_cons, List.mapM_nil, wp_bind', wp_pure']
  refine zg_make (k := kA₁) (kc := kC₁) (comp := comp') (cc := cc) hkA₁ hkindA₁ hkC₁ hkindC₁ hn hk hl1 hh1 hl2 hh2 (by show T.heap.size + 1 + _ ≤ _; omega) (by show T.slotsUsed + _ + _ ≤ _; omega) (fun d' acts' => ?_)
  have eS : ((T.setTop (F0 m pc ls (.int k :: .int n :: rest))).setVm vm₁).setTop { F0 m pc ls (.int k :: .int n :: rest) with stack := rest } = (T.setVm vm₁).setTop { F0 m pc ls (.int k :: .int n :: rest) with stack := rest } := by
    show ((T.setVm vm₁).setTop _).setTop _ = _
    rw [State.setTop_setTop]
  rw [eS, zg_top]
  simp only [wp_bind', W.mark, W.pushRef, State.topJava?_setTop' _ XF.here.top, Option.some.injEq, exists_eq_left', State.setTop_setTop, State.heap_setTop]
  intro acts
  simp [jvm, XF.here.top]
  exact a1
end ZGS
end
section
/-! CALLS by contracts over maps. Ev: what every state of the run has (tables, statics). zp: a reader's start; zq: a writer's start, with the heap's size; zo: what is behind a writer: the new map and the new size. -/
def zr_p (Ev : State → Prop) (D : va_G) (cl : List vw_C) (B : Nat) (M : zw_M) (av : List Value) : Array Value → State → Prop := va_Pc av (fun U => Ev U ∧ zw_H D cl B M U.heap)
def zr_q (Ev : State → Prop) (D : va_G) (cl : List vw_C) (B : Nat) (M : zw_M) (sz : Nat) (av : List Value) : Array Value → State → Prop := va_Pc av (fun U => Ev U ∧ zw_H D cl B M U.heap ∧ U.heap.size = sz)
def zr_o (D : va_G) (cl : List vw_C) (B : Nat) : zw_M × Nat → State → Prop := fun u t => zw_H D cl B u.1 t.heap ∧ t.heap.size = u.2
section ZR
variable {p : Program} {l : Launch} {e : Env} {R : Room} {s : State} {m : MethodId} {args : Array Value} {below : List Frame} {meth : Method} {c : Code} {H : Heap} {locs : List Loc} {cells slots : Nat} {Q : State → Prop}
variable {cc : ByteArray} {pc : Nat} {ls : Array Slot} {rest st0 : List Value} {D : va_G} {cl : List vw_C} {B b : Nat} {tys : List (ClassId × FieldType)} {M : zw_M} {H0 : Heap} {Ev : State → Prop}
variable {y : MethodName} {bytes : ByteArray} {maxL nL mc ms n index : Nat} {ret : Option FieldType} {ws ws' : List Cond} {rm : Room} {Ts : List Cond} {own C : String} {As : List Value}
theorem zr_blindp (hbl : ∀ (U : State) (g : JFrame) (mk : MethodId) (a : Array Value), Ev U → Ev (U.calling g mk a)) (av : List Value) : FrameBlind (zr_p Ev D cl B M av) := fun a U g mk q => ⟨q.1, hbl _ _ _ _ q.2.1, q.2.2⟩
theorem zr_blindq (hbl : ∀ (U : State) (g : JFrame) (mk : MethodId) (a : Array Value), Ev U → Ev (U.calling g mk a)) {sz : Nat} (av : List Value) : FrameBlind (zr_q Ev D cl B M sz av) := fun a U g mk q => ⟨q.1, hbl _ _ _ _ q.2.1, q.2.2.1, q.2.2.2⟩
/-- a reader, invokevirtual -/
theorem zr_V {r : Value} (S : CallFix p m c cc nL s args Ts own) (hM : Met l y ws rm (zr_p Ev D cl B M (.ref b :: As)) (k2_QcV r) 0 0 (fun _ => False)) (hT : GoodIn Ts (wsV own index C y ws)) (hw : ws = Cond.code y bytes maxL ret :: ws') (hrc : rm.cells = 0) (hrs : rm.slots = 0)
    (hd : y.cls = C ∧ y.cls ≠ "java/lang/invoke/MethodHandle" ∧ y.cls ≠ "java/lang/invoke/VarHandle" ∧ (parseMethodDescriptor y.desc).map (fun d => d.parameters.length) = some As.length) (hR : rm.frames + 1 ≤ R.frames ∧ 8 + (maxL + 11) + rm.locals ≤ R.locals)
    (hbl : ∀ (U : State) (g : JFrame) (mk : MethodId) (a : Array Value), Ev U → Ev (U.calling g mk a)) (hmv : ∀ U : State, U.heap = H → s.WarmedH U.vm → Ev U) (hH : zw_H D cl B M H) (hK : va_K D cl tys s) {ci : Nat} {fs : List Value} {q : vw_C} (hb0 : M b = some (.inr (ci, fs))) (hc : cl[ci]? = some q) (hq : q.1 = C)
    (hsize : ls.size = nL) (hstack : st0 = As.reverse ++ .ref b :: rest) (h8 : (rest.map fun v => v.category).sum ≤ 8) (hdg : decode cc pc = .ok (.invokevirtual index, 3)) (hf : cells ≤ R.cells ∧ slots ≤ R.slots)
    (kk : W p l e R s m args below meth c H locs cells slots Q (F0 m (pc + 3) ls (r :: rest))) : W p l e R s m args below meth c H locs cells slots Q (F0 m pc ls st0) := by
  subst hq
  refine W.callV (W.runV (As := As) (rest := rest) S hM (cwV As.length S.2.2.2.2 hT hw hrc hrs hd hR) ⟨zr_blindp hbl _, va_recv hK (hH.one hb0) (q0 := 0) hc rfl, fun U hU hW => ⟨rfl, hmv U hU hW, by rw [hU]; exact hH⟩⟩ rfl rfl hsize hstack (by show 2 * 0 + _ ≤ 8; omega) hdg ⟨hf.1, hf.2⟩) kk
/-- a reader, invokestatic -/
theorem zr_S {r : Value} (S : CallFix p m c cc nL s args Ts own) (hM : Met l y ws rm (zr_p Ev D cl B M As) (k2_QcV r) 0 0 (fun _ => False)) (hT : GoodIn Ts (wsS own index y ws)) (hw : ws = Cond.code y bytes maxL ret :: ws') (hrc : rm.cells = 0) (hrs : rm.slots = 0)
    (hd : y.cls = own ∧ y.cls ≠ "java/lang/invoke/MethodHandle" ∧ y.cls ≠ "java/lang/invoke/VarHandle" ∧ (parseMethodDescriptor y.desc).map (fun d => d.parameters.length) = some As.length) (hR : rm.frames + 1 ≤ R.frames ∧ 8 + (maxL + 11) + rm.locals ≤ R.locals)
    (hbl : ∀ (U : State) (g : JFrame) (mk : MethodId) (a : Array Value), Ev U → Ev (U.calling g mk a)) (hmv : ∀ U : State, U.heap = H → s.WarmedH U.vm → Ev U) (hH : zw_H D cl B M H)
    (hsize : ls.size = nL) (hstack : st0 = As.reverse ++ rest) (h8 : (rest.map fun v => v.category).sum ≤ 8) (hdg : decode cc pc = .ok (.invokestatic index, 3)) (hf : cells ≤ R.cells ∧ slots ≤ R.slots)
    (kk : W p l e R s m args below meth c H locs cells slots Q (F0 m (pc + 3) ls (r :: rest))) : W p l e R s m args below meth c H locs cells slots Q (F0 m pc ls st0) := by
  refine W.callV (W.runS (As := As) (rest := rest) S hM (cwS As.length S.2.2.2.2 hT hw hrc hrs hd hR) ⟨zr_blindp hbl _, fun U hU hW => ⟨rfl, hmv U hU hW, by rw [hU]; exact hH⟩⟩ rfl rfl hsize hstack (by show 2 * 0 + _ ≤ 8; omega) hdg ⟨hf.1, hf.2⟩) kk
/-- a writer with an int answer, invokevirtual -/
theorem zr_Vi {post : Int32 → zw_M × Nat → Prop} (S : CallFix p m c cc nL s args Ts own) (hM : Met l y ws rm (zr_q Ev D cl B M H.size (.ref b :: As)) (va_Qi post (zr_o D cl B) (zw_A B)) mc ms (zw_A B)) (hT : GoodIn Ts (wsV own index C y ws)) (hw : ws = Cond.code y bytes maxL ret :: ws') (hrc : rm.cells = mc) (hrs : rm.slots = ms)
    (hd : y.cls = C ∧ y.cls ≠ "java/lang/invoke/MethodHandle" ∧ y.cls ≠ "java/lang/invoke/VarHandle" ∧ (parseMethodDescriptor y.desc).map (fun d => d.parameters.length) = some As.length) (hR : rm.frames + 1 ≤ R.frames ∧ 8 + (maxL + 11) + rm.locals ≤ R.locals)
    (hbl : ∀ (U : State) (g : JFrame) (mk : MethodId) (a : Array Value), Ev U → Ev (U.calling g mk a)) (hmv : ∀ U : State, U.heap = H → s.WarmedH U.vm → Ev U) (hH : zw_H D cl B M H) (hK : va_K D cl tys s) {ci : Nat} {fs : List Value} {q : vw_C} (hb0 : M b = some (.inr (ci, fs))) (hc : cl[ci]? = some q) (hq : q.1 = C) (hS : va_S (zw_A B) H0 H locs)
    (hsize : ls.size = nL) (hstack : st0 = As.reverse ++ .ref b :: rest) (h8 : (rest.map fun v => v.category).sum ≤ 8) (hdg : decode cc pc = .ok (.invokevirtual index, 3)) (hf : cells + mc ≤ R.cells ∧ slots + ms ≤ R.slots)
    (kk : ∀ (r : Int32) (M1 : zw_M) (sz1 : Nat) (H1 : Heap) (locs1 : List Loc), post r (M1, sz1) → zw_H D cl B M1 H1 → H1.size = sz1 → H.size ≤ H1.size → va_S (zw_A B) H0 H1 locs1 → W p l e R s m args below meth c H1 locs1 (cells + mc) (slots + ms) Q (F0 m (pc + 3) ls (.int r :: rest))) : W p l e R s m args below meth c H locs cells slots Q (F0 m pc ls st0) := by
  subst hq
  refine va_calli (va_runV (As := As) (rest := rest) S hM (cwV As.length S.2.2.2.2 hT hw hrc hrs hd hR) ⟨zr_blindq hbl _, va_recv hK (hH.one hb0) (q0 := 0) hc rfl, fun U hU hW => ⟨rfl, hmv U hU hW, by rw [hU]; exact hH, by rw [hU]⟩⟩ rfl rfl hsize hstack (by show 2 * 0 + _ ≤ 8; omega) hdg hf) hS (fun q _ h => h) (fun q h => h) (fun r u t H1 locs1 ht hvm hw1 hB hz1 hk1 hS1 => ?_)
  subst ht
  exact kk r u.1 u.2 _ locs1 hw1 hB.1 hB.2 hz1 hS1
/-- a writer without an answer, invokevirtual -/
theorem zr_Vv {post : zw_M × Nat → Prop} (S : CallFix p m c cc nL s args Ts own) (hM : Met l y ws rm (zr_q Ev D cl B M H.size (.ref b :: As)) (va_Qv post (zr_o D cl B) (zw_A B)) mc ms (zw_A B)) (hT : GoodIn Ts (wsV own index C y ws)) (hw : ws = Cond.code y bytes maxL ret :: ws') (hrc : rm.cells = mc) (hrs : rm.slots = ms)
    (hd : y.cls = C ∧ y.cls ≠ "java/lang/invoke/MethodHandle" ∧ y.cls ≠ "java/lang/invoke/VarHandle" ∧ (parseMethodDescriptor y.desc).map (fun d => d.parameters.length) = some As.length) (hR : rm.frames + 1 ≤ R.frames ∧ 8 + (maxL + 11) + rm.locals ≤ R.locals)
    (hbl : ∀ (U : State) (g : JFrame) (mk : MethodId) (a : Array Value), Ev U → Ev (U.calling g mk a)) (hmv : ∀ U : State, U.heap = H → s.WarmedH U.vm → Ev U) (hH : zw_H D cl B M H) (hK : va_K D cl tys s) {ci : Nat} {fs : List Value} {q : vw_C} (hb0 : M b = some (.inr (ci, fs))) (hc : cl[ci]? = some q) (hq : q.1 = C) (hS : va_S (zw_A B) H0 H locs)
    (hsize : ls.size = nL) (hstack : st0 = As.reverse ++ .ref b :: rest) (h8 : (rest.map fun v => v.category).sum ≤ 8) (hdg : decode cc pc = .ok (.invokevirtual index, 3)) (hf : cells + mc ≤ R.cells ∧ slots + ms ≤ R.slots)
    (kk : ∀ (M1 : zw_M) (sz1 : Nat) (H1 : Heap) (locs1 : List Loc), post (M1, sz1) → zw_H D cl B M1 H1 → H1.size = sz1 → H.size ≤ H1.size → va_S (zw_A B) H0 H1 locs1 → W p l e R s m args below meth c H1 locs1 (cells + mc) (slots + ms) Q (F0 m (pc + 3) ls rest)) : W p l e R s m args below meth c H locs cells slots Q (F0 m pc ls st0) := by
  subst hq
  refine va_callv (va_runV (As := As) (rest := rest) S hM (cwV As.length S.2.2.2.2 hT hw hrc hrs hd hR) ⟨zr_blindq hbl _, va_recv hK (hH.one hb0) (q0 := 0) hc rfl, fun U hU hW => ⟨rfl, hmv U hU hW, by rw [hU]; exact hH, by rw [hU]⟩⟩ rfl rfl hsize hstack (by show 2 * 0 + _ ≤ 8; omega) hdg hf) hS (fun q _ h => h) (fun q h => h) (fun u t H1 locs1 ht hvm hw1 hB hz1 hk1 hS1 => ?_)
  subst ht
  exact kk u.1 u.2 _ locs1 hw1 hB.1 hB.2 hz1 hS1
/-- a constructor, invokespecial -/
theorem zr_I {post : zw_M × Nat → Prop} (S : CallFix p m c cc nL s args Ts own) (hM : Met l y ws rm (zr_q Ev D cl B M H.size (.ref b :: As)) (va_Qv post (zr_o D cl B) (zw_A B)) mc ms (zw_A B)) (hT : GoodIn Ts ws) (hw : ws = Cond.code y bytes maxL none :: ws') (hrc : rm.cells = mc) (hrs : rm.slots = ms) (hini : (Cond.initialized y.cls).before args s = true) (hlk : (Cond.methodLink own index y).before args s = true) (hin : (Cond.instanceMethod y).before args s = true) (hy : y.name = "<init>")
    (hd : y.cls ≠ "java/lang/invoke/MethodHandle" ∧ y.cls ≠ "java/lang/invoke/VarHandle" ∧ (parseMethodDescriptor y.desc).map (fun d => d.parameters.length) = some As.length) (hR : rm.frames + 1 ≤ R.frames ∧ 8 + (maxL + 11) + rm.locals ≤ R.locals)
    (hbl : ∀ (U : State) (g : JFrame) (mk : MethodId) (a : Array Value), Ev U → Ev (U.calling g mk a)) (hmv : ∀ U : State, U.heap = H → s.WarmedH U.vm → Ev U) (hH : zw_H D cl B M H) (hS : va_S (zw_A B) H0 H locs)
    (hsize : ls.size = nL) (hstack : st0 = As.reverse ++ .ref b :: rest) (h8 : (rest.map fun v => v.category).sum ≤ 8) (hdg : decode cc pc = .ok (.invokespecial index, 3)) (hf : cells + mc ≤ R.cells ∧ slots + ms ≤ R.slots)
    (kk : ∀ (M1 : zw_M) (sz1 : Nat) (H1 : Heap) (locs1 : List Loc), post (M1, sz1) → zw_H D cl B M1 H1 → H1.size = sz1 → H.size ≤ H1.size → va_S (zw_A B) H0 H1 locs1 → W p l e R s m args below meth c H1 locs1 (cells + mc) (slots + ms) Q (F0 m (pc + 3) ls rest)) : W p l e R s m args below meth c H locs cells slots Q (F0 m pc ls st0) := by
  refine va_callv (va_runI (As := As) (rest := rest) S hM ⟨callB_of As.length S.2.2.2.2 hT hw hrc hrs hini hlk hd hR, hy, hin⟩ ⟨zr_blindq hbl _, fun U hU hW => ⟨rfl, hmv U hU hW, by rw [hU]; exact hH, by rw [hU]⟩⟩ rfl rfl hsize hstack (by show 2 * 0 + _ ≤ 8; omega) hdg hf) hS (fun q _ h => h) (fun q h => h) (fun u t H1 locs1 ht hvm hw1 hB hz1 hk1 hS1 => ?_)
  subst ht
  exact kk u.1 u.2 _ locs1 hw1 hB.1 hB.2 hz1 hS1
end ZR
end
section
/-! THE ENVIRONMENT of every call. The rows vx_L .. vx_isRefq are a starting text of TURN's (claim/NAMES.whole.lean.txt) -/
/-- where a static field lies, its class's statics cell in H -/
def vx_L (C n d : String) (A : Nat → Prop) (U : State) (H : Heap) : Prop := ∃ (c : ClassId) (k : Class) (i : Nat) (f : Field) (a : Nat) (cell : Cell), U.vm.findClass C = some c ∧ U.fieldFound? C n d = some (c, k, i, f) ∧ f.isStatic = true ∧ k.statics = some a ∧ H[a]? = some cell ∧ cell.vm.isStatics = true ∧ cell.cls = c ∧ f.slot < cell.slots.size ∧ k.staticTypes[f.slot]? = some f.type ∧ ¬ A a
theorem vx_L.moved {C n d : String} {A : Nat → Prop} {u U : State} {H : Heap} (hvm : u.vm.Alike U.vm) (h : vx_L C n d A u H) : vx_L C n d A U H := by
  obtain ⟨c, k, i, f, a, cell, h1, h2, h3, h4, h5, h6, h7, h8, h9, h10⟩ := h
  obtain ⟨k', hi', he⟩ := State.fieldFound?_setVm hvm h2
  exact ⟨c, k', i, f, a, cell, by rw [hvm.findClass]; exact h1, hi', h3, by rw [he]; exact h4, h5, h6, h7, h8, by rw [he]; exact h9, h10⟩
theorem vx_L.kept {C n d : String} {A : Nat → Prop} {U : State} {H H1 : Heap} (h : vx_L C n d A U H) (hq : ∀ a : Nat, a < H.size → ¬ A a → H1[a]? = H[a]?) : vx_L C n d A U H1 := by
  obtain ⟨c, k, i, f, a, cell, h1, h2, h3, h4, h5, h6, h7, h8, h9, h10⟩ := h
  exact ⟨c, k, i, f, a, cell, h1, h2, h3, h4, by rw [hq a (Array.getElem?_eq_some_iff.mp h5).1 h10]; exact h5, h6, h7, h8, h9, h10⟩
theorem vx_L.narrow {C n d : String} {A B : Nat → Prop} {U : State} {H : Heap} (h : vx_L C n d A U H) (hAB : ∀ q, B q → A q) : vx_L C n d B U H := by
  obtain ⟨c, k, i, f, a, cell, h1, h2, h3, h4, h5, h6, h7, h8, h9, h10⟩ := h
  exact ⟨c, k, i, f, a, cell, h1, h2, h3, h4, h5, h6, h7, h8, h9, fun z => h10 (hAB _ z)⟩
theorem vx_L.word {C n d : String} {A : Nat → Prop} {s : State} {args : Array Value} (h : vx_L C n d A s s.heap) : (Cond.laysStatic C n d).before args s = true := by
  obtain ⟨c, k, i, f, a, cell, h1, h2, h3, h4, h5, h6, h7, h8, h9, -⟩ := h
  show (Cond.laysStatic C n d).holds args s none s [] = true
  exact Cond.laysStatic_of h1 h2 h3 h4 h5 h6 h7 h8 h9
/-- .. and what it holds: null or some reference -/
def vx_Zq (C n d : String) (A : Nat → Prop) (U : State) (H : Heap) : Prop := va_Zq C n d A U H ∧ vx_L C n d A U H
theorem vx_Zq.moved {C n d : String} {A : Nat → Prop} {u U : State} {H : Heap} (hvm : u.vm.Alike U.vm) (h : vx_Zq C n d A u H) : vx_Zq C n d A U H := ⟨va_Zq.moved hvm h.1, vx_L.moved hvm h.2⟩
theorem vx_Zq.kept {C n d : String} {A : Nat → Prop} {U : State} {H H1 : Heap} (h : vx_Zq C n d A U H) (hq : ∀ a : Nat, a < H.size → ¬ A a → H1[a]? = H[a]?) : vx_Zq C n d A U H1 := ⟨va_Zq.kept h.1 hq, vx_L.kept h.2 hq⟩
theorem vx_Zq.narrow {C n d : String} {A B : Nat → Prop} {U : State} {H : Heap} (h : vx_Zq C n d A U H) (hAB : ∀ q, B q → A q) : vx_Zq C n d B U H := ⟨va_Zq.narrow h.1 hAB, vx_L.narrow h.2 hAB⟩
theorem vx_Zqof {args : Array Value} {s : State} {C n d : String} {A : Nat → Prop} (hl : (Cond.laysStatic C n d).before args s = true) (hini : (Cond.initialized C).before args s = true) (h : (Cond.isRef (.static C n d)).before args s = true) (hA : ∀ a : Nat, a < s.heap.size → ¬ A a) : vx_Zq C n d A s s.heap := by
  refine ⟨va_Zqof hl hini h hA, ?_⟩
  obtain ⟨c, k, i, f, a, cell, h1, h2, h3, h4, h5, h6, h7, h8, h9⟩ := Cond.laysStatic_spec hl
  exact ⟨c, k, i, f, a, cell, h1, h2, h3, h4, h5, h6, h7, h8, h9, hA a (Array.getElem?_eq_some_iff.mp h5).1⟩
theorem vx_isRef {C n d : String} {v : Value} {A : Nat → Prop} {s : State} {args : Array Value} (h : va_Z C n d v A s s.heap) (hv : v.isRef = true) : (Cond.isRef (.static C n d)).before args s = true := by
  obtain ⟨cf, kf, fi, f, a, cell, h1, h2, h3, h4, h5, h6, h7, -⟩ := h
  have he : (Term.static C n d).eval args s none [] s = some v := by
    simp [Term.eval, State.fieldNamed?, h1, h2, h4, h5, h6, h7]
  simp only [Cond.before, Cond.holds, Cond.value, he]
  cases v <;> simp_all [Value.isRef]
theorem vx_isRefq {C n d : String} {A : Nat → Prop} {s : State} {args : Array Value} (h : va_Zq C n d A s s.heap) : (Cond.isRef (.static C n d)).before args s = true := by
  rcases h with h | ⟨t, h⟩
  · exact vx_isRef h rfl
  · exact vx_isRef h rfl
/-- what the run fixes: the classes' numbers and slots, the array classes' numbers (0 int, 1 long, 2 boolean, 3 messages, 4 rows of ints), the address of NO_CHANGES -/
abbrev zG : Type := va_G × (Nat → ClassId) × Nat
abbrev zt (G : zG) : List (ClassId × FieldType) := [(G.2.1 0, .int), (G.2.1 1, .long), (G.2.1 2, .boolean), (G.2.1 3, .object "ChangeSync$Message"), (G.2.1 4, .array .int)]
/-- words that move by 'keepsFace' -/
def zF : List Cond := lw_tbl.filter (fun w => w.keepsFace && w.onTables)
/-- the class's texts -/
def zStr : List (Nat × String) := [(60, "no such replica"), (67, "a weight is 1 .. 400"), (76, "the replica is down, or has made 60 changes"), (83, "the replica is down"), (93, "no such message in flight"), (145, "no such message in flight, or no such w")]
def zE (G : zG) (B : Nat) (U : State) : Prop :=
  va_K G.1 zCl (zt G) U ∧ B ≤ U.heap.size ∧ va_Z "ChangeSync" "NO_CHANGES" "[I" (.ref G.2.2) (zw_A B) U U.heap ∧ va_T .int G.2.2 0 (fun _ => .int 0) (zw_A B) U U.heap ∧
  (∀ w ∈ zF, w.before #[] U = true) ∧ (Cond.arrayOver (.array .int)).before #[] U = true ∧ va_AO "ChangeSync$Message" U ∧
  vx_Zq "java/lang/Throwable" "UNASSIGNED_STACK" "[Ljava/lang/StackTraceElement;" (zw_A B) U U.heap ∧ vx_Zq "java/lang/Throwable" "SUPPRESSED_SENTINEL" "Ljava/util/List;" (zw_A B) U U.heap ∧
  (∀ k ∈ zStr, ∃ q, vk_R "ChangeSync" k.1 k.2 q U)
theorem zO_moved {u U : State} (hvm : u.vm.Alike U.vm) (h : (Cond.arrayOver (.array .int)).before #[] u = true) : (Cond.arrayOver (.array .int)).before #[] U = true := by
  obtain ⟨comp, c, k, h1, h2, h3, h4, h5⟩ := arrayOverA_spec h
  obtain ⟨k', hk', he⟩ := hvm.2.2 _ _ h3
  have hi : (U.vm.classes.findIdx? fun (x : Class) => match x.kind with | .array component _ => component == comp | _ => false) = some c := by
    rw [hvm.findIdx?_eq _ (fun _ => rfl)]; exact h2
  have e1 : U.vm.findClass (FieldType.array .int).toString = some comp := by rw [hvm.findClass]; exact h1
  have e2 : U.vm.findClass ("[" ++ (FieldType.array .int).toString) = some c := by rw [hvm.findClass]; exact h5
  have hkind : k'.kind = .array comp (.array .int) := by rw [he]; exact h4
  unfold Cond.before Cond.holds
  simp only [Cond.value]
  rw [e1, Option.bind_some]
  refine (congrArg (fun o : Option Nat => (o.bind (fun c => (U.vm.classes[c]?).map fun (k : Class) => match k.kind with | .array _ ty => decide (ty = FieldType.array .int) && decide (U.vm.findClass ("[" ++ (FieldType.array .int).toString) = some c) | _ => false) == some true)) hi).trans ?_
  simp [hk', hkind, e2]
theorem zE_moved {G : zG} {B : Nat} {s U : State} {locs : List Loc} (h : zE G B s) (hW : s.WarmedH U.vm) (hS : va_S (zw_A B) s.heap U.heap locs) : zE G B U := by
  obtain ⟨h1, h2, h3, h4, h5, h6, h7, h8, h9, h10⟩ := h
  have hal := hW.alike
  refine ⟨va_K.moved hal h1, Nat.le_trans h2 hS.1, va_Z.moved hal (h3.kept hS.2.1), va_T.moved hal (h4.kept hS.2.1), fun w hw => ?_, zO_moved hal h6, va_AO.moved hal h7, vx_Zq.moved hal (h8.kept hS.2.1), vx_Zq.moved hal (h9.kept hS.2.1), fun k hk => by obtain ⟨q, hq⟩ := h10 k hk; exact ⟨q, vk_R.warm hW hq⟩⟩
  have hw2 := (List.mem_filter.mp hw).2
  rw [Bool.and_eq_true] at hw2
  exact va_tabs hw2.2 (rfl : (s.setVm U.vm).vm = U.vm) (Cond.before_shiftedFace (args := #[]) (State.Shifted.of_warmed hW) w hw2.1 (h5 w hw))
theorem zE_blind {G : zG} {B : Nat} (U : State) (g : JFrame) (mk : MethodId) (a : Array Value) (h : zE G B U) : zE G B (U.calling g mk a) := zE_moved (U := U.calling g mk a) (locs := []) h (State.WarmedH.refl U) va_S.rf
theorem zE_at {G : zG} {B : Nat} {s : State} {H : Heap} {locs : List Loc} (h : zE G B s) (hS : va_S (zw_A B) s.heap H locs) (U : State) (hU : U.heap = H) (hW : s.WarmedH U.vm) : zE G B U := zE_moved h hW (by rw [hU]; exact hS)
theorem zt_goodT {ws : List Cond} (h : ∀ w ∈ ws, w ∈ zT) : GoodIn zT ws := fun w hw => ⟨h w hw, (zt_good (h w hw)).2⟩
theorem zt_V {own C : String} {index : Nat} {y : MethodName} {bytes : ByteArray} {maxL : Nat} {ret : Option FieldType} (h1 : Cond.methodLink own index y ∈ zT) (h2 : Cond.instanceMethod y ∈ zT) (h3 : Cond.selects C y y ∈ zT) (h4 : Cond.initialized C ∈ zT) (h5 : Cond.code y bytes maxL ret ∈ zT) : GoodIn zT (wsV own index C y (Cond.code y bytes maxL ret :: zT)) := by
  refine zt_goodT (fun w hw => ?_)
  unfold wsV at hw
  rcases List.mem_append.mp hw with hw | hw
  · simp only [List.mem_cons, List.not_mem_nil, or_false] at hw
    rcases hw with rfl | rfl | rfl | rfl <;> assumption
  · rcases List.mem_cons.mp hw with rfl | hw
    · exact h5
    · exact hw
theorem zt_S {own : String} {index : Nat} {y : MethodName} {bytes : ByteArray} {maxL : Nat} {ret : Option FieldType} (h1 : Cond.methodLink own index y ∈ zT) (h2 : Cond.static y ∈ zT) (h4 : Cond.initialized own ∈ zT) (h5 : Cond.code y bytes maxL ret ∈ zT) : GoodIn zT (wsS own index y (Cond.code y bytes maxL ret :: zT)) := by
  refine zt_goodT (fun w hw => ?_)
  unfold wsS at hw
  rcases List.mem_append.mp hw with hw | hw
  · simp only [List.mem_cons, List.not_mem_nil, or_false] at hw
    rcases hw with rfl | rfl | rfl <;> assumption
  · rcases List.mem_cons.mp hw with rfl | hw
    · exact h5
    · exact hw
theorem zt_I {y : MethodName} {bytes : ByteArray} {maxL : Nat} {ret : Option FieldType} (h5 : Cond.code y bytes maxL ret ∈ zT) : GoodIn zT (Cond.code y bytes maxL ret :: zT) := zt_goodT (fun w hw => (List.mem_cons.mp hw).elim (fun h => by rw [h]; exact h5) id)
/-- a reader's and a writer's start -/
abbrev zp (G : zG) (B : Nat) (M : zw_M) (av : List Value) : Array Value → State → Prop := zr_p (zE G B) G.1 zCl B M av
abbrev zq (G : zG) (B : Nat) (M : zw_M) (sz : Nat) (av : List Value) : Array Value → State → Prop := zr_q (zE G B) G.1 zCl B M sz av
end
section
/-! PURE ROWS. The family uN is a starting text of the kit's (kit/laws/BITS.to-paste) -/
def uN (x : Int64) : Nat := x.toUInt64.toNat
theorem uN_lt (x : Int64) : uN x < 18446744073709551616 := x.toUInt64.toNat_lt
theorem uN_inj {x y : Int64} (h : uN x = uN y) : x = y := congrArg UInt64.toInt64 (UInt64.toNat_inj.mp h)
theorem uN_add (x y : Int64) : uN (x + y) = (uN x + uN y) % 18446744073709551616 := by
  show (x.toUInt64 + y.toUInt64).toNat = _
  exact UInt64.toNat_add _ _
theorem uN_mul (x y : Int64) : uN (x * y) = (uN x * uN y) % 18446744073709551616 := by
  show (x.toUInt64 * y.toUInt64).toNat = _
  exact UInt64.toNat_mul _ _
theorem uN_shl (x : Int64) : uN (x <<< ((1 : Int32).toInt64 &&& 63)) = (2 * uN x) % 18446744073709551616 := by
  have h : (((1 : Int32).toInt64 &&& 63).toBitVec.smod 64).toNat = 1 := by decide
  show (x.toBitVec <<< (((1 : Int32).toInt64 &&& 63).toBitVec.smod 64).toNat).toNat = _
  rw [h, BitVec.toNat_shiftLeft, Nat.shiftLeft_eq, Nat.mul_comm]
  rfl
theorem uN_shr (x : Int64) (s : UInt64) : uN (x.toUInt64 >>> s).toInt64 = uN x / 2 ^ (s.toNat % 64) := by
  show (x.toUInt64 >>> s).toNat = _
  rw [UInt64.toNat_shiftRight, Nat.shiftRight_eq_div_pow]
  rfl
theorem uN_sk (x : Int64) {k : Nat} (hk : k < 64) : uN (x.toUInt64 >>> ((nI k).toInt64.toUInt64 &&& Int64.toUInt64 63)).toInt64 = uN x / 2 ^ k := by
  have h : ((nI k).toInt64.toUInt64 &&& Int64.toUInt64 63).toNat % 64 = k := by
    rw [nI_l (by omega), UInt64.toNat_and]
    have e : (lN k).toUInt64.toNat = k % 2 ^ 64 := rfl
    have e2 : (Int64.toUInt64 63).toNat = 2 ^ 6 - 1 := by decide
    rw [e, e2, Nat.and_two_pow_sub_one_eq_mod]
    omega
  rw [uN_shr, h]
theorem uN_lN {n : Nat} (h : n < 18446744073709551616) : uN (lN n) = n := by
  show n % 2 ^ 64 = n
  exact Nat.mod_eq_of_lt h
theorem lN_uN (x : Int64) : lN (uN x) = x := uN_inj (uN_lN (uN_lt x))
/-- byte a of a long -/
def zb (x : Int64) (a : Nat) : Nat := uN x / 2 ^ (8 * a) % 256
theorem zb_lt (x : Int64) (a : Nat) : zb x a < 256 := Nat.mod_lt _ (by decide)
theorem zb_cnt (x : Int64) {a : Nat} (ha : a < 8) : ((x.toUInt64 >>> ((nI (8 * a)).toInt64.toUInt64 &&& Int64.toUInt64 63)).toInt64.toInt32 &&& nI 255) = nI (zb x a) := by
  have h := uN_sk x (k := 8 * a) (by omega)
  generalize (x.toUInt64 >>> ((nI (8 * a)).toInt64.toUInt64 &&& Int64.toUInt64 63)).toInt64 = y at h ⊢
  rw [← lN_uN y, lN_i, pk_and _ 8 (by decide), h]
  congr 1
  show (uN x / 2 ^ (8 * a)) % 2 ^ 32 % 2 ^ 8 = _
  unfold zb
  omega
theorem zb_8 {a : Nat} (h : a < 8) : a = 0 ∨ a = 1 ∨ a = 2 ∨ a = 3 ∨ a = 4 ∨ a = 5 ∨ a = 6 ∨ a = 7 := by omega
theorem zb_one {a : Nat} (ha : a < 8) : (1 : Int64) <<< ((nI (8 * a)).toInt64 &&& 63) = lN (256 ^ a) := by
  rcases zb_8 ha with rfl | rfl | rfl | rfl | rfl | rfl | rfl | rfl <;> decide
/-- how many changes of actor a stand in a log -/
def zcnt (a : Nat) (L : List Nat) : Nat := (L.filter (fun c => c % 8 == a)).length
theorem zcnt_nil (a : Nat) : zcnt a [] = 0 := rfl
theorem zcnt_app (a c : Nat) (L : List Nat) : zcnt a (L ++ [c]) = zcnt a L + if c % 8 = a then 1 else 0 := by
  unfold zcnt
  rw [List.filter_append, List.length_append]
  by_cases h : c % 8 = a
  · simp [h]
  · simp [h]
theorem zcnt_le (a : Nat) (L : List Nat) : zcnt a L ≤ L.length := List.length_filter_le _ _
/-- eight numbers as one -/
def zp8 (c : Nat → Nat) : Nat := c 0 + 256 * (c 1 + 256 * (c 2 + 256 * (c 3 + 256 * (c 4 + 256 * (c 5 + 256 * (c 6 + 256 * c 7))))))
theorem zp8_lt {c : Nat → Nat} (h : ∀ b, b < 8 → c b < 256) : zp8 c < 18446744073709551616 := by
  have h0 := h 0 (by decide); have h1 := h 1 (by decide); have h2 := h 2 (by decide); have h3 := h 3 (by decide); have h4 := h 4 (by decide); have h5 := h 5 (by decide); have h6 := h 6 (by decide); have h7 := h 7 (by decide)
  unfold zp8
  omega
theorem zp8_at {c : Nat → Nat} (h : ∀ b, b < 8 → c b < 256) {a : Nat} (ha : a < 8) : zp8 c / 2 ^ (8 * a) % 256 = c a := by
  have h0 := h 0 (by decide); have h1 := h 1 (by decide); have h2 := h 2 (by decide); have h3 := h 3 (by decide); have h4 := h 4 (by decide); have h5 := h 5 (by decide); have h6 := h 6 (by decide); have h7 := h 7 (by decide)
  unfold zp8
  rcases zb_8 ha with rfl | rfl | rfl | rfl | rfl | rfl | rfl | rfl <;> simp <;> omega
theorem zp8_inc (c : Nat → Nat) {a : Nat} (ha : a < 8) : zp8 (fun b => c b + if a = b then 1 else 0) = zp8 c + 256 ^ a := by
  unfold zp8
  rcases zb_8 ha with rfl | rfl | rfl | rfl | rfl | rfl | rfl | rfl <;> simp <;> omega
/-- a log's clock -/
def zck (L : List Nat) : Int64 := lN (zp8 (fun a => zcnt a L))
theorem zck_app (L : List Nat) (c : Nat) : zck (L ++ [c]) = zck L + lN (256 ^ (c % 8)) := by
  unfold zck
  rw [lN_add, ← zp8_inc _ (Nat.mod_lt c (by decide : 0 < 8))]
  congr 2
  funext b
  exact zcnt_app b c L
theorem zck_at {L : List Nat} (h : ∀ b, b < 8 → zcnt b L < 256) {a : Nat} (ha : a < 8) : zb (zck L) a = zcnt a L := by
  unfold zb zck
  rw [uN_lN (zp8_lt h), zp8_at h ha]
end
section
/-! LOOPS: a counter that goes up to n; what is fixed is fixed -/
theorem zl_up {Wg : Array Slot → Prop} (I : Nat → Array Slot → Prop) (n : Nat) (hs : ∀ i : Nat, i ≤ n → ∀ ls : Array Slot, I i ls → (i < n → ∀ ls' : Array Slot, I (i + 1) ls' → Wg ls') → Wg ls) {i : Nat} {ls : Array Slot} (hi : i ≤ n) (h : I i ls) : Wg ls := by
  obtain ⟨k, hk⟩ : ∃ k, i + k = n := ⟨n - i, by omega⟩
  induction k generalizing i ls with
  | zero => exact hs i hi ls h (fun q => absurd q (by omega))
  | succ k ih => exact hs i hi ls h (fun q ls' h' => ih (by omega) h' (by omega))
/-- the same where the heap moves -/
theorem zl_upH {Wg : Array Slot → Heap → List Loc → Prop} (I : Nat → Array Slot → Heap → List Loc → Prop) (n : Nat) (hs : ∀ i : Nat, i ≤ n → ∀ (ls : Array Slot) (H : Heap) (locs : List Loc), I i ls H locs → (i < n → ∀ (ls' : Array Slot) (H' : Heap) (locs' : List Loc), I (i + 1) ls' H' locs' → Wg ls' H' locs') → Wg ls H locs) {i : Nat} {ls : Array Slot} {H : Heap} {locs : List Loc} (hi : i ≤ n) (h : I i ls H locs) : Wg ls H locs := by
  obtain ⟨k, hk⟩ : ∃ k, i + k = n := ⟨n - i, by omega⟩
  induction k generalizing i ls H locs with
  | zero => exact hs i hi ls H locs h (fun q => absurd q (by omega))
  | succ k ih => exact hs i hi ls H locs h (fun q ls' H' locs' h' => ih (by omega) h' (by omega))
/-- the same where cells and slots are made too -/
theorem zl_upC {Wg : Array Slot → Heap → List Loc → Nat → Nat → Prop} (I : Nat → Array Slot → Heap → List Loc → Nat → Nat → Prop) (n : Nat) (hs : ∀ i : Nat, i ≤ n → ∀ (ls : Array Slot) (H : Heap) (locs : List Loc) (ce sl : Nat), I i ls H locs ce sl → (i < n → ∀ (ls' : Array Slot) (H' : Heap) (locs' : List Loc) (ce' sl' : Nat), I (i + 1) ls' H' locs' ce' sl' → Wg ls' H' locs' ce' sl') → Wg ls H locs ce sl) {i : Nat} {ls : Array Slot} {H : Heap} {locs : List Loc} {ce sl : Nat} (hi : i ≤ n) (h : I i ls H locs ce sl) : Wg ls H locs ce sl := by
  obtain ⟨k, hk⟩ : ∃ k, i + k = n := ⟨n - i, by omega⟩
  induction k generalizing i ls H locs ce sl with
  | zero => exact hs i hi ls H locs ce sl h (fun q => absurd q (by omega))
  | succ k ih => exact hs i hi ls H locs ce sl h (fun q ls' H' locs' ce' sl' h' => ih (by omega) h' (by omega))
def zsum (f : Nat → Nat) : Nat → Nat
  | 0 => 0
  | n + 1 => zsum f n + f n
theorem zsum_congr {f g : Nat → Nat} : ∀ {n : Nat}, (∀ i, i < n → f i = g i) → zsum f n = zsum g n
  | 0, _ => rfl
  | n + 1, h => by
    show zsum f n + f n = zsum g n + g n
    rw [zsum_congr (fun i hi => h i (by omega)), h n (by omega)]
theorem zsum_le {f : Nat → Nat} {b : Nat} : ∀ {n : Nat}, (∀ i, i < n → f i ≤ b) → zsum f n ≤ n * b
  | 0, _ => Nat.zero_le _
  | n + 1, h => by
    have h1 := zsum_le (n := n) (fun i hi => h i (by omega))
    have h2 := h n (by omega)
    show zsum f n + f n ≤ (n + 1) * b
    rw [Nat.succ_mul]
    omega
end
section
/-! THE CLASS: its object, its readers -/
/-- the object's fields: n replicas, messages of mb bytes at most; its arrays lie from z on -/
def zoC (n mb z nf se lo go pa : Nat) : List Value := [.int (nI n), .int (nI mb), .ref z, .ref (z + 1), .ref (z + 2), .ref (z + 3 + n), .ref (z + 4 + n), .ref (z + 5 + 2 * n), .int (nI nf), .ref (z + 6 + 2 * n), .int (nI se), .int (nI lo), .int (nI go), .int (nI pa)]
/-- a message's fields -/
def zoM (num snd rcv byt : Int32) (told : Int64) (ch : Nat) : List Value := [.int num, .int snd, .int rcv, .int byt, .long told, .ref ch]
set_option maxHeartbeats 4000000 in
set_option maxRecDepth 100000 in
/-- isReplica(j), j < n -/
theorem kC_isReplica_in (l : Launch) (G : zG) (B : Nat) (M : zw_M) (x n mb z nf se lo go pa : Nat) (hn : n ≤ 8) (hx0 : M x = some (.inr (1, zoC n mb z nf se lo go pa))) (j : Nat) (hj : j < n) : Met l yC_isReplica (Cond.code yC_isReplica bC_isReplica 2 (some .boolean) :: zT) { frames := 0, cells := 0, slots := 0, locals := 0 } (zp G B M [.ref x, .int (nI j)]) (k2_QcV (.int (nI 1))) 0 0 (fun _ => False) := by
  refine Met.ofW (cc := bC_isReplica) (maxL := 2) (ret := (some .boolean)) (by decide) rfl ?_
  intro p e s m args below meth c s₁ B0 hml hv
  obtain ⟨rfl, hE, hH⟩ := hv
  have hx := B0.exec
  have hb := B0.bytes
  have hr := B0.returns
  have hlocks := B0.notSynchronized
  have hz : ∀ w ∈ zT, w.before _ s = true := fun w h => atoms_spec (ws := Cond.code yC_isReplica bC_isReplica 2 (some .boolean) :: zT) B0.pre w (List.mem_cons_of_mem _ h)
  have hown : s.vm.findClass RC = some m.cls := findClass_of_methodNamed B0.named
  have hK := hE.1
  have hl := lv_entry ([.ref x, .int (nI j)]) (n := 2) (Nat.le_of_ble_eq_true rfl)
  rw [lg_entry_eq]
  generalize (lg_sl ([.ref x, .int (nI j)]) ++ List.replicate (2 - (lg_sl ([.ref x, .int (nI j)])).length) Slot.unset).toArray = ls at hl ⊢
  have hl : lv_has ls 2 [(0, .ref x), (1, .int (nI j))] := hl
  have hS : va_S (zw_A B) s.heap s.heap [] := va_S.rf
  refine lv_iload_n hx hb dC_isReplica_0 rfl (lv_at hl 1 rfl) ?_
  refine lv_if_lt (tgt := 16) hx hb dC_isReplica_1 (by decide) (fun c => ?_) (fun c => ?_)
  · exact absurd c (nI_pos (by omega))
  · refine lv_iload_n hx hb dC_isReplica_4 rfl (lv_at hl 1 rfl) ?_
    refine lv_aload_n hx hb dC_isReplica_5 rfl (lv_at hl 0 rfl) ?_
    refine va_get (D := G.1) (ci := 1) (v := .int (nI n)) (C := RC) (T := TC) (N := 14) hx hb hz iC hown hK (hH.one hx0) 0 rfl rfl 0 (by decide) (hz _ zm_31) (fun _ h9 => h9) rfl dC_isReplica_6 ?_
    refine zc_ge (tgt := 16) hx hb dC_isReplica_9 (by decide) (by omega) (by omega) (fun c => ?_) (fun c => ?_)
    · exact absurd c (by omega)
    · refine lv_iconst (v := nI 1) hx hb dC_isReplica_12 (by decide) ?_
      refine lv_goto (tgt := 17) hx hb dC_isReplica_13 (by decide) ?_
      exact W.zret (v := (nI 1)) (ty := .boolean) hx hb hr rfl (fun t ht hW => ⟨rfl, ht⟩) (fun q h => by cases h) dC_isReplica_17

set_option maxHeartbeats 4000000 in
set_option maxRecDepth 100000 in
/-- isReplica(a), no such -/
theorem kC_isReplica_out (l : Launch) (G : zG) (B : Nat) (M : zw_M) (x n mb z nf se lo go pa : Nat) (hn : n ≤ 8) (hx0 : M x = some (.inr (1, zoC n mb z nf se lo go pa))) (a : Int32) (ha : a < 0 ∨ nI n ≤ a) : Met l yC_isReplica (Cond.code yC_isReplica bC_isReplica 2 (some .boolean) :: zT) { frames := 0, cells := 0, slots := 0, locals := 0 } (zp G B M [.ref x, .int a]) (k2_QcV (.int (nI 0))) 0 0 (fun _ => False) := by
  refine Met.ofW (cc := bC_isReplica) (maxL := 2) (ret := (some .boolean)) (by decide) rfl ?_
  intro p e s m args below meth c s₁ B0 hml hv
  obtain ⟨rfl, hE, hH⟩ := hv
  have hx := B0.exec
  have hb := B0.bytes
  have hr := B0.returns
  have hlocks := B0.notSynchronized
  have hz : ∀ w ∈ zT, w.before _ s = true := fun w h => atoms_spec (ws := Cond.code yC_isReplica bC_isReplica 2 (some .boolean) :: zT) B0.pre w (List.mem_cons_of_mem _ h)
  have hown : s.vm.findClass RC = some m.cls := findClass_of_methodNamed B0.named
  have hK := hE.1
  have hl := lv_entry ([.ref x, .int a]) (n := 2) (Nat.le_of_ble_eq_true rfl)
  rw [lg_entry_eq]
  generalize (lg_sl ([.ref x, .int a]) ++ List.replicate (2 - (lg_sl ([.ref x, .int a])).length) Slot.unset).toArray = ls at hl ⊢
  have hl : lv_has ls 2 [(0, .ref x), (1, .int a)] := hl
  have hS : va_S (zw_A B) s.heap s.heap [] := va_S.rf
  refine lv_iload_n hx hb dC_isReplica_0 rfl (lv_at hl 1 rfl) ?_
  refine lv_if_lt (tgt := 16) hx hb dC_isReplica_1 (by decide) (fun c => ?_) (fun c => ?_)
  · refine lv_iconst (v := nI 0) hx hb dC_isReplica_16 (by decide) ?_
    exact W.zret (v := (nI 0)) (ty := .boolean) hx hb hr rfl (fun t ht hW => ⟨rfl, ht⟩) (fun q h => by cases h) dC_isReplica_17
  · refine lv_iload_n hx hb dC_isReplica_4 rfl (lv_at hl 1 rfl) ?_
    refine lv_aload_n hx hb dC_isReplica_5 rfl (lv_at hl 0 rfl) ?_
    refine va_get (D := G.1) (ci := 1) (v := .int (nI n)) (C := RC) (T := TC) (N := 14) hx hb hz iC hown hK (hH.one hx0) 0 rfl rfl 0 (by decide) (hz _ zm_31) (fun _ h9 => h9) rfl dC_isReplica_6 ?_
    refine lv_icmp_ge (tgt := 16) hx hb dC_isReplica_9 (by decide) (fun c2 => ?_) (fun c2 => ?_)
    · refine lv_iconst (v := nI 0) hx hb dC_isReplica_16 (by decide) ?_
      exact W.zret (v := (nI 0)) (ty := .boolean) hx hb hr rfl (fun t ht hW => ⟨rfl, ht⟩) (fun q h => by cases h) dC_isReplica_17
    · exact absurd (ha.resolve_left c) c2

set_option maxHeartbeats 4000000 in
set_option maxRecDepth 100000 in
theorem kC_actorOf (l : Launch) (G : zG) (B : Nat) (M : zw_M) (c0 : Nat) (hc : c0 < 2 ^ 31) : Met l yC_actorOf (Cond.code yC_actorOf bC_actorOf 1 (some .int) :: zT) { frames := 0, cells := 0, slots := 0, locals := 0 } (zp G B M [.int (nI c0)]) (k2_QcV (.int (nI (c0 % 8)))) 0 0 (fun _ => False) := by
  refine Met.ofW (cc := bC_actorOf) (maxL := 1) (ret := (some .int)) (by decide) rfl ?_
  intro p e s m args below meth c s₁ B0 hml hv
  obtain ⟨rfl, hE, hH⟩ := hv
  have hx := B0.exec
  have hb := B0.bytes
  have hr := B0.returns
  have hlocks := B0.notSynchronized
  have hz : ∀ w ∈ zT, w.before _ s = true := fun w h => atoms_spec (ws := Cond.code yC_actorOf bC_actorOf 1 (some .int) :: zT) B0.pre w (List.mem_cons_of_mem _ h)
  have hown : s.vm.findClass RC = some m.cls := findClass_of_methodNamed B0.named
  have hK := hE.1
  have hl := lv_entry ([.int (nI c0)]) (n := 1) (Nat.le_of_ble_eq_true rfl)
  rw [lg_entry_eq]
  generalize (lg_sl ([.int (nI c0)]) ++ List.replicate (1 - (lg_sl ([.int (nI c0)])).length) Slot.unset).toArray = ls at hl ⊢
  have hl : lv_has ls 1 [(0, .int (nI c0))] := hl
  have hS : va_S (zw_A B) s.heap s.heap [] := va_S.rf
  refine lv_iload_n hx hb dC_actorOf_0 rfl (lv_at hl 0 rfl) ?_
  refine lv_bipush (v := nI 8) hx hb dC_actorOf_1 (by decide) ?_
  refine lv_irem hx hb dC_actorOf_3 (nI_ne0 (by decide) (by decide)) ?_
  refine zw_ti (pk_rem hc (by decide) (by decide)) ?_
  exact W.iret (v := (nI (c0 % 8))) hx hb hr (fun t ht hW => ⟨rfl, ht⟩) (fun q h => by cases h) dC_actorOf_4

set_option maxHeartbeats 4000000 in
set_option maxRecDepth 100000 in
theorem kC_seqOf (l : Launch) (G : zG) (B : Nat) (M : zw_M) (c0 : Nat) (hc : c0 < 2 ^ 31) : Met l yC_seqOf (Cond.code yC_seqOf bC_seqOf 1 (some .int) :: zT) { frames := 0, cells := 0, slots := 0, locals := 0 } (zp G B M [.int (nI c0)]) (k2_QcV (.int (nI (c0 / 8)))) 0 0 (fun _ => False) := by
  refine Met.ofW (cc := bC_seqOf) (maxL := 1) (ret := (some .int)) (by decide) rfl ?_
  intro p e s m args below meth c s₁ B0 hml hv
  obtain ⟨rfl, hE, hH⟩ := hv
  have hx := B0.exec
  have hb := B0.bytes
  have hr := B0.returns
  have hlocks := B0.notSynchronized
  have hz : ∀ w ∈ zT, w.before _ s = true := fun w h => atoms_spec (ws := Cond.code yC_seqOf bC_seqOf 1 (some .int) :: zT) B0.pre w (List.mem_cons_of_mem _ h)
  have hown : s.vm.findClass RC = some m.cls := findClass_of_methodNamed B0.named
  have hK := hE.1
  have hl := lv_entry ([.int (nI c0)]) (n := 1) (Nat.le_of_ble_eq_true rfl)
  rw [lg_entry_eq]
  generalize (lg_sl ([.int (nI c0)]) ++ List.replicate (1 - (lg_sl ([.int (nI c0)])).length) Slot.unset).toArray = ls at hl ⊢
  have hl : lv_has ls 1 [(0, .int (nI c0))] := hl
  have hS : va_S (zw_A B) s.heap s.heap [] := va_S.rf
  refine lv_iload_n hx hb dC_seqOf_0 rfl (lv_at hl 0 rfl) ?_
  refine lv_bipush (v := nI 8) hx hb dC_seqOf_1 (by decide) ?_
  refine lv_idiv hx hb dC_seqOf_3 (nI_ne0 (by decide) (by decide)) ?_
  refine zw_ti (pk_div hc (by decide) (by decide)) ?_
  exact W.iret (v := (nI (c0 / 8))) hx hb hr (fun t ht hW => ⟨rfl, ht⟩) (fun q h => by cases h) dC_seqOf_4

set_option maxHeartbeats 4000000 in
set_option maxRecDepth 100000 in
theorem kC_countIn (l : Launch) (G : zG) (B : Nat) (M : zw_M) (k : Int64) (a : Nat) (ha : a < 8) : Met l yC_countIn (Cond.code yC_countIn bC_countIn 3 (some .int) :: zT) { frames := 0, cells := 0, slots := 0, locals := 0 } (zp G B M [.long k, .int (nI a)]) (k2_QcV (.int (nI (zb k a)))) 0 0 (fun _ => False) := by
  refine Met.ofW (cc := bC_countIn) (maxL := 3) (ret := (some .int)) (by decide) rfl ?_
  intro p e s m args below meth c s₁ B0 hml hv
  obtain ⟨rfl, hE, hH⟩ := hv
  have hx := B0.exec
  have hb := B0.bytes
  have hr := B0.returns
  have hlocks := B0.notSynchronized
  have hz : ∀ w ∈ zT, w.before _ s = true := fun w h => atoms_spec (ws := Cond.code yC_countIn bC_countIn 3 (some .int) :: zT) B0.pre w (List.mem_cons_of_mem _ h)
  have hown : s.vm.findClass RC = some m.cls := findClass_of_methodNamed B0.named
  have hK := hE.1
  have hl := lv_entry ([.long k, .int (nI a)]) (n := 3) (Nat.le_of_ble_eq_true rfl)
  rw [lg_entry_eq]
  generalize (lg_sl ([.long k, .int (nI a)]) ++ List.replicate (3 - (lg_sl ([.long k, .int (nI a)])).length) Slot.unset).toArray = ls at hl ⊢
  have hl : lv_has ls 3 [(0, .long k), (2, .int (nI a))] := hl
  have hS : va_S (zw_A B) s.heap s.heap [] := va_S.rf
  refine lv_lload_n hx hb dC_countIn_0 rfl (lv_at hl 0 rfl) ?_
  refine lv_bipush (v := nI 8) hx hb dC_countIn_1 (by decide) ?_
  refine lv_iload_n hx hb dC_countIn_3 rfl (lv_at hl 1 rfl) ?_
  refine lv_imul hx hb dC_countIn_4 ?_
  refine zw_ti (pk_mul _ _) ?_
  refine lv_lushr hx hb dC_countIn_5 rfl ?_
  refine lv_l2i hx hb dC_countIn_6 rfl ?_
  refine lv_sipush (v := nI 255) hx hb dC_countIn_7 (by decide) ?_
  refine lv_iand hx hb dC_countIn_10 ?_
  refine zw_ti (zb_cnt k ha) ?_
  exact W.iret (v := (nI (zb k a))) hx hb hr (fun t ht hW => ⟨rfl, ht⟩) (fun q h => by cases h) dC_countIn_11

set_option maxHeartbeats 4000000 in
set_option maxRecDepth 100000 in
theorem kC_madeBy (l : Launch) (G : zG) (B : Nat) (M : zw_M) (x n mb z nf se lo go pa : Nat) (hn : n ≤ 8) (hx0 : M x = some (.inr (1, zoC n mb z nf se lo go pa))) (ck : Nat → Int64) (hck : M (z + 1) = some (.inl (G.2.1 1, n, .inr (.inl ck)))) (j : Nat) (hj : j < n) : Met l yC_madeBy (Cond.code yC_madeBy bC_madeBy 2 (some .int) :: zT) { frames := 1, cells := 0, slots := 0, locals := 22 } (zp G B M [.ref x, .int (nI j)]) (k2_QcV (.int (nI (zb (ck j) j)))) 0 0 (fun _ => False) := by
  refine Met.ofW (cc := bC_madeBy) (maxL := 2) (ret := (some .int)) (by decide) rfl ?_
  intro p e s m args below meth c s₁ B0 hml hv
  obtain ⟨rfl, hE, hH⟩ := hv
  have hx := B0.exec
  have hb := B0.bytes
  have hr := B0.returns
  have hlocks := B0.notSynchronized
  have hz : ∀ w ∈ zT, w.before _ s = true := fun w h => atoms_spec (ws := Cond.code yC_madeBy bC_madeBy 2 (some .int) :: zT) B0.pre w (List.mem_cons_of_mem _ h)
  have hown : s.vm.findClass RC = some m.cls := findClass_of_methodNamed B0.named
  have hK := hE.1
  have hl := lv_entry ([.ref x, .int (nI j)]) (n := 2) (Nat.le_of_ble_eq_true rfl)
  rw [lg_entry_eq]
  generalize (lg_sl ([.ref x, .int (nI j)]) ++ List.replicate (2 - (lg_sl ([.ref x, .int (nI j)])).length) Slot.unset).toArray = ls at hl ⊢
  have hl : lv_has ls 2 [(0, .ref x), (1, .int (nI j))] := hl
  have hS : va_S (zw_A B) s.heap s.heap [] := va_S.rf
  refine lv_aload_n hx hb dC_madeBy_0 rfl (lv_at hl 0 rfl) ?_
  refine va_get (D := G.1) (ci := 1) (v := .ref (z + 1)) (C := RC) (T := TC) (N := 14) hx hb hz iC hown hK (hH.one hx0) 0 rfl rfl 3 (by decide) (hz _ zm_34) (fun _ h9 => h9) rfl dC_madeBy_1 ?_
  refine lv_iload_n hx hb dC_madeBy_4 rfl (lv_at hl 1 rfl) ?_
  refine zw_lald hx hb hK hH 1 hck rfl (j) rfl (hj) (by omega) dC_madeBy_5 ?_
  refine lv_iload_n hx hb dC_madeBy_6 rfl (lv_at hl 1 rfl) ?_
  refine zr_S (As := [.long (ck j), .int (nI j)]) (rest := []) ⟨hx, hb, hml, hown, hz⟩ (kC_countIn l G B M (ck j) j (by omega)) (zt_S zm_118 zm_119 zm_1 zm_120) rfl rfl rfl (show _ ∧ _ ∧ _ ∧ _ = some 2 from by decide +kernel) ⟨Nat.le_of_ble_eq_true rfl, Nat.le_of_ble_eq_true rfl⟩ zE_blind (zE_at hE hS) hH hl.1 rfl (Nat.le_of_ble_eq_true rfl) dC_madeBy_7 ⟨Nat.zero_le _, Nat.zero_le _⟩ ?_
  exact W.iret (v := (nI (zb (ck j) j))) hx hb hr (fun t ht hW => ⟨rfl, ht⟩) (fun q h => by cases h) dC_madeBy_10

set_option maxHeartbeats 4000000 in
set_option maxRecDepth 100000 in
theorem kC_messageAt_in (l : Launch) (G : zG) (B : Nat) (M : zw_M) (x n mb z nf se lo go pa : Nat) (hn : n ≤ 8) (hx0 : M x = some (.inr (1, zoC n mb z nf se lo go pa))) (ff : Nat → Option Nat) (hfl : M (z + 5 + 2 * n) = some (.inl (G.2.1 3, 120, .inr (.inr (.inr (.inr ff)))))) (hnf : nf ≤ 120) (j q : Nat) (hj : j < nf) (hq : ff j = some q) : Met l yC_messageAt (Cond.code yC_messageAt bC_messageAt 2 (some (.object "ChangeSync$Message")) :: zT) { frames := 0, cells := 0, slots := 0, locals := 0 } (zp G B M [.ref x, .int (nI j)]) (k2_QcV (.ref q)) 0 0 (fun _ => False) := by
  refine Met.ofW (cc := bC_messageAt) (maxL := 2) (ret := (some (.object "ChangeSync$Message"))) (by decide) rfl ?_
  intro p e s m args below meth c s₁ B0 hml hv
  obtain ⟨rfl, hE, hH⟩ := hv
  have hx := B0.exec
  have hb := B0.bytes
  have hr := B0.returns
  have hlocks := B0.notSynchronized
  have hz : ∀ w ∈ zT, w.before _ s = true := fun w h => atoms_spec (ws := Cond.code yC_messageAt bC_messageAt 2 (some (.object "ChangeSync$Message")) :: zT) B0.pre w (List.mem_cons_of_mem _ h)
  have hown : s.vm.findClass RC = some m.cls := findClass_of_methodNamed B0.named
  have hK := hE.1
  have hl := lv_entry ([.ref x, .int (nI j)]) (n := 2) (Nat.le_of_ble_eq_true rfl)
  rw [lg_entry_eq]
  generalize (lg_sl ([.ref x, .int (nI j)]) ++ List.replicate (2 - (lg_sl ([.ref x, .int (nI j)])).length) Slot.unset).toArray = ls at hl ⊢
  have hl : lv_has ls 2 [(0, .ref x), (1, .int (nI j))] := hl
  have hS : va_S (zw_A B) s.heap s.heap [] := va_S.rf
  refine lv_iload_n hx hb dC_messageAt_0 rfl (lv_at hl 1 rfl) ?_
  refine lv_if_lt (tgt := 21) hx hb dC_messageAt_1 (by decide) (fun c => ?_) (fun c => ?_)
  · exact absurd c (nI_pos (by omega))
  · refine lv_iload_n hx hb dC_messageAt_4 rfl (lv_at hl 1 rfl) ?_
    refine lv_aload_n hx hb dC_messageAt_5 rfl (lv_at hl 0 rfl) ?_
    refine va_get (D := G.1) (ci := 1) (v := .int (nI nf)) (C := RC) (T := TC) (N := 14) hx hb hz iC hown hK (hH.one hx0) 0 rfl rfl 8 (by decide) (hz _ zm_39) (fun _ h9 => h9) rfl dC_messageAt_6 ?_
    refine zc_ge (tgt := 21) hx hb dC_messageAt_9 (by decide) (by omega) (by omega) (fun c => ?_) (fun c => ?_)
    · exact absurd c (by omega)
    · refine lv_aload_n hx hb dC_messageAt_12 rfl (lv_at hl 0 rfl) ?_
      refine va_get (D := G.1) (ci := 1) (v := .ref (z + 5 + 2 * n)) (C := RC) (T := TC) (N := 14) hx hb hz iC hown hK (hH.one hx0) 0 rfl rfl 7 (by decide) (hz _ zm_38) (fun _ h9 => h9) rfl dC_messageAt_13 ?_
      refine lv_iload_n hx hb dC_messageAt_16 rfl (lv_at hl 1 rfl) ?_
      refine zw_aald hx hb hK hH 3 hfl rfl rfl (j) rfl (by omega) (by decide) (v := .ref q) (by rw [hq]; rfl) dC_messageAt_17 ?_
      refine lv_goto (tgt := 22) hx hb dC_messageAt_18 (by decide) ?_
      exact W.aret (v := .ref q) hx hb hr (Or.inl ⟨_, rfl⟩) (Or.inr ⟨_, rfl⟩) (fun t ht hW => ⟨rfl, ht⟩) (fun q h => by cases h) dC_messageAt_22

set_option maxHeartbeats 4000000 in
set_option maxRecDepth 100000 in
theorem kC_messageAt_out (l : Launch) (G : zG) (B : Nat) (M : zw_M) (x n mb z nf se lo go pa : Nat) (hn : n ≤ 8) (hx0 : M x = some (.inr (1, zoC n mb z nf se lo go pa))) (a : Int32) (ha : a < 0 ∨ nI nf ≤ a) : Met l yC_messageAt (Cond.code yC_messageAt bC_messageAt 2 (some (.object "ChangeSync$Message")) :: zT) { frames := 0, cells := 0, slots := 0, locals := 0 } (zp G B M [.ref x, .int a]) (k2_QcV (.null)) 0 0 (fun _ => False) := by
  refine Met.ofW (cc := bC_messageAt) (maxL := 2) (ret := (some (.object "ChangeSync$Message"))) (by decide) rfl ?_
  intro p e s m args below meth c s₁ B0 hml hv
  obtain ⟨rfl, hE, hH⟩ := hv
  have hx := B0.exec
  have hb := B0.bytes
  have hr := B0.returns
  have hlocks := B0.notSynchronized
  have hz : ∀ w ∈ zT, w.before _ s = true := fun w h => atoms_spec (ws := Cond.code yC_messageAt bC_messageAt 2 (some (.object "ChangeSync$Message")) :: zT) B0.pre w (List.mem_cons_of_mem _ h)
  have hown : s.vm.findClass RC = some m.cls := findClass_of_methodNamed B0.named
  have hK := hE.1
  have hl := lv_entry ([.ref x, .int a]) (n := 2) (Nat.le_of_ble_eq_true rfl)
  rw [lg_entry_eq]
  generalize (lg_sl ([.ref x, .int a]) ++ List.replicate (2 - (lg_sl ([.ref x, .int a])).length) Slot.unset).toArray = ls at hl ⊢
  have hl : lv_has ls 2 [(0, .ref x), (1, .int a)] := hl
  have hS : va_S (zw_A B) s.heap s.heap [] := va_S.rf
  refine lv_iload_n hx hb dC_messageAt_0 rfl (lv_at hl 1 rfl) ?_
  refine lv_if_lt (tgt := 21) hx hb dC_messageAt_1 (by decide) (fun c => ?_) (fun c => ?_)
  · refine lv_null hx hb dC_messageAt_21 ?_
    exact W.aret (v := .null) hx hb hr (Or.inl ⟨_, rfl⟩) (Or.inl rfl) (fun t ht hW => ⟨rfl, ht⟩) (fun q h => by cases h) dC_messageAt_22
  · refine lv_iload_n hx hb dC_messageAt_4 rfl (lv_at hl 1 rfl) ?_
    refine lv_aload_n hx hb dC_messageAt_5 rfl (lv_at hl 0 rfl) ?_
    refine va_get (D := G.1) (ci := 1) (v := .int (nI nf)) (C := RC) (T := TC) (N := 14) hx hb hz iC hown hK (hH.one hx0) 0 rfl rfl 8 (by decide) (hz _ zm_39) (fun _ h9 => h9) rfl dC_messageAt_6 ?_
    refine lv_icmp_ge (tgt := 21) hx hb dC_messageAt_9 (by decide) (fun c2 => ?_) (fun c2 => ?_)
    · refine lv_null hx hb dC_messageAt_21 ?_
      exact W.aret (v := .null) hx hb hr (Or.inl ⟨_, rfl⟩) (Or.inl rfl) (fun t ht hW => ⟨rfl, ht⟩) (fun q h => by cases h) dC_messageAt_22
    · exact absurd (ha.resolve_left c) c2

set_option maxHeartbeats 4000000 in
set_option maxRecDepth 100000 in
theorem kM_isClock_yes (l : Launch) (G : zG) (B : Nat) (M : zw_M) (q : Nat) (num snd rcv byt : Int32) (told : Int64) (ch : Nat) (hq0 : M q = some (.inr (0, zoM num snd rcv byt told ch))) (ht : told ≠ -1) : Met l yM_isClock (Cond.code yM_isClock bM_isClock 1 (some .boolean) :: zT) { frames := 0, cells := 0, slots := 0, locals := 0 } (zp G B M [.ref q]) (k2_QcV (.int (nI 1))) 0 0 (fun _ => False) := by
  refine Met.ofW (cc := bM_isClock) (maxL := 1) (ret := (some .boolean)) (by decide) rfl ?_
  intro p e s m args below meth c s₁ B0 hml hv
  obtain ⟨rfl, hE, hH⟩ := hv
  have hx := B0.exec
  have hb := B0.bytes
  have hr := B0.returns
  have hlocks := B0.notSynchronized
  have hz : ∀ w ∈ zT, w.before _ s = true := fun w h => atoms_spec (ws := Cond.code yM_isClock bM_isClock 1 (some .boolean) :: zT) B0.pre w (List.mem_cons_of_mem _ h)
  have hown : s.vm.findClass RM = some m.cls := findClass_of_methodNamed B0.named
  have hK := hE.1
  have hl := lv_entry ([.ref q]) (n := 1) (Nat.le_of_ble_eq_true rfl)
  rw [lg_entry_eq]
  generalize (lg_sl ([.ref q]) ++ List.replicate (1 - (lg_sl ([.ref q])).length) Slot.unset).toArray = ls at hl ⊢
  have hl : lv_has ls 1 [(0, .ref q)] := hl
  have hS : va_S (zw_A B) s.heap s.heap [] := va_S.rf
  refine lv_aload_n hx hb dM_isClock_0 rfl (lv_at hl 0 rfl) ?_
  refine va_get (D := G.1) (ci := 0) (v := .long told) (C := RM) (T := TM) (N := 6) hx hb hz iM hown hK (hH.one hq0) 0 rfl rfl 4 (by decide) (hz _ zm_291) (fun _ h9 => h9) rfl dM_isClock_1 ?_
  refine lv_ldc2 hx hb hown (hz _ zm_324) dM_isClock_4 ?_
  refine W.lcmp hx hb dM_isClock_7 ?_
  refine lv_if_eq (tgt := 15) hx hb dM_isClock_8 (by decide) (fun c => ?_) (fun c => ?_)
  · exact absurd ((lg_cmp_eq _ _).mp c) ht
  · refine lv_iconst (v := nI 1) hx hb dM_isClock_11 (by decide) ?_
    refine lv_goto (tgt := 16) hx hb dM_isClock_12 (by decide) ?_
    exact W.zret (v := (nI 1)) (ty := .boolean) hx hb hr rfl (fun t ht hW => ⟨rfl, ht⟩) (fun q h => by cases h) dM_isClock_16

set_option maxHeartbeats 4000000 in
set_option maxRecDepth 100000 in
theorem kM_isClock_no (l : Launch) (G : zG) (B : Nat) (M : zw_M) (q : Nat) (num snd rcv byt : Int32) (told : Int64) (ch : Nat) (hq0 : M q = some (.inr (0, zoM num snd rcv byt told ch))) (ht : told = -1) : Met l yM_isClock (Cond.code yM_isClock bM_isClock 1 (some .boolean) :: zT) { frames := 0, cells := 0, slots := 0, locals := 0 } (zp G B M [.ref q]) (k2_QcV (.int (nI 0))) 0 0 (fun _ => False) := by
  refine Met.ofW (cc := bM_isClock) (maxL := 1) (ret := (some .boolean)) (by decide) rfl ?_
  intro p e s m args below meth c s₁ B0 hml hv
  obtain ⟨rfl, hE, hH⟩ := hv
  have hx := B0.exec
  have hb := B0.bytes
  have hr := B0.returns
  have hlocks := B0.notSynchronized
  have hz : ∀ w ∈ zT, w.before _ s = true := fun w h => atoms_spec (ws := Cond.code yM_isClock bM_isClock 1 (some .boolean) :: zT) B0.pre w (List.mem_cons_of_mem _ h)
  have hown : s.vm.findClass RM = some m.cls := findClass_of_methodNamed B0.named
  have hK := hE.1
  have hl := lv_entry ([.ref q]) (n := 1) (Nat.le_of_ble_eq_true rfl)
  rw [lg_entry_eq]
  generalize (lg_sl ([.ref q]) ++ List.replicate (1 - (lg_sl ([.ref q])).length) Slot.unset).toArray = ls at hl ⊢
  have hl : lv_has ls 1 [(0, .ref q)] := hl
  have hS : va_S (zw_A B) s.heap s.heap [] := va_S.rf
  refine lv_aload_n hx hb dM_isClock_0 rfl (lv_at hl 0 rfl) ?_
  refine va_get (D := G.1) (ci := 0) (v := .long told) (C := RM) (T := TM) (N := 6) hx hb hz iM hown hK (hH.one hq0) 0 rfl rfl 4 (by decide) (hz _ zm_291) (fun _ h9 => h9) rfl dM_isClock_1 ?_
  refine lv_ldc2 hx hb hown (hz _ zm_324) dM_isClock_4 ?_
  refine W.lcmp hx hb dM_isClock_7 ?_
  refine lv_if_eq (tgt := 15) hx hb dM_isClock_8 (by decide) (fun c => ?_) (fun c => ?_)
  · refine lv_iconst (v := nI 0) hx hb dM_isClock_15 (by decide) ?_
    exact W.zret (v := (nI 0)) (ty := .boolean) hx hb hr rfl (fun t ht hW => ⟨rfl, ht⟩) (fun q h => by cases h) dM_isClock_16
  · exact absurd ((lg_cmp_eq _ _).mpr ht) c

set_option maxHeartbeats 4000000 in
set_option maxRecDepth 100000 in
theorem kC_madeByAll (l : Launch) (G : zG) (B : Nat) (M : zw_M) (x n mb z nf se lo go pa : Nat) (hn : n ≤ 8) (hx0 : M x = some (.inr (1, zoC n mb z nf se lo go pa))) (ck : Nat → Int64) (hck : M (z + 1) = some (.inl (G.2.1 1, n, .inr (.inl ck)))) : Met l yC_madeByAll (Cond.code yC_madeByAll bC_madeByAll 3 (some .int) :: zT) { frames := 2, cells := 0, slots := 0, locals := 43 } (zp G B M [.ref x]) (k2_QcV (.int (nI (zsum (fun a => zb (ck a) a) n)))) 0 0 (fun _ => False) := by
  refine Met.ofW (cc := bC_madeByAll) (maxL := 3) (ret := (some .int)) (by decide) rfl ?_
  intro p e s m args below meth c s₁ B0 hml hv
  obtain ⟨rfl, hE, hH⟩ := hv
  have hx := B0.exec
  have hb := B0.bytes
  have hr := B0.returns
  have hlocks := B0.notSynchronized
  have hz : ∀ w ∈ zT, w.before _ s = true := fun w h => atoms_spec (ws := Cond.code yC_madeByAll bC_madeByAll 3 (some .int) :: zT) B0.pre w (List.mem_cons_of_mem _ h)
  have hown : s.vm.findClass RC = some m.cls := findClass_of_methodNamed B0.named
  have hK := hE.1
  have hl := lv_entry ([.ref x]) (n := 3) (Nat.le_of_ble_eq_true rfl)
  rw [lg_entry_eq]
  generalize (lg_sl ([.ref x]) ++ List.replicate (3 - (lg_sl ([.ref x])).length) Slot.unset).toArray = ls at hl ⊢
  have hl : lv_has ls 3 [(0, .ref x)] := hl
  have hS : va_S (zw_A B) s.heap s.heap [] := va_S.rf
  refine lv_iconst (v := nI 0) hx hb dC_madeByAll_0 (by decide) ?_
  refine lv_istore_n (lv' := [(1, .int (nI 0)), (0, .ref x)]) hx hb dC_madeByAll_1 rfl hl (by decide) rfl (fun ls hl => ?_)
  refine lv_iconst (v := nI 0) hx hb dC_madeByAll_2 (by decide) ?_
  refine lv_istore_n (lv' := [(2, .int (nI 0)), (1, .int (nI 0)), (0, .ref x)]) hx hb dC_madeByAll_3 rfl hl (by decide) rfl (fun ls hl => ?_)
  refine zl_up (Wg := fun ls => W p l e _ s m _ below meth c s.heap [] 0 0 _ (F0 m 4 ls [])) (fun i ls => lv_has ls 3 [(0, .ref x), (1, .int (nI (zsum (fun a => zb (ck a) a) i))), (2, .int (nI i))]) n ?_ (i := 0) (by omega) (lv_sub hl [2, 1, 0] rfl)
  intro i hi ls hl ih
  have hl : lv_has ls 3 [(0, .ref x), (1, .int (nI (zsum (fun a => zb (ck a) a) i))), (2, .int (nI i))] := hl
  refine lv_iload_n hx hb dC_madeByAll_4 rfl (lv_at hl 2 rfl) ?_
  refine lv_aload_n hx hb dC_madeByAll_5 rfl (lv_at hl 0 rfl) ?_
  refine va_get (D := G.1) (ci := 1) (v := .int (nI n)) (C := RC) (T := TC) (N := 14) hx hb hz iC hown hK (hH.one hx0) 0 rfl rfl 0 (by decide) (hz _ zm_31) (fun _ h9 => h9) rfl dC_madeByAll_6 ?_
  refine zc_ge (tgt := 26) hx hb dC_madeByAll_9 (by decide) (by omega) (by omega) (fun c => ?_) (fun c => ?_)
  · have e1 : n = i := by omega
    rw [e1]
    refine lv_iload_n hx hb dC_madeByAll_26 rfl (lv_at hl 1 rfl) ?_
    exact W.iret (v := (nI (zsum (fun a => zb (ck a) a) i))) hx hb hr (fun t ht hW => ⟨rfl, ht⟩) (fun q h => by cases h) dC_madeByAll_27
  · refine lv_iload_n hx hb dC_madeByAll_12 rfl (lv_at hl 1 rfl) ?_
    refine lv_aload_n hx hb dC_madeByAll_13 rfl (lv_at hl 0 rfl) ?_
    refine lv_iload_n hx hb dC_madeByAll_14 rfl (lv_at hl 2 rfl) ?_
    refine zr_V (As := [.int (nI i)]) (rest := [.int (nI (zsum (fun a => zb (ck a) a) i))]) (q := (RC, TC, 14)) ⟨hx, hb, hml, hown, hz⟩ (kC_madeBy l G B M x n mb z nf se lo go pa hn hx0 ck hck i c) (zt_V zm_114 zm_116 zs_3 zm_1 zm_117) rfl rfl rfl (show _ ∧ _ ∧ _ ∧ _ = some 1 from by decide +kernel) ⟨Nat.le_of_ble_eq_true rfl, Nat.le_of_ble_eq_true rfl⟩ zE_blind (zE_at hE hS) hH hK hx0 rfl rfl hl.1 rfl (Nat.le_of_ble_eq_true rfl) dC_madeByAll_15 ⟨Nat.zero_le _, Nat.zero_le _⟩ ?_
    refine lv_iadd hx hb dC_madeByAll_18 ?_
    refine zw_ti (nI_add _ _) ?_
    refine lv_istore_n (lv' := [(1, .int (nI ((zsum (fun a => zb (ck a) a) i) + (zb (ck i) i)))), (0, .ref x), (2, .int (nI i))]) hx hb dC_madeByAll_19 rfl hl (by decide) rfl (fun ls hl => ?_)
    refine lv_iinc (v := (nI (i + 1))) (lv' := [(2, .int (nI (i + 1))), (1, .int (nI ((zsum (fun a => zb (ck a) a) i) + (zb (ck i) i)))), (0, .ref x)]) hx hb dC_madeByAll_20 hl (k := 2) rfl (nI_add _ _) (by decide) rfl (fun ls hl => ?_)
    refine lv_goto (tgt := 4) hx hb dC_madeByAll_23 (by decide) ?_
    exact ih c ls (lv_sub hl [2, 1, 0] rfl)
end
section
/-! THE CLASS: more readers -/
theorem zlook_out {a : Int32} (ha : a < 0 ∨ nI 9 ≤ a) : a.toInt < 0 ∨ 8 < a.toInt := by
  rcases ha with h | h
  · exact Or.inl (by simpa using Int32.lt_iff_toInt_lt.mp h)
  · have := Int32.le_iff_toInt_le.mp h
    rw [nI_toInt (by decide)] at this
    exact Or.inr (by omega)
set_option maxHeartbeats 4000000 in
set_option maxRecDepth 100000 in
theorem kC_replicasWithAll (l : Launch) (G : zG) (B : Nat) (M : zw_M) (x n mb z nf se lo go pa : Nat) (hn : n ≤ 8) (hx0 : M x = some (.inr (1, zoC n mb z nf se lo go pa))) (ck : Nat → Int64) (hck : M (z + 1) = some (.inl (G.2.1 1, n, .inr (.inl ck)))) (lz : Nat → Nat) (hlz : M (z + 3 + n) = some (.inl (G.2.1 0, n, .inl (fun i => nI (lz i))))) (T : Nat) (hT : T = zsum (fun a => zb (ck a) a) n) (hT2 : T < 2 ^ 31) (hlb : ∀ i, i < n → lz i < 2 ^ 31) : Met l yC_replicasWithAll (Cond.code yC_replicasWithAll bC_replicasWithAll 4 (some .int) :: zT) { frames := 3, cells := 0, slots := 0, locals := 66 } (zp G B M [.ref x]) (k2_QcV (.int (nI (zsum (fun r => if lz r = T then 1 else 0) n)))) 0 0 (fun _ => False) := by
  refine Met.ofW (cc := bC_replicasWithAll) (maxL := 4) (ret := (some .int)) (by decide) rfl ?_
  intro p e s m args below meth c s₁ B0 hml hv
  obtain ⟨rfl, hE, hH⟩ := hv
  have hx := B0.exec
  have hb := B0.bytes
  have hr := B0.returns
  have hlocks := B0.notSynchronized
  have hz : ∀ w ∈ zT, w.before _ s = true := fun w h => atoms_spec (ws := Cond.code yC_replicasWithAll bC_replicasWithAll 4 (some .int) :: zT) B0.pre w (List.mem_cons_of_mem _ h)
  have hown : s.vm.findClass RC = some m.cls := findClass_of_methodNamed B0.named
  have hK := hE.1
  have hl := lv_entry ([.ref x]) (n := 4) (Nat.le_of_ble_eq_true rfl)
  rw [lg_entry_eq]
  generalize (lg_sl ([.ref x]) ++ List.replicate (4 - (lg_sl ([.ref x])).length) Slot.unset).toArray = ls at hl ⊢
  have hl : lv_has ls 4 [(0, .ref x)] := hl
  have hS : va_S (zw_A B) s.heap s.heap [] := va_S.rf
  refine lv_aload_n hx hb dC_replicasWithAll_0 rfl (lv_at hl 0 rfl) ?_
  refine zr_V (As := []) (rest := []) (q := (RC, TC, 14)) ⟨hx, hb, hml, hown, hz⟩ (kC_madeByAll l G B M x n mb z nf se lo go pa hn hx0 ck hck) (zt_V zm_129 zm_131 zs_5 zm_1 zm_132) rfl rfl rfl (show _ ∧ _ ∧ _ ∧ _ = some 0 from by decide +kernel) ⟨Nat.le_of_ble_eq_true rfl, Nat.le_of_ble_eq_true rfl⟩ zE_blind (zE_at hE hS) hH hK hx0 rfl rfl hl.1 rfl (Nat.le_of_ble_eq_true rfl) dC_replicasWithAll_1 ⟨Nat.zero_le _, Nat.zero_le _⟩ ?_
  refine zw_ti (congrArg nI hT.symm) ?_
  refine lv_istore_n (lv' := [(1, .int (nI T)), (0, .ref x)]) hx hb dC_replicasWithAll_4 rfl hl (by decide) rfl (fun ls hl => ?_)
  refine lv_iconst (v := nI 0) hx hb dC_replicasWithAll_5 (by decide) ?_
  refine lv_istore_n (lv' := [(2, .int (nI 0)), (1, .int (nI T)), (0, .ref x)]) hx hb dC_replicasWithAll_6 rfl hl (by decide) rfl (fun ls hl => ?_)
  refine lv_iconst (v := nI 0) hx hb dC_replicasWithAll_7 (by decide) ?_
  refine lv_istore_n (lv' := [(3, .int (nI 0)), (2, .int (nI 0)), (1, .int (nI T)), (0, .ref x)]) hx hb dC_replicasWithAll_8 rfl hl (by decide) rfl (fun ls hl => ?_)
  refine zl_up (Wg := fun ls => W p l e _ s m _ below meth c s.heap [] 0 0 _ (F0 m 9 ls [])) (fun i ls => lv_has ls 4 [(0, .ref x), (1, .int (nI T)), (2, .int (nI (zsum (fun r => if lz r = T then 1 else 0) i))), (3, .int (nI i))]) n ?_ (i := 0) (by omega) (lv_sub hl [3, 2, 1, 0] rfl)
  intro i hi ls hl ih
  have hl : lv_has ls 4 [(0, .ref x), (1, .int (nI T)), (2, .int (nI (zsum (fun r => if lz r = T then 1 else 0) i))), (3, .int (nI i))] := hl
  refine lv_iload_n hx hb dC_replicasWithAll_9 rfl (lv_at hl 3 rfl) ?_
  refine lv_aload_n hx hb dC_replicasWithAll_10 rfl (lv_at hl 0 rfl) ?_
  refine va_get (D := G.1) (ci := 1) (v := .int (nI n)) (C := RC) (T := TC) (N := 14) hx hb hz iC hown hK (hH.one hx0) 0 rfl rfl 0 (by decide) (hz _ zm_31) (fun _ h9 => h9) rfl dC_replicasWithAll_11 ?_
  refine zc_ge (tgt := 36) hx hb dC_replicasWithAll_14 (by decide) (by omega) (by omega) (fun c => ?_) (fun c => ?_)
  · have e1 : n = i := by omega
    rw [e1]
    refine lv_iload_n hx hb dC_replicasWithAll_36 rfl (lv_at hl 2 rfl) ?_
    exact W.iret (v := (nI (zsum (fun r => if lz r = T then 1 else 0) i))) hx hb hr (fun t ht hW => ⟨rfl, ht⟩) (fun q h => by cases h) dC_replicasWithAll_37
  · refine lv_aload_n hx hb dC_replicasWithAll_17 rfl (lv_at hl 0 rfl) ?_
    refine va_get (D := G.1) (ci := 1) (v := .ref (z + 3 + n)) (C := RC) (T := TC) (N := 14) hx hb hz iC hown hK (hH.one hx0) 0 rfl rfl 5 (by decide) (hz _ zm_36) (fun _ h9 => h9) rfl dC_replicasWithAll_18 ?_
    refine lv_iload_n hx hb dC_replicasWithAll_21 rfl (lv_at hl 3 rfl) ?_
    refine zw_iald hx hb hK hH 0 hlz rfl (i) rfl (c) (by omega) dC_replicasWithAll_22 ?_
    refine lv_iload_n hx hb dC_replicasWithAll_23 rfl (lv_at hl 1 rfl) ?_
    refine zc_ne (tgt := 30) hx hb dC_replicasWithAll_24 (by decide) (by have := hlb i c; omega) (by omega) (fun c2 => ?_) (fun c2 => ?_)
    · refine lv_iinc (v := (nI (i + 1))) (lv' := [(3, .int (nI (i + 1))), (0, .ref x), (1, .int (nI T)), (2, .int (nI (zsum (fun r => if lz r = T then 1 else 0) i)))]) hx hb dC_replicasWithAll_30 hl (k := 3) rfl (nI_add _ _) (by decide) rfl (fun ls hl => ?_)
      refine lv_goto (tgt := 9) hx hb dC_replicasWithAll_33 (by decide) ?_
      exact ih c ls (lv_sub hl [1, 2, 3, 0] (by rw [show zsum (fun r => if lz r = T then 1 else 0) (i + 1) = zsum (fun r => if lz r = T then 1 else 0) i from by show zsum _ i + (if lz i = T then 1 else 0) = _; rw [if_neg c2]; rfl]; rfl))
    · refine lv_iinc (v := (nI ((zsum (fun r => if lz r = T then 1 else 0) i) + 1))) (lv' := [(2, .int (nI ((zsum (fun r => if lz r = T then 1 else 0) i) + 1))), (0, .ref x), (1, .int (nI T)), (3, .int (nI i))]) hx hb dC_replicasWithAll_27 hl (k := 2) rfl (nI_add _ _) (by decide) rfl (fun ls hl => ?_)
      refine lv_iinc (v := (nI (i + 1))) (lv' := [(3, .int (nI (i + 1))), (2, .int (nI ((zsum (fun r => if lz r = T then 1 else 0) i) + 1))), (0, .ref x), (1, .int (nI T))]) hx hb dC_replicasWithAll_30 hl (k := 3) rfl (nI_add _ _) (by decide) rfl (fun ls hl => ?_)
      refine lv_goto (tgt := 9) hx hb dC_replicasWithAll_33 (by decide) ?_
      exact ih c ls (lv_sub hl [2, 3, 1, 0] (by rw [show zsum (fun r => if lz r = T then 1 else 0) (i + 1) = zsum (fun r => if lz r = T then 1 else 0) i + 1 from by show zsum _ i + (if lz i = T then 1 else 0) = _; rw [if_pos c2]]; rfl))

set_option maxHeartbeats 4000000 in
set_option maxRecDepth 100000 in
theorem kC_bytesInFlight (l : Launch) (G : zG) (B : Nat) (M : zw_M) (x n mb z nf se lo go pa : Nat) (hn : n ≤ 8) (hx0 : M x = some (.inr (1, zoC n mb z nf se lo go pa))) (ff : Nat → Option Nat) (hfl : M (z + 5 + 2 * n) = some (.inl (G.2.1 3, 120, .inr (.inr (.inr (.inr ff)))))) (hnf : nf ≤ 120) (by1 : Nat → Nat) (hm : ∀ i, i < nf → ∃ (q : Nat) (num snd rcv : Int32) (told : Int64) (ch : Nat), ff i = some q ∧ M q = some (.inr (0, zoM num snd rcv (nI (by1 i)) told ch))) : Met l yC_bytesInFlight (Cond.code yC_bytesInFlight bC_bytesInFlight 4 (some .int) :: zT) { frames := 1, cells := 0, slots := 0, locals := 21 } (zp G B M [.ref x]) (k2_QcV (.int (nI (zsum by1 nf)))) 0 0 (fun _ => False) := by
  refine Met.ofW (cc := bC_bytesInFlight) (maxL := 4) (ret := (some .int)) (by decide) rfl ?_
  intro p e s m args below meth c s₁ B0 hml hv
  obtain ⟨rfl, hE, hH⟩ := hv
  have hx := B0.exec
  have hb := B0.bytes
  have hr := B0.returns
  have hlocks := B0.notSynchronized
  have hz : ∀ w ∈ zT, w.before _ s = true := fun w h => atoms_spec (ws := Cond.code yC_bytesInFlight bC_bytesInFlight 4 (some .int) :: zT) B0.pre w (List.mem_cons_of_mem _ h)
  have hown : s.vm.findClass RC = some m.cls := findClass_of_methodNamed B0.named
  have hK := hE.1
  have hl := lv_entry ([.ref x]) (n := 4) (Nat.le_of_ble_eq_true rfl)
  rw [lg_entry_eq]
  generalize (lg_sl ([.ref x]) ++ List.replicate (4 - (lg_sl ([.ref x])).length) Slot.unset).toArray = ls at hl ⊢
  have hl : lv_has ls 4 [(0, .ref x)] := hl
  have hS : va_S (zw_A B) s.heap s.heap [] := va_S.rf
  refine lv_iconst (v := nI 0) hx hb dC_bytesInFlight_0 (by decide) ?_
  refine lv_istore_n (lv' := [(1, .int (nI 0)), (0, .ref x)]) hx hb dC_bytesInFlight_1 rfl hl (by decide) rfl (fun ls hl => ?_)
  refine lv_iconst (v := nI 0) hx hb dC_bytesInFlight_2 (by decide) ?_
  refine lv_istore_n (lv' := [(2, .int (nI 0)), (1, .int (nI 0)), (0, .ref x)]) hx hb dC_bytesInFlight_3 rfl hl (by decide) rfl (fun ls hl => ?_)
  refine zl_up (Wg := fun ls => W p l e _ s m _ below meth c s.heap [] 0 0 _ (F0 m 4 ls [])) (fun i ls => lv_has ls 4 [(0, .ref x), (1, .int (nI (zsum by1 i))), (2, .int (nI i))]) nf ?_ (i := 0) (by omega) (lv_sub hl [2, 1, 0] rfl)
  intro i hi ls hl ih
  have hl : lv_has ls 4 [(0, .ref x), (1, .int (nI (zsum by1 i))), (2, .int (nI i))] := hl
  refine lv_iload_n hx hb dC_bytesInFlight_4 rfl (lv_at hl 2 rfl) ?_
  refine lv_aload_n hx hb dC_bytesInFlight_5 rfl (lv_at hl 0 rfl) ?_
  refine va_get (D := G.1) (ci := 1) (v := .int (nI nf)) (C := RC) (T := TC) (N := 14) hx hb hz iC hown hK (hH.one hx0) 0 rfl rfl 8 (by decide) (hz _ zm_39) (fun _ h9 => h9) rfl dC_bytesInFlight_6 ?_
  refine zc_ge (tgt := 35) hx hb dC_bytesInFlight_9 (by decide) (by omega) (by omega) (fun c => ?_) (fun c => ?_)
  · have e1 : nf = i := by omega
    rw [e1]
    refine lv_iload_n hx hb dC_bytesInFlight_35 rfl (lv_at hl 1 rfl) ?_
    exact W.iret (v := (nI (zsum by1 i))) hx hb hr (fun t ht hW => ⟨rfl, ht⟩) (fun q h => by cases h) dC_bytesInFlight_36
  · obtain ⟨q, num, snd, rcv, told, ch, hq, hq0⟩ := hm i c
    refine lv_aload_n hx hb dC_bytesInFlight_12 rfl (lv_at hl 0 rfl) ?_
    refine lv_iload_n hx hb dC_bytesInFlight_13 rfl (lv_at hl 2 rfl) ?_
    refine zr_V (As := [.int (nI i)]) (rest := []) (q := (RC, TC, 14)) ⟨hx, hb, hml, hown, hz⟩ (kC_messageAt_in l G B M x n mb z nf se lo go pa hn hx0 ff hfl hnf i q c hq) (zt_V zm_81 zm_83 zs_0 zm_1 zm_84) rfl rfl rfl (show _ ∧ _ ∧ _ ∧ _ = some 1 from by decide +kernel) ⟨Nat.le_of_ble_eq_true rfl, Nat.le_of_ble_eq_true rfl⟩ zE_blind (zE_at hE hS) hH hK hx0 rfl rfl hl.1 rfl (Nat.le_of_ble_eq_true rfl) dC_bytesInFlight_14 ⟨Nat.zero_le _, Nat.zero_le _⟩ ?_
    refine lv_astore_n (lv' := [(3, .ref q), (0, .ref x), (1, .int (nI (zsum by1 i))), (2, .int (nI i))]) hx hb dC_bytesInFlight_17 rfl hl (by decide) rfl (fun ls hl => ?_)
    refine lv_aload_n hx hb dC_bytesInFlight_18 rfl (lv_at hl 0 rfl) ?_
    refine lv_ifnull hx hb dC_bytesInFlight_19 ?_
    refine lv_iload_n hx hb dC_bytesInFlight_22 rfl (lv_at hl 2 rfl) ?_
    refine lv_aload_n hx hb dC_bytesInFlight_23 rfl (lv_at hl 0 rfl) ?_
    refine va_get (D := G.1) (ci := 0) (v := .int (nI (by1 i))) (C := RM) (T := TM) (N := 6) hx hb hz iM hown hK (hH.one hq0) 0 rfl rfl 3 (by decide) (hz _ zm_290) (fun _ h9 => h9) rfl dC_bytesInFlight_24 ?_
    refine lv_iadd hx hb dC_bytesInFlight_27 ?_
    refine zw_ti (nI_add _ _) ?_
    refine lv_istore_n (lv' := [(1, .int (nI ((zsum by1 i) + (by1 i)))), (3, .ref q), (0, .ref x), (2, .int (nI i))]) hx hb dC_bytesInFlight_28 rfl hl (by decide) rfl (fun ls hl => ?_)
    refine lv_iinc (v := (nI (i + 1))) (lv' := [(2, .int (nI (i + 1))), (1, .int (nI ((zsum by1 i) + (by1 i)))), (3, .ref q), (0, .ref x)]) hx hb dC_bytesInFlight_29 hl (k := 3) rfl (nI_add _ _) (by decide) rfl (fun ls hl => ?_)
    refine lv_goto (tgt := 4) hx hb dC_bytesInFlight_32 (by decide) ?_
    exact ih c ls (lv_sub hl [3, 1, 0] rfl)

set_option maxHeartbeats 4000000 in
set_option maxRecDepth 100000 in
theorem kC_weight_in (l : Launch) (G : zG) (B : Nat) (M : zw_M) (x n mb z nf se lo go pa : Nat) (hn : n ≤ 8) (hx0 : M x = some (.inr (1, zoC n mb z nf se lo go pa))) (ck : Nat → Int64) (hck : M (z + 1) = some (.inl (G.2.1 1, n, .inr (.inl ck)))) (hwt : M (z + 4 + n) = some (.inl (G.2.1 4, n, .inr (.inr (.inr (.inr (fun i => some (z + 5 + n + i)))))))) (f : Nat → Int32) (j sq : Nat) (hj : j < n) (hwj : M (z + 5 + n + j) = some (.inl (G.2.1 0, 60, .inl f))) (hq1 : 1 ≤ sq) (hq2 : sq ≤ zb (ck j) j) (hq3 : sq ≤ 60) : Met l yC_weight (Cond.code yC_weight bC_weight 3 (some .int) :: zT) { frames := 2, cells := 0, slots := 0, locals := 43 } (zp G B M [.ref x, .int (nI j), .int (nI sq)]) (k2_QcV (.int (f (sq - 1)))) 0 0 (fun _ => False) := by
  refine Met.ofW (cc := bC_weight) (maxL := 3) (ret := (some .int)) (by decide) rfl ?_
  intro p e s m args below meth c s₁ B0 hml hv
  obtain ⟨rfl, hE, hH⟩ := hv
  have hx := B0.exec
  have hb := B0.bytes
  have hr := B0.returns
  have hlocks := B0.notSynchronized
  have hz : ∀ w ∈ zT, w.before _ s = true := fun w h => atoms_spec (ws := Cond.code yC_weight bC_weight 3 (some .int) :: zT) B0.pre w (List.mem_cons_of_mem _ h)
  have hown : s.vm.findClass RC = some m.cls := findClass_of_methodNamed B0.named
  have hK := hE.1
  have hl := lv_entry ([.ref x, .int (nI j), .int (nI sq)]) (n := 3) (Nat.le_of_ble_eq_true rfl)
  rw [lg_entry_eq]
  generalize (lg_sl ([.ref x, .int (nI j), .int (nI sq)]) ++ List.replicate (3 - (lg_sl ([.ref x, .int (nI j), .int (nI sq)])).length) Slot.unset).toArray = ls at hl ⊢
  have hl : lv_has ls 3 [(0, .ref x), (1, .int (nI j)), (2, .int (nI sq))] := hl
  have hS : va_S (zw_A B) s.heap s.heap [] := va_S.rf
  refine lv_aload_n hx hb dC_weight_0 rfl (lv_at hl 0 rfl) ?_
  refine lv_iload_n hx hb dC_weight_1 rfl (lv_at hl 1 rfl) ?_
  refine zr_V (As := [.int (nI j)]) (rest := []) (q := (RC, TC, 14)) ⟨hx, hb, hml, hown, hz⟩ (kC_isReplica_in l G B M x n mb z nf se lo go pa hn hx0 j hj) (zt_V zm_93 zm_95 zs_2 zm_1 zm_96) rfl rfl rfl (show _ ∧ _ ∧ _ ∧ _ = some 1 from by decide +kernel) ⟨Nat.le_of_ble_eq_true rfl, Nat.le_of_ble_eq_true rfl⟩ zE_blind (zE_at hE hS) hH hK hx0 rfl rfl hl.1 rfl (Nat.le_of_ble_eq_true rfl) dC_weight_2 ⟨Nat.zero_le _, Nat.zero_le _⟩ ?_
  refine zc_eq0 (tgt := 22) hx hb dC_weight_5 (by decide) (by omega) (fun c => ?_) (fun c => ?_)
  · exact absurd c (by decide)
  · refine lv_iload_n hx hb dC_weight_8 rfl (lv_at hl 2 rfl) ?_
    refine lv_iconst (v := nI 1) hx hb dC_weight_9 (by decide) ?_
    refine zc_lt (tgt := 22) hx hb dC_weight_10 (by decide) (by omega) (by omega) (fun c2 => ?_) (fun c2 => ?_)
    · exact absurd c2 (by omega)
    · refine lv_iload_n hx hb dC_weight_13 rfl (lv_at hl 2 rfl) ?_
      refine lv_aload_n hx hb dC_weight_14 rfl (lv_at hl 0 rfl) ?_
      refine lv_iload_n hx hb dC_weight_15 rfl (lv_at hl 1 rfl) ?_
      refine zr_V (As := [.int (nI j)]) (rest := [.int (nI sq)]) (q := (RC, TC, 14)) ⟨hx, hb, hml, hown, hz⟩ (kC_madeBy l G B M x n mb z nf se lo go pa hn hx0 ck hck j hj) (zt_V zm_114 zm_116 zs_3 zm_1 zm_117) rfl rfl rfl (show _ ∧ _ ∧ _ ∧ _ = some 1 from by decide +kernel) ⟨Nat.le_of_ble_eq_true rfl, Nat.le_of_ble_eq_true rfl⟩ zE_blind (zE_at hE hS) hH hK hx0 rfl rfl hl.1 rfl (Nat.le_of_ble_eq_true rfl) dC_weight_16 ⟨Nat.zero_le _, Nat.zero_le _⟩ ?_
      refine zc_le (tgt := 24) hx hb dC_weight_19 (by decide) (by omega) (by have := zb_lt (ck j) j; omega) (fun c3 => ?_) (fun c3 => ?_)
      · refine lv_aload_n hx hb dC_weight_24 rfl (lv_at hl 0 rfl) ?_
        refine va_get (D := G.1) (ci := 1) (v := .ref (z + 4 + n)) (C := RC) (T := TC) (N := 14) hx hb hz iC hown hK (hH.one hx0) 0 rfl rfl 6 (by decide) (hz _ zm_37) (fun _ h9 => h9) rfl dC_weight_25 ?_
        refine lv_iload_n hx hb dC_weight_28 rfl (lv_at hl 1 rfl) ?_
        refine zw_aald hx hb hK hH 4 hwt rfl rfl (j) rfl (hj) (by omega) (v := .ref (z + 5 + n + j)) rfl dC_weight_29 ?_
        refine lv_iload_n hx hb dC_weight_30 rfl (lv_at hl 2 rfl) ?_
        refine lv_iconst (v := nI 1) hx hb dC_weight_31 (by decide) ?_
        refine lv_isub hx hb dC_weight_32 ?_
        refine zw_ti (pk_sub hq1) ?_
        refine zw_iald hx hb hK hH 0 hwj rfl (sq - 1) rfl (by omega) (by decide) dC_weight_33 ?_
        exact W.iret (v := (f (sq - 1))) hx hb hr (fun t ht hW => ⟨rfl, ht⟩) (fun q h => by cases h) dC_weight_34
      · exact absurd c3 (by omega)

set_option maxHeartbeats 4000000 in
set_option maxRecDepth 100000 in
theorem kC_weight_out1 (l : Launch) (G : zG) (B : Nat) (M : zw_M) (x n mb z nf se lo go pa : Nat) (hn : n ≤ 8) (hx0 : M x = some (.inr (1, zoC n mb z nf se lo go pa))) (a sq : Int32) (ha : a < 0 ∨ nI n ≤ a) : Met l yC_weight (Cond.code yC_weight bC_weight 3 (some .int) :: zT) { frames := 1, cells := 0, slots := 0, locals := 21 } (zp G B M [.ref x, .int a, .int sq]) (k2_QcV (.int (-1))) 0 0 (fun _ => False) := by
  refine Met.ofW (cc := bC_weight) (maxL := 3) (ret := (some .int)) (by decide) rfl ?_
  intro p e s m args below meth c s₁ B0 hml hv
  obtain ⟨rfl, hE, hH⟩ := hv
  have hx := B0.exec
  have hb := B0.bytes
  have hr := B0.returns
  have hlocks := B0.notSynchronized
  have hz : ∀ w ∈ zT, w.before _ s = true := fun w h => atoms_spec (ws := Cond.code yC_weight bC_weight 3 (some .int) :: zT) B0.pre w (List.mem_cons_of_mem _ h)
  have hown : s.vm.findClass RC = some m.cls := findClass_of_methodNamed B0.named
  have hK := hE.1
  have hl := lv_entry ([.ref x, .int a, .int sq]) (n := 3) (Nat.le_of_ble_eq_true rfl)
  rw [lg_entry_eq]
  generalize (lg_sl ([.ref x, .int a, .int sq]) ++ List.replicate (3 - (lg_sl ([.ref x, .int a, .int sq])).length) Slot.unset).toArray = ls at hl ⊢
  have hl : lv_has ls 3 [(0, .ref x), (1, .int a), (2, .int sq)] := hl
  have hS : va_S (zw_A B) s.heap s.heap [] := va_S.rf
  refine lv_aload_n hx hb dC_weight_0 rfl (lv_at hl 0 rfl) ?_
  refine lv_iload_n hx hb dC_weight_1 rfl (lv_at hl 1 rfl) ?_
  refine zr_V (As := [.int a]) (rest := []) (q := (RC, TC, 14)) ⟨hx, hb, hml, hown, hz⟩ (kC_isReplica_out l G B M x n mb z nf se lo go pa hn hx0 a ha) (zt_V zm_93 zm_95 zs_2 zm_1 zm_96) rfl rfl rfl (show _ ∧ _ ∧ _ ∧ _ = some 1 from by decide +kernel) ⟨Nat.le_of_ble_eq_true rfl, Nat.le_of_ble_eq_true rfl⟩ zE_blind (zE_at hE hS) hH hK hx0 rfl rfl hl.1 rfl (Nat.le_of_ble_eq_true rfl) dC_weight_2 ⟨Nat.zero_le _, Nat.zero_le _⟩ ?_
  refine zc_eq0 (tgt := 22) hx hb dC_weight_5 (by decide) (by omega) (fun c => ?_) (fun c => ?_)
  · refine lv_iconst (v := (-1)) hx hb dC_weight_22 (by decide) ?_
    exact W.iret (v := (-1)) hx hb hr (fun t ht hW => ⟨rfl, ht⟩) (fun q h => by cases h) dC_weight_23
  · exact absurd rfl c

set_option maxHeartbeats 4000000 in
set_option maxRecDepth 100000 in
theorem kC_weight_out2 (l : Launch) (G : zG) (B : Nat) (M : zw_M) (x n mb z nf se lo go pa : Nat) (hn : n ≤ 8) (hx0 : M x = some (.inr (1, zoC n mb z nf se lo go pa))) (ck : Nat → Int64) (hck : M (z + 1) = some (.inl (G.2.1 1, n, .inr (.inl ck)))) (j : Nat) (sq : Int32) (hj : j < n) (hs : sq < nI 1 ∨ ¬ sq ≤ nI (zb (ck j) j)) : Met l yC_weight (Cond.code yC_weight bC_weight 3 (some .int) :: zT) { frames := 2, cells := 0, slots := 0, locals := 43 } (zp G B M [.ref x, .int (nI j), .int sq]) (k2_QcV (.int (-1))) 0 0 (fun _ => False) := by
  refine Met.ofW (cc := bC_weight) (maxL := 3) (ret := (some .int)) (by decide) rfl ?_
  intro p e s m args below meth c s₁ B0 hml hv
  obtain ⟨rfl, hE, hH⟩ := hv
  have hx := B0.exec
  have hb := B0.bytes
  have hr := B0.returns
  have hlocks := B0.notSynchronized
  have hz : ∀ w ∈ zT, w.before _ s = true := fun w h => atoms_spec (ws := Cond.code yC_weight bC_weight 3 (some .int) :: zT) B0.pre w (List.mem_cons_of_mem _ h)
  have hown : s.vm.findClass RC = some m.cls := findClass_of_methodNamed B0.named
  have hK := hE.1
  have hl := lv_entry ([.ref x, .int (nI j), .int sq]) (n := 3) (Nat.le_of_ble_eq_true rfl)
  rw [lg_entry_eq]
  generalize (lg_sl ([.ref x, .int (nI j), .int sq]) ++ List.replicate (3 - (lg_sl ([.ref x, .int (nI j), .int sq])).length) Slot.unset).toArray = ls at hl ⊢
  have hl : lv_has ls 3 [(0, .ref x), (1, .int (nI j)), (2, .int sq)] := hl
  have hS : va_S (zw_A B) s.heap s.heap [] := va_S.rf
  refine lv_aload_n hx hb dC_weight_0 rfl (lv_at hl 0 rfl) ?_
  refine lv_iload_n hx hb dC_weight_1 rfl (lv_at hl 1 rfl) ?_
  refine zr_V (As := [.int (nI j)]) (rest := []) (q := (RC, TC, 14)) ⟨hx, hb, hml, hown, hz⟩ (kC_isReplica_in l G B M x n mb z nf se lo go pa hn hx0 j hj) (zt_V zm_93 zm_95 zs_2 zm_1 zm_96) rfl rfl rfl (show _ ∧ _ ∧ _ ∧ _ = some 1 from by decide +kernel) ⟨Nat.le_of_ble_eq_true rfl, Nat.le_of_ble_eq_true rfl⟩ zE_blind (zE_at hE hS) hH hK hx0 rfl rfl hl.1 rfl (Nat.le_of_ble_eq_true rfl) dC_weight_2 ⟨Nat.zero_le _, Nat.zero_le _⟩ ?_
  refine zc_eq0 (tgt := 22) hx hb dC_weight_5 (by decide) (by omega) (fun c => ?_) (fun c => ?_)
  · exact absurd c (by decide)
  · refine lv_iload_n hx hb dC_weight_8 rfl (lv_at hl 2 rfl) ?_
    refine lv_iconst (v := nI 1) hx hb dC_weight_9 (by decide) ?_
    refine lv_icmp_lt (tgt := 22) hx hb dC_weight_10 (by decide) (fun c2 => ?_) (fun c2 => ?_)
    · refine lv_iconst (v := (-1)) hx hb dC_weight_22 (by decide) ?_
      exact W.iret (v := (-1)) hx hb hr (fun t ht hW => ⟨rfl, ht⟩) (fun q h => by cases h) dC_weight_23
    · refine lv_iload_n hx hb dC_weight_13 rfl (lv_at hl 2 rfl) ?_
      refine lv_aload_n hx hb dC_weight_14 rfl (lv_at hl 0 rfl) ?_
      refine lv_iload_n hx hb dC_weight_15 rfl (lv_at hl 1 rfl) ?_
      refine zr_V (As := [.int (nI j)]) (rest := [.int sq]) (q := (RC, TC, 14)) ⟨hx, hb, hml, hown, hz⟩ (kC_madeBy l G B M x n mb z nf se lo go pa hn hx0 ck hck j hj) (zt_V zm_114 zm_116 zs_3 zm_1 zm_117) rfl rfl rfl (show _ ∧ _ ∧ _ ∧ _ = some 1 from by decide +kernel) ⟨Nat.le_of_ble_eq_true rfl, Nat.le_of_ble_eq_true rfl⟩ zE_blind (zE_at hE hS) hH hK hx0 rfl rfl hl.1 rfl (Nat.le_of_ble_eq_true rfl) dC_weight_16 ⟨Nat.zero_le _, Nat.zero_le _⟩ ?_
      refine lv_icmp_le (tgt := 24) hx hb dC_weight_19 (by decide) (fun c3 => ?_) (fun c3 => ?_)
      · exact absurd c3 (hs.resolve_left c2)
      · refine lv_iconst (v := (-1)) hx hb dC_weight_22 (by decide) ?_
        exact W.iret (v := (-1)) hx hb hr (fun t ht hW => ⟨rfl, ht⟩) (fun q h => by cases h) dC_weight_23

set_option maxHeartbeats 4000000 in
set_option maxRecDepth 100000 in
theorem kC_log_in (l : Launch) (G : zG) (B : Nat) (M : zw_M) (x n mb z nf se lo go pa : Nat) (hn : n ≤ 8) (hx0 : M x = some (.inr (1, zoC n mb z nf se lo go pa))) (lz : Nat → Nat) (hlz : M (z + 3 + n) = some (.inl (G.2.1 0, n, .inl (fun i => nI (lz i))))) (hlg : M (z + 2) = some (.inl (G.2.1 4, n, .inr (.inr (.inr (.inr (fun i => some (z + 3 + i)))))))) (f : Nat → Int32) (j k : Nat) (hj : j < n) (hlj : M (z + 3 + j) = some (.inl (G.2.1 0, n * 60, .inl f))) (hk : k < lz j) (hk2 : lz j ≤ n * 60) : Met l yC_log (Cond.code yC_log bC_log 3 (some .int) :: zT) { frames := 1, cells := 0, slots := 0, locals := 21 } (zp G B M [.ref x, .int (nI j), .int (nI k)]) (k2_QcV (.int (f k))) 0 0 (fun _ => False) := by
  refine Met.ofW (cc := bC_log) (maxL := 3) (ret := (some .int)) (by decide) rfl ?_
  intro p e s m args below meth c s₁ B0 hml hv
  obtain ⟨rfl, hE, hH⟩ := hv
  have hx := B0.exec
  have hb := B0.bytes
  have hr := B0.returns
  have hlocks := B0.notSynchronized
  have hz : ∀ w ∈ zT, w.before _ s = true := fun w h => atoms_spec (ws := Cond.code yC_log bC_log 3 (some .int) :: zT) B0.pre w (List.mem_cons_of_mem _ h)
  have hown : s.vm.findClass RC = some m.cls := findClass_of_methodNamed B0.named
  have hK := hE.1
  have hl := lv_entry ([.ref x, .int (nI j), .int (nI k)]) (n := 3) (Nat.le_of_ble_eq_true rfl)
  rw [lg_entry_eq]
  generalize (lg_sl ([.ref x, .int (nI j), .int (nI k)]) ++ List.replicate (3 - (lg_sl ([.ref x, .int (nI j), .int (nI k)])).length) Slot.unset).toArray = ls at hl ⊢
  have hl : lv_has ls 3 [(0, .ref x), (1, .int (nI j)), (2, .int (nI k))] := hl
  have hS : va_S (zw_A B) s.heap s.heap [] := va_S.rf
  refine lv_aload_n hx hb dC_log_0 rfl (lv_at hl 0 rfl) ?_
  refine lv_iload_n hx hb dC_log_1 rfl (lv_at hl 1 rfl) ?_
  refine zr_V (As := [.int (nI j)]) (rest := []) (q := (RC, TC, 14)) ⟨hx, hb, hml, hown, hz⟩ (kC_isReplica_in l G B M x n mb z nf se lo go pa hn hx0 j hj) (zt_V zm_93 zm_95 zs_2 zm_1 zm_96) rfl rfl rfl (show _ ∧ _ ∧ _ ∧ _ = some 1 from by decide +kernel) ⟨Nat.le_of_ble_eq_true rfl, Nat.le_of_ble_eq_true rfl⟩ zE_blind (zE_at hE hS) hH hK hx0 rfl rfl hl.1 rfl (Nat.le_of_ble_eq_true rfl) dC_log_2 ⟨Nat.zero_le _, Nat.zero_le _⟩ ?_
  refine zc_eq0 (tgt := 22) hx hb dC_log_5 (by decide) (by omega) (fun c => ?_) (fun c => ?_)
  · exact absurd c (by decide)
  · refine lv_iload_n hx hb dC_log_8 rfl (lv_at hl 2 rfl) ?_
    refine lv_if_lt (tgt := 22) hx hb dC_log_9 (by decide) (fun c2 => ?_) (fun c2 => ?_)
    · exact absurd c2 (nI_pos (by omega))
    · refine lv_iload_n hx hb dC_log_12 rfl (lv_at hl 2 rfl) ?_
      refine lv_aload_n hx hb dC_log_13 rfl (lv_at hl 0 rfl) ?_
      refine va_get (D := G.1) (ci := 1) (v := .ref (z + 3 + n)) (C := RC) (T := TC) (N := 14) hx hb hz iC hown hK (hH.one hx0) 0 rfl rfl 5 (by decide) (hz _ zm_36) (fun _ h9 => h9) rfl dC_log_14 ?_
      refine lv_iload_n hx hb dC_log_17 rfl (lv_at hl 1 rfl) ?_
      refine zw_iald hx hb hK hH 0 hlz rfl (j) rfl (hj) (by omega) dC_log_18 ?_
      refine zc_lt (tgt := 24) hx hb dC_log_19 (by decide) (by omega) (by omega) (fun c3 => ?_) (fun c3 => ?_)
      · refine lv_aload_n hx hb dC_log_24 rfl (lv_at hl 0 rfl) ?_
        refine va_get (D := G.1) (ci := 1) (v := .ref (z + 2)) (C := RC) (T := TC) (N := 14) hx hb hz iC hown hK (hH.one hx0) 0 rfl rfl 4 (by decide) (hz _ zm_35) (fun _ h9 => h9) rfl dC_log_25 ?_
        refine lv_iload_n hx hb dC_log_28 rfl (lv_at hl 1 rfl) ?_
        refine zw_aald hx hb hK hH 4 hlg rfl rfl (j) rfl (hj) (by omega) (v := .ref (z + 3 + j)) rfl dC_log_29 ?_
        refine lv_iload_n hx hb dC_log_30 rfl (lv_at hl 2 rfl) ?_
        refine zw_iald hx hb hK hH 0 hlj rfl (k) rfl (by omega) (by omega) dC_log_31 ?_
        exact W.iret (v := (f k)) hx hb hr (fun t ht hW => ⟨rfl, ht⟩) (fun q h => by cases h) dC_log_32
      · exact absurd c3 (by omega)

set_option maxHeartbeats 4000000 in
set_option maxRecDepth 100000 in
theorem kC_log_out1 (l : Launch) (G : zG) (B : Nat) (M : zw_M) (x n mb z nf se lo go pa : Nat) (hn : n ≤ 8) (hx0 : M x = some (.inr (1, zoC n mb z nf se lo go pa))) (a k : Int32) (ha : a < 0 ∨ nI n ≤ a) : Met l yC_log (Cond.code yC_log bC_log 3 (some .int) :: zT) { frames := 1, cells := 0, slots := 0, locals := 21 } (zp G B M [.ref x, .int a, .int k]) (k2_QcV (.int (-1))) 0 0 (fun _ => False) := by
  refine Met.ofW (cc := bC_log) (maxL := 3) (ret := (some .int)) (by decide) rfl ?_
  intro p e s m args below meth c s₁ B0 hml hv
  obtain ⟨rfl, hE, hH⟩ := hv
  have hx := B0.exec
  have hb := B0.bytes
  have hr := B0.returns
  have hlocks := B0.notSynchronized
  have hz : ∀ w ∈ zT, w.before _ s = true := fun w h => atoms_spec (ws := Cond.code yC_log bC_log 3 (some .int) :: zT) B0.pre w (List.mem_cons_of_mem _ h)
  have hown : s.vm.findClass RC = some m.cls := findClass_of_methodNamed B0.named
  have hK := hE.1
  have hl := lv_entry ([.ref x, .int a, .int k]) (n := 3) (Nat.le_of_ble_eq_true rfl)
  rw [lg_entry_eq]
  generalize (lg_sl ([.ref x, .int a, .int k]) ++ List.replicate (3 - (lg_sl ([.ref x, .int a, .int k])).length) Slot.unset).toArray = ls at hl ⊢
  have hl : lv_has ls 3 [(0, .ref x), (1, .int a), (2, .int k)] := hl
  have hS : va_S (zw_A B) s.heap s.heap [] := va_S.rf
  refine lv_aload_n hx hb dC_log_0 rfl (lv_at hl 0 rfl) ?_
  refine lv_iload_n hx hb dC_log_1 rfl (lv_at hl 1 rfl) ?_
  refine zr_V (As := [.int a]) (rest := []) (q := (RC, TC, 14)) ⟨hx, hb, hml, hown, hz⟩ (kC_isReplica_out l G B M x n mb z nf se lo go pa hn hx0 a ha) (zt_V zm_93 zm_95 zs_2 zm_1 zm_96) rfl rfl rfl (show _ ∧ _ ∧ _ ∧ _ = some 1 from by decide +kernel) ⟨Nat.le_of_ble_eq_true rfl, Nat.le_of_ble_eq_true rfl⟩ zE_blind (zE_at hE hS) hH hK hx0 rfl rfl hl.1 rfl (Nat.le_of_ble_eq_true rfl) dC_log_2 ⟨Nat.zero_le _, Nat.zero_le _⟩ ?_
  refine zc_eq0 (tgt := 22) hx hb dC_log_5 (by decide) (by omega) (fun c => ?_) (fun c => ?_)
  · refine lv_iconst (v := (-1)) hx hb dC_log_22 (by decide) ?_
    exact W.iret (v := (-1)) hx hb hr (fun t ht hW => ⟨rfl, ht⟩) (fun q h => by cases h) dC_log_23
  · exact absurd rfl c

set_option maxHeartbeats 4000000 in
set_option maxRecDepth 100000 in
theorem kC_log_out2 (l : Launch) (G : zG) (B : Nat) (M : zw_M) (x n mb z nf se lo go pa : Nat) (hn : n ≤ 8) (hx0 : M x = some (.inr (1, zoC n mb z nf se lo go pa))) (lz : Nat → Nat) (hlz : M (z + 3 + n) = some (.inl (G.2.1 0, n, .inl (fun i => nI (lz i))))) (j : Nat) (k : Int32) (hj : j < n) (hk : k < 0 ∨ ¬ k < nI (lz j)) : Met l yC_log (Cond.code yC_log bC_log 3 (some .int) :: zT) { frames := 1, cells := 0, slots := 0, locals := 21 } (zp G B M [.ref x, .int (nI j), .int k]) (k2_QcV (.int (-1))) 0 0 (fun _ => False) := by
  refine Met.ofW (cc := bC_log) (maxL := 3) (ret := (some .int)) (by decide) rfl ?_
  intro p e s m args below meth c s₁ B0 hml hv
  obtain ⟨rfl, hE, hH⟩ := hv
  have hx := B0.exec
  have hb := B0.bytes
  have hr := B0.returns
  have hlocks := B0.notSynchronized
  have hz : ∀ w ∈ zT, w.before _ s = true := fun w h => atoms_spec (ws := Cond.code yC_log bC_log 3 (some .int) :: zT) B0.pre w (List.mem_cons_of_mem _ h)
  have hown : s.vm.findClass RC = some m.cls := findClass_of_methodNamed B0.named
  have hK := hE.1
  have hl := lv_entry ([.ref x, .int (nI j), .int k]) (n := 3) (Nat.le_of_ble_eq_true rfl)
  rw [lg_entry_eq]
  generalize (lg_sl ([.ref x, .int (nI j), .int k]) ++ List.replicate (3 - (lg_sl ([.ref x, .int (nI j), .int k])).length) Slot.unset).toArray = ls at hl ⊢
  have hl : lv_has ls 3 [(0, .ref x), (1, .int (nI j)), (2, .int k)] := hl
  have hS : va_S (zw_A B) s.heap s.heap [] := va_S.rf
  refine lv_aload_n hx hb dC_log_0 rfl (lv_at hl 0 rfl) ?_
  refine lv_iload_n hx hb dC_log_1 rfl (lv_at hl 1 rfl) ?_
  refine zr_V (As := [.int (nI j)]) (rest := []) (q := (RC, TC, 14)) ⟨hx, hb, hml, hown, hz⟩ (kC_isReplica_in l G B M x n mb z nf se lo go pa hn hx0 j hj) (zt_V zm_93 zm_95 zs_2 zm_1 zm_96) rfl rfl rfl (show _ ∧ _ ∧ _ ∧ _ = some 1 from by decide +kernel) ⟨Nat.le_of_ble_eq_true rfl, Nat.le_of_ble_eq_true rfl⟩ zE_blind (zE_at hE hS) hH hK hx0 rfl rfl hl.1 rfl (Nat.le_of_ble_eq_true rfl) dC_log_2 ⟨Nat.zero_le _, Nat.zero_le _⟩ ?_
  refine zc_eq0 (tgt := 22) hx hb dC_log_5 (by decide) (by omega) (fun c => ?_) (fun c => ?_)
  · exact absurd c (by decide)
  · refine lv_iload_n hx hb dC_log_8 rfl (lv_at hl 2 rfl) ?_
    refine lv_if_lt (tgt := 22) hx hb dC_log_9 (by decide) (fun c2 => ?_) (fun c2 => ?_)
    · refine lv_iconst (v := (-1)) hx hb dC_log_22 (by decide) ?_
      exact W.iret (v := (-1)) hx hb hr (fun t ht hW => ⟨rfl, ht⟩) (fun q h => by cases h) dC_log_23
    · refine lv_iload_n hx hb dC_log_12 rfl (lv_at hl 2 rfl) ?_
      refine lv_aload_n hx hb dC_log_13 rfl (lv_at hl 0 rfl) ?_
      refine va_get (D := G.1) (ci := 1) (v := .ref (z + 3 + n)) (C := RC) (T := TC) (N := 14) hx hb hz iC hown hK (hH.one hx0) 0 rfl rfl 5 (by decide) (hz _ zm_36) (fun _ h9 => h9) rfl dC_log_14 ?_
      refine lv_iload_n hx hb dC_log_17 rfl (lv_at hl 1 rfl) ?_
      refine zw_iald hx hb hK hH 0 hlz rfl (j) rfl (hj) (by omega) dC_log_18 ?_
      refine lv_icmp_lt (tgt := 24) hx hb dC_log_19 (by decide) (fun c3 => ?_) (fun c3 => ?_)
      · exact absurd c3 (hk.resolve_left c2)
      · refine lv_iconst (v := (-1)) hx hb dC_log_22 (by decide) ?_
        exact W.iret (v := (-1)) hx hb hr (fun t ht hW => ⟨rfl, ht⟩) (fun q h => by cases h) dC_log_23

set_option maxHeartbeats 4000000 in
set_option maxRecDepth 100000 in
theorem kC_told_in (l : Launch) (G : zG) (B : Nat) (M : zw_M) (x n mb z nf se lo go pa : Nat) (hn : n ≤ 8) (hx0 : M x = some (.inr (1, zoC n mb z nf se lo go pa))) (ff : Nat → Option Nat) (hfl : M (z + 5 + 2 * n) = some (.inl (G.2.1 3, 120, .inr (.inr (.inr (.inr ff)))))) (hnf : nf ≤ 120) (j : Nat) (hj : j < nf) (q : Nat) (num snd rcv byt : Int32) (told : Int64) (ch : Nat) (hq0 : M q = some (.inr (0, zoM num snd rcv byt told ch))) (hq : ff j = some q) : Met l yC_told (Cond.code yC_told bC_told 3 (some .long) :: zT) { frames := 1, cells := 0, slots := 0, locals := 21 } (zp G B M [.ref x, .int (nI j)]) (k2_QcV (.long told)) 0 0 (fun _ => False) := by
  refine Met.ofW (cc := bC_told) (maxL := 3) (ret := (some .long)) (by decide) rfl ?_
  intro p e s m args below meth c s₁ B0 hml hv
  obtain ⟨rfl, hE, hH⟩ := hv
  have hx := B0.exec
  have hb := B0.bytes
  have hr := B0.returns
  have hlocks := B0.notSynchronized
  have hz : ∀ w ∈ zT, w.before _ s = true := fun w h => atoms_spec (ws := Cond.code yC_told bC_told 3 (some .long) :: zT) B0.pre w (List.mem_cons_of_mem _ h)
  have hown : s.vm.findClass RC = some m.cls := findClass_of_methodNamed B0.named
  have hK := hE.1
  have hl := lv_entry ([.ref x, .int (nI j)]) (n := 3) (Nat.le_of_ble_eq_true rfl)
  rw [lg_entry_eq]
  generalize (lg_sl ([.ref x, .int (nI j)]) ++ List.replicate (3 - (lg_sl ([.ref x, .int (nI j)])).length) Slot.unset).toArray = ls at hl ⊢
  have hl : lv_has ls 3 [(0, .ref x), (1, .int (nI j))] := hl
  have hS : va_S (zw_A B) s.heap s.heap [] := va_S.rf
  refine lv_aload_n hx hb dC_told_0 rfl (lv_at hl 0 rfl) ?_
  refine lv_iload_n hx hb dC_told_1 rfl (lv_at hl 1 rfl) ?_
  refine zr_V (As := [.int (nI j)]) (rest := []) (q := (RC, TC, 14)) ⟨hx, hb, hml, hown, hz⟩ (kC_messageAt_in l G B M x n mb z nf se lo go pa hn hx0 ff hfl hnf j q hj hq) (zt_V zm_81 zm_83 zs_0 zm_1 zm_84) rfl rfl rfl (show _ ∧ _ ∧ _ ∧ _ = some 1 from by decide +kernel) ⟨Nat.le_of_ble_eq_true rfl, Nat.le_of_ble_eq_true rfl⟩ zE_blind (zE_at hE hS) hH hK hx0 rfl rfl hl.1 rfl (Nat.le_of_ble_eq_true rfl) dC_told_2 ⟨Nat.zero_le _, Nat.zero_le _⟩ ?_
  refine lv_astore_n (lv' := [(2, .ref q), (0, .ref x), (1, .int (nI j))]) hx hb dC_told_5 rfl hl (by decide) rfl (fun ls hl => ?_)
  refine lv_aload_n hx hb dC_told_6 rfl (lv_at hl 0 rfl) ?_
  refine lv_ifnonnull (tgt := 16) hx hb dC_told_7 (by decide) ?_
  refine lv_aload_n hx hb dC_told_16 rfl (lv_at hl 0 rfl) ?_
  refine va_get (D := G.1) (ci := 0) (v := .long told) (C := RM) (T := TM) (N := 6) hx hb hz iM hown hK (hH.one hq0) 0 rfl rfl 4 (by decide) (hz _ zm_292) (fun _ h9 => h9) rfl dC_told_17 ?_
  exact W.lret (v := told) hx hb hr (fun t ht hW => ⟨rfl, ht⟩) (fun q h => by cases h) dC_told_20

set_option maxHeartbeats 4000000 in
set_option maxRecDepth 100000 in
theorem kC_told_out (l : Launch) (G : zG) (B : Nat) (M : zw_M) (x n mb z nf se lo go pa : Nat) (hn : n ≤ 8) (hx0 : M x = some (.inr (1, zoC n mb z nf se lo go pa))) (a : Int32) (ha : a < 0 ∨ nI nf ≤ a) : Met l yC_told (Cond.code yC_told bC_told 3 (some .long) :: zT) { frames := 1, cells := 0, slots := 0, locals := 21 } (zp G B M [.ref x, .int a]) (k2_QcV (.long (-1))) 0 0 (fun _ => False) := by
  refine Met.ofW (cc := bC_told) (maxL := 3) (ret := (some .long)) (by decide) rfl ?_
  intro p e s m args below meth c s₁ B0 hml hv
  obtain ⟨rfl, hE, hH⟩ := hv
  have hx := B0.exec
  have hb := B0.bytes
  have hr := B0.returns
  have hlocks := B0.notSynchronized
  have hz : ∀ w ∈ zT, w.before _ s = true := fun w h => atoms_spec (ws := Cond.code yC_told bC_told 3 (some .long) :: zT) B0.pre w (List.mem_cons_of_mem _ h)
  have hown : s.vm.findClass RC = some m.cls := findClass_of_methodNamed B0.named
  have hK := hE.1
  have hl := lv_entry ([.ref x, .int a]) (n := 3) (Nat.le_of_ble_eq_true rfl)
  rw [lg_entry_eq]
  generalize (lg_sl ([.ref x, .int a]) ++ List.replicate (3 - (lg_sl ([.ref x, .int a])).length) Slot.unset).toArray = ls at hl ⊢
  have hl : lv_has ls 3 [(0, .ref x), (1, .int a)] := hl
  have hS : va_S (zw_A B) s.heap s.heap [] := va_S.rf
  refine lv_aload_n hx hb dC_told_0 rfl (lv_at hl 0 rfl) ?_
  refine lv_iload_n hx hb dC_told_1 rfl (lv_at hl 1 rfl) ?_
  refine zr_V (As := [.int a]) (rest := []) (q := (RC, TC, 14)) ⟨hx, hb, hml, hown, hz⟩ (kC_messageAt_out l G B M x n mb z nf se lo go pa hn hx0 a ha) (zt_V zm_81 zm_83 zs_0 zm_1 zm_84) rfl rfl rfl (show _ ∧ _ ∧ _ ∧ _ = some 1 from by decide +kernel) ⟨Nat.le_of_ble_eq_true rfl, Nat.le_of_ble_eq_true rfl⟩ zE_blind (zE_at hE hS) hH hK hx0 rfl rfl hl.1 rfl (Nat.le_of_ble_eq_true rfl) dC_told_2 ⟨Nat.zero_le _, Nat.zero_le _⟩ ?_
  refine lv_astore_nN (lv' := [(2, .null), (0, .ref x), (1, .int a)]) hx hb dC_told_5 rfl hl (by decide) rfl (fun ls hl => ?_)
  refine lv_aload_nN hx hb dC_told_6 rfl (lv_at hl 0 rfl) ?_
  refine lv_ifnonnullN hx hb dC_told_7 ?_
  refine lv_ldc2 hx hb hown (hz _ zm_105) dC_told_10 ?_
  refine lv_goto (tgt := 20) hx hb dC_told_13 (by decide) ?_
  exact W.lret (v := (-1)) hx hb hr (fun t ht hW => ⟨rfl, ht⟩) (fun q h => by cases h) dC_told_20

set_option maxHeartbeats 4000000 in
set_option maxRecDepth 100000 in
theorem kC_inside_in (l : Launch) (G : zG) (B : Nat) (M : zw_M) (x n mb z nf se lo go pa : Nat) (hn : n ≤ 8) (hx0 : M x = some (.inr (1, zoC n mb z nf se lo go pa))) (ff : Nat → Option Nat) (hfl : M (z + 5 + 2 * n) = some (.inl (G.2.1 3, 120, .inr (.inr (.inr (.inr ff)))))) (hnf : nf ≤ 120) (j : Nat) (hj : j < nf) (q : Nat) (num snd rcv byt : Int32) (told : Int64) (ch : Nat) (hq0 : M q = some (.inr (0, zoM num snd rcv byt told ch))) (hq : ff j = some q) (len : Nat) (f : Nat → Int32) (hch : M ch = some (.inl (G.2.1 0, len, .inl f))) (hlen : len ≤ 480) (k : Nat) (hk : k < len) : Met l yC_inside (Cond.code yC_inside bC_inside 4 (some .int) :: zT) { frames := 1, cells := 0, slots := 0, locals := 21 } (zp G B M [.ref x, .int (nI j), .int (nI k)]) (k2_QcV (.int (f k))) 0 0 (fun _ => False) := by
  refine Met.ofW (cc := bC_inside) (maxL := 4) (ret := (some .int)) (by decide) rfl ?_
  intro p e s m args below meth c s₁ B0 hml hv
  obtain ⟨rfl, hE, hH⟩ := hv
  have hx := B0.exec
  have hb := B0.bytes
  have hr := B0.returns
  have hlocks := B0.notSynchronized
  have hz : ∀ w ∈ zT, w.before _ s = true := fun w h => atoms_spec (ws := Cond.code yC_inside bC_inside 4 (some .int) :: zT) B0.pre w (List.mem_cons_of_mem _ h)
  have hown : s.vm.findClass RC = some m.cls := findClass_of_methodNamed B0.named
  have hK := hE.1
  have hl := lv_entry ([.ref x, .int (nI j), .int (nI k)]) (n := 4) (Nat.le_of_ble_eq_true rfl)
  rw [lg_entry_eq]
  generalize (lg_sl ([.ref x, .int (nI j), .int (nI k)]) ++ List.replicate (4 - (lg_sl ([.ref x, .int (nI j), .int (nI k)])).length) Slot.unset).toArray = ls at hl ⊢
  have hl : lv_has ls 4 [(0, .ref x), (1, .int (nI j)), (2, .int (nI k))] := hl
  have hS : va_S (zw_A B) s.heap s.heap [] := va_S.rf
  refine lv_aload_n hx hb dC_inside_0 rfl (lv_at hl 0 rfl) ?_
  refine lv_iload_n hx hb dC_inside_1 rfl (lv_at hl 1 rfl) ?_
  refine zr_V (As := [.int (nI j)]) (rest := []) (q := (RC, TC, 14)) ⟨hx, hb, hml, hown, hz⟩ (kC_messageAt_in l G B M x n mb z nf se lo go pa hn hx0 ff hfl hnf j q hj hq) (zt_V zm_81 zm_83 zs_0 zm_1 zm_84) rfl rfl rfl (show _ ∧ _ ∧ _ ∧ _ = some 1 from by decide +kernel) ⟨Nat.le_of_ble_eq_true rfl, Nat.le_of_ble_eq_true rfl⟩ zE_blind (zE_at hE hS) hH hK hx0 rfl rfl hl.1 rfl (Nat.le_of_ble_eq_true rfl) dC_inside_2 ⟨Nat.zero_le _, Nat.zero_le _⟩ ?_
  refine lv_astore_n (lv' := [(3, .ref q), (0, .ref x), (1, .int (nI j)), (2, .int (nI k))]) hx hb dC_inside_5 rfl hl (by decide) rfl (fun ls hl => ?_)
  refine lv_aload_n hx hb dC_inside_6 rfl (lv_at hl 0 rfl) ?_
  refine lv_ifnull hx hb dC_inside_7 ?_
  refine lv_iload_n hx hb dC_inside_10 rfl (lv_at hl 3 rfl) ?_
  refine lv_if_lt (tgt := 23) hx hb dC_inside_11 (by decide) (fun c => ?_) (fun c => ?_)
  · exact absurd c (nI_pos (by omega))
  · refine lv_iload_n hx hb dC_inside_14 rfl (lv_at hl 3 rfl) ?_
    refine lv_aload_n hx hb dC_inside_15 rfl (lv_at hl 0 rfl) ?_
    refine va_get (D := G.1) (ci := 0) (v := .ref ch) (C := RM) (T := TM) (N := 6) hx hb hz iM hown hK (hH.one hq0) 0 rfl rfl 5 (by decide) (hz _ zm_294) (fun _ h9 => h9) rfl dC_inside_16 ?_
    refine zw_alen hx hb hK hH 0 hch rfl dC_inside_19 ?_
    refine zc_lt (tgt := 25) hx hb dC_inside_20 (by decide) (by omega) (by omega) (fun c2 => ?_) (fun c2 => ?_)
    · refine lv_aload_n hx hb dC_inside_25 rfl (lv_at hl 0 rfl) ?_
      refine va_get (D := G.1) (ci := 0) (v := .ref ch) (C := RM) (T := TM) (N := 6) hx hb hz iM hown hK (hH.one hq0) 0 rfl rfl 5 (by decide) (hz _ zm_294) (fun _ h9 => h9) rfl dC_inside_26 ?_
      refine lv_iload_n hx hb dC_inside_29 rfl (lv_at hl 3 rfl) ?_
      refine zw_iald hx hb hK hH 0 hch rfl (k) rfl (hk) (by omega) dC_inside_30 ?_
      exact W.iret (v := (f k)) hx hb hr (fun t ht hW => ⟨rfl, ht⟩) (fun q h => by cases h) dC_inside_31
    · exact absurd c2 (by omega)

set_option maxHeartbeats 4000000 in
set_option maxRecDepth 100000 in
theorem kC_inside_out2 (l : Launch) (G : zG) (B : Nat) (M : zw_M) (x n mb z nf se lo go pa : Nat) (hn : n ≤ 8) (hx0 : M x = some (.inr (1, zoC n mb z nf se lo go pa))) (ff : Nat → Option Nat) (hfl : M (z + 5 + 2 * n) = some (.inl (G.2.1 3, 120, .inr (.inr (.inr (.inr ff)))))) (hnf : nf ≤ 120) (j : Nat) (hj : j < nf) (q : Nat) (num snd rcv byt : Int32) (told : Int64) (ch : Nat) (hq0 : M q = some (.inr (0, zoM num snd rcv byt told ch))) (hq : ff j = some q) (len : Nat) (f : Nat → Int32) (hch : M ch = some (.inl (G.2.1 0, len, .inl f))) (hlen : len ≤ 480) (k : Int32) (hk : k < 0 ∨ ¬ k < nI len) : Met l yC_inside (Cond.code yC_inside bC_inside 4 (some .int) :: zT) { frames := 1, cells := 0, slots := 0, locals := 21 } (zp G B M [.ref x, .int (nI j), .int k]) (k2_QcV (.int (-1))) 0 0 (fun _ => False) := by
  refine Met.ofW (cc := bC_inside) (maxL := 4) (ret := (some .int)) (by decide) rfl ?_
  intro p e s m args below meth c s₁ B0 hml hv
  obtain ⟨rfl, hE, hH⟩ := hv
  have hx := B0.exec
  have hb := B0.bytes
  have hr := B0.returns
  have hlocks := B0.notSynchronized
  have hz : ∀ w ∈ zT, w.before _ s = true := fun w h => atoms_spec (ws := Cond.code yC_inside bC_inside 4 (some .int) :: zT) B0.pre w (List.mem_cons_of_mem _ h)
  have hown : s.vm.findClass RC = some m.cls := findClass_of_methodNamed B0.named
  have hK := hE.1
  have hl := lv_entry ([.ref x, .int (nI j), .int k]) (n := 4) (Nat.le_of_ble_eq_true rfl)
  rw [lg_entry_eq]
  generalize (lg_sl ([.ref x, .int (nI j), .int k]) ++ List.replicate (4 - (lg_sl ([.ref x, .int (nI j), .int k])).length) Slot.unset).toArray = ls at hl ⊢
  have hl : lv_has ls 4 [(0, .ref x), (1, .int (nI j)), (2, .int k)] := hl
  have hS : va_S (zw_A B) s.heap s.heap [] := va_S.rf
  refine lv_aload_n hx hb dC_inside_0 rfl (lv_at hl 0 rfl) ?_
  refine lv_iload_n hx hb dC_inside_1 rfl (lv_at hl 1 rfl) ?_
  refine zr_V (As := [.int (nI j)]) (rest := []) (q := (RC, TC, 14)) ⟨hx, hb, hml, hown, hz⟩ (kC_messageAt_in l G B M x n mb z nf se lo go pa hn hx0 ff hfl hnf j q hj hq) (zt_V zm_81 zm_83 zs_0 zm_1 zm_84) rfl rfl rfl (show _ ∧ _ ∧ _ ∧ _ = some 1 from by decide +kernel) ⟨Nat.le_of_ble_eq_true rfl, Nat.le_of_ble_eq_true rfl⟩ zE_blind (zE_at hE hS) hH hK hx0 rfl rfl hl.1 rfl (Nat.le_of_ble_eq_true rfl) dC_inside_2 ⟨Nat.zero_le _, Nat.zero_le _⟩ ?_
  refine lv_astore_n (lv' := [(3, .ref q), (0, .ref x), (1, .int (nI j)), (2, .int k)]) hx hb dC_inside_5 rfl hl (by decide) rfl (fun ls hl => ?_)
  refine lv_aload_n hx hb dC_inside_6 rfl (lv_at hl 0 rfl) ?_
  refine lv_ifnull hx hb dC_inside_7 ?_
  refine lv_iload_n hx hb dC_inside_10 rfl (lv_at hl 3 rfl) ?_
  refine lv_if_lt (tgt := 23) hx hb dC_inside_11 (by decide) (fun c => ?_) (fun c => ?_)
  · refine lv_iconst (v := (-1)) hx hb dC_inside_23 (by decide) ?_
    exact W.iret (v := (-1)) hx hb hr (fun t ht hW => ⟨rfl, ht⟩) (fun q h => by cases h) dC_inside_24
  · refine lv_iload_n hx hb dC_inside_14 rfl (lv_at hl 3 rfl) ?_
    refine lv_aload_n hx hb dC_inside_15 rfl (lv_at hl 0 rfl) ?_
    refine va_get (D := G.1) (ci := 0) (v := .ref ch) (C := RM) (T := TM) (N := 6) hx hb hz iM hown hK (hH.one hq0) 0 rfl rfl 5 (by decide) (hz _ zm_294) (fun _ h9 => h9) rfl dC_inside_16 ?_
    refine zw_alen hx hb hK hH 0 hch rfl dC_inside_19 ?_
    refine lv_icmp_lt (tgt := 25) hx hb dC_inside_20 (by decide) (fun c2 => ?_) (fun c2 => ?_)
    · exact absurd c2 (hk.resolve_left c)
    · refine lv_iconst (v := (-1)) hx hb dC_inside_23 (by decide) ?_
      exact W.iret (v := (-1)) hx hb hr (fun t ht hW => ⟨rfl, ht⟩) (fun q h => by cases h) dC_inside_24

set_option maxHeartbeats 4000000 in
set_option maxRecDepth 100000 in
theorem kC_inside_clock (l : Launch) (G : zG) (B : Nat) (M : zw_M) (x n mb z nf se lo go pa : Nat) (hn : n ≤ 8) (hx0 : M x = some (.inr (1, zoC n mb z nf se lo go pa))) (ff : Nat → Option Nat) (hfl : M (z + 5 + 2 * n) = some (.inl (G.2.1 3, 120, .inr (.inr (.inr (.inr ff)))))) (hnf : nf ≤ 120) (j : Nat) (hj : j < nf) (q : Nat) (num snd rcv byt : Int32) (told : Int64) (ch : Nat) (hq0 : M q = some (.inr (0, zoM num snd rcv byt told ch))) (hq : ff j = some q) (hct : ch = G.2.2) (k : Int32) : Met l yC_inside (Cond.code yC_inside bC_inside 4 (some .int) :: zT) { frames := 1, cells := 0, slots := 0, locals := 21 } (zp G B M [.ref x, .int (nI j), .int k]) (k2_QcV (.int (-1))) 0 0 (fun _ => False) := by
  refine Met.ofW (cc := bC_inside) (maxL := 4) (ret := (some .int)) (by decide) rfl ?_
  intro p e s m args below meth c s₁ B0 hml hv
  obtain ⟨rfl, hE, hH⟩ := hv
  have hx := B0.exec
  have hb := B0.bytes
  have hr := B0.returns
  have hlocks := B0.notSynchronized
  have hz : ∀ w ∈ zT, w.before _ s = true := fun w h => atoms_spec (ws := Cond.code yC_inside bC_inside 4 (some .int) :: zT) B0.pre w (List.mem_cons_of_mem _ h)
  have hown : s.vm.findClass RC = some m.cls := findClass_of_methodNamed B0.named
  have hK := hE.1
  have hl := lv_entry ([.ref x, .int (nI j), .int k]) (n := 4) (Nat.le_of_ble_eq_true rfl)
  rw [lg_entry_eq]
  generalize (lg_sl ([.ref x, .int (nI j), .int k]) ++ List.replicate (4 - (lg_sl ([.ref x, .int (nI j), .int k])).length) Slot.unset).toArray = ls at hl ⊢
  have hl : lv_has ls 4 [(0, .ref x), (1, .int (nI j)), (2, .int k)] := hl
  have hS : va_S (zw_A B) s.heap s.heap [] := va_S.rf
  refine lv_aload_n hx hb dC_inside_0 rfl (lv_at hl 0 rfl) ?_
  refine lv_iload_n hx hb dC_inside_1 rfl (lv_at hl 1 rfl) ?_
  refine zr_V (As := [.int (nI j)]) (rest := []) (q := (RC, TC, 14)) ⟨hx, hb, hml, hown, hz⟩ (kC_messageAt_in l G B M x n mb z nf se lo go pa hn hx0 ff hfl hnf j q hj hq) (zt_V zm_81 zm_83 zs_0 zm_1 zm_84) rfl rfl rfl (show _ ∧ _ ∧ _ ∧ _ = some 1 from by decide +kernel) ⟨Nat.le_of_ble_eq_true rfl, Nat.le_of_ble_eq_true rfl⟩ zE_blind (zE_at hE hS) hH hK hx0 rfl rfl hl.1 rfl (Nat.le_of_ble_eq_true rfl) dC_inside_2 ⟨Nat.zero_le _, Nat.zero_le _⟩ ?_
  refine lv_astore_n (lv' := [(3, .ref q), (0, .ref x), (1, .int (nI j)), (2, .int k)]) hx hb dC_inside_5 rfl hl (by decide) rfl (fun ls hl => ?_)
  refine lv_aload_n hx hb dC_inside_6 rfl (lv_at hl 0 rfl) ?_
  refine lv_ifnull hx hb dC_inside_7 ?_
  refine lv_iload_n hx hb dC_inside_10 rfl (lv_at hl 3 rfl) ?_
  refine lv_if_lt (tgt := 23) hx hb dC_inside_11 (by decide) (fun c => ?_) (fun c => ?_)
  · refine lv_iconst (v := (-1)) hx hb dC_inside_23 (by decide) ?_
    exact W.iret (v := (-1)) hx hb hr (fun t ht hW => ⟨rfl, ht⟩) (fun q h => by cases h) dC_inside_24
  · refine lv_iload_n hx hb dC_inside_14 rfl (lv_at hl 3 rfl) ?_
    refine lv_aload_n hx hb dC_inside_15 rfl (lv_at hl 0 rfl) ?_
    refine va_get (D := G.1) (ci := 0) (v := .ref ch) (C := RM) (T := TM) (N := 6) hx hb hz iM hown hK (hH.one hq0) 0 rfl rfl 5 (by decide) (hz _ zm_294) (fun _ h9 => h9) rfl dC_inside_16 ?_
    rw [hct]
    refine va_tlen (v := nI 0) hx hb hE.2.2.2.1 hS rfl dC_inside_19 ?_
    refine lv_icmp_lt (tgt := 25) hx hb dC_inside_20 (by decide) (fun c2 => ?_) (fun c2 => ?_)
    · exact absurd (by rw [← nI_0]; exact c2) c
    · refine lv_iconst (v := (-1)) hx hb dC_inside_23 (by decide) ?_
      exact W.iret (v := (-1)) hx hb hr (fun t ht hW => ⟨rfl, ht⟩) (fun q h => by cases h) dC_inside_24

set_option maxHeartbeats 4000000 in
set_option maxRecDepth 100000 in
theorem kC_inside_out1 (l : Launch) (G : zG) (B : Nat) (M : zw_M) (x n mb z nf se lo go pa : Nat) (hn : n ≤ 8) (hx0 : M x = some (.inr (1, zoC n mb z nf se lo go pa))) (a k : Int32) (ha : a < 0 ∨ nI nf ≤ a) : Met l yC_inside (Cond.code yC_inside bC_inside 4 (some .int) :: zT) { frames := 1, cells := 0, slots := 0, locals := 21 } (zp G B M [.ref x, .int a, .int k]) (k2_QcV (.int (-1))) 0 0 (fun _ => False) := by
  refine Met.ofW (cc := bC_inside) (maxL := 4) (ret := (some .int)) (by decide) rfl ?_
  intro p e s m args below meth c s₁ B0 hml hv
  obtain ⟨rfl, hE, hH⟩ := hv
  have hx := B0.exec
  have hb := B0.bytes
  have hr := B0.returns
  have hlocks := B0.notSynchronized
  have hz : ∀ w ∈ zT, w.before _ s = true := fun w h => atoms_spec (ws := Cond.code yC_inside bC_inside 4 (some .int) :: zT) B0.pre w (List.mem_cons_of_mem _ h)
  have hown : s.vm.findClass RC = some m.cls := findClass_of_methodNamed B0.named
  have hK := hE.1
  have hl := lv_entry ([.ref x, .int a, .int k]) (n := 4) (Nat.le_of_ble_eq_true rfl)
  rw [lg_entry_eq]
  generalize (lg_sl ([.ref x, .int a, .int k]) ++ List.replicate (4 - (lg_sl ([.ref x, .int a, .int k])).length) Slot.unset).toArray = ls at hl ⊢
  have hl : lv_has ls 4 [(0, .ref x), (1, .int a), (2, .int k)] := hl
  have hS : va_S (zw_A B) s.heap s.heap [] := va_S.rf
  refine lv_aload_n hx hb dC_inside_0 rfl (lv_at hl 0 rfl) ?_
  refine lv_iload_n hx hb dC_inside_1 rfl (lv_at hl 1 rfl) ?_
  refine zr_V (As := [.int a]) (rest := []) (q := (RC, TC, 14)) ⟨hx, hb, hml, hown, hz⟩ (kC_messageAt_out l G B M x n mb z nf se lo go pa hn hx0 a ha) (zt_V zm_81 zm_83 zs_0 zm_1 zm_84) rfl rfl rfl (show _ ∧ _ ∧ _ ∧ _ = some 1 from by decide +kernel) ⟨Nat.le_of_ble_eq_true rfl, Nat.le_of_ble_eq_true rfl⟩ zE_blind (zE_at hE hS) hH hK hx0 rfl rfl hl.1 rfl (Nat.le_of_ble_eq_true rfl) dC_inside_2 ⟨Nat.zero_le _, Nat.zero_le _⟩ ?_
  refine lv_astore_nN (lv' := [(3, .null), (0, .ref x), (1, .int a), (2, .int k)]) hx hb dC_inside_5 rfl hl (by decide) rfl (fun ls hl => ?_)
  refine lv_aload_nN hx hb dC_inside_6 rfl (lv_at hl 0 rfl) ?_
  refine lv_ifnullN (tgt := 23) hx hb dC_inside_7 (by decide) ?_
  refine lv_iconst (v := (-1)) hx hb dC_inside_23 (by decide) ?_
  exact W.iret (v := (-1)) hx hb hr (fun t ht hW => ⟨rfl, ht⟩) (fun q h => by cases h) dC_inside_24

set_option maxHeartbeats 4000000 in
set_option maxRecDepth 100000 in
theorem kC_clock_in (l : Launch) (G : zG) (B : Nat) (M : zw_M) (x n mb z nf se lo go pa : Nat) (hn : n ≤ 8) (hx0 : M x = some (.inr (1, zoC n mb z nf se lo go pa))) (ck : Nat → Int64) (hck : M (z + 1) = some (.inl (G.2.1 1, n, .inr (.inl ck)))) (j : Nat) (hj : j < n) : Met l yC_clock (Cond.code yC_clock bC_clock 2 (some .long) :: zT) { frames := 1, cells := 0, slots := 0, locals := 21 } (zp G B M [.ref x, .int (nI j)]) (k2_QcV (.long (ck j))) 0 0 (fun _ => False) := by
  refine Met.ofW (cc := bC_clock) (maxL := 2) (ret := (some .long)) (by decide) rfl ?_
  intro p e s m args below meth c s₁ B0 hml hv
  obtain ⟨rfl, hE, hH⟩ := hv
  have hx := B0.exec
  have hb := B0.bytes
  have hr := B0.returns
  have hlocks := B0.notSynchronized
  have hz : ∀ w ∈ zT, w.before _ s = true := fun w h => atoms_spec (ws := Cond.code yC_clock bC_clock 2 (some .long) :: zT) B0.pre w (List.mem_cons_of_mem _ h)
  have hown : s.vm.findClass RC = some m.cls := findClass_of_methodNamed B0.named
  have hK := hE.1
  have hl := lv_entry ([.ref x, .int (nI j)]) (n := 2) (Nat.le_of_ble_eq_true rfl)
  rw [lg_entry_eq]
  generalize (lg_sl ([.ref x, .int (nI j)]) ++ List.replicate (2 - (lg_sl ([.ref x, .int (nI j)])).length) Slot.unset).toArray = ls at hl ⊢
  have hl : lv_has ls 2 [(0, .ref x), (1, .int (nI j))] := hl
  have hS : va_S (zw_A B) s.heap s.heap [] := va_S.rf
  refine lv_aload_n hx hb dC_clock_0 rfl (lv_at hl 0 rfl) ?_
  refine lv_iload_n hx hb dC_clock_1 rfl (lv_at hl 1 rfl) ?_
  refine zr_V (As := [.int (nI j)]) (rest := []) (q := (RC, TC, 14)) ⟨hx, hb, hml, hown, hz⟩ (kC_isReplica_in l G B M x n mb z nf se lo go pa hn hx0 j hj) (zt_V zm_93 zm_95 zs_2 zm_1 zm_96) rfl rfl rfl (show _ ∧ _ ∧ _ ∧ _ = some 1 from by decide +kernel) ⟨Nat.le_of_ble_eq_true rfl, Nat.le_of_ble_eq_true rfl⟩ zE_blind (zE_at hE hS) hH hK hx0 rfl rfl hl.1 rfl (Nat.le_of_ble_eq_true rfl) dC_clock_2 ⟨Nat.zero_le _, Nat.zero_le _⟩ ?_
  refine zc_ne0 (tgt := 18) hx hb dC_clock_5 (by decide) (by omega) (fun c => ?_) (fun c => ?_)
  · refine lv_aload_n hx hb dC_clock_18 rfl (lv_at hl 0 rfl) ?_
    refine va_get (D := G.1) (ci := 1) (v := .ref (z + 1)) (C := RC) (T := TC) (N := 14) hx hb hz iC hown hK (hH.one hx0) 0 rfl rfl 3 (by decide) (hz _ zm_34) (fun _ h9 => h9) rfl dC_clock_19 ?_
    refine lv_iload_n hx hb dC_clock_22 rfl (lv_at hl 1 rfl) ?_
    refine zw_lald hx hb hK hH 1 hck rfl (j) rfl (hj) (by omega) dC_clock_23 ?_
    exact W.lret (v := (ck j)) hx hb hr (fun t ht hW => ⟨rfl, ht⟩) (fun q h => by cases h) dC_clock_24
  · exact absurd c (by decide)

set_option maxHeartbeats 4000000 in
set_option maxRecDepth 100000 in
theorem kC_lacks_in (l : Launch) (G : zG) (B : Nat) (M : zw_M) (x n mb z nf se lo go pa : Nat) (hn : n ≤ 8) (hx0 : M x = some (.inr (1, zoC n mb z nf se lo go pa))) (ck : Nat → Int64) (hck : M (z + 1) = some (.inl (G.2.1 1, n, .inr (.inl ck)))) (lz : Nat → Nat) (hlz : M (z + 3 + n) = some (.inl (G.2.1 0, n, .inl (fun i => nI (lz i))))) (j : Nat) (hj : j < n) (hle : lz j ≤ zsum (fun a => zb (ck a) a) n) : Met l yC_lacks (Cond.code yC_lacks bC_lacks 2 (some .int) :: zT) { frames := 3, cells := 0, slots := 0, locals := 66 } (zp G B M [.ref x, .int (nI j)]) (k2_QcV (.int (nI (zsum (fun a => zb (ck a) a) n - lz j)))) 0 0 (fun _ => False) := by
  refine Met.ofW (cc := bC_lacks) (maxL := 2) (ret := (some .int)) (by decide) rfl ?_
  intro p e s m args below meth c s₁ B0 hml hv
  obtain ⟨rfl, hE, hH⟩ := hv
  have hx := B0.exec
  have hb := B0.bytes
  have hr := B0.returns
  have hlocks := B0.notSynchronized
  have hz : ∀ w ∈ zT, w.before _ s = true := fun w h => atoms_spec (ws := Cond.code yC_lacks bC_lacks 2 (some .int) :: zT) B0.pre w (List.mem_cons_of_mem _ h)
  have hown : s.vm.findClass RC = some m.cls := findClass_of_methodNamed B0.named
  have hK := hE.1
  have hl := lv_entry ([.ref x, .int (nI j)]) (n := 2) (Nat.le_of_ble_eq_true rfl)
  rw [lg_entry_eq]
  generalize (lg_sl ([.ref x, .int (nI j)]) ++ List.replicate (2 - (lg_sl ([.ref x, .int (nI j)])).length) Slot.unset).toArray = ls at hl ⊢
  have hl : lv_has ls 2 [(0, .ref x), (1, .int (nI j))] := hl
  have hS : va_S (zw_A B) s.heap s.heap [] := va_S.rf
  refine lv_aload_n hx hb dC_lacks_0 rfl (lv_at hl 0 rfl) ?_
  refine lv_iload_n hx hb dC_lacks_1 rfl (lv_at hl 1 rfl) ?_
  refine zr_V (As := [.int (nI j)]) (rest := []) (q := (RC, TC, 14)) ⟨hx, hb, hml, hown, hz⟩ (kC_isReplica_in l G B M x n mb z nf se lo go pa hn hx0 j hj) (zt_V zm_93 zm_95 zs_2 zm_1 zm_96) rfl rfl rfl (show _ ∧ _ ∧ _ ∧ _ = some 1 from by decide +kernel) ⟨Nat.le_of_ble_eq_true rfl, Nat.le_of_ble_eq_true rfl⟩ zE_blind (zE_at hE hS) hH hK hx0 rfl rfl hl.1 rfl (Nat.le_of_ble_eq_true rfl) dC_lacks_2 ⟨Nat.zero_le _, Nat.zero_le _⟩ ?_
  refine zc_ne0 (tgt := 18) hx hb dC_lacks_5 (by decide) (by omega) (fun c => ?_) (fun c => ?_)
  · refine lv_aload_n hx hb dC_lacks_18 rfl (lv_at hl 0 rfl) ?_
    refine zr_V (As := []) (rest := []) (q := (RC, TC, 14)) ⟨hx, hb, hml, hown, hz⟩ (kC_madeByAll l G B M x n mb z nf se lo go pa hn hx0 ck hck) (zt_V zm_129 zm_131 zs_5 zm_1 zm_132) rfl rfl rfl (show _ ∧ _ ∧ _ ∧ _ = some 0 from by decide +kernel) ⟨Nat.le_of_ble_eq_true rfl, Nat.le_of_ble_eq_true rfl⟩ zE_blind (zE_at hE hS) hH hK hx0 rfl rfl hl.1 rfl (Nat.le_of_ble_eq_true rfl) dC_lacks_19 ⟨Nat.zero_le _, Nat.zero_le _⟩ ?_
    refine lv_aload_n hx hb dC_lacks_22 rfl (lv_at hl 0 rfl) ?_
    refine va_get (D := G.1) (ci := 1) (v := .ref (z + 3 + n)) (C := RC) (T := TC) (N := 14) hx hb hz iC hown hK (hH.one hx0) 0 rfl rfl 5 (by decide) (hz _ zm_36) (fun _ h9 => h9) rfl dC_lacks_23 ?_
    refine lv_iload_n hx hb dC_lacks_26 rfl (lv_at hl 1 rfl) ?_
    refine zw_iald hx hb hK hH 0 hlz rfl (j) rfl (hj) (by omega) dC_lacks_27 ?_
    refine lv_isub hx hb dC_lacks_28 ?_
    refine zw_ti (pk_sub hle) ?_
    exact W.iret (v := (nI (zsum (fun a => zb (ck a) a) n - lz j))) hx hb hr (fun t ht hW => ⟨rfl, ht⟩) (fun q h => by cases h) dC_lacks_29
  · exact absurd c (by decide)

set_option maxHeartbeats 4000000 in
set_option maxRecDepth 100000 in
theorem kC_message_0 (l : Launch) (G : zG) (B : Nat) (M : zw_M) (x n mb z nf se lo go pa : Nat) (hn : n ≤ 8) (hx0 : M x = some (.inr (1, zoC n mb z nf se lo go pa))) (ff : Nat → Option Nat) (hfl : M (z + 5 + 2 * n) = some (.inl (G.2.1 3, 120, .inr (.inr (.inr (.inr ff)))))) (hnf : nf ≤ 120) (j : Nat) (hj : j < nf) (q : Nat) (num snd rcv byt : Int32) (told : Int64) (ch : Nat) (hq0 : M q = some (.inr (0, zoM num snd rcv byt told ch))) (hq : ff j = some q) : Met l yC_message (Cond.code yC_message bC_message 4 (some .int) :: zT) { frames := 1, cells := 0, slots := 0, locals := 21 } (zp G B M [.ref x, .int (nI j), .int (nI 0)]) (k2_QcV (.int num)) 0 0 (fun _ => False) := by
  refine Met.ofW (cc := bC_message) (maxL := 4) (ret := (some .int)) (by decide) rfl ?_
  intro p e s m args below meth c s₁ B0 hml hv
  obtain ⟨rfl, hE, hH⟩ := hv
  have hx := B0.exec
  have hb := B0.bytes
  have hr := B0.returns
  have hlocks := B0.notSynchronized
  have hz : ∀ w ∈ zT, w.before _ s = true := fun w h => atoms_spec (ws := Cond.code yC_message bC_message 4 (some .int) :: zT) B0.pre w (List.mem_cons_of_mem _ h)
  have hown : s.vm.findClass RC = some m.cls := findClass_of_methodNamed B0.named
  have hK := hE.1
  have hl := lv_entry ([.ref x, .int (nI j), .int (nI 0)]) (n := 4) (Nat.le_of_ble_eq_true rfl)
  rw [lg_entry_eq]
  generalize (lg_sl ([.ref x, .int (nI j), .int (nI 0)]) ++ List.replicate (4 - (lg_sl ([.ref x, .int (nI j), .int (nI 0)])).length) Slot.unset).toArray = ls at hl ⊢
  have hl : lv_has ls 4 [(0, .ref x), (1, .int (nI j)), (2, .int (nI 0))] := hl
  have hS : va_S (zw_A B) s.heap s.heap [] := va_S.rf
  refine lv_aload_n hx hb dC_message_0 rfl (lv_at hl 0 rfl) ?_
  refine lv_iload_n hx hb dC_message_1 rfl (lv_at hl 1 rfl) ?_
  refine zr_V (As := [.int (nI j)]) (rest := []) (q := (RC, TC, 14)) ⟨hx, hb, hml, hown, hz⟩ (kC_messageAt_in l G B M x n mb z nf se lo go pa hn hx0 ff hfl hnf j q hj hq) (zt_V zm_81 zm_83 zs_0 zm_1 zm_84) rfl rfl rfl (show _ ∧ _ ∧ _ ∧ _ = some 1 from by decide +kernel) ⟨Nat.le_of_ble_eq_true rfl, Nat.le_of_ble_eq_true rfl⟩ zE_blind (zE_at hE hS) hH hK hx0 rfl rfl hl.1 rfl (Nat.le_of_ble_eq_true rfl) dC_message_2 ⟨Nat.zero_le _, Nat.zero_le _⟩ ?_
  refine lv_astore_n (lv' := [(3, .ref q), (0, .ref x), (1, .int (nI j)), (2, .int (nI 0))]) hx hb dC_message_5 rfl hl (by decide) rfl (fun ls hl => ?_)
  refine lv_aload_n hx hb dC_message_6 rfl (lv_at hl 0 rfl) ?_
  refine lv_ifnull hx hb dC_message_7 ?_
  refine lv_iload_n hx hb dC_message_10 rfl (lv_at hl 3 rfl) ?_
  refine lv_if_lt (tgt := 19) hx hb dC_message_11 (by decide) (fun c => ?_) (fun c => ?_)
  · exact absurd c (by decide)
  · refine lv_iload_n hx hb dC_message_14 rfl (lv_at hl 3 rfl) ?_
    refine lv_iconst (v := nI 4) hx hb dC_message_15 (by decide) ?_
    refine zc_le (tgt := 29) hx hb dC_message_16 (by decide) (by decide) (by decide) (fun c2 => ?_) (fun c2 => ?_)
    · refine lv_iload_n hx hb dC_message_29 rfl (lv_at hl 3 rfl) ?_
      refine lv_tableIn (tgt := 60) hx hb dC_message_30 (by decide) (by decide) rfl (by decide) ?_
      refine lv_aload_n hx hb dC_message_60 rfl (lv_at hl 0 rfl) ?_
      refine va_get (D := G.1) (ci := 0) (v := .int num) (C := RM) (T := TM) (N := 6) hx hb hz iM hown hK (hH.one hq0) 0 rfl rfl 0 (by decide) (hz _ zm_284) (fun _ h9 => h9) rfl dC_message_61 ?_
      exact W.iret (v := num) hx hb hr (fun t ht hW => ⟨rfl, ht⟩) (fun q h => by cases h) dC_message_64
    · exact absurd c2 (by decide)

set_option maxHeartbeats 4000000 in
set_option maxRecDepth 100000 in
theorem kC_message_1 (l : Launch) (G : zG) (B : Nat) (M : zw_M) (x n mb z nf se lo go pa : Nat) (hn : n ≤ 8) (hx0 : M x = some (.inr (1, zoC n mb z nf se lo go pa))) (ff : Nat → Option Nat) (hfl : M (z + 5 + 2 * n) = some (.inl (G.2.1 3, 120, .inr (.inr (.inr (.inr ff)))))) (hnf : nf ≤ 120) (j : Nat) (hj : j < nf) (q : Nat) (num snd rcv byt : Int32) (told : Int64) (ch : Nat) (hq0 : M q = some (.inr (0, zoM num snd rcv byt told ch))) (hq : ff j = some q) : Met l yC_message (Cond.code yC_message bC_message 4 (some .int) :: zT) { frames := 1, cells := 0, slots := 0, locals := 21 } (zp G B M [.ref x, .int (nI j), .int (nI 1)]) (k2_QcV (.int snd)) 0 0 (fun _ => False) := by
  refine Met.ofW (cc := bC_message) (maxL := 4) (ret := (some .int)) (by decide) rfl ?_
  intro p e s m args below meth c s₁ B0 hml hv
  obtain ⟨rfl, hE, hH⟩ := hv
  have hx := B0.exec
  have hb := B0.bytes
  have hr := B0.returns
  have hlocks := B0.notSynchronized
  have hz : ∀ w ∈ zT, w.before _ s = true := fun w h => atoms_spec (ws := Cond.code yC_message bC_message 4 (some .int) :: zT) B0.pre w (List.mem_cons_of_mem _ h)
  have hown : s.vm.findClass RC = some m.cls := findClass_of_methodNamed B0.named
  have hK := hE.1
  have hl := lv_entry ([.ref x, .int (nI j), .int (nI 1)]) (n := 4) (Nat.le_of_ble_eq_true rfl)
  rw [lg_entry_eq]
  generalize (lg_sl ([.ref x, .int (nI j), .int (nI 1)]) ++ List.replicate (4 - (lg_sl ([.ref x, .int (nI j), .int (nI 1)])).length) Slot.unset).toArray = ls at hl ⊢
  have hl : lv_has ls 4 [(0, .ref x), (1, .int (nI j)), (2, .int (nI 1))] := hl
  have hS : va_S (zw_A B) s.heap s.heap [] := va_S.rf
  refine lv_aload_n hx hb dC_message_0 rfl (lv_at hl 0 rfl) ?_
  refine lv_iload_n hx hb dC_message_1 rfl (lv_at hl 1 rfl) ?_
  refine zr_V (As := [.int (nI j)]) (rest := []) (q := (RC, TC, 14)) ⟨hx, hb, hml, hown, hz⟩ (kC_messageAt_in l G B M x n mb z nf se lo go pa hn hx0 ff hfl hnf j q hj hq) (zt_V zm_81 zm_83 zs_0 zm_1 zm_84) rfl rfl rfl (show _ ∧ _ ∧ _ ∧ _ = some 1 from by decide +kernel) ⟨Nat.le_of_ble_eq_true rfl, Nat.le_of_ble_eq_true rfl⟩ zE_blind (zE_at hE hS) hH hK hx0 rfl rfl hl.1 rfl (Nat.le_of_ble_eq_true rfl) dC_message_2 ⟨Nat.zero_le _, Nat.zero_le _⟩ ?_
  refine lv_astore_n (lv' := [(3, .ref q), (0, .ref x), (1, .int (nI j)), (2, .int (nI 1))]) hx hb dC_message_5 rfl hl (by decide) rfl (fun ls hl => ?_)
  refine lv_aload_n hx hb dC_message_6 rfl (lv_at hl 0 rfl) ?_
  refine lv_ifnull hx hb dC_message_7 ?_
  refine lv_iload_n hx hb dC_message_10 rfl (lv_at hl 3 rfl) ?_
  refine lv_if_lt (tgt := 19) hx hb dC_message_11 (by decide) (fun c => ?_) (fun c => ?_)
  · exact absurd c (by decide)
  · refine lv_iload_n hx hb dC_message_14 rfl (lv_at hl 3 rfl) ?_
    refine lv_iconst (v := nI 4) hx hb dC_message_15 (by decide) ?_
    refine zc_le (tgt := 29) hx hb dC_message_16 (by decide) (by decide) (by decide) (fun c2 => ?_) (fun c2 => ?_)
    · refine lv_iload_n hx hb dC_message_29 rfl (lv_at hl 3 rfl) ?_
      refine lv_tableIn (tgt := 65) hx hb dC_message_30 (by decide) (by decide) rfl (by decide) ?_
      refine lv_aload_n hx hb dC_message_65 rfl (lv_at hl 0 rfl) ?_
      refine va_get (D := G.1) (ci := 0) (v := .int snd) (C := RM) (T := TM) (N := 6) hx hb hz iM hown hK (hH.one hq0) 0 rfl rfl 1 (by decide) (hz _ zm_286) (fun _ h9 => h9) rfl dC_message_66 ?_
      exact W.iret (v := snd) hx hb hr (fun t ht hW => ⟨rfl, ht⟩) (fun q h => by cases h) dC_message_69
    · exact absurd c2 (by decide)

set_option maxHeartbeats 4000000 in
set_option maxRecDepth 100000 in
theorem kC_message_2 (l : Launch) (G : zG) (B : Nat) (M : zw_M) (x n mb z nf se lo go pa : Nat) (hn : n ≤ 8) (hx0 : M x = some (.inr (1, zoC n mb z nf se lo go pa))) (ff : Nat → Option Nat) (hfl : M (z + 5 + 2 * n) = some (.inl (G.2.1 3, 120, .inr (.inr (.inr (.inr ff)))))) (hnf : nf ≤ 120) (j : Nat) (hj : j < nf) (q : Nat) (num snd rcv byt : Int32) (told : Int64) (ch : Nat) (hq0 : M q = some (.inr (0, zoM num snd rcv byt told ch))) (hq : ff j = some q) : Met l yC_message (Cond.code yC_message bC_message 4 (some .int) :: zT) { frames := 1, cells := 0, slots := 0, locals := 21 } (zp G B M [.ref x, .int (nI j), .int (nI 2)]) (k2_QcV (.int rcv)) 0 0 (fun _ => False) := by
  refine Met.ofW (cc := bC_message) (maxL := 4) (ret := (some .int)) (by decide) rfl ?_
  intro p e s m args below meth c s₁ B0 hml hv
  obtain ⟨rfl, hE, hH⟩ := hv
  have hx := B0.exec
  have hb := B0.bytes
  have hr := B0.returns
  have hlocks := B0.notSynchronized
  have hz : ∀ w ∈ zT, w.before _ s = true := fun w h => atoms_spec (ws := Cond.code yC_message bC_message 4 (some .int) :: zT) B0.pre w (List.mem_cons_of_mem _ h)
  have hown : s.vm.findClass RC = some m.cls := findClass_of_methodNamed B0.named
  have hK := hE.1
  have hl := lv_entry ([.ref x, .int (nI j), .int (nI 2)]) (n := 4) (Nat.le_of_ble_eq_true rfl)
  rw [lg_entry_eq]
  generalize (lg_sl ([.ref x, .int (nI j), .int (nI 2)]) ++ List.replicate (4 - (lg_sl ([.ref x, .int (nI j), .int (nI 2)])).length) Slot.unset).toArray = ls at hl ⊢
  have hl : lv_has ls 4 [(0, .ref x), (1, .int (nI j)), (2, .int (nI 2))] := hl
  have hS : va_S (zw_A B) s.heap s.heap [] := va_S.rf
  refine lv_aload_n hx hb dC_message_0 rfl (lv_at hl 0 rfl) ?_
  refine lv_iload_n hx hb dC_message_1 rfl (lv_at hl 1 rfl) ?_
  refine zr_V (As := [.int (nI j)]) (rest := []) (q := (RC, TC, 14)) ⟨hx, hb, hml, hown, hz⟩ (kC_messageAt_in l G B M x n mb z nf se lo go pa hn hx0 ff hfl hnf j q hj hq) (zt_V zm_81 zm_83 zs_0 zm_1 zm_84) rfl rfl rfl (show _ ∧ _ ∧ _ ∧ _ = some 1 from by decide +kernel) ⟨Nat.le_of_ble_eq_true rfl, Nat.le_of_ble_eq_true rfl⟩ zE_blind (zE_at hE hS) hH hK hx0 rfl rfl hl.1 rfl (Nat.le_of_ble_eq_true rfl) dC_message_2 ⟨Nat.zero_le _, Nat.zero_le _⟩ ?_
  refine lv_astore_n (lv' := [(3, .ref q), (0, .ref x), (1, .int (nI j)), (2, .int (nI 2))]) hx hb dC_message_5 rfl hl (by decide) rfl (fun ls hl => ?_)
  refine lv_aload_n hx hb dC_message_6 rfl (lv_at hl 0 rfl) ?_
  refine lv_ifnull hx hb dC_message_7 ?_
  refine lv_iload_n hx hb dC_message_10 rfl (lv_at hl 3 rfl) ?_
  refine lv_if_lt (tgt := 19) hx hb dC_message_11 (by decide) (fun c => ?_) (fun c => ?_)
  · exact absurd c (by decide)
  · refine lv_iload_n hx hb dC_message_14 rfl (lv_at hl 3 rfl) ?_
    refine lv_iconst (v := nI 4) hx hb dC_message_15 (by decide) ?_
    refine zc_le (tgt := 29) hx hb dC_message_16 (by decide) (by decide) (by decide) (fun c2 => ?_) (fun c2 => ?_)
    · refine lv_iload_n hx hb dC_message_29 rfl (lv_at hl 3 rfl) ?_
      refine lv_tableIn (tgt := 70) hx hb dC_message_30 (by decide) (by decide) rfl (by decide) ?_
      refine lv_aload_n hx hb dC_message_70 rfl (lv_at hl 0 rfl) ?_
      refine va_get (D := G.1) (ci := 0) (v := .int rcv) (C := RM) (T := TM) (N := 6) hx hb hz iM hown hK (hH.one hq0) 0 rfl rfl 2 (by decide) (hz _ zm_288) (fun _ h9 => h9) rfl dC_message_71 ?_
      exact W.iret (v := rcv) hx hb hr (fun t ht hW => ⟨rfl, ht⟩) (fun q h => by cases h) dC_message_74
    · exact absurd c2 (by decide)

set_option maxHeartbeats 4000000 in
set_option maxRecDepth 100000 in
theorem kC_message_3 (l : Launch) (G : zG) (B : Nat) (M : zw_M) (x n mb z nf se lo go pa : Nat) (hn : n ≤ 8) (hx0 : M x = some (.inr (1, zoC n mb z nf se lo go pa))) (ff : Nat → Option Nat) (hfl : M (z + 5 + 2 * n) = some (.inl (G.2.1 3, 120, .inr (.inr (.inr (.inr ff)))))) (hnf : nf ≤ 120) (j : Nat) (hj : j < nf) (q : Nat) (num snd rcv byt : Int32) (told : Int64) (ch : Nat) (hq0 : M q = some (.inr (0, zoM num snd rcv byt told ch))) (hq : ff j = some q) : Met l yC_message (Cond.code yC_message bC_message 4 (some .int) :: zT) { frames := 1, cells := 0, slots := 0, locals := 21 } (zp G B M [.ref x, .int (nI j), .int (nI 3)]) (k2_QcV (.int byt)) 0 0 (fun _ => False) := by
  refine Met.ofW (cc := bC_message) (maxL := 4) (ret := (some .int)) (by decide) rfl ?_
  intro p e s m args below meth c s₁ B0 hml hv
  obtain ⟨rfl, hE, hH⟩ := hv
  have hx := B0.exec
  have hb := B0.bytes
  have hr := B0.returns
  have hlocks := B0.notSynchronized
  have hz : ∀ w ∈ zT, w.before _ s = true := fun w h => atoms_spec (ws := Cond.code yC_message bC_message 4 (some .int) :: zT) B0.pre w (List.mem_cons_of_mem _ h)
  have hown : s.vm.findClass RC = some m.cls := findClass_of_methodNamed B0.named
  have hK := hE.1
  have hl := lv_entry ([.ref x, .int (nI j), .int (nI 3)]) (n := 4) (Nat.le_of_ble_eq_true rfl)
  rw [lg_entry_eq]
  generalize (lg_sl ([.ref x, .int (nI j), .int (nI 3)]) ++ List.replicate (4 - (lg_sl ([.ref x, .int (nI j), .int (nI 3)])).length) Slot.unset).toArray = ls at hl ⊢
  have hl : lv_has ls 4 [(0, .ref x), (1, .int (nI j)), (2, .int (nI 3))] := hl
  have hS : va_S (zw_A B) s.heap s.heap [] := va_S.rf
  refine lv_aload_n hx hb dC_message_0 rfl (lv_at hl 0 rfl) ?_
  refine lv_iload_n hx hb dC_message_1 rfl (lv_at hl 1 rfl) ?_
  refine zr_V (As := [.int (nI j)]) (rest := []) (q := (RC, TC, 14)) ⟨hx, hb, hml, hown, hz⟩ (kC_messageAt_in l G B M x n mb z nf se lo go pa hn hx0 ff hfl hnf j q hj hq) (zt_V zm_81 zm_83 zs_0 zm_1 zm_84) rfl rfl rfl (show _ ∧ _ ∧ _ ∧ _ = some 1 from by decide +kernel) ⟨Nat.le_of_ble_eq_true rfl, Nat.le_of_ble_eq_true rfl⟩ zE_blind (zE_at hE hS) hH hK hx0 rfl rfl hl.1 rfl (Nat.le_of_ble_eq_true rfl) dC_message_2 ⟨Nat.zero_le _, Nat.zero_le _⟩ ?_
  refine lv_astore_n (lv' := [(3, .ref q), (0, .ref x), (1, .int (nI j)), (2, .int (nI 3))]) hx hb dC_message_5 rfl hl (by decide) rfl (fun ls hl => ?_)
  refine lv_aload_n hx hb dC_message_6 rfl (lv_at hl 0 rfl) ?_
  refine lv_ifnull hx hb dC_message_7 ?_
  refine lv_iload_n hx hb dC_message_10 rfl (lv_at hl 3 rfl) ?_
  refine lv_if_lt (tgt := 19) hx hb dC_message_11 (by decide) (fun c => ?_) (fun c => ?_)
  · exact absurd c (by decide)
  · refine lv_iload_n hx hb dC_message_14 rfl (lv_at hl 3 rfl) ?_
    refine lv_iconst (v := nI 4) hx hb dC_message_15 (by decide) ?_
    refine zc_le (tgt := 29) hx hb dC_message_16 (by decide) (by decide) (by decide) (fun c2 => ?_) (fun c2 => ?_)
    · refine lv_iload_n hx hb dC_message_29 rfl (lv_at hl 3 rfl) ?_
      refine lv_tableIn (tgt := 75) hx hb dC_message_30 (by decide) (by decide) rfl (by decide) ?_
      refine lv_aload_n hx hb dC_message_75 rfl (lv_at hl 0 rfl) ?_
      refine va_get (D := G.1) (ci := 0) (v := .int byt) (C := RM) (T := TM) (N := 6) hx hb hz iM hown hK (hH.one hq0) 0 rfl rfl 3 (by decide) (hz _ zm_290) (fun _ h9 => h9) rfl dC_message_76 ?_
      exact W.iret (v := byt) hx hb hr (fun t ht hW => ⟨rfl, ht⟩) (fun q h => by cases h) dC_message_79
    · exact absurd c2 (by decide)

set_option maxHeartbeats 4000000 in
set_option maxRecDepth 100000 in
theorem kC_message_4c (l : Launch) (G : zG) (B : Nat) (M : zw_M) (x n mb z nf se lo go pa : Nat) (hn : n ≤ 8) (hx0 : M x = some (.inr (1, zoC n mb z nf se lo go pa))) (ff : Nat → Option Nat) (hfl : M (z + 5 + 2 * n) = some (.inl (G.2.1 3, 120, .inr (.inr (.inr (.inr ff)))))) (hnf : nf ≤ 120) (j : Nat) (hj : j < nf) (q : Nat) (num snd rcv byt : Int32) (told : Int64) (ch : Nat) (hq0 : M q = some (.inr (0, zoM num snd rcv byt told ch))) (hq : ff j = some q) (ht : told ≠ -1) : Met l yC_message (Cond.code yC_message bC_message 4 (some .int) :: zT) { frames := 1, cells := 0, slots := 0, locals := 21 } (zp G B M [.ref x, .int (nI j), .int (nI 4)]) (k2_QcV (.int (-1))) 0 0 (fun _ => False) := by
  refine Met.ofW (cc := bC_message) (maxL := 4) (ret := (some .int)) (by decide) rfl ?_
  intro p e s m args below meth c s₁ B0 hml hv
  obtain ⟨rfl, hE, hH⟩ := hv
  have hx := B0.exec
  have hb := B0.bytes
  have hr := B0.returns
  have hlocks := B0.notSynchronized
  have hz : ∀ w ∈ zT, w.before _ s = true := fun w h => atoms_spec (ws := Cond.code yC_message bC_message 4 (some .int) :: zT) B0.pre w (List.mem_cons_of_mem _ h)
  have hown : s.vm.findClass RC = some m.cls := findClass_of_methodNamed B0.named
  have hK := hE.1
  have hl := lv_entry ([.ref x, .int (nI j), .int (nI 4)]) (n := 4) (Nat.le_of_ble_eq_true rfl)
  rw [lg_entry_eq]
  generalize (lg_sl ([.ref x, .int (nI j), .int (nI 4)]) ++ List.replicate (4 - (lg_sl ([.ref x, .int (nI j), .int (nI 4)])).length) Slot.unset).toArray = ls at hl ⊢
  have hl : lv_has ls 4 [(0, .ref x), (1, .int (nI j)), (2, .int (nI 4))] := hl
  have hS : va_S (zw_A B) s.heap s.heap [] := va_S.rf
  refine lv_aload_n hx hb dC_message_0 rfl (lv_at hl 0 rfl) ?_
  refine lv_iload_n hx hb dC_message_1 rfl (lv_at hl 1 rfl) ?_
  refine zr_V (As := [.int (nI j)]) (rest := []) (q := (RC, TC, 14)) ⟨hx, hb, hml, hown, hz⟩ (kC_messageAt_in l G B M x n mb z nf se lo go pa hn hx0 ff hfl hnf j q hj hq) (zt_V zm_81 zm_83 zs_0 zm_1 zm_84) rfl rfl rfl (show _ ∧ _ ∧ _ ∧ _ = some 1 from by decide +kernel) ⟨Nat.le_of_ble_eq_true rfl, Nat.le_of_ble_eq_true rfl⟩ zE_blind (zE_at hE hS) hH hK hx0 rfl rfl hl.1 rfl (Nat.le_of_ble_eq_true rfl) dC_message_2 ⟨Nat.zero_le _, Nat.zero_le _⟩ ?_
  refine lv_astore_n (lv' := [(3, .ref q), (0, .ref x), (1, .int (nI j)), (2, .int (nI 4))]) hx hb dC_message_5 rfl hl (by decide) rfl (fun ls hl => ?_)
  refine lv_aload_n hx hb dC_message_6 rfl (lv_at hl 0 rfl) ?_
  refine lv_ifnull hx hb dC_message_7 ?_
  refine lv_iload_n hx hb dC_message_10 rfl (lv_at hl 3 rfl) ?_
  refine lv_if_lt (tgt := 19) hx hb dC_message_11 (by decide) (fun c => ?_) (fun c => ?_)
  · exact absurd c (by decide)
  · refine lv_iload_n hx hb dC_message_14 rfl (lv_at hl 3 rfl) ?_
    refine lv_iconst (v := nI 4) hx hb dC_message_15 (by decide) ?_
    refine zc_le (tgt := 29) hx hb dC_message_16 (by decide) (by decide) (by decide) (fun c2 => ?_) (fun c2 => ?_)
    · refine lv_iload_n hx hb dC_message_29 rfl (lv_at hl 3 rfl) ?_
      refine lv_tableOut (tgt := 80) hx hb dC_message_30 (by decide) (by decide) ?_
      refine lv_aload_n hx hb dC_message_80 rfl (lv_at hl 0 rfl) ?_
      refine zr_V (As := []) (rest := []) (q := (RM, TM, 6)) ⟨hx, hb, hml, hown, hz⟩ (kM_isClock_yes l G B M q num snd rcv byt told ch hq0 ht) (zt_V zm_320 zm_321 zm_322 zm_10 zm_323) rfl rfl rfl (show _ ∧ _ ∧ _ ∧ _ = some 0 from by decide +kernel) ⟨Nat.le_of_ble_eq_true rfl, Nat.le_of_ble_eq_true rfl⟩ zE_blind (zE_at hE hS) hH hK hq0 rfl rfl hl.1 rfl (Nat.le_of_ble_eq_true rfl) dC_message_81 ⟨Nat.zero_le _, Nat.zero_le _⟩ ?_
      refine zc_eq0 (tgt := 91) hx hb dC_message_84 (by decide) (by omega) (fun c3 => ?_) (fun c3 => ?_)
      · exact absurd c3 (by decide)
      · refine lv_iconst (v := (-1)) hx hb dC_message_87 (by decide) ?_
        refine lv_goto (tgt := 96) hx hb dC_message_88 (by decide) ?_
        exact W.iret (v := (-1)) hx hb hr (fun t ht hW => ⟨rfl, ht⟩) (fun q h => by cases h) dC_message_96
    · exact absurd c2 (by decide)

set_option maxHeartbeats 4000000 in
set_option maxRecDepth 100000 in
theorem kC_message_4p (l : Launch) (G : zG) (B : Nat) (M : zw_M) (x n mb z nf se lo go pa : Nat) (hn : n ≤ 8) (hx0 : M x = some (.inr (1, zoC n mb z nf se lo go pa))) (ff : Nat → Option Nat) (hfl : M (z + 5 + 2 * n) = some (.inl (G.2.1 3, 120, .inr (.inr (.inr (.inr ff)))))) (hnf : nf ≤ 120) (j : Nat) (hj : j < nf) (q : Nat) (num snd rcv byt : Int32) (told : Int64) (ch : Nat) (hq0 : M q = some (.inr (0, zoM num snd rcv byt told ch))) (hq : ff j = some q) (ht : told = -1) (len : Nat) (f : Nat → Int32) (hch : M ch = some (.inl (G.2.1 0, len, .inl f))) (hlen : len ≤ 480) : Met l yC_message (Cond.code yC_message bC_message 4 (some .int) :: zT) { frames := 1, cells := 0, slots := 0, locals := 21 } (zp G B M [.ref x, .int (nI j), .int (nI 4)]) (k2_QcV (.int (nI len))) 0 0 (fun _ => False) := by
  refine Met.ofW (cc := bC_message) (maxL := 4) (ret := (some .int)) (by decide) rfl ?_
  intro p e s m args below meth c s₁ B0 hml hv
  obtain ⟨rfl, hE, hH⟩ := hv
  have hx := B0.exec
  have hb := B0.bytes
  have hr := B0.returns
  have hlocks := B0.notSynchronized
  have hz : ∀ w ∈ zT, w.before _ s = true := fun w h => atoms_spec (ws := Cond.code yC_message bC_message 4 (some .int) :: zT) B0.pre w (List.mem_cons_of_mem _ h)
  have hown : s.vm.findClass RC = some m.cls := findClass_of_methodNamed B0.named
  have hK := hE.1
  have hl := lv_entry ([.ref x, .int (nI j), .int (nI 4)]) (n := 4) (Nat.le_of_ble_eq_true rfl)
  rw [lg_entry_eq]
  generalize (lg_sl ([.ref x, .int (nI j), .int (nI 4)]) ++ List.replicate (4 - (lg_sl ([.ref x, .int (nI j), .int (nI 4)])).length) Slot.unset).toArray = ls at hl ⊢
  have hl : lv_has ls 4 [(0, .ref x), (1, .int (nI j)), (2, .int (nI 4))] := hl
  have hS : va_S (zw_A B) s.heap s.heap [] := va_S.rf
  refine lv_aload_n hx hb dC_message_0 rfl (lv_at hl 0 rfl) ?_
  refine lv_iload_n hx hb dC_message_1 rfl (lv_at hl 1 rfl) ?_
  refine zr_V (As := [.int (nI j)]) (rest := []) (q := (RC, TC, 14)) ⟨hx, hb, hml, hown, hz⟩ (kC_messageAt_in l G B M x n mb z nf se lo go pa hn hx0 ff hfl hnf j q hj hq) (zt_V zm_81 zm_83 zs_0 zm_1 zm_84) rfl rfl rfl (show _ ∧ _ ∧ _ ∧ _ = some 1 from by decide +kernel) ⟨Nat.le_of_ble_eq_true rfl, Nat.le_of_ble_eq_true rfl⟩ zE_blind (zE_at hE hS) hH hK hx0 rfl rfl hl.1 rfl (Nat.le_of_ble_eq_true rfl) dC_message_2 ⟨Nat.zero_le _, Nat.zero_le _⟩ ?_
  refine lv_astore_n (lv' := [(3, .ref q), (0, .ref x), (1, .int (nI j)), (2, .int (nI 4))]) hx hb dC_message_5 rfl hl (by decide) rfl (fun ls hl => ?_)
  refine lv_aload_n hx hb dC_message_6 rfl (lv_at hl 0 rfl) ?_
  refine lv_ifnull hx hb dC_message_7 ?_
  refine lv_iload_n hx hb dC_message_10 rfl (lv_at hl 3 rfl) ?_
  refine lv_if_lt (tgt := 19) hx hb dC_message_11 (by decide) (fun c => ?_) (fun c => ?_)
  · exact absurd c (by decide)
  · refine lv_iload_n hx hb dC_message_14 rfl (lv_at hl 3 rfl) ?_
    refine lv_iconst (v := nI 4) hx hb dC_message_15 (by decide) ?_
    refine zc_le (tgt := 29) hx hb dC_message_16 (by decide) (by decide) (by decide) (fun c2 => ?_) (fun c2 => ?_)
    · refine lv_iload_n hx hb dC_message_29 rfl (lv_at hl 3 rfl) ?_
      refine lv_tableOut (tgt := 80) hx hb dC_message_30 (by decide) (by decide) ?_
      refine lv_aload_n hx hb dC_message_80 rfl (lv_at hl 0 rfl) ?_
      refine zr_V (As := []) (rest := []) (q := (RM, TM, 6)) ⟨hx, hb, hml, hown, hz⟩ (kM_isClock_no l G B M q num snd rcv byt told ch hq0 ht) (zt_V zm_320 zm_321 zm_322 zm_10 zm_323) rfl rfl rfl (show _ ∧ _ ∧ _ ∧ _ = some 0 from by decide +kernel) ⟨Nat.le_of_ble_eq_true rfl, Nat.le_of_ble_eq_true rfl⟩ zE_blind (zE_at hE hS) hH hK hq0 rfl rfl hl.1 rfl (Nat.le_of_ble_eq_true rfl) dC_message_81 ⟨Nat.zero_le _, Nat.zero_le _⟩ ?_
      refine zc_eq0 (tgt := 91) hx hb dC_message_84 (by decide) (by omega) (fun c3 => ?_) (fun c3 => ?_)
      · refine lv_aload_n hx hb dC_message_91 rfl (lv_at hl 0 rfl) ?_
        refine va_get (D := G.1) (ci := 0) (v := .ref ch) (C := RM) (T := TM) (N := 6) hx hb hz iM hown hK (hH.one hq0) 0 rfl rfl 5 (by decide) (hz _ zm_294) (fun _ h9 => h9) rfl dC_message_92 ?_
        refine zw_alen hx hb hK hH 0 hch rfl dC_message_95 ?_
        exact W.iret (v := (nI len)) hx hb hr (fun t ht hW => ⟨rfl, ht⟩) (fun q h => by cases h) dC_message_96
      · exact absurd rfl c3
    · exact absurd c2 (by decide)

set_option maxHeartbeats 4000000 in
set_option maxRecDepth 100000 in
theorem kC_look_0 (l : Launch) (G : zG) (B : Nat) (M : zw_M) (x n mb z nf se lo go pa : Nat) (hn : n ≤ 8) (hx0 : M x = some (.inr (1, zoC n mb z nf se lo go pa))) : Met l yC_look (Cond.code yC_look bC_look 2 (some .int) :: zT) { frames := 0, cells := 0, slots := 0, locals := 0 } (zp G B M [.ref x, .int (nI 0)]) (k2_QcV (.int (nI n))) 0 0 (fun _ => False) := by
  refine Met.ofW (cc := bC_look) (maxL := 2) (ret := (some .int)) (by decide) rfl ?_
  intro p e s m args below meth c s₁ B0 hml hv
  obtain ⟨rfl, hE, hH⟩ := hv
  have hx := B0.exec
  have hb := B0.bytes
  have hr := B0.returns
  have hlocks := B0.notSynchronized
  have hz : ∀ w ∈ zT, w.before _ s = true := fun w h => atoms_spec (ws := Cond.code yC_look bC_look 2 (some .int) :: zT) B0.pre w (List.mem_cons_of_mem _ h)
  have hown : s.vm.findClass RC = some m.cls := findClass_of_methodNamed B0.named
  have hK := hE.1
  have hl := lv_entry ([.ref x, .int (nI 0)]) (n := 2) (Nat.le_of_ble_eq_true rfl)
  rw [lg_entry_eq]
  generalize (lg_sl ([.ref x, .int (nI 0)]) ++ List.replicate (2 - (lg_sl ([.ref x, .int (nI 0)])).length) Slot.unset).toArray = ls at hl ⊢
  have hl : lv_has ls 2 [(0, .ref x), (1, .int (nI 0))] := hl
  have hS : va_S (zw_A B) s.heap s.heap [] := va_S.rf
  refine lv_iload_n hx hb dC_look_0 rfl (lv_at hl 1 rfl) ?_
  refine lv_tableIn (tgt := 52) hx hb dC_look_1 (by decide) (by decide) rfl (by decide) ?_
  refine lv_aload_n hx hb dC_look_52 rfl (lv_at hl 0 rfl) ?_
  refine va_get (D := G.1) (ci := 1) (v := .int (nI n)) (C := RC) (T := TC) (N := 14) hx hb hz iC hown hK (hH.one hx0) 0 rfl rfl 0 (by decide) (hz _ zm_31) (fun _ h9 => h9) rfl dC_look_53 ?_
  exact W.iret (v := (nI n)) hx hb hr (fun t ht hW => ⟨rfl, ht⟩) (fun q h => by cases h) dC_look_56

set_option maxHeartbeats 4000000 in
set_option maxRecDepth 100000 in
theorem kC_look_1 (l : Launch) (G : zG) (B : Nat) (M : zw_M) (x n mb z nf se lo go pa : Nat) (hn : n ≤ 8) (hx0 : M x = some (.inr (1, zoC n mb z nf se lo go pa))) : Met l yC_look (Cond.code yC_look bC_look 2 (some .int) :: zT) { frames := 0, cells := 0, slots := 0, locals := 0 } (zp G B M [.ref x, .int (nI 1)]) (k2_QcV (.int (nI mb))) 0 0 (fun _ => False) := by
  refine Met.ofW (cc := bC_look) (maxL := 2) (ret := (some .int)) (by decide) rfl ?_
  intro p e s m args below meth c s₁ B0 hml hv
  obtain ⟨rfl, hE, hH⟩ := hv
  have hx := B0.exec
  have hb := B0.bytes
  have hr := B0.returns
  have hlocks := B0.notSynchronized
  have hz : ∀ w ∈ zT, w.before _ s = true := fun w h => atoms_spec (ws := Cond.code yC_look bC_look 2 (some .int) :: zT) B0.pre w (List.mem_cons_of_mem _ h)
  have hown : s.vm.findClass RC = some m.cls := findClass_of_methodNamed B0.named
  have hK := hE.1
  have hl := lv_entry ([.ref x, .int (nI 1)]) (n := 2) (Nat.le_of_ble_eq_true rfl)
  rw [lg_entry_eq]
  generalize (lg_sl ([.ref x, .int (nI 1)]) ++ List.replicate (2 - (lg_sl ([.ref x, .int (nI 1)])).length) Slot.unset).toArray = ls at hl ⊢
  have hl : lv_has ls 2 [(0, .ref x), (1, .int (nI 1))] := hl
  have hS : va_S (zw_A B) s.heap s.heap [] := va_S.rf
  refine lv_iload_n hx hb dC_look_0 rfl (lv_at hl 1 rfl) ?_
  refine lv_tableIn (tgt := 57) hx hb dC_look_1 (by decide) (by decide) rfl (by decide) ?_
  refine lv_aload_n hx hb dC_look_57 rfl (lv_at hl 0 rfl) ?_
  refine va_get (D := G.1) (ci := 1) (v := .int (nI mb)) (C := RC) (T := TC) (N := 14) hx hb hz iC hown hK (hH.one hx0) 0 rfl rfl 1 (by decide) (hz _ zm_32) (fun _ h9 => h9) rfl dC_look_58 ?_
  exact W.iret (v := (nI mb)) hx hb hr (fun t ht hW => ⟨rfl, ht⟩) (fun q h => by cases h) dC_look_61

set_option maxHeartbeats 4000000 in
set_option maxRecDepth 100000 in
theorem kC_look_2 (l : Launch) (G : zG) (B : Nat) (M : zw_M) (x n mb z nf se lo go pa : Nat) (hn : n ≤ 8) (hx0 : M x = some (.inr (1, zoC n mb z nf se lo go pa))) : Met l yC_look (Cond.code yC_look bC_look 2 (some .int) :: zT) { frames := 0, cells := 0, slots := 0, locals := 0 } (zp G B M [.ref x, .int (nI 2)]) (k2_QcV (.int (nI nf))) 0 0 (fun _ => False) := by
  refine Met.ofW (cc := bC_look) (maxL := 2) (ret := (some .int)) (by decide) rfl ?_
  intro p e s m args below meth c s₁ B0 hml hv
  obtain ⟨rfl, hE, hH⟩ := hv
  have hx := B0.exec
  have hb := B0.bytes
  have hr := B0.returns
  have hlocks := B0.notSynchronized
  have hz : ∀ w ∈ zT, w.before _ s = true := fun w h => atoms_spec (ws := Cond.code yC_look bC_look 2 (some .int) :: zT) B0.pre w (List.mem_cons_of_mem _ h)
  have hown : s.vm.findClass RC = some m.cls := findClass_of_methodNamed B0.named
  have hK := hE.1
  have hl := lv_entry ([.ref x, .int (nI 2)]) (n := 2) (Nat.le_of_ble_eq_true rfl)
  rw [lg_entry_eq]
  generalize (lg_sl ([.ref x, .int (nI 2)]) ++ List.replicate (2 - (lg_sl ([.ref x, .int (nI 2)])).length) Slot.unset).toArray = ls at hl ⊢
  have hl : lv_has ls 2 [(0, .ref x), (1, .int (nI 2))] := hl
  have hS : va_S (zw_A B) s.heap s.heap [] := va_S.rf
  refine lv_iload_n hx hb dC_look_0 rfl (lv_at hl 1 rfl) ?_
  refine lv_tableIn (tgt := 62) hx hb dC_look_1 (by decide) (by decide) rfl (by decide) ?_
  refine lv_aload_n hx hb dC_look_62 rfl (lv_at hl 0 rfl) ?_
  refine va_get (D := G.1) (ci := 1) (v := .int (nI nf)) (C := RC) (T := TC) (N := 14) hx hb hz iC hown hK (hH.one hx0) 0 rfl rfl 8 (by decide) (hz _ zm_39) (fun _ h9 => h9) rfl dC_look_63 ?_
  exact W.iret (v := (nI nf)) hx hb hr (fun t ht hW => ⟨rfl, ht⟩) (fun q h => by cases h) dC_look_66

set_option maxHeartbeats 4000000 in
set_option maxRecDepth 100000 in
theorem kC_look_3 (l : Launch) (G : zG) (B : Nat) (M : zw_M) (x n mb z nf se lo go pa : Nat) (hn : n ≤ 8) (hx0 : M x = some (.inr (1, zoC n mb z nf se lo go pa))) : Met l yC_look (Cond.code yC_look bC_look 2 (some .int) :: zT) { frames := 0, cells := 0, slots := 0, locals := 0 } (zp G B M [.ref x, .int (nI 3)]) (k2_QcV (.int (nI se))) 0 0 (fun _ => False) := by
  refine Met.ofW (cc := bC_look) (maxL := 2) (ret := (some .int)) (by decide) rfl ?_
  intro p e s m args below meth c s₁ B0 hml hv
  obtain ⟨rfl, hE, hH⟩ := hv
  have hx := B0.exec
  have hb := B0.bytes
  have hr := B0.returns
  have hlocks := B0.notSynchronized
  have hz : ∀ w ∈ zT, w.before _ s = true := fun w h => atoms_spec (ws := Cond.code yC_look bC_look 2 (some .int) :: zT) B0.pre w (List.mem_cons_of_mem _ h)
  have hown : s.vm.findClass RC = some m.cls := findClass_of_methodNamed B0.named
  have hK := hE.1
  have hl := lv_entry ([.ref x, .int (nI 3)]) (n := 2) (Nat.le_of_ble_eq_true rfl)
  rw [lg_entry_eq]
  generalize (lg_sl ([.ref x, .int (nI 3)]) ++ List.replicate (2 - (lg_sl ([.ref x, .int (nI 3)])).length) Slot.unset).toArray = ls at hl ⊢
  have hl : lv_has ls 2 [(0, .ref x), (1, .int (nI 3))] := hl
  have hS : va_S (zw_A B) s.heap s.heap [] := va_S.rf
  refine lv_iload_n hx hb dC_look_0 rfl (lv_at hl 1 rfl) ?_
  refine lv_tableIn (tgt := 67) hx hb dC_look_1 (by decide) (by decide) rfl (by decide) ?_
  refine lv_aload_n hx hb dC_look_67 rfl (lv_at hl 0 rfl) ?_
  refine va_get (D := G.1) (ci := 1) (v := .int (nI se)) (C := RC) (T := TC) (N := 14) hx hb hz iC hown hK (hH.one hx0) 0 rfl rfl 10 (by decide) (hz _ zm_41) (fun _ h9 => h9) rfl dC_look_68 ?_
  exact W.iret (v := (nI se)) hx hb hr (fun t ht hW => ⟨rfl, ht⟩) (fun q h => by cases h) dC_look_71

set_option maxHeartbeats 4000000 in
set_option maxRecDepth 100000 in
theorem kC_look_4 (l : Launch) (G : zG) (B : Nat) (M : zw_M) (x n mb z nf se lo go pa : Nat) (hn : n ≤ 8) (hx0 : M x = some (.inr (1, zoC n mb z nf se lo go pa))) : Met l yC_look (Cond.code yC_look bC_look 2 (some .int) :: zT) { frames := 0, cells := 0, slots := 0, locals := 0 } (zp G B M [.ref x, .int (nI 4)]) (k2_QcV (.int (nI lo))) 0 0 (fun _ => False) := by
  refine Met.ofW (cc := bC_look) (maxL := 2) (ret := (some .int)) (by decide) rfl ?_
  intro p e s m args below meth c s₁ B0 hml hv
  obtain ⟨rfl, hE, hH⟩ := hv
  have hx := B0.exec
  have hb := B0.bytes
  have hr := B0.returns
  have hlocks := B0.notSynchronized
  have hz : ∀ w ∈ zT, w.before _ s = true := fun w h => atoms_spec (ws := Cond.code yC_look bC_look 2 (some .int) :: zT) B0.pre w (List.mem_cons_of_mem _ h)
  have hown : s.vm.findClass RC = some m.cls := findClass_of_methodNamed B0.named
  have hK := hE.1
  have hl := lv_entry ([.ref x, .int (nI 4)]) (n := 2) (Nat.le_of_ble_eq_true rfl)
  rw [lg_entry_eq]
  generalize (lg_sl ([.ref x, .int (nI 4)]) ++ List.replicate (2 - (lg_sl ([.ref x, .int (nI 4)])).length) Slot.unset).toArray = ls at hl ⊢
  have hl : lv_has ls 2 [(0, .ref x), (1, .int (nI 4))] := hl
  have hS : va_S (zw_A B) s.heap s.heap [] := va_S.rf
  refine lv_iload_n hx hb dC_look_0 rfl (lv_at hl 1 rfl) ?_
  refine lv_tableIn (tgt := 72) hx hb dC_look_1 (by decide) (by decide) rfl (by decide) ?_
  refine lv_aload_n hx hb dC_look_72 rfl (lv_at hl 0 rfl) ?_
  refine va_get (D := G.1) (ci := 1) (v := .int (nI lo)) (C := RC) (T := TC) (N := 14) hx hb hz iC hown hK (hH.one hx0) 0 rfl rfl 11 (by decide) (hz _ zm_42) (fun _ h9 => h9) rfl dC_look_73 ?_
  exact W.iret (v := (nI lo)) hx hb hr (fun t ht hW => ⟨rfl, ht⟩) (fun q h => by cases h) dC_look_76

set_option maxHeartbeats 4000000 in
set_option maxRecDepth 100000 in
theorem kC_look_5 (l : Launch) (G : zG) (B : Nat) (M : zw_M) (x n mb z nf se lo go pa : Nat) (hn : n ≤ 8) (hx0 : M x = some (.inr (1, zoC n mb z nf se lo go pa))) : Met l yC_look (Cond.code yC_look bC_look 2 (some .int) :: zT) { frames := 0, cells := 0, slots := 0, locals := 0 } (zp G B M [.ref x, .int (nI 5)]) (k2_QcV (.int (nI go))) 0 0 (fun _ => False) := by
  refine Met.ofW (cc := bC_look) (maxL := 2) (ret := (some .int)) (by decide) rfl ?_
  intro p e s m args below meth c s₁ B0 hml hv
  obtain ⟨rfl, hE, hH⟩ := hv
  have hx := B0.exec
  have hb := B0.bytes
  have hr := B0.returns
  have hlocks := B0.notSynchronized
  have hz : ∀ w ∈ zT, w.before _ s = true := fun w h => atoms_spec (ws := Cond.code yC_look bC_look 2 (some .int) :: zT) B0.pre w (List.mem_cons_of_mem _ h)
  have hown : s.vm.findClass RC = some m.cls := findClass_of_methodNamed B0.named
  have hK := hE.1
  have hl := lv_entry ([.ref x, .int (nI 5)]) (n := 2) (Nat.le_of_ble_eq_true rfl)
  rw [lg_entry_eq]
  generalize (lg_sl ([.ref x, .int (nI 5)]) ++ List.replicate (2 - (lg_sl ([.ref x, .int (nI 5)])).length) Slot.unset).toArray = ls at hl ⊢
  have hl : lv_has ls 2 [(0, .ref x), (1, .int (nI 5))] := hl
  have hS : va_S (zw_A B) s.heap s.heap [] := va_S.rf
  refine lv_iload_n hx hb dC_look_0 rfl (lv_at hl 1 rfl) ?_
  refine lv_tableIn (tgt := 77) hx hb dC_look_1 (by decide) (by decide) rfl (by decide) ?_
  refine lv_aload_n hx hb dC_look_77 rfl (lv_at hl 0 rfl) ?_
  refine va_get (D := G.1) (ci := 1) (v := .int (nI go)) (C := RC) (T := TC) (N := 14) hx hb hz iC hown hK (hH.one hx0) 0 rfl rfl 12 (by decide) (hz _ zm_43) (fun _ h9 => h9) rfl dC_look_78 ?_
  exact W.iret (v := (nI go)) hx hb hr (fun t ht hW => ⟨rfl, ht⟩) (fun q h => by cases h) dC_look_81

set_option maxHeartbeats 4000000 in
set_option maxRecDepth 100000 in
theorem kC_look_6 (l : Launch) (G : zG) (B : Nat) (M : zw_M) (x n mb z nf se lo go pa : Nat) (hn : n ≤ 8) (hx0 : M x = some (.inr (1, zoC n mb z nf se lo go pa))) : Met l yC_look (Cond.code yC_look bC_look 2 (some .int) :: zT) { frames := 0, cells := 0, slots := 0, locals := 0 } (zp G B M [.ref x, .int (nI 6)]) (k2_QcV (.int (nI pa))) 0 0 (fun _ => False) := by
  refine Met.ofW (cc := bC_look) (maxL := 2) (ret := (some .int)) (by decide) rfl ?_
  intro p e s m args below meth c s₁ B0 hml hv
  obtain ⟨rfl, hE, hH⟩ := hv
  have hx := B0.exec
  have hb := B0.bytes
  have hr := B0.returns
  have hlocks := B0.notSynchronized
  have hz : ∀ w ∈ zT, w.before _ s = true := fun w h => atoms_spec (ws := Cond.code yC_look bC_look 2 (some .int) :: zT) B0.pre w (List.mem_cons_of_mem _ h)
  have hown : s.vm.findClass RC = some m.cls := findClass_of_methodNamed B0.named
  have hK := hE.1
  have hl := lv_entry ([.ref x, .int (nI 6)]) (n := 2) (Nat.le_of_ble_eq_true rfl)
  rw [lg_entry_eq]
  generalize (lg_sl ([.ref x, .int (nI 6)]) ++ List.replicate (2 - (lg_sl ([.ref x, .int (nI 6)])).length) Slot.unset).toArray = ls at hl ⊢
  have hl : lv_has ls 2 [(0, .ref x), (1, .int (nI 6))] := hl
  have hS : va_S (zw_A B) s.heap s.heap [] := va_S.rf
  refine lv_iload_n hx hb dC_look_0 rfl (lv_at hl 1 rfl) ?_
  refine lv_tableIn (tgt := 82) hx hb dC_look_1 (by decide) (by decide) rfl (by decide) ?_
  refine lv_aload_n hx hb dC_look_82 rfl (lv_at hl 0 rfl) ?_
  refine va_get (D := G.1) (ci := 1) (v := .int (nI pa)) (C := RC) (T := TC) (N := 14) hx hb hz iC hown hK (hH.one hx0) 0 rfl rfl 13 (by decide) (hz _ zm_44) (fun _ h9 => h9) rfl dC_look_83 ?_
  exact W.iret (v := (nI pa)) hx hb hr (fun t ht hW => ⟨rfl, ht⟩) (fun q h => by cases h) dC_look_86

set_option maxHeartbeats 4000000 in
set_option maxRecDepth 100000 in
theorem kC_look_7 (l : Launch) (G : zG) (B : Nat) (M : zw_M) (x n mb z nf se lo go pa : Nat) (hn : n ≤ 8) (hx0 : M x = some (.inr (1, zoC n mb z nf se lo go pa))) (ck : Nat → Int64) (hck : M (z + 1) = some (.inl (G.2.1 1, n, .inr (.inl ck)))) (lz : Nat → Nat) (hlz : M (z + 3 + n) = some (.inl (G.2.1 0, n, .inl (fun i => nI (lz i))))) (T : Nat) (hT : T = zsum (fun a => zb (ck a) a) n) (hT2 : T < 2 ^ 31) (hlb : ∀ i, i < n → lz i < 2 ^ 31) : Met l yC_look (Cond.code yC_look bC_look 2 (some .int) :: zT) { frames := 4, cells := 0, slots := 0, locals := 90 } (zp G B M [.ref x, .int (nI 7)]) (k2_QcV (.int (nI (zsum (fun r => if lz r = T then 1 else 0) n)))) 0 0 (fun _ => False) := by
  refine Met.ofW (cc := bC_look) (maxL := 2) (ret := (some .int)) (by decide) rfl ?_
  intro p e s m args below meth c s₁ B0 hml hv
  obtain ⟨rfl, hE, hH⟩ := hv
  have hx := B0.exec
  have hb := B0.bytes
  have hr := B0.returns
  have hlocks := B0.notSynchronized
  have hz : ∀ w ∈ zT, w.before _ s = true := fun w h => atoms_spec (ws := Cond.code yC_look bC_look 2 (some .int) :: zT) B0.pre w (List.mem_cons_of_mem _ h)
  have hown : s.vm.findClass RC = some m.cls := findClass_of_methodNamed B0.named
  have hK := hE.1
  have hl := lv_entry ([.ref x, .int (nI 7)]) (n := 2) (Nat.le_of_ble_eq_true rfl)
  rw [lg_entry_eq]
  generalize (lg_sl ([.ref x, .int (nI 7)]) ++ List.replicate (2 - (lg_sl ([.ref x, .int (nI 7)])).length) Slot.unset).toArray = ls at hl ⊢
  have hl : lv_has ls 2 [(0, .ref x), (1, .int (nI 7))] := hl
  have hS : va_S (zw_A B) s.heap s.heap [] := va_S.rf
  refine lv_iload_n hx hb dC_look_0 rfl (lv_at hl 1 rfl) ?_
  refine lv_tableIn (tgt := 87) hx hb dC_look_1 (by decide) (by decide) rfl (by decide) ?_
  refine lv_aload_n hx hb dC_look_87 rfl (lv_at hl 0 rfl) ?_
  refine zr_V (As := []) (rest := []) (q := (RC, TC, 14)) ⟨hx, hb, hml, hown, hz⟩ (kC_replicasWithAll l G B M x n mb z nf se lo go pa hn hx0 ck hck lz hlz T hT hT2 hlb) (zt_V zm_125 zm_127 zs_4 zm_1 zm_128) rfl rfl rfl (show _ ∧ _ ∧ _ ∧ _ = some 0 from by decide +kernel) ⟨Nat.le_of_ble_eq_true rfl, Nat.le_of_ble_eq_true rfl⟩ zE_blind (zE_at hE hS) hH hK hx0 rfl rfl hl.1 rfl (Nat.le_of_ble_eq_true rfl) dC_look_88 ⟨Nat.zero_le _, Nat.zero_le _⟩ ?_
  exact W.iret (v := (nI (zsum (fun r => if lz r = T then 1 else 0) n))) hx hb hr (fun t ht hW => ⟨rfl, ht⟩) (fun q h => by cases h) dC_look_91

set_option maxHeartbeats 4000000 in
set_option maxRecDepth 100000 in
theorem kC_look_8 (l : Launch) (G : zG) (B : Nat) (M : zw_M) (x n mb z nf se lo go pa : Nat) (hn : n ≤ 8) (hx0 : M x = some (.inr (1, zoC n mb z nf se lo go pa))) (ff : Nat → Option Nat) (hfl : M (z + 5 + 2 * n) = some (.inl (G.2.1 3, 120, .inr (.inr (.inr (.inr ff)))))) (hnf : nf ≤ 120) (by1 : Nat → Nat) (hm : ∀ i, i < nf → ∃ (q : Nat) (num snd rcv : Int32) (told : Int64) (ch : Nat), ff i = some q ∧ M q = some (.inr (0, zoM num snd rcv (nI (by1 i)) told ch))) : Met l yC_look (Cond.code yC_look bC_look 2 (some .int) :: zT) { frames := 2, cells := 0, slots := 0, locals := 44 } (zp G B M [.ref x, .int (nI 8)]) (k2_QcV (.int (nI (zsum by1 nf)))) 0 0 (fun _ => False) := by
  refine Met.ofW (cc := bC_look) (maxL := 2) (ret := (some .int)) (by decide) rfl ?_
  intro p e s m args below meth c s₁ B0 hml hv
  obtain ⟨rfl, hE, hH⟩ := hv
  have hx := B0.exec
  have hb := B0.bytes
  have hr := B0.returns
  have hlocks := B0.notSynchronized
  have hz : ∀ w ∈ zT, w.before _ s = true := fun w h => atoms_spec (ws := Cond.code yC_look bC_look 2 (some .int) :: zT) B0.pre w (List.mem_cons_of_mem _ h)
  have hown : s.vm.findClass RC = some m.cls := findClass_of_methodNamed B0.named
  have hK := hE.1
  have hl := lv_entry ([.ref x, .int (nI 8)]) (n := 2) (Nat.le_of_ble_eq_true rfl)
  rw [lg_entry_eq]
  generalize (lg_sl ([.ref x, .int (nI 8)]) ++ List.replicate (2 - (lg_sl ([.ref x, .int (nI 8)])).length) Slot.unset).toArray = ls at hl ⊢
  have hl : lv_has ls 2 [(0, .ref x), (1, .int (nI 8))] := hl
  have hS : va_S (zw_A B) s.heap s.heap [] := va_S.rf
  refine lv_iload_n hx hb dC_look_0 rfl (lv_at hl 1 rfl) ?_
  refine lv_tableIn (tgt := 92) hx hb dC_look_1 (by decide) (by decide) rfl (by decide) ?_
  refine lv_aload_n hx hb dC_look_92 rfl (lv_at hl 0 rfl) ?_
  refine zr_V (As := []) (rest := []) (q := (RC, TC, 14)) ⟨hx, hb, hml, hown, hz⟩ (kC_bytesInFlight l G B M x n mb z nf se lo go pa hn hx0 ff hfl hnf by1 hm) (zt_V zm_133 zm_135 zs_6 zm_1 zm_136) rfl rfl rfl (show _ ∧ _ ∧ _ ∧ _ = some 0 from by decide +kernel) ⟨Nat.le_of_ble_eq_true rfl, Nat.le_of_ble_eq_true rfl⟩ zE_blind (zE_at hE hS) hH hK hx0 rfl rfl hl.1 rfl (Nat.le_of_ble_eq_true rfl) dC_look_93 ⟨Nat.zero_le _, Nat.zero_le _⟩ ?_
  exact W.iret (v := (nI (zsum by1 nf))) hx hb hr (fun t ht hW => ⟨rfl, ht⟩) (fun q h => by cases h) dC_look_96

set_option maxHeartbeats 4000000 in
set_option maxRecDepth 100000 in
theorem kC_look_out (l : Launch) (G : zG) (B : Nat) (M : zw_M) (x n mb z nf se lo go pa : Nat) (hn : n ≤ 8) (hx0 : M x = some (.inr (1, zoC n mb z nf se lo go pa))) (a : Int32) (ha : a < 0 ∨ nI 9 ≤ a) : Met l yC_look (Cond.code yC_look bC_look 2 (some .int) :: zT) { frames := 0, cells := 0, slots := 0, locals := 0 } (zp G B M [.ref x, .int a]) (k2_QcV (.int (-1))) 0 0 (fun _ => False) := by
  refine Met.ofW (cc := bC_look) (maxL := 2) (ret := (some .int)) (by decide) rfl ?_
  intro p e s m args below meth c s₁ B0 hml hv
  obtain ⟨rfl, hE, hH⟩ := hv
  have hx := B0.exec
  have hb := B0.bytes
  have hr := B0.returns
  have hlocks := B0.notSynchronized
  have hz : ∀ w ∈ zT, w.before _ s = true := fun w h => atoms_spec (ws := Cond.code yC_look bC_look 2 (some .int) :: zT) B0.pre w (List.mem_cons_of_mem _ h)
  have hown : s.vm.findClass RC = some m.cls := findClass_of_methodNamed B0.named
  have hK := hE.1
  have hl := lv_entry ([.ref x, .int a]) (n := 2) (Nat.le_of_ble_eq_true rfl)
  rw [lg_entry_eq]
  generalize (lg_sl ([.ref x, .int a]) ++ List.replicate (2 - (lg_sl ([.ref x, .int a])).length) Slot.unset).toArray = ls at hl ⊢
  have hl : lv_has ls 2 [(0, .ref x), (1, .int a)] := hl
  have hS : va_S (zw_A B) s.heap s.heap [] := va_S.rf
  refine lv_iload_n hx hb dC_look_0 rfl (lv_at hl 1 rfl) ?_
  refine lv_tableOut (tgt := 97) hx hb dC_look_1 (zlook_out ha) (by decide) ?_
  refine lv_iconst (v := (-1)) hx hb dC_look_97 (by decide) ?_
  exact W.iret (v := (-1)) hx hb hr (fun t ht hW => ⟨rfl, ht⟩) (fun q h => by cases h) dC_look_98
end
section
/-! THE STATE that both objects stand for -/
/-- a message: number, sender, receiver, bytes, CLOCK, changes -/
def zMg : Type := Nat × Nat × Nat × Nat × Option Int64 × List Nat
def zMg.mk (num snd rcv byt : Nat) (ck : Option Int64) (chs : List Nat) : zMg := (num, snd, rcv, byt, ck, chs)
def zMg.num (q : zMg) : Nat := q.1
def zMg.snd (q : zMg) : Nat := q.2.1
def zMg.rcv (q : zMg) : Nat := q.2.2.1
def zMg.byt (q : zMg) : Nat := q.2.2.2.1
def zMg.ck (q : zMg) : Option Int64 := q.2.2.2.2.1
def zMg.chs (q : zMg) : List Nat := q.2.2.2.2.2
/-- down, logs, weights, flight; sent, lost, gone, passed over -/
def zSt : Type := (Nat → Bool) × (Nat → List Nat) × (Nat → List Nat) × List zMg × Nat × Nat × Nat × Nat
def zSt.mk (dn : Nat → Bool) (lg wt : Nat → List Nat) (fl : List zMg) (se lo go pa : Nat) : zSt := (dn, lg, wt, fl, se, lo, go, pa)
def zSt.dn (q : zSt) : Nat → Bool := q.1
def zSt.lg (q : zSt) : Nat → List Nat := q.2.1
def zSt.wt (q : zSt) : Nat → List Nat := q.2.2.1
def zSt.fl (q : zSt) : List zMg := q.2.2.2.1
def zSt.se (q : zSt) : Nat := q.2.2.2.2.1
def zSt.lo (q : zSt) : Nat := q.2.2.2.2.2.1
def zSt.go (q : zSt) : Nat := q.2.2.2.2.2.2.1
def zSt.pa (q : zSt) : Nat := q.2.2.2.2.2.2.2
/-- a message is sent -/
def zsend (st : zSt) (snd rcv byt : Nat) (ck : Option Int64) (chs : List Nat) : zSt :=
  if st.fl.length < 120 then zSt.mk st.dn st.lg st.wt (st.fl ++ [zMg.mk st.se snd rcv byt ck chs]) (st.se + 1) st.lo st.go st.pa else zSt.mk st.dn st.lg st.wt st.fl (st.se + 1) (st.lo + 1) st.go st.pa
/-- a change comes to a log -/
def zlog (st : zSt) (r c : Nat) : zSt := zSt.mk st.dn (fun i => if i = r then st.lg r ++ [c] else st.lg i) st.wt st.fl st.se st.lo st.go st.pa
abbrev zfits (st : zSt) (r c : Nat) : Prop := c / 8 = zcnt (c % 8) (st.lg r) + 1
def zdrop (st : zSt) (i : Nat) : zSt := zSt.mk st.dn st.lg st.wt (st.fl.eraseIdx i) st.se st.lo st.go st.pa
/-- tick, the first k of the others -/
def ztk (n r : Nat) (ck : Int64) (st : zSt) : Nat → zSt
  | 0 => st
  | k + 1 => if k = r then ztk n r ck st k else zsend (ztk n r ck st k) r k (3 + n) (some ck) []
def zpass (st : zSt) : zSt := zSt.mk st.dn st.lg st.wt st.fl st.se st.lo st.go (st.pa + 1)
def zgone (st : zSt) : zSt := zSt.mk st.dn st.lg st.wt st.fl st.se st.lo (st.go + 1) st.pa
def zlost (st : zSt) : zSt := zSt.mk st.dn st.lg st.wt st.fl st.se (st.lo + 1) st.go st.pa
/-- a part's change -/
def zta (r : Nat) (q : zSt × Nat) (c : Nat) : zSt × Nat := if zfits q.1 r c then (zlog q.1 r c, q.2 + 1) else (zpass q.1, q.2)
/-- what a change weighs -/
def zwo (wt : Nat → List Nat) (c : Nat) : Nat := (wt (c % 8)).getD (c / 8 - 1) 0
/-- an answer on its way: state, parts, the part that is being filled, its bytes -/
def zAn : Type := zSt × Nat × List Nat × Nat
def zAn.mk (st : zSt) (parts : Nat) (part : List Nat) (byt : Nat) : zAn := (st, parts, part, byt)
def zAn.st (q : zAn) : zSt := q.1
def zAn.parts (q : zAn) : Nat := q.2.1
def zAn.part (q : zAn) : List Nat := q.2.2.1
def zAn.byt (q : zAn) : Nat := q.2.2.2
/-- an answer's step -/
def zan (rp to : Nat) (ck : Int64) (mb : Nat) (q : zAn) (c : Nat) : zAn :=
  if c / 8 ≤ zb ck (c % 8) then q
  else if 0 < q.part.length ∧ mb < q.byt + zwo q.st.wt c then zAn.mk (zsend q.st rp to q.byt none q.part) (q.parts + 1) [c] (3 + zwo q.st.wt c)
  else zAn.mk q.st q.parts (q.part ++ [c]) (q.byt + zwo q.st.wt c)
/-- .. and its end -/
def zae (rp to : Nat) (q : zAn) : zSt × Nat := if 0 < q.part.length then (zsend q.st rp to q.byt none q.part, q.parts + 1) else (q.st, q.parts)
def zanswer (st : zSt) (rp to : Nat) (ck : Int64) (mb : Nat) : zSt × Nat := zae rp to ((st.lg rp).foldl (zan rp to ck mb) (zAn.mk st 0 [] 3))
def zmake (st : zSt) (r w : Nat) : zSt := zlog (zSt.mk st.dn st.lg (fun i => if i = r then st.wt r ++ [w] else st.wt i) st.fl st.se st.lo st.go st.pa) r (r + 8 * ((st.wt r).length + 1))
def zdeliver (st : zSt) (i : Nat) (mg : zMg) (mb : Nat) : zSt × Nat :=
  if st.dn mg.rcv = true then (zgone (zdrop st i), 0) else
    match mg.ck with
    | some k => zanswer (zdrop st i) mg.rcv mg.snd k mb
    | none => mg.chs.foldl (zta mg.rcv) (zdrop st i, 0)
def zup (st : zSt) (r : Nat) (b : Bool) : zSt := zSt.mk (fun i => if i = r then b else st.dn i) st.lg st.wt st.fl st.se st.lo st.go st.pa
theorem zsend_lg (st : zSt) (a b c : Nat) (k : Option Int64) (L : List Nat) : (zsend st a b c k L).lg = st.lg := by unfold zsend; split <;> rfl
theorem zsend_wt (st : zSt) (a b c : Nat) (k : Option Int64) (L : List Nat) : (zsend st a b c k L).wt = st.wt := by unfold zsend; split <;> rfl
theorem zsend_dn (st : zSt) (a b c : Nat) (k : Option Int64) (L : List Nat) : (zsend st a b c k L).dn = st.dn := by unfold zsend; split <;> rfl
theorem ztk_lg (n r : Nat) (ck : Int64) (st : zSt) : ∀ k, (ztk n r ck st k).lg = st.lg
  | 0 => rfl
  | k + 1 => by
    unfold ztk
    split
    · exact ztk_lg n r ck st k
    · rw [zsend_lg]; exact ztk_lg n r ck st k
theorem zan_wt (rp to : Nat) (ck : Int64) (mb : Nat) (q : zAn) (c : Nat) : (zan rp to ck mb q c).st.wt = q.st.wt := by
  unfold zan; split
  · rfl
  · split
    · exact zsend_wt _ _ _ _ _ _
    · rfl
theorem zan_lg (rp to : Nat) (ck : Int64) (mb : Nat) (q : zAn) (c : Nat) : (zan rp to ck mb q c).st.lg = q.st.lg := by
  unfold zan; split
  · rfl
  · split
    · exact zsend_lg _ _ _ _ _ _
    · rfl
theorem zans_wt (rp to : Nat) (ck : Int64) (mb : Nat) : ∀ (L : List Nat) (q : zAn), (L.foldl (zan rp to ck mb) q).st.wt = q.st.wt
  | [], _ => rfl
  | c :: L, q => by rw [List.foldl_cons, zans_wt rp to ck mb L, zan_wt]
theorem zans_lg (rp to : Nat) (ck : Int64) (mb : Nat) : ∀ (L : List Nat) (q : zAn), (L.foldl (zan rp to ck mb) q).st.lg = q.st.lg
  | [], _ => rfl
  | c :: L, q => by rw [List.foldl_cons, zans_lg rp to ck mb L, zan_lg]
/-- one step more of a list's walk -/
theorem zfold {α : Type} (f : α → Nat → α) (q : α) (L : List Nat) {k : Nat} (h : k < L.length) : (L.take (k + 1)).foldl f q = f ((L.take k).foldl f q) (L.getD k 0) := by
  rw [List.take_succ, List.getElem?_eq_getElem h, Option.toList_some, List.foldl_append, List.getD_eq_getElem?_getD, List.getElem?_eq_getElem h]
  rfl
/-! THE CLASS stands for a state: qs the messages' addresses, g what lies in 'gathered'; messages lie above L -/
def zMr (G : zG) (M : zw_M) (L q : Nat) (mg : zMg) : Prop :=
  L < q ∧ match mg.ck with
    | some k => M q = some (.inr (0, zoM (nI mg.num) (nI mg.snd) (nI mg.rcv) (nI mg.byt) k G.2.2))
    | none => ∃ (ch : Nat) (f : Nat → Int32), L < ch ∧ M q = some (.inr (0, zoM (nI mg.num) (nI mg.snd) (nI mg.rcv) (nI mg.byt) (-1) ch)) ∧ M ch = some (.inl (G.2.1 0, mg.chs.length, .inl f)) ∧ ∀ k, k < mg.chs.length → f k = nI (mg.chs.getD k 0)
def zCR (G : zG) (M : zw_M) (x z L n mb : Nat) (st : zSt) (qs : List Nat) (g : Nat → Int32) : Prop :=
  (x < z) ∧
  (z + 6 + 2 * n ≤ L) ∧
  (M x = some (.inr (1, zoC n mb z st.fl.length st.se st.lo st.go st.pa))) ∧
  (M z = some (.inl (G.2.1 2, n, .inl (fun i => nI (st.dn i).toNat)))) ∧
  (M (z + 1) = some (.inl (G.2.1 1, n, .inr (.inl (fun i => zck (st.lg i)))))) ∧
  (M (z + 2) = some (.inl (G.2.1 4, n, .inr (.inr (.inr (.inr (fun i => some (z + 3 + i)))))))) ∧
  (∀ i, i < n → M (z + 3 + i) = some (.inl (G.2.1 0, n * 60, .inl (fun k => nI ((st.lg i).getD k 0))))) ∧
  (M (z + 3 + n) = some (.inl (G.2.1 0, n, .inl (fun i => nI ((st.lg i).length))))) ∧
  (M (z + 4 + n) = some (.inl (G.2.1 4, n, .inr (.inr (.inr (.inr (fun i => some (z + 5 + n + i)))))))) ∧
  (∀ i, i < n → M (z + 5 + n + i) = some (.inl (G.2.1 0, 60, .inl (fun k => nI ((st.wt i).getD k 0))))) ∧
  (M (z + 5 + 2 * n) = some (.inl (G.2.1 3, 120, .inr (.inr (.inr (.inr (fun i => qs[i]?))))))) ∧
  (M (z + 6 + 2 * n) = some (.inl (G.2.1 0, n * 60, .inl g))) ∧
  (qs.length = st.fl.length) ∧
  (∀ (i q : Nat) (mg : zMg), qs[i]? = some q → st.fl[i]? = some mg → zMr G M L q mg)
theorem zCR.xz {G : zG} {M : zw_M} {x z L n mb : Nat} {st : zSt} {qs : List Nat} {g : Nat → Int32} (h : zCR G M x z L n mb st qs g) : x < z := h.1
theorem zCR.zL {G : zG} {M : zw_M} {x z L n mb : Nat} {st : zSt} {qs : List Nat} {g : Nat → Int32} (h : zCR G M x z L n mb st qs g) : z + 6 + 2 * n ≤ L := h.2.1
theorem zCR.obj {G : zG} {M : zw_M} {x z L n mb : Nat} {st : zSt} {qs : List Nat} {g : Nat → Int32} (h : zCR G M x z L n mb st qs g) : M x = some (.inr (1, zoC n mb z st.fl.length st.se st.lo st.go st.pa)) := h.2.2.1
theorem zCR.dn {G : zG} {M : zw_M} {x z L n mb : Nat} {st : zSt} {qs : List Nat} {g : Nat → Int32} (h : zCR G M x z L n mb st qs g) : M z = some (.inl (G.2.1 2, n, .inl (fun i => nI (st.dn i).toNat))) := h.2.2.2.1
theorem zCR.ck {G : zG} {M : zw_M} {x z L n mb : Nat} {st : zSt} {qs : List Nat} {g : Nat → Int32} (h : zCR G M x z L n mb st qs g) : M (z + 1) = some (.inl (G.2.1 1, n, .inr (.inl (fun i => zck (st.lg i))))) := h.2.2.2.2.1
theorem zCR.lgs {G : zG} {M : zw_M} {x z L n mb : Nat} {st : zSt} {qs : List Nat} {g : Nat → Int32} (h : zCR G M x z L n mb st qs g) : M (z + 2) = some (.inl (G.2.1 4, n, .inr (.inr (.inr (.inr (fun i => some (z + 3 + i))))))) := h.2.2.2.2.2.1
theorem zCR.lg {G : zG} {M : zw_M} {x z L n mb : Nat} {st : zSt} {qs : List Nat} {g : Nat → Int32} (h : zCR G M x z L n mb st qs g) : ∀ i, i < n → M (z + 3 + i) = some (.inl (G.2.1 0, n * 60, .inl (fun k => nI ((st.lg i).getD k 0)))) := h.2.2.2.2.2.2.1
theorem zCR.lz {G : zG} {M : zw_M} {x z L n mb : Nat} {st : zSt} {qs : List Nat} {g : Nat → Int32} (h : zCR G M x z L n mb st qs g) : M (z + 3 + n) = some (.inl (G.2.1 0, n, .inl (fun i => nI ((st.lg i).length)))) := h.2.2.2.2.2.2.2.1
theorem zCR.wts {G : zG} {M : zw_M} {x z L n mb : Nat} {st : zSt} {qs : List Nat} {g : Nat → Int32} (h : zCR G M x z L n mb st qs g) : M (z + 4 + n) = some (.inl (G.2.1 4, n, .inr (.inr (.inr (.inr (fun i => some (z + 5 + n + i))))))) := h.2.2.2.2.2.2.2.2.1
theorem zCR.wt {G : zG} {M : zw_M} {x z L n mb : Nat} {st : zSt} {qs : List Nat} {g : Nat → Int32} (h : zCR G M x z L n mb st qs g) : ∀ i, i < n → M (z + 5 + n + i) = some (.inl (G.2.1 0, 60, .inl (fun k => nI ((st.wt i).getD k 0)))) := h.2.2.2.2.2.2.2.2.2.1
theorem zCR.fl {G : zG} {M : zw_M} {x z L n mb : Nat} {st : zSt} {qs : List Nat} {g : Nat → Int32} (h : zCR G M x z L n mb st qs g) : M (z + 5 + 2 * n) = some (.inl (G.2.1 3, 120, .inr (.inr (.inr (.inr (fun i => qs[i]?)))))) := h.2.2.2.2.2.2.2.2.2.2.1
theorem zCR.ga {G : zG} {M : zw_M} {x z L n mb : Nat} {st : zSt} {qs : List Nat} {g : Nat → Int32} (h : zCR G M x z L n mb st qs g) : M (z + 6 + 2 * n) = some (.inl (G.2.1 0, n * 60, .inl g)) := h.2.2.2.2.2.2.2.2.2.2.2.1
theorem zCR.len {G : zG} {M : zw_M} {x z L n mb : Nat} {st : zSt} {qs : List Nat} {g : Nat → Int32} (h : zCR G M x z L n mb st qs g) : qs.length = st.fl.length := h.2.2.2.2.2.2.2.2.2.2.2.2.1
theorem zCR.msg {G : zG} {M : zw_M} {x z L n mb : Nat} {st : zSt} {qs : List Nat} {g : Nat → Int32} (h : zCR G M x z L n mb st qs g) : ∀ (i q : Nat) (mg : zMg), qs[i]? = some q → st.fl[i]? = some mg → zMr G M L q mg := h.2.2.2.2.2.2.2.2.2.2.2.2.2
theorem zMr.to {G : zG} {M M' : zw_M} {L q : Nat} {mg : zMg} (h : zMr G M L q mg) (hM : ∀ (a : Nat) (e : va_E), L < a → M a = some e → M' a = some e) : zMr G M' L q mg := by
  unfold zMr at h ⊢
  obtain ⟨h1, h2⟩ := h
  refine ⟨h1, ?_⟩
  cases hk : mg.ck with
  | some k => rw [hk] at h2; exact hM _ _ h1 h2
  | none =>
    rw [hk] at h2
    obtain ⟨ch, f, a1, a2, a3, a4⟩ := h2
    exact ⟨ch, f, a1, hM _ _ h1 a2, hM _ _ a1 a3, a4⟩
/-- what a method of the class leaves alone: B's other cells -/
def zfr (x z n sz : Nat) (M M' : zw_M) : Prop := ∀ q : Nat, q ≠ x → (q < z ∨ z + 6 + 2 * n < q) → q < sz → M' q = M q
theorem zfr.rf {x z n sz : Nat} {M : zw_M} : zfr x z n sz M M := fun _ _ _ _ => rfl
theorem zfr.tr {x z n sz sz1 : Nat} {M M1 M2 : zw_M} (h1 : zfr x z n sz M M1) (h2 : zfr x z n sz1 M1 M2) (h : sz ≤ sz1) : zfr x z n sz M M2 := fun q a b c => (h2 q a b (by omega)).trans (h1 q a b c)
theorem zfr.ux {x z n sz : Nat} {M M1 : zw_M} {e : va_E} (h : zfr x z n sz M M1) : zfr x z n sz M (zw_u M1 x e) := fun q a b c => by rw [zw_un _ _ a]; exact h q a b c
theorem zfr.uz {x z n sz a : Nat} {M M1 : zw_M} {e : va_E} (h : zfr x z n sz M M1) (ha : z ≤ a) (hb : a ≤ z + 6 + 2 * n) : zfr x z n sz M (zw_u M1 a e) := fun q a1 b c => by rw [zw_un _ _ (by omega)]; exact h q a1 b c
theorem zfr.un {x z n sz a : Nat} {M M1 : zw_M} {e : va_E} (h : zfr x z n sz M M1) (ha : sz ≤ a) : zfr x z n sz M (zw_u M1 a e) := fun q a1 b c => by rw [zw_un _ _ (by omega)]; exact h q a1 b c
end
section
/-! how the class's cells follow a step of the state -/
section ZCR
variable {G : zG} {M M' : zw_M} {x z L n mb : Nat} {st st' : zSt} {qs : List Nat} {g : Nat → Int32}
/-- the counters alone -/
theorem zCR.cnt (h : zCR G M x z L n mb st qs g) (e1 : st'.dn = st.dn) (e2 : st'.lg = st.lg) (e3 : st'.wt = st.wt) (e4 : st'.fl = st.fl) (ho : M' x = some (.inr (1, zoC n mb z st'.fl.length st'.se st'.lo st'.go st'.pa))) (hk : ∀ (a : Nat) (e : va_E), a ≠ x → M a = some e → M' a = some e) : zCR G M' x z L n mb st' qs g := by
  have h1 := h.xz
  have h2 := h.zL
  refine ⟨h.xz, h.zL, ho, ?_, ?_, hk _ _ (by omega) h.lgs, ?_, ?_, hk _ _ (by omega) h.wts, ?_, hk _ _ (by omega) h.fl, hk _ _ (by omega) h.ga, ?_, ?_⟩
  · rw [e1]; exact hk _ _ (by omega) h.dn
  · rw [e2]; exact hk _ _ (by omega) h.ck
  · rw [e2]; exact fun i hi => hk _ _ (by omega) (h.lg i hi)
  · rw [e2]; exact hk _ _ (by omega) h.lz
  · rw [e3]; exact fun i hi => hk _ _ (by omega) (h.wt i hi)
  · rw [e4]; exact h.len
  · rw [e4]; exact fun i q mg a b => (h.msg i q mg a b).to (fun a e ha => hk a e (by omega))
theorem zqs_app (qs : List Nat) (q : Nat) : va_up (fun i => qs[i]?) qs.length (some q) = fun i => (qs ++ [q])[i]? := by
  funext i
  unfold va_up
  by_cases h : i = qs.length
  · subst h; simp
  · rw [if_neg h]
    show qs[i]? = _
    by_cases h2 : i < qs.length
    · rw [List.getElem?_append_left h2]
    · rw [List.getElem?_eq_none (by omega), List.getElem?_eq_none (by rw [List.length_append]; show qs.length + 1 ≤ i; omega)]
/-- a message comes into the flight -/
theorem zCR.put (h : zCR G M x z L n mb st qs g) {mg : zMg} {q : Nat} (e1 : st'.dn = st.dn) (e2 : st'.lg = st.lg) (e3 : st'.wt = st.wt) (e4 : st'.fl = st.fl ++ [mg]) (ho : M' x = some (.inr (1, zoC n mb z st'.fl.length st'.se st'.lo st'.go st'.pa)))
    (hf : M' (z + 5 + 2 * n) = some (.inl (G.2.1 3, 120, .inr (.inr (.inr (.inr (va_up (fun i => qs[i]?) st.fl.length (some q)))))))) (hq : zMr G M' L q mg) (hk : ∀ (a : Nat) (e : va_E), a ≠ x → a ≠ z + 5 + 2 * n → M a = some e → M' a = some e) : zCR G M' x z L n mb st' (qs ++ [q]) g := by
  have h1 := h.xz
  have h2 := h.zL
  refine ⟨h.xz, h.zL, ho, ?_, ?_, hk _ _ (by omega) (by omega) h.lgs, ?_, ?_, hk _ _ (by omega) (by omega) h.wts, ?_, ?_, hk _ _ (by omega) (by omega) h.ga, ?_, ?_⟩
  · rw [e1]; exact hk _ _ (by omega) (by omega) h.dn
  · rw [e2]; exact hk _ _ (by omega) (by omega) h.ck
  · rw [e2]; exact fun i hi => hk _ _ (by omega) (by omega) (h.lg i hi)
  · rw [e2]; exact hk _ _ (by omega) (by omega) h.lz
  · rw [e3]; exact fun i hi => hk _ _ (by omega) (by omega) (h.wt i hi)
  · rw [← h.len, zqs_app] at hf; exact hf
  · rw [e4, List.length_append, List.length_append, h.len]; rfl
  · rw [e4]
    intro i q2 mg2 a b
    by_cases hi : i < qs.length
    · rw [List.getElem?_append_left hi] at a
      rw [List.getElem?_append_left (by rw [← h.len]; exact hi)] at b
      exact (h.msg i q2 mg2 a b).to (fun a e ha => hk a e (by omega) (by omega))
    · by_cases he : i = qs.length
      · subst he
        rw [List.getElem?_append_right (Nat.le_refl _), Nat.sub_self] at a
        rw [h.len, List.getElem?_append_right (Nat.le_refl _), Nat.sub_self] at b
        cases a
        cases b
        exact hq
      · rw [List.getElem?_eq_none (by simp; omega)] at a
        cases a
/-- a message leaves the flight -/
theorem zCR.rem (h : zCR G M x z L n mb st qs g) {j : Nat} (e1 : st'.dn = st.dn) (e2 : st'.lg = st.lg) (e3 : st'.wt = st.wt) (e4 : st'.fl = st.fl.eraseIdx j) (ho : M' x = some (.inr (1, zoC n mb z st'.fl.length st'.se st'.lo st'.go st'.pa)))
    (hf : M' (z + 5 + 2 * n) = some (.inl (G.2.1 3, 120, .inr (.inr (.inr (.inr (fun i => (qs.eraseIdx j)[i]?))))))) (hk : ∀ (a : Nat) (e : va_E), a ≠ x → a ≠ z + 5 + 2 * n → M a = some e → M' a = some e) : zCR G M' x z L n mb st' (qs.eraseIdx j) g := by
  have h1 := h.xz
  have h2 := h.zL
  refine ⟨h.xz, h.zL, ho, ?_, ?_, hk _ _ (by omega) (by omega) h.lgs, ?_, ?_, hk _ _ (by omega) (by omega) h.wts, ?_, hf, hk _ _ (by omega) (by omega) h.ga, ?_, ?_⟩
  · rw [e1]; exact hk _ _ (by omega) (by omega) h.dn
  · rw [e2]; exact hk _ _ (by omega) (by omega) h.ck
  · rw [e2]; exact fun i hi => hk _ _ (by omega) (by omega) (h.lg i hi)
  · rw [e2]; exact hk _ _ (by omega) (by omega) h.lz
  · rw [e3]; exact fun i hi => hk _ _ (by omega) (by omega) (h.wt i hi)
  · rw [e4, List.length_eraseIdx, List.length_eraseIdx, h.len]
  · rw [e4]
    intro i q2 mg2 a b
    rw [List.getElem?_eraseIdx] at a b
    by_cases hi : i < j
    · rw [if_pos hi] at a b
      exact (h.msg i q2 mg2 a b).to (fun a e ha => hk a e (by omega) (by omega))
    · rw [if_neg hi] at a b
      exact (h.msg (i + 1) q2 mg2 a b).to (fun a e ha => hk a e (by omega) (by omega))
theorem zlg_app (l : List Nat) (c : Nat) : upd (fun k => nI (l.getD k 0)) l.length (nI c) = fun k => nI ((l ++ [c]).getD k 0) := by
  funext k
  unfold upd
  by_cases h : k = l.length
  · subst h; simp
  · rw [if_neg h]
    show nI (l.getD k 0) = _
    rw [List.getD_eq_getElem?_getD, List.getD_eq_getElem?_getD]
    by_cases h2 : k < l.length
    · rw [List.getElem?_append_left h2]
    · rw [List.getElem?_eq_none (by omega), List.getElem?_eq_none (by rw [List.length_append]; show l.length + 1 ≤ k; omega)]
/-- a change comes to a log -/
theorem zCR.logd (h : zCR G M x z L n mb st qs g) {r c : Nat} (hr : r < n) (hM : ∀ (a : Nat) (e : va_E), a ≠ z + 3 + r → a ≠ z + 3 + n → a ≠ z + 1 → M a = some e → M' a = some e)
    (h1 : M' (z + 3 + r) = some (.inl (G.2.1 0, n * 60, .inl (upd (fun k => nI ((st.lg r).getD k 0)) (st.lg r).length (nI c)))))
    (h2 : M' (z + 3 + n) = some (.inl (G.2.1 0, n, .inl (upd (fun i => nI ((st.lg i).length)) r (nI ((st.lg r).length + 1))))))
    (h3 : M' (z + 1) = some (.inl (G.2.1 1, n, .inr (.inl (vp_updL (fun i => zck (st.lg i)) r (zck (st.lg r) + lN (256 ^ (c % 8)))))))) : zCR G M' x z L n mb (zlog st r c) qs g := by
  have g1 := h.xz
  have g2 := h.zL
  refine ⟨h.xz, h.zL, hM _ _ (by omega) (by omega) (by omega) h.obj, hM _ _ (by omega) (by omega) (by omega) h.dn, ?_, hM _ _ (by omega) (by omega) (by omega) h.lgs, ?_, ?_, hM _ _ (by omega) (by omega) (by omega) h.wts, fun i hi => hM _ _ (by omega) (by omega) (by omega) (h.wt i hi), hM _ _ (by omega) (by omega) (by omega) h.fl, hM _ _ (by omega) (by omega) (by omega) h.ga, h.len, ?_⟩
  · have hf : vp_updL (fun i => zck (st.lg i)) r (zck (st.lg r) + lN (256 ^ (c % 8))) = fun i => zck ((zlog st r c).lg i) := by
      funext i
      show (if i = r then _ else _) = zck (if i = r then _ else _)
      by_cases hi : i = r
      · rw [if_pos hi, if_pos hi, zck_app]
      · rw [if_neg hi, if_neg hi]
    rw [h3, hf]
  · intro i hi
    show M' (z + 3 + i) = some (.inl (G.2.1 0, n * 60, .inl (fun k => nI ((if i = r then st.lg r ++ [c] else st.lg i).getD k 0))))
    by_cases hir : i = r
    · subst hir; rw [h1, zlg_app, if_pos rfl]
    · rw [if_neg hir]; exact hM _ _ (by omega) (by omega) (by omega) (h.lg i hi)
  · have hf : upd (fun i => nI ((st.lg i).length)) r (nI ((st.lg r).length + 1)) = fun i => nI (((zlog st r c).lg i).length) := by
      funext i
      show (if i = r then _ else _) = nI ((if i = r then st.lg r ++ [c] else st.lg i : List Nat).length)
      by_cases hi : i = r
      · rw [if_pos hi, if_pos hi, List.length_append]; rfl
      · rw [if_neg hi, if_neg hi]
    rw [h2, hf]
  · exact fun i q mg a b => (h.msg i q mg a b).to (fun a e ha => hM a e (by omega) (by omega) (by omega))
/-- a replica goes down, or comes up -/
theorem zCR.updn (h : zCR G M x z L n mb st qs g) {r : Nat} {b : Bool} (hM : ∀ (a : Nat) (e : va_E), a ≠ z → M a = some e → M' a = some e) (h1 : M' z = some (.inl (G.2.1 2, n, .inl (upd (fun i => nI (st.dn i).toNat) r (nI b.toNat))))) : zCR G M' x z L n mb (zup st r b) qs g := by
  have g1 := h.xz
  have g2 := h.zL
  refine ⟨h.xz, h.zL, hM _ _ (by omega) h.obj, ?_, hM _ _ (by omega) h.ck, hM _ _ (by omega) h.lgs, fun i hi => hM _ _ (by omega) (h.lg i hi), hM _ _ (by omega) h.lz, hM _ _ (by omega) h.wts, fun i hi => hM _ _ (by omega) (h.wt i hi), hM _ _ (by omega) h.fl, hM _ _ (by omega) h.ga, h.len, fun i q mg a b => (h.msg i q mg a b).to (fun a e ha => hM a e (by omega))⟩
  have hf : upd (fun i => nI (st.dn i).toNat) r (nI b.toNat) = fun i => nI ((zup st r b).dn i).toNat := by
    funext i
    show (if i = r then _ else _) = nI (if i = r then b else st.dn i : Bool).toNat
    by_cases hi : i = r
    · rw [if_pos hi, if_pos hi]
    · rw [if_neg hi, if_neg hi]
  rw [h1, hf]
/-- a weight -/
theorem zCR.wtd (h : zCR G M x z L n mb st qs g) {r w : Nat} (hr : r < n) (hM : ∀ (a : Nat) (e : va_E), a ≠ z + 5 + n + r → M a = some e → M' a = some e) (h1 : M' (z + 5 + n + r) = some (.inl (G.2.1 0, 60, .inl (upd (fun k => nI ((st.wt r).getD k 0)) (st.wt r).length (nI w))))) : zCR G M' x z L n mb (zSt.mk st.dn st.lg (fun i => if i = r then st.wt r ++ [w] else st.wt i) st.fl st.se st.lo st.go st.pa) qs g := by
  have g1 := h.xz
  have g2 := h.zL
  refine ⟨h.xz, h.zL, hM _ _ (by omega) h.obj, hM _ _ (by omega) h.dn, hM _ _ (by omega) h.ck, hM _ _ (by omega) h.lgs, fun i hi => hM _ _ (by omega) (h.lg i hi), hM _ _ (by omega) h.lz, hM _ _ (by omega) h.wts, ?_, hM _ _ (by omega) h.fl, hM _ _ (by omega) h.ga, h.len, fun i q mg a b => (h.msg i q mg a b).to (fun a e ha => hM a e (by omega))⟩
  intro i hi
  show M' (z + 5 + n + i) = some (.inl (G.2.1 0, 60, .inl (fun k => nI ((if i = r then st.wt r ++ [w] else st.wt i).getD k 0))))
  by_cases hir : i = r
  · subst hir; rw [h1, zlg_app, if_pos rfl]
  · rw [if_neg hir]; exact hM _ _ (by omega) (h.wt i hi)
/-- what lies in 'gathered' -/
theorem zCR.gat (h : zCR G M x z L n mb st qs g) {g' : Nat → Int32} (hM : ∀ (a : Nat) (e : va_E), a ≠ z + 6 + 2 * n → M a = some e → M' a = some e) (h1 : M' (z + 6 + 2 * n) = some (.inl (G.2.1 0, n * 60, .inl g'))) : zCR G M' x z L n mb st qs g' := by
  have g1 := h.xz
  have g2 := h.zL
  exact ⟨h.xz, h.zL, hM _ _ (by omega) h.obj, hM _ _ (by omega) h.dn, hM _ _ (by omega) h.ck, hM _ _ (by omega) h.lgs, fun i hi => hM _ _ (by omega) (h.lg i hi), hM _ _ (by omega) h.lz, hM _ _ (by omega) h.wts, fun i hi => hM _ _ (by omega) (h.wt i hi), hM _ _ (by omega) h.fl, h1, h.len, fun i q mg a b => (h.msg i q mg a b).to (fun a e ha => hM a e (by omega))⟩
/-- other cells of the run do not matter -/
theorem zCR.to (h : zCR G M x z L n mb st qs g) (hM : ∀ (a : Nat) (e : va_E), (a = x ∨ (z ≤ a ∧ a ≤ z + 6 + 2 * n) ∨ L < a) → M a = some e → M' a = some e) : zCR G M' x z L n mb st qs g := by
  have g1 := h.xz
  have g2 := h.zL
  exact ⟨h.xz, h.zL, hM _ _ (by omega) h.obj, hM _ _ (by omega) h.dn, hM _ _ (by omega) h.ck, hM _ _ (by omega) h.lgs, fun i hi => hM _ _ (by omega) (h.lg i hi), hM _ _ (by omega) h.lz, hM _ _ (by omega) h.wts, fun i hi => hM _ _ (by omega) (h.wt i hi), hM _ _ (by omega) h.fl, hM _ _ (by omega) h.ga, h.len, fun i q mg a b => (h.msg i q mg a b).to (fun a e ha => hM a e (by omega))⟩
end ZCR
/-- behind a method of the class -/
def zCO (G : zG) (x z L n mb sz : Nat) (M : zw_M) (st' : zSt) (u : zw_M × Nat) : Prop := (∃ (qs : List Nat) (g : Nat → Int32), zCR G u.1 x z L n mb st' qs g) ∧ zfr x z n sz M u.1 ∧ sz ≤ u.2
/-- the flight while a message is being taken out -/
def zfk (qs : List Nat) (j k : Nat) : Nat → Option Nat := fun i => if i < j then qs[i]? else if i + 1 < k then qs[i + 1]? else qs[i]?
theorem zfk_0 (qs : List Nat) (j : Nat) : zfk qs j (j + 1) = fun i => qs[i]? := by
  funext i
  unfold zfk
  by_cases h : i < j
  · rw [if_pos h]
  · rw [if_neg h, if_neg (by omega)]
theorem zfk_s (qs : List Nat) {j k q : Nat} (h : j + 1 ≤ k) (hq : qs[k]? = some q) : va_up (zfk qs j k) (k - 1) (some q) = zfk qs j (k + 1) := by
  funext i
  unfold va_up zfk
  by_cases h1 : i = k - 1
  · rw [if_pos h1, if_neg (by omega), if_pos (by omega), show i + 1 = k by omega, hq]
  · rw [if_neg h1]
    by_cases h2 : i < j
    · rw [if_pos h2, if_pos h2]
    · rw [if_neg h2, if_neg h2]
      by_cases h3 : i + 1 < k
      · rw [if_pos h3, if_pos (by omega)]
      · rw [if_neg h3, if_neg (by omega)]
theorem zfk_e (qs : List Nat) {j : Nat} (h : j < qs.length) : va_up (zfk qs j qs.length) (qs.length - 1) none = fun i => (qs.eraseIdx j)[i]? := by
  funext i
  rw [List.getElem?_eraseIdx]
  unfold va_up zfk
  by_cases h1 : i = qs.length - 1
  · rw [if_pos h1, if_neg (by omega), List.getElem?_eq_none (by omega)]
  · rw [if_neg h1]
    by_cases h2 : i < j
    · rw [if_pos h2, if_pos h2]
    · rw [if_neg h2, if_neg h2]
      by_cases h3 : i + 1 < qs.length
      · rw [if_pos h3]
      · rw [if_neg h3, List.getElem?_eq_none (by omega), List.getElem?_eq_none (by omega)]
end
section
/-! more calls: a long answer, and an array as an answer of a static method -/
section ZR2
variable {p : Program} {l : Launch} {e : Env} {R : Room} {s : State} {m : MethodId} {args : Array Value} {below : List Frame} {meth : Method} {c : Code} {H : Heap} {locs : List Loc} {cells slots : Nat} {Q : State → Prop}
variable {cc : ByteArray} {pc : Nat} {ls : Array Slot} {rest st0 : List Value} {D : va_G} {cl : List vw_C} {B b : Nat} {tys : List (ClassId × FieldType)} {M : zw_M} {H0 : Heap} {Ev : State → Prop}
variable {y : MethodName} {bytes : ByteArray} {maxL nL mc ms n index : Nat} {ret : Option FieldType} {ws ws' : List Cond} {rm : Room} {Ts : List Cond} {own C : String} {As : List Value}
theorem zr_Vl {post : Int64 → zw_M × Nat → Prop} (S : CallFix p m c cc nL s args Ts own) (hM : Met l y ws rm (zr_q Ev D cl B M H.size (.ref b :: As)) (va_Ql post (zr_o D cl B) (zw_A B)) mc ms (zw_A B)) (hT : GoodIn Ts (wsV own index C y ws)) (hw : ws = Cond.code y bytes maxL ret :: ws') (hrc : rm.cells = mc) (hrs : rm.slots = ms)
    (hd : y.cls = C ∧ y.cls ≠ "java/lang/invoke/MethodHandle" ∧ y.cls ≠ "java/lang/invoke/VarHandle" ∧ (parseMethodDescriptor y.desc).map (fun d => d.parameters.length) = some As.length) (hR : rm.frames + 1 ≤ R.frames ∧ 8 + (maxL + 11) + rm.locals ≤ R.locals)
    (hbl : ∀ (U : State) (g : JFrame) (mk : MethodId) (a : Array Value), Ev U → Ev (U.calling g mk a)) (hmv : ∀ U : State, U.heap = H → s.WarmedH U.vm → Ev U) (hH : zw_H D cl B M H) (hK : va_K D cl tys s) {ci : Nat} {fs : List Value} {q : vw_C} (hb0 : M b = some (.inr (ci, fs))) (hc : cl[ci]? = some q) (hq : q.1 = C) (hS : va_S (zw_A B) H0 H locs)
    (hsize : ls.size = nL) (hstack : st0 = As.reverse ++ .ref b :: rest) (h8 : (rest.map fun v => v.category).sum ≤ 8) (hdg : decode cc pc = .ok (.invokevirtual index, 3)) (hf : cells + mc ≤ R.cells ∧ slots + ms ≤ R.slots)
    (kk : ∀ (r : Int64) (M1 : zw_M) (sz1 : Nat) (H1 : Heap) (locs1 : List Loc), post r (M1, sz1) → zw_H D cl B M1 H1 → H1.size = sz1 → H.size ≤ H1.size → va_S (zw_A B) H0 H1 locs1 → W p l e R s m args below meth c H1 locs1 (cells + mc) (slots + ms) Q (F0 m (pc + 3) ls (.long r :: rest))) : W p l e R s m args below meth c H locs cells slots Q (F0 m pc ls st0) := by
  subst hq
  refine va_calll (va_runV (As := As) (rest := rest) S hM (cwV As.length S.2.2.2.2 hT hw hrc hrs hd hR) ⟨zr_blindq hbl _, va_recv hK (hH.one hb0) (q0 := 0) hc rfl, fun U hU hW => ⟨rfl, hmv U hU hW, by rw [hU]; exact hH, by rw [hU]⟩⟩ rfl rfl hsize hstack (by show 2 * 0 + _ ≤ 8; omega) hdg hf) hS (fun q _ h => h) (fun q h => h) (fun r u t H1 locs1 ht hvm hw1 hB hz1 hk1 hS1 => ?_)
  subst ht
  exact kk r u.1 u.2 _ locs1 hw1 hB.1 hB.2 hz1 hS1
/-- a static call over a longer stack: up to 12 words below the arguments -/
theorem zr_run12 {Pc : Array Value → State → Prop} {Qc : Array Value → State → Outcome → State → Prop} {free : Addr → Prop} {g : JFrame} (S : CallFix p m c cc nL s args Ts own) (hM : Met l y ws rm Pc Qc mc ms free) (cw : CallB R s args own index y bytes maxL ret ws rm mc ms n ∧ (Cond.static y).before args s = true) (h12 : 12 + (maxL + 11) + rm.locals ≤ R.locals) (hp : PreS s H Pc As)
    (hg : g.method = m) (hn : As.length = n) (hsize : g.locals.size = nL) (hstack : g.stack = As.reverse ++ rest) (hW : 2 * g.monitorRoom + (rest.map fun v => v.category).sum ≤ 12) (hdg : decode cc g.pc = .ok (.invokestatic index, 3)) (hf : cells + mc ≤ R.cells ∧ slots + ms ≤ R.slots) :
    va_Run p l e R s m args below meth c H locs cells slots mc ms g rest (Qc As.toArray) (free) := by
  obtain ⟨⟨hrc, hrs, hfr, -, hws, hcw, hcode, hini, hy, hlen, hl⟩, hstt⟩ := cw
  have hB : Back l R p e below s args y 3 12 (PreOf R mc ms Pc) (PostOf Qc mc ms free) := back_of (bytes := bytes) (maxL := maxL) (ret := ret) hM hp.1 hrc hrs hfr h12 hws hcw (fun a' U hW => word_at hW (Or.inl (by first | rfl | simp [Cond.onTables, Cond.keeps, Cond.steady])) hini)
  obtain ⟨hx, hb, hml, ho, -⟩ := S
  intro T hT X
  obtain ⟨v, vm₁, ⟨U', l2, c2, s2⟩, hW₁, X', ⟨g', mk, t, L, e1, e2, hq, h1, hL, h2, h3⟩, st⟩ := callS X hx (bytes := bytes) (maxL := maxL) (ret := ret) ho hl hstt hini hcode hy hB hg (hsize.trans hml.symm) (argsL := As) (rest := rest) (fun sig h => hn.trans (hlen sig h)) hstack hW (by rw [hb]; exact hdg)
    (fun vm₁ hW₁ => ⟨hf.1, hf.2, hp.2 (T.setVm vm₁) hT hW₁⟩)
  dsimp only [Pt.U, Pt.locs, Pt.cells, Pt.slots] at X' e1 e2 h1 h2 h3 st
  subst h1; subst h2; subst h3
  exact ⟨v, (T.setVm vm₁).calling g' mk As.toArray, t, U', L, hT, X', hL, e1, e2, hq, st⟩
/-- an array as the answer of a static method of another class: its address comes with the map -/
theorem zr_Sr {post : zw_M × Nat → Nat → Prop} (S : CallFix p m c cc nL s args Ts own) (hM : Met l y ws rm (zr_q Ev D cl B M H.size As) (va_Qr (fun _ => True) (fun u a t => zr_o D cl B u t ∧ post u a) (zw_A B)) mc ms (zw_A B)) (hT : GoodIn Ts ws) (hw : ws = Cond.code y bytes maxL ret :: ws') (hrc : rm.cells = mc) (hrs : rm.slots = ms) (hini : (Cond.initialized y.cls).before args s = true) (hlk : (Cond.methodLink own index y).before args s = true) (hst : (Cond.static y).before args s = true)
    (hd : y.cls ≠ "java/lang/invoke/MethodHandle" ∧ y.cls ≠ "java/lang/invoke/VarHandle" ∧ (parseMethodDescriptor y.desc).map (fun d => d.parameters.length) = some As.length) (hR : rm.frames + 1 ≤ R.frames ∧ 8 + (maxL + 11) + rm.locals ≤ R.locals)
    (h12 : 12 + (maxL + 11) + rm.locals ≤ R.locals) (hbl : ∀ (U : State) (g : JFrame) (mk : MethodId) (a : Array Value), Ev U → Ev (U.calling g mk a)) (hmv : ∀ U : State, U.heap = H → s.WarmedH U.vm → Ev U) (hH : zw_H D cl B M H) (hS : va_S (zw_A B) H0 H locs)
    (hsize : ls.size = nL) (hstack : st0 = As.reverse ++ rest) (h8 : (rest.map fun v => v.category).sum ≤ 12) (hdg : decode cc pc = .ok (.invokestatic index, 3)) (hf : cells + mc ≤ R.cells ∧ slots + ms ≤ R.slots)
    (kk : ∀ (r : Nat) (M1 : zw_M) (sz1 : Nat) (H1 : Heap) (locs1 : List Loc), post (M1, sz1) r → zw_H D cl B M1 H1 → H1.size = sz1 → H.size ≤ H1.size → va_S (zw_A B) H0 H1 locs1 → W p l e R s m args below meth c H1 locs1 (cells + mc) (slots + ms) Q (F0 m (pc + 3) ls (.ref r :: rest))) : W p l e R s m args below meth c H locs cells slots Q (F0 m pc ls st0) := by
  refine va_callr (zr_run12 (As := As) (rest := rest) S hM ⟨callB_of As.length S.2.2.2.2 hT hw hrc hrs hini hlk hd hR, hst⟩ h12 ⟨zr_blindq hbl _, fun U hU hW => ⟨rfl, hmv U hU hW, by rw [hU]; exact hH, by rw [hU]⟩⟩ rfl rfl hsize hstack (by show 2 * 0 + _ ≤ 12; omega) hdg hf) hS (fun q _ h => h) (fun q h => h) (fun u ra t H1 locs1 ht hvm hw1 hB hz1 hk1 hS1 => ?_)
  subst ht
  exact kk ra u.1 u.2 _ locs1 hB.2 hB.1.1 hB.1.2 hz1 hS1
end ZR2
/-- the map holds this already -/
theorem zw_ui {M : zw_M} {a : Nat} {e : va_E} (h : M a = some e) : zw_u M a e = M := by
  funext q
  by_cases hq : q = a
  · subst hq; rw [zw_us, h]
  · rw [zw_un _ _ hq]
theorem zMr.ex {G : zG} {M : zw_M} {L q : Nat} {mg : zMg} (h : zMr G M L q mg) : L < q ∧ ∃ fs, M q = some (.inr (0, fs)) := by
  unfold zMr at h
  obtain ⟨h1, h2⟩ := h
  refine ⟨h1, ?_⟩
  cases hk : mg.ck with
  | some k => rw [hk] at h2; exact ⟨_, h2⟩
  | none => rw [hk] at h2; obtain ⟨ch, f, -, a2, -⟩ := h2; exact ⟨_, a2⟩
theorem zCR.at {G : zG} {M : zw_M} {x z L n mb : Nat} {st : zSt} {qs : List Nat} {g : Nat → Int32} (h : zCR G M x z L n mb st qs g) {j : Nat} (hj : j < st.fl.length) : ∃ (q : Nat) (mg : zMg), qs[j]? = some q ∧ st.fl[j]? = some mg ∧ zMr G M L q mg := by
  have h1 : j < qs.length := by rw [h.len]; exact hj
  exact ⟨_, _, List.getElem?_eq_getElem h1, List.getElem?_eq_getElem hj, h.msg j _ _ (List.getElem?_eq_getElem h1) (List.getElem?_eq_getElem hj)⟩
end
section
/-! System.arraycopy of ints, clone of an array of ints, over the map; nothing was written before (no places) -/
section ZCP
variable {p : Program} {l : Launch} {e : Env} {R : Room} {s : State} {m : MethodId} {args : Array Value} {below : List Frame} {meth : Method} {c : Code} {H : Heap} {cells slots : Nat} {Q : State → Prop}
variable {cc : ByteArray} {pc : Nat} {ls : Array Slot} {rest : List Value} {D : va_G} {cl : List vw_C} {B a : Nat} {tys : List (ClassId × FieldType)} {M : zw_M} {H0 : Heap}
theorem zw_copyi (hexec : p.tables.exec = Jvm.exec) (hb : c.code = cc) (hml : c.maxLocals = ls.size) {own : String} {index : Nat} (hown : s.vm.findClass own = some m.cls) (hlink : (Cond.methodLink own index arraycopyName).before args s = true) (hnat : (Cond.native arraycopyName).before args s = true) (hstat : (Cond.static arraycopyName).before args s = true) (hini : (Cond.initialized "java/lang/System").before args s = true)
    (hK : va_K D cl tys s) (hP : zw_H D cl B M H) (hS : va_S (zw_A B) H0 H []) (t0 : Nat) {a0 : Nat} {c0 : ClassId} {n0 n1 N : Nat} {f g : Nat → Int32} (ha0 : M a0 = some (.inl (c0, n0, .inl f))) (ha1 : M a = some (.inl (c0, n1, .inl g))) (hne : a0 ≠ a) (ht0 : tys[t0]? = some (c0, .int)) (hN : N < 2 ^ 31) (h4 : N ≤ n0) (h5 : N ≤ n1)
    (hframes : 1 ≤ R.frames) (hlocals : (rest.map fun v => v.category).sum + (nativeFrameWords "java/lang/System" "arraycopy" 5 + 11) ≤ R.locals) (hdg : decode cc pc = .ok (.invokestatic index, 3))
    (kk : ∀ (H1 : Heap) (locs1 : List Loc), zw_H D cl B (zw_u M a (.inl (c0, n1, .inl (va_cpy f g 0 0 N)))) H1 → H.size ≤ H1.size → va_S (zw_A B) H0 H1 locs1 → W p l e R s m args below meth c H1 locs1 cells slots Q (F0 m (pc + 3) ls rest)) : W p l e R s m args below meth c H [] cells slots Q (F0 m pc ls (.int (nI N) :: .int (nI 0) :: .ref a :: .int (nI 0) :: .ref a0 :: rest)) := by
  have hc : (nI N).toNatClampNeg = N := nI_clamp hN
  have hc0 : (nI 0).toNatClampNeg = 0 := nI_clamp (by decide)
  refine va_copyi (D := D) (cl := cl) (A := fun q => q = a0 ∨ q = a) (ws := [(a0, .inl (c0, n0, .inl f)), (a, .inl (c0, n1, .inl g))]) (H0 := H) hexec hb hml hown hlink hnat hstat hini hK ?_ ?_ ⟨Nat.le_refl _, fun _ _ _ => rfl, fun _ h => by cases h⟩ 0 1 t0 t0 rfl rfl ht0 ht0 rfl (nI_pos (by decide)) (nI_pos (by decide)) (nI_pos hN) (by rw [hc, hc0]; omega) (by rw [hc, hc0]; omega) (fun i _ => rfl) hframes hlocals hdg ?_
  · intro k q hk
    match k, hk with
    | 0, hk => cases hk; exact (hP _ _ ha0).2
    | 1, hk => cases hk; exact (hP _ _ ha1).2
    | k + 2, hk => simp at hk
  · refine ⟨fun i j p q hi hj hpq => ?_, fun k q hk => ?_⟩
    · match i, j, hi, hj with
      | 0, 0, _, _ => rfl
      | 0, 1, hi, hj => cases hi; cases hj; exact absurd hpq hne
      | 1, 0, hi, hj => cases hi; cases hj; exact absurd hpq.symm hne
      | 1, 1, _, _ => rfl
      | i + 2, _, hi, _ => simp at hi
      | _, j + 2, _, hj => simp at hj
    · match k, hk with
      | 0, hk => cases hk; exact Or.inl rfl
      | 1, hk => cases hk; exact Or.inr rfl
      | k + 2, hk => simp at hk
  · intro H1 locs1 hP1 hD1 hS1
    rw [hc, hc0] at hP1
    refine kk H1 locs1 ?_ hS1.1 ⟨Nat.le_trans hS.1 hS1.1, fun q h1 h2 => ?_, fun q hq => ?_⟩
    · intro q e2 h2
      by_cases hq : q = a
      · subst hq
        rw [zw_us] at h2
        cases h2
        exact ⟨(hP _ _ ha1).1, hP1 1 _ rfl⟩
      · rw [zw_un _ _ hq] at h2
        by_cases hq0 : q = a0
        · subst hq0
          rw [ha0] at h2
          cases h2
          exact ⟨(hP _ _ ha0).1, hP1 0 _ rfl⟩
        · exact ⟨(hP q e2 h2).1, (hP q e2 h2).2.kept (hS1.2.1 q (hP.lt h2) (fun h => h.elim hq0 hq))⟩
    · rw [hS1.2.1 q (Nat.lt_of_lt_of_le h1 hS.1) (fun h => h2 (h.elim (fun w => by rw [w]; exact (hP _ _ ha0).1) (fun w => by rw [w]; exact (hP _ _ ha1).1)))]
      exact hS.2.1 q h1 h2
    · exact (hS1.2.2 q hq).elim (fun w => by rw [w]; exact (hP _ _ ha0).1) (fun w => by rw [w]; exact (hP _ _ ha1).1)
theorem zw_clone (hexec : p.tables.exec = Jvm.exec) (hb : c.code = cc) (hml : c.maxLocals = ls.size) {own ad : String} {index : Nat} (hown : s.vm.findClass own = some m.cls)
    (hlink : (Cond.methodLink own index ⟨ad, "clone", "()Ljava/lang/Object;"⟩).before args s = true) (hsame : (Cond.sameMethod ad "java/lang/Object" "clone" "()Ljava/lang/Object;").before args s = true)
    (hnat : (Cond.native ⟨"java/lang/Object", "clone", "()Ljava/lang/Object;"⟩).before args s = true) (hinst : (Cond.instanceMethod ⟨"java/lang/Object", "clone", "()Ljava/lang/Object;"⟩).before args s = true)
    (hsel : (Cond.selects ad ⟨ad, "clone", "()Ljava/lang/Object;"⟩ ⟨"java/lang/Object", "clone", "()Ljava/lang/Object;"⟩).before args s = true) (hcl : va_Nw (.castable ad "java/lang/Cloneable") s)
    (hK : va_K D cl tys s) (hP : zw_H D cl B M H) (hS : va_S (zw_A B) H0 H []) (hBs : B ≤ H.size) (t0 : Nat) {cA : ClassId} {N : Nat} {f : Nat → Int32} (ha : M a = some (.inl (cA, N, .inl f))) (ht : tys[t0]? = some (cA, .int)) (hnm : s.vm.findClass ad = some cA)
    (hframes : 1 ≤ R.frames) (hlocals : (rest.map fun v => v.category).sum + 14 ≤ R.locals) (hcells : cells + 1 ≤ R.cells) (hslots : slots + N ≤ R.slots) (hdg : decode cc pc = .ok (.invokevirtual index, 3))
    (kk : ∀ (q : Nat) (H1 : Heap), H.size ≤ q → zw_H D cl B (zw_u M q (.inl (cA, N, .inl f))) H1 → H.size ≤ H1.size → va_S (zw_A B) H0 H1 [] → W p l e R s m args below meth c H1 [] (cells + 1) (slots + N) Q (F0 m (pc + 3) ls (.ref q :: rest))) : W p l e R s m args below meth c H [] cells slots Q (F0 m pc ls (.ref a :: rest)) := by
  refine va_clone (D := D) (cl := cl) (A := fun q => q = a ∨ H.size ≤ q) (ws := [(a, .inl (cA, N, .inl f))]) (H0 := H) (x := (N, .inl f)) (ty := .int) hexec hb hml hown hlink hsame hnat hinst hsel hcl hK (hP.one ha) ?_ ⟨Nat.le_refl _, fun _ _ _ => rfl, fun _ h => by cases h⟩ (fun q hq => Or.inr hq) 0 t0 rfl ht hnm (fun i v hv => ?_) hframes hlocals hcells hslots hdg ?_
  · refine ⟨fun i j p q hi hj hpq => ?_, fun k q hk => ?_⟩
    · match i, j, hi, hj with
      | 0, 0, _, _ => rfl
      | i + 1, _, hi, _ => simp at hi
      | _, j + 1, _, hj => simp at hj
    · match k, hk with
      | 0, hk => cases hk; exact Or.inl rfl
      | k + 1, hk => simp at hk
  · have hv2 : (arrV cA N (fun j => .int (f j))).slots[i]? = some v := hv
    by_cases hi : i < N
    · rw [arrV_read _ _ hi] at hv2
      cases hv2
      rfl
    · rw [Array.getElem?_eq_none (by rw [arrV_size]; omega)] at hv2
      cases hv2
  · intro q H1 _ hP1 hD1 hS1
    have hq : H.size ≤ q := by
      rcases hD1.2 1 _ rfl with h | h
      · have := hD1.1 0 1 _ _ rfl rfl h.symm
        cases this
      · exact h
    have hkp : ∀ r : Nat, r < H.size → H1[r]? = H[r]? := fun r hr => by
      by_cases hra : r = a
      · subst hra
        have e1 : H1[r]? = some (vp_cell cA (N, .inl f)) := hP1 0 _ rfl
        have e2 : H[r]? = some (vp_cell cA (N, .inl f)) := (hP _ _ ha).2
        rw [e1, e2]
      · exact hS1.2.1 r hr (fun h => h.elim hra (fun w => by omega))
    refine kk q H1 hq ?_ hS1.1 ⟨Nat.le_trans hS.1 hS1.1, fun r h1 h2 => ?_, fun _ h => by cases h⟩
    · intro r e2 h2
      by_cases hr : r = q
      · subst hr
        rw [zw_us] at h2
        cases h2
        exact ⟨Nat.le_trans hBs hq, hP1 1 _ rfl⟩
      · rw [zw_un _ _ hr] at h2
        exact ⟨(hP r e2 h2).1, (hP r e2 h2).2.kept (hkp r (hP.lt h2))⟩
    · rw [hkp r (Nat.lt_of_lt_of_le h1 hS.1)]
      exact hS.2.1 r h1 h2
end ZCP
end
section
/-! WHAT HOLDS IN EVERY RUN -/
theorem zcnt_cons (a c : Nat) (L : List Nat) : zcnt a (c :: L) = zcnt a L + if c % 8 = a then 1 else 0 := by
  unfold zcnt
  rw [List.filter_cons]
  by_cases h : c % 8 = a
  · simp [h]
  · simp [h]
theorem zsum_add (f g : Nat → Nat) : ∀ n, zsum (fun i => f i + g i) n = zsum f n + zsum g n
  | 0 => rfl
  | n + 1 => by
    show zsum (fun i => f i + g i) n + (f n + g n) = zsum f n + f n + (zsum g n + g n)
    rw [zsum_add f g n]; omega
theorem zsum_one {a : Nat} : ∀ {n : Nat}, zsum (fun i => if a = i then 1 else 0) n = if a < n then 1 else 0
  | 0 => by simp [zsum]
  | n + 1 => by
    show zsum (fun i => if a = i then 1 else 0) n + (if a = n then 1 else 0) = _
    rw [zsum_one]
    by_cases h1 : a < n
    · rw [if_pos h1, if_neg (by omega), if_pos (by omega)]
    · by_cases h2 : a = n
      · rw [if_neg h1, if_pos h2, if_pos (by omega)]
      · rw [if_neg h1, if_neg h2, if_neg (by omega)]
theorem zsum_zero : ∀ n, zsum (fun _ => 0) n = 0
  | 0 => rfl
  | n + 1 => zsum_zero n
theorem zlen {n : Nat} : ∀ (L : List Nat), (∀ c ∈ L, c % 8 < n) → L.length = zsum (fun a => zcnt a L) n
  | [], _ => (zsum_zero n).symm
  | c :: L, h => by
    have h1 := zlen L (fun d hd => h d (List.mem_cons_of_mem _ hd))
    have h2 : (fun a => zcnt a (c :: L)) = fun a => zcnt a L + if c % 8 = a then 1 else 0 := funext (fun a => zcnt_cons a c L)
    rw [h2, zsum_add, ← h1, zsum_one, if_pos (h c List.mem_cons_self)]
    rfl
theorem zsum_lt {f : Nat → Nat} {b a : Nat} : ∀ {n : Nat}, (∀ i, i < n → f i ≤ b) → a < n → f a < b → zsum f n < n * b
  | 0, _, ha, _ => absurd ha (by omega)
  | n + 1, h, ha, hb => by
    show zsum f n + f n < (n + 1) * b
    rw [Nat.succ_mul]
    by_cases hn : a = n
    · subst hn
      have := zsum_le (n := a) (fun i hi => h i (by omega))
      omega
    · have := zsum_lt (n := n) (fun i hi => h i (by omega)) (by omega) hb
      have := h n (by omega)
      omega
theorem zsum_mono {f g : Nat → Nat} : ∀ {n : Nat}, (∀ i, i < n → f i ≤ g i) → zsum f n ≤ zsum g n
  | 0, _ => Nat.le_refl _
  | n + 1, h => by
    have h1 := zsum_mono (n := n) (fun i hi => h i (by omega))
    have h2 := h n (by omega)
    show zsum f n + f n ≤ zsum g n + g n
    omega
theorem zcnt_0 {a n : Nat} (ha : n ≤ a) : ∀ (L : List Nat), (∀ c ∈ L, c % 8 < n) → zcnt a L = 0
  | [], _ => rfl
  | c :: L, h => by
    rw [zcnt_cons, zcnt_0 ha L (fun d hd => h d (List.mem_cons_of_mem _ hd)), if_neg (by have := h c List.mem_cons_self; omega)]
/-- a change that was made -/
def zval (n : Nat) (wt : Nat → List Nat) (c : Nat) : Prop := c % 8 < n ∧ 1 ≤ c / 8 ∧ c / 8 ≤ (wt (c % 8)).length
def zMok (n : Nat) (wt : Nat → List Nat) (mg : zMg) : Prop := mg.snd < n ∧ mg.rcv < n ∧ match mg.ck with
  | some k => k ≠ -1 ∧ mg.byt = 3 + n ∧ mg.chs = []
  | none => 0 < mg.chs.length ∧ mg.chs.length ≤ 480 ∧ (∀ c ∈ mg.chs, zval n wt c) ∧ mg.byt = 3 + (mg.chs.map (zwo wt)).sum
def zOK (n : Nat) (st : zSt) : Prop :=
  (∀ r, r < n → ∀ c ∈ st.lg r, zval n st.wt c) ∧
  (∀ r a, r < n → a < n → zcnt a (st.lg r) ≤ (st.wt a).length) ∧
  (∀ a, a < n → zcnt a (st.lg a) = (st.wt a).length ∧ (st.wt a).length ≤ 60) ∧
  (∀ a, a < n → ∀ w ∈ st.wt a, 1 ≤ w ∧ w ≤ 400) ∧
  st.fl.length ≤ 120 ∧ (∀ mg ∈ st.fl, zMok n st.wt mg)
section ZOK
variable {n : Nat} {st st' : zSt}
theorem zOK.fl (h : zOK n st) : st.fl.length ≤ 120 := h.2.2.2.2.1
theorem zOK.msg (h : zOK n st) {mg : zMg} (hm : mg ∈ st.fl) : zMok n st.wt mg := h.2.2.2.2.2 mg hm
theorem zOK.val (h : zOK n st) {r c : Nat} (hr : r < n) (hc : c ∈ st.lg r) : zval n st.wt c := h.1 r hr c hc
theorem zOK.cnt60 (h : zOK n st) {r a : Nat} (hr : r < n) (ha : a < n) : zcnt a (st.lg r) ≤ 60 := Nat.le_trans (h.2.1 r a hr ha) (h.2.2.1 a ha).2
theorem zOK.b8 (h : zOK n st) {r : Nat} (hr : r < n) (b : Nat) (_ : b < 8) : zcnt b (st.lg r) < 256 := by
  by_cases hb : b < n
  · have := h.cnt60 hr hb; omega
  · rw [zcnt_0 (by omega) _ (fun c hc => (h.1 r hr c hc).1)]; decide
theorem zOK.len (h : zOK n st) {r : Nat} (hr : r < n) : (st.lg r).length ≤ n * 60 := by
  rw [zlen (n := n) _ (fun c hc => (h.1 r hr c hc).1)]
  exact zsum_le (fun i hi => h.cnt60 hr hi)
theorem zOK.len2 (h : zOK n st) {r c : Nat} (hr : r < n) (hc : zval n st.wt c) (hf : zfits st r c) : (st.lg r).length < n * 60 := by
  rw [zlen (n := n) _ (fun c hc => (h.1 r hr c hc).1)]
  refine zsum_lt (a := c % 8) (fun i hi => h.cnt60 hr hi) hc.1 ?_
  have h1 := (h.2.2.1 _ hc.1).2
  have h2 := hc.2.2
  unfold zfits at hf
  omega
theorem zval.lt (hn : n ≤ 8) (h : zOK n st) {c : Nat} (hc : zval n st.wt c) : c < 2 ^ 31 := by
  have h1 := (h.2.2.1 _ hc.1).2
  have h2 := hc.2.2
  omega
theorem zck_ne (h : zOK n st) {r : Nat} (hr : r < n) : zck (st.lg r) ≠ -1 := by
  intro e
  have h1 := zck_at (h.b8 hr) (a := 0) (by decide)
  rw [e] at h1
  have h2 : zcnt 0 (st.lg r) ≤ 60 := h.cnt60 hr (by omega)
  have h3 : zb (-1) 0 = 255 := by decide
  omega
theorem zOK.same (h : zOK n st) (e2 : st'.lg = st.lg) (e3 : st'.wt = st.wt) (e4 : st'.fl = st.fl) : zOK n st' := by
  unfold zOK
  rw [e2, e3, e4]
  exact h
theorem zOK.send (h : zOK n st) {a b c : Nat} {k : Option Int64} {L : List Nat} (hm : ∀ num, zMok n st.wt (zMg.mk num a b c k L)) : zOK n (zsend st a b c k L) := by
  unfold zsend
  by_cases hl : st.fl.length < 120
  · rw [if_pos hl]
    refine ⟨h.1, h.2.1, h.2.2.1, h.2.2.2.1, ?_, fun mg hmg => ?_⟩
    · show (st.fl ++ [_]).length ≤ 120
      rw [List.length_append]
      exact hl
    · rcases List.mem_append.mp hmg with h1 | h1
      · exact h.msg h1
      · rw [List.mem_singleton.mp h1]; exact hm _
  · rw [if_neg hl]
    exact h.same rfl rfl rfl
theorem zOK.drop (h : zOK n st) (i : Nat) : zOK n (zdrop st i) := by
  refine ⟨h.1, h.2.1, h.2.2.1, h.2.2.2.1, ?_, fun mg hmg => h.msg (List.mem_of_mem_eraseIdx hmg)⟩
  exact Nat.le_trans (List.length_eraseIdx_le _ _) h.fl
theorem zOK.log (h : zOK n st) {r c : Nat} (hr : r < n) (hc : zval n st.wt c) (hf : zfits st r c) : zOK n (zlog st r c) := by
  have hcr : c % 8 ≠ r := fun e => by
    have h1 := (h.2.2.1 _ hc.1).1
    have h2 := hc.2.2
    unfold zfits at hf
    rw [e] at h1 h2 hf
    omega
  refine ⟨fun q hq d hd => ?_, fun q a hq ha => ?_, fun a ha => ?_, h.2.2.2.1, h.2.2.2.2.1, h.2.2.2.2.2⟩
  · change d ∈ (if q = r then st.lg r ++ [c] else st.lg q) at hd
    by_cases e : q = r
    · rw [if_pos e] at hd
      rcases List.mem_append.mp hd with h1 | h1
      · exact h.1 r hr d h1
      · rw [List.mem_singleton.mp h1]; exact hc
    · rw [if_neg e] at hd
      exact h.1 q hq d hd
  · show zcnt a (if q = r then st.lg r ++ [c] else st.lg q) ≤ (st.wt a).length
    by_cases e : q = r
    · rw [if_pos e, zcnt_app]
      have h1 := h.2.1 r a hr ha
      by_cases ec : c % 8 = a
      · rw [if_pos ec]
        have h2 := hc.2.2
        unfold zfits at hf
        rw [ec] at hf h2
        omega
      · rw [if_neg ec]; exact h1
    · rw [if_neg e]; exact h.2.1 q a hq ha
  · refine ⟨?_, (h.2.2.1 a ha).2⟩
    show zcnt a (if a = r then st.lg r ++ [c] else st.lg a) = (st.wt a).length
    by_cases e : a = r
    · rw [if_pos e, zcnt_app, if_neg (by omega), e]; exact (h.2.2.1 r hr).1
    · rw [if_neg e]; exact (h.2.2.1 a ha).1
theorem zOK.ta (h : zOK n st) {r c k : Nat} (hr : r < n) (hc : zval n st.wt c) : zOK n (zta r (st, k) c).1 ∧ (zta r (st, k) c).1.wt = st.wt := by
  unfold zta
  by_cases hf : zfits st r c
  · rw [if_pos hf]; exact ⟨h.log hr hc hf, rfl⟩
  · rw [if_neg hf]; exact ⟨h.same rfl rfl rfl, rfl⟩
theorem zOK.tas (h : zOK n st) {r : Nat} (hr : r < n) : ∀ (L : List Nat) (k : Nat), (∀ c ∈ L, zval n st.wt c) → zOK n (L.foldl (zta r) (st, k)).1 ∧ (L.foldl (zta r) (st, k)).1.wt = st.wt := by
  intro L
  induction L generalizing st with
  | nil => exact fun k _ => ⟨h, rfl⟩
  | cons c L ih =>
    intro k hL
    obtain ⟨h1, h2⟩ := h.ta (k := k) hr (hL c List.mem_cons_self)
    obtain ⟨h3, h4⟩ := ih h1 (zta r (st, k) c).2 (fun d hd => by rw [h2]; exact hL d (List.mem_cons_of_mem _ hd))
    exact ⟨h3, h4.trans h2⟩
end ZOK
end
section
/-! new int[n][k] over the map -/
def zw_rows (M : zw_M) (h N : Nat) (e : va_E) : zw_M := fun q => if h ≤ q ∧ q < h + N then some e else M q
theorem zw_rin (M : zw_M) {h N q : Nat} (e : va_E) (h1 : h ≤ q) (h2 : q < h + N) : zw_rows M h N e q = some e := if_pos ⟨h1, h2⟩
theorem zw_rout (M : zw_M) {h N q : Nat} (e : va_E) (h1 : ¬ (h ≤ q ∧ q < h + N)) : zw_rows M h N e q = M q := if_neg h1
theorem zarrV_ext {cA : ClassId} {N : Nat} {f g : Nat → Value} (h : ∀ j, j < N → f j = g j) : arrV cA N f = arrV cA N g := by
  unfold arrV
  congr 2
  funext j
  exact h j.val j.isLt
section ZMU
variable {p : Program} {l : Launch} {e : Env} {R : Room} {s : State} {m : MethodId} {args : Array Value} {below : List Frame} {meth : Method} {c : Code} {H : Heap} {locs : List Loc} {cells slots : Nat} {Q : State → Prop}
variable {cc : ByteArray} {pc : Nat} {ls : Array Slot} {rest : List Value} {D : va_G} {cl : List vw_C} {B : Nat} {tys : List (ClassId × FieldType)} {M : zw_M} {H0 : Heap}
theorem zw_multi (hexec : p.tables.exec = Jvm.exec) (hb : c.code = cc) {own : String} {index : Nat} (hown : s.vm.findClass own = some m.cls) (hclink : (Cond.classLink own index "[[I").before args s = true)
    (hover : (Cond.arrayOver (.array .int)).before args s = true) (harr : (Cond.arrayClass .int).before args s = true) (hK : va_K D cl tys s) (hP : zw_H D cl B M H) (hS : va_S (zw_A B) H0 H locs) (hBs : B ≤ H.size) (t0 t1 : Nat) {cA cI : ClassId} (ht0 : tys[t0]? = some (cI, .int)) (ht1 : tys[t1]? = some (cA, .array .int)) (hdg : decode cc pc = .ok (.multianewarray index 2, 4)) {N K : Nat}
    (hb1 : N ≤ 100000) (hb2 : K ≤ 100000) (hcells : cells + (1 + N) ≤ R.cells) (hslots : slots + (N + N * K) ≤ R.slots)
    (kk : ∀ (H1 : Heap), zw_H D cl B (zw_u (zw_rows M (H.size + 1) N (.inl (cI, K, .inl (fun _ => nI 0)))) H.size (.inl (cA, N, .inr (.inr (.inr (.inr (fun i => some (H.size + 1 + i)))))))) H1 → H1.size = H.size + 1 + N → va_S (zw_A B) H0 H1 locs →
      W p l e R s m args below meth c H1 locs (cells + 1 + N) (slots + N + N * K) Q (F0 m (pc + 4) ls (.ref H.size :: rest))) : W p l e R s m args below meth c H locs cells slots Q (F0 m pc ls (.int (nI K) :: .int (nI N) :: rest)) := by
  have f0 : s.vm.findClass "[I" = some cI := (hK.2 t0 _ ht0).2
  have f1 : s.vm.findClass "[[I" = some cA := (hK.2 t1 _ ht1).2
  refine zg_multi hexec hb hown hclink hover harr hdg (N := N) (K := K) (nI_clamp (by omega)) (nI_clamp (by omega)) (nI_pos (by omega)) (nI_pos (by omega)) hb1 hb2 hcells hslots (fun H1 cA' cI' e1 e2 hz ho hk hr => ?_)
  cases e1.symm.trans f1
  cases e2.symm.trans f0
  refine kk H1 ?_ hz (zw_S.new hS (by omega) hk)
  intro q e3 h3
  by_cases hq : q = H.size
  · subst hq
    rw [zw_us] at h3
    cases h3
    refine ⟨hBs, ?_⟩
    show H1[H.size]? = some (vp_cell _ _)
    rw [ho, vp_cell_q]
    unfold zg_o
    exact congrArg some (zarrV_ext (fun j hj => if_pos hj))
  · rw [zw_un _ _ hq] at h3
    by_cases hr2 : H.size + 1 ≤ q ∧ q < H.size + 1 + N
    · rw [zw_rin _ _ hr2.1 hr2.2] at h3
      cases h3
      refine ⟨by omega, ?_⟩
      have := hr (q - (H.size + 1)) (by omega)
      rw [show H.size + 1 + (q - (H.size + 1)) = q by omega] at this
      show H1[q]? = some (vp_cell _ _)
      rw [this, vp_cell_i]
      rfl
    · rw [zw_rout _ _ hr2] at h3
      exact ⟨(hP q e3 h3).1, (hP q e3 h3).2.kept (hk q (hP.lt h3))⟩
end ZMU
/-- between two bounds -/
def zcl (lo hi : Nat) (a : Int32) : Nat := if a < nI lo then lo else if nI hi < a then hi else a.toNatClampNeg
theorem zcl_in {lo hi : Nat} (h : lo ≤ hi) (hh : hi < 2 ^ 31) (a : Int32) : lo ≤ zcl lo hi a ∧ zcl lo hi a ≤ hi ∧ (¬ a < nI lo → ¬ nI hi < a → nI (zcl lo hi a) = a) := by
  unfold zcl
  by_cases h1 : a < nI lo
  · rw [if_pos h1]; exact ⟨Nat.le_refl _, h, fun w => absurd h1 w⟩
  · rw [if_neg h1]
    by_cases h2 : nI hi < a
    · rw [if_pos h2]; exact ⟨h, Nat.le_refl _, fun _ w => absurd h2 w⟩
    · rw [if_neg h2]
      rw [Int32.lt_iff_toInt_lt, nI_toInt (by omega)] at h1
      rw [Int32.lt_iff_toInt_lt, nI_toInt hh] at h2
      have e : a.toNatClampNeg = a.toInt.toNat := rfl
      refine ⟨by omega, by omega, fun _ _ => ?_⟩
      have h3 : a.toNatClampNeg < 2 ^ 31 := by omega
      apply Int32.toInt_inj.mp
      rw [nI_toInt h3]
      omega
theorem zcl_max {lo hi : Nat} (h : lo ≤ hi) (hh : hi < 2 ^ 31) (a : Int32) : (if nI lo < (if a < nI hi then a else nI hi) then (if a < nI hi then a else nI hi) else nI lo) = nI (zcl lo hi a) := by
  have hl : lo < 2 ^ 31 := by omega
  obtain ⟨c1, c2, c3⟩ := zcl_in h hh a
  have el := nI_toInt hl
  have eh := nI_toInt hh
  by_cases h1 : a < nI lo
  · have e : zcl lo hi a = lo := if_pos h1
    rw [e]
    rw [Int32.lt_iff_toInt_lt] at h1
    by_cases h2 : a < nI hi
    · rw [if_pos h2, if_neg (by rw [Int32.lt_iff_toInt_lt]; omega)]
    · rw [if_neg h2]
      rw [Int32.lt_iff_toInt_lt] at h2
      omega
  · by_cases h2 : nI hi < a
    · have e : zcl lo hi a = hi := by unfold zcl; rw [if_neg h1, if_pos h2]
      rw [e]
      rw [Int32.lt_iff_toInt_lt] at h2
      have ev : (if a < nI hi then a else nI hi) = nI hi := if_neg (by rw [Int32.lt_iff_toInt_lt]; omega)
      rw [ev]
      by_cases h3 : nI lo < nI hi
      · rw [if_pos h3]
      · rw [if_neg h3]
        rw [Int32.lt_iff_toInt_lt] at h3
        congr 1; omega
    · rw [c3 h1 h2]
      have g1 := h1; have g2 := h2
      rw [Int32.lt_iff_toInt_lt] at g1 g2
      have ev : (if a < nI hi then a else nI hi) = a := by
        by_cases h3 : a < nI hi
        · rw [if_pos h3]
        · rw [if_neg h3]
          rw [Int32.lt_iff_toInt_lt] at h3
          apply Int32.toInt_inj.mp; omega
      rw [ev]
      by_cases h4 : nI lo < a
      · rw [if_pos h4]
      · rw [if_neg h4]
        rw [Int32.lt_iff_toInt_lt] at h4
        apply Int32.toInt_inj.mp; omega
end
section
/-! THE CLASS: what writes, with exact maps -/
set_option maxHeartbeats 4000000 in
set_option maxRecDepth 100000 in
theorem kC_count_yes (l : Launch) (G : zG) (B : Nat) (M : zw_M) (sz : Nat) (x n mb z nf se lo go pa : Nat) (hn : n ≤ 8) (hx0 : M x = some (.inr (1, zoC n mb z nf se lo go pa))) (hnf : nf < 120) : Met l yC_countAsSent (Cond.code yC_countAsSent bC_countAsSent 1 (some .boolean) :: zT) { frames := 0, cells := 0, slots := 0, locals := 0 } (zq G B M sz [.ref x]) (va_Qi (fun (r : Int32) (u : zw_M × Nat) => r = nI 1 ∧ u = (zw_u M x (.inr (1, zoC n mb z nf (se + 1) lo go pa)), sz)) (zr_o G.1 zCl B) (zw_A B)) (0) (0) (zw_A B) := by
  refine Met.ofW (cc := bC_countAsSent) (maxL := 1) (ret := (some .boolean)) (by decide) rfl ?_
  intro p e s m args below meth c s₁ B0 hml hv
  obtain ⟨rfl, hE, hH, hsz⟩ := hv
  have hx := B0.exec
  have hb := B0.bytes
  have hr := B0.returns
  have hlocks := B0.notSynchronized
  have hz : ∀ w ∈ zT, w.before _ s = true := fun w h => atoms_spec (ws := Cond.code yC_countAsSent bC_countAsSent 1 (some .boolean) :: zT) B0.pre w (List.mem_cons_of_mem _ h)
  have hown : s.vm.findClass RC = some m.cls := findClass_of_methodNamed B0.named
  have hK := hE.1
  have hl := lv_entry ([.ref x]) (n := 1) (Nat.le_of_ble_eq_true rfl)
  rw [lg_entry_eq]
  generalize (lg_sl ([.ref x]) ++ List.replicate (1 - (lg_sl ([.ref x])).length) Slot.unset).toArray = ls at hl ⊢
  have hl : lv_has ls 1 [(0, .ref x)] := hl
  have hS : va_S (zw_A B) s.heap s.heap [] := va_S.rf
  have hin : meth.name = "countAsSent" := (name_of_methodNamed B0.named B0.method).1
  refine lv_aload_n hx hb dC_countAsSent_0 rfl (lv_at hl 0 rfl) ?_
  refine lv_dup hx hb dC_countAsSent_1 rfl ?_
  refine va_get (D := G.1) (ci := 1) (v := .int (nI se)) (C := RC) (T := TC) (N := 14) hx hb hz iC hown hK (hH.one hx0) 0 rfl rfl 10 (by decide) (hz _ zm_41) (fun _ h9 => h9) rfl dC_countAsSent_2 ?_
  refine lv_iconst (v := nI 1) hx hb dC_countAsSent_5 (by decide) ?_
  refine lv_iadd hx hb dC_countAsSent_6 ?_
  refine zw_ti (nI_add _ _) ?_
  refine zw_put (D := G.1) (ci := 1) (v := .int (nI (se + 1))) (ty := .int) (C := RC) (T := TC) (N := 14) hx hb hz iC tC tC_ok nC hown hK hH hS hx0 rfl 10 (by decide) (hz _ zm_41) (fun _ h9 => h9) rfl (by decide +kernel) rfl rfl (Nat.le_of_ble_eq_true rfl) dC_countAsSent_7 (fun H1 L1 hH hz1 hS => ?_)
  have hsz : H1.size = sz := hz1.trans hsz
  obtain ⟨M1, hM1⟩ : ∃ Mq, Mq = zw_u M x (.inr (1, zoC n mb z nf (se + 1) lo go pa)) := ⟨_, rfl⟩
  have hH : zw_H G.1 zCl B M1 H1 := by rw [hM1]; exact hH
  have hx0 : M1 x = some (.inr (1, zoC n mb z nf (se + 1) lo go pa)) := by rw [hM1]; exact zw_us _ _ _
  refine lv_aload_n hx hb dC_countAsSent_10 rfl (lv_at hl 0 rfl) ?_
  refine va_get (D := G.1) (ci := 1) (v := .int (nI nf)) (C := RC) (T := TC) (N := 14) hx hb hz iC hown hK (hH.one hx0) 0 rfl rfl 8 (by decide) (hz _ zm_39) (fun _ h9 => h9) rfl dC_countAsSent_11 ?_
  refine lv_bipush (v := nI 120) hx hb dC_countAsSent_14 (by decide) ?_
  refine zc_ge (tgt := 21) hx hb dC_countAsSent_16 (by decide) (by omega) (by decide) (fun c => ?_) (fun c => ?_)
  · exact absurd c (by omega)
  · refine lv_iconst (v := nI 1) hx hb dC_countAsSent_19 (by decide) ?_
    exact W.zret (v := (nI 1)) (ty := .boolean) hx hb hr rfl (fun t ht hW => ⟨⟨(nI 1), (M1, sz), rfl, ⟨rfl, by rw [hM1]⟩, by rw [ht]; exact hH, by rw [ht]; exact hsz⟩, hS.F ht⟩) hS.2.2 dC_countAsSent_20

set_option maxHeartbeats 4000000 in
set_option maxRecDepth 100000 in
theorem kC_count_no (l : Launch) (G : zG) (B : Nat) (M : zw_M) (sz : Nat) (x n mb z nf se lo go pa : Nat) (hn : n ≤ 8) (hx0 : M x = some (.inr (1, zoC n mb z nf se lo go pa))) (hnf : nf = 120) : Met l yC_countAsSent (Cond.code yC_countAsSent bC_countAsSent 1 (some .boolean) :: zT) { frames := 0, cells := 0, slots := 0, locals := 0 } (zq G B M sz [.ref x]) (va_Qi (fun (r : Int32) (u : zw_M × Nat) => r = nI 0 ∧ u = (zw_u M x (.inr (1, zoC n mb z nf (se + 1) (lo + 1) go pa)), sz)) (zr_o G.1 zCl B) (zw_A B)) (0) (0) (zw_A B) := by
  refine Met.ofW (cc := bC_countAsSent) (maxL := 1) (ret := (some .boolean)) (by decide) rfl ?_
  intro p e s m args below meth c s₁ B0 hml hv
  obtain ⟨rfl, hE, hH, hsz⟩ := hv
  have hx := B0.exec
  have hb := B0.bytes
  have hr := B0.returns
  have hlocks := B0.notSynchronized
  have hz : ∀ w ∈ zT, w.before _ s = true := fun w h => atoms_spec (ws := Cond.code yC_countAsSent bC_countAsSent 1 (some .boolean) :: zT) B0.pre w (List.mem_cons_of_mem _ h)
  have hown : s.vm.findClass RC = some m.cls := findClass_of_methodNamed B0.named
  have hK := hE.1
  have hl := lv_entry ([.ref x]) (n := 1) (Nat.le_of_ble_eq_true rfl)
  rw [lg_entry_eq]
  generalize (lg_sl ([.ref x]) ++ List.replicate (1 - (lg_sl ([.ref x])).length) Slot.unset).toArray = ls at hl ⊢
  have hl : lv_has ls 1 [(0, .ref x)] := hl
  have hS : va_S (zw_A B) s.heap s.heap [] := va_S.rf
  have hin : meth.name = "countAsSent" := (name_of_methodNamed B0.named B0.method).1
  refine lv_aload_n hx hb dC_countAsSent_0 rfl (lv_at hl 0 rfl) ?_
  refine lv_dup hx hb dC_countAsSent_1 rfl ?_
  refine va_get (D := G.1) (ci := 1) (v := .int (nI se)) (C := RC) (T := TC) (N := 14) hx hb hz iC hown hK (hH.one hx0) 0 rfl rfl 10 (by decide) (hz _ zm_41) (fun _ h9 => h9) rfl dC_countAsSent_2 ?_
  refine lv_iconst (v := nI 1) hx hb dC_countAsSent_5 (by decide) ?_
  refine lv_iadd hx hb dC_countAsSent_6 ?_
  refine zw_ti (nI_add _ _) ?_
  refine zw_put (D := G.1) (ci := 1) (v := .int (nI (se + 1))) (ty := .int) (C := RC) (T := TC) (N := 14) hx hb hz iC tC tC_ok nC hown hK hH hS hx0 rfl 10 (by decide) (hz _ zm_41) (fun _ h9 => h9) rfl (by decide +kernel) rfl rfl (Nat.le_of_ble_eq_true rfl) dC_countAsSent_7 (fun H1 L1 hH hz1 hS => ?_)
  have hsz : H1.size = sz := hz1.trans hsz
  obtain ⟨M1, hM1⟩ : ∃ Mq, Mq = zw_u M x (.inr (1, zoC n mb z nf (se + 1) lo go pa)) := ⟨_, rfl⟩
  have hH : zw_H G.1 zCl B M1 H1 := by rw [hM1]; exact hH
  have hx0 : M1 x = some (.inr (1, zoC n mb z nf (se + 1) lo go pa)) := by rw [hM1]; exact zw_us _ _ _
  refine lv_aload_n hx hb dC_countAsSent_10 rfl (lv_at hl 0 rfl) ?_
  refine va_get (D := G.1) (ci := 1) (v := .int (nI nf)) (C := RC) (T := TC) (N := 14) hx hb hz iC hown hK (hH.one hx0) 0 rfl rfl 8 (by decide) (hz _ zm_39) (fun _ h9 => h9) rfl dC_countAsSent_11 ?_
  refine lv_bipush (v := nI 120) hx hb dC_countAsSent_14 (by decide) ?_
  refine zc_ge (tgt := 21) hx hb dC_countAsSent_16 (by decide) (by omega) (by decide) (fun c => ?_) (fun c => ?_)
  · refine lv_aload_n hx hb dC_countAsSent_21 rfl (lv_at hl 0 rfl) ?_
    refine lv_dup hx hb dC_countAsSent_22 rfl ?_
    refine va_get (D := G.1) (ci := 1) (v := .int (nI lo)) (C := RC) (T := TC) (N := 14) hx hb hz iC hown hK (hH.one hx0) 0 rfl rfl 11 (by decide) (hz _ zm_42) (fun _ h9 => h9) rfl dC_countAsSent_23 ?_
    refine lv_iconst (v := nI 1) hx hb dC_countAsSent_26 (by decide) ?_
    refine lv_iadd hx hb dC_countAsSent_27 ?_
    refine zw_ti (nI_add _ _) ?_
    refine zw_put (D := G.1) (ci := 1) (v := .int (nI (lo + 1))) (ty := .int) (C := RC) (T := TC) (N := 14) hx hb hz iC tC tC_ok nC hown hK hH hS hx0 rfl 11 (by decide) (hz _ zm_42) (fun _ h9 => h9) rfl (by decide +kernel) rfl rfl (Nat.le_of_ble_eq_true rfl) dC_countAsSent_28 (fun H2 L2 hH hz1 hS => ?_)
    have hsz : H2.size = sz := hz1.trans hsz
    obtain ⟨M2, hM2⟩ : ∃ Mq, Mq = zw_u M1 x (.inr (1, zoC n mb z nf (se + 1) (lo + 1) go pa)) := ⟨_, rfl⟩
    have hH : zw_H G.1 zCl B M2 H2 := by rw [hM2]; exact hH
    have hx0 : M2 x = some (.inr (1, zoC n mb z nf (se + 1) (lo + 1) go pa)) := by rw [hM2]; exact zw_us _ _ _
    refine lv_iconst (v := nI 0) hx hb dC_countAsSent_31 (by decide) ?_
    exact W.zret (v := (nI 0)) (ty := .boolean) hx hb hr rfl (fun t ht hW => ⟨⟨(nI 0), (M2, sz), rfl, ⟨rfl, by rw [hM2, hM1, zw_uu]⟩, by rw [ht]; exact hH, by rw [ht]; exact hsz⟩, hS.F ht⟩) hS.2.2 dC_countAsSent_32
  · exact absurd c (by omega)

set_option maxHeartbeats 4000000 in
set_option maxRecDepth 100000 in
theorem kC_put (l : Launch) (G : zG) (B : Nat) (M : zw_M) (sz : Nat) (x n mb z nf se lo go pa : Nat) (hn : n ≤ 8) (hx0 : M x = some (.inr (1, zoC n mb z nf se lo go pa))) (ff : Nat → Option Nat) (hfl : M (z + 5 + 2 * n) = some (.inl (G.2.1 3, 120, .inr (.inr (.inr (.inr ff)))))) (hxz : x < z) (hnf : nf < 120) (q : Nat) (qs : List Value) (hq0 : M q = some (.inr (0, qs))) : Met l yC_putInFlight (Cond.code yC_putInFlight bC_putInFlight 2 none :: zT) { frames := 0, cells := 0, slots := 0, locals := 0 } (zq G B M sz [.ref x, .ref q]) (va_Qv (fun (u : zw_M × Nat) => u = (zw_u (zw_u M (z + 5 + 2 * n) (.inl (G.2.1 3, 120, .inr (.inr (.inr (.inr (va_up ff nf (some q)))))))) x (.inr (1, zoC n mb z (nf + 1) se lo go pa)), sz)) (zr_o G.1 zCl B) (zw_A B)) (0) (0) (zw_A B) := by
  refine Met.ofW (cc := bC_putInFlight) (maxL := 2) (ret := none) (by decide) rfl ?_
  intro p e s m args below meth c s₁ B0 hml hv
  obtain ⟨rfl, hE, hH, hsz⟩ := hv
  have hx := B0.exec
  have hb := B0.bytes
  have hr := B0.returns
  have hlocks := B0.notSynchronized
  have hz : ∀ w ∈ zT, w.before _ s = true := fun w h => atoms_spec (ws := Cond.code yC_putInFlight bC_putInFlight 2 none :: zT) B0.pre w (List.mem_cons_of_mem _ h)
  have hown : s.vm.findClass RC = some m.cls := findClass_of_methodNamed B0.named
  have hK := hE.1
  have hl := lv_entry ([.ref x, .ref q]) (n := 2) (Nat.le_of_ble_eq_true rfl)
  rw [lg_entry_eq]
  generalize (lg_sl ([.ref x, .ref q]) ++ List.replicate (2 - (lg_sl ([.ref x, .ref q])).length) Slot.unset).toArray = ls at hl ⊢
  have hl : lv_has ls 2 [(0, .ref x), (1, .ref q)] := hl
  have hS : va_S (zw_A B) s.heap s.heap [] := va_S.rf
  have hin : meth.name = "putInFlight" := (name_of_methodNamed B0.named B0.method).1
  refine lv_aload_n hx hb dC_putInFlight_0 rfl (lv_at hl 0 rfl) ?_
  refine va_get (D := G.1) (ci := 1) (v := .int (nI nf)) (C := RC) (T := TC) (N := 14) hx hb hz iC hown hK (hH.one hx0) 0 rfl rfl 8 (by decide) (hz _ zm_39) (fun _ h9 => h9) rfl dC_putInFlight_1 ?_
  refine lv_aload_n hx hb dC_putInFlight_4 rfl (lv_at hl 0 rfl) ?_
  refine va_get (D := G.1) (ci := 1) (v := .ref (z + 5 + 2 * n)) (C := RC) (T := TC) (N := 14) hx hb hz iC hown hK (hH.one hx0) 0 rfl rfl 7 (by decide) (hz _ zm_38) (fun _ h9 => h9) rfl dC_putInFlight_5 ?_
  refine zw_alen hx hb hK hH 3 hfl rfl dC_putInFlight_8 ?_
  refine zw_ti (v' := nI 120) rfl ?_
  refine zc_ge (tgt := 32) hx hb dC_putInFlight_9 (by decide) (by omega) (by decide) (fun c => ?_) (fun c => ?_)
  · exact absurd c (by omega)
  · refine lv_aload_n hx hb dC_putInFlight_12 rfl (lv_at hl 0 rfl) ?_
    refine va_get (D := G.1) (ci := 1) (v := .ref (z + 5 + 2 * n)) (C := RC) (T := TC) (N := 14) hx hb hz iC hown hK (hH.one hx0) 0 rfl rfl 7 (by decide) (hz _ zm_38) (fun _ h9 => h9) rfl dC_putInFlight_13 ?_
    refine lv_aload_n hx hb dC_putInFlight_16 rfl (lv_at hl 0 rfl) ?_
    refine va_get (D := G.1) (ci := 1) (v := .int (nI nf)) (C := RC) (T := TC) (N := 14) hx hb hz iC hown hK (hH.one hx0) 0 rfl rfl 8 (by decide) (hz _ zm_39) (fun _ h9 => h9) rfl dC_putInFlight_17 ?_
    refine lv_aload_n hx hb dC_putInFlight_20 rfl (lv_at hl 1 rfl) ?_
    refine zw_aast hx hb hK hH hS 3 0 hfl (r := (RM, TM, 6)) rfl hq0 rfl (nf) rfl (hnf) (by decide) dC_putInFlight_21 (fun H1 L1 hH hz1 hS => ?_)
    have hsz : H1.size = sz := hz1.trans hsz
    obtain ⟨M1, hM1⟩ : ∃ Mq, Mq = zw_u M (z + 5 + 2 * n) (.inl (G.2.1 3, 120, .inr (.inr (.inr (.inr (va_up ff nf (some q))))))) := ⟨_, rfl⟩
    have hH : zw_H G.1 zCl B M1 H1 := by rw [hM1]; exact hH
    have hx0 : M1 x = some (.inr (1, zoC n mb z nf se lo go pa)) := by rw [hM1, zw_un _ _ (by omega)]; exact hx0
    have hfl : M1 (z + 5 + 2 * n) = some (.inl (G.2.1 3, 120, .inr (.inr (.inr (.inr (va_up ff nf (some q))))))) := by rw [hM1]; exact zw_us _ _ _
    refine lv_aload_n hx hb dC_putInFlight_22 rfl (lv_at hl 0 rfl) ?_
    refine lv_dup hx hb dC_putInFlight_23 rfl ?_
    refine va_get (D := G.1) (ci := 1) (v := .int (nI nf)) (C := RC) (T := TC) (N := 14) hx hb hz iC hown hK (hH.one hx0) 0 rfl rfl 8 (by decide) (hz _ zm_39) (fun _ h9 => h9) rfl dC_putInFlight_24 ?_
    refine lv_iconst (v := nI 1) hx hb dC_putInFlight_27 (by decide) ?_
    refine lv_iadd hx hb dC_putInFlight_28 ?_
    refine zw_ti (nI_add _ _) ?_
    refine zw_put (D := G.1) (ci := 1) (v := .int (nI (nf + 1))) (ty := .int) (C := RC) (T := TC) (N := 14) hx hb hz iC tC tC_ok nC hown hK hH hS hx0 rfl 8 (by decide) (hz _ zm_39) (fun _ h9 => h9) rfl (by decide +kernel) rfl rfl (Nat.le_of_ble_eq_true rfl) dC_putInFlight_29 (fun H2 L2 hH hz1 hS => ?_)
    have hsz : H2.size = sz := hz1.trans hsz
    obtain ⟨M2, hM2⟩ : ∃ Mq, Mq = zw_u M1 x (.inr (1, zoC n mb z (nf + 1) se lo go pa)) := ⟨_, rfl⟩
    have hH : zw_H G.1 zCl B M2 H2 := by rw [hM2]; exact hH
    have hfl : M2 (z + 5 + 2 * n) = some (.inl (G.2.1 3, 120, .inr (.inr (.inr (.inr (va_up ff nf (some q))))))) := by rw [hM2, zw_un _ _ (by omega)]; exact hfl
    have hx0 : M2 x = some (.inr (1, zoC n mb z (nf + 1) se lo go pa)) := by rw [hM2]; exact zw_us _ _ _
    exact W.vret hx hb hr (fun t ht hW => ⟨⟨(M2, sz), rfl, by rw [hM2, hM1], by rw [ht]; exact hH, by rw [ht]; exact hsz⟩, hS.F ht⟩) hS.2.2 dC_putInFlight_32
end
section
/-! THE CLASS: what writes, over the state -/
set_option maxHeartbeats 4000000 in
set_option maxRecDepth 100000 in
theorem kC_takeOut (l : Launch) (G : zG) (B : Nat) (M : zw_M) (sz : Nat) (x z L n mb : Nat) (st : zSt) (qs : List Nat) (g : Nat → Int32) (hn : n ≤ 8) (hR : zCR G M x z L n mb st qs g) (hfl0 : st.fl.length ≤ 120) (j : Nat) (hj : j < st.fl.length) : Met l yC_takeOutOfFlight (Cond.code yC_takeOutOfFlight bC_takeOutOfFlight 3 none :: zT) { frames := 0, cells := 0, slots := 0, locals := 0 } (zq G B M sz [.ref x, .int (nI j)]) (va_Qv (fun (u : zw_M × Nat) => zCR G u.1 x z L n mb (zdrop st j) (qs.eraseIdx j) g ∧ (∀ a : Nat, a ≠ x → a ≠ z + 5 + 2 * n → u.1 a = M a) ∧ u.2 = sz) (zr_o G.1 zCl B) (zw_A B)) (0) (0) (zw_A B) := by
  refine Met.ofW (cc := bC_takeOutOfFlight) (maxL := 3) (ret := none) (by decide) rfl ?_
  intro p e s m args below meth c s₁ B0 hml hv
  obtain ⟨rfl, hE, hH, hsz⟩ := hv
  have hx := B0.exec
  have hb := B0.bytes
  have hr := B0.returns
  have hlocks := B0.notSynchronized
  have hz : ∀ w ∈ zT, w.before _ s = true := fun w h => atoms_spec (ws := Cond.code yC_takeOutOfFlight bC_takeOutOfFlight 3 none :: zT) B0.pre w (List.mem_cons_of_mem _ h)
  have hown : s.vm.findClass RC = some m.cls := findClass_of_methodNamed B0.named
  have hK := hE.1
  have hl := lv_entry ([.ref x, .int (nI j)]) (n := 3) (Nat.le_of_ble_eq_true rfl)
  rw [lg_entry_eq]
  generalize (lg_sl ([.ref x, .int (nI j)]) ++ List.replicate (3 - (lg_sl ([.ref x, .int (nI j)])).length) Slot.unset).toArray = ls at hl ⊢
  have hl : lv_has ls 3 [(0, .ref x), (1, .int (nI j))] := hl
  have hS : va_S (zw_A B) s.heap s.heap [] := va_S.rf
  have hin : meth.name = "takeOutOfFlight" := (name_of_methodNamed B0.named B0.method).1
  have hnl : qs.length = st.fl.length := hR.len
  have hx0 := hR.obj
  have hfl := hR.fl
  have hxz := hR.xz
  have hzL := hR.zL
  refine lv_iload_n hx hb dC_takeOutOfFlight_0 rfl (lv_at hl 1 rfl) ?_
  refine lv_iconst (v := nI 1) hx hb dC_takeOutOfFlight_1 (by decide) ?_
  refine lv_iadd hx hb dC_takeOutOfFlight_2 ?_
  refine zw_ti (nI_add _ _) ?_
  refine lv_istore_n (lv' := [(2, .int (nI (j + 1))), (0, .ref x), (1, .int (nI j))]) hx hb dC_takeOutOfFlight_3 rfl hl (by decide) rfl (fun ls hl => ?_)
  refine zl_upH (Wg := fun ls H locs => W p l e _ s m _ below meth c H locs 0 0 _ (F0 m 4 ls [])) (fun i ls H locs => lv_has ls 3 [(0, .ref x), (1, .int (nI j)), (2, .int (nI i))] ∧ ∃ Mq : zw_M, zw_H G.1 zCl B Mq H ∧ va_S (zw_A B) s.heap H locs ∧ j + 1 ≤ i ∧ Mq = zw_u M (z + 5 + 2 * n) (.inl (G.2.1 3, 120, .inr (.inr (.inr (.inr (zfk qs j i)))))) ∧ H.size = sz) st.fl.length ?_ (i := (j + 1)) (by omega) ⟨lv_sub hl [1, 2, 0] rfl, M, hH, hS, ⟨Nat.le_refl _, by rw [zfk_0, zw_ui hfl], hsz⟩⟩
  intro i hi ls Hi Li ⟨hl, Mi, hH, hS, hI⟩ ih
  have hl : lv_has ls 3 [(0, .ref x), (1, .int (nI j)), (2, .int (nI i))] := hl
  obtain ⟨hji, hMi, hsz⟩ := hI
  have hx0 : Mi x = some (.inr (1, zoC n mb z st.fl.length st.se st.lo st.go st.pa)) := by rw [hMi, zw_un _ _ (by omega)]; exact hR.obj
  have hfl : Mi (z + 5 + 2 * n) = some (.inl (G.2.1 3, 120, .inr (.inr (.inr (.inr (zfk qs j i)))))) := by rw [hMi]; exact zw_us _ _ _
  refine lv_iload_n hx hb dC_takeOutOfFlight_4 rfl (lv_at hl 2 rfl) ?_
  refine lv_aload_n hx hb dC_takeOutOfFlight_5 rfl (lv_at hl 0 rfl) ?_
  refine va_get (D := G.1) (ci := 1) (v := .int (nI st.fl.length)) (C := RC) (T := TC) (N := 14) hx hb hz iC hown hK (hH.one hx0) 0 rfl rfl 8 (by decide) (hz _ zm_39) (fun _ h9 => h9) rfl dC_takeOutOfFlight_6 ?_
  refine zc_ge (tgt := 32) hx hb dC_takeOutOfFlight_9 (by decide) (by omega) (by omega) (fun c => ?_) (fun c => ?_)
  · have e1 : i = qs.length := by omega
    refine lv_aload_n hx hb dC_takeOutOfFlight_32 rfl (lv_at hl 0 rfl) ?_
    refine va_get (D := G.1) (ci := 1) (v := .int (nI st.fl.length)) (C := RC) (T := TC) (N := 14) hx hb hz iC hown hK (hH.one hx0) 0 rfl rfl 8 (by decide) (hz _ zm_39) (fun _ h9 => h9) rfl dC_takeOutOfFlight_33 ?_
    refine zc_le0 (tgt := 59) hx hb dC_takeOutOfFlight_36 (by decide) (by omega) (fun c2 => ?_) (fun c2 => ?_)
    · exact absurd c2 (by omega)
    · refine lv_aload_n hx hb dC_takeOutOfFlight_39 rfl (lv_at hl 0 rfl) ?_
      refine lv_dup hx hb dC_takeOutOfFlight_40 rfl ?_
      refine va_get (D := G.1) (ci := 1) (v := .int (nI st.fl.length)) (C := RC) (T := TC) (N := 14) hx hb hz iC hown hK (hH.one hx0) 0 rfl rfl 8 (by decide) (hz _ zm_39) (fun _ h9 => h9) rfl dC_takeOutOfFlight_41 ?_
      refine lv_iconst (v := nI 1) hx hb dC_takeOutOfFlight_44 (by decide) ?_
      refine lv_isub hx hb dC_takeOutOfFlight_45 ?_
      refine zw_ti (pk_sub (by omega)) ?_
      refine zw_put (D := G.1) (ci := 1) (v := .int (nI (st.fl.length - 1))) (ty := .int) (C := RC) (T := TC) (N := 14) hx hb hz iC tC tC_ok nC hown hK hH hS hx0 rfl 8 (by decide) (hz _ zm_39) (fun _ h9 => h9) rfl (by decide +kernel) rfl rfl (Nat.le_of_ble_eq_true rfl) dC_takeOutOfFlight_46 (fun H1 L1 hH hz1 hS => ?_)
      have hsz : H1.size = sz := hz1.trans hsz
      obtain ⟨M1, hM1⟩ : ∃ Mq, Mq = zw_u Mi x (.inr (1, zoC n mb z (st.fl.length - 1) st.se st.lo st.go st.pa)) := ⟨_, rfl⟩
      have hH : zw_H G.1 zCl B M1 H1 := by rw [hM1]; exact hH
      have hfl : M1 (z + 5 + 2 * n) = some (.inl (G.2.1 3, 120, .inr (.inr (.inr (.inr (zfk qs j i)))))) := by rw [hM1, zw_un _ _ (by omega)]; exact hfl
      have hx0 : M1 x = some (.inr (1, zoC n mb z (st.fl.length - 1) st.se st.lo st.go st.pa)) := by rw [hM1]; exact zw_us _ _ _
      refine lv_aload_n hx hb dC_takeOutOfFlight_49 rfl (lv_at hl 0 rfl) ?_
      refine va_get (D := G.1) (ci := 1) (v := .ref (z + 5 + 2 * n)) (C := RC) (T := TC) (N := 14) hx hb hz iC hown hK (hH.one hx0) 0 rfl rfl 7 (by decide) (hz _ zm_38) (fun _ h9 => h9) rfl dC_takeOutOfFlight_50 ?_
      refine lv_aload_n hx hb dC_takeOutOfFlight_53 rfl (lv_at hl 0 rfl) ?_
      refine va_get (D := G.1) (ci := 1) (v := .int (nI (st.fl.length - 1))) (C := RC) (T := TC) (N := 14) hx hb hz iC hown hK (hH.one hx0) 0 rfl rfl 8 (by decide) (hz _ zm_39) (fun _ h9 => h9) rfl dC_takeOutOfFlight_54 ?_
      refine lv_null hx hb dC_takeOutOfFlight_57 ?_
      refine zw_aastN hx hb hK hH hS 3 hfl rfl (st.fl.length - 1) rfl (by omega) (by decide) dC_takeOutOfFlight_58 (fun H2 L2 hH hz1 hS => ?_)
      have hsz : H2.size = sz := hz1.trans hsz
      obtain ⟨M2, hM2⟩ : ∃ Mq, Mq = zw_u M1 (z + 5 + 2 * n) (.inl (G.2.1 3, 120, .inr (.inr (.inr (.inr (va_up (zfk qs j i) (st.fl.length - 1) none)))))) := ⟨_, rfl⟩
      have hH : zw_H G.1 zCl B M2 H2 := by rw [hM2]; exact hH
      have hx0 : M2 x = some (.inr (1, zoC n mb z (st.fl.length - 1) st.se st.lo st.go st.pa)) := by rw [hM2, zw_un _ _ (by omega)]; exact hx0
      have hfl : M2 (z + 5 + 2 * n) = some (.inl (G.2.1 3, 120, .inr (.inr (.inr (.inr (va_up (zfk qs j i) (st.fl.length - 1) none)))))) := by rw [hM2]; exact zw_us _ _ _
      have hf2 : M2 (z + 5 + 2 * n) = some (.inl (G.2.1 3, 120, .inr (.inr (.inr (.inr (fun i => (qs.eraseIdx j)[i]?)))))) := by rw [e1, hnl] at hfl; rw [← zfk_e qs (by omega), hnl]; exact hfl
      have hk : ∀ a : Nat, a ≠ x → a ≠ z + 5 + 2 * n → M2 a = M a := fun a h1 h2 => by rw [hM2, zw_un _ _ h2, hM1, zw_un _ _ h1, hMi, zw_un _ _ h2]
      have hl2 : (zdrop st j).fl.length = st.fl.length - 1 := by show (st.fl.eraseIdx j).length = _; rw [List.length_eraseIdx, if_pos hj]
      exact W.vret hx hb hr (fun t ht hW => ⟨⟨(M2, sz), rfl, ⟨hR.rem rfl rfl rfl rfl (by rw [hl2]; exact hx0) hf2 (fun a e h1 h2 h3 => (hk a h1 h2).trans h3), hk, rfl⟩, by rw [ht]; exact hH, by rw [ht]; exact hsz⟩, hS.F ht⟩) hS.2.2 dC_takeOutOfFlight_59
  · obtain ⟨q, mg, hq, -, hmg⟩ := hR.at c
    obtain ⟨hqL, fs, hq0⟩ := hmg.ex
    have hq0 : Mi q = some (.inr (0, fs)) := by rw [hMi, zw_un _ _ (by omega)]; exact hq0
    refine lv_aload_n hx hb dC_takeOutOfFlight_12 rfl (lv_at hl 0 rfl) ?_
    refine va_get (D := G.1) (ci := 1) (v := .ref (z + 5 + 2 * n)) (C := RC) (T := TC) (N := 14) hx hb hz iC hown hK (hH.one hx0) 0 rfl rfl 7 (by decide) (hz _ zm_38) (fun _ h9 => h9) rfl dC_takeOutOfFlight_13 ?_
    refine lv_iload_n hx hb dC_takeOutOfFlight_16 rfl (lv_at hl 2 rfl) ?_
    refine lv_iconst (v := nI 1) hx hb dC_takeOutOfFlight_17 (by decide) ?_
    refine lv_isub hx hb dC_takeOutOfFlight_18 ?_
    refine zw_ti (pk_sub (by omega)) ?_
    refine lv_aload_n hx hb dC_takeOutOfFlight_19 rfl (lv_at hl 0 rfl) ?_
    refine va_get (D := G.1) (ci := 1) (v := .ref (z + 5 + 2 * n)) (C := RC) (T := TC) (N := 14) hx hb hz iC hown hK (hH.one hx0) 0 rfl rfl 7 (by decide) (hz _ zm_38) (fun _ h9 => h9) rfl dC_takeOutOfFlight_20 ?_
    refine lv_iload_n hx hb dC_takeOutOfFlight_23 rfl (lv_at hl 2 rfl) ?_
    refine zw_aald hx hb hK hH 3 hfl rfl rfl (i) rfl (by omega) (by decide) (v := .ref q) (by show va_rf (if i < j then _ else if i + 1 < i then _ else _) = _; rw [if_neg (by omega), if_neg (by omega), hq]; rfl) dC_takeOutOfFlight_24 ?_
    refine zw_aast hx hb hK hH hS 3 0 hfl (r := (RM, TM, 6)) rfl hq0 rfl (i - 1) rfl (by omega) (by decide) dC_takeOutOfFlight_25 (fun H1 L1 hH hz1 hS => ?_)
    have hsz : H1.size = sz := hz1.trans hsz
    obtain ⟨M1, hM1⟩ : ∃ Mq, Mq = zw_u Mi (z + 5 + 2 * n) (.inl (G.2.1 3, 120, .inr (.inr (.inr (.inr (va_up (zfk qs j i) (i - 1) (some q))))))) := ⟨_, rfl⟩
    have hH : zw_H G.1 zCl B M1 H1 := by rw [hM1]; exact hH
    have hx0 : M1 x = some (.inr (1, zoC n mb z st.fl.length st.se st.lo st.go st.pa)) := by rw [hM1, zw_un _ _ (by omega)]; exact hx0
    have hfl : M1 (z + 5 + 2 * n) = some (.inl (G.2.1 3, 120, .inr (.inr (.inr (.inr (va_up (zfk qs j i) (i - 1) (some q))))))) := by rw [hM1]; exact zw_us _ _ _
    refine lv_iinc (v := (nI (i + 1))) (lv' := [(2, .int (nI (i + 1))), (0, .ref x), (1, .int (nI j))]) hx hb dC_takeOutOfFlight_26 hl (k := 2) rfl (nI_add _ _) (by decide) rfl (fun ls hl => ?_)
    refine lv_goto (tgt := 4) hx hb dC_takeOutOfFlight_29 (by decide) ?_
    exact ih c ls H1 _ ⟨lv_sub hl [1, 2, 0] rfl, M1, hH, hS, ⟨by omega, by rw [hM1, hMi, zw_uu, zfk_s qs (by omega) hq], hsz⟩⟩

set_option maxHeartbeats 4000000 in
set_option maxRecDepth 100000 in
theorem kC_comes_yes (l : Launch) (G : zG) (B : Nat) (M : zw_M) (sz : Nat) (x z L n mb : Nat) (st : zSt) (qs : List Nat) (g : Nat → Int32) (hn : n ≤ 8) (hR : zCR G M x z L n mb st qs g) (j k0 : Nat) (hj : j < n) (hcc : k0 < 2 ^ 31) (hb8 : ∀ b, b < 8 → zcnt b (st.lg j) < 256) (hfit : zfits st j k0) (hlen : (st.lg j).length < n * 60) : Met l yC_comesToLog (Cond.code yC_comesToLog bC_comesToLog 5 (some .boolean) :: zT) { frames := 1, cells := 0, slots := 0, locals := 22 } (zq G B M sz [.ref x, .int (nI j), .int (nI k0)]) (va_Qi (fun (r : Int32) (u : zw_M × Nat) => r = nI 1 ∧ zCR G u.1 x z L n mb (zlog st j k0) qs g ∧ (∀ a : Nat, a ≠ z + 3 + j → a ≠ z + 3 + n → a ≠ z + 1 → u.1 a = M a) ∧ u.2 = sz) (zr_o G.1 zCl B) (zw_A B)) (0) (0) (zw_A B) := by
  refine Met.ofW (cc := bC_comesToLog) (maxL := 5) (ret := (some .boolean)) (by decide) rfl ?_
  intro p e s m args below meth c s₁ B0 hml hv
  obtain ⟨rfl, hE, hH, hsz⟩ := hv
  have hx := B0.exec
  have hb := B0.bytes
  have hr := B0.returns
  have hlocks := B0.notSynchronized
  have hz : ∀ w ∈ zT, w.before _ s = true := fun w h => atoms_spec (ws := Cond.code yC_comesToLog bC_comesToLog 5 (some .boolean) :: zT) B0.pre w (List.mem_cons_of_mem _ h)
  have hown : s.vm.findClass RC = some m.cls := findClass_of_methodNamed B0.named
  have hK := hE.1
  have hl := lv_entry ([.ref x, .int (nI j), .int (nI k0)]) (n := 5) (Nat.le_of_ble_eq_true rfl)
  rw [lg_entry_eq]
  generalize (lg_sl ([.ref x, .int (nI j), .int (nI k0)]) ++ List.replicate (5 - (lg_sl ([.ref x, .int (nI j), .int (nI k0)])).length) Slot.unset).toArray = ls at hl ⊢
  have hl : lv_has ls 5 [(0, .ref x), (1, .int (nI j)), (2, .int (nI k0))] := hl
  have hS : va_S (zw_A B) s.heap s.heap [] := va_S.rf
  have hin : meth.name = "comesToLog" := (name_of_methodNamed B0.named B0.method).1
  have hc8 : k0 % 8 < 8 := Nat.mod_lt _ (by decide)
  have hzb := zck_at hb8 hc8
  have hzl := hb8 _ hc8
  have hlgr := hR.lg j hj
  have hx0 := hR.obj
  have hck := hR.ck
  have hlgs := hR.lgs
  have hlz := hR.lz
  have hxz := hR.xz
  have hzL := hR.zL
  refine lv_iload_n hx hb dC_comesToLog_0 rfl (lv_at hl 2 rfl) ?_
  refine zr_S (As := [.int (nI k0)]) (rest := []) ⟨hx, hb, hml, hown, hz⟩ (kC_actorOf l G B M k0 hcc) (zt_S zm_254 zm_255 zm_1 zm_256) rfl rfl rfl (show _ ∧ _ ∧ _ ∧ _ = some 1 from by decide +kernel) ⟨Nat.le_of_ble_eq_true rfl, Nat.le_of_ble_eq_true rfl⟩ zE_blind (zE_at hE hS) hH hl.1 rfl (Nat.le_of_ble_eq_true rfl) dC_comesToLog_1 ⟨Nat.le_of_ble_eq_true rfl, Nat.le_of_ble_eq_true rfl⟩ ?_
  refine lv_istore_n (lv' := [(3, .int (nI (k0 % 8))), (0, .ref x), (1, .int (nI j)), (2, .int (nI k0))]) hx hb dC_comesToLog_4 rfl hl (by decide) rfl (fun ls hl => ?_)
  refine lv_aload_n hx hb dC_comesToLog_5 rfl (lv_at hl 1 rfl) ?_
  refine va_get (D := G.1) (ci := 1) (v := .ref (z + 3 + n)) (C := RC) (T := TC) (N := 14) hx hb hz iC hown hK (hH.one hx0) 0 rfl rfl 5 (by decide) (hz _ zm_36) (fun _ h9 => h9) rfl dC_comesToLog_6 ?_
  refine lv_iload_n hx hb dC_comesToLog_9 rfl (lv_at hl 2 rfl) ?_
  refine zw_iald hx hb hK hH 0 hlz rfl (j) rfl (hj) (by omega) dC_comesToLog_10 ?_
  refine lv_istore (lv' := [(4, .int (nI ((st.lg j).length))), (3, .int (nI (k0 % 8))), (0, .ref x), (1, .int (nI j)), (2, .int (nI k0))]) hx hb dC_comesToLog_11 hl (by decide) rfl (fun ls hl => ?_)
  refine lv_iload_n hx hb dC_comesToLog_13 rfl (lv_at hl 4 rfl) ?_
  refine zr_S (As := [.int (nI k0)]) (rest := []) ⟨hx, hb, hml, hown, hz⟩ (kC_seqOf l G B M k0 hcc) (zt_S zm_257 zm_258 zm_1 zm_259) rfl rfl rfl (show _ ∧ _ ∧ _ ∧ _ = some 1 from by decide +kernel) ⟨Nat.le_of_ble_eq_true rfl, Nat.le_of_ble_eq_true rfl⟩ zE_blind (zE_at hE hS) hH hl.1 rfl (Nat.le_of_ble_eq_true rfl) dC_comesToLog_14 ⟨Nat.le_of_ble_eq_true rfl, Nat.le_of_ble_eq_true rfl⟩ ?_
  refine lv_aload_n hx hb dC_comesToLog_17 rfl (lv_at hl 2 rfl) ?_
  refine va_get (D := G.1) (ci := 1) (v := .ref (z + 1)) (C := RC) (T := TC) (N := 14) hx hb hz iC hown hK (hH.one hx0) 0 rfl rfl 3 (by decide) (hz _ zm_34) (fun _ h9 => h9) rfl dC_comesToLog_18 ?_
  refine lv_iload_n hx hb dC_comesToLog_21 rfl (lv_at hl 3 rfl) ?_
  refine zw_lald hx hb hK hH 1 hck rfl (j) rfl (hj) (by omega) dC_comesToLog_22 ?_
  refine lv_iload_n hx hb dC_comesToLog_23 rfl (lv_at hl 1 rfl) ?_
  refine zr_S (As := [.long (zck (st.lg j)), .int (nI (k0 % 8))]) (rest := [.int (nI (k0 / 8))]) ⟨hx, hb, hml, hown, hz⟩ (kC_countIn l G B M (zck (st.lg j)) (k0 % 8) hc8) (zt_S zm_118 zm_119 zm_1 zm_120) rfl rfl rfl (show _ ∧ _ ∧ _ ∧ _ = some 2 from by decide +kernel) ⟨Nat.le_of_ble_eq_true rfl, Nat.le_of_ble_eq_true rfl⟩ zE_blind (zE_at hE hS) hH hl.1 rfl (Nat.le_of_ble_eq_true rfl) dC_comesToLog_24 ⟨Nat.le_of_ble_eq_true rfl, Nat.le_of_ble_eq_true rfl⟩ ?_
  refine zw_ti (congrArg nI hzb) ?_
  refine lv_iconst (v := nI 1) hx hb dC_comesToLog_27 (by decide) ?_
  refine lv_iadd hx hb dC_comesToLog_28 ?_
  refine zw_ti (nI_add _ _) ?_
  refine zc_ne (tgt := 44) hx hb dC_comesToLog_29 (by decide) (by omega) (by omega) (fun c => ?_) (fun c => ?_)
  · exact absurd hfit c
  · refine lv_iload hx hb dC_comesToLog_32 (lv_at hl 0 rfl) ?_
    refine lv_aload_n hx hb dC_comesToLog_34 rfl (lv_at hl 2 rfl) ?_
    refine va_get (D := G.1) (ci := 1) (v := .ref (z + 2)) (C := RC) (T := TC) (N := 14) hx hb hz iC hown hK (hH.one hx0) 0 rfl rfl 4 (by decide) (hz _ zm_35) (fun _ h9 => h9) rfl dC_comesToLog_35 ?_
    refine lv_iload_n hx hb dC_comesToLog_38 rfl (lv_at hl 3 rfl) ?_
    refine zw_aald hx hb hK hH 4 hlgs rfl rfl (j) rfl (hj) (by omega) (v := .ref (z + 3 + j)) rfl dC_comesToLog_39 ?_
    refine zw_alen hx hb hK hH 0 hlgr rfl dC_comesToLog_40 ?_
    refine zw_ti (v' := nI (n * 60)) rfl ?_
    refine zc_lt (tgt := 46) hx hb dC_comesToLog_41 (by decide) (by omega) (by omega) (fun c2 => ?_) (fun c2 => ?_)
    · refine lv_aload_n hx hb dC_comesToLog_46 rfl (lv_at hl 2 rfl) ?_
      refine va_get (D := G.1) (ci := 1) (v := .ref (z + 2)) (C := RC) (T := TC) (N := 14) hx hb hz iC hown hK (hH.one hx0) 0 rfl rfl 4 (by decide) (hz _ zm_35) (fun _ h9 => h9) rfl dC_comesToLog_47 ?_
      refine lv_iload_n hx hb dC_comesToLog_50 rfl (lv_at hl 3 rfl) ?_
      refine zw_aald hx hb hK hH 4 hlgs rfl rfl (j) rfl (hj) (by omega) (v := .ref (z + 3 + j)) rfl dC_comesToLog_51 ?_
      refine lv_iload hx hb dC_comesToLog_52 (lv_at hl 0 rfl) ?_
      refine lv_iload_n hx hb dC_comesToLog_54 rfl (lv_at hl 4 rfl) ?_
      refine zw_iast hx hb hK hH hS 0 hlgr rfl ((st.lg j).length) rfl (hlen) (by omega) dC_comesToLog_55 (fun H1 L1 hH hz1 hS => ?_)
      have hsz : H1.size = sz := hz1.trans hsz
      obtain ⟨M1, hM1⟩ : ∃ Mq, Mq = zw_u M (z + 3 + j) (.inl (G.2.1 0, n * 60, .inl (upd (fun k => nI ((st.lg j).getD k 0)) ((st.lg j).length) (nI k0)))) := ⟨_, rfl⟩
      have hH : zw_H G.1 zCl B M1 H1 := by rw [hM1]; exact hH
      have hx0 : M1 x = some (.inr (1, zoC n mb z st.fl.length st.se st.lo st.go st.pa)) := by rw [hM1, zw_un _ _ (by omega)]; exact hx0
      have hck : M1 (z + 1) = some (.inl (G.2.1 1, n, .inr (.inl (fun i => zck (st.lg i))))) := by rw [hM1, zw_un _ _ (by omega)]; exact hck
      have hlgs : M1 (z + 2) = some (.inl (G.2.1 4, n, .inr (.inr (.inr (.inr (fun i => some (z + 3 + i))))))) := by rw [hM1, zw_un _ _ (by omega)]; exact hlgs
      have hlz : M1 (z + 3 + n) = some (.inl (G.2.1 0, n, .inl (fun i => nI ((st.lg i).length)))) := by rw [hM1, zw_un _ _ (by omega)]; exact hlz
      have hlgr : M1 (z + 3 + j) = some (.inl (G.2.1 0, n * 60, .inl (upd (fun k => nI ((st.lg j).getD k 0)) ((st.lg j).length) (nI k0)))) := by rw [hM1]; exact zw_us _ _ _
      refine lv_aload_n hx hb dC_comesToLog_56 rfl (lv_at hl 2 rfl) ?_
      refine va_get (D := G.1) (ci := 1) (v := .ref (z + 3 + n)) (C := RC) (T := TC) (N := 14) hx hb hz iC hown hK (hH.one hx0) 0 rfl rfl 5 (by decide) (hz _ zm_36) (fun _ h9 => h9) rfl dC_comesToLog_57 ?_
      refine lv_iload_n hx hb dC_comesToLog_60 rfl (lv_at hl 3 rfl) ?_
      refine lv_iload hx hb dC_comesToLog_61 (lv_at hl 0 rfl) ?_
      refine lv_iconst (v := nI 1) hx hb dC_comesToLog_63 (by decide) ?_
      refine lv_iadd hx hb dC_comesToLog_64 ?_
      refine zw_ti (nI_add _ _) ?_
      refine zw_iast hx hb hK hH hS 0 hlz rfl (j) rfl (hj) (by omega) dC_comesToLog_65 (fun H2 L2 hH hz1 hS => ?_)
      have hsz : H2.size = sz := hz1.trans hsz
      obtain ⟨M2, hM2⟩ : ∃ Mq, Mq = zw_u M1 (z + 3 + n) (.inl (G.2.1 0, n, .inl (upd (fun i => nI ((st.lg i).length)) j (nI (((st.lg j).length) + 1))))) := ⟨_, rfl⟩
      have hH : zw_H G.1 zCl B M2 H2 := by rw [hM2]; exact hH
      have hx0 : M2 x = some (.inr (1, zoC n mb z st.fl.length st.se st.lo st.go st.pa)) := by rw [hM2, zw_un _ _ (by omega)]; exact hx0
      have hck : M2 (z + 1) = some (.inl (G.2.1 1, n, .inr (.inl (fun i => zck (st.lg i))))) := by rw [hM2, zw_un _ _ (by omega)]; exact hck
      have hlgs : M2 (z + 2) = some (.inl (G.2.1 4, n, .inr (.inr (.inr (.inr (fun i => some (z + 3 + i))))))) := by rw [hM2, zw_un _ _ (by omega)]; exact hlgs
      have hlgr : M2 (z + 3 + j) = some (.inl (G.2.1 0, n * 60, .inl (upd (fun k => nI ((st.lg j).getD k 0)) ((st.lg j).length) (nI k0)))) := by rw [hM2, zw_un _ _ (by omega)]; exact hlgr
      have hlz : M2 (z + 3 + n) = some (.inl (G.2.1 0, n, .inl (upd (fun i => nI ((st.lg i).length)) j (nI (((st.lg j).length) + 1))))) := by rw [hM2]; exact zw_us _ _ _
      refine lv_aload_n hx hb dC_comesToLog_66 rfl (lv_at hl 2 rfl) ?_
      refine va_get (D := G.1) (ci := 1) (v := .ref (z + 1)) (C := RC) (T := TC) (N := 14) hx hb hz iC hown hK (hH.one hx0) 0 rfl rfl 3 (by decide) (hz _ zm_34) (fun _ h9 => h9) rfl dC_comesToLog_67 ?_
      refine lv_iload_n hx hb dC_comesToLog_70 rfl (lv_at hl 3 rfl) ?_
      refine lv_dup2_11 hx hb dC_comesToLog_71 rfl rfl ?_
      refine zw_lald hx hb hK hH 1 hck rfl (j) rfl (hj) (by omega) dC_comesToLog_72 ?_
      refine lv_lconst (v := 1) hx hb dC_comesToLog_73 (by decide) ?_
      refine lv_bipush (v := nI 8) hx hb dC_comesToLog_74 (by decide) ?_
      refine lv_iload_n hx hb dC_comesToLog_76 rfl (lv_at hl 1 rfl) ?_
      refine lv_imul hx hb dC_comesToLog_77 ?_
      refine zw_ti (pk_mul _ _) ?_
      refine lv_lshl hx hb dC_comesToLog_78 rfl ?_
      refine zw_tl (zb_one hc8) ?_
      refine lv_ladd hx hb dC_comesToLog_79 ?_
      refine zw_last hx hb hK hH hS 1 hck rfl (j) rfl (hj) (by omega) dC_comesToLog_80 (fun H3 L3 hH hz1 hS => ?_)
      have hsz : H3.size = sz := hz1.trans hsz
      obtain ⟨M3, hM3⟩ : ∃ Mq, Mq = zw_u M2 (z + 1) (.inl (G.2.1 1, n, .inr (.inl (vp_updL (fun i => zck (st.lg i)) j (zck (st.lg j) + lN (256 ^ (k0 % 8))))))) := ⟨_, rfl⟩
      have hH : zw_H G.1 zCl B M3 H3 := by rw [hM3]; exact hH
      have hx0 : M3 x = some (.inr (1, zoC n mb z st.fl.length st.se st.lo st.go st.pa)) := by rw [hM3, zw_un _ _ (by omega)]; exact hx0
      have hlgs : M3 (z + 2) = some (.inl (G.2.1 4, n, .inr (.inr (.inr (.inr (fun i => some (z + 3 + i))))))) := by rw [hM3, zw_un _ _ (by omega)]; exact hlgs
      have hlz : M3 (z + 3 + n) = some (.inl (G.2.1 0, n, .inl (upd (fun i => nI ((st.lg i).length)) j (nI (((st.lg j).length) + 1))))) := by rw [hM3, zw_un _ _ (by omega)]; exact hlz
      have hlgr : M3 (z + 3 + j) = some (.inl (G.2.1 0, n * 60, .inl (upd (fun k => nI ((st.lg j).getD k 0)) ((st.lg j).length) (nI k0)))) := by rw [hM3, zw_un _ _ (by omega)]; exact hlgr
      have hck : M3 (z + 1) = some (.inl (G.2.1 1, n, .inr (.inl (vp_updL (fun i => zck (st.lg i)) j (zck (st.lg j) + lN (256 ^ (k0 % 8))))))) := by rw [hM3]; exact zw_us _ _ _
      refine lv_iconst (v := nI 1) hx hb dC_comesToLog_81 (by decide) ?_
      have hk : ∀ a : Nat, a ≠ z + 3 + j → a ≠ z + 3 + n → a ≠ z + 1 → M3 a = M a := fun a h1 h2 h3 => by rw [hM3, zw_un _ _ h3, hM2, zw_un _ _ h2, hM1, zw_un _ _ h1]
      exact W.zret (v := (nI 1)) (ty := .boolean) hx hb hr rfl (fun t ht hW => ⟨⟨(nI 1), (M3, sz), rfl, ⟨rfl, hR.logd hj (fun a e h1 h2 h3 h4 => (hk a h1 h2 h3).trans h4) hlgr hlz hck, hk, rfl⟩, by rw [ht]; exact hH, by rw [ht]; exact hsz⟩, hS.F ht⟩) hS.2.2 dC_comesToLog_82
    · exact absurd c2 (by omega)

set_option maxHeartbeats 4000000 in
set_option maxRecDepth 100000 in
theorem kC_comes_no (l : Launch) (G : zG) (B : Nat) (M : zw_M) (sz : Nat) (x z L n mb : Nat) (st : zSt) (qs : List Nat) (g : Nat → Int32) (hn : n ≤ 8) (hR : zCR G M x z L n mb st qs g) (j k0 : Nat) (hj : j < n) (hcc : k0 < 2 ^ 31) (hb8 : ∀ b, b < 8 → zcnt b (st.lg j) < 256) (hfit : ¬ zfits st j k0) : Met l yC_comesToLog (Cond.code yC_comesToLog bC_comesToLog 5 (some .boolean) :: zT) { frames := 1, cells := 0, slots := 0, locals := 22 } (zq G B M sz [.ref x, .int (nI j), .int (nI k0)]) (va_Qi (fun (r : Int32) (u : zw_M × Nat) => r = nI 0 ∧ u = (M, sz)) (zr_o G.1 zCl B) (zw_A B)) (0) (0) (zw_A B) := by
  refine Met.ofW (cc := bC_comesToLog) (maxL := 5) (ret := (some .boolean)) (by decide) rfl ?_
  intro p e s m args below meth c s₁ B0 hml hv
  obtain ⟨rfl, hE, hH, hsz⟩ := hv
  have hx := B0.exec
  have hb := B0.bytes
  have hr := B0.returns
  have hlocks := B0.notSynchronized
  have hz : ∀ w ∈ zT, w.before _ s = true := fun w h => atoms_spec (ws := Cond.code yC_comesToLog bC_comesToLog 5 (some .boolean) :: zT) B0.pre w (List.mem_cons_of_mem _ h)
  have hown : s.vm.findClass RC = some m.cls := findClass_of_methodNamed B0.named
  have hK := hE.1
  have hl := lv_entry ([.ref x, .int (nI j), .int (nI k0)]) (n := 5) (Nat.le_of_ble_eq_true rfl)
  rw [lg_entry_eq]
  generalize (lg_sl ([.ref x, .int (nI j), .int (nI k0)]) ++ List.replicate (5 - (lg_sl ([.ref x, .int (nI j), .int (nI k0)])).length) Slot.unset).toArray = ls at hl ⊢
  have hl : lv_has ls 5 [(0, .ref x), (1, .int (nI j)), (2, .int (nI k0))] := hl
  have hS : va_S (zw_A B) s.heap s.heap [] := va_S.rf
  have hin : meth.name = "comesToLog" := (name_of_methodNamed B0.named B0.method).1
  have hc8 : k0 % 8 < 8 := Nat.mod_lt _ (by decide)
  have hzb := zck_at hb8 hc8
  have hzl := hb8 _ hc8
  have hlgr := hR.lg j hj
  have hx0 := hR.obj
  have hck := hR.ck
  have hlgs := hR.lgs
  have hlz := hR.lz
  have hxz := hR.xz
  have hzL := hR.zL
  refine lv_iload_n hx hb dC_comesToLog_0 rfl (lv_at hl 2 rfl) ?_
  refine zr_S (As := [.int (nI k0)]) (rest := []) ⟨hx, hb, hml, hown, hz⟩ (kC_actorOf l G B M k0 hcc) (zt_S zm_254 zm_255 zm_1 zm_256) rfl rfl rfl (show _ ∧ _ ∧ _ ∧ _ = some 1 from by decide +kernel) ⟨Nat.le_of_ble_eq_true rfl, Nat.le_of_ble_eq_true rfl⟩ zE_blind (zE_at hE hS) hH hl.1 rfl (Nat.le_of_ble_eq_true rfl) dC_comesToLog_1 ⟨Nat.le_of_ble_eq_true rfl, Nat.le_of_ble_eq_true rfl⟩ ?_
  refine lv_istore_n (lv' := [(3, .int (nI (k0 % 8))), (0, .ref x), (1, .int (nI j)), (2, .int (nI k0))]) hx hb dC_comesToLog_4 rfl hl (by decide) rfl (fun ls hl => ?_)
  refine lv_aload_n hx hb dC_comesToLog_5 rfl (lv_at hl 1 rfl) ?_
  refine va_get (D := G.1) (ci := 1) (v := .ref (z + 3 + n)) (C := RC) (T := TC) (N := 14) hx hb hz iC hown hK (hH.one hx0) 0 rfl rfl 5 (by decide) (hz _ zm_36) (fun _ h9 => h9) rfl dC_comesToLog_6 ?_
  refine lv_iload_n hx hb dC_comesToLog_9 rfl (lv_at hl 2 rfl) ?_
  refine zw_iald hx hb hK hH 0 hlz rfl (j) rfl (hj) (by omega) dC_comesToLog_10 ?_
  refine lv_istore (lv' := [(4, .int (nI ((st.lg j).length))), (3, .int (nI (k0 % 8))), (0, .ref x), (1, .int (nI j)), (2, .int (nI k0))]) hx hb dC_comesToLog_11 hl (by decide) rfl (fun ls hl => ?_)
  refine lv_iload_n hx hb dC_comesToLog_13 rfl (lv_at hl 4 rfl) ?_
  refine zr_S (As := [.int (nI k0)]) (rest := []) ⟨hx, hb, hml, hown, hz⟩ (kC_seqOf l G B M k0 hcc) (zt_S zm_257 zm_258 zm_1 zm_259) rfl rfl rfl (show _ ∧ _ ∧ _ ∧ _ = some 1 from by decide +kernel) ⟨Nat.le_of_ble_eq_true rfl, Nat.le_of_ble_eq_true rfl⟩ zE_blind (zE_at hE hS) hH hl.1 rfl (Nat.le_of_ble_eq_true rfl) dC_comesToLog_14 ⟨Nat.le_of_ble_eq_true rfl, Nat.le_of_ble_eq_true rfl⟩ ?_
  refine lv_aload_n hx hb dC_comesToLog_17 rfl (lv_at hl 2 rfl) ?_
  refine va_get (D := G.1) (ci := 1) (v := .ref (z + 1)) (C := RC) (T := TC) (N := 14) hx hb hz iC hown hK (hH.one hx0) 0 rfl rfl 3 (by decide) (hz _ zm_34) (fun _ h9 => h9) rfl dC_comesToLog_18 ?_
  refine lv_iload_n hx hb dC_comesToLog_21 rfl (lv_at hl 3 rfl) ?_
  refine zw_lald hx hb hK hH 1 hck rfl (j) rfl (hj) (by omega) dC_comesToLog_22 ?_
  refine lv_iload_n hx hb dC_comesToLog_23 rfl (lv_at hl 1 rfl) ?_
  refine zr_S (As := [.long (zck (st.lg j)), .int (nI (k0 % 8))]) (rest := [.int (nI (k0 / 8))]) ⟨hx, hb, hml, hown, hz⟩ (kC_countIn l G B M (zck (st.lg j)) (k0 % 8) hc8) (zt_S zm_118 zm_119 zm_1 zm_120) rfl rfl rfl (show _ ∧ _ ∧ _ ∧ _ = some 2 from by decide +kernel) ⟨Nat.le_of_ble_eq_true rfl, Nat.le_of_ble_eq_true rfl⟩ zE_blind (zE_at hE hS) hH hl.1 rfl (Nat.le_of_ble_eq_true rfl) dC_comesToLog_24 ⟨Nat.le_of_ble_eq_true rfl, Nat.le_of_ble_eq_true rfl⟩ ?_
  refine zw_ti (congrArg nI hzb) ?_
  refine lv_iconst (v := nI 1) hx hb dC_comesToLog_27 (by decide) ?_
  refine lv_iadd hx hb dC_comesToLog_28 ?_
  refine zw_ti (nI_add _ _) ?_
  refine zc_ne (tgt := 44) hx hb dC_comesToLog_29 (by decide) (by omega) (by omega) (fun c => ?_) (fun c => ?_)
  · refine lv_iconst (v := nI 0) hx hb dC_comesToLog_44 (by decide) ?_
    exact W.zret (v := (nI 0)) (ty := .boolean) hx hb hr rfl (fun t ht hW => ⟨⟨(nI 0), (M, sz), rfl, ⟨rfl, rfl⟩, by rw [ht]; exact hH, by rw [ht]; exact hsz⟩, hS.F ht⟩) hS.2.2 dC_comesToLog_45
  · exact absurd c hfit

set_option maxHeartbeats 4000000 in
set_option maxRecDepth 100000 in
theorem kM_init (l : Launch) (G : zG) (B : Nat) (M : zw_M) (sz : Nat) (q : Nat) (num snd rcv byt : Int32) (told : Int64) (ch : Nat) (v0 v1 v2 v3 v4 v5 : Value) (hq0 : M q = some (.inr (0, [v0, v1, v2, v3, v4, v5]))) : Met l yM_init (Cond.code yM_init bM_init 8 none :: zT) { frames := 1, cells := 0, slots := 0, locals := 12 } (zq G B M sz [.ref q, .int num, .int snd, .int rcv, .int byt, .long told, .ref ch]) (va_Qv (fun (u : zw_M × Nat) => u = (zw_u M q (.inr (0, zoM num snd rcv byt told ch)), sz)) (zr_o G.1 zCl B) (zw_A B)) (0) (0) (zw_A B) := by
  refine Met.ofW (cc := bM_init) (maxL := 8) (ret := none) (by decide) rfl ?_
  intro p e s m args below meth c s₁ B0 hml hv
  obtain ⟨rfl, hE, hH, hsz⟩ := hv
  have hx := B0.exec
  have hb := B0.bytes
  have hr := B0.returns
  have hlocks := B0.notSynchronized
  have hz : ∀ w ∈ zT, w.before _ s = true := fun w h => atoms_spec (ws := Cond.code yM_init bM_init 8 none :: zT) B0.pre w (List.mem_cons_of_mem _ h)
  have hown : s.vm.findClass RM = some m.cls := findClass_of_methodNamed B0.named
  have hK := hE.1
  have hl := lv_entry ([.ref q, .int num, .int snd, .int rcv, .int byt, .long told, .ref ch]) (n := 8) (Nat.le_of_ble_eq_true rfl)
  rw [lg_entry_eq]
  generalize (lg_sl ([.ref q, .int num, .int snd, .int rcv, .int byt, .long told, .ref ch]) ++ List.replicate (8 - (lg_sl ([.ref q, .int num, .int snd, .int rcv, .int byt, .long told, .ref ch])).length) Slot.unset).toArray = ls at hl ⊢
  have hl : lv_has ls 8 [(0, .ref q), (1, .int num), (2, .int snd), (3, .int rcv), (4, .int byt), (5, .long told), (7, .ref ch)] := hl
  have hS : va_S (zw_A B) s.heap s.heap [] := va_S.rf
  have hin : meth.name = "<init>" := (name_of_methodNamed B0.named B0.method).1
  have hq0 : M q = some (.inr (0, [v0, v1, v2, v3, v4, v5])) := hq0
  refine lv_aload_n hx hb dM_init_0 rfl (lv_at hl 0 rfl) ?_
  refine W.objInit hx hb hown (hz _ zm_282) (hz _ zm_19) (hz _ zm_20) rfl (by rw [hml]; exact hl.1) rfl dM_init_1 (Nat.le_of_ble_eq_true rfl) (Nat.le_of_ble_eq_true rfl) ?_
  refine lv_aload_n hx hb dM_init_4 rfl (lv_at hl 0 rfl) ?_
  refine lv_iload_n hx hb dM_init_5 rfl (lv_at hl 1 rfl) ?_
  refine zw_putF (D := G.1) (ci := 0) (v := .int num) (ty := .int) (C := RM) (T := TM) (N := 6) hx hb hz iM tM tM_ok nM hown hK hH hS hq0 rfl 0 (by decide) (hz _ zm_283) (fun _ h9 => h9) rfl hin rfl (by decide +kernel) rfl rfl (Nat.le_of_ble_eq_true rfl) dM_init_6 (fun H1 L1 hH hz1 hS => ?_)
  have hsz : H1.size = sz := hz1.trans hsz
  obtain ⟨M1, hM1⟩ : ∃ Mq, Mq = zw_u M q (.inr (0, [.int num, v1, v2, v3, v4, v5])) := ⟨_, rfl⟩
  have hH : zw_H G.1 zCl B M1 H1 := by rw [hM1]; exact hH
  have hq0 : M1 q = some (.inr (0, [.int num, v1, v2, v3, v4, v5])) := by rw [hM1]; exact zw_us _ _ _
  refine lv_aload_n hx hb dM_init_9 rfl (lv_at hl 0 rfl) ?_
  refine lv_iload_n hx hb dM_init_10 rfl (lv_at hl 2 rfl) ?_
  refine zw_putF (D := G.1) (ci := 0) (v := .int snd) (ty := .int) (C := RM) (T := TM) (N := 6) hx hb hz iM tM tM_ok nM hown hK hH hS hq0 rfl 1 (by decide) (hz _ zm_285) (fun _ h9 => h9) rfl hin rfl (by decide +kernel) rfl rfl (Nat.le_of_ble_eq_true rfl) dM_init_11 (fun H2 L2 hH hz1 hS => ?_)
  have hsz : H2.size = sz := hz1.trans hsz
  obtain ⟨M2, hM2⟩ : ∃ Mq, Mq = zw_u M1 q (.inr (0, [.int num, .int snd, v2, v3, v4, v5])) := ⟨_, rfl⟩
  have hH : zw_H G.1 zCl B M2 H2 := by rw [hM2]; exact hH
  have hq0 : M2 q = some (.inr (0, [.int num, .int snd, v2, v3, v4, v5])) := by rw [hM2]; exact zw_us _ _ _
  refine lv_aload_n hx hb dM_init_14 rfl (lv_at hl 0 rfl) ?_
  refine lv_iload_n hx hb dM_init_15 rfl (lv_at hl 3 rfl) ?_
  refine zw_putF (D := G.1) (ci := 0) (v := .int rcv) (ty := .int) (C := RM) (T := TM) (N := 6) hx hb hz iM tM tM_ok nM hown hK hH hS hq0 rfl 2 (by decide) (hz _ zm_287) (fun _ h9 => h9) rfl hin rfl (by decide +kernel) rfl rfl (Nat.le_of_ble_eq_true rfl) dM_init_16 (fun H3 L3 hH hz1 hS => ?_)
  have hsz : H3.size = sz := hz1.trans hsz
  obtain ⟨M3, hM3⟩ : ∃ Mq, Mq = zw_u M2 q (.inr (0, [.int num, .int snd, .int rcv, v3, v4, v5])) := ⟨_, rfl⟩
  have hH : zw_H G.1 zCl B M3 H3 := by rw [hM3]; exact hH
  have hq0 : M3 q = some (.inr (0, [.int num, .int snd, .int rcv, v3, v4, v5])) := by rw [hM3]; exact zw_us _ _ _
  refine lv_aload_n hx hb dM_init_19 rfl (lv_at hl 0 rfl) ?_
  refine lv_iload hx hb dM_init_20 (lv_at hl 4 rfl) ?_
  refine zw_putF (D := G.1) (ci := 0) (v := .int byt) (ty := .int) (C := RM) (T := TM) (N := 6) hx hb hz iM tM tM_ok nM hown hK hH hS hq0 rfl 3 (by decide) (hz _ zm_289) (fun _ h9 => h9) rfl hin rfl (by decide +kernel) rfl rfl (Nat.le_of_ble_eq_true rfl) dM_init_22 (fun H4 L4 hH hz1 hS => ?_)
  have hsz : H4.size = sz := hz1.trans hsz
  obtain ⟨M4, hM4⟩ : ∃ Mq, Mq = zw_u M3 q (.inr (0, [.int num, .int snd, .int rcv, .int byt, v4, v5])) := ⟨_, rfl⟩
  have hH : zw_H G.1 zCl B M4 H4 := by rw [hM4]; exact hH
  have hq0 : M4 q = some (.inr (0, [.int num, .int snd, .int rcv, .int byt, v4, v5])) := by rw [hM4]; exact zw_us _ _ _
  refine lv_aload_n hx hb dM_init_25 rfl (lv_at hl 0 rfl) ?_
  refine lv_lload hx hb dM_init_26 (lv_at hl 5 rfl) ?_
  refine zw_putF (D := G.1) (ci := 0) (v := .long told) (ty := .long) (C := RM) (T := TM) (N := 6) hx hb hz iM tM tM_ok nM hown hK hH hS hq0 rfl 4 (by decide) (hz _ zm_291) (fun _ h9 => h9) rfl hin rfl (by decide +kernel) rfl rfl (Nat.le_of_ble_eq_true rfl) dM_init_28 (fun H5 L5 hH hz1 hS => ?_)
  have hsz : H5.size = sz := hz1.trans hsz
  obtain ⟨M5, hM5⟩ : ∃ Mq, Mq = zw_u M4 q (.inr (0, [.int num, .int snd, .int rcv, .int byt, .long told, v5])) := ⟨_, rfl⟩
  have hH : zw_H G.1 zCl B M5 H5 := by rw [hM5]; exact hH
  have hq0 : M5 q = some (.inr (0, [.int num, .int snd, .int rcv, .int byt, .long told, v5])) := by rw [hM5]; exact zw_us _ _ _
  refine lv_aload_n hx hb dM_init_31 rfl (lv_at hl 0 rfl) ?_
  refine lv_aload hx hb dM_init_32 (lv_at hl 6 rfl) ?_
  refine zw_putF (D := G.1) (ci := 0) (v := .ref ch) (ty := (.array .int)) (C := RM) (T := TM) (N := 6) hx hb hz iM tM tM_ok nM hown hK hH hS hq0 rfl 5 (by decide) (hz _ zm_293) (fun _ h9 => h9) rfl hin rfl (by decide +kernel) rfl rfl (Nat.le_of_ble_eq_true rfl) dM_init_34 (fun H6 L6 hH hz1 hS => ?_)
  have hsz : H6.size = sz := hz1.trans hsz
  obtain ⟨M6, hM6⟩ : ∃ Mq, Mq = zw_u M5 q (.inr (0, [.int num, .int snd, .int rcv, .int byt, .long told, .ref ch])) := ⟨_, rfl⟩
  have hH : zw_H G.1 zCl B M6 H6 := by rw [hM6]; exact hH
  have hq0 : M6 q = some (.inr (0, [.int num, .int snd, .int rcv, .int byt, .long told, .ref ch])) := by rw [hM6]; exact zw_us _ _ _
  exact W.vret hx hb hr (fun t ht hW => ⟨⟨(M6, sz), rfl, by rw [hM6, hM5, hM4, hM3, hM2, hM1, zw_uu, zw_uu, zw_uu, zw_uu, zw_uu]; rfl, by rw [ht]; exact hH, by rw [ht]; exact hsz⟩, hS.F ht⟩) hS.2.2 dM_init_37
end
section
/-! THE CLASS: messages are sent -/
theorem zM_def : ∀ j, j < 6 → defaultValue (tM j) = vp_V [.int 0, .int 0, .int 0, .int 0, .long 0, .null] j := fun j hj => by rcases (show j = 0 ∨ j = 1 ∨ j = 2 ∨ j = 3 ∨ j = 4 ∨ j = 5 by omega) with rfl | rfl | rfl | rfl | rfl | rfl <;> rfl
set_option maxHeartbeats 4000000 in
set_option maxRecDepth 100000 in
theorem kC_sendClock_yes (l : Launch) (G : zG) (B : Nat) (M : zw_M) (sz : Nat) (x z L n mb : Nat) (st : zSt) (qs : List Nat) (g : Nat → Int32) (hn : n ≤ 8) (hR : zCR G M x z L n mb st qs g) (hL : L < sz) (j k : Nat) (hj : j < n) (hlt : st.fl.length < 120) : Met l yC_sendClock (Cond.code yC_sendClock bC_sendClock 4 none :: zT) { frames := 2, cells := 1, slots := 6, locals := 40 } (zq G B M sz [.ref x, .int (nI j), .int (nI k)]) (va_Qv (fun (u : zw_M × Nat) => zCO G x z L n mb sz M (zsend st j k (3 + n) (some (zck (st.lg j))) []) u) (zr_o G.1 zCl B) (zw_A B)) (1) (6) (zw_A B) := by
  refine Met.ofW (cc := bC_sendClock) (maxL := 4) (ret := none) (by decide) rfl ?_
  intro p e s m args below meth c s₁ B0 hml hv
  obtain ⟨rfl, hE, hH, hsz⟩ := hv
  have hx := B0.exec
  have hb := B0.bytes
  have hr := B0.returns
  have hlocks := B0.notSynchronized
  have hz : ∀ w ∈ zT, w.before _ s = true := fun w h => atoms_spec (ws := Cond.code yC_sendClock bC_sendClock 4 none :: zT) B0.pre w (List.mem_cons_of_mem _ h)
  have hown : s.vm.findClass RC = some m.cls := findClass_of_methodNamed B0.named
  have hK := hE.1
  have hl := lv_entry ([.ref x, .int (nI j), .int (nI k)]) (n := 4) (Nat.le_of_ble_eq_true rfl)
  rw [lg_entry_eq]
  generalize (lg_sl ([.ref x, .int (nI j), .int (nI k)]) ++ List.replicate (4 - (lg_sl ([.ref x, .int (nI j), .int (nI k)])).length) Slot.unset).toArray = ls at hl ⊢
  have hl : lv_has ls 4 [(0, .ref x), (1, .int (nI j)), (2, .int (nI k))] := hl
  have hS : va_S (zw_A B) s.heap s.heap [] := va_S.rf
  have hin : meth.name = "sendClock" := (name_of_methodNamed B0.named B0.method).1
  have hlt0 : ∀ (a : Nat) (e : va_E), M a = some e → a < sz := fun a e h => by rw [← hsz]; exact hH.lt h
  have hx0 := hR.obj
  have hck := hR.ck
  have hfl := hR.fl
  have hxz := hR.xz
  have hzL := hR.zL
  refine lv_aload_n hx hb dC_sendClock_0 rfl (lv_at hl 0 rfl) ?_
  refine va_get (D := G.1) (ci := 1) (v := .int (nI st.se)) (C := RC) (T := TC) (N := 14) hx hb hz iC hown hK (hH.one hx0) 0 rfl rfl 10 (by decide) (hz _ zm_41) (fun _ h9 => h9) rfl dC_sendClock_1 ?_
  refine lv_istore_n (lv' := [(3, .int (nI st.se)), (0, .ref x), (1, .int (nI j)), (2, .int (nI k))]) hx hb dC_sendClock_4 rfl hl (by decide) rfl (fun ls hl => ?_)
  refine lv_aload_n hx hb dC_sendClock_5 rfl (lv_at hl 1 rfl) ?_
  refine zr_Vi (As := []) (rest := []) (q := (RC, TC, 14)) (mc := 0) (ms := 0) ⟨hx, hb, hml, hown, hz⟩ (kC_count_yes l G B M _ x n mb z st.fl.length st.se st.lo st.go st.pa hn hx0 hlt) (zt_V zm_272 zm_274 zs_10 zm_1 zm_275) rfl rfl rfl (show _ ∧ _ ∧ _ ∧ _ = some 0 from by decide +kernel) ⟨Nat.le_of_ble_eq_true rfl, Nat.le_of_ble_eq_true rfl⟩ zE_blind (zE_at hE hS) hH hK hx0 rfl rfl hS hl.1 rfl (Nat.le_of_ble_eq_true rfl) dC_sendClock_6 ⟨Nat.le_of_ble_eq_true rfl, Nat.le_of_ble_eq_true rfl⟩ (fun r1 M1 sz1 H1 L1 hp hH hz1 hz2 hS => ?_)
  obtain ⟨rfl, hp⟩ := hp
  have hM1 := (Prod.mk.inj hp).1
  have hsz : H1.size = sz := hz1.trans ((Prod.mk.inj hp).2.trans hsz)
  have hck : M1 (z + 1) = some (.inl (G.2.1 1, n, .inr (.inl (fun i => zck (st.lg i))))) := by rw [hM1, zw_un _ _ (by omega)]; exact hck
  have hfl : M1 (z + 5 + 2 * n) = some (.inl (G.2.1 3, 120, .inr (.inr (.inr (.inr (fun i => qs[i]?)))))) := by rw [hM1, zw_un _ _ (by omega)]; exact hfl
  have hx0 : M1 x = some (.inr (1, zoC n mb z st.fl.length (st.se + 1) st.lo st.go st.pa)) := by rw [hM1]; exact zw_us _ _ _
  refine zc_eq0 (tgt := 41) hx hb dC_sendClock_9 (by decide) (by omega) (fun c => ?_) (fun c => ?_)
  · exact absurd c (by decide)
  · refine lv_aload_n hx hb dC_sendClock_12 rfl (lv_at hl 1 rfl) ?_
    refine zw_new (D := G.1) (ci := 0) (fs := [.int 0, .int 0, .int 0, .int 0, .long 0, .null]) (C := RM) (T := TM) (N := 6) hx hb hz iM tM tM_ok hown (hz _ zm_29) (hz _ zm_276) (hz _ zm_10) hK hH hS (Nat.le_trans hE.2.1 hS.1) rfl zM_def (Nat.le_of_ble_eq_true rfl) (Nat.le_of_ble_eq_true rfl) dC_sendClock_13 (fun H2 hH hz1 hS => ?_)
    rw [hsz] at hH hz1 ⊢
    have hsz : H2.size = sz + 1 := hz1
    obtain ⟨M2, hM2⟩ : ∃ Mq, Mq = zw_u M1 sz (.inr (0, [.int 0, .int 0, .int 0, .int 0, .long 0, .null])) := ⟨_, rfl⟩
    have hH : zw_H G.1 zCl B M2 H2 := by rw [hM2]; exact hH
    have hck : M2 (z + 1) = some (.inl (G.2.1 1, n, .inr (.inl (fun i => zck (st.lg i))))) := by rw [hM2, zw_un _ _ (by omega)]; exact hck
    have hfl : M2 (z + 5 + 2 * n) = some (.inl (G.2.1 3, 120, .inr (.inr (.inr (.inr (fun i => qs[i]?)))))) := by rw [hM2, zw_un _ _ (by omega)]; exact hfl
    have hx0 : M2 x = some (.inr (1, zoC n mb z st.fl.length (st.se + 1) st.lo st.go st.pa)) := by rw [hM2, zw_un _ _ (by omega)]; exact hx0
    have hq0 : M2 sz = some (.inr (0, [.int 0, .int 0, .int 0, .int 0, .long 0, .null])) := by rw [hM2]; exact zw_us _ _ _
    refine lv_dup hx hb dC_sendClock_16 rfl ?_
    refine lv_iload_n hx hb dC_sendClock_17 rfl (lv_at hl 0 rfl) ?_
    refine lv_iload_n hx hb dC_sendClock_18 rfl (lv_at hl 2 rfl) ?_
    refine lv_iload_n hx hb dC_sendClock_19 rfl (lv_at hl 3 rfl) ?_
    refine lv_iconst (v := nI 3) hx hb dC_sendClock_20 (by decide) ?_
    refine lv_aload_n hx hb dC_sendClock_21 rfl (lv_at hl 1 rfl) ?_
    refine va_get (D := G.1) (ci := 1) (v := .int (nI n)) (C := RC) (T := TC) (N := 14) hx hb hz iC hown hK (hH.one hx0) 0 rfl rfl 0 (by decide) (hz _ zm_31) (fun _ h9 => h9) rfl dC_sendClock_22 ?_
    refine lv_iadd hx hb dC_sendClock_25 ?_
    refine zw_ti (nI_add _ _) ?_
    refine lv_aload_n hx hb dC_sendClock_26 rfl (lv_at hl 1 rfl) ?_
    refine va_get (D := G.1) (ci := 1) (v := .ref (z + 1)) (C := RC) (T := TC) (N := 14) hx hb hz iC hown hK (hH.one hx0) 0 rfl rfl 3 (by decide) (hz _ zm_34) (fun _ h9 => h9) rfl dC_sendClock_27 ?_
    refine lv_iload_n hx hb dC_sendClock_30 rfl (lv_at hl 2 rfl) ?_
    refine zw_lald hx hb hK hH 1 hck rfl (j) rfl (hj) (by omega) dC_sendClock_31 ?_
    refine va_gets hx hb hE.2.2.1 hS hown (hz _ zm_277) (fun _ h9 => h9) dC_sendClock_32 ?_
    refine zr_I (As := [.int (nI st.se), .int (nI j), .int (nI k), .int (nI (3 + n)), .long (zck (st.lg j)), .ref G.2.2]) (rest := [.ref sz, .ref x]) (mc := 0) (ms := 0) ⟨hx, hb, hml, hown, hz⟩ (kM_init l G B M2 _ sz (nI st.se) (nI j) (nI k) (nI (3 + n)) (zck (st.lg j)) G.2.2 _ _ _ _ _ _ hq0) (zt_I zm_281) rfl rfl rfl (hz _ zm_10) (hz _ zm_279) (hz _ zm_280) rfl (show _ ∧ _ ∧ _ = some 6 from by decide +kernel) ⟨Nat.le_of_ble_eq_true rfl, Nat.le_of_ble_eq_true rfl⟩ zE_blind (zE_at hE hS) hH hS hl.1 rfl (Nat.le_of_ble_eq_true rfl) dC_sendClock_35 ⟨Nat.le_of_ble_eq_true rfl, Nat.le_of_ble_eq_true rfl⟩ (fun M3 sz3 H3 L3 hp hH hz1 hz2 hS => ?_)
    have hM3 := (Prod.mk.inj hp).1
    have hsz : H3.size = sz + 1 := hz1.trans ((Prod.mk.inj hp).2.trans hsz)
    have hck : M3 (z + 1) = some (.inl (G.2.1 1, n, .inr (.inl (fun i => zck (st.lg i))))) := by rw [hM3, zw_un _ _ (by omega)]; exact hck
    have hfl : M3 (z + 5 + 2 * n) = some (.inl (G.2.1 3, 120, .inr (.inr (.inr (.inr (fun i => qs[i]?)))))) := by rw [hM3, zw_un _ _ (by omega)]; exact hfl
    have hx0 : M3 x = some (.inr (1, zoC n mb z st.fl.length (st.se + 1) st.lo st.go st.pa)) := by rw [hM3, zw_un _ _ (by omega)]; exact hx0
    have hq0 : M3 sz = some (.inr (0, zoM (nI st.se) (nI j) (nI k) (nI (3 + n)) (zck (st.lg j)) G.2.2)) := by rw [hM3]; exact zw_us _ _ _
    refine zr_Vv (As := [.ref sz]) (rest := []) (q := (RC, TC, 14)) (mc := 0) (ms := 0) ⟨hx, hb, hml, hown, hz⟩ (kC_put l G B M3 _ x n mb z st.fl.length (st.se + 1) st.lo st.go st.pa hn hx0 (fun i => qs[i]?) hfl hxz hlt sz _ hq0) (zt_V zm_308 zm_310 zs_11 zm_1 zm_311) rfl rfl rfl (show _ ∧ _ ∧ _ ∧ _ = some 1 from by decide +kernel) ⟨Nat.le_of_ble_eq_true rfl, Nat.le_of_ble_eq_true rfl⟩ zE_blind (zE_at hE hS) hH hK hx0 rfl rfl hS hl.1 rfl (Nat.le_of_ble_eq_true rfl) dC_sendClock_38 ⟨Nat.le_of_ble_eq_true rfl, Nat.le_of_ble_eq_true rfl⟩ (fun M4 sz4 H4 L4 hp hH hz1 hz2 hS => ?_)
    have hM4 := (Prod.mk.inj hp).1
    have hsz : H4.size = sz + 1 := hz1.trans ((Prod.mk.inj hp).2.trans hsz)
    have hck : M4 (z + 1) = some (.inl (G.2.1 1, n, .inr (.inl (fun i => zck (st.lg i))))) := by rw [hM4, zw_un _ _ (by omega), zw_un _ _ (by omega)]; exact hck
    have hq0 : M4 sz = some (.inr (0, zoM (nI st.se) (nI j) (nI k) (nI (3 + n)) (zck (st.lg j)) G.2.2)) := by rw [hM4, zw_un _ _ (by omega), zw_un _ _ (by omega)]; exact hq0
    have hfl : M4 (z + 5 + 2 * n) = some (.inl (G.2.1 3, 120, .inr (.inr (.inr (.inr (va_up (fun i => qs[i]?) st.fl.length (some sz))))))) := by rw [hM4, zw_un _ _ (by omega)]; exact zw_us _ _ _
    have hx0 : M4 x = some (.inr (1, zoC n mb z (st.fl.length + 1) (st.se + 1) st.lo st.go st.pa)) := by rw [hM4]; exact zw_us _ _ _
    have hk : ∀ a : Nat, a ≠ x → a ≠ z + 5 + 2 * n → a ≠ sz → M4 a = M a := fun a h1 h2 h3 => by rw [hM4, zw_un _ _ h1, zw_un _ _ h2, hM3, zw_un _ _ h3, hM2, zw_un _ _ h3, hM1, zw_un _ _ h1]
    have hsnd : zsend st j k (3 + n) (some (zck (st.lg j))) [] = zSt.mk st.dn st.lg st.wt (st.fl ++ [zMg.mk st.se j k (3 + n) (some (zck (st.lg j))) []]) (st.se + 1) st.lo st.go st.pa := if_pos hlt
    refine W.widen (k := 1) (n := 6) (by omega) (by omega) ?_
    exact W.vret hx hb hr (fun t ht hW => ⟨⟨(M4, (sz + 1)), rfl, ⟨⟨qs ++ [sz], g, by rw [hsnd]; exact hR.put (mg := zMg.mk st.se j k (3 + n) (some (zck (st.lg j))) []) (q := sz) rfl rfl rfl rfl (by show M4 x = some (.inr (1, zoC n mb z (st.fl ++ [_]).length (st.se + 1) st.lo st.go st.pa)); rw [List.length_append]; exact hx0) hfl ⟨hL, hq0⟩ (fun a e h1 h2 h3 => (hk a h1 h2 (Nat.ne_of_lt (hlt0 a e h3))).trans h3)⟩, fun a h1 h2 h3 => hk a h1 (by omega) (by omega), by show sz ≤ sz + 1; omega⟩, by rw [ht]; exact hH, by rw [ht]; exact hsz⟩, hS.F ht⟩) hS.2.2 dC_sendClock_41

set_option maxHeartbeats 4000000 in
set_option maxRecDepth 100000 in
theorem kC_sendClock_no (l : Launch) (G : zG) (B : Nat) (M : zw_M) (sz : Nat) (x z L n mb : Nat) (st : zSt) (qs : List Nat) (g : Nat → Int32) (hn : n ≤ 8) (hR : zCR G M x z L n mb st qs g) (j k : Nat) (hlt : st.fl.length = 120) : Met l yC_sendClock (Cond.code yC_sendClock bC_sendClock 4 none :: zT) { frames := 2, cells := 1, slots := 6, locals := 40 } (zq G B M sz [.ref x, .int (nI j), .int (nI k)]) (va_Qv (fun (u : zw_M × Nat) => zCO G x z L n mb sz M (zsend st j k (3 + n) (some (zck (st.lg j))) []) u) (zr_o G.1 zCl B) (zw_A B)) (1) (6) (zw_A B) := by
  refine Met.ofW (cc := bC_sendClock) (maxL := 4) (ret := none) (by decide) rfl ?_
  intro p e s m args below meth c s₁ B0 hml hv
  obtain ⟨rfl, hE, hH, hsz⟩ := hv
  have hx := B0.exec
  have hb := B0.bytes
  have hr := B0.returns
  have hlocks := B0.notSynchronized
  have hz : ∀ w ∈ zT, w.before _ s = true := fun w h => atoms_spec (ws := Cond.code yC_sendClock bC_sendClock 4 none :: zT) B0.pre w (List.mem_cons_of_mem _ h)
  have hown : s.vm.findClass RC = some m.cls := findClass_of_methodNamed B0.named
  have hK := hE.1
  have hl := lv_entry ([.ref x, .int (nI j), .int (nI k)]) (n := 4) (Nat.le_of_ble_eq_true rfl)
  rw [lg_entry_eq]
  generalize (lg_sl ([.ref x, .int (nI j), .int (nI k)]) ++ List.replicate (4 - (lg_sl ([.ref x, .int (nI j), .int (nI k)])).length) Slot.unset).toArray = ls at hl ⊢
  have hl : lv_has ls 4 [(0, .ref x), (1, .int (nI j)), (2, .int (nI k))] := hl
  have hS : va_S (zw_A B) s.heap s.heap [] := va_S.rf
  have hin : meth.name = "sendClock" := (name_of_methodNamed B0.named B0.method).1
  have hx0 := hR.obj
  have hck := hR.ck
  have hfl := hR.fl
  have hxz := hR.xz
  have hzL := hR.zL
  refine lv_aload_n hx hb dC_sendClock_0 rfl (lv_at hl 0 rfl) ?_
  refine va_get (D := G.1) (ci := 1) (v := .int (nI st.se)) (C := RC) (T := TC) (N := 14) hx hb hz iC hown hK (hH.one hx0) 0 rfl rfl 10 (by decide) (hz _ zm_41) (fun _ h9 => h9) rfl dC_sendClock_1 ?_
  refine lv_istore_n (lv' := [(3, .int (nI st.se)), (0, .ref x), (1, .int (nI j)), (2, .int (nI k))]) hx hb dC_sendClock_4 rfl hl (by decide) rfl (fun ls hl => ?_)
  refine lv_aload_n hx hb dC_sendClock_5 rfl (lv_at hl 1 rfl) ?_
  refine zr_Vi (As := []) (rest := []) (q := (RC, TC, 14)) (mc := 0) (ms := 0) ⟨hx, hb, hml, hown, hz⟩ (kC_count_no l G B M _ x n mb z st.fl.length st.se st.lo st.go st.pa hn hx0 hlt) (zt_V zm_272 zm_274 zs_10 zm_1 zm_275) rfl rfl rfl (show _ ∧ _ ∧ _ ∧ _ = some 0 from by decide +kernel) ⟨Nat.le_of_ble_eq_true rfl, Nat.le_of_ble_eq_true rfl⟩ zE_blind (zE_at hE hS) hH hK hx0 rfl rfl hS hl.1 rfl (Nat.le_of_ble_eq_true rfl) dC_sendClock_6 ⟨Nat.le_of_ble_eq_true rfl, Nat.le_of_ble_eq_true rfl⟩ (fun r1 M1 sz1 H1 L1 hp hH hz1 hz2 hS => ?_)
  obtain ⟨rfl, hp⟩ := hp
  have hM1 := (Prod.mk.inj hp).1
  have hsz : H1.size = sz := hz1.trans ((Prod.mk.inj hp).2.trans hsz)
  have hck : M1 (z + 1) = some (.inl (G.2.1 1, n, .inr (.inl (fun i => zck (st.lg i))))) := by rw [hM1, zw_un _ _ (by omega)]; exact hck
  have hfl : M1 (z + 5 + 2 * n) = some (.inl (G.2.1 3, 120, .inr (.inr (.inr (.inr (fun i => qs[i]?)))))) := by rw [hM1, zw_un _ _ (by omega)]; exact hfl
  have hx0 : M1 x = some (.inr (1, zoC n mb z st.fl.length (st.se + 1) (st.lo + 1) st.go st.pa)) := by rw [hM1]; exact zw_us _ _ _
  refine zc_eq0 (tgt := 41) hx hb dC_sendClock_9 (by decide) (by omega) (fun c => ?_) (fun c => ?_)
  · have hk : ∀ a : Nat, a ≠ x → M1 a = M a := fun a h1 => by rw [hM1, zw_un _ _ h1]
    refine W.widen (k := 1) (n := 6) (by omega) (by omega) ?_
    exact W.vret hx hb hr (fun t ht hW => ⟨⟨(M1, sz), rfl, ⟨⟨qs, g, by unfold zsend; rw [if_neg (by omega)]; exact hR.cnt rfl rfl rfl rfl hx0 (fun a e h1 h3 => (hk a h1).trans h3)⟩, fun a h1 h2 h3 => hk a h1, Nat.le_refl _⟩, by rw [ht]; exact hH, by rw [ht]; exact hsz⟩, hS.F ht⟩) hS.2.2 dC_sendClock_41
  · exact absurd rfl c
end
section
/-! THE CLASS: Arrays.copyOf, sendGathered -/
set_option maxHeartbeats 4000000 in
set_option maxRecDepth 100000 in
theorem kA_copyOf_less (l : Launch) (G : zG) (B : Nat) (M : zw_M) (sz : Nat) (a N k : Nat) (f : Nat → Int32) (ha : M a = some (.inl (G.2.1 0, N, .inl f))) (hN : N ≤ 480) (hk : k < N) : Met l yA_copyOf (Cond.code yA_copyOf bA_copyOf 3 (some (.array .int)) :: zT) { frames := 1, cells := 1, slots := k, locals := 40 } (zq G B M sz [.ref a, .int (nI k)]) (va_Qr (fun _ => True) (fun (u : zw_M × Nat) (r : Nat) (t : State) => zr_o G.1 zCl B u t ∧ (sz ≤ r ∧ (∃ f2, u.1 r = some (.inl (G.2.1 0, k, .inl f2)) ∧ ∀ i, i < k → f2 i = f i) ∧ (∀ q : Nat, q < sz → u.1 q = M q) ∧ sz ≤ u.2)) (zw_A B)) (1) (k) (zw_A B) := by
  refine Met.ofW (cc := bA_copyOf) (maxL := 3) (ret := (some (.array .int))) (by decide) rfl ?_
  intro p e s m args below meth c s₁ B0 hml hv
  obtain ⟨rfl, hE, hH, hsz⟩ := hv
  have hx := B0.exec
  have hb := B0.bytes
  have hr := B0.returns
  have hlocks := B0.notSynchronized
  have hz : ∀ w ∈ zT, w.before _ s = true := fun w h => atoms_spec (ws := Cond.code yA_copyOf bA_copyOf 3 (some (.array .int)) :: zT) B0.pre w (List.mem_cons_of_mem _ h)
  have hown : s.vm.findClass RA = some m.cls := findClass_of_methodNamed B0.named
  have hK := hE.1
  have hl := lv_entry ([.ref a, .int (nI k)]) (n := 3) (Nat.le_of_ble_eq_true rfl)
  rw [lg_entry_eq]
  generalize (lg_sl ([.ref a, .int (nI k)]) ++ List.replicate (3 - (lg_sl ([.ref a, .int (nI k)])).length) Slot.unset).toArray = ls at hl ⊢
  have hl : lv_has ls 3 [(0, .ref a), (1, .int (nI k))] := hl
  have hS : va_S (zw_A B) s.heap s.heap [] := va_S.rf
  have hin : meth.name = "copyOf" := (name_of_methodNamed B0.named B0.method).1
  have hlt0 : ∀ (a : Nat) (e : va_E), M a = some e → a < sz := fun a e h => by rw [← hsz]; exact hH.lt h
  refine lv_iload_n hx hb dA_copyOf_0 rfl (lv_at hl 1 rfl) ?_
  refine lv_aload_n hx hb dA_copyOf_1 rfl (lv_at hl 0 rfl) ?_
  refine zw_alen hx hb hK hH 0 ha rfl dA_copyOf_2 ?_
  refine zw_ti (v' := nI N) rfl ?_
  refine zc_ne (tgt := 14) hx hb dA_copyOf_3 (by decide) (by omega) (by omega) (fun c => ?_) (fun c => ?_)
  · refine lv_iload_n hx hb dA_copyOf_14 rfl (lv_at hl 1 rfl) ?_
    refine zw_newa (atype := .int) (cA := G.2.1 0) (a0 := (k, .inl (fun _ => 0))) hx hb (hz _ zm_76) hK hH hS (Nat.le_trans hE.2.1 hS.1) 0 rfl rfl rfl (by omega) (Nat.le_of_ble_eq_true rfl) (by show 0 + k ≤ k; omega) dA_copyOf_15 (fun H1 hH hz1 hS => ?_)
    rw [hsz] at hH hz1 ⊢
    have hsz : H1.size = sz + 1 := hz1
    have hasz : a ≠ sz := Nat.ne_of_lt (hlt0 a _ ha)
    obtain ⟨M1, hM1⟩ : ∃ Mq, Mq = zw_u M sz (.inl (G.2.1 0, k, .inl (fun _ => 0))) := ⟨_, rfl⟩
    have hH : zw_H G.1 zCl B M1 H1 := by rw [hM1]; exact hH
    have ha : M1 a = some (.inl (G.2.1 0, N, .inl f)) := by rw [hM1, zw_un _ _ (hasz)]; exact ha
    have hd : M1 sz = some (.inl (G.2.1 0, k, .inl (fun _ => 0))) := by rw [hM1]; exact zw_us _ _ _
    refine lv_astore_n (lv' := [(2, .ref sz), (0, .ref a), (1, .int (nI k))]) hx hb dA_copyOf_17 rfl hl (by decide) rfl (fun ls hl => ?_)
    refine lv_aload_n hx hb dA_copyOf_18 rfl (lv_at hl 1 rfl) ?_
    refine lv_iconst (v := nI 0) hx hb dA_copyOf_19 (by decide) ?_
    refine lv_aload_n hx hb dA_copyOf_20 rfl (lv_at hl 0 rfl) ?_
    refine lv_iconst (v := nI 0) hx hb dA_copyOf_21 (by decide) ?_
    refine lv_aload_n hx hb dA_copyOf_22 rfl (lv_at hl 1 rfl) ?_
    refine zw_alen hx hb hK hH 0 ha rfl dA_copyOf_23 ?_
    refine zw_ti (v' := nI N) rfl ?_
    refine lv_iload_n hx hb dA_copyOf_24 rfl (lv_at hl 2 rfl) ?_
    refine va_mmin hx hb (by rw [hml]; exact hl.1.symm) hown (hz _ zm_344) (hz _ zm_22) (hz _ zm_2) (hz _ zm_23) (Nat.le_of_ble_eq_true rfl) (Nat.le_of_ble_eq_true rfl) (Nat.le_of_ble_eq_true rfl) (by show 0 + k ≤ k; omega) dA_copyOf_25 ?_
    refine zw_ti (if_pos (nI_lt hk (by omega))) ?_
    refine zw_copyi hx hb (by rw [hml]; exact hl.1.symm) hown (hz _ zm_345) (hz _ zm_347) (hz _ zm_346) (hz _ zm_12) hK hH hS 0 ha hd hasz rfl (by omega) (by omega) (Nat.le_refl _) (Nat.le_of_ble_eq_true rfl) (Nat.le_of_ble_eq_true rfl) dA_copyOf_28 (fun H2 L2 hH hz2 hS => ?_)
    obtain ⟨M2, hM2⟩ : ∃ Mq, Mq = zw_u M1 sz (.inl (G.2.1 0, k, .inl (va_cpy f (fun _ => 0) 0 0 k))) := ⟨_, rfl⟩
    rw [← hM2] at hH
    refine lv_aload_n hx hb dA_copyOf_31 rfl (lv_at hl 0 rfl) ?_
    refine W.widen (k := 1) (n := k) (by omega) (by omega) ?_
    exact W.aret (v := .ref sz) hx hb hr (Or.inr ⟨_, rfl⟩) (Or.inr ⟨_, rfl⟩) (fun t ht hW => ⟨⟨(M2, H2.size), _, rfl, trivial, ⟨by rw [ht]; exact hH, by rw [ht]⟩, ⟨Nat.le_refl _, ⟨_, by rw [hM2]; exact zw_us _ _ _, fun i hi => by show (if 0 ≤ i ∧ i < 0 + k then f (0 + (i - 0)) else _) = _; rw [if_pos (by omega)]; congr 1; omega⟩, fun q hq => by show M2 q = M q; rw [hM2, zw_un _ _ (by omega), hM1, zw_un _ _ (by omega)], by show sz ≤ H2.size; omega⟩⟩, hS.F ht⟩) hS.2.2 dA_copyOf_32
  · exact absurd c (by omega)

set_option maxHeartbeats 4000000 in
set_option maxRecDepth 100000 in
theorem kA_copyOf_all (l : Launch) (G : zG) (B : Nat) (M : zw_M) (sz : Nat) (a N k : Nat) (f : Nat → Int32) (ha : M a = some (.inl (G.2.1 0, N, .inl f))) (hN : N ≤ 480) (hk : k = N) : Met l yA_copyOf (Cond.code yA_copyOf bA_copyOf 3 (some (.array .int)) :: zT) { frames := 1, cells := 1, slots := k, locals := 40 } (zq G B M sz [.ref a, .int (nI k)]) (va_Qr (fun _ => True) (fun (u : zw_M × Nat) (r : Nat) (t : State) => zr_o G.1 zCl B u t ∧ (sz ≤ r ∧ (∃ f2, u.1 r = some (.inl (G.2.1 0, k, .inl f2)) ∧ ∀ i, i < k → f2 i = f i) ∧ (∀ q : Nat, q < sz → u.1 q = M q) ∧ sz ≤ u.2)) (zw_A B)) (1) (k) (zw_A B) := by
  refine Met.ofW (cc := bA_copyOf) (maxL := 3) (ret := (some (.array .int))) (by decide) rfl ?_
  intro p e s m args below meth c s₁ B0 hml hv
  obtain ⟨rfl, hE, hH, hsz⟩ := hv
  have hx := B0.exec
  have hb := B0.bytes
  have hr := B0.returns
  have hlocks := B0.notSynchronized
  have hz : ∀ w ∈ zT, w.before _ s = true := fun w h => atoms_spec (ws := Cond.code yA_copyOf bA_copyOf 3 (some (.array .int)) :: zT) B0.pre w (List.mem_cons_of_mem _ h)
  have hown : s.vm.findClass RA = some m.cls := findClass_of_methodNamed B0.named
  have hK := hE.1
  have hl := lv_entry ([.ref a, .int (nI k)]) (n := 3) (Nat.le_of_ble_eq_true rfl)
  rw [lg_entry_eq]
  generalize (lg_sl ([.ref a, .int (nI k)]) ++ List.replicate (3 - (lg_sl ([.ref a, .int (nI k)])).length) Slot.unset).toArray = ls at hl ⊢
  have hl : lv_has ls 3 [(0, .ref a), (1, .int (nI k))] := hl
  have hS : va_S (zw_A B) s.heap s.heap [] := va_S.rf
  have hin : meth.name = "copyOf" := (name_of_methodNamed B0.named B0.method).1
  have hlt0 : ∀ (a : Nat) (e : va_E), M a = some e → a < sz := fun a e h => by rw [← hsz]; exact hH.lt h
  subst hk
  refine lv_iload_n hx hb dA_copyOf_0 rfl (lv_at hl 1 rfl) ?_
  refine lv_aload_n hx hb dA_copyOf_1 rfl (lv_at hl 0 rfl) ?_
  refine zw_alen hx hb hK hH 0 ha rfl dA_copyOf_2 ?_
  refine zw_ti (v' := nI k) rfl ?_
  refine zc_ne (tgt := 14) hx hb dA_copyOf_3 (by decide) (by omega) (by omega) (fun c => ?_) (fun c => ?_)
  · exact absurd rfl c
  · refine lv_aload_n hx hb dA_copyOf_6 rfl (lv_at hl 0 rfl) ?_
    have hnm : s.vm.findClass "[I" = some (G.2.1 0) := (hK.2 0 _ rfl).2
    refine zw_clone (ad := "[I") hx hb (by rw [hml]; exact hl.1.symm) hown (hz _ zm_337) (va_tabs (by rfl) rfl (hE.2.2.2.2.1 _ (by decide +kernel))) (hz _ zm_339) (hz _ zm_340) (hz _ zm_341) (hE.2.2.2.2.1 _ (by decide +kernel)) hK hH hS (Nat.le_trans hE.2.1 hS.1) 0 ha rfl hnm (Nat.le_of_ble_eq_true rfl) (Nat.le_of_ble_eq_true rfl) (Nat.le_of_ble_eq_true rfl) (by show 0 + k ≤ k; omega) dA_copyOf_7 (fun q H1 hq hH hz2 hS => ?_)
    rw [hsz] at hq hz2
    obtain ⟨M1, hM1⟩ : ∃ Mq, Mq = zw_u M q (.inl (G.2.1 0, k, .inl f)) := ⟨_, rfl⟩
    rw [← hM1] at hH
    refine va_castA hx hb hown (hz _ zm_343) (hH.one (a := q) (by rw [hM1]; exact zw_us _ _ _)) 0 rfl hnm dA_copyOf_10 ?_
    refine W.widen (k := 1) (n := k) (by omega) (by omega) ?_
    exact W.aret (v := .ref q) hx hb hr (Or.inr ⟨_, rfl⟩) (Or.inr ⟨_, rfl⟩) (fun t ht hW => ⟨⟨(M1, H1.size), _, rfl, trivial, ⟨by rw [ht]; exact hH, by rw [ht]⟩, ⟨hq, ⟨_, by rw [hM1]; exact zw_us _ _ _, fun i hi => rfl⟩, fun q2 hq2 => by show M1 q2 = M q2; rw [hM1, zw_un _ _ (by omega)], by show sz ≤ H1.size; omega⟩⟩, hS.F ht⟩) hS.2.2 dA_copyOf_13

theorem kA_copyOf (l : Launch) (G : zG) (B : Nat) (M : zw_M) (sz : Nat) (a N k : Nat) (f : Nat → Int32) (ha : M a = some (.inl (G.2.1 0, N, .inl f))) (hN : N ≤ 480) (hk : k ≤ N) : Met l yA_copyOf (Cond.code yA_copyOf bA_copyOf 3 (some (.array .int)) :: zT) { frames := 1, cells := 1, slots := k, locals := 40 } (zq G B M sz [.ref a, .int (nI k)]) (va_Qr (fun _ => True) (fun (u : zw_M × Nat) (r : Nat) (t : State) => zr_o G.1 zCl B u t ∧ (sz ≤ r ∧ (∃ f2, u.1 r = some (.inl (G.2.1 0, k, .inl f2)) ∧ ∀ i, i < k → f2 i = f i) ∧ (∀ q : Nat, q < sz → u.1 q = M q) ∧ sz ≤ u.2)) (zw_A B)) (1) (k) (zw_A B) := by
  by_cases h : k = N
  · exact kA_copyOf_all l G B M sz a N k f ha hN h
  · exact kA_copyOf_less l G B M sz a N k f ha hN (by omega)
set_option maxHeartbeats 4000000 in
set_option maxRecDepth 100000 in
theorem kC_sendGathered_yes (l : Launch) (G : zG) (B : Nat) (M : zw_M) (sz : Nat) (x z L n mb : Nat) (st : zSt) (qs : List Nat) (g : Nat → Int32) (hn : n ≤ 8) (hR : zCR G M x z L n mb st qs g) (hL : L < sz) (j k by0 : Nat) (pt : List Nat) (hptl : pt.length ≤ n * 60) (hpt : ∀ i, i < pt.length → g i = nI (pt.getD i 0)) (hlt : st.fl.length < 120) : Met l yC_sendGathered (Cond.code yC_sendGathered bC_sendGathered 6 none :: zT) { frames := 2, cells := 2, slots := 6 + pt.length, locals := 70 } (zq G B M sz [.ref x, .int (nI j), .int (nI k), .int (nI by0), .int (nI pt.length)]) (va_Qv (fun (u : zw_M × Nat) => zCO G x z L n mb sz M (zsend st j k by0 none pt) u) (zr_o G.1 zCl B) (zw_A B)) (2) (6 + pt.length) (zw_A B) := by
  refine Met.ofW (cc := bC_sendGathered) (maxL := 6) (ret := none) (by decide) rfl ?_
  intro p e s m args below meth c s₁ B0 hml hv
  obtain ⟨rfl, hE, hH, hsz⟩ := hv
  have hx := B0.exec
  have hb := B0.bytes
  have hr := B0.returns
  have hlocks := B0.notSynchronized
  have hz : ∀ w ∈ zT, w.before _ s = true := fun w h => atoms_spec (ws := Cond.code yC_sendGathered bC_sendGathered 6 none :: zT) B0.pre w (List.mem_cons_of_mem _ h)
  have hown : s.vm.findClass RC = some m.cls := findClass_of_methodNamed B0.named
  have hK := hE.1
  have hl := lv_entry ([.ref x, .int (nI j), .int (nI k), .int (nI by0), .int (nI pt.length)]) (n := 6) (Nat.le_of_ble_eq_true rfl)
  rw [lg_entry_eq]
  generalize (lg_sl ([.ref x, .int (nI j), .int (nI k), .int (nI by0), .int (nI pt.length)]) ++ List.replicate (6 - (lg_sl ([.ref x, .int (nI j), .int (nI k), .int (nI by0), .int (nI pt.length)])).length) Slot.unset).toArray = ls at hl ⊢
  have hl : lv_has ls 6 [(0, .ref x), (1, .int (nI j)), (2, .int (nI k)), (3, .int (nI by0)), (4, .int (nI pt.length))] := hl
  have hS : va_S (zw_A B) s.heap s.heap [] := va_S.rf
  have hin : meth.name = "sendGathered" := (name_of_methodNamed B0.named B0.method).1
  have hlt0 : ∀ (a : Nat) (e : va_E), M a = some e → a < sz := fun a e h => by rw [← hsz]; exact hH.lt h
  have hx0 := hR.obj
  have hga := hR.ga
  have hfl := hR.fl
  have hxz := hR.xz
  have hzL := hR.zL
  refine lv_aload_n hx hb dC_sendGathered_0 rfl (lv_at hl 0 rfl) ?_
  refine va_get (D := G.1) (ci := 1) (v := .int (nI st.se)) (C := RC) (T := TC) (N := 14) hx hb hz iC hown hK (hH.one hx0) 0 rfl rfl 10 (by decide) (hz _ zm_41) (fun _ h9 => h9) rfl dC_sendGathered_1 ?_
  refine lv_istore (lv' := [(5, .int (nI st.se)), (0, .ref x), (1, .int (nI j)), (2, .int (nI k)), (3, .int (nI by0)), (4, .int (nI pt.length))]) hx hb dC_sendGathered_4 hl (by decide) rfl (fun ls hl => ?_)
  refine lv_aload_n hx hb dC_sendGathered_6 rfl (lv_at hl 1 rfl) ?_
  refine zr_Vi (As := []) (rest := []) (q := (RC, TC, 14)) (mc := 0) (ms := 0) ⟨hx, hb, hml, hown, hz⟩ (kC_count_yes l G B M _ x n mb z st.fl.length st.se st.lo st.go st.pa hn hx0 hlt) (zt_V zm_272 zm_274 zs_10 zm_1 zm_275) rfl rfl rfl (show _ ∧ _ ∧ _ ∧ _ = some 0 from by decide +kernel) ⟨Nat.le_of_ble_eq_true rfl, Nat.le_of_ble_eq_true rfl⟩ zE_blind (zE_at hE hS) hH hK hx0 rfl rfl hS hl.1 rfl (Nat.le_of_ble_eq_true rfl) dC_sendGathered_7 ⟨Nat.le_of_ble_eq_true rfl, Nat.zero_le _⟩ (fun r1 M1 sz1 H1 L1 hp hH hz1 hz2 hS => ?_)
  obtain ⟨rfl, hp⟩ := hp
  have hM1 := (Prod.mk.inj hp).1
  have hsz : H1.size = sz := hz1.trans ((Prod.mk.inj hp).2.trans hsz)
  have hga : M1 (z + 6 + 2 * n) = some (.inl (G.2.1 0, n * 60, .inl g)) := by rw [hM1, zw_un _ _ (by omega)]; exact hga
  have hfl : M1 (z + 5 + 2 * n) = some (.inl (G.2.1 3, 120, .inr (.inr (.inr (.inr (fun i => qs[i]?)))))) := by rw [hM1, zw_un _ _ (by omega)]; exact hfl
  have hx0 : M1 x = some (.inr (1, zoC n mb z st.fl.length (st.se + 1) st.lo st.go st.pa)) := by rw [hM1]; exact zw_us _ _ _
  refine zc_eq0 (tgt := 41) hx hb dC_sendGathered_10 (by decide) (by omega) (fun c => ?_) (fun c => ?_)
  · exact absurd c (by decide)
  · refine lv_aload_n hx hb dC_sendGathered_13 rfl (lv_at hl 1 rfl) ?_
    refine zw_new (D := G.1) (ci := 0) (fs := [.int 0, .int 0, .int 0, .int 0, .long 0, .null]) (C := RM) (T := TM) (N := 6) hx hb hz iM tM tM_ok hown (hz _ zm_29) (hz _ zm_276) (hz _ zm_10) hK hH hS (Nat.le_trans hE.2.1 hS.1) rfl zM_def (Nat.le_of_ble_eq_true rfl) (by show 0 + 6 ≤ 6 + pt.length; omega) dC_sendGathered_14 (fun H2 hH hz1 hS => ?_)
    rw [hsz] at hH hz1 ⊢
    have hsz : H2.size = sz + 1 := hz1
    obtain ⟨M2, hM2⟩ : ∃ Mq, Mq = zw_u M1 sz (.inr (0, [.int 0, .int 0, .int 0, .int 0, .long 0, .null])) := ⟨_, rfl⟩
    have hH : zw_H G.1 zCl B M2 H2 := by rw [hM2]; exact hH
    have hga : M2 (z + 6 + 2 * n) = some (.inl (G.2.1 0, n * 60, .inl g)) := by rw [hM2, zw_un _ _ (by omega)]; exact hga
    have hfl : M2 (z + 5 + 2 * n) = some (.inl (G.2.1 3, 120, .inr (.inr (.inr (.inr (fun i => qs[i]?)))))) := by rw [hM2, zw_un _ _ (by omega)]; exact hfl
    have hx0 : M2 x = some (.inr (1, zoC n mb z st.fl.length (st.se + 1) st.lo st.go st.pa)) := by rw [hM2, zw_un _ _ (by omega)]; exact hx0
    have hq0 : M2 sz = some (.inr (0, [.int 0, .int 0, .int 0, .int 0, .long 0, .null])) := by rw [hM2]; exact zw_us _ _ _
    refine lv_dup hx hb dC_sendGathered_17 rfl ?_
    refine lv_iload hx hb dC_sendGathered_18 (lv_at hl 0 rfl) ?_
    refine lv_iload_n hx hb dC_sendGathered_20 rfl (lv_at hl 2 rfl) ?_
    refine lv_iload_n hx hb dC_sendGathered_21 rfl (lv_at hl 3 rfl) ?_
    refine lv_iload_n hx hb dC_sendGathered_22 rfl (lv_at hl 4 rfl) ?_
    refine lv_ldc2 hx hb hown (hz _ zm_105) dC_sendGathered_23 ?_
    refine lv_aload_n hx hb dC_sendGathered_26 rfl (lv_at hl 1 rfl) ?_
    refine va_get (D := G.1) (ci := 1) (v := .ref (z + 6 + 2 * n)) (C := RC) (T := TC) (N := 14) hx hb hz iC hown hK (hH.one hx0) 0 rfl rfl 9 (by decide) (hz _ zm_40) (fun _ h9 => h9) rfl dC_sendGathered_27 ?_
    refine lv_iload hx hb dC_sendGathered_30 (lv_at hl 5 rfl) ?_
    refine zr_Sr (As := [.ref (z + 6 + 2 * n), .int (nI pt.length)]) (rest := [.long (-1), .int (nI by0), .int (nI k), .int (nI j), .int (nI st.se), .ref sz, .ref sz, .ref x]) (mc := 1) (ms := pt.length) ⟨hx, hb, hml, hown, hz⟩ (kA_copyOf l G B M2 _ (z + 6 + 2 * n) (n * 60) pt.length g hga (by omega) hptl) (zt_I zm_336) rfl rfl rfl (hz _ zm_11) (hz _ zm_334) (hz _ zm_335) (show _ ∧ _ ∧ _ = some 2 from by decide +kernel) ⟨Nat.le_of_ble_eq_true rfl, Nat.le_of_ble_eq_true rfl⟩ (Nat.le_of_ble_eq_true rfl) zE_blind (zE_at hE hS) hH hS hl.1 rfl (Nat.le_of_ble_eq_true rfl) dC_sendGathered_32 ⟨Nat.le_of_ble_eq_true rfl, by show 0 + 6 + pt.length ≤ 6 + pt.length; omega⟩ (fun ch M3 sz3 H3 L3 hp hH hz1 hz2 hS => ?_)
    rw [hsz] at hp
    obtain ⟨hch, ⟨f2, hf2, hf3⟩, hk3, hz3⟩ := hp
    have hk3 : ∀ q : Nat, q < sz + 1 → M3 q = M2 q := hk3
    have hz3 : sz + 1 ≤ H3.size := by rw [hz1]; exact hz3
    have hga : M3 (z + 6 + 2 * n) = some (.inl (G.2.1 0, n * 60, .inl g)) := (hk3 _ (by omega)).trans hga
    have hfl : M3 (z + 5 + 2 * n) = some (.inl (G.2.1 3, 120, .inr (.inr (.inr (.inr (fun i => qs[i]?)))))) := (hk3 _ (by omega)).trans hfl
    have hx0 : M3 x = some (.inr (1, zoC n mb z st.fl.length (st.se + 1) st.lo st.go st.pa)) := (hk3 _ (by omega)).trans hx0
    have hq0 : M3 sz = some (.inr (0, [.int 0, .int 0, .int 0, .int 0, .long 0, .null])) := (hk3 _ (by omega)).trans hq0
    refine zr_I (As := [.int (nI st.se), .int (nI j), .int (nI k), .int (nI by0), .long (-1), .ref ch]) (rest := [.ref sz, .ref x]) (mc := 0) (ms := 0) ⟨hx, hb, hml, hown, hz⟩ (kM_init l G B M3 _ sz (nI st.se) (nI j) (nI k) (nI by0) (-1) ch _ _ _ _ _ _ hq0) (zt_I zm_281) rfl rfl rfl (hz _ zm_10) (hz _ zm_279) (hz _ zm_280) rfl (show _ ∧ _ ∧ _ = some 6 from by decide +kernel) ⟨Nat.le_of_ble_eq_true rfl, Nat.le_of_ble_eq_true rfl⟩ zE_blind (zE_at hE hS) hH hS hl.1 rfl (Nat.le_of_ble_eq_true rfl) dC_sendGathered_35 ⟨Nat.le_of_ble_eq_true rfl, by show 0 + 6 + pt.length + 0 ≤ 6 + pt.length; omega⟩ (fun M4 sz4 H4 L4 hp hH hz1 hz2 hS => ?_)
    have hM4 := (Prod.mk.inj hp).1
    have hz4 : sz + 1 ≤ H4.size := by omega
    have hga : M4 (z + 6 + 2 * n) = some (.inl (G.2.1 0, n * 60, .inl g)) := by rw [hM4, zw_un _ _ (by omega)]; exact hga
    have hfl : M4 (z + 5 + 2 * n) = some (.inl (G.2.1 3, 120, .inr (.inr (.inr (.inr (fun i => qs[i]?)))))) := by rw [hM4, zw_un _ _ (by omega)]; exact hfl
    have hx0 : M4 x = some (.inr (1, zoC n mb z st.fl.length (st.se + 1) st.lo st.go st.pa)) := by rw [hM4, zw_un _ _ (by omega)]; exact hx0
    have hq0 : M4 sz = some (.inr (0, zoM (nI st.se) (nI j) (nI k) (nI by0) (-1) ch)) := by rw [hM4]; exact zw_us _ _ _
    refine zr_Vv (As := [.ref sz]) (rest := []) (q := (RC, TC, 14)) (mc := 0) (ms := 0) ⟨hx, hb, hml, hown, hz⟩ (kC_put l G B M4 _ x n mb z st.fl.length (st.se + 1) st.lo st.go st.pa hn hx0 (fun i => qs[i]?) hfl hxz hlt sz _ hq0) (zt_V zm_308 zm_310 zs_11 zm_1 zm_311) rfl rfl rfl (show _ ∧ _ ∧ _ ∧ _ = some 1 from by decide +kernel) ⟨Nat.le_of_ble_eq_true rfl, Nat.le_of_ble_eq_true rfl⟩ zE_blind (zE_at hE hS) hH hK hx0 rfl rfl hS hl.1 rfl (Nat.le_of_ble_eq_true rfl) dC_sendGathered_38 ⟨Nat.le_of_ble_eq_true rfl, by show 0 + 6 + pt.length + 0 + 0 ≤ 6 + pt.length; omega⟩ (fun M5 sz5 H5 L5 hp hH hz1 hz2 hS => ?_)
    have hM5 := (Prod.mk.inj hp).1
    have hz5 : sz + 1 ≤ H5.size := by omega
    have hq0 : M5 sz = some (.inr (0, zoM (nI st.se) (nI j) (nI k) (nI by0) (-1) ch)) := by rw [hM5, zw_un _ _ (by omega), zw_un _ _ (by omega)]; exact hq0
    have hfl : M5 (z + 5 + 2 * n) = some (.inl (G.2.1 3, 120, .inr (.inr (.inr (.inr (va_up (fun i => qs[i]?) st.fl.length (some sz))))))) := by rw [hM5, zw_un _ _ (by omega)]; exact zw_us _ _ _
    have hx0 : M5 x = some (.inr (1, zoC n mb z (st.fl.length + 1) (st.se + 1) st.lo st.go st.pa)) := by rw [hM5]; exact zw_us _ _ _
    have hf2 : M5 ch = some (.inl (G.2.1 0, pt.length, .inl f2)) := by rw [hM5, zw_un _ _ (by omega), zw_un _ _ (by omega), hM4, zw_un _ _ (by omega)]; exact hf2
    have hk : ∀ a : Nat, a ≠ x → a ≠ z + 5 + 2 * n → a < sz → M5 a = M a := fun a h1 h2 h3 => by rw [hM5, zw_un _ _ h1, zw_un _ _ h2, hM4, zw_un _ _ (by omega), hk3 a (by omega), hM2, zw_un _ _ (by omega), hM1, zw_un _ _ h1]
    have hsnd : zsend st j k by0 none pt = zSt.mk st.dn st.lg st.wt (st.fl ++ [zMg.mk st.se j k by0 none pt]) (st.se + 1) st.lo st.go st.pa := if_pos hlt
    refine W.widen (k := 2) (n := 6 + pt.length) (by omega) (by omega) ?_
    exact W.vret hx hb hr (fun t ht hW => ⟨⟨(M5, H5.size), rfl, ⟨⟨qs ++ [sz], g, by rw [hsnd]; exact hR.put (mg := zMg.mk st.se j k by0 none pt) (q := sz) rfl rfl rfl rfl (by show M5 x = some (.inr (1, zoC n mb z (st.fl ++ [_]).length (st.se + 1) st.lo st.go st.pa)); rw [List.length_append]; exact hx0) hfl ⟨hL, ch, f2, by omega, hq0, hf2, fun i hi => (hf3 i hi).trans (hpt i hi)⟩ (fun a e h1 h2 h3 => (hk a h1 h2 (hlt0 a e h3)).trans h3)⟩, fun a h1 h2 h3 => hk a h1 (by omega) h3, by show sz ≤ H5.size; omega⟩, by rw [ht]; exact hH, by rw [ht]⟩, hS.F ht⟩) hS.2.2 dC_sendGathered_41

set_option maxHeartbeats 4000000 in
set_option maxRecDepth 100000 in
theorem kC_sendGathered_no (l : Launch) (G : zG) (B : Nat) (M : zw_M) (sz : Nat) (x z L n mb : Nat) (st : zSt) (qs : List Nat) (g : Nat → Int32) (hn : n ≤ 8) (hR : zCR G M x z L n mb st qs g) (j k by0 : Nat) (pt : List Nat) (hlt : st.fl.length = 120) : Met l yC_sendGathered (Cond.code yC_sendGathered bC_sendGathered 6 none :: zT) { frames := 2, cells := 2, slots := 6 + pt.length, locals := 70 } (zq G B M sz [.ref x, .int (nI j), .int (nI k), .int (nI by0), .int (nI pt.length)]) (va_Qv (fun (u : zw_M × Nat) => zCO G x z L n mb sz M (zsend st j k by0 none pt) u) (zr_o G.1 zCl B) (zw_A B)) (2) (6 + pt.length) (zw_A B) := by
  refine Met.ofW (cc := bC_sendGathered) (maxL := 6) (ret := none) (by decide) rfl ?_
  intro p e s m args below meth c s₁ B0 hml hv
  obtain ⟨rfl, hE, hH, hsz⟩ := hv
  have hx := B0.exec
  have hb := B0.bytes
  have hr := B0.returns
  have hlocks := B0.notSynchronized
  have hz : ∀ w ∈ zT, w.before _ s = true := fun w h => atoms_spec (ws := Cond.code yC_sendGathered bC_sendGathered 6 none :: zT) B0.pre w (List.mem_cons_of_mem _ h)
  have hown : s.vm.findClass RC = some m.cls := findClass_of_methodNamed B0.named
  have hK := hE.1
  have hl := lv_entry ([.ref x, .int (nI j), .int (nI k), .int (nI by0), .int (nI pt.length)]) (n := 6) (Nat.le_of_ble_eq_true rfl)
  rw [lg_entry_eq]
  generalize (lg_sl ([.ref x, .int (nI j), .int (nI k), .int (nI by0), .int (nI pt.length)]) ++ List.replicate (6 - (lg_sl ([.ref x, .int (nI j), .int (nI k), .int (nI by0), .int (nI pt.length)])).length) Slot.unset).toArray = ls at hl ⊢
  have hl : lv_has ls 6 [(0, .ref x), (1, .int (nI j)), (2, .int (nI k)), (3, .int (nI by0)), (4, .int (nI pt.length))] := hl
  have hS : va_S (zw_A B) s.heap s.heap [] := va_S.rf
  have hin : meth.name = "sendGathered" := (name_of_methodNamed B0.named B0.method).1
  have hx0 := hR.obj
  have hck := hR.ck
  have hfl := hR.fl
  have hxz := hR.xz
  have hzL := hR.zL
  refine lv_aload_n hx hb dC_sendGathered_0 rfl (lv_at hl 0 rfl) ?_
  refine va_get (D := G.1) (ci := 1) (v := .int (nI st.se)) (C := RC) (T := TC) (N := 14) hx hb hz iC hown hK (hH.one hx0) 0 rfl rfl 10 (by decide) (hz _ zm_41) (fun _ h9 => h9) rfl dC_sendGathered_1 ?_
  refine lv_istore (lv' := [(5, .int (nI st.se)), (0, .ref x), (1, .int (nI j)), (2, .int (nI k)), (3, .int (nI by0)), (4, .int (nI pt.length))]) hx hb dC_sendGathered_4 hl (by decide) rfl (fun ls hl => ?_)
  refine lv_aload_n hx hb dC_sendGathered_6 rfl (lv_at hl 1 rfl) ?_
  refine zr_Vi (As := []) (rest := []) (q := (RC, TC, 14)) (mc := 0) (ms := 0) ⟨hx, hb, hml, hown, hz⟩ (kC_count_no l G B M _ x n mb z st.fl.length st.se st.lo st.go st.pa hn hx0 hlt) (zt_V zm_272 zm_274 zs_10 zm_1 zm_275) rfl rfl rfl (show _ ∧ _ ∧ _ ∧ _ = some 0 from by decide +kernel) ⟨Nat.le_of_ble_eq_true rfl, Nat.le_of_ble_eq_true rfl⟩ zE_blind (zE_at hE hS) hH hK hx0 rfl rfl hS hl.1 rfl (Nat.le_of_ble_eq_true rfl) dC_sendGathered_7 ⟨Nat.le_of_ble_eq_true rfl, Nat.zero_le _⟩ (fun r1 M1 sz1 H1 L1 hp hH hz1 hz2 hS => ?_)
  obtain ⟨rfl, hp⟩ := hp
  have hM1 := (Prod.mk.inj hp).1
  have hsz : H1.size = sz := hz1.trans ((Prod.mk.inj hp).2.trans hsz)
  have hck : M1 (z + 1) = some (.inl (G.2.1 1, n, .inr (.inl (fun i => zck (st.lg i))))) := by rw [hM1, zw_un _ _ (by omega)]; exact hck
  have hfl : M1 (z + 5 + 2 * n) = some (.inl (G.2.1 3, 120, .inr (.inr (.inr (.inr (fun i => qs[i]?)))))) := by rw [hM1, zw_un _ _ (by omega)]; exact hfl
  have hx0 : M1 x = some (.inr (1, zoC n mb z st.fl.length (st.se + 1) (st.lo + 1) st.go st.pa)) := by rw [hM1]; exact zw_us _ _ _
  refine zc_eq0 (tgt := 41) hx hb dC_sendGathered_10 (by decide) (by omega) (fun c => ?_) (fun c => ?_)
  · have hk : ∀ a : Nat, a ≠ x → M1 a = M a := fun a h1 => by rw [hM1, zw_un _ _ h1]
    refine W.widen (k := 2) (n := 6 + pt.length) (by omega) (by omega) ?_
    exact W.vret hx hb hr (fun t ht hW => ⟨⟨(M1, sz), rfl, ⟨⟨qs, g, by unfold zsend; rw [if_neg (by omega)]; exact hR.cnt rfl rfl rfl rfl hx0 (fun a e h1 h3 => (hk a h1).trans h3)⟩, fun a h1 h2 h3 => hk a h1, Nat.le_refl _⟩, by rw [ht]; exact hH, by rw [ht]; exact hsz⟩, hS.F ht⟩) hS.2.2 dC_sendGathered_41
  · exact absurd rfl c
end
section
/-! THE CLASS: lose, up, tick -/
theorem kC_sendClock (l : Launch) (G : zG) (B : Nat) (M : zw_M) (sz : Nat) (x z L n mb : Nat) (st : zSt) (qs : List Nat) (g : Nat → Int32) (hn : n ≤ 8) (hR : zCR G M x z L n mb st qs g) (hL : L < sz) (j k : Nat) (hj : j < n) (h120 : st.fl.length ≤ 120) : Met l yC_sendClock (Cond.code yC_sendClock bC_sendClock 4 none :: zT) { frames := 2, cells := 1, slots := 6, locals := 40 } (zq G B M sz [.ref x, .int (nI j), .int (nI k)]) (va_Qv (fun (u : zw_M × Nat) => zCO G x z L n mb sz M (zsend st j k (3 + n) (some (zck (st.lg j))) []) u) (zr_o G.1 zCl B) (zw_A B)) (1) (6) (zw_A B) := by
  by_cases h : st.fl.length < 120
  · exact kC_sendClock_yes l G B M sz x z L n mb st qs g hn hR hL j k hj h
  · exact kC_sendClock_no l G B M sz x z L n mb st qs g hn hR j k (by omega)
theorem kC_sendGathered (l : Launch) (G : zG) (B : Nat) (M : zw_M) (sz : Nat) (x z L n mb : Nat) (st : zSt) (qs : List Nat) (g : Nat → Int32) (hn : n ≤ 8) (hR : zCR G M x z L n mb st qs g) (hL : L < sz) (j k by0 : Nat) (pt : List Nat) (hptl : pt.length ≤ n * 60) (hpt : ∀ i, i < pt.length → g i = nI (pt.getD i 0)) (h120 : st.fl.length ≤ 120) : Met l yC_sendGathered (Cond.code yC_sendGathered bC_sendGathered 6 none :: zT) { frames := 2, cells := 2, slots := 6 + pt.length, locals := 70 } (zq G B M sz [.ref x, .int (nI j), .int (nI k), .int (nI by0), .int (nI pt.length)]) (va_Qv (fun (u : zw_M × Nat) => zCO G x z L n mb sz M (zsend st j k by0 none pt) u) (zr_o G.1 zCl B) (zw_A B)) (2) (6 + pt.length) (zw_A B) := by
  by_cases h : st.fl.length < 120
  · exact kC_sendGathered_yes l G B M sz x z L n mb st qs g hn hR hL j k by0 pt hptl hpt h
  · exact kC_sendGathered_no l G B M sz x z L n mb st qs g hn hR j k by0 pt (by omega)
set_option maxHeartbeats 4000000 in
set_option maxRecDepth 100000 in
theorem kC_lose_in (l : Launch) (G : zG) (B : Nat) (M : zw_M) (sz : Nat) (x z L n mb : Nat) (st : zSt) (qs : List Nat) (g : Nat → Int32) (hn : n ≤ 8) (hR : zCR G M x z L n mb st qs g) (h120 : st.fl.length ≤ 120) (j : Nat) (hj : j < st.fl.length) : Met l yC_lose (Cond.code yC_lose bC_lose 2 (some .boolean) :: zT) { frames := 1, cells := 0, slots := 0, locals := 22 } (zq G B M sz [.ref x, .int (nI j)]) (va_Qi (fun (r : Int32) (u : zw_M × Nat) => r = nI 1 ∧ zCO G x z L n mb sz M (zlost (zdrop st j)) u) (zr_o G.1 zCl B) (zw_A B)) (0) (0) (zw_A B) := by
  refine Met.ofW (cc := bC_lose) (maxL := 2) (ret := (some .boolean)) (by decide) rfl ?_
  intro p e s m args below meth c s₁ B0 hml hv
  obtain ⟨rfl, hE, hH, hsz⟩ := hv
  have hx := B0.exec
  have hb := B0.bytes
  have hr := B0.returns
  have hlocks := B0.notSynchronized
  have hz : ∀ w ∈ zT, w.before _ s = true := fun w h => atoms_spec (ws := Cond.code yC_lose bC_lose 2 (some .boolean) :: zT) B0.pre w (List.mem_cons_of_mem _ h)
  have hown : s.vm.findClass RC = some m.cls := findClass_of_methodNamed B0.named
  have hK := hE.1
  have hl := lv_entry ([.ref x, .int (nI j)]) (n := 2) (Nat.le_of_ble_eq_true rfl)
  rw [lg_entry_eq]
  generalize (lg_sl ([.ref x, .int (nI j)]) ++ List.replicate (2 - (lg_sl ([.ref x, .int (nI j)])).length) Slot.unset).toArray = ls at hl ⊢
  have hl : lv_has ls 2 [(0, .ref x), (1, .int (nI j))] := hl
  have hS : va_S (zw_A B) s.heap s.heap [] := va_S.rf
  have hin : meth.name = "lose" := (name_of_methodNamed B0.named B0.method).1
  obtain ⟨q, mg, hq, -, hmg⟩ := hR.at hj
  have hx0 := hR.obj
  have hfl := hR.fl
  have hxz := hR.xz
  have hzL := hR.zL
  refine lv_aload_n hx hb dC_lose_0 rfl (lv_at hl 0 rfl) ?_
  refine lv_iload_n hx hb dC_lose_1 rfl (lv_at hl 1 rfl) ?_
  refine zr_V (As := [.int (nI j)]) (rest := []) (q := (RC, TC, 14)) ⟨hx, hb, hml, hown, hz⟩ (kC_messageAt_in l G B M x n mb z st.fl.length st.se st.lo st.go st.pa hn hx0 (fun i => qs[i]?) hfl (by omega) j q hj hq) (zt_V zm_81 zm_83 zs_0 zm_1 zm_84) rfl rfl rfl (show _ ∧ _ ∧ _ ∧ _ = some 1 from by decide +kernel) ⟨Nat.le_of_ble_eq_true rfl, Nat.le_of_ble_eq_true rfl⟩ zE_blind (zE_at hE hS) hH hK hx0 rfl rfl hl.1 rfl (Nat.le_of_ble_eq_true rfl) dC_lose_2 ⟨Nat.le_of_ble_eq_true rfl, Nat.le_of_ble_eq_true rfl⟩ ?_
  refine lv_ifnonnull (tgt := 10) hx hb dC_lose_5 (by decide) ?_
  refine lv_aload_n hx hb dC_lose_10 rfl (lv_at hl 0 rfl) ?_
  refine lv_iload_n hx hb dC_lose_11 rfl (lv_at hl 1 rfl) ?_
  refine zr_Vv (As := [.int (nI j)]) (rest := []) (q := (RC, TC, 14)) (mc := 0) (ms := 0) ⟨hx, hb, hml, hown, hz⟩ (kC_takeOut l G B M _ x z L n mb st qs g hn hR (by omega) j hj) (zt_V zm_85 zm_87 zs_1 zm_1 zm_88) rfl rfl rfl (show _ ∧ _ ∧ _ ∧ _ = some 1 from by decide +kernel) ⟨Nat.le_of_ble_eq_true rfl, Nat.le_of_ble_eq_true rfl⟩ zE_blind (zE_at hE hS) hH hK hx0 rfl rfl hS hl.1 rfl (Nat.le_of_ble_eq_true rfl) dC_lose_12 ⟨Nat.le_of_ble_eq_true rfl, Nat.le_of_ble_eq_true rfl⟩ (fun M1 sz1 H1 L1 hp hH hz1 hz2 hS => ?_)
  rw [hsz] at hp
  obtain ⟨hR1, hk1, hz3⟩ := hp
  have hsz : H1.size = sz := hz1.trans hz3
  have hx0 := hR1.obj
  have hxz := hR1.xz
  have hzL := hR1.zL
  refine lv_aload_n hx hb dC_lose_15 rfl (lv_at hl 0 rfl) ?_
  refine lv_dup hx hb dC_lose_16 rfl ?_
  refine va_get (D := G.1) (ci := 1) (v := .int (nI ((zdrop st j).lo))) (C := RC) (T := TC) (N := 14) hx hb hz iC hown hK (hH.one hx0) 0 rfl rfl 11 (by decide) (hz _ zm_42) (fun _ h9 => h9) rfl dC_lose_17 ?_
  refine lv_iconst (v := nI 1) hx hb dC_lose_20 (by decide) ?_
  refine lv_iadd hx hb dC_lose_21 ?_
  refine zw_ti (nI_add _ _) ?_
  refine zw_put (D := G.1) (ci := 1) (v := .int (nI (((zdrop st j).lo) + 1))) (ty := .int) (C := RC) (T := TC) (N := 14) hx hb hz iC tC tC_ok nC hown hK hH hS hx0 rfl 11 (by decide) (hz _ zm_42) (fun _ h9 => h9) rfl (by decide +kernel) rfl rfl (Nat.le_of_ble_eq_true rfl) dC_lose_22 (fun H2 L2 hH hz1 hS => ?_)
  have hsz : H2.size = sz := hz1.trans hsz
  obtain ⟨M2, hM2⟩ : ∃ Mq, Mq = zw_u M1 x (.inr (1, zoC n mb z ((zdrop st j).fl.length) ((zdrop st j).se) (((zdrop st j).lo) + 1) ((zdrop st j).go) ((zdrop st j).pa))) := ⟨_, rfl⟩
  have hH : zw_H G.1 zCl B M2 H2 := by rw [hM2]; exact hH
  have hx0 : M2 x = some (.inr (1, zoC n mb z ((zdrop st j).fl.length) ((zdrop st j).se) (((zdrop st j).lo) + 1) ((zdrop st j).go) ((zdrop st j).pa))) := by rw [hM2]; exact zw_us _ _ _
  refine lv_iconst (v := nI 1) hx hb dC_lose_25 (by decide) ?_
  have hk : ∀ a : Nat, a ≠ x → M2 a = M1 a := fun a h1 => by rw [hM2, zw_un _ _ h1]
  exact W.zret (v := (nI 1)) (ty := .boolean) hx hb hr rfl (fun t ht hW => ⟨⟨(nI 1), (M2, sz), rfl, ⟨rfl, ⟨_, _, hR1.cnt (st' := zlost (zdrop st j)) rfl rfl rfl rfl hx0 (fun a e h1 h2 => (hk a h1).trans h2)⟩, fun a h1 h2 h3 => (hk a h1).trans (hk1 a h1 (by omega)), Nat.le_refl _⟩, by rw [ht]; exact hH, by rw [ht]; exact hsz⟩, hS.F ht⟩) hS.2.2 dC_lose_26

set_option maxHeartbeats 4000000 in
set_option maxRecDepth 100000 in
theorem kC_lose_out (l : Launch) (G : zG) (B : Nat) (M : zw_M) (sz : Nat) (x z L n mb : Nat) (st : zSt) (qs : List Nat) (g : Nat → Int32) (hn : n ≤ 8) (hR : zCR G M x z L n mb st qs g) (a : Int32) (ha : a < 0 ∨ nI st.fl.length ≤ a) : Met l yC_lose (Cond.code yC_lose bC_lose 2 (some .boolean) :: zT) { frames := 1, cells := 0, slots := 0, locals := 22 } (zq G B M sz [.ref x, .int a]) (va_Qi (fun (r : Int32) (u : zw_M × Nat) => r = nI 0 ∧ u = (M, sz)) (zr_o G.1 zCl B) (zw_A B)) (0) (0) (zw_A B) := by
  refine Met.ofW (cc := bC_lose) (maxL := 2) (ret := (some .boolean)) (by decide) rfl ?_
  intro p e s m args below meth c s₁ B0 hml hv
  obtain ⟨rfl, hE, hH, hsz⟩ := hv
  have hx := B0.exec
  have hb := B0.bytes
  have hr := B0.returns
  have hlocks := B0.notSynchronized
  have hz : ∀ w ∈ zT, w.before _ s = true := fun w h => atoms_spec (ws := Cond.code yC_lose bC_lose 2 (some .boolean) :: zT) B0.pre w (List.mem_cons_of_mem _ h)
  have hown : s.vm.findClass RC = some m.cls := findClass_of_methodNamed B0.named
  have hK := hE.1
  have hl := lv_entry ([.ref x, .int a]) (n := 2) (Nat.le_of_ble_eq_true rfl)
  rw [lg_entry_eq]
  generalize (lg_sl ([.ref x, .int a]) ++ List.replicate (2 - (lg_sl ([.ref x, .int a])).length) Slot.unset).toArray = ls at hl ⊢
  have hl : lv_has ls 2 [(0, .ref x), (1, .int a)] := hl
  have hS : va_S (zw_A B) s.heap s.heap [] := va_S.rf
  have hin : meth.name = "lose" := (name_of_methodNamed B0.named B0.method).1
  have hx0 := hR.obj
  have hxz := hR.xz
  have hzL := hR.zL
  refine lv_aload_n hx hb dC_lose_0 rfl (lv_at hl 0 rfl) ?_
  refine lv_iload_n hx hb dC_lose_1 rfl (lv_at hl 1 rfl) ?_
  refine zr_V (As := [.int a]) (rest := []) (q := (RC, TC, 14)) ⟨hx, hb, hml, hown, hz⟩ (kC_messageAt_out l G B M x n mb z st.fl.length st.se st.lo st.go st.pa hn hx0 a ha) (zt_V zm_81 zm_83 zs_0 zm_1 zm_84) rfl rfl rfl (show _ ∧ _ ∧ _ ∧ _ = some 1 from by decide +kernel) ⟨Nat.le_of_ble_eq_true rfl, Nat.le_of_ble_eq_true rfl⟩ zE_blind (zE_at hE hS) hH hK hx0 rfl rfl hl.1 rfl (Nat.le_of_ble_eq_true rfl) dC_lose_2 ⟨Nat.le_of_ble_eq_true rfl, Nat.le_of_ble_eq_true rfl⟩ ?_
  refine lv_ifnonnullN hx hb dC_lose_5 ?_
  refine lv_iconst (v := nI 0) hx hb dC_lose_8 (by decide) ?_
  exact W.zret (v := (nI 0)) (ty := .boolean) hx hb hr rfl (fun t ht hW => ⟨⟨(nI 0), (M, sz), rfl, ⟨rfl, rfl⟩, by rw [ht]; exact hH, by rw [ht]; exact hsz⟩, hS.F ht⟩) hS.2.2 dC_lose_9

theorem zbool (b : Bool) : b.toNat < 2 := by cases b <;> decide
theorem zbool_eq {a b : Bool} (h : a.toNat = b.toNat) : a = b := by cases a <;> cases b <;> first | rfl | cases h
set_option maxHeartbeats 4000000 in
set_option maxRecDepth 100000 in
theorem kC_up_yes (l : Launch) (G : zG) (B : Nat) (M : zw_M) (sz : Nat) (x z L n mb : Nat) (st : zSt) (qs : List Nat) (g : Nat → Int32) (hn : n ≤ 8) (hR : zCR G M x z L n mb st qs g) (j : Nat) (hj : j < n) (bo : Bool) (hd : st.dn j = bo) : Met l yC_up (Cond.code yC_up bC_up 3 (some .boolean) :: zT) { frames := 1, cells := 0, slots := 0, locals := 22 } (zq G B M sz [.ref x, .int (nI j), .int (nI bo.toNat)]) (va_Qi (fun (r : Int32) (u : zw_M × Nat) => r = nI 1 ∧ zCO G x z L n mb sz M (zup st j (!bo)) u) (zr_o G.1 zCl B) (zw_A B)) (0) (0) (zw_A B) := by
  refine Met.ofW (cc := bC_up) (maxL := 3) (ret := (some .boolean)) (by decide) rfl ?_
  intro p e s m args below meth c s₁ B0 hml hv
  obtain ⟨rfl, hE, hH, hsz⟩ := hv
  have hx := B0.exec
  have hb := B0.bytes
  have hr := B0.returns
  have hlocks := B0.notSynchronized
  have hz : ∀ w ∈ zT, w.before _ s = true := fun w h => atoms_spec (ws := Cond.code yC_up bC_up 3 (some .boolean) :: zT) B0.pre w (List.mem_cons_of_mem _ h)
  have hown : s.vm.findClass RC = some m.cls := findClass_of_methodNamed B0.named
  have hK := hE.1
  have hl := lv_entry ([.ref x, .int (nI j), .int (nI bo.toNat)]) (n := 3) (Nat.le_of_ble_eq_true rfl)
  rw [lg_entry_eq]
  generalize (lg_sl ([.ref x, .int (nI j), .int (nI bo.toNat)]) ++ List.replicate (3 - (lg_sl ([.ref x, .int (nI j), .int (nI bo.toNat)])).length) Slot.unset).toArray = ls at hl ⊢
  have hl : lv_has ls 3 [(0, .ref x), (1, .int (nI j)), (2, .int (nI bo.toNat))] := hl
  have hS : va_S (zw_A B) s.heap s.heap [] := va_S.rf
  have hin : meth.name = "up" := (name_of_methodNamed B0.named B0.method).1
  have hb1 := zbool (st.dn j)
  have hb2 := zbool bo
  have hx0 := hR.obj
  have hdn := hR.dn
  have hxz := hR.xz
  have hzL := hR.zL
  refine lv_aload_n hx hb dC_up_0 rfl (lv_at hl 0 rfl) ?_
  refine lv_iload_n hx hb dC_up_1 rfl (lv_at hl 1 rfl) ?_
  refine zr_V (As := [.int (nI j)]) (rest := []) (q := (RC, TC, 14)) ⟨hx, hb, hml, hown, hz⟩ (kC_isReplica_in l G B M x n mb z st.fl.length st.se st.lo st.go st.pa hn hx0 j hj) (zt_V zm_93 zm_95 zs_2 zm_1 zm_96) rfl rfl rfl (show _ ∧ _ ∧ _ ∧ _ = some 1 from by decide +kernel) ⟨Nat.le_of_ble_eq_true rfl, Nat.le_of_ble_eq_true rfl⟩ zE_blind (zE_at hE hS) hH hK hx0 rfl rfl hl.1 rfl (Nat.le_of_ble_eq_true rfl) dC_up_2 ⟨Nat.le_of_ble_eq_true rfl, Nat.le_of_ble_eq_true rfl⟩ ?_
  refine zc_eq0 (tgt := 18) hx hb dC_up_5 (by decide) (by omega) (fun c => ?_) (fun c => ?_)
  · exact absurd c (by decide)
  · refine lv_aload_n hx hb dC_up_8 rfl (lv_at hl 0 rfl) ?_
    refine va_get (D := G.1) (ci := 1) (v := .ref z) (C := RC) (T := TC) (N := 14) hx hb hz iC hown hK (hH.one hx0) 0 rfl rfl 2 (by decide) (hz _ zm_33) (fun _ h9 => h9) rfl dC_up_9 ?_
    refine lv_iload_n hx hb dC_up_12 rfl (lv_at hl 1 rfl) ?_
    refine zw_zald hx hb hK hH 2 hdn rfl (j) rfl (hj) (by omega) dC_up_13 ?_
    refine lv_iload_n hx hb dC_up_14 rfl (lv_at hl 2 rfl) ?_
    refine zc_eq (tgt := 20) hx hb dC_up_15 (by decide) (by omega) (by omega) (fun c2 => ?_) (fun c2 => ?_)
    · refine lv_aload_n hx hb dC_up_20 rfl (lv_at hl 0 rfl) ?_
      refine va_get (D := G.1) (ci := 1) (v := .ref z) (C := RC) (T := TC) (N := 14) hx hb hz iC hown hK (hH.one hx0) 0 rfl rfl 2 (by decide) (hz _ zm_33) (fun _ h9 => h9) rfl dC_up_21 ?_
      refine lv_iload_n hx hb dC_up_24 rfl (lv_at hl 1 rfl) ?_
      refine lv_iload_n hx hb dC_up_25 rfl (lv_at hl 2 rfl) ?_
      refine zc_ne0 (tgt := 33) hx hb dC_up_26 (by decide) (by omega) (fun c3 => ?_) (fun c3 => ?_)
      · refine lv_iconst (v := nI 0) hx hb dC_up_33 (by decide) ?_
        refine zw_zast hx hb hK hH hS 2 hdn rfl rfl (j) rfl (hj) (by omega) dC_up_34 (fun H1 L1 hH hz1 hS => ?_)
        have hsz : H1.size = sz := hz1.trans hsz
        obtain ⟨M1, hM1⟩ : ∃ Mq, Mq = zw_u M z (.inl (G.2.1 2, n, .inl (upd (fun i => nI (st.dn i).toNat) j (nI 0)))) := ⟨_, rfl⟩
        have hH : zw_H G.1 zCl B M1 H1 := by rw [hM1]; exact hH
        have hx0 : M1 x = some (.inr (1, zoC n mb z st.fl.length st.se st.lo st.go st.pa)) := by rw [hM1, zw_un _ _ (by omega)]; exact hx0
        have hdn : M1 z = some (.inl (G.2.1 2, n, .inl (upd (fun i => nI (st.dn i).toNat) j (nI 0)))) := by rw [hM1]; exact zw_us _ _ _
        refine lv_iconst (v := nI 1) hx hb dC_up_35 (by decide) ?_
        have hk : ∀ a : Nat, a ≠ z → M1 a = M a := fun a h1 => by rw [hM1, zw_un _ _ h1]
        exact W.zret (v := (nI 1)) (ty := .boolean) hx hb hr rfl (fun t ht hW => ⟨⟨(nI 1), (M1, sz), rfl, ⟨rfl, ⟨qs, g, hR.updn (r := j) (b := !bo) (fun a e h1 h2 => (hk a h1).trans h2) (by rw [show (!bo) = false from by cases bo <;> first | rfl | exact absurd c3 (by decide)]; exact hdn)⟩, fun a h1 h2 h3 => hk a (by omega), Nat.le_refl _⟩, by rw [ht]; exact hH, by rw [ht]; exact hsz⟩, hS.F ht⟩) hS.2.2 dC_up_36
      · refine lv_iconst (v := nI 1) hx hb dC_up_29 (by decide) ?_
        refine lv_goto (tgt := 34) hx hb dC_up_30 (by decide) ?_
        refine zw_zast hx hb hK hH hS 2 hdn rfl rfl (j) rfl (hj) (by omega) dC_up_34 (fun H1 L1 hH hz1 hS => ?_)
        have hsz : H1.size = sz := hz1.trans hsz
        obtain ⟨M1, hM1⟩ : ∃ Mq, Mq = zw_u M z (.inl (G.2.1 2, n, .inl (upd (fun i => nI (st.dn i).toNat) j (nI 1)))) := ⟨_, rfl⟩
        have hH : zw_H G.1 zCl B M1 H1 := by rw [hM1]; exact hH
        have hx0 : M1 x = some (.inr (1, zoC n mb z st.fl.length st.se st.lo st.go st.pa)) := by rw [hM1, zw_un _ _ (by omega)]; exact hx0
        have hdn : M1 z = some (.inl (G.2.1 2, n, .inl (upd (fun i => nI (st.dn i).toNat) j (nI 1)))) := by rw [hM1]; exact zw_us _ _ _
        refine lv_iconst (v := nI 1) hx hb dC_up_35 (by decide) ?_
        have hk : ∀ a : Nat, a ≠ z → M1 a = M a := fun a h1 => by rw [hM1, zw_un _ _ h1]
        exact W.zret (v := (nI 1)) (ty := .boolean) hx hb hr rfl (fun t ht hW => ⟨⟨(nI 1), (M1, sz), rfl, ⟨rfl, ⟨qs, g, hR.updn (r := j) (b := !bo) (fun a e h1 h2 => (hk a h1).trans h2) (by rw [show (!bo) = true from by cases bo <;> first | rfl | exact absurd c3 (by decide)]; exact hdn)⟩, fun a h1 h2 h3 => hk a (by omega), Nat.le_refl _⟩, by rw [ht]; exact hH, by rw [ht]; exact hsz⟩, hS.F ht⟩) hS.2.2 dC_up_36
    · exact absurd (congrArg Bool.toNat hd) c2

set_option maxHeartbeats 4000000 in
set_option maxRecDepth 100000 in
theorem kC_up_no (l : Launch) (G : zG) (B : Nat) (M : zw_M) (sz : Nat) (x z L n mb : Nat) (st : zSt) (qs : List Nat) (g : Nat → Int32) (hn : n ≤ 8) (hR : zCR G M x z L n mb st qs g) (j : Nat) (hj : j < n) (bo : Bool) (hd : st.dn j ≠ bo) : Met l yC_up (Cond.code yC_up bC_up 3 (some .boolean) :: zT) { frames := 1, cells := 0, slots := 0, locals := 22 } (zq G B M sz [.ref x, .int (nI j), .int (nI bo.toNat)]) (va_Qi (fun (r : Int32) (u : zw_M × Nat) => r = nI 0 ∧ u = (M, sz)) (zr_o G.1 zCl B) (zw_A B)) (0) (0) (zw_A B) := by
  refine Met.ofW (cc := bC_up) (maxL := 3) (ret := (some .boolean)) (by decide) rfl ?_
  intro p e s m args below meth c s₁ B0 hml hv
  obtain ⟨rfl, hE, hH, hsz⟩ := hv
  have hx := B0.exec
  have hb := B0.bytes
  have hr := B0.returns
  have hlocks := B0.notSynchronized
  have hz : ∀ w ∈ zT, w.before _ s = true := fun w h => atoms_spec (ws := Cond.code yC_up bC_up 3 (some .boolean) :: zT) B0.pre w (List.mem_cons_of_mem _ h)
  have hown : s.vm.findClass RC = some m.cls := findClass_of_methodNamed B0.named
  have hK := hE.1
  have hl := lv_entry ([.ref x, .int (nI j), .int (nI bo.toNat)]) (n := 3) (Nat.le_of_ble_eq_true rfl)
  rw [lg_entry_eq]
  generalize (lg_sl ([.ref x, .int (nI j), .int (nI bo.toNat)]) ++ List.replicate (3 - (lg_sl ([.ref x, .int (nI j), .int (nI bo.toNat)])).length) Slot.unset).toArray = ls at hl ⊢
  have hl : lv_has ls 3 [(0, .ref x), (1, .int (nI j)), (2, .int (nI bo.toNat))] := hl
  have hS : va_S (zw_A B) s.heap s.heap [] := va_S.rf
  have hin : meth.name = "up" := (name_of_methodNamed B0.named B0.method).1
  have hb1 := zbool (st.dn j)
  have hb2 := zbool bo
  have hx0 := hR.obj
  have hdn := hR.dn
  have hxz := hR.xz
  have hzL := hR.zL
  refine lv_aload_n hx hb dC_up_0 rfl (lv_at hl 0 rfl) ?_
  refine lv_iload_n hx hb dC_up_1 rfl (lv_at hl 1 rfl) ?_
  refine zr_V (As := [.int (nI j)]) (rest := []) (q := (RC, TC, 14)) ⟨hx, hb, hml, hown, hz⟩ (kC_isReplica_in l G B M x n mb z st.fl.length st.se st.lo st.go st.pa hn hx0 j hj) (zt_V zm_93 zm_95 zs_2 zm_1 zm_96) rfl rfl rfl (show _ ∧ _ ∧ _ ∧ _ = some 1 from by decide +kernel) ⟨Nat.le_of_ble_eq_true rfl, Nat.le_of_ble_eq_true rfl⟩ zE_blind (zE_at hE hS) hH hK hx0 rfl rfl hl.1 rfl (Nat.le_of_ble_eq_true rfl) dC_up_2 ⟨Nat.le_of_ble_eq_true rfl, Nat.le_of_ble_eq_true rfl⟩ ?_
  refine zc_eq0 (tgt := 18) hx hb dC_up_5 (by decide) (by omega) (fun c => ?_) (fun c => ?_)
  · exact absurd c (by decide)
  · refine lv_aload_n hx hb dC_up_8 rfl (lv_at hl 0 rfl) ?_
    refine va_get (D := G.1) (ci := 1) (v := .ref z) (C := RC) (T := TC) (N := 14) hx hb hz iC hown hK (hH.one hx0) 0 rfl rfl 2 (by decide) (hz _ zm_33) (fun _ h9 => h9) rfl dC_up_9 ?_
    refine lv_iload_n hx hb dC_up_12 rfl (lv_at hl 1 rfl) ?_
    refine zw_zald hx hb hK hH 2 hdn rfl (j) rfl (hj) (by omega) dC_up_13 ?_
    refine lv_iload_n hx hb dC_up_14 rfl (lv_at hl 2 rfl) ?_
    refine zc_eq (tgt := 20) hx hb dC_up_15 (by decide) (by omega) (by omega) (fun c2 => ?_) (fun c2 => ?_)
    · exact absurd (zbool_eq c2) hd
    · refine lv_iconst (v := nI 0) hx hb dC_up_18 (by decide) ?_
      exact W.zret (v := (nI 0)) (ty := .boolean) hx hb hr rfl (fun t ht hW => ⟨⟨(nI 0), (M, sz), rfl, ⟨rfl, rfl⟩, by rw [ht]; exact hH, by rw [ht]; exact hsz⟩, hS.F ht⟩) hS.2.2 dC_up_19

set_option maxHeartbeats 4000000 in
set_option maxRecDepth 100000 in
theorem kC_up_out (l : Launch) (G : zG) (B : Nat) (M : zw_M) (sz : Nat) (x z L n mb : Nat) (st : zSt) (qs : List Nat) (g : Nat → Int32) (hn : n ≤ 8) (hR : zCR G M x z L n mb st qs g) (a bo : Int32) (ha : a < 0 ∨ nI n ≤ a) : Met l yC_up (Cond.code yC_up bC_up 3 (some .boolean) :: zT) { frames := 1, cells := 0, slots := 0, locals := 22 } (zq G B M sz [.ref x, .int a, .int bo]) (va_Qi (fun (r : Int32) (u : zw_M × Nat) => r = nI 0 ∧ u = (M, sz)) (zr_o G.1 zCl B) (zw_A B)) (0) (0) (zw_A B) := by
  refine Met.ofW (cc := bC_up) (maxL := 3) (ret := (some .boolean)) (by decide) rfl ?_
  intro p e s m args below meth c s₁ B0 hml hv
  obtain ⟨rfl, hE, hH, hsz⟩ := hv
  have hx := B0.exec
  have hb := B0.bytes
  have hr := B0.returns
  have hlocks := B0.notSynchronized
  have hz : ∀ w ∈ zT, w.before _ s = true := fun w h => atoms_spec (ws := Cond.code yC_up bC_up 3 (some .boolean) :: zT) B0.pre w (List.mem_cons_of_mem _ h)
  have hown : s.vm.findClass RC = some m.cls := findClass_of_methodNamed B0.named
  have hK := hE.1
  have hl := lv_entry ([.ref x, .int a, .int bo]) (n := 3) (Nat.le_of_ble_eq_true rfl)
  rw [lg_entry_eq]
  generalize (lg_sl ([.ref x, .int a, .int bo]) ++ List.replicate (3 - (lg_sl ([.ref x, .int a, .int bo])).length) Slot.unset).toArray = ls at hl ⊢
  have hl : lv_has ls 3 [(0, .ref x), (1, .int a), (2, .int bo)] := hl
  have hS : va_S (zw_A B) s.heap s.heap [] := va_S.rf
  have hin : meth.name = "up" := (name_of_methodNamed B0.named B0.method).1
  have hx0 := hR.obj
  have hdn := hR.dn
  have hxz := hR.xz
  have hzL := hR.zL
  refine lv_aload_n hx hb dC_up_0 rfl (lv_at hl 0 rfl) ?_
  refine lv_iload_n hx hb dC_up_1 rfl (lv_at hl 1 rfl) ?_
  refine zr_V (As := [.int a]) (rest := []) (q := (RC, TC, 14)) ⟨hx, hb, hml, hown, hz⟩ (kC_isReplica_out l G B M x n mb z st.fl.length st.se st.lo st.go st.pa hn hx0 a ha) (zt_V zm_93 zm_95 zs_2 zm_1 zm_96) rfl rfl rfl (show _ ∧ _ ∧ _ ∧ _ = some 1 from by decide +kernel) ⟨Nat.le_of_ble_eq_true rfl, Nat.le_of_ble_eq_true rfl⟩ zE_blind (zE_at hE hS) hH hK hx0 rfl rfl hl.1 rfl (Nat.le_of_ble_eq_true rfl) dC_up_2 ⟨Nat.le_of_ble_eq_true rfl, Nat.le_of_ble_eq_true rfl⟩ ?_
  refine zc_eq0 (tgt := 18) hx hb dC_up_5 (by decide) (by omega) (fun c => ?_) (fun c => ?_)
  · refine lv_iconst (v := nI 0) hx hb dC_up_18 (by decide) ?_
    exact W.zret (v := (nI 0)) (ty := .boolean) hx hb hr rfl (fun t ht hW => ⟨⟨(nI 0), (M, sz), rfl, ⟨rfl, rfl⟩, by rw [ht]; exact hH, by rw [ht]; exact hsz⟩, hS.F ht⟩) hS.2.2 dC_up_19
  · exact absurd rfl c

theorem zOK.tk {n : Nat} {st : zSt} {ck : Int64} {r : Nat} (hck : ck ≠ -1) (h : zOK n st) (hr : r < n) : ∀ k, k ≤ n → zOK n (ztk n r ck st k)
  | 0, _ => h
  | k + 1, hk => by
    unfold ztk
    by_cases e : k = r
    · rw [if_pos e]; exact zOK.tk hck h hr k (by omega)
    · rw [if_neg e]; exact (zOK.tk hck h hr k (by omega)).send (fun num => ⟨hr, by show k < n; omega, hck, rfl, rfl⟩)
set_option maxHeartbeats 4000000 in
set_option maxRecDepth 100000 in
theorem kC_tick (l : Launch) (G : zG) (B : Nat) (M : zw_M) (sz : Nat) (x z L n mb : Nat) (st : zSt) (qs : List Nat) (g : Nat → Int32) (hn : n ≤ 8) (hR : zCR G M x z L n mb st qs g) (hL : L < sz) (hok : zOK n st) (hn1 : 1 ≤ n) (j : Nat) (hj : j < n) (hd : st.dn j = false) : Met l yC_tick (Cond.code yC_tick bC_tick 3 (some .int) :: zT) { frames := 3, cells := 8, slots := 48, locals := 70 } (zq G B M sz [.ref x, .int (nI j)]) (va_Qi (fun (r : Int32) (u : zw_M × Nat) => r = nI (n - 1) ∧ zCO G x z L n mb sz M (ztk n j (zck (st.lg j)) st n) u) (zr_o G.1 zCl B) (zw_A B)) (8) (48) (zw_A B) := by
  refine Met.ofW (cc := bC_tick) (maxL := 3) (ret := (some .int)) (by decide) rfl ?_
  intro p e s m args below meth c s₁ B0 hml hv
  obtain ⟨rfl, hE, hH, hsz⟩ := hv
  have hx := B0.exec
  have hb := B0.bytes
  have hr := B0.returns
  have hlocks := B0.notSynchronized
  have hz : ∀ w ∈ zT, w.before _ s = true := fun w h => atoms_spec (ws := Cond.code yC_tick bC_tick 3 (some .int) :: zT) B0.pre w (List.mem_cons_of_mem _ h)
  have hown : s.vm.findClass RC = some m.cls := findClass_of_methodNamed B0.named
  have hK := hE.1
  have hl := lv_entry ([.ref x, .int (nI j)]) (n := 3) (Nat.le_of_ble_eq_true rfl)
  rw [lg_entry_eq]
  generalize (lg_sl ([.ref x, .int (nI j)]) ++ List.replicate (3 - (lg_sl ([.ref x, .int (nI j)])).length) Slot.unset).toArray = ls at hl ⊢
  have hl : lv_has ls 3 [(0, .ref x), (1, .int (nI j))] := hl
  have hS : va_S (zw_A B) s.heap s.heap [] := va_S.rf
  have hin : meth.name = "tick" := (name_of_methodNamed B0.named B0.method).1
  have hb1 := zbool (st.dn j)
  have hx0 := hR.obj
  have hdn := hR.dn
  have hxz := hR.xz
  have hzL := hR.zL
  refine lv_aload_n hx hb dC_tick_0 rfl (lv_at hl 0 rfl) ?_
  refine lv_iload_n hx hb dC_tick_1 rfl (lv_at hl 1 rfl) ?_
  refine zr_V (As := [.int (nI j)]) (rest := []) (q := (RC, TC, 14)) ⟨hx, hb, hml, hown, hz⟩ (kC_isReplica_in l G B M x n mb z st.fl.length st.se st.lo st.go st.pa hn hx0 j hj) (zt_V zm_93 zm_95 zs_2 zm_1 zm_96) rfl rfl rfl (show _ ∧ _ ∧ _ ∧ _ = some 1 from by decide +kernel) ⟨Nat.le_of_ble_eq_true rfl, Nat.le_of_ble_eq_true rfl⟩ zE_blind (zE_at hE hS) hH hK hx0 rfl rfl hl.1 rfl (Nat.le_of_ble_eq_true rfl) dC_tick_2 ⟨Nat.le_of_ble_eq_true rfl, Nat.le_of_ble_eq_true rfl⟩ ?_
  refine zc_ne0 (tgt := 18) hx hb dC_tick_5 (by decide) (by omega) (fun b1 => ?_) (fun b1 => ?_)
  · refine lv_aload_n hx hb dC_tick_18 rfl (lv_at hl 0 rfl) ?_
    refine va_get (D := G.1) (ci := 1) (v := .ref z) (C := RC) (T := TC) (N := 14) hx hb hz iC hown hK (hH.one hx0) 0 rfl rfl 2 (by decide) (hz _ zm_33) (fun _ h9 => h9) rfl dC_tick_19 ?_
    refine lv_iload_n hx hb dC_tick_22 rfl (lv_at hl 1 rfl) ?_
    refine zw_zald hx hb hK hH 2 hdn rfl (j) rfl (hj) (by omega) dC_tick_23 ?_
    refine zc_eq0 (tgt := 37) hx hb dC_tick_24 (by decide) (by omega) (fun c2 => ?_) (fun c2 => ?_)
    · refine lv_iconst (v := nI 0) hx hb dC_tick_37 (by decide) ?_
      refine lv_istore_n (lv' := [(2, .int (nI 0)), (0, .ref x), (1, .int (nI j))]) hx hb dC_tick_38 rfl hl (by decide) rfl (fun ls hl => ?_)
      refine zl_upC (Wg := fun ls H locs ce sl => W p l e _ s m _ below meth c H locs ce sl _ (F0 m 39 ls [])) (fun i ls H locs ce sl => lv_has ls 3 [(0, .ref x), (1, .int (nI j)), (2, .int (nI i))] ∧ (i = ce ∧ 6 * i = sl) ∧ ∃ Mq : zw_M, zw_H G.1 zCl B Mq H ∧ va_S (zw_A B) s.heap H locs ∧ zCO G x z L n mb sz M (ztk n j (zck (st.lg j)) st i) (Mq, H.size)) n ?_ (i := 0) (by omega) ⟨lv_sub hl [1, 2, 0] rfl, ⟨rfl, rfl⟩, M, hH, hS, ⟨⟨qs, g, hR⟩, zfr.rf, by show sz ≤ s.heap.size; omega⟩⟩
      intro i hi ls Hi Li ce sl ⟨hl, ⟨hce, hsl⟩, Mi, hH, hS, hI⟩ ih
      subst hce
      subst hsl
      have hl : lv_has ls 3 [(0, .ref x), (1, .int (nI j)), (2, .int (nI i))] := hl
      obtain ⟨⟨qs1, g1, hR1⟩, hfr, hszi⟩ := hI
      have hok := zOK.tk (zck_ne hok hj) hok hj i hi
      have hx0 := hR1.obj
      have hxz := hR1.xz
      have hzL := hR1.zL
      refine lv_iload_n hx hb dC_tick_39 rfl (lv_at hl 2 rfl) ?_
      refine lv_aload_n hx hb dC_tick_40 rfl (lv_at hl 0 rfl) ?_
      refine va_get (D := G.1) (ci := 1) (v := .int (nI n)) (C := RC) (T := TC) (N := 14) hx hb hz iC hown hK (hH.one hx0) 0 rfl rfl 0 (by decide) (hz _ zm_31) (fun _ h9 => h9) rfl dC_tick_41 ?_
      refine zc_ge (tgt := 64) hx hb dC_tick_44 (by decide) (by omega) (by omega) (fun c => ?_) (fun c => ?_)
      · have e1 : n = i := by omega
        subst e1
        refine lv_aload_n hx hb dC_tick_64 rfl (lv_at hl 0 rfl) ?_
        refine va_get (D := G.1) (ci := 1) (v := .int (nI n)) (C := RC) (T := TC) (N := 14) hx hb hz iC hown hK (hH.one hx0) 0 rfl rfl 0 (by decide) (hz _ zm_31) (fun _ h9 => h9) rfl dC_tick_65 ?_
        refine lv_iconst (v := nI 1) hx hb dC_tick_68 (by decide) ?_
        refine lv_isub hx hb dC_tick_69 ?_
        refine zw_ti (pk_sub (by omega)) ?_
        refine W.widen (k := 8) (n := 48) (by omega) (by omega) ?_
        exact W.iret (v := (nI (n - 1))) hx hb hr (fun t ht hW => ⟨⟨(nI (n - 1)), (Mi, Hi.size), rfl, ⟨rfl, ⟨qs1, g1, hR1⟩, hfr, hszi⟩, by rw [ht]; exact hH, by rw [ht]⟩, hS.F ht⟩) hS.2.2 dC_tick_70
      · refine lv_iload_n hx hb dC_tick_47 rfl (lv_at hl 2 rfl) ?_
        refine lv_iload_n hx hb dC_tick_48 rfl (lv_at hl 1 rfl) ?_
        refine zc_eq (tgt := 58) hx hb dC_tick_49 (by decide) (by omega) (by omega) (fun c2 => ?_) (fun c2 => ?_)
        · refine lv_iinc (v := (nI (i + 1))) (lv' := [(2, .int (nI (i + 1))), (0, .ref x), (1, .int (nI j))]) hx hb dC_tick_58 hl (k := 2) rfl (nI_add _ _) (by decide) rfl (fun ls hl => ?_)
          refine lv_goto (tgt := 39) hx hb dC_tick_61 (by decide) ?_
          refine W.widen (k := (i + 1)) (n := 6 * (i + 1)) (by omega) (by omega) ?_
          exact ih c ls Hi _ _ _ ⟨lv_sub hl [1, 2, 0] rfl, ⟨rfl, rfl⟩, Mi, hH, hS, ⟨⟨qs1, g1, by unfold ztk; rw [if_pos c2]; exact hR1⟩, hfr, hszi⟩⟩
        · refine lv_aload_n hx hb dC_tick_52 rfl (lv_at hl 0 rfl) ?_
          refine lv_iload_n hx hb dC_tick_53 rfl (lv_at hl 1 rfl) ?_
          refine lv_iload_n hx hb dC_tick_54 rfl (lv_at hl 2 rfl) ?_
          refine zr_Vv (As := [.int (nI j), .int (nI i)]) (rest := []) (q := (RC, TC, 14)) (mc := 1) (ms := 6) ⟨hx, hb, hml, hown, hz⟩ (kC_sendClock l G B Mi _ x z L n mb (ztk n j (zck (st.lg j)) st i) qs1 g1 hn hR1 (by omega) j i hj hok.fl) (zt_V zm_268 zm_270 zs_9 zm_1 zm_271) rfl rfl rfl (show _ ∧ _ ∧ _ ∧ _ = some 2 from by decide +kernel) ⟨Nat.le_of_ble_eq_true rfl, Nat.le_of_ble_eq_true rfl⟩ zE_blind (zE_at hE hS) hH hK hx0 rfl rfl hS hl.1 rfl (Nat.le_of_ble_eq_true rfl) dC_tick_55 ⟨by show i + 1 ≤ 8; omega, by show 6 * i + 6 ≤ 48; omega⟩ (fun M1 sz1 H1 L1 hp hH hz1 hz2 hS => ?_)
          obtain ⟨⟨qs2, g2, hR2⟩, hfr2, hz3⟩ := hp
          rw [ztk_lg] at hR2
          refine lv_iinc (v := (nI (i + 1))) (lv' := [(2, .int (nI (i + 1))), (0, .ref x), (1, .int (nI j))]) hx hb dC_tick_58 hl (k := 2) rfl (nI_add _ _) (by decide) rfl (fun ls hl => ?_)
          refine lv_goto (tgt := 39) hx hb dC_tick_61 (by decide) ?_
          refine W.widen (k := (i + 1)) (n := 6 * (i + 1)) (by omega) (by omega) ?_
          exact ih c ls H1 _ _ _ ⟨lv_sub hl [1, 2, 0] rfl, ⟨rfl, rfl⟩, M1, hH, hS, ⟨⟨qs2, g2, by unfold ztk; rw [if_neg c2]; exact hR2⟩, hfr.tr hfr2 hszi, Nat.le_trans hszi hz2⟩⟩
    · exact absurd (by rw [hd]; rfl) c2
  · exact absurd b1 (by decide)
end
section
/-! walks of lists: a PART's changes, an answer's log -/
def zT2 (st : zSt) (rc : Nat) (chs : List Nat) (i : Nat) : zSt × Nat := (chs.take i).foldl (zta rc) (st, 0)
theorem zT2_s (st : zSt) (rc : Nat) (chs : List Nat) {i : Nat} (h : i < chs.length) : zT2 st rc chs (i + 1) = zta rc (zT2 st rc chs i) (chs.getD i 0) := zfold _ _ _ h
theorem zT2_e (st : zSt) (rc : Nat) (chs : List Nat) : zT2 st rc chs chs.length = chs.foldl (zta rc) (st, 0) := by unfold zT2; rw [List.take_length]
theorem zT2_ok {n : Nat} {st : zSt} (h : zOK n st) {rc : Nat} (hr : rc < n) {chs : List Nat} (hv : ∀ c ∈ chs, zval n st.wt c) (i : Nat) : zOK n (zT2 st rc chs i).1 ∧ (zT2 st rc chs i).1.wt = st.wt := h.tas hr _ 0 (fun c hc => hv c (List.mem_of_mem_take hc))
theorem zget_mem {L : List Nat} {i : Nat} (h : i < L.length) : L.getD i 0 ∈ L := by
  rw [List.getD_eq_getElem?_getD, List.getElem?_eq_getElem h]
  exact List.getElem_mem h
def zA (st : zSt) (rc sd : Nat) (told : Int64) (mb i : Nat) : zAn := ((st.lg rc).take i).foldl (zan rc sd told mb) (zAn.mk st 0 [] 3)
theorem zA_s (st : zSt) (rc sd : Nat) (told : Int64) (mb : Nat) {i : Nat} (h : i < (st.lg rc).length) : zA st rc sd told mb (i + 1) = zan rc sd told mb (zA st rc sd told mb i) ((st.lg rc).getD i 0) := zfold _ _ _ h
theorem zA_e (st : zSt) (rc sd : Nat) (told : Int64) (mb : Nat) : zae rc sd (zA st rc sd told mb (st.lg rc).length) = zanswer st rc sd told mb := by unfold zA zanswer; rw [List.take_length]
/-- an answer on its way -/
def zAok (n : Nat) (st : zSt) (i : Nat) (q : zAn) : Prop := zOK n q.st ∧ q.st.lg = st.lg ∧ q.st.wt = st.wt ∧ q.part.length ≤ i ∧ (∀ c ∈ q.part, zval n st.wt c) ∧ q.byt = 3 + (q.part.map (zwo st.wt)).sum
theorem zwo_le {n : Nat} {st : zSt} (h : zOK n st) {c : Nat} (hc : zval n st.wt c) : 1 ≤ zwo st.wt c ∧ zwo st.wt c ≤ 400 := by
  have h1 : c / 8 - 1 < (st.wt (c % 8)).length := by have := hc.2; omega
  exact h.2.2.2.1 _ hc.1 _ (zget_mem h1)
theorem zsum_w {n : Nat} {st : zSt} (h : zOK n st) : ∀ (L : List Nat), (∀ c ∈ L, zval n st.wt c) → (L.map (zwo st.wt)).sum ≤ 400 * L.length
  | [], _ => Nat.le_refl _
  | c :: L, hL => by
    have h1 := zsum_w h L (fun d hd => hL d (List.mem_cons_of_mem _ hd))
    have h2 := zwo_le h (hL c List.mem_cons_self)
    rw [List.map_cons, List.sum_cons, List.length_cons]
    omega
theorem zAok.step {n : Nat} {st : zSt} (h0 : zOK n st) {rc sd : Nat} {told : Int64} {mb i : Nat} {q : zAn} (hi : i < 480) (hr : rc < n) (hs : sd < n) (h : zAok n st i q) {c : Nat} (hc : zval n st.wt c) : zAok n st (i + 1) (zan rc sd told mb q c) := by
  obtain ⟨h1, h2, h3, h4, h5, h6⟩ := h
  unfold zan
  by_cases e1 : c / 8 ≤ zb told (c % 8)
  · rw [if_pos e1]; exact ⟨h1, h2, h3, by omega, h5, h6⟩
  · rw [if_neg e1]
    by_cases e2 : 0 < q.part.length ∧ mb < q.byt + zwo q.st.wt c
    · rw [if_pos e2]
      refine ⟨h1.send (fun num => ⟨hr, hs, e2.1, ?_, ?_, ?_⟩), (zsend_lg _ _ _ _ _ _).trans h2, (zsend_wt _ _ _ _ _ _).trans h3, by show 1 ≤ i + 1; omega, ?_, ?_⟩
      · show q.part.length ≤ 480; omega
      · rw [h3]; exact h5
      · show q.byt = _; rw [h3]; exact h6
      · intro d hd
        rw [List.mem_singleton.mp hd]; exact hc
      · show 3 + zwo q.st.wt c = 3 + (zwo st.wt c + 0)
        rw [h3]; rfl
    · rw [if_neg e2]
      refine ⟨h1, h2, h3, ?_, ?_, ?_⟩
      · show (q.part ++ [c]).length ≤ i + 1
        rw [List.length_append]; show q.part.length + 1 ≤ i + 1; omega
      · intro d hd
        rcases List.mem_append.mp hd with w | w
        · exact h5 d w
        · rw [List.mem_singleton.mp w]; exact hc
      · show q.byt + zwo q.st.wt c = 3 + ((q.part ++ [c]).map (zwo st.wt)).sum
        rw [List.map_append, List.sum_append, h6, h3]
        show _ = 3 + (_ + (zwo st.wt c + 0))
        omega
theorem zA_ok {n : Nat} {st : zSt} (h0 : zOK n st) (hn : n ≤ 8) {rc sd : Nat} {told : Int64} {mb : Nat} (hr : rc < n) (hs : sd < n) : ∀ (i : Nat), i ≤ (st.lg rc).length → zAok n st i (zA st rc sd told mb i)
  | 0, _ => ⟨h0, rfl, rfl, Nat.le_refl _, fun c hc => (by cases hc), rfl⟩
  | i + 1, hi => by
    have h1 := zA_ok h0 hn hr hs i (by omega) (told := told) (mb := mb)
    rw [zA_s st rc sd told mb (by omega)]
    have h2 := h0.len hr
    exact h1.step h0 (by omega) hr hs (h0.val hr (zget_mem (by omega)))
theorem zAok.byt {n : Nat} {st : zSt} (h0 : zOK n st) {i : Nat} {q : zAn} (h : zAok n st i q) : q.byt ≤ 3 + 400 * i := by
  obtain ⟨-, -, -, h4, h5, h6⟩ := h
  have := zsum_w h0 _ h5
  have : 400 * q.part.length ≤ 400 * i := Nat.mul_le_mul_left _ h4
  omega
theorem zAok.end {n : Nat} {st : zSt} {rc sd i : Nat} {q : zAn} (hi : i ≤ 480) (hr : rc < n) (hs : sd < n) (h : zAok n st i q) : zOK n (zae rc sd q).1 := by
  obtain ⟨h1, h2, h3, h4, h5, h6⟩ := h
  unfold zae
  by_cases e : 0 < q.part.length
  · rw [if_pos e]
    refine h1.send (fun num => ⟨hr, hs, e, ?_, ?_, ?_⟩)
    · show q.part.length ≤ 480; omega
    · rw [h3]; exact h5
    · show q.byt = _; rw [h3]; exact h6
  · rw [if_neg e]; exact h1
end
section
/-! THE CLASS: takeChanges, answer -/
set_option maxHeartbeats 4000000 in
set_option maxRecDepth 100000 in
theorem kC_takeChanges (l : Launch) (G : zG) (B : Nat) (M : zw_M) (sz : Nat) (x z L n mb : Nat) (st : zSt) (qs : List Nat) (g : Nat → Int32) (hn : n ≤ 8) (hR : zCR G M x z L n mb st qs g) (hok : zOK n st) (q ch rc : Nat) (num sd byt : Int32) (hqL : L < q) (hq0 : M q = some (.inr (0, zoM num sd (nI rc) byt (-1) ch))) (hrc : rc < n) (hcL : L < ch) (chs : List Nat) (f : Nat → Int32) (hch : M ch = some (.inl (G.2.1 0, chs.length, .inl f))) (hf : ∀ k, k < chs.length → f k = nI (chs.getD k 0)) (hval : ∀ d ∈ chs, zval n st.wt d) (h480 : chs.length ≤ 480) : Met l yC_takeChanges (Cond.code yC_takeChanges bC_takeChanges 7 (some .int) :: zT) { frames := 2, cells := 0, slots := 0, locals := 50 } (zq G B M sz [.ref x, .ref q]) (va_Qi (fun (r : Int32) (u : zw_M × Nat) => r = nI (chs.foldl (zta rc) (st, 0)).2 ∧ zCO G x z L n mb sz M ((chs.foldl (zta rc) (st, 0)).1) u) (zr_o G.1 zCl B) (zw_A B)) (0) (0) (zw_A B) := by
  refine Met.ofW (cc := bC_takeChanges) (maxL := 7) (ret := (some .int)) (by decide) rfl ?_
  intro p e s m args below meth c s₁ B0 hml hv
  obtain ⟨rfl, hE, hH, hsz⟩ := hv
  have hx := B0.exec
  have hb := B0.bytes
  have hr := B0.returns
  have hlocks := B0.notSynchronized
  have hz : ∀ w ∈ zT, w.before _ s = true := fun w h => atoms_spec (ws := Cond.code yC_takeChanges bC_takeChanges 7 (some .int) :: zT) B0.pre w (List.mem_cons_of_mem _ h)
  have hown : s.vm.findClass RC = some m.cls := findClass_of_methodNamed B0.named
  have hK := hE.1
  have hl := lv_entry ([.ref x, .ref q]) (n := 7) (Nat.le_of_ble_eq_true rfl)
  rw [lg_entry_eq]
  generalize (lg_sl ([.ref x, .ref q]) ++ List.replicate (7 - (lg_sl ([.ref x, .ref q])).length) Slot.unset).toArray = ls at hl ⊢
  have hl : lv_has ls 7 [(0, .ref x), (1, .ref q)] := hl
  have hS : va_S (zw_A B) s.heap s.heap [] := va_S.rf
  have hin : meth.name = "takeChanges" := (name_of_methodNamed B0.named B0.method).1
  have hlt0 : ∀ (a : Nat) (e : va_E), M a = some e → a < sz := fun a e h => by rw [← hsz]; exact hH.lt h
  have hqz := hlt0 q _ hq0
  have hcz := hlt0 ch _ hch
  refine lv_iconst (v := nI 0) hx hb dC_takeChanges_0 (by decide) ?_
  refine lv_istore_n (lv' := [(2, .int (nI 0)), (0, .ref x), (1, .ref q)]) hx hb dC_takeChanges_1 rfl hl (by decide) rfl (fun ls hl => ?_)
  refine lv_aload_n hx hb dC_takeChanges_2 rfl (lv_at hl 2 rfl) ?_
  refine va_get (D := G.1) (ci := 0) (v := .ref ch) (C := RM) (T := TM) (N := 6) hx hb hz iM hown hK (hH.one hq0) 0 rfl rfl 5 (by decide) (hz _ zm_294) (fun _ h9 => h9) rfl dC_takeChanges_3 ?_
  refine lv_astore_n (lv' := [(3, .ref ch), (2, .int (nI 0)), (0, .ref x), (1, .ref q)]) hx hb dC_takeChanges_6 rfl hl (by decide) rfl (fun ls hl => ?_)
  refine lv_aload_n hx hb dC_takeChanges_7 rfl (lv_at hl 0 rfl) ?_
  refine zw_alen hx hb hK hH 0 hch rfl dC_takeChanges_8 ?_
  refine zw_ti (v' := nI chs.length) rfl ?_
  refine lv_istore (lv' := [(4, .int (nI chs.length)), (3, .ref ch), (2, .int (nI 0)), (0, .ref x), (1, .ref q)]) hx hb dC_takeChanges_9 hl (by decide) rfl (fun ls hl => ?_)
  refine lv_iconst (v := nI 0) hx hb dC_takeChanges_11 (by decide) ?_
  refine lv_istore (lv' := [(5, .int (nI 0)), (4, .int (nI chs.length)), (3, .ref ch), (2, .int (nI 0)), (0, .ref x), (1, .ref q)]) hx hb dC_takeChanges_12 hl (by decide) rfl (fun ls hl => ?_)
  refine zl_upH (Wg := fun ls H locs => W p l e _ s m _ below meth c H locs 0 0 _ (F0 m 14 ls [])) (fun i ls H locs => lv_has ls 7 [(0, .ref x), (1, .ref q), (2, .int (nI ((zT2 st rc chs i).2))), (3, .ref ch), (4, .int (nI chs.length)), (5, .int (nI i))] ∧ ∃ Mq : zw_M, zw_H G.1 zCl B Mq H ∧ va_S (zw_A B) s.heap H locs ∧ zCO G x z L n mb sz M (zT2 st rc chs i).1 (Mq, H.size)) chs.length ?_ (i := 0) (by omega) ⟨lv_sub hl [4, 5, 3, 2, 1, 0] rfl, M, hH, hS, ⟨⟨qs, g, hR⟩, zfr.rf, by show sz ≤ s.heap.size; omega⟩⟩
  intro i hi ls Hi Li ⟨hl, Mi, hH, hS, hI⟩ ih
  have hl : lv_has ls 7 [(0, .ref x), (1, .ref q), (2, .int (nI ((zT2 st rc chs i).2))), (3, .ref ch), (4, .int (nI chs.length)), (5, .int (nI i))] := hl
  obtain ⟨⟨qs1, g1, hR1⟩, hfr, hszi⟩ := hI
  obtain ⟨hok1, hwt1⟩ := zT2_ok hok hrc hval i
  have hxz := hR1.xz
  have hzL := hR1.zL
  have hq1 : Mi q = _ := (hfr q (by omega) (Or.inr (by omega)) hqz).trans hq0
  have hch1 : Mi ch = _ := (hfr ch (by omega) (Or.inr (by omega)) hcz).trans hch
  refine lv_iload hx hb dC_takeChanges_14 (lv_at hl 5 rfl) ?_
  refine lv_iload hx hb dC_takeChanges_16 (lv_at hl 4 rfl) ?_
  refine zc_ge (tgt := 62) hx hb dC_takeChanges_18 (by decide) (by omega) (by omega) (fun b1 => ?_) (fun b1 => ?_)
  · have e1 : chs.length = i := by omega
    refine lv_iload_n hx hb dC_takeChanges_62 rfl (lv_at hl 2 rfl) ?_
    rw [← zT2_e, e1]
    exact W.iret (v := (nI ((zT2 st rc chs i).2))) hx hb hr (fun t ht hW => ⟨⟨(nI ((zT2 st rc chs i).2)), (Mi, Hi.size), rfl, ⟨rfl, ⟨qs1, g1, hR1⟩, hfr, hszi⟩, by rw [ht]; exact hH, by rw [ht]⟩, hS.F ht⟩) hS.2.2 dC_takeChanges_63
  · have hs1 := zT2_s st rc chs b1
    have hv1 := hval _ (zget_mem b1)
    obtain ⟨k0, hk0⟩ : ∃ q, q = chs.getD i 0 := ⟨_, rfl⟩
    rw [← hk0] at hs1 hv1
    have hv2 : zval n (zT2 st rc chs i).1.wt k0 := by rw [hwt1]; exact hv1
    have hx0 := hR1.obj
    have hxz := hR1.xz
    have hzL := hR1.zL
    refine lv_aload_n hx hb dC_takeChanges_21 rfl (lv_at hl 3 rfl) ?_
    refine lv_iload hx hb dC_takeChanges_22 (lv_at hl 5 rfl) ?_
    refine zw_iald hx hb hK hH 0 hch1 rfl (i) rfl (b1) (by omega) dC_takeChanges_24 ?_
    refine zw_ti ((hf i b1).trans (congrArg nI hk0.symm)) ?_
    refine lv_istore (lv' := [(6, .int (nI k0)), (0, .ref x), (1, .ref q), (2, .int (nI ((zT2 st rc chs i).2))), (3, .ref ch), (4, .int (nI chs.length)), (5, .int (nI i))]) hx hb dC_takeChanges_25 hl (by decide) rfl (fun ls hl => ?_)
    refine lv_aload_n hx hb dC_takeChanges_27 rfl (lv_at hl 1 rfl) ?_
    refine lv_aload_n hx hb dC_takeChanges_28 rfl (lv_at hl 2 rfl) ?_
    refine va_get (D := G.1) (ci := 0) (v := .int (nI rc)) (C := RM) (T := TM) (N := 6) hx hb hz iM hown hK (hH.one hq1) 0 rfl rfl 2 (by decide) (hz _ zm_288) (fun _ h9 => h9) rfl dC_takeChanges_29 ?_
    refine lv_iload hx hb dC_takeChanges_32 (lv_at hl 0 rfl) ?_
    by_cases hfit : zfits (zT2 st rc chs i).1 rc k0
    · refine zr_Vi (As := [.int (nI rc), .int (nI k0)]) (rest := []) (q := (RC, TC, 14)) (mc := 0) (ms := 0) ⟨hx, hb, hml, hown, hz⟩ (kC_comes_yes l G B Mi _ x z L n mb (zT2 st rc chs i).1 qs1 g1 hn hR1 rc k0 hrc (zval.lt hn hok1 hv2) (hok1.b8 hrc) hfit (hok1.len2 hrc hv2 hfit)) (zt_V zm_250 zm_252 zs_8 zm_1 zm_253) rfl rfl rfl (show _ ∧ _ ∧ _ ∧ _ = some 2 from by decide +kernel) ⟨Nat.le_of_ble_eq_true rfl, Nat.le_of_ble_eq_true rfl⟩ zE_blind (zE_at hE hS) hH hK hx0 rfl rfl hS hl.1 rfl (Nat.le_of_ble_eq_true rfl) dC_takeChanges_34 ⟨Nat.le_of_ble_eq_true rfl, Nat.le_of_ble_eq_true rfl⟩ (fun r1 M1 sz1 H1 L1 hp hH hz1 hz2 hS => ?_)
      obtain ⟨rfl, hR2, hk2, hz3⟩ := hp
      have hT : zT2 st rc chs (i + 1) = (zlog (zT2 st rc chs i).1 rc k0, (zT2 st rc chs i).2 + 1) := by rw [hs1]; exact if_pos hfit
      have hk2 : ∀ a : Nat, a ≠ z + 3 + rc → a ≠ z + 3 + n → a ≠ z + 1 → M1 a = Mi a := hk2
      refine zc_eq0 (tgt := 46) hx hb dC_takeChanges_37 (by decide) (by omega) (fun b2 => ?_) (fun b2 => ?_)
      · exact absurd b2 (by decide)
      · refine lv_iinc (v := (nI (((zT2 st rc chs i).2) + 1))) (lv' := [(2, .int (nI (((zT2 st rc chs i).2) + 1))), (6, .int (nI k0)), (0, .ref x), (1, .ref q), (3, .ref ch), (4, .int (nI chs.length)), (5, .int (nI i))]) hx hb dC_takeChanges_40 hl (k := 3) rfl (nI_add _ _) (by decide) rfl (fun ls hl => ?_)
        refine lv_goto (tgt := 56) hx hb dC_takeChanges_43 (by decide) ?_
        refine lv_iinc (v := (nI (i + 1))) (lv' := [(5, .int (nI (i + 1))), (2, .int (nI (((zT2 st rc chs i).2) + 1))), (6, .int (nI k0)), (0, .ref x), (1, .ref q), (3, .ref ch), (4, .int (nI chs.length))]) hx hb dC_takeChanges_56 hl (k := 6) rfl (nI_add _ _) (by decide) rfl (fun ls hl => ?_)
        refine lv_goto (tgt := 14) hx hb dC_takeChanges_59 (by decide) ?_
        exact ih b1 ls H1 _ ⟨lv_sub hl [3, 4, 1, 5, 6, 0] (by rw [hT]; rfl), M1, hH, hS, ⟨⟨qs1, g1, by rw [hT]; exact hR2⟩, fun a h1 h2 h3 => (hk2 a (by omega) (by omega) (by omega)).trans (hfr a h1 h2 h3), Nat.le_trans hszi hz2⟩⟩
    · refine zr_Vi (As := [.int (nI rc), .int (nI k0)]) (rest := []) (q := (RC, TC, 14)) (mc := 0) (ms := 0) ⟨hx, hb, hml, hown, hz⟩ (kC_comes_no l G B Mi _ x z L n mb (zT2 st rc chs i).1 qs1 g1 hn hR1 rc k0 hrc (zval.lt hn hok1 hv2) (hok1.b8 hrc) hfit) (zt_V zm_250 zm_252 zs_8 zm_1 zm_253) rfl rfl rfl (show _ ∧ _ ∧ _ ∧ _ = some 2 from by decide +kernel) ⟨Nat.le_of_ble_eq_true rfl, Nat.le_of_ble_eq_true rfl⟩ zE_blind (zE_at hE hS) hH hK hx0 rfl rfl hS hl.1 rfl (Nat.le_of_ble_eq_true rfl) dC_takeChanges_34 ⟨Nat.le_of_ble_eq_true rfl, Nat.le_of_ble_eq_true rfl⟩ (fun r1 M1 sz1 H1 L1 hp hH hz1 hz2 hS => ?_)
      obtain ⟨rfl, hp⟩ := hp
      have hM1 : M1 = Mi := (Prod.mk.inj hp).1
      rw [← hM1] at hx0 hR1 hfr
      have hT : zT2 st rc chs (i + 1) = (zpass (zT2 st rc chs i).1, (zT2 st rc chs i).2) := by rw [hs1]; exact if_neg hfit
      refine zc_eq0 (tgt := 46) hx hb dC_takeChanges_37 (by decide) (by omega) (fun b2 => ?_) (fun b2 => ?_)
      · refine lv_aload_n hx hb dC_takeChanges_46 rfl (lv_at hl 1 rfl) ?_
        refine lv_dup hx hb dC_takeChanges_47 rfl ?_
        refine va_get (D := G.1) (ci := 1) (v := .int (nI ((zT2 st rc chs i).1.pa))) (C := RC) (T := TC) (N := 14) hx hb hz iC hown hK (hH.one hx0) 0 rfl rfl 13 (by decide) (hz _ zm_44) (fun _ h9 => h9) rfl dC_takeChanges_48 ?_
        refine lv_iconst (v := nI 1) hx hb dC_takeChanges_51 (by decide) ?_
        refine lv_iadd hx hb dC_takeChanges_52 ?_
        refine zw_ti (nI_add _ _) ?_
        have hszo := hsz
        have hsz : H1.size = H1.size := rfl
        refine zw_put (D := G.1) (ci := 1) (v := .int (nI (((zT2 st rc chs i).1.pa) + 1))) (ty := .int) (C := RC) (T := TC) (N := 14) hx hb hz iC tC tC_ok nC hown hK hH hS hx0 rfl 13 (by decide) (hz _ zm_44) (fun _ h9 => h9) rfl (by decide +kernel) rfl rfl (Nat.le_of_ble_eq_true rfl) dC_takeChanges_53 (fun H2 L2 hH hz1 hS => ?_)
        have hsz : H2.size = H1.size := hz1
        obtain ⟨M2, hM2⟩ : ∃ Mq, Mq = zw_u M1 x (.inr (1, zoC n mb z ((zT2 st rc chs i).1.fl.length) ((zT2 st rc chs i).1.se) ((zT2 st rc chs i).1.lo) ((zT2 st rc chs i).1.go) (((zT2 st rc chs i).1.pa) + 1))) := ⟨_, rfl⟩
        have hH : zw_H G.1 zCl B M2 H2 := by rw [hM2]; exact hH
        have hx0 : M2 x = some (.inr (1, zoC n mb z ((zT2 st rc chs i).1.fl.length) ((zT2 st rc chs i).1.se) ((zT2 st rc chs i).1.lo) ((zT2 st rc chs i).1.go) (((zT2 st rc chs i).1.pa) + 1))) := by rw [hM2]; exact zw_us _ _ _
        refine lv_iinc (v := (nI (i + 1))) (lv' := [(5, .int (nI (i + 1))), (6, .int (nI k0)), (0, .ref x), (1, .ref q), (2, .int (nI ((zT2 st rc chs i).2))), (3, .ref ch), (4, .int (nI chs.length))]) hx hb dC_takeChanges_56 hl (k := 6) rfl (nI_add _ _) (by decide) rfl (fun ls hl => ?_)
        refine lv_goto (tgt := 14) hx hb dC_takeChanges_59 (by decide) ?_
        have hk2 : ∀ a : Nat, a ≠ x → M2 a = M1 a := fun a h1 => by rw [hM2, zw_un _ _ h1]
        exact ih b1 ls H2 _ ⟨lv_sub hl [2, 3, 4, 5, 6, 0] (by rw [hT]; rfl), M2, hH, hS, ⟨⟨qs1, g1, by rw [hT]; exact hR1.cnt rfl rfl rfl rfl hx0 (fun a e h1 h2 => (hk2 a h1).trans h2)⟩, fun a h1 h2 h3 => (hk2 a h1).trans (hfr a h1 h2 h3), by show sz ≤ H2.size; omega⟩⟩
      · exact absurd rfl b2
end
section
/-! THE CLASS: answer -/
theorem zgat {g1 : Nat → Int32} {L : List Nat} {c : Nat} (h : ∀ k, k < L.length → g1 k = nI (L.getD k 0)) : ∀ k, k < (L ++ [c]).length → upd g1 L.length (nI c) k = nI ((L ++ [c]).getD k 0) := by
  intro k hk
  rw [List.length_append] at hk
  have hk : k < L.length + 1 := hk
  rw [List.getD_eq_getElem?_getD]
  unfold upd
  by_cases e : k = L.length
  · rw [if_pos e, e]; simp
  · rw [if_neg e, h k (by omega), List.getD_eq_getElem?_getD, List.getElem?_append_left (by omega)]
set_option maxHeartbeats 600000 in
set_option maxRecDepth 100000 in
theorem kC_answer (l : Launch) (G : zG) (B : Nat) (M : zw_M) (sz : Nat) (x z L n mb : Nat) (st : zSt) (qs : List Nat) (g : Nat → Int32) (hn : n ≤ 8) (hR : zCR G M x z L n mb st qs g) (hL : L < sz) (hok : zOK n st) (q rc sd : Nat) (num byt : Int32) (told : Int64) (ch : Nat) (hqL : L < q) (hq0 : M q = some (.inr (0, zoM num (nI sd) (nI rc) byt told ch))) (hrc : rc < n) (hsd : sd < n) (hmb : mb ≤ 2000) : Met l yC_answer (Cond.code yC_answer bC_answer 9 (some .int) :: zT) { frames := 3, cells := 960, slots := 3360, locals := 110 } (zq G B M sz [.ref x, .ref q]) (va_Qi (fun (r : Int32) (u : zw_M × Nat) => r = nI (zanswer st rc sd told mb).2 ∧ zCO G x z L n mb sz M ((zanswer st rc sd told mb).1) u) (zr_o G.1 zCl B) (zw_A B)) (960) (3360) (zw_A B) := by
  refine Met.ofW (cc := bC_answer) (maxL := 9) (ret := (some .int)) (by decide) rfl ?_
  intro p e s m args below meth c s₁ B0 hml hv
  obtain ⟨rfl, hE, hH, hsz⟩ := hv
  have hx := B0.exec
  have hb := B0.bytes
  have hr := B0.returns
  have hlocks := B0.notSynchronized
  have hz : ∀ w ∈ zT, w.before _ s = true := fun w h => atoms_spec (ws := Cond.code yC_answer bC_answer 9 (some .int) :: zT) B0.pre w (List.mem_cons_of_mem _ h)
  have hown : s.vm.findClass RC = some m.cls := findClass_of_methodNamed B0.named
  have hK := hE.1
  have hl := lv_entry ([.ref x, .ref q]) (n := 9) (Nat.le_of_ble_eq_true rfl)
  rw [lg_entry_eq]
  generalize (lg_sl ([.ref x, .ref q]) ++ List.replicate (9 - (lg_sl ([.ref x, .ref q])).length) Slot.unset).toArray = ls at hl ⊢
  have hl : lv_has ls 9 [(0, .ref x), (1, .ref q)] := hl
  have hS : va_S (zw_A B) s.heap s.heap [] := va_S.rf
  have hin : meth.name = "answer" := (name_of_methodNamed B0.named B0.method).1
  have hlt0 : ∀ (a : Nat) (e : va_E), M a = some e → a < sz := fun a e h => by rw [← hsz]; exact hH.lt h
  have hqz := hlt0 q _ hq0
  have hlen := hok.len hrc
  refine lv_aload_n hx hb dC_answer_0 rfl (lv_at hl 1 rfl) ?_
  refine va_get (D := G.1) (ci := 0) (v := .int (nI rc)) (C := RM) (T := TM) (N := 6) hx hb hz iM hown hK (hH.one hq0) 0 rfl rfl 2 (by decide) (hz _ zm_288) (fun _ h9 => h9) rfl dC_answer_1 ?_
  refine lv_istore_n (lv' := [(2, .int (nI rc)), (0, .ref x), (1, .ref q)]) hx hb dC_answer_4 rfl hl (by decide) rfl (fun ls hl => ?_)
  refine lv_iconst (v := nI 0) hx hb dC_answer_5 (by decide) ?_
  refine lv_istore_n (lv' := [(3, .int (nI 0)), (2, .int (nI rc)), (0, .ref x), (1, .ref q)]) hx hb dC_answer_6 rfl hl (by decide) rfl (fun ls hl => ?_)
  refine lv_iconst (v := nI 0) hx hb dC_answer_7 (by decide) ?_
  refine lv_istore (lv' := [(4, .int (nI 0)), (3, .int (nI 0)), (2, .int (nI rc)), (0, .ref x), (1, .ref q)]) hx hb dC_answer_8 hl (by decide) rfl (fun ls hl => ?_)
  refine lv_iconst (v := nI 3) hx hb dC_answer_10 (by decide) ?_
  refine lv_istore (lv' := [(5, .int (nI 3)), (4, .int (nI 0)), (3, .int (nI 0)), (2, .int (nI rc)), (0, .ref x), (1, .ref q)]) hx hb dC_answer_11 hl (by decide) rfl (fun ls hl => ?_)
  refine lv_iconst (v := nI 0) hx hb dC_answer_13 (by decide) ?_
  refine lv_istore (lv' := [(6, .int (nI 0)), (5, .int (nI 3)), (4, .int (nI 0)), (3, .int (nI 0)), (2, .int (nI rc)), (0, .ref x), (1, .ref q)]) hx hb dC_answer_14 hl (by decide) rfl (fun ls hl => ?_)
  refine zl_upC (Wg := fun ls H locs ce sl => W p l e _ s m _ below meth c H locs ce sl _ (F0 m 16 ls [])) (fun i ls H locs ce sl => lv_has ls 9 [(0, .ref x), (1, .ref q), (2, .int (nI rc)), (3, .int (nI ((zA st rc sd told mb i).parts))), (4, .int (nI ((zA st rc sd told mb i).part.length))), (5, .int (nI ((zA st rc sd told mb i).byt))), (6, .int (nI i))] ∧ (2 * (i - (zA st rc sd told mb i).part.length) = ce ∧ 7 * (i - (zA st rc sd told mb i).part.length) = sl) ∧ ∃ Mq : zw_M, zw_H G.1 zCl B Mq H ∧ va_S (zw_A B) s.heap H locs ∧ (∃ (qs1 : List Nat) (g1 : Nat → Int32), zCR G Mq x z L n mb (zA st rc sd told mb i).st qs1 g1 ∧ ∀ k, k < (zA st rc sd told mb i).part.length → g1 k = nI ((zA st rc sd told mb i).part.getD k 0)) ∧ zfr x z n sz M Mq ∧ sz ≤ H.size) ((st.lg rc).length) ?_ (i := 0) (by omega) ⟨lv_sub hl [5, 6, 4, 3, 2, 1, 0] rfl, ⟨rfl, rfl⟩, M, hH, hS, ⟨⟨qs, g, hR, fun k hk => absurd hk (Nat.not_lt_zero k)⟩, zfr.rf, by show sz ≤ s.heap.size; omega⟩⟩
  intro i hi ls Hi Li ce sl ⟨hl, ⟨hce, hsl⟩, Mi, hH, hS, hI⟩ ih
  subst hce
  subst hsl
  have hl : lv_has ls 9 [(0, .ref x), (1, .ref q), (2, .int (nI rc)), (3, .int (nI ((zA st rc sd told mb i).parts))), (4, .int (nI ((zA st rc sd told mb i).part.length))), (5, .int (nI ((zA st rc sd told mb i).byt))), (6, .int (nI i))] := hl
  obtain ⟨⟨qs1, g1, hR1, hg1⟩, hfr, hszi⟩ := hI
  have hA := zA_ok hok hn (told := told) (mb := mb) hrc hsd i hi
  obtain ⟨hok1, hlg1, hwt1, hpl1, hpv1, hpb1⟩ := hA
  have hbyt : (zA st rc sd told mb i).byt ≤ 3 + 400 * i := zAok.byt hok ⟨hok1, hlg1, hwt1, hpl1, hpv1, hpb1⟩
  have hxz := hR1.xz
  have hzL := hR1.zL
  have hq1 : Mi q = _ := (hfr q (by omega) (Or.inr (by omega)) hqz).trans hq0
  have hx0 := hR1.obj
  have hck := hR1.ck
  have hlgs := hR1.lgs
  have hlz := hR1.lz
  have hwts := hR1.wts
  have hga := hR1.ga
  have hxz := hR1.xz
  have hzL := hR1.zL
  have hlgr := hR1.lg rc hrc
  refine lv_iload hx hb dC_answer_16 (lv_at hl 6 rfl) ?_
  refine lv_aload_n hx hb dC_answer_18 rfl (lv_at hl 0 rfl) ?_
  refine va_get (D := G.1) (ci := 1) (v := .ref (z + 3 + n)) (C := RC) (T := TC) (N := 14) hx hb hz iC hown hK (hH.one hx0) 0 rfl rfl 5 (by decide) (hz _ zm_36) (fun _ h9 => h9) rfl dC_answer_19 ?_
  refine lv_iload_n hx hb dC_answer_22 rfl (lv_at hl 2 rfl) ?_
  refine zw_iald hx hb hK hH 0 hlz rfl (rc) rfl (hrc) (by omega) dC_answer_23 ?_
  refine zw_ti (by show nI ((zA st rc sd told mb i).st.lg rc).length = _; rw [hlg1]) ?_
  refine zc_ge (tgt := 151) hx hb dC_answer_24 (by decide) (by omega) (by omega) (fun b1 => ?_) (fun b1 => ?_)
  · have e1 : (st.lg rc).length = i := by omega
    refine lv_iload hx hb dC_answer_151 (lv_at hl 4 rfl) ?_
    have hend := zA_e st rc sd told mb
    rw [e1] at hend
    rw [← hend]
    refine zc_le0 (tgt := 172) hx hb dC_answer_153 (by decide) (by omega) (fun b2 => ?_) (fun b2 => ?_)
    · refine lv_iload_n hx hb dC_answer_172 rfl (lv_at hl 3 rfl) ?_
      have he2 : zae rc sd (zA st rc sd told mb i) = ((zA st rc sd told mb i).st, (zA st rc sd told mb i).parts) := if_neg (by omega)
      rw [he2]
      refine W.widen (k := 960) (n := 3360) (by omega) (by omega) ?_
      exact W.iret (v := (nI ((zA st rc sd told mb i).parts))) hx hb hr (fun t ht hW => ⟨⟨(nI ((zA st rc sd told mb i).parts)), (Mi, Hi.size), rfl, ⟨rfl, ⟨qs1, g1, hR1⟩, hfr, hszi⟩, by rw [ht]; exact hH, by rw [ht]⟩, hS.F ht⟩) hS.2.2 dC_answer_173
    · refine lv_aload_n hx hb dC_answer_156 rfl (lv_at hl 0 rfl) ?_
      refine lv_iload_n hx hb dC_answer_157 rfl (lv_at hl 2 rfl) ?_
      refine lv_aload_n hx hb dC_answer_158 rfl (lv_at hl 1 rfl) ?_
      refine va_get (D := G.1) (ci := 0) (v := .int (nI sd)) (C := RM) (T := TM) (N := 6) hx hb hz iM hown hK (hH.one hq1) 0 rfl rfl 1 (by decide) (hz _ zm_286) (fun _ h9 => h9) rfl dC_answer_159 ?_
      refine lv_iload hx hb dC_answer_162 (lv_at hl 5 rfl) ?_
      refine lv_iload hx hb dC_answer_164 (lv_at hl 4 rfl) ?_
      refine zr_Vv (As := [.int (nI rc), .int (nI sd), .int (nI ((zA st rc sd told mb i).byt)), .int (nI ((zA st rc sd told mb i).part.length))]) (rest := []) (q := (RC, TC, 14)) (mc := 2) (ms := 6 + (zA st rc sd told mb i).part.length) ⟨hx, hb, hml, hown, hz⟩ (kC_sendGathered l G B Mi _ x z L n mb (zA st rc sd told mb i).st qs1 g1 hn hR1 (by omega) rc sd (zA st rc sd told mb i).byt (zA st rc sd told mb i).part (by omega) hg1 hok1.fl) (zt_V zm_330 zm_332 zs_13 zm_1 zm_333) rfl rfl rfl (show _ ∧ _ ∧ _ ∧ _ = some 4 from by decide +kernel) ⟨Nat.le_of_ble_eq_true rfl, Nat.le_of_ble_eq_true rfl⟩ zE_blind (zE_at hE hS) hH hK hx0 rfl rfl hS hl.1 rfl (Nat.le_of_ble_eq_true rfl) dC_answer_166 ⟨by show 2 * (i - (zA st rc sd told mb i).part.length) + 2 ≤ 960; omega, by show 7 * (i - (zA st rc sd told mb i).part.length) + (6 + (zA st rc sd told mb i).part.length) ≤ 3360; omega⟩ (fun M1 sz1 H1 L1 hp hH hz1 hz2 hS => ?_)
      obtain ⟨hR2, hfr2, hz3⟩ := hp
      refine lv_iinc (v := (nI (((zA st rc sd told mb i).parts) + 1))) (lv' := [(3, .int (nI (((zA st rc sd told mb i).parts) + 1))), (0, .ref x), (1, .ref q), (2, .int (nI rc)), (4, .int (nI ((zA st rc sd told mb i).part.length))), (5, .int (nI ((zA st rc sd told mb i).byt))), (6, .int (nI i))]) hx hb dC_answer_169 hl (k := 3) rfl (nI_add _ _) (by decide) rfl (fun ls hl => ?_)
      refine lv_iload_n hx hb dC_answer_172 rfl (lv_at hl 0 rfl) ?_
      have he2 : zae rc sd (zA st rc sd told mb i) = (zsend (zA st rc sd told mb i).st rc sd (zA st rc sd told mb i).byt none (zA st rc sd told mb i).part, (zA st rc sd told mb i).parts + 1) := if_pos b2
      rw [he2]
      refine W.widen (k := 960) (n := 3360) (by omega) (by omega) ?_
      exact W.iret (v := (nI (((zA st rc sd told mb i).parts) + 1))) hx hb hr (fun t ht hW => ⟨⟨(nI (((zA st rc sd told mb i).parts) + 1)), (M1, H1.size), rfl, ⟨rfl, hR2, hfr.tr hfr2 hszi, Nat.le_trans hszi hz2⟩, by rw [ht]; exact hH, by rw [ht]⟩, hS.F ht⟩) hS.2.2 dC_answer_173
  · have hs1 := zA_s st rc sd told mb b1
    have hv1 := hok.val hrc (zget_mem b1)
    obtain ⟨k0, hk0⟩ : ∃ q, q = (st.lg rc).getD i 0 := ⟨_, rfl⟩
    rw [← hk0] at hs1 hv1
    have hk31 := zval.lt hn hok hv1
    have hc8 : k0 % 8 < 8 := Nat.mod_lt _ (by decide)
    have hw1 := zwo_le hok hv1
    have hzb := zb_lt told (k0 % 8)
    refine lv_iload hx hb dC_answer_27 (lv_at hl 4 rfl) ?_
    refine lv_aload_n hx hb dC_answer_29 rfl (lv_at hl 0 rfl) ?_
    refine va_get (D := G.1) (ci := 1) (v := .ref (z + 6 + 2 * n)) (C := RC) (T := TC) (N := 14) hx hb hz iC hown hK (hH.one hx0) 0 rfl rfl 9 (by decide) (hz _ zm_40) (fun _ h9 => h9) rfl dC_answer_30 ?_
    refine zw_alen hx hb hK hH 0 hga rfl dC_answer_33 ?_
    refine zw_ti (v' := nI (n * 60)) rfl ?_
    refine zc_ge (tgt := 151) hx hb dC_answer_34 (by decide) (by omega) (by omega) (fun b2 => ?_) (fun b2 => ?_)
    · exact absurd b2 (by omega)
    · refine lv_aload_n hx hb dC_answer_37 rfl (lv_at hl 0 rfl) ?_
      refine va_get (D := G.1) (ci := 1) (v := .ref (z + 2)) (C := RC) (T := TC) (N := 14) hx hb hz iC hown hK (hH.one hx0) 0 rfl rfl 4 (by decide) (hz _ zm_35) (fun _ h9 => h9) rfl dC_answer_38 ?_
      refine lv_iload_n hx hb dC_answer_41 rfl (lv_at hl 2 rfl) ?_
      refine zw_aald hx hb hK hH 4 hlgs rfl rfl (rc) rfl (hrc) (by omega) (v := .ref (z + 3 + rc)) rfl dC_answer_42 ?_
      refine lv_iload hx hb dC_answer_43 (lv_at hl 6 rfl) ?_
      refine zw_iald hx hb hK hH 0 hlgr rfl (i) rfl (by omega) (by omega) dC_answer_45 ?_
      refine zw_ti (by show nI (((zA st rc sd told mb i).st.lg rc).getD i 0) = _; rw [hlg1, ← hk0]) ?_
      refine lv_istore (lv' := [(7, .int (nI k0)), (0, .ref x), (1, .ref q), (2, .int (nI rc)), (3, .int (nI ((zA st rc sd told mb i).parts))), (4, .int (nI ((zA st rc sd told mb i).part.length))), (5, .int (nI ((zA st rc sd told mb i).byt))), (6, .int (nI i))]) hx hb dC_answer_46 hl (by decide) rfl (fun ls hl => ?_)
      refine lv_iload hx hb dC_answer_48 (lv_at hl 0 rfl) ?_
      refine zr_S (As := [.int (nI k0)]) (rest := []) ⟨hx, hb, hml, hown, hz⟩ (kC_seqOf l G B Mi k0 hk31) (zt_S zm_257 zm_258 zm_1 zm_259) rfl rfl rfl (show _ ∧ _ ∧ _ ∧ _ = some 1 from by decide +kernel) ⟨Nat.le_of_ble_eq_true rfl, Nat.le_of_ble_eq_true rfl⟩ zE_blind (zE_at hE hS) hH hl.1 rfl (Nat.le_of_ble_eq_true rfl) dC_answer_50 ⟨by show 2 * (i - (zA st rc sd told mb i).part.length) ≤ 960; omega, by show 7 * (i - (zA st rc sd told mb i).part.length) ≤ 3360; omega⟩ ?_
      refine lv_aload_n hx hb dC_answer_53 rfl (lv_at hl 2 rfl) ?_
      refine va_get (D := G.1) (ci := 0) (v := .long told) (C := RM) (T := TM) (N := 6) hx hb hz iM hown hK (hH.one hq1) 0 rfl rfl 4 (by decide) (hz _ zm_292) (fun _ h9 => h9) rfl dC_answer_54 ?_
      refine lv_iload hx hb dC_answer_57 (lv_at hl 0 rfl) ?_
      refine zr_S (As := [.int (nI k0)]) (rest := [.long told, .int (nI (k0 / 8))]) ⟨hx, hb, hml, hown, hz⟩ (kC_actorOf l G B Mi k0 hk31) (zt_S zm_254 zm_255 zm_1 zm_256) rfl rfl rfl (show _ ∧ _ ∧ _ ∧ _ = some 1 from by decide +kernel) ⟨Nat.le_of_ble_eq_true rfl, Nat.le_of_ble_eq_true rfl⟩ zE_blind (zE_at hE hS) hH hl.1 rfl (Nat.le_of_ble_eq_true rfl) dC_answer_59 ⟨by show 2 * (i - (zA st rc sd told mb i).part.length) ≤ 960; omega, by show 7 * (i - (zA st rc sd told mb i).part.length) ≤ 3360; omega⟩ ?_
      refine zr_S (As := [.long told, .int (nI (k0 % 8))]) (rest := [.int (nI (k0 / 8))]) ⟨hx, hb, hml, hown, hz⟩ (kC_countIn l G B Mi told (k0 % 8) hc8) (zt_S zm_118 zm_119 zm_1 zm_120) rfl rfl rfl (show _ ∧ _ ∧ _ ∧ _ = some 2 from by decide +kernel) ⟨Nat.le_of_ble_eq_true rfl, Nat.le_of_ble_eq_true rfl⟩ zE_blind (zE_at hE hS) hH hl.1 rfl (Nat.le_of_ble_eq_true rfl) dC_answer_62 ⟨by show 2 * (i - (zA st rc sd told mb i).part.length) ≤ 960; omega, by show 7 * (i - (zA st rc sd told mb i).part.length) ≤ 3360; omega⟩ ?_
      refine zc_gt (tgt := 71) hx hb dC_answer_65 (by decide) (by omega) (by omega) (fun b3 => ?_) (fun b3 => ?_)
      · refine lv_aload_n hx hb dC_answer_71 rfl (lv_at hl 1 rfl) ?_
        refine lv_iload hx hb dC_answer_72 (lv_at hl 0 rfl) ?_
        refine zr_S (As := [.int (nI k0)]) (rest := [.ref x]) ⟨hx, hb, hml, hown, hz⟩ (kC_actorOf l G B Mi k0 hk31) (zt_S zm_254 zm_255 zm_1 zm_256) rfl rfl rfl (show _ ∧ _ ∧ _ ∧ _ = some 1 from by decide +kernel) ⟨Nat.le_of_ble_eq_true rfl, Nat.le_of_ble_eq_true rfl⟩ zE_blind (zE_at hE hS) hH hl.1 rfl (Nat.le_of_ble_eq_true rfl) dC_answer_74 ⟨by show 2 * (i - (zA st rc sd told mb i).part.length) ≤ 960; omega, by show 7 * (i - (zA st rc sd told mb i).part.length) ≤ 3360; omega⟩ ?_
        refine lv_iload hx hb dC_answer_77 (lv_at hl 0 rfl) ?_
        refine zr_S (As := [.int (nI k0)]) (rest := [.int (nI (k0 % 8)), .ref x]) ⟨hx, hb, hml, hown, hz⟩ (kC_seqOf l G B Mi k0 hk31) (zt_S zm_257 zm_258 zm_1 zm_259) rfl rfl rfl (show _ ∧ _ ∧ _ ∧ _ = some 1 from by decide +kernel) ⟨Nat.le_of_ble_eq_true rfl, Nat.le_of_ble_eq_true rfl⟩ zE_blind (zE_at hE hS) hH hl.1 rfl (Nat.le_of_ble_eq_true rfl) dC_answer_79 ⟨by show 2 * (i - (zA st rc sd told mb i).part.length) ≤ 960; omega, by show 7 * (i - (zA st rc sd told mb i).part.length) ≤ 3360; omega⟩ ?_
        have hwr := hR1.wt (k0 % 8) hv1.1
        have hzc : zb (zck ((zA st rc sd told mb i).st.lg (k0 % 8))) (k0 % 8) = ((zA st rc sd told mb i).st.wt (k0 % 8)).length := (zck_at (hok1.b8 hv1.1) hc8).trans (hok1.2.2.1 _ hv1.1).1
        have hwl : k0 / 8 ≤ ((zA st rc sd told mb i).st.wt (k0 % 8)).length := by rw [hwt1]; exact hv1.2.2
        have h60 := (hok1.2.2.1 _ hv1.1).2
        have hq2 : k0 / 8 ≤ zb (zck ((zA st rc sd told mb i).st.lg (k0 % 8))) (k0 % 8) := by rw [hzc]; exact hwl
        refine zr_V (As := [.int (nI (k0 % 8)), .int (nI (k0 / 8))]) (rest := []) (q := (RC, TC, 14)) ⟨hx, hb, hml, hown, hz⟩ (kC_weight_in l G B Mi x n mb z (zA st rc sd told mb i).st.fl.length (zA st rc sd told mb i).st.se (zA st rc sd told mb i).st.lo (zA st rc sd told mb i).st.go (zA st rc sd told mb i).st.pa hn hx0 (fun a9 => zck ((zA st rc sd told mb i).st.lg a9)) hck hwts (fun k => nI (((zA st rc sd told mb i).st.wt (k0 % 8)).getD k 0)) (k0 % 8) (k0 / 8) hv1.1 hwr hv1.2.1 hq2 (by omega)) (zt_V zm_329 zm_111 zm_112 zm_1 zm_113) rfl rfl rfl (show _ ∧ _ ∧ _ ∧ _ = some 2 from by decide +kernel) ⟨Nat.le_of_ble_eq_true rfl, Nat.le_of_ble_eq_true rfl⟩ zE_blind (zE_at hE hS) hH hK hx0 rfl rfl hl.1 rfl (Nat.le_of_ble_eq_true rfl) dC_answer_82 ⟨by show 2 * (i - (zA st rc sd told mb i).part.length) ≤ 960; omega, by show 7 * (i - (zA st rc sd told mb i).part.length) ≤ 3360; omega⟩ ?_
        refine zw_ti (by show nI (((zA st rc sd told mb i).st.wt (k0 % 8)).getD (k0 / 8 - 1) 0) = _; rw [hwt1]) ?_
        refine lv_istore (lv' := [(8, .int (nI (zwo st.wt k0))), (7, .int (nI k0)), (0, .ref x), (1, .ref q), (2, .int (nI rc)), (3, .int (nI ((zA st rc sd told mb i).parts))), (4, .int (nI ((zA st rc sd told mb i).part.length))), (5, .int (nI ((zA st rc sd told mb i).byt))), (6, .int (nI i))]) hx hb dC_answer_85 hl (by decide) rfl (fun ls hl => ?_)
        refine lv_iload hx hb dC_answer_87 (lv_at hl 6 rfl) ?_
        refine zc_le0 (tgt := 126) hx hb dC_answer_89 (by decide) (by omega) (fun b4 => ?_) (fun b4 => ?_)
        · have hT : zA st rc sd told mb (i + 1) = zAn.mk (zA st rc sd told mb i).st (zA st rc sd told mb i).parts ((zA st rc sd told mb i).part ++ [k0]) ((zA st rc sd told mb i).byt + zwo st.wt k0) := by rw [hs1]; unfold zan; rw [if_neg (by omega), if_neg (by rw [hwt1]; omega), hwt1]
          refine lv_aload_n hx hb dC_answer_126 rfl (lv_at hl 2 rfl) ?_
          refine va_get (D := G.1) (ci := 1) (v := .ref (z + 6 + 2 * n)) (C := RC) (T := TC) (N := 14) hx hb hz iC hown hK (hH.one hx0) 0 rfl rfl 9 (by decide) (hz _ zm_40) (fun _ h9 => h9) rfl dC_answer_127 ?_
          refine lv_iload hx hb dC_answer_130 (lv_at hl 6 rfl) ?_
          refine lv_iload hx hb dC_answer_132 (lv_at hl 1 rfl) ?_
          have hsz : Hi.size = Hi.size := rfl
          refine zw_iast hx hb hK hH hS 0 hga rfl ((zA st rc sd told mb i).part.length) rfl (by omega) (by omega) dC_answer_134 (fun H1 L1 hH hz1 hS => ?_)
          have hsz : H1.size = Hi.size := hz1
          obtain ⟨M1, hM1⟩ : ∃ Mq, Mq = zw_u Mi (z + 6 + 2 * n) (.inl (G.2.1 0, n * 60, .inl (upd g1 ((zA st rc sd told mb i).part.length) (nI k0)))) := ⟨_, rfl⟩
          have hH : zw_H G.1 zCl B M1 H1 := by rw [hM1]; exact hH
          have hx0 : M1 x = some (.inr (1, zoC n mb z ((zA st rc sd told mb i).st.fl.length) ((zA st rc sd told mb i).st.se) ((zA st rc sd told mb i).st.lo) ((zA st rc sd told mb i).st.go) ((zA st rc sd told mb i).st.pa))) := by rw [hM1, zw_un _ _ (by omega)]; exact hx0
          have hck : M1 (z + 1) = some (.inl (G.2.1 1, n, .inr (.inl (fun a9 => zck ((zA st rc sd told mb i).st.lg a9))))) := by rw [hM1, zw_un _ _ (by omega)]; exact hck
          have hlgs : M1 (z + 2) = some (.inl (G.2.1 4, n, .inr (.inr (.inr (.inr (fun a9 => some (z + 3 + a9))))))) := by rw [hM1, zw_un _ _ (by omega)]; exact hlgs
          have hlz : M1 (z + 3 + n) = some (.inl (G.2.1 0, n, .inl (fun a9 => nI (((zA st rc sd told mb i).st.lg a9).length)))) := by rw [hM1, zw_un _ _ (by omega)]; exact hlz
          have hwts : M1 (z + 4 + n) = some (.inl (G.2.1 4, n, .inr (.inr (.inr (.inr (fun a9 => some (z + 5 + n + a9))))))) := by rw [hM1, zw_un _ _ (by omega)]; exact hwts
          have hlgr : M1 (z + 3 + rc) = some (.inl (G.2.1 0, n * 60, .inl (fun k => nI (((zA st rc sd told mb i).st.lg rc).getD k 0)))) := by rw [hM1, zw_un _ _ (by omega)]; exact hlgr
          have hq1 : M1 q = some (.inr (0, zoM num (nI sd) (nI rc) byt told ch)) := by rw [hM1, zw_un _ _ (by omega)]; exact hq1
          have hga : M1 (z + 6 + 2 * n) = some (.inl (G.2.1 0, n * 60, .inl (upd g1 ((zA st rc sd told mb i).part.length) (nI k0)))) := by rw [hM1]; exact zw_us _ _ _
          refine lv_iinc (v := (nI (((zA st rc sd told mb i).part.length) + 1))) (lv' := [(4, .int (nI (((zA st rc sd told mb i).part.length) + 1))), (8, .int (nI (zwo st.wt k0))), (7, .int (nI k0)), (0, .ref x), (1, .ref q), (2, .int (nI rc)), (3, .int (nI ((zA st rc sd told mb i).parts))), (5, .int (nI ((zA st rc sd told mb i).byt))), (6, .int (nI i))]) hx hb dC_answer_135 hl (k := 6) rfl (nI_add _ _) (by decide) rfl (fun ls hl => ?_)
          refine lv_iload hx hb dC_answer_138 (lv_at hl 7 rfl) ?_
          refine lv_iload hx hb dC_answer_140 (lv_at hl 1 rfl) ?_
          refine lv_iadd hx hb dC_answer_142 ?_
          refine zw_ti (nI_add _ _) ?_
          refine lv_istore (lv' := [(5, .int (nI (((zA st rc sd told mb i).byt) + (zwo st.wt k0)))), (4, .int (nI (((zA st rc sd told mb i).part.length) + 1))), (8, .int (nI (zwo st.wt k0))), (7, .int (nI k0)), (0, .ref x), (1, .ref q), (2, .int (nI rc)), (3, .int (nI ((zA st rc sd told mb i).parts))), (6, .int (nI i))]) hx hb dC_answer_143 hl (by decide) rfl (fun ls hl => ?_)
          refine lv_iinc (v := (nI (i + 1))) (lv' := [(6, .int (nI (i + 1))), (5, .int (nI (((zA st rc sd told mb i).byt) + (zwo st.wt k0)))), (4, .int (nI (((zA st rc sd told mb i).part.length) + 1))), (8, .int (nI (zwo st.wt k0))), (7, .int (nI k0)), (0, .ref x), (1, .ref q), (2, .int (nI rc)), (3, .int (nI ((zA st rc sd told mb i).parts)))]) hx hb dC_answer_145 hl (k := 8) rfl (nI_add _ _) (by decide) rfl (fun ls hl => ?_)
          refine lv_goto (tgt := 16) hx hb dC_answer_148 (by decide) ?_
          have hk2 : ∀ a : Nat, a ≠ z + 6 + 2 * n → M1 a = Mi a := fun a h1 => by rw [hM1, zw_un _ _ h1]
          refine W.widen (k := 2 * ((i + 1) - (zA st rc sd told mb (i + 1)).part.length)) (n := 7 * ((i + 1) - (zA st rc sd told mb (i + 1)).part.length)) (by rw [hT]; show 2 * (i - _) ≤ 2 * (i + 1 - (_ ++ [k0]).length); rw [List.length_append]; show _ ≤ 2 * (i + 1 - (_ + 1)); omega) (by rw [hT]; show 7 * (i - _) ≤ 7 * (i + 1 - (_ ++ [k0]).length); rw [List.length_append]; show _ ≤ 7 * (i + 1 - (_ + 1)); omega) ?_
          exact ih b1 ls H1 _ _ _ ⟨lv_sub hl [5, 6, 7, 8, 2, 1, 0] (by rw [hT]; show _ = [_, _, _, _, (4, Value.int (nI (_ ++ [k0]).length)), _, _]; rw [List.length_append]; rfl), ⟨rfl, rfl⟩, M1, hH, hS, by rw [hT]; exact ⟨⟨qs1, _, hR1.gat (fun a e h1 h2 => (hk2 a h1).trans h2) hga, zgat hg1⟩, fun a h1 h2 h3 => (hk2 a (by omega)).trans (hfr a h1 h2 h3), by show sz ≤ H1.size; omega⟩⟩
        · refine lv_iload hx hb dC_answer_92 (lv_at hl 7 rfl) ?_
          refine lv_iload hx hb dC_answer_94 (lv_at hl 0 rfl) ?_
          refine lv_iadd hx hb dC_answer_96 ?_
          refine zw_ti (nI_add _ _) ?_
          refine lv_aload_n hx hb dC_answer_97 rfl (lv_at hl 2 rfl) ?_
          refine va_get (D := G.1) (ci := 1) (v := .int (nI mb)) (C := RC) (T := TC) (N := 14) hx hb hz iC hown hK (hH.one hx0) 0 rfl rfl 1 (by decide) (hz _ zm_32) (fun _ h9 => h9) rfl dC_answer_98 ?_
          refine zc_le (tgt := 126) hx hb dC_answer_101 (by decide) (by omega) (by omega) (fun b5 => ?_) (fun b5 => ?_)
          · have hT : zA st rc sd told mb (i + 1) = zAn.mk (zA st rc sd told mb i).st (zA st rc sd told mb i).parts ((zA st rc sd told mb i).part ++ [k0]) ((zA st rc sd told mb i).byt + zwo st.wt k0) := by rw [hs1]; unfold zan; rw [if_neg (by omega), if_neg (by rw [hwt1]; omega), hwt1]
            refine lv_aload_n hx hb dC_answer_126 rfl (lv_at hl 2 rfl) ?_
            refine va_get (D := G.1) (ci := 1) (v := .ref (z + 6 + 2 * n)) (C := RC) (T := TC) (N := 14) hx hb hz iC hown hK (hH.one hx0) 0 rfl rfl 9 (by decide) (hz _ zm_40) (fun _ h9 => h9) rfl dC_answer_127 ?_
            refine lv_iload hx hb dC_answer_130 (lv_at hl 6 rfl) ?_
            refine lv_iload hx hb dC_answer_132 (lv_at hl 1 rfl) ?_
            have hsz : Hi.size = Hi.size := rfl
            refine zw_iast hx hb hK hH hS 0 hga rfl ((zA st rc sd told mb i).part.length) rfl (by omega) (by omega) dC_answer_134 (fun H1 L1 hH hz1 hS => ?_)
            have hsz : H1.size = Hi.size := hz1
            obtain ⟨M1, hM1⟩ : ∃ Mq, Mq = zw_u Mi (z + 6 + 2 * n) (.inl (G.2.1 0, n * 60, .inl (upd g1 ((zA st rc sd told mb i).part.length) (nI k0)))) := ⟨_, rfl⟩
            have hH : zw_H G.1 zCl B M1 H1 := by rw [hM1]; exact hH
            have hx0 : M1 x = some (.inr (1, zoC n mb z ((zA st rc sd told mb i).st.fl.length) ((zA st rc sd told mb i).st.se) ((zA st rc sd told mb i).st.lo) ((zA st rc sd told mb i).st.go) ((zA st rc sd told mb i).st.pa))) := by rw [hM1, zw_un _ _ (by omega)]; exact hx0
            have hck : M1 (z + 1) = some (.inl (G.2.1 1, n, .inr (.inl (fun a9 => zck ((zA st rc sd told mb i).st.lg a9))))) := by rw [hM1, zw_un _ _ (by omega)]; exact hck
            have hlgs : M1 (z + 2) = some (.inl (G.2.1 4, n, .inr (.inr (.inr (.inr (fun a9 => some (z + 3 + a9))))))) := by rw [hM1, zw_un _ _ (by omega)]; exact hlgs
            have hlz : M1 (z + 3 + n) = some (.inl (G.2.1 0, n, .inl (fun a9 => nI (((zA st rc sd told mb i).st.lg a9).length)))) := by rw [hM1, zw_un _ _ (by omega)]; exact hlz
            have hwts : M1 (z + 4 + n) = some (.inl (G.2.1 4, n, .inr (.inr (.inr (.inr (fun a9 => some (z + 5 + n + a9))))))) := by rw [hM1, zw_un _ _ (by omega)]; exact hwts
            have hlgr : M1 (z + 3 + rc) = some (.inl (G.2.1 0, n * 60, .inl (fun k => nI (((zA st rc sd told mb i).st.lg rc).getD k 0)))) := by rw [hM1, zw_un _ _ (by omega)]; exact hlgr
            have hq1 : M1 q = some (.inr (0, zoM num (nI sd) (nI rc) byt told ch)) := by rw [hM1, zw_un _ _ (by omega)]; exact hq1
            have hga : M1 (z + 6 + 2 * n) = some (.inl (G.2.1 0, n * 60, .inl (upd g1 ((zA st rc sd told mb i).part.length) (nI k0)))) := by rw [hM1]; exact zw_us _ _ _
            refine lv_iinc (v := (nI (((zA st rc sd told mb i).part.length) + 1))) (lv' := [(4, .int (nI (((zA st rc sd told mb i).part.length) + 1))), (8, .int (nI (zwo st.wt k0))), (7, .int (nI k0)), (0, .ref x), (1, .ref q), (2, .int (nI rc)), (3, .int (nI ((zA st rc sd told mb i).parts))), (5, .int (nI ((zA st rc sd told mb i).byt))), (6, .int (nI i))]) hx hb dC_answer_135 hl (k := 6) rfl (nI_add _ _) (by decide) rfl (fun ls hl => ?_)
            refine lv_iload hx hb dC_answer_138 (lv_at hl 7 rfl) ?_
            refine lv_iload hx hb dC_answer_140 (lv_at hl 1 rfl) ?_
            refine lv_iadd hx hb dC_answer_142 ?_
            refine zw_ti (nI_add _ _) ?_
            refine lv_istore (lv' := [(5, .int (nI (((zA st rc sd told mb i).byt) + (zwo st.wt k0)))), (4, .int (nI (((zA st rc sd told mb i).part.length) + 1))), (8, .int (nI (zwo st.wt k0))), (7, .int (nI k0)), (0, .ref x), (1, .ref q), (2, .int (nI rc)), (3, .int (nI ((zA st rc sd told mb i).parts))), (6, .int (nI i))]) hx hb dC_answer_143 hl (by decide) rfl (fun ls hl => ?_)
            refine lv_iinc (v := (nI (i + 1))) (lv' := [(6, .int (nI (i + 1))), (5, .int (nI (((zA st rc sd told mb i).byt) + (zwo st.wt k0)))), (4, .int (nI (((zA st rc sd told mb i).part.length) + 1))), (8, .int (nI (zwo st.wt k0))), (7, .int (nI k0)), (0, .ref x), (1, .ref q), (2, .int (nI rc)), (3, .int (nI ((zA st rc sd told mb i).parts)))]) hx hb dC_answer_145 hl (k := 8) rfl (nI_add _ _) (by decide) rfl (fun ls hl => ?_)
            refine lv_goto (tgt := 16) hx hb dC_answer_148 (by decide) ?_
            have hk2 : ∀ a : Nat, a ≠ z + 6 + 2 * n → M1 a = Mi a := fun a h1 => by rw [hM1, zw_un _ _ h1]
            refine W.widen (k := 2 * ((i + 1) - (zA st rc sd told mb (i + 1)).part.length)) (n := 7 * ((i + 1) - (zA st rc sd told mb (i + 1)).part.length)) (by rw [hT]; show 2 * (i - _) ≤ 2 * (i + 1 - (_ ++ [k0]).length); rw [List.length_append]; show _ ≤ 2 * (i + 1 - (_ + 1)); omega) (by rw [hT]; show 7 * (i - _) ≤ 7 * (i + 1 - (_ ++ [k0]).length); rw [List.length_append]; show _ ≤ 7 * (i + 1 - (_ + 1)); omega) ?_
            exact ih b1 ls H1 _ _ _ ⟨lv_sub hl [5, 6, 7, 8, 2, 1, 0] (by rw [hT]; show _ = [_, _, _, _, (4, Value.int (nI (_ ++ [k0]).length)), _, _]; rw [List.length_append]; rfl), ⟨rfl, rfl⟩, M1, hH, hS, by rw [hT]; exact ⟨⟨qs1, _, hR1.gat (fun a e h1 h2 => (hk2 a h1).trans h2) hga, zgat hg1⟩, fun a h1 h2 h3 => (hk2 a (by omega)).trans (hfr a h1 h2 h3), by show sz ≤ H1.size; omega⟩⟩
          · have hT : zA st rc sd told mb (i + 1) = zAn.mk (zsend (zA st rc sd told mb i).st rc sd (zA st rc sd told mb i).byt none (zA st rc sd told mb i).part) ((zA st rc sd told mb i).parts + 1) [k0] (3 + zwo st.wt k0) := by rw [hs1]; unfold zan; rw [if_neg (by omega), if_pos (by rw [hwt1]; exact ⟨b4, b5⟩), hwt1]
            refine lv_aload_n hx hb dC_answer_104 rfl (lv_at hl 2 rfl) ?_
            refine lv_iload_n hx hb dC_answer_105 rfl (lv_at hl 4 rfl) ?_
            refine lv_aload_n hx hb dC_answer_106 rfl (lv_at hl 3 rfl) ?_
            refine va_get (D := G.1) (ci := 0) (v := .int (nI sd)) (C := RM) (T := TM) (N := 6) hx hb hz iM hown hK (hH.one hq1) 0 rfl rfl 1 (by decide) (hz _ zm_286) (fun _ h9 => h9) rfl dC_answer_107 ?_
            refine lv_iload hx hb dC_answer_110 (lv_at hl 7 rfl) ?_
            refine lv_iload hx hb dC_answer_112 (lv_at hl 6 rfl) ?_
            refine zr_Vv (As := [.int (nI rc), .int (nI sd), .int (nI ((zA st rc sd told mb i).byt)), .int (nI ((zA st rc sd told mb i).part.length))]) (rest := []) (q := (RC, TC, 14)) (mc := 2) (ms := 6 + (zA st rc sd told mb i).part.length) ⟨hx, hb, hml, hown, hz⟩ (kC_sendGathered l G B Mi _ x z L n mb (zA st rc sd told mb i).st qs1 g1 hn hR1 (by omega) rc sd (zA st rc sd told mb i).byt (zA st rc sd told mb i).part (by omega) hg1 hok1.fl) (zt_V zm_330 zm_332 zs_13 zm_1 zm_333) rfl rfl rfl (show _ ∧ _ ∧ _ ∧ _ = some 4 from by decide +kernel) ⟨Nat.le_of_ble_eq_true rfl, Nat.le_of_ble_eq_true rfl⟩ zE_blind (zE_at hE hS) hH hK hx0 rfl rfl hS hl.1 rfl (Nat.le_of_ble_eq_true rfl) dC_answer_114 ⟨by show 2 * (i - (zA st rc sd told mb i).part.length) + 2 ≤ 960; omega, by show 7 * (i - (zA st rc sd told mb i).part.length) + (6 + (zA st rc sd told mb i).part.length) ≤ 3360; omega⟩ (fun M1 sz1 H1 L1 hp hH hz1 hz2 hS => ?_)
            obtain ⟨⟨qs2, g2, hR2⟩, hfr2, hz3⟩ := hp
            have hfr2 : zfr x z n Hi.size Mi M1 := hfr2
            have hR2 : zCR G M1 x z L n mb _ qs2 g2 := hR2
            have hx0 := hR2.obj
            have hga := hR2.ga
            have hxz := hR2.xz
            have hzL := hR2.zL
            refine lv_iinc (v := (nI (((zA st rc sd told mb i).parts) + 1))) (lv' := [(3, .int (nI (((zA st rc sd told mb i).parts) + 1))), (8, .int (nI (zwo st.wt k0))), (7, .int (nI k0)), (0, .ref x), (1, .ref q), (2, .int (nI rc)), (4, .int (nI ((zA st rc sd told mb i).part.length))), (5, .int (nI ((zA st rc sd told mb i).byt))), (6, .int (nI i))]) hx hb dC_answer_117 hl (k := 5) rfl (nI_add _ _) (by decide) rfl (fun ls hl => ?_)
            refine lv_iconst (v := nI 0) hx hb dC_answer_120 (by decide) ?_
            refine lv_istore (lv' := [(4, .int (nI 0)), (3, .int (nI (((zA st rc sd told mb i).parts) + 1))), (8, .int (nI (zwo st.wt k0))), (7, .int (nI k0)), (0, .ref x), (1, .ref q), (2, .int (nI rc)), (5, .int (nI ((zA st rc sd told mb i).byt))), (6, .int (nI i))]) hx hb dC_answer_121 hl (by decide) rfl (fun ls hl => ?_)
            refine lv_iconst (v := nI 3) hx hb dC_answer_123 (by decide) ?_
            refine lv_istore (lv' := [(5, .int (nI 3)), (4, .int (nI 0)), (3, .int (nI (((zA st rc sd told mb i).parts) + 1))), (8, .int (nI (zwo st.wt k0))), (7, .int (nI k0)), (0, .ref x), (1, .ref q), (2, .int (nI rc)), (6, .int (nI i))]) hx hb dC_answer_124 hl (by decide) rfl (fun ls hl => ?_)
            refine lv_aload_n hx hb dC_answer_126 rfl (lv_at hl 5 rfl) ?_
            refine va_get (D := G.1) (ci := 1) (v := .ref (z + 6 + 2 * n)) (C := RC) (T := TC) (N := 14) hx hb hz iC hown hK (hH.one hx0) 0 rfl rfl 9 (by decide) (hz _ zm_40) (fun _ h9 => h9) rfl dC_answer_127 ?_
            refine lv_iload hx hb dC_answer_130 (lv_at hl 1 rfl) ?_
            refine lv_iload hx hb dC_answer_132 (lv_at hl 4 rfl) ?_
            have hsz : H1.size = H1.size := rfl
            refine zw_iast hx hb hK hH hS 0 hga rfl (0) rfl (by omega) (by omega) dC_answer_134 (fun H2 L2 hH hz1 hS => ?_)
            have hsz : H2.size = H1.size := hz1
            obtain ⟨M2, hM2⟩ : ∃ Mq, Mq = zw_u M1 (z + 6 + 2 * n) (.inl (G.2.1 0, n * 60, .inl (upd g2 0 (nI k0)))) := ⟨_, rfl⟩
            have hH : zw_H G.1 zCl B M2 H2 := by rw [hM2]; exact hH
            have hx0 : M2 x = some (.inr (1, zoC n mb z ((zsend (zA st rc sd told mb i).st rc sd (zA st rc sd told mb i).byt none (zA st rc sd told mb i).part).fl.length) ((zsend (zA st rc sd told mb i).st rc sd (zA st rc sd told mb i).byt none (zA st rc sd told mb i).part).se) ((zsend (zA st rc sd told mb i).st rc sd (zA st rc sd told mb i).byt none (zA st rc sd told mb i).part).lo) ((zsend (zA st rc sd told mb i).st rc sd (zA st rc sd told mb i).byt none (zA st rc sd told mb i).part).go) ((zsend (zA st rc sd told mb i).st rc sd (zA st rc sd told mb i).byt none (zA st rc sd told mb i).part).pa))) := by rw [hM2, zw_un _ _ (by omega)]; exact hx0
            have hga : M2 (z + 6 + 2 * n) = some (.inl (G.2.1 0, n * 60, .inl (upd g2 0 (nI k0)))) := by rw [hM2]; exact zw_us _ _ _
            refine lv_iinc (v := (nI (0 + 1))) (lv' := [(4, .int (nI (0 + 1))), (5, .int (nI 3)), (3, .int (nI (((zA st rc sd told mb i).parts) + 1))), (8, .int (nI (zwo st.wt k0))), (7, .int (nI k0)), (0, .ref x), (1, .ref q), (2, .int (nI rc)), (6, .int (nI i))]) hx hb dC_answer_135 hl (k := 1) rfl (nI_add _ _) (by decide) rfl (fun ls hl => ?_)
            refine lv_iload hx hb dC_answer_138 (lv_at hl 1 rfl) ?_
            refine lv_iload hx hb dC_answer_140 (lv_at hl 3 rfl) ?_
            refine lv_iadd hx hb dC_answer_142 ?_
            refine zw_ti (nI_add _ _) ?_
            refine lv_istore (lv' := [(5, .int (nI (3 + (zwo st.wt k0)))), (4, .int (nI (0 + 1))), (3, .int (nI (((zA st rc sd told mb i).parts) + 1))), (8, .int (nI (zwo st.wt k0))), (7, .int (nI k0)), (0, .ref x), (1, .ref q), (2, .int (nI rc)), (6, .int (nI i))]) hx hb dC_answer_143 hl (by decide) rfl (fun ls hl => ?_)
            refine lv_iinc (v := (nI (i + 1))) (lv' := [(6, .int (nI (i + 1))), (5, .int (nI (3 + (zwo st.wt k0)))), (4, .int (nI (0 + 1))), (3, .int (nI (((zA st rc sd told mb i).parts) + 1))), (8, .int (nI (zwo st.wt k0))), (7, .int (nI k0)), (0, .ref x), (1, .ref q), (2, .int (nI rc))]) hx hb dC_answer_145 hl (k := 8) rfl (nI_add _ _) (by decide) rfl (fun ls hl => ?_)
            refine lv_goto (tgt := 16) hx hb dC_answer_148 (by decide) ?_
            have hk2 : ∀ a : Nat, a ≠ z + 6 + 2 * n → M2 a = M1 a := fun a h1 => by rw [hM2, zw_un _ _ h1]
            refine W.widen (k := 2 * ((i + 1) - (zA st rc sd told mb (i + 1)).part.length)) (n := 7 * ((i + 1) - (zA st rc sd told mb (i + 1)).part.length)) (by rw [hT]; show _ ≤ 2 * (i + 1 - 1); omega) (by rw [hT]; show _ ≤ 7 * (i + 1 - 1); omega) ?_
            exact ih b1 ls H2 _ _ _ ⟨lv_sub hl [6, 7, 8, 3, 2, 1, 0] (by rw [hT]; rfl), ⟨rfl, rfl⟩, M2, hH, hS, by rw [hT]; exact ⟨⟨qs2, _, hR2.gat (fun a e h1 h2 => (hk2 a h1).trans h2) hga, fun k hk => by have hk : k < 1 := hk; rw [show k = 0 by omega]; exact if_pos rfl⟩, fun a h1 h2 h3 => (hk2 a (by omega)).trans ((hfr.tr hfr2 hszi) a h1 h2 h3), by show sz ≤ H2.size; omega⟩⟩
      · have hT : zA st rc sd told mb (i + 1) = (zA st rc sd told mb i) := by rw [hs1]; exact if_pos b3
        refine lv_goto (tgt := 145) hx hb dC_answer_68 (by decide) ?_
        refine lv_iinc (v := (nI (i + 1))) (lv' := [(6, .int (nI (i + 1))), (7, .int (nI k0)), (0, .ref x), (1, .ref q), (2, .int (nI rc)), (3, .int (nI ((zA st rc sd told mb i).parts))), (4, .int (nI ((zA st rc sd told mb i).part.length))), (5, .int (nI ((zA st rc sd told mb i).byt)))]) hx hb dC_answer_145 hl (k := 7) rfl (nI_add _ _) (by decide) rfl (fun ls hl => ?_)
        refine lv_goto (tgt := 16) hx hb dC_answer_148 (by decide) ?_
        refine W.widen (k := 2 * ((i + 1) - (zA st rc sd told mb (i + 1)).part.length)) (n := 7 * ((i + 1) - (zA st rc sd told mb (i + 1)).part.length)) (by rw [hT]; omega) (by rw [hT]; omega) ?_
        exact ih b1 ls Hi _ _ _ ⟨lv_sub hl [2, 3, 4, 5, 6, 7, 0] (by rw [hT]; rfl), ⟨rfl, rfl⟩, Mi, hH, hS, by rw [hT]; exact ⟨⟨qs1, g1, hR1, hg1⟩, hfr, hszi⟩⟩
end
section
/-! THE CLASS: twice, deliver, make, where they return -/
theorem zMr.opn {G : zG} {M : zw_M} {L q : Nat} {mg : zMg} (h : zMr G M L q mg) : ∃ (told : Int64) (ch : Nat), L < q ∧ M q = some (.inr (0, zoM (nI mg.num) (nI mg.snd) (nI mg.rcv) (nI mg.byt) told ch)) ∧ (∀ k, mg.ck = some k → told = k ∧ ch = G.2.2) ∧ (mg.ck = none → told = -1 ∧ L < ch ∧ ∃ f : Nat → Int32, M ch = some (.inl (G.2.1 0, mg.chs.length, .inl f)) ∧ ∀ k, k < mg.chs.length → f k = nI (mg.chs.getD k 0)) := by
  unfold zMr at h
  obtain ⟨h1, h2⟩ := h
  cases hk : mg.ck with
  | some k =>
    rw [hk] at h2
    exact ⟨k, G.2.2, h1, h2, fun k2 e => ⟨Option.some.inj e, rfl⟩, fun e => by cases e⟩
  | none =>
    rw [hk] at h2
    obtain ⟨ch, f, a1, a2, a3, a4⟩ := h2
    exact ⟨-1, ch, h1, a2, fun k e => (by cases e), fun _ => ⟨rfl, a1, f, a3, a4⟩⟩
theorem zMr.copy {G : zG} {M M' : zw_M} {L q' : Nat} {mg : zMg} {num' : Nat} {told : Int64} {ch : Nat} (hq' : L < q') (h0 : M' q' = some (.inr (0, zoM (nI num') (nI mg.snd) (nI mg.rcv) (nI mg.byt) told ch))) (h1 : ∀ k, mg.ck = some k → told = k ∧ ch = G.2.2) (h2 : mg.ck = none → told = -1 ∧ L < ch ∧ ∃ f : Nat → Int32, M ch = some (.inl (G.2.1 0, mg.chs.length, .inl f)) ∧ ∀ k, k < mg.chs.length → f k = nI (mg.chs.getD k 0)) (hM : ∀ (a : Nat) (e : va_E), L < a → M a = some e → M' a = some e) : zMr G M' L q' (zMg.mk num' mg.snd mg.rcv mg.byt mg.ck mg.chs) := by
  unfold zMr
  refine ⟨hq', ?_⟩
  cases hk : mg.ck with
  | some k =>
    obtain ⟨e1, e2⟩ := h1 k hk
    subst e1; subst e2
    exact h0
  | none =>
    obtain ⟨e1, e2, f, e3, e4⟩ := h2 hk
    subst e1
    exact ⟨ch, f, e2, h0, hM _ _ e2 e3, e4⟩
set_option maxHeartbeats 4000000 in
set_option maxRecDepth 100000 in
theorem kC_twice_yes (l : Launch) (G : zG) (B : Nat) (M : zw_M) (sz : Nat) (x z L n mb : Nat) (st : zSt) (qs : List Nat) (g : Nat → Int32) (hn : n ≤ 8) (hR : zCR G M x z L n mb st qs g) (hL : L < sz) (j : Nat) (mg : zMg) (hj : j < st.fl.length) (hmg : st.fl[j]? = some mg) (hlt : st.fl.length < 120) : Met l yC_twice (Cond.code yC_twice bC_twice 4 (some .int) :: zT) { frames := 2, cells := 1, slots := 6, locals := 40 } (zq G B M sz [.ref x, .int (nI j)]) (va_Qi (fun (r : Int32) (u : zw_M × Nat) => r = nI st.se ∧ zCO G x z L n mb sz M (zsend st mg.snd mg.rcv mg.byt mg.ck mg.chs) u) (zr_o G.1 zCl B) (zw_A B)) (1) (6) (zw_A B) := by
  refine Met.ofW (cc := bC_twice) (maxL := 4) (ret := (some .int)) (by decide) rfl ?_
  intro p e s m args below meth c s₁ B0 hml hv
  obtain ⟨rfl, hE, hH, hsz⟩ := hv
  have hx := B0.exec
  have hb := B0.bytes
  have hr := B0.returns
  have hlocks := B0.notSynchronized
  have hz : ∀ w ∈ zT, w.before _ s = true := fun w h => atoms_spec (ws := Cond.code yC_twice bC_twice 4 (some .int) :: zT) B0.pre w (List.mem_cons_of_mem _ h)
  have hown : s.vm.findClass RC = some m.cls := findClass_of_methodNamed B0.named
  have hK := hE.1
  have hl := lv_entry ([.ref x, .int (nI j)]) (n := 4) (Nat.le_of_ble_eq_true rfl)
  rw [lg_entry_eq]
  generalize (lg_sl ([.ref x, .int (nI j)]) ++ List.replicate (4 - (lg_sl ([.ref x, .int (nI j)])).length) Slot.unset).toArray = ls at hl ⊢
  have hl : lv_has ls 4 [(0, .ref x), (1, .int (nI j))] := hl
  have hS : va_S (zw_A B) s.heap s.heap [] := va_S.rf
  have hin : meth.name = "twice" := (name_of_methodNamed B0.named B0.method).1
  have hlt0 : ∀ (a : Nat) (e : va_E), M a = some e → a < sz := fun a e h => by rw [← hsz]; exact hH.lt h
  obtain ⟨q, mg1, hq, hmg1, hmr⟩ := hR.at hj
  have hmm : mg1 = mg := Option.some.inj (hmg1.symm.trans hmg)
  rw [hmm] at hmr
  obtain ⟨told, ch, hqL, hq0, hcc, hcp⟩ := hmr.opn
  have hqz := hlt0 q _ hq0
  have hx0 := hR.obj
  have hfl := hR.fl
  have hxz := hR.xz
  have hzL := hR.zL
  refine lv_aload_n hx hb dC_twice_0 rfl (lv_at hl 0 rfl) ?_
  refine lv_iload_n hx hb dC_twice_1 rfl (lv_at hl 1 rfl) ?_
  refine zr_V (As := [.int (nI j)]) (rest := []) (q := (RC, TC, 14)) ⟨hx, hb, hml, hown, hz⟩ (kC_messageAt_in l G B M x n mb z st.fl.length st.se st.lo st.go st.pa hn hx0 (fun i => qs[i]?) hfl (by omega) j q hj hq) (zt_V zm_81 zm_83 zs_0 zm_1 zm_84) rfl rfl rfl (show _ ∧ _ ∧ _ ∧ _ = some 1 from by decide +kernel) ⟨Nat.le_of_ble_eq_true rfl, Nat.le_of_ble_eq_true rfl⟩ zE_blind (zE_at hE hS) hH hK hx0 rfl rfl hl.1 rfl (Nat.le_of_ble_eq_true rfl) dC_twice_2 ⟨Nat.le_of_ble_eq_true rfl, Nat.le_of_ble_eq_true rfl⟩ ?_
  refine lv_astore_n (lv' := [(2, .ref q), (0, .ref x), (1, .int (nI j))]) hx hb dC_twice_5 rfl hl (by decide) rfl (fun ls hl => ?_)
  refine lv_aload_n hx hb dC_twice_6 rfl (lv_at hl 0 rfl) ?_
  refine lv_ifnonnull (tgt := 20) hx hb dC_twice_7 (by decide) ?_
  refine lv_aload_n hx hb dC_twice_20 rfl (lv_at hl 1 rfl) ?_
  refine va_get (D := G.1) (ci := 1) (v := .int (nI st.se)) (C := RC) (T := TC) (N := 14) hx hb hz iC hown hK (hH.one hx0) 0 rfl rfl 10 (by decide) (hz _ zm_41) (fun _ h9 => h9) rfl dC_twice_21 ?_
  refine lv_istore_n (lv' := [(3, .int (nI st.se)), (2, .ref q), (0, .ref x), (1, .int (nI j))]) hx hb dC_twice_24 rfl hl (by decide) rfl (fun ls hl => ?_)
  refine lv_aload_n hx hb dC_twice_25 rfl (lv_at hl 2 rfl) ?_
  refine zr_Vi (As := []) (rest := []) (q := (RC, TC, 14)) (mc := 0) (ms := 0) ⟨hx, hb, hml, hown, hz⟩ (kC_count_yes l G B M _ x n mb z st.fl.length st.se st.lo st.go st.pa hn hx0 hlt) (zt_V zm_272 zm_274 zs_10 zm_1 zm_275) rfl rfl rfl (show _ ∧ _ ∧ _ ∧ _ = some 0 from by decide +kernel) ⟨Nat.le_of_ble_eq_true rfl, Nat.le_of_ble_eq_true rfl⟩ zE_blind (zE_at hE hS) hH hK hx0 rfl rfl hS hl.1 rfl (Nat.le_of_ble_eq_true rfl) dC_twice_26 ⟨Nat.le_of_ble_eq_true rfl, Nat.le_of_ble_eq_true rfl⟩ (fun r1 M1 sz1 H1 L1 hp hH hz1 hz2 hS => ?_)
  obtain ⟨rfl, hp⟩ := hp
  have hM1 := (Prod.mk.inj hp).1
  have hsz : H1.size = sz := hz1.trans ((Prod.mk.inj hp).2.trans hsz)
  have hfl : M1 (z + 5 + 2 * n) = some (.inl (G.2.1 3, 120, .inr (.inr (.inr (.inr (fun i => qs[i]?)))))) := by rw [hM1, zw_un _ _ (by omega)]; exact hfl
  have hq0 : M1 q = some (.inr (0, zoM (nI mg.num) (nI mg.snd) (nI mg.rcv) (nI mg.byt) told ch)) := by rw [hM1, zw_un _ _ (by omega)]; exact hq0
  have hx0 : M1 x = some (.inr (1, zoC n mb z st.fl.length (st.se + 1) st.lo st.go st.pa)) := by rw [hM1]; exact zw_us _ _ _
  refine zc_eq0 (tgt := 64) hx hb dC_twice_29 (by decide) (by omega) (fun c => ?_) (fun c => ?_)
  · exact absurd c (by decide)
  · refine lv_aload_n hx hb dC_twice_32 rfl (lv_at hl 2 rfl) ?_
    refine zw_new (D := G.1) (ci := 0) (fs := [.int 0, .int 0, .int 0, .int 0, .long 0, .null]) (C := RM) (T := TM) (N := 6) hx hb hz iM tM tM_ok hown (hz _ zm_29) (hz _ zm_276) (hz _ zm_10) hK hH hS (Nat.le_trans hE.2.1 hS.1) rfl zM_def (Nat.le_of_ble_eq_true rfl) (Nat.le_of_ble_eq_true rfl) dC_twice_33 (fun H2 hH hz1 hS => ?_)
    rw [hsz] at hH hz1 ⊢
    have hsz : H2.size = sz + 1 := hz1
    obtain ⟨M2, hM2⟩ : ∃ Mq, Mq = zw_u M1 sz (.inr (0, [.int 0, .int 0, .int 0, .int 0, .long 0, .null])) := ⟨_, rfl⟩
    have hH : zw_H G.1 zCl B M2 H2 := by rw [hM2]; exact hH
    have hfl : M2 (z + 5 + 2 * n) = some (.inl (G.2.1 3, 120, .inr (.inr (.inr (.inr (fun i => qs[i]?)))))) := by rw [hM2, zw_un _ _ (by omega)]; exact hfl
    have hq0 : M2 q = some (.inr (0, zoM (nI mg.num) (nI mg.snd) (nI mg.rcv) (nI mg.byt) told ch)) := by rw [hM2, zw_un _ _ (by omega)]; exact hq0
    have hx0 : M2 x = some (.inr (1, zoC n mb z st.fl.length (st.se + 1) st.lo st.go st.pa)) := by rw [hM2, zw_un _ _ (by omega)]; exact hx0
    have hn0 : M2 sz = some (.inr (0, [.int 0, .int 0, .int 0, .int 0, .long 0, .null])) := by rw [hM2]; exact zw_us _ _ _
    refine lv_dup hx hb dC_twice_36 rfl ?_
    refine lv_iload_n hx hb dC_twice_37 rfl (lv_at hl 0 rfl) ?_
    refine lv_aload_n hx hb dC_twice_38 rfl (lv_at hl 1 rfl) ?_
    refine va_get (D := G.1) (ci := 0) (v := .int (nI mg.snd)) (C := RM) (T := TM) (N := 6) hx hb hz iM hown hK (hH.one hq0) 0 rfl rfl 1 (by decide) (hz _ zm_286) (fun _ h9 => h9) rfl dC_twice_39 ?_
    refine lv_aload_n hx hb dC_twice_42 rfl (lv_at hl 1 rfl) ?_
    refine va_get (D := G.1) (ci := 0) (v := .int (nI mg.rcv)) (C := RM) (T := TM) (N := 6) hx hb hz iM hown hK (hH.one hq0) 0 rfl rfl 2 (by decide) (hz _ zm_288) (fun _ h9 => h9) rfl dC_twice_43 ?_
    refine lv_aload_n hx hb dC_twice_46 rfl (lv_at hl 1 rfl) ?_
    refine va_get (D := G.1) (ci := 0) (v := .int (nI mg.byt)) (C := RM) (T := TM) (N := 6) hx hb hz iM hown hK (hH.one hq0) 0 rfl rfl 3 (by decide) (hz _ zm_290) (fun _ h9 => h9) rfl dC_twice_47 ?_
    refine lv_aload_n hx hb dC_twice_50 rfl (lv_at hl 1 rfl) ?_
    refine va_get (D := G.1) (ci := 0) (v := .long told) (C := RM) (T := TM) (N := 6) hx hb hz iM hown hK (hH.one hq0) 0 rfl rfl 4 (by decide) (hz _ zm_292) (fun _ h9 => h9) rfl dC_twice_51 ?_
    refine lv_aload_n hx hb dC_twice_54 rfl (lv_at hl 1 rfl) ?_
    refine va_get (D := G.1) (ci := 0) (v := .ref ch) (C := RM) (T := TM) (N := 6) hx hb hz iM hown hK (hH.one hq0) 0 rfl rfl 5 (by decide) (hz _ zm_294) (fun _ h9 => h9) rfl dC_twice_55 ?_
    refine zr_I (As := [.int (nI st.se), .int (nI mg.snd), .int (nI mg.rcv), .int (nI mg.byt), .long told, .ref ch]) (rest := [.ref sz, .ref x]) (mc := 0) (ms := 0) ⟨hx, hb, hml, hown, hz⟩ (kM_init l G B M2 _ sz (nI st.se) (nI mg.snd) (nI mg.rcv) (nI mg.byt) told ch _ _ _ _ _ _ hn0) (zt_I zm_281) rfl rfl rfl (hz _ zm_10) (hz _ zm_279) (hz _ zm_280) rfl (show _ ∧ _ ∧ _ = some 6 from by decide +kernel) ⟨Nat.le_of_ble_eq_true rfl, Nat.le_of_ble_eq_true rfl⟩ zE_blind (zE_at hE hS) hH hS hl.1 rfl (Nat.le_of_ble_eq_true rfl) dC_twice_58 ⟨Nat.le_of_ble_eq_true rfl, Nat.le_of_ble_eq_true rfl⟩ (fun M3 sz3 H3 L3 hp hH hz1 hz2 hS => ?_)
    have hM3 := (Prod.mk.inj hp).1
    have hsz : H3.size = sz + 1 := hz1.trans ((Prod.mk.inj hp).2.trans hsz)
    have hfl : M3 (z + 5 + 2 * n) = some (.inl (G.2.1 3, 120, .inr (.inr (.inr (.inr (fun i => qs[i]?)))))) := by rw [hM3, zw_un _ _ (by omega)]; exact hfl
    have hq0 : M3 q = some (.inr (0, zoM (nI mg.num) (nI mg.snd) (nI mg.rcv) (nI mg.byt) told ch)) := by rw [hM3, zw_un _ _ (by omega)]; exact hq0
    have hx0 : M3 x = some (.inr (1, zoC n mb z st.fl.length (st.se + 1) st.lo st.go st.pa)) := by rw [hM3, zw_un _ _ (by omega)]; exact hx0
    have hn0 : M3 sz = some (.inr (0, zoM (nI st.se) (nI mg.snd) (nI mg.rcv) (nI mg.byt) told ch)) := by rw [hM3]; exact zw_us _ _ _
    refine zr_Vv (As := [.ref sz]) (rest := []) (q := (RC, TC, 14)) (mc := 0) (ms := 0) ⟨hx, hb, hml, hown, hz⟩ (kC_put l G B M3 _ x n mb z st.fl.length (st.se + 1) st.lo st.go st.pa hn hx0 (fun i => qs[i]?) hfl hxz hlt sz _ hn0) (zt_V zm_308 zm_310 zs_11 zm_1 zm_311) rfl rfl rfl (show _ ∧ _ ∧ _ ∧ _ = some 1 from by decide +kernel) ⟨Nat.le_of_ble_eq_true rfl, Nat.le_of_ble_eq_true rfl⟩ zE_blind (zE_at hE hS) hH hK hx0 rfl rfl hS hl.1 rfl (Nat.le_of_ble_eq_true rfl) dC_twice_61 ⟨Nat.le_of_ble_eq_true rfl, Nat.le_of_ble_eq_true rfl⟩ (fun M4 sz4 H4 L4 hp hH hz1 hz2 hS => ?_)
    have hM4 := (Prod.mk.inj hp).1
    have hsz : H4.size = sz + 1 := hz1.trans ((Prod.mk.inj hp).2.trans hsz)
    have hn0 : M4 sz = some (.inr (0, zoM (nI st.se) (nI mg.snd) (nI mg.rcv) (nI mg.byt) told ch)) := by rw [hM4, zw_un _ _ (by omega), zw_un _ _ (by omega)]; exact hn0
    have hfl : M4 (z + 5 + 2 * n) = some (.inl (G.2.1 3, 120, .inr (.inr (.inr (.inr (va_up (fun i => qs[i]?) st.fl.length (some sz))))))) := by rw [hM4, zw_un _ _ (by omega)]; exact zw_us _ _ _
    have hx0 : M4 x = some (.inr (1, zoC n mb z (st.fl.length + 1) (st.se + 1) st.lo st.go st.pa)) := by rw [hM4]; exact zw_us _ _ _
    have hk : ∀ a : Nat, a ≠ x → a ≠ z + 5 + 2 * n → a ≠ sz → M4 a = M a := fun a h1 h2 h3 => by rw [hM4, zw_un _ _ h1, zw_un _ _ h2, hM3, zw_un _ _ h3, hM2, zw_un _ _ h3, hM1, zw_un _ _ h1]
    have hsnd : zsend st mg.snd mg.rcv mg.byt mg.ck mg.chs = zSt.mk st.dn st.lg st.wt (st.fl ++ [zMg.mk st.se mg.snd mg.rcv mg.byt mg.ck mg.chs]) (st.se + 1) st.lo st.go st.pa := if_pos hlt
    refine lv_iload_n hx hb dC_twice_64 rfl (lv_at hl 0 rfl) ?_
    refine W.widen (k := 1) (n := 6) (by omega) (by omega) ?_
    exact W.iret (v := (nI st.se)) hx hb hr (fun t ht hW => ⟨⟨(nI st.se), (M4, (sz + 1)), rfl, ⟨rfl, ⟨qs ++ [sz], g, by rw [hsnd]; exact hR.put (mg := zMg.mk st.se mg.snd mg.rcv mg.byt mg.ck mg.chs) (q := sz) rfl rfl rfl rfl (by show M4 x = some (.inr (1, zoC n mb z (st.fl ++ [_]).length (st.se + 1) st.lo st.go st.pa)); rw [List.length_append]; exact hx0) hfl (zMr.copy (M := M) (mg := mg) (num' := st.se) hL hn0 hcc hcp (fun a e h1 h2 => (hk a (by omega) (by omega) (Nat.ne_of_lt (hlt0 a e h2))).trans h2)) (fun a e h1 h2 h3 => (hk a h1 h2 (Nat.ne_of_lt (hlt0 a e h3))).trans h3)⟩, fun a h1 h2 h3 => hk a h1 (by omega) (by omega), by show sz ≤ sz + 1; omega⟩, by rw [ht]; exact hH, by rw [ht]; exact hsz⟩, hS.F ht⟩) hS.2.2 dC_twice_65

set_option maxHeartbeats 4000000 in
set_option maxRecDepth 100000 in
theorem kC_twice_no (l : Launch) (G : zG) (B : Nat) (M : zw_M) (sz : Nat) (x z L n mb : Nat) (st : zSt) (qs : List Nat) (g : Nat → Int32) (hn : n ≤ 8) (hR : zCR G M x z L n mb st qs g) (j : Nat) (mg : zMg) (hj : j < st.fl.length) (hmg : st.fl[j]? = some mg) (hlt : st.fl.length = 120) : Met l yC_twice (Cond.code yC_twice bC_twice 4 (some .int) :: zT) { frames := 2, cells := 1, slots := 6, locals := 40 } (zq G B M sz [.ref x, .int (nI j)]) (va_Qi (fun (r : Int32) (u : zw_M × Nat) => r = nI st.se ∧ zCO G x z L n mb sz M (zsend st mg.snd mg.rcv mg.byt mg.ck mg.chs) u) (zr_o G.1 zCl B) (zw_A B)) (1) (6) (zw_A B) := by
  refine Met.ofW (cc := bC_twice) (maxL := 4) (ret := (some .int)) (by decide) rfl ?_
  intro p e s m args below meth c s₁ B0 hml hv
  obtain ⟨rfl, hE, hH, hsz⟩ := hv
  have hx := B0.exec
  have hb := B0.bytes
  have hr := B0.returns
  have hlocks := B0.notSynchronized
  have hz : ∀ w ∈ zT, w.before _ s = true := fun w h => atoms_spec (ws := Cond.code yC_twice bC_twice 4 (some .int) :: zT) B0.pre w (List.mem_cons_of_mem _ h)
  have hown : s.vm.findClass RC = some m.cls := findClass_of_methodNamed B0.named
  have hK := hE.1
  have hl := lv_entry ([.ref x, .int (nI j)]) (n := 4) (Nat.le_of_ble_eq_true rfl)
  rw [lg_entry_eq]
  generalize (lg_sl ([.ref x, .int (nI j)]) ++ List.replicate (4 - (lg_sl ([.ref x, .int (nI j)])).length) Slot.unset).toArray = ls at hl ⊢
  have hl : lv_has ls 4 [(0, .ref x), (1, .int (nI j))] := hl
  have hS : va_S (zw_A B) s.heap s.heap [] := va_S.rf
  have hin : meth.name = "twice" := (name_of_methodNamed B0.named B0.method).1
  have hlt0 : ∀ (a : Nat) (e : va_E), M a = some e → a < sz := fun a e h => by rw [← hsz]; exact hH.lt h
  obtain ⟨q, mg1, hq, hmg1, hmr⟩ := hR.at hj
  have hmm : mg1 = mg := Option.some.inj (hmg1.symm.trans hmg)
  rw [hmm] at hmr
  obtain ⟨told, ch, hqL, hq0, hcc, hcp⟩ := hmr.opn
  have hqz := hlt0 q _ hq0
  have hx0 := hR.obj
  have hfl := hR.fl
  have hxz := hR.xz
  have hzL := hR.zL
  refine lv_aload_n hx hb dC_twice_0 rfl (lv_at hl 0 rfl) ?_
  refine lv_iload_n hx hb dC_twice_1 rfl (lv_at hl 1 rfl) ?_
  refine zr_V (As := [.int (nI j)]) (rest := []) (q := (RC, TC, 14)) ⟨hx, hb, hml, hown, hz⟩ (kC_messageAt_in l G B M x n mb z st.fl.length st.se st.lo st.go st.pa hn hx0 (fun i => qs[i]?) hfl (by omega) j q hj hq) (zt_V zm_81 zm_83 zs_0 zm_1 zm_84) rfl rfl rfl (show _ ∧ _ ∧ _ ∧ _ = some 1 from by decide +kernel) ⟨Nat.le_of_ble_eq_true rfl, Nat.le_of_ble_eq_true rfl⟩ zE_blind (zE_at hE hS) hH hK hx0 rfl rfl hl.1 rfl (Nat.le_of_ble_eq_true rfl) dC_twice_2 ⟨Nat.le_of_ble_eq_true rfl, Nat.le_of_ble_eq_true rfl⟩ ?_
  refine lv_astore_n (lv' := [(2, .ref q), (0, .ref x), (1, .int (nI j))]) hx hb dC_twice_5 rfl hl (by decide) rfl (fun ls hl => ?_)
  refine lv_aload_n hx hb dC_twice_6 rfl (lv_at hl 0 rfl) ?_
  refine lv_ifnonnull (tgt := 20) hx hb dC_twice_7 (by decide) ?_
  refine lv_aload_n hx hb dC_twice_20 rfl (lv_at hl 1 rfl) ?_
  refine va_get (D := G.1) (ci := 1) (v := .int (nI st.se)) (C := RC) (T := TC) (N := 14) hx hb hz iC hown hK (hH.one hx0) 0 rfl rfl 10 (by decide) (hz _ zm_41) (fun _ h9 => h9) rfl dC_twice_21 ?_
  refine lv_istore_n (lv' := [(3, .int (nI st.se)), (2, .ref q), (0, .ref x), (1, .int (nI j))]) hx hb dC_twice_24 rfl hl (by decide) rfl (fun ls hl => ?_)
  refine lv_aload_n hx hb dC_twice_25 rfl (lv_at hl 2 rfl) ?_
  refine zr_Vi (As := []) (rest := []) (q := (RC, TC, 14)) (mc := 0) (ms := 0) ⟨hx, hb, hml, hown, hz⟩ (kC_count_no l G B M _ x n mb z st.fl.length st.se st.lo st.go st.pa hn hx0 hlt) (zt_V zm_272 zm_274 zs_10 zm_1 zm_275) rfl rfl rfl (show _ ∧ _ ∧ _ ∧ _ = some 0 from by decide +kernel) ⟨Nat.le_of_ble_eq_true rfl, Nat.le_of_ble_eq_true rfl⟩ zE_blind (zE_at hE hS) hH hK hx0 rfl rfl hS hl.1 rfl (Nat.le_of_ble_eq_true rfl) dC_twice_26 ⟨Nat.le_of_ble_eq_true rfl, Nat.le_of_ble_eq_true rfl⟩ (fun r1 M1 sz1 H1 L1 hp hH hz1 hz2 hS => ?_)
  obtain ⟨rfl, hp⟩ := hp
  have hM1 := (Prod.mk.inj hp).1
  have hsz : H1.size = sz := hz1.trans ((Prod.mk.inj hp).2.trans hsz)
  have hfl : M1 (z + 5 + 2 * n) = some (.inl (G.2.1 3, 120, .inr (.inr (.inr (.inr (fun i => qs[i]?)))))) := by rw [hM1, zw_un _ _ (by omega)]; exact hfl
  have hq0 : M1 q = some (.inr (0, zoM (nI mg.num) (nI mg.snd) (nI mg.rcv) (nI mg.byt) told ch)) := by rw [hM1, zw_un _ _ (by omega)]; exact hq0
  have hx0 : M1 x = some (.inr (1, zoC n mb z st.fl.length (st.se + 1) (st.lo + 1) st.go st.pa)) := by rw [hM1]; exact zw_us _ _ _
  refine zc_eq0 (tgt := 64) hx hb dC_twice_29 (by decide) (by omega) (fun c => ?_) (fun c => ?_)
  · refine lv_iload_n hx hb dC_twice_64 rfl (lv_at hl 0 rfl) ?_
    have hk : ∀ a : Nat, a ≠ x → M1 a = M a := fun a h1 => by rw [hM1, zw_un _ _ h1]
    refine W.widen (k := 1) (n := 6) (by omega) (by omega) ?_
    exact W.iret (v := (nI st.se)) hx hb hr (fun t ht hW => ⟨⟨(nI st.se), (M1, sz), rfl, ⟨rfl, ⟨qs, g, by unfold zsend; rw [if_neg (by omega)]; exact hR.cnt rfl rfl rfl rfl hx0 (fun a e h1 h3 => (hk a h1).trans h3)⟩, fun a h1 h2 h3 => hk a h1, Nat.le_refl _⟩, by rw [ht]; exact hH, by rw [ht]; exact hsz⟩, hS.F ht⟩) hS.2.2 dC_twice_65
  · exact absurd rfl c

theorem kC_twice (l : Launch) (G : zG) (B : Nat) (M : zw_M) (sz : Nat) (x z L n mb : Nat) (st : zSt) (qs : List Nat) (g : Nat → Int32) (hn : n ≤ 8) (hR : zCR G M x z L n mb st qs g) (hL : L < sz) (j : Nat) (mg : zMg) (hj : j < st.fl.length) (hmg : st.fl[j]? = some mg) (h120 : st.fl.length ≤ 120) : Met l yC_twice (Cond.code yC_twice bC_twice 4 (some .int) :: zT) { frames := 2, cells := 1, slots := 6, locals := 40 } (zq G B M sz [.ref x, .int (nI j)]) (va_Qi (fun (r : Int32) (u : zw_M × Nat) => r = nI st.se ∧ zCO G x z L n mb sz M (zsend st mg.snd mg.rcv mg.byt mg.ck mg.chs) u) (zr_o G.1 zCl B) (zw_A B)) (1) (6) (zw_A B) := by
  by_cases h : st.fl.length < 120
  · exact kC_twice_yes l G B M sz x z L n mb st qs g hn hR hL j mg hj hmg h
  · exact kC_twice_no l G B M sz x z L n mb st qs g hn hR j mg hj hmg (by omega)
set_option maxHeartbeats 4000000 in
set_option maxRecDepth 100000 in
theorem kC_deliver_down (l : Launch) (G : zG) (B : Nat) (M : zw_M) (sz : Nat) (x z L n mb : Nat) (st : zSt) (qs : List Nat) (g : Nat → Int32) (hn : n ≤ 8) (hR : zCR G M x z L n mb st qs g) (hL : L < sz) (hok : zOK n st) (hmb : mb ≤ 2000) (j : Nat) (mg : zMg) (hj : j < st.fl.length) (hmg : st.fl[j]? = some mg) (hd : st.dn mg.rcv = true) : Met l yC_deliver (Cond.code yC_deliver bC_deliver 3 (some .int) :: zT) { frames := 4, cells := 960, slots := 3360, locals := 140 } (zq G B M sz [.ref x, .int (nI j)]) (va_Qi (fun (r : Int32) (u : zw_M × Nat) => r = nI (zdeliver st j mg mb).2 ∧ zCO G x z L n mb sz M ((zdeliver st j mg mb).1) u) (zr_o G.1 zCl B) (zw_A B)) (960) (3360) (zw_A B) := by
  refine Met.ofW (cc := bC_deliver) (maxL := 3) (ret := (some .int)) (by decide) rfl ?_
  intro p e s m args below meth c s₁ B0 hml hv
  obtain ⟨rfl, hE, hH, hsz⟩ := hv
  have hx := B0.exec
  have hb := B0.bytes
  have hr := B0.returns
  have hlocks := B0.notSynchronized
  have hz : ∀ w ∈ zT, w.before _ s = true := fun w h => atoms_spec (ws := Cond.code yC_deliver bC_deliver 3 (some .int) :: zT) B0.pre w (List.mem_cons_of_mem _ h)
  have hown : s.vm.findClass RC = some m.cls := findClass_of_methodNamed B0.named
  have hK := hE.1
  have hl := lv_entry ([.ref x, .int (nI j)]) (n := 3) (Nat.le_of_ble_eq_true rfl)
  rw [lg_entry_eq]
  generalize (lg_sl ([.ref x, .int (nI j)]) ++ List.replicate (3 - (lg_sl ([.ref x, .int (nI j)])).length) Slot.unset).toArray = ls at hl ⊢
  have hl : lv_has ls 3 [(0, .ref x), (1, .int (nI j))] := hl
  have hS : va_S (zw_A B) s.heap s.heap [] := va_S.rf
  have hin : meth.name = "deliver" := (name_of_methodNamed B0.named B0.method).1
  have hlt0 : ∀ (a : Nat) (e : va_E), M a = some e → a < sz := fun a e h => by rw [← hsz]; exact hH.lt h
  have hb1 := zbool (st.dn mg.rcv)
  have h120 := hok.fl
  obtain ⟨q, mg1, hq, hmg1, hmr⟩ := hR.at hj
  have hmm : mg1 = mg := Option.some.inj (hmg1.symm.trans hmg)
  rw [hmm] at hmr
  obtain ⟨told, ch, hqL, hq0, hcc, hcp⟩ := hmr.opn
  have hqz := hlt0 q _ hq0
  have hmo := hok.msg (List.mem_of_getElem? hmg)
  have hok1 := hok.drop j
  have hx0 := hR.obj
  have hfl := hR.fl
  have hxz := hR.xz
  have hzL := hR.zL
  refine lv_aload_n hx hb dC_deliver_0 rfl (lv_at hl 0 rfl) ?_
  refine lv_iload_n hx hb dC_deliver_1 rfl (lv_at hl 1 rfl) ?_
  refine zr_V (As := [.int (nI j)]) (rest := []) (q := (RC, TC, 14)) ⟨hx, hb, hml, hown, hz⟩ (kC_messageAt_in l G B M x n mb z st.fl.length st.se st.lo st.go st.pa hn hx0 (fun i => qs[i]?) hfl (by omega) j q hj hq) (zt_V zm_81 zm_83 zs_0 zm_1 zm_84) rfl rfl rfl (show _ ∧ _ ∧ _ ∧ _ = some 1 from by decide +kernel) ⟨Nat.le_of_ble_eq_true rfl, Nat.le_of_ble_eq_true rfl⟩ zE_blind (zE_at hE hS) hH hK hx0 rfl rfl hl.1 rfl (Nat.le_of_ble_eq_true rfl) dC_deliver_2 ⟨Nat.le_of_ble_eq_true rfl, Nat.le_of_ble_eq_true rfl⟩ ?_
  refine lv_astore_n (lv' := [(2, .ref q), (0, .ref x), (1, .int (nI j))]) hx hb dC_deliver_5 rfl hl (by decide) rfl (fun ls hl => ?_)
  refine lv_aload_n hx hb dC_deliver_6 rfl (lv_at hl 0 rfl) ?_
  refine lv_ifnonnull (tgt := 20) hx hb dC_deliver_7 (by decide) ?_
  refine lv_aload_n hx hb dC_deliver_20 rfl (lv_at hl 1 rfl) ?_
  refine lv_iload_n hx hb dC_deliver_21 rfl (lv_at hl 2 rfl) ?_
  refine zr_Vv (As := [.int (nI j)]) (rest := []) (q := (RC, TC, 14)) (mc := 0) (ms := 0) ⟨hx, hb, hml, hown, hz⟩ (kC_takeOut l G B M _ x z L n mb st qs g hn hR (by omega) j hj) (zt_V zm_85 zm_87 zs_1 zm_1 zm_88) rfl rfl rfl (show _ ∧ _ ∧ _ ∧ _ = some 1 from by decide +kernel) ⟨Nat.le_of_ble_eq_true rfl, Nat.le_of_ble_eq_true rfl⟩ zE_blind (zE_at hE hS) hH hK hx0 rfl rfl hS hl.1 rfl (Nat.le_of_ble_eq_true rfl) dC_deliver_22 ⟨Nat.le_of_ble_eq_true rfl, Nat.le_of_ble_eq_true rfl⟩ (fun M1 sz1 H1 L1 hp hH hz1 hz2 hS => ?_)
  rw [hsz] at hp
  obtain ⟨hR1, hk1, hz3⟩ := hp
  have hsz : H1.size = sz := hz1.trans hz3
  have hx0 := hR1.obj
  have hdn := hR1.dn
  have hxz := hR1.xz
  have hzL := hR1.zL
  have hq1 : M1 q = _ := (hk1 q (by omega) (by omega)).trans hq0
  refine lv_aload_n hx hb dC_deliver_25 rfl (lv_at hl 1 rfl) ?_
  refine va_get (D := G.1) (ci := 1) (v := .ref z) (C := RC) (T := TC) (N := 14) hx hb hz iC hown hK (hH.one hx0) 0 rfl rfl 2 (by decide) (hz _ zm_33) (fun _ h9 => h9) rfl dC_deliver_26 ?_
  refine lv_aload_n hx hb dC_deliver_29 rfl (lv_at hl 0 rfl) ?_
  refine va_get (D := G.1) (ci := 0) (v := .int (nI mg.rcv)) (C := RM) (T := TM) (N := 6) hx hb hz iM hown hK (hH.one hq1) 0 rfl rfl 2 (by decide) (hz _ zm_288) (fun _ h9 => h9) rfl dC_deliver_30 ?_
  refine zw_zald hx hb hK hH 2 hdn rfl (mg.rcv) rfl (hmo.2.1) (by omega) dC_deliver_33 ?_
  refine zw_ti (show nI ((zdrop st j).dn mg.rcv).toNat = nI (st.dn mg.rcv).toNat from rfl) ?_
  refine zc_eq0 (tgt := 49) hx hb dC_deliver_34 (by decide) (by omega) (fun b1 => ?_) (fun b1 => ?_)
  · exact absurd b1 (by rw [hd]; decide)
  · refine lv_aload_n hx hb dC_deliver_37 rfl (lv_at hl 1 rfl) ?_
    refine lv_dup hx hb dC_deliver_38 rfl ?_
    refine va_get (D := G.1) (ci := 1) (v := .int (nI ((zdrop st j).go))) (C := RC) (T := TC) (N := 14) hx hb hz iC hown hK (hH.one hx0) 0 rfl rfl 12 (by decide) (hz _ zm_43) (fun _ h9 => h9) rfl dC_deliver_39 ?_
    refine lv_iconst (v := nI 1) hx hb dC_deliver_42 (by decide) ?_
    refine lv_iadd hx hb dC_deliver_43 ?_
    refine zw_ti (nI_add _ _) ?_
    refine zw_put (D := G.1) (ci := 1) (v := .int (nI (((zdrop st j).go) + 1))) (ty := .int) (C := RC) (T := TC) (N := 14) hx hb hz iC tC tC_ok nC hown hK hH hS hx0 rfl 12 (by decide) (hz _ zm_43) (fun _ h9 => h9) rfl (by decide +kernel) rfl rfl (Nat.le_of_ble_eq_true rfl) dC_deliver_44 (fun H2 L2 hH hz1 hS => ?_)
    have hsz : H2.size = sz := hz1.trans hsz
    obtain ⟨M2, hM2⟩ : ∃ Mq, Mq = zw_u M1 x (.inr (1, zoC n mb z ((zdrop st j).fl.length) ((zdrop st j).se) ((zdrop st j).lo) (((zdrop st j).go) + 1) ((zdrop st j).pa))) := ⟨_, rfl⟩
    have hH : zw_H G.1 zCl B M2 H2 := by rw [hM2]; exact hH
    have hdn : M2 z = some (.inl (G.2.1 2, n, .inl (fun a9 => nI ((zdrop st j).dn a9).toNat))) := by rw [hM2, zw_un _ _ (by omega)]; exact hdn
    have hq1 : M2 q = some (.inr (0, zoM (nI mg.num) (nI mg.snd) (nI mg.rcv) (nI mg.byt) told ch)) := by rw [hM2, zw_un _ _ (by omega)]; exact hq1
    have hx0 : M2 x = some (.inr (1, zoC n mb z ((zdrop st j).fl.length) ((zdrop st j).se) ((zdrop st j).lo) (((zdrop st j).go) + 1) ((zdrop st j).pa))) := by rw [hM2]; exact zw_us _ _ _
    refine lv_iconst (v := nI 0) hx hb dC_deliver_47 (by decide) ?_
    have hk : ∀ a : Nat, a ≠ x → M2 a = M1 a := fun a h1 => by rw [hM2, zw_un _ _ h1]
    have hD : zdeliver st j mg mb = (zgone (zdrop st j), 0) := if_pos hd
    rw [hD]
    refine W.widen (k := 960) (n := 3360) (by omega) (by omega) ?_
    exact W.iret (v := (nI 0)) hx hb hr (fun t ht hW => ⟨⟨(nI 0), (M2, sz), rfl, ⟨rfl, ⟨_, _, hR1.cnt (st' := zgone (zdrop st j)) rfl rfl rfl rfl hx0 (fun a e h1 h2 => (hk a h1).trans h2)⟩, fun a h1 h2 h3 => (hk a h1).trans (hk1 a h1 (by omega)), Nat.le_refl _⟩, by rw [ht]; exact hH, by rw [ht]; exact hsz⟩, hS.F ht⟩) hS.2.2 dC_deliver_48

set_option maxHeartbeats 4000000 in
set_option maxRecDepth 100000 in
theorem kC_deliver_clock (l : Launch) (G : zG) (B : Nat) (M : zw_M) (sz : Nat) (x z L n mb : Nat) (st : zSt) (qs : List Nat) (g : Nat → Int32) (hn : n ≤ 8) (hR : zCR G M x z L n mb st qs g) (hL : L < sz) (hok : zOK n st) (hmb : mb ≤ 2000) (j : Nat) (mg : zMg) (hj : j < st.fl.length) (hmg : st.fl[j]? = some mg) (hd : st.dn mg.rcv = false) (k : Int64) (hk : mg.ck = some k) : Met l yC_deliver (Cond.code yC_deliver bC_deliver 3 (some .int) :: zT) { frames := 4, cells := 960, slots := 3360, locals := 140 } (zq G B M sz [.ref x, .int (nI j)]) (va_Qi (fun (r : Int32) (u : zw_M × Nat) => r = nI (zdeliver st j mg mb).2 ∧ zCO G x z L n mb sz M ((zdeliver st j mg mb).1) u) (zr_o G.1 zCl B) (zw_A B)) (960) (3360) (zw_A B) := by
  refine Met.ofW (cc := bC_deliver) (maxL := 3) (ret := (some .int)) (by decide) rfl ?_
  intro p e s m args below meth c s₁ B0 hml hv
  obtain ⟨rfl, hE, hH, hsz⟩ := hv
  have hx := B0.exec
  have hb := B0.bytes
  have hr := B0.returns
  have hlocks := B0.notSynchronized
  have hz : ∀ w ∈ zT, w.before _ s = true := fun w h => atoms_spec (ws := Cond.code yC_deliver bC_deliver 3 (some .int) :: zT) B0.pre w (List.mem_cons_of_mem _ h)
  have hown : s.vm.findClass RC = some m.cls := findClass_of_methodNamed B0.named
  have hK := hE.1
  have hl := lv_entry ([.ref x, .int (nI j)]) (n := 3) (Nat.le_of_ble_eq_true rfl)
  rw [lg_entry_eq]
  generalize (lg_sl ([.ref x, .int (nI j)]) ++ List.replicate (3 - (lg_sl ([.ref x, .int (nI j)])).length) Slot.unset).toArray = ls at hl ⊢
  have hl : lv_has ls 3 [(0, .ref x), (1, .int (nI j))] := hl
  have hS : va_S (zw_A B) s.heap s.heap [] := va_S.rf
  have hin : meth.name = "deliver" := (name_of_methodNamed B0.named B0.method).1
  have hlt0 : ∀ (a : Nat) (e : va_E), M a = some e → a < sz := fun a e h => by rw [← hsz]; exact hH.lt h
  have hb1 := zbool (st.dn mg.rcv)
  have h120 := hok.fl
  obtain ⟨q, mg1, hq, hmg1, hmr⟩ := hR.at hj
  have hmm : mg1 = mg := Option.some.inj (hmg1.symm.trans hmg)
  rw [hmm] at hmr
  obtain ⟨told, ch, hqL, hq0, hcc, hcp⟩ := hmr.opn
  have hqz := hlt0 q _ hq0
  have hmo := hok.msg (List.mem_of_getElem? hmg)
  have hok1 := hok.drop j
  have hx0 := hR.obj
  have hfl := hR.fl
  have hxz := hR.xz
  have hzL := hR.zL
  refine lv_aload_n hx hb dC_deliver_0 rfl (lv_at hl 0 rfl) ?_
  refine lv_iload_n hx hb dC_deliver_1 rfl (lv_at hl 1 rfl) ?_
  refine zr_V (As := [.int (nI j)]) (rest := []) (q := (RC, TC, 14)) ⟨hx, hb, hml, hown, hz⟩ (kC_messageAt_in l G B M x n mb z st.fl.length st.se st.lo st.go st.pa hn hx0 (fun i => qs[i]?) hfl (by omega) j q hj hq) (zt_V zm_81 zm_83 zs_0 zm_1 zm_84) rfl rfl rfl (show _ ∧ _ ∧ _ ∧ _ = some 1 from by decide +kernel) ⟨Nat.le_of_ble_eq_true rfl, Nat.le_of_ble_eq_true rfl⟩ zE_blind (zE_at hE hS) hH hK hx0 rfl rfl hl.1 rfl (Nat.le_of_ble_eq_true rfl) dC_deliver_2 ⟨Nat.le_of_ble_eq_true rfl, Nat.le_of_ble_eq_true rfl⟩ ?_
  refine lv_astore_n (lv' := [(2, .ref q), (0, .ref x), (1, .int (nI j))]) hx hb dC_deliver_5 rfl hl (by decide) rfl (fun ls hl => ?_)
  refine lv_aload_n hx hb dC_deliver_6 rfl (lv_at hl 0 rfl) ?_
  refine lv_ifnonnull (tgt := 20) hx hb dC_deliver_7 (by decide) ?_
  refine lv_aload_n hx hb dC_deliver_20 rfl (lv_at hl 1 rfl) ?_
  refine lv_iload_n hx hb dC_deliver_21 rfl (lv_at hl 2 rfl) ?_
  refine zr_Vv (As := [.int (nI j)]) (rest := []) (q := (RC, TC, 14)) (mc := 0) (ms := 0) ⟨hx, hb, hml, hown, hz⟩ (kC_takeOut l G B M _ x z L n mb st qs g hn hR (by omega) j hj) (zt_V zm_85 zm_87 zs_1 zm_1 zm_88) rfl rfl rfl (show _ ∧ _ ∧ _ ∧ _ = some 1 from by decide +kernel) ⟨Nat.le_of_ble_eq_true rfl, Nat.le_of_ble_eq_true rfl⟩ zE_blind (zE_at hE hS) hH hK hx0 rfl rfl hS hl.1 rfl (Nat.le_of_ble_eq_true rfl) dC_deliver_22 ⟨Nat.le_of_ble_eq_true rfl, Nat.le_of_ble_eq_true rfl⟩ (fun M1 sz1 H1 L1 hp hH hz1 hz2 hS => ?_)
  rw [hsz] at hp
  obtain ⟨hR1, hk1, hz3⟩ := hp
  have hsz : H1.size = sz := hz1.trans hz3
  have hx0 := hR1.obj
  have hdn := hR1.dn
  have hxz := hR1.xz
  have hzL := hR1.zL
  have hq1 : M1 q = _ := (hk1 q (by omega) (by omega)).trans hq0
  refine lv_aload_n hx hb dC_deliver_25 rfl (lv_at hl 1 rfl) ?_
  refine va_get (D := G.1) (ci := 1) (v := .ref z) (C := RC) (T := TC) (N := 14) hx hb hz iC hown hK (hH.one hx0) 0 rfl rfl 2 (by decide) (hz _ zm_33) (fun _ h9 => h9) rfl dC_deliver_26 ?_
  refine lv_aload_n hx hb dC_deliver_29 rfl (lv_at hl 0 rfl) ?_
  refine va_get (D := G.1) (ci := 0) (v := .int (nI mg.rcv)) (C := RM) (T := TM) (N := 6) hx hb hz iM hown hK (hH.one hq1) 0 rfl rfl 2 (by decide) (hz _ zm_288) (fun _ h9 => h9) rfl dC_deliver_30 ?_
  refine zw_zald hx hb hK hH 2 hdn rfl (mg.rcv) rfl (hmo.2.1) (by omega) dC_deliver_33 ?_
  refine zw_ti (show nI ((zdrop st j).dn mg.rcv).toNat = nI (st.dn mg.rcv).toNat from rfl) ?_
  obtain ⟨htk, hctk⟩ := hcc k hk
  have hkn : told ≠ -1 := by rw [htk]; have hm3 := hmo.2.2; rw [hk] at hm3; exact hm3.1
  have hD : zdeliver st j mg mb = zanswer (zdrop st j) mg.rcv mg.snd told mb := by unfold zdeliver; rw [if_neg (by rw [hd]; decide), hk, htk]
  rw [hD]
  refine zc_eq0 (tgt := 49) hx hb dC_deliver_34 (by decide) (by omega) (fun b1 => ?_) (fun b1 => ?_)
  · refine lv_aload_n hx hb dC_deliver_49 rfl (lv_at hl 0 rfl) ?_
    refine zr_V (As := []) (rest := []) (q := (RM, TM, 6)) ⟨hx, hb, hml, hown, hz⟩ (kM_isClock_yes l G B M1 q _ _ _ _ told ch hq1 hkn) (zt_V zm_320 zm_321 zm_322 zm_10 zm_323) rfl rfl rfl (show _ ∧ _ ∧ _ ∧ _ = some 0 from by decide +kernel) ⟨Nat.le_of_ble_eq_true rfl, Nat.le_of_ble_eq_true rfl⟩ zE_blind (zE_at hE hS) hH hK hq1 rfl rfl hl.1 rfl (Nat.le_of_ble_eq_true rfl) dC_deliver_50 ⟨Nat.le_of_ble_eq_true rfl, Nat.le_of_ble_eq_true rfl⟩ ?_
    refine zc_eq0 (tgt := 64) hx hb dC_deliver_53 (by decide) (by omega) (fun b2 => ?_) (fun b2 => ?_)
    · exact absurd b2 (by decide)
    · refine lv_aload_n hx hb dC_deliver_56 rfl (lv_at hl 1 rfl) ?_
      refine lv_aload_n hx hb dC_deliver_57 rfl (lv_at hl 0 rfl) ?_
      refine zr_Vi (As := [.ref q]) (rest := []) (q := (RC, TC, 14)) (mc := 960) (ms := 3360) ⟨hx, hb, hml, hown, hz⟩ (kC_answer l G B M1 _ x z L n mb (zdrop st j) _ g hn hR1 (by omega) hok1 q mg.rcv mg.snd (nI mg.num) (nI mg.byt) told ch hqL hq1 hmo.2.1 hmo.1 hmb) (zt_V zm_325 zm_327 zs_12 zm_1 zm_328) rfl rfl rfl (show _ ∧ _ ∧ _ ∧ _ = some 1 from by decide +kernel) ⟨Nat.le_of_ble_eq_true rfl, Nat.le_of_ble_eq_true rfl⟩ zE_blind (zE_at hE hS) hH hK hx0 rfl rfl hS hl.1 rfl (Nat.le_of_ble_eq_true rfl) dC_deliver_58 ⟨Nat.le_of_ble_eq_true rfl, Nat.le_of_ble_eq_true rfl⟩ (fun r2 M2 sz2 H2 L2 hp hH hz1 hz2 hS => ?_)
      obtain ⟨rfl, hR2, hfr2, hz4⟩ := hp
      rw [hsz] at hfr2
      refine lv_goto (tgt := 69) hx hb dC_deliver_61 (by decide) ?_
      refine W.widen (k := 960) (n := 3360) (by omega) (by omega) ?_
      exact W.iret (v := (nI (zanswer (zdrop st j) mg.rcv mg.snd told mb).2)) hx hb hr (fun t ht hW => ⟨⟨(nI (zanswer (zdrop st j) mg.rcv mg.snd told mb).2), (M2, H2.size), rfl, ⟨rfl, hR2, fun a h1 h2 h3 => (hfr2 a h1 h2 h3).trans (hk1 a h1 (by omega)), by show sz ≤ H2.size; omega⟩, by rw [ht]; exact hH, by rw [ht]⟩, hS.F ht⟩) hS.2.2 dC_deliver_69
  · exact absurd (by rw [hd]; rfl) b1

set_option maxHeartbeats 4000000 in
set_option maxRecDepth 100000 in
theorem kC_deliver_part (l : Launch) (G : zG) (B : Nat) (M : zw_M) (sz : Nat) (x z L n mb : Nat) (st : zSt) (qs : List Nat) (g : Nat → Int32) (hn : n ≤ 8) (hR : zCR G M x z L n mb st qs g) (hL : L < sz) (hok : zOK n st) (hmb : mb ≤ 2000) (j : Nat) (mg : zMg) (hj : j < st.fl.length) (hmg : st.fl[j]? = some mg) (hd : st.dn mg.rcv = false) (hk : mg.ck = none) : Met l yC_deliver (Cond.code yC_deliver bC_deliver 3 (some .int) :: zT) { frames := 4, cells := 960, slots := 3360, locals := 140 } (zq G B M sz [.ref x, .int (nI j)]) (va_Qi (fun (r : Int32) (u : zw_M × Nat) => r = nI (zdeliver st j mg mb).2 ∧ zCO G x z L n mb sz M ((zdeliver st j mg mb).1) u) (zr_o G.1 zCl B) (zw_A B)) (960) (3360) (zw_A B) := by
  refine Met.ofW (cc := bC_deliver) (maxL := 3) (ret := (some .int)) (by decide) rfl ?_
  intro p e s m args below meth c s₁ B0 hml hv
  obtain ⟨rfl, hE, hH, hsz⟩ := hv
  have hx := B0.exec
  have hb := B0.bytes
  have hr := B0.returns
  have hlocks := B0.notSynchronized
  have hz : ∀ w ∈ zT, w.before _ s = true := fun w h => atoms_spec (ws := Cond.code yC_deliver bC_deliver 3 (some .int) :: zT) B0.pre w (List.mem_cons_of_mem _ h)
  have hown : s.vm.findClass RC = some m.cls := findClass_of_methodNamed B0.named
  have hK := hE.1
  have hl := lv_entry ([.ref x, .int (nI j)]) (n := 3) (Nat.le_of_ble_eq_true rfl)
  rw [lg_entry_eq]
  generalize (lg_sl ([.ref x, .int (nI j)]) ++ List.replicate (3 - (lg_sl ([.ref x, .int (nI j)])).length) Slot.unset).toArray = ls at hl ⊢
  have hl : lv_has ls 3 [(0, .ref x), (1, .int (nI j))] := hl
  have hS : va_S (zw_A B) s.heap s.heap [] := va_S.rf
  have hin : meth.name = "deliver" := (name_of_methodNamed B0.named B0.method).1
  have hlt0 : ∀ (a : Nat) (e : va_E), M a = some e → a < sz := fun a e h => by rw [← hsz]; exact hH.lt h
  have hb1 := zbool (st.dn mg.rcv)
  have h120 := hok.fl
  obtain ⟨q, mg1, hq, hmg1, hmr⟩ := hR.at hj
  have hmm : mg1 = mg := Option.some.inj (hmg1.symm.trans hmg)
  rw [hmm] at hmr
  obtain ⟨told, ch, hqL, hq0, hcc, hcp⟩ := hmr.opn
  have hqz := hlt0 q _ hq0
  have hmo := hok.msg (List.mem_of_getElem? hmg)
  have hok1 := hok.drop j
  have hx0 := hR.obj
  have hfl := hR.fl
  have hxz := hR.xz
  have hzL := hR.zL
  refine lv_aload_n hx hb dC_deliver_0 rfl (lv_at hl 0 rfl) ?_
  refine lv_iload_n hx hb dC_deliver_1 rfl (lv_at hl 1 rfl) ?_
  refine zr_V (As := [.int (nI j)]) (rest := []) (q := (RC, TC, 14)) ⟨hx, hb, hml, hown, hz⟩ (kC_messageAt_in l G B M x n mb z st.fl.length st.se st.lo st.go st.pa hn hx0 (fun i => qs[i]?) hfl (by omega) j q hj hq) (zt_V zm_81 zm_83 zs_0 zm_1 zm_84) rfl rfl rfl (show _ ∧ _ ∧ _ ∧ _ = some 1 from by decide +kernel) ⟨Nat.le_of_ble_eq_true rfl, Nat.le_of_ble_eq_true rfl⟩ zE_blind (zE_at hE hS) hH hK hx0 rfl rfl hl.1 rfl (Nat.le_of_ble_eq_true rfl) dC_deliver_2 ⟨Nat.le_of_ble_eq_true rfl, Nat.le_of_ble_eq_true rfl⟩ ?_
  refine lv_astore_n (lv' := [(2, .ref q), (0, .ref x), (1, .int (nI j))]) hx hb dC_deliver_5 rfl hl (by decide) rfl (fun ls hl => ?_)
  refine lv_aload_n hx hb dC_deliver_6 rfl (lv_at hl 0 rfl) ?_
  refine lv_ifnonnull (tgt := 20) hx hb dC_deliver_7 (by decide) ?_
  refine lv_aload_n hx hb dC_deliver_20 rfl (lv_at hl 1 rfl) ?_
  refine lv_iload_n hx hb dC_deliver_21 rfl (lv_at hl 2 rfl) ?_
  refine zr_Vv (As := [.int (nI j)]) (rest := []) (q := (RC, TC, 14)) (mc := 0) (ms := 0) ⟨hx, hb, hml, hown, hz⟩ (kC_takeOut l G B M _ x z L n mb st qs g hn hR (by omega) j hj) (zt_V zm_85 zm_87 zs_1 zm_1 zm_88) rfl rfl rfl (show _ ∧ _ ∧ _ ∧ _ = some 1 from by decide +kernel) ⟨Nat.le_of_ble_eq_true rfl, Nat.le_of_ble_eq_true rfl⟩ zE_blind (zE_at hE hS) hH hK hx0 rfl rfl hS hl.1 rfl (Nat.le_of_ble_eq_true rfl) dC_deliver_22 ⟨Nat.le_of_ble_eq_true rfl, Nat.le_of_ble_eq_true rfl⟩ (fun M1 sz1 H1 L1 hp hH hz1 hz2 hS => ?_)
  rw [hsz] at hp
  obtain ⟨hR1, hk1, hz3⟩ := hp
  have hsz : H1.size = sz := hz1.trans hz3
  have hx0 := hR1.obj
  have hdn := hR1.dn
  have hxz := hR1.xz
  have hzL := hR1.zL
  have hq1 : M1 q = _ := (hk1 q (by omega) (by omega)).trans hq0
  refine lv_aload_n hx hb dC_deliver_25 rfl (lv_at hl 1 rfl) ?_
  refine va_get (D := G.1) (ci := 1) (v := .ref z) (C := RC) (T := TC) (N := 14) hx hb hz iC hown hK (hH.one hx0) 0 rfl rfl 2 (by decide) (hz _ zm_33) (fun _ h9 => h9) rfl dC_deliver_26 ?_
  refine lv_aload_n hx hb dC_deliver_29 rfl (lv_at hl 0 rfl) ?_
  refine va_get (D := G.1) (ci := 0) (v := .int (nI mg.rcv)) (C := RM) (T := TM) (N := 6) hx hb hz iM hown hK (hH.one hq1) 0 rfl rfl 2 (by decide) (hz _ zm_288) (fun _ h9 => h9) rfl dC_deliver_30 ?_
  refine zw_zald hx hb hK hH 2 hdn rfl (mg.rcv) rfl (hmo.2.1) (by omega) dC_deliver_33 ?_
  refine zw_ti (show nI ((zdrop st j).dn mg.rcv).toNat = nI (st.dn mg.rcv).toNat from rfl) ?_
  obtain ⟨htk, hcL, f, hch, hfk⟩ := hcp hk
  have hm3 := hmo.2.2
  rw [hk] at hm3
  have hcz := hlt0 ch _ hch
  have hch1 : M1 ch = _ := (hk1 ch (by omega) (by omega)).trans hch
  have hD : zdeliver st j mg mb = mg.chs.foldl (zta mg.rcv) (zdrop st j, 0) := by unfold zdeliver; rw [if_neg (by rw [hd]; decide), hk]
  rw [hD]
  refine zc_eq0 (tgt := 49) hx hb dC_deliver_34 (by decide) (by omega) (fun b1 => ?_) (fun b1 => ?_)
  · refine lv_aload_n hx hb dC_deliver_49 rfl (lv_at hl 0 rfl) ?_
    refine zr_V (As := []) (rest := []) (q := (RM, TM, 6)) ⟨hx, hb, hml, hown, hz⟩ (kM_isClock_no l G B M1 q _ _ _ _ told ch hq1 htk) (zt_V zm_320 zm_321 zm_322 zm_10 zm_323) rfl rfl rfl (show _ ∧ _ ∧ _ ∧ _ = some 0 from by decide +kernel) ⟨Nat.le_of_ble_eq_true rfl, Nat.le_of_ble_eq_true rfl⟩ zE_blind (zE_at hE hS) hH hK hq1 rfl rfl hl.1 rfl (Nat.le_of_ble_eq_true rfl) dC_deliver_50 ⟨Nat.le_of_ble_eq_true rfl, Nat.le_of_ble_eq_true rfl⟩ ?_
    refine zc_eq0 (tgt := 64) hx hb dC_deliver_53 (by decide) (by omega) (fun b2 => ?_) (fun b2 => ?_)
    · refine lv_aload_n hx hb dC_deliver_64 rfl (lv_at hl 1 rfl) ?_
      refine lv_aload_n hx hb dC_deliver_65 rfl (lv_at hl 0 rfl) ?_
      rw [htk] at hq1
      refine zr_Vi (As := [.ref q]) (rest := []) (q := (RC, TC, 14)) (mc := 0) (ms := 0) ⟨hx, hb, hml, hown, hz⟩ (kC_takeChanges l G B M1 _ x z L n mb (zdrop st j) _ g hn hR1 hok1 q ch mg.rcv (nI mg.num) (nI mg.snd) (nI mg.byt) hqL hq1 hmo.2.1 hcL mg.chs f hch1 hfk hm3.2.2.1 hm3.2.1) (zt_V zm_348 zm_350 zs_14 zm_1 zm_351) rfl rfl rfl (show _ ∧ _ ∧ _ ∧ _ = some 1 from by decide +kernel) ⟨Nat.le_of_ble_eq_true rfl, Nat.le_of_ble_eq_true rfl⟩ zE_blind (zE_at hE hS) hH hK hx0 rfl rfl hS hl.1 rfl (Nat.le_of_ble_eq_true rfl) dC_deliver_66 ⟨Nat.le_of_ble_eq_true rfl, Nat.le_of_ble_eq_true rfl⟩ (fun r2 M2 sz2 H2 L2 hp hH hz1 hz2 hS => ?_)
      obtain ⟨rfl, hR2, hfr2, hz4⟩ := hp
      rw [hsz] at hfr2
      refine W.widen (k := 960) (n := 3360) (by omega) (by omega) ?_
      exact W.iret (v := (nI (mg.chs.foldl (zta mg.rcv) (zdrop st j, 0)).2)) hx hb hr (fun t ht hW => ⟨⟨(nI (mg.chs.foldl (zta mg.rcv) (zdrop st j, 0)).2), (M2, H2.size), rfl, ⟨rfl, hR2, fun a h1 h2 h3 => (hfr2 a h1 h2 h3).trans (hk1 a h1 (by omega)), by show sz ≤ H2.size; omega⟩, by rw [ht]; exact hH, by rw [ht]⟩, hS.F ht⟩) hS.2.2 dC_deliver_69
    · exact absurd rfl b2
  · exact absurd (by rw [hd]; rfl) b1

theorem kC_deliver (l : Launch) (G : zG) (B : Nat) (M : zw_M) (sz : Nat) (x z L n mb : Nat) (st : zSt) (qs : List Nat) (g : Nat → Int32) (hn : n ≤ 8) (hR : zCR G M x z L n mb st qs g) (hL : L < sz) (hok : zOK n st) (hmb : mb ≤ 2000) (j : Nat) (mg : zMg) (hj : j < st.fl.length) (hmg : st.fl[j]? = some mg) : Met l yC_deliver (Cond.code yC_deliver bC_deliver 3 (some .int) :: zT) { frames := 4, cells := 960, slots := 3360, locals := 140 } (zq G B M sz [.ref x, .int (nI j)]) (va_Qi (fun (r : Int32) (u : zw_M × Nat) => r = nI (zdeliver st j mg mb).2 ∧ zCO G x z L n mb sz M ((zdeliver st j mg mb).1) u) (zr_o G.1 zCl B) (zw_A B)) (960) (3360) (zw_A B) := by
  cases hd : st.dn mg.rcv with
  | true => exact kC_deliver_down l G B M sz x z L n mb st qs g hn hR hL hok hmb j mg hj hmg hd
  | false =>
    cases hk : mg.ck with
    | some k => exact kC_deliver_clock l G B M sz x z L n mb st qs g hn hR hL hok hmb j mg hj hmg hd k hk
    | none => exact kC_deliver_part l G B M sz x z L n mb st qs g hn hR hL hok hmb j mg hj hmg hd hk
set_option maxHeartbeats 4000000 in
set_option maxRecDepth 100000 in
theorem kC_make (l : Launch) (G : zG) (B : Nat) (M : zw_M) (sz : Nat) (x z L n mb : Nat) (st : zSt) (qs : List Nat) (g : Nat → Int32) (hn : n ≤ 8) (hR : zCR G M x z L n mb st qs g) (hok : zOK n st) (j wg : Nat) (hj : j < n) (hw1 : 1 ≤ wg) (hw4 : wg ≤ 400) (hd : st.dn j = false) (h60 : (st.wt j).length < 60) : Met l yC_make (Cond.code yC_make bC_make 5 (some .int) :: zT) { frames := 2, cells := 0, slots := 0, locals := 50 } (zq G B M sz [.ref x, .int (nI j), .int (nI wg)]) (va_Qi (fun (r : Int32) (u : zw_M × Nat) => r = nI ((st.wt j).length + 1) ∧ zCO G x z L n mb sz M (zmake st j wg) u) (zr_o G.1 zCl B) (zw_A B)) (0) (0) (zw_A B) := by
  refine Met.ofW (cc := bC_make) (maxL := 5) (ret := (some .int)) (by decide) rfl ?_
  intro p e s m args below meth c s₁ B0 hml hv
  obtain ⟨rfl, hE, hH, hsz⟩ := hv
  have hx := B0.exec
  have hb := B0.bytes
  have hr := B0.returns
  have hlocks := B0.notSynchronized
  have hz : ∀ w ∈ zT, w.before _ s = true := fun w h => atoms_spec (ws := Cond.code yC_make bC_make 5 (some .int) :: zT) B0.pre w (List.mem_cons_of_mem _ h)
  have hown : s.vm.findClass RC = some m.cls := findClass_of_methodNamed B0.named
  have hK := hE.1
  have hl := lv_entry ([.ref x, .int (nI j), .int (nI wg)]) (n := 5) (Nat.le_of_ble_eq_true rfl)
  rw [lg_entry_eq]
  generalize (lg_sl ([.ref x, .int (nI j), .int (nI wg)]) ++ List.replicate (5 - (lg_sl ([.ref x, .int (nI j), .int (nI wg)])).length) Slot.unset).toArray = ls at hl ⊢
  have hl : lv_has ls 5 [(0, .ref x), (1, .int (nI j)), (2, .int (nI wg))] := hl
  have hS : va_S (zw_A B) s.heap s.heap [] := va_S.rf
  have hin : meth.name = "make" := (name_of_methodNamed B0.named B0.method).1
  have hb1 := zbool (st.dn j)
  have hzc : zb (zck (st.lg j)) j = (st.wt j).length := (zck_at (hok.b8 hj) (by omega)).trans (hok.2.2.1 _ hj).1
  have hwr := hR.wt j hj
  have hx0 := hR.obj
  have hdn := hR.dn
  have hck := hR.ck
  have hwts := hR.wts
  have hxz := hR.xz
  have hzL := hR.zL
  refine lv_aload_n hx hb dC_make_0 rfl (lv_at hl 0 rfl) ?_
  refine lv_iload_n hx hb dC_make_1 rfl (lv_at hl 1 rfl) ?_
  refine zr_V (As := [.int (nI j)]) (rest := []) (q := (RC, TC, 14)) ⟨hx, hb, hml, hown, hz⟩ (kC_isReplica_in l G B M x n mb z st.fl.length st.se st.lo st.go st.pa hn hx0 j hj) (zt_V zm_93 zm_95 zs_2 zm_1 zm_96) rfl rfl rfl (show _ ∧ _ ∧ _ ∧ _ = some 1 from by decide +kernel) ⟨Nat.le_of_ble_eq_true rfl, Nat.le_of_ble_eq_true rfl⟩ zE_blind (zE_at hE hS) hH hK hx0 rfl rfl hl.1 rfl (Nat.le_of_ble_eq_true rfl) dC_make_2 ⟨Nat.le_of_ble_eq_true rfl, Nat.le_of_ble_eq_true rfl⟩ ?_
  refine zc_ne0 (tgt := 18) hx hb dC_make_5 (by decide) (by omega) (fun b1 => ?_) (fun b1 => ?_)
  · refine lv_iload_n hx hb dC_make_18 rfl (lv_at hl 2 rfl) ?_
    refine lv_iconst (v := nI 1) hx hb dC_make_19 (by decide) ?_
    refine zc_lt (tgt := 30) hx hb dC_make_20 (by decide) (by omega) (by decide) (fun b2 => ?_) (fun b2 => ?_)
    · exact absurd b2 (by omega)
    · refine lv_iload_n hx hb dC_make_23 rfl (lv_at hl 2 rfl) ?_
      refine lv_sipush (v := nI 400) hx hb dC_make_24 (by decide) ?_
      refine zc_le (tgt := 40) hx hb dC_make_27 (by decide) (by omega) (by decide) (fun b3 => ?_) (fun b3 => ?_)
      · refine lv_aload_n hx hb dC_make_40 rfl (lv_at hl 0 rfl) ?_
        refine lv_iload_n hx hb dC_make_41 rfl (lv_at hl 1 rfl) ?_
        refine zr_V (As := [.int (nI j)]) (rest := []) (q := (RC, TC, 14)) ⟨hx, hb, hml, hown, hz⟩ (kC_madeBy l G B M x n mb z st.fl.length st.se st.lo st.go st.pa hn hx0 (fun a9 => zck (st.lg a9)) hck j hj) (zt_V zm_114 zm_116 zs_3 zm_1 zm_117) rfl rfl rfl (show _ ∧ _ ∧ _ ∧ _ = some 1 from by decide +kernel) ⟨Nat.le_of_ble_eq_true rfl, Nat.le_of_ble_eq_true rfl⟩ zE_blind (zE_at hE hS) hH hK hx0 rfl rfl hl.1 rfl (Nat.le_of_ble_eq_true rfl) dC_make_42 ⟨Nat.le_of_ble_eq_true rfl, Nat.le_of_ble_eq_true rfl⟩ ?_
        refine zw_ti (congrArg nI hzc) ?_
        refine lv_istore_n (lv' := [(3, .int (nI ((st.wt j).length))), (0, .ref x), (1, .int (nI j)), (2, .int (nI wg))]) hx hb dC_make_45 rfl hl (by decide) rfl (fun ls hl => ?_)
        refine lv_aload_n hx hb dC_make_46 rfl (lv_at hl 1 rfl) ?_
        refine va_get (D := G.1) (ci := 1) (v := .ref z) (C := RC) (T := TC) (N := 14) hx hb hz iC hown hK (hH.one hx0) 0 rfl rfl 2 (by decide) (hz _ zm_33) (fun _ h9 => h9) rfl dC_make_47 ?_
        refine lv_iload_n hx hb dC_make_50 rfl (lv_at hl 2 rfl) ?_
        refine zw_zald hx hb hK hH 2 hdn rfl (j) rfl (hj) (by omega) dC_make_51 ?_
        refine zc_ne0 (tgt := 61) hx hb dC_make_52 (by decide) (by omega) (fun b4 => ?_) (fun b4 => ?_)
        · exact absurd (by rw [hd]; rfl) b4
        · refine lv_iload_n hx hb dC_make_55 rfl (lv_at hl 0 rfl) ?_
          refine lv_bipush (v := nI 60) hx hb dC_make_56 (by decide) ?_
          refine zc_lt (tgt := 71) hx hb dC_make_58 (by decide) (by omega) (by decide) (fun b5 => ?_) (fun b5 => ?_)
          · refine lv_iload_n hx hb dC_make_71 rfl (lv_at hl 0 rfl) ?_
            refine lv_iconst (v := nI 1) hx hb dC_make_72 (by decide) ?_
            refine lv_iadd hx hb dC_make_73 ?_
            refine zw_ti (nI_add _ _) ?_
            refine lv_istore (lv' := [(4, .int (nI (((st.wt j).length) + 1))), (3, .int (nI ((st.wt j).length))), (0, .ref x), (1, .int (nI j)), (2, .int (nI wg))]) hx hb dC_make_74 hl (by decide) rfl (fun ls hl => ?_)
            refine lv_aload_n hx hb dC_make_76 rfl (lv_at hl 2 rfl) ?_
            refine va_get (D := G.1) (ci := 1) (v := .ref (z + 4 + n)) (C := RC) (T := TC) (N := 14) hx hb hz iC hown hK (hH.one hx0) 0 rfl rfl 6 (by decide) (hz _ zm_37) (fun _ h9 => h9) rfl dC_make_77 ?_
            refine lv_iload_n hx hb dC_make_80 rfl (lv_at hl 3 rfl) ?_
            refine zw_aald hx hb hK hH 4 hwts rfl rfl (j) rfl (hj) (by omega) (v := .ref (z + 5 + n + j)) rfl dC_make_81 ?_
            refine lv_iload_n hx hb dC_make_82 rfl (lv_at hl 1 rfl) ?_
            refine lv_iload_n hx hb dC_make_83 rfl (lv_at hl 4 rfl) ?_
            refine zw_iast hx hb hK hH hS 0 hwr rfl ((st.wt j).length) rfl (by omega) (by decide) dC_make_84 (fun H1 L1 hH hz1 hS => ?_)
            have hsz : H1.size = sz := hz1.trans hsz
            obtain ⟨M1, hM1⟩ : ∃ Mq, Mq = zw_u M (z + 5 + n + j) (.inl (G.2.1 0, 60, .inl (upd (fun k => nI ((st.wt j).getD k 0)) ((st.wt j).length) (nI wg)))) := ⟨_, rfl⟩
            have hH : zw_H G.1 zCl B M1 H1 := by rw [hM1]; exact hH
            have hx0 : M1 x = some (.inr (1, zoC n mb z st.fl.length st.se st.lo st.go st.pa)) := by rw [hM1, zw_un _ _ (by omega)]; exact hx0
            have hdn : M1 z = some (.inl (G.2.1 2, n, .inl (fun a9 => nI (st.dn a9).toNat))) := by rw [hM1, zw_un _ _ (by omega)]; exact hdn
            have hck : M1 (z + 1) = some (.inl (G.2.1 1, n, .inr (.inl (fun a9 => zck (st.lg a9))))) := by rw [hM1, zw_un _ _ (by omega)]; exact hck
            have hwts : M1 (z + 4 + n) = some (.inl (G.2.1 4, n, .inr (.inr (.inr (.inr (fun a9 => some (z + 5 + n + a9))))))) := by rw [hM1, zw_un _ _ (by omega)]; exact hwts
            have hwr : M1 (z + 5 + n + j) = some (.inl (G.2.1 0, 60, .inl (upd (fun k => nI ((st.wt j).getD k 0)) ((st.wt j).length) (nI wg)))) := by rw [hM1]; exact zw_us _ _ _
            refine lv_aload_n hx hb dC_make_85 rfl (lv_at hl 2 rfl) ?_
            refine lv_iload_n hx hb dC_make_86 rfl (lv_at hl 3 rfl) ?_
            refine lv_iload_n hx hb dC_make_87 rfl (lv_at hl 3 rfl) ?_
            refine lv_bipush (v := nI 8) hx hb dC_make_88 (by decide) ?_
            refine lv_iload hx hb dC_make_90 (lv_at hl 0 rfl) ?_
            refine lv_imul hx hb dC_make_92 ?_
            refine zw_ti (pk_mul _ _) ?_
            refine lv_iadd hx hb dC_make_93 ?_
            refine zw_ti (nI_add _ _) ?_
            have hk1 : ∀ a : Nat, a ≠ z + 5 + n + j → M1 a = M a := fun a h1 => by rw [hM1, zw_un _ _ h1]
            have hR1 : zCR G M1 x z L n mb (zSt.mk st.dn st.lg (fun i => if i = j then st.wt j ++ [wg] else st.wt i) st.fl st.se st.lo st.go st.pa) qs g := hR.wtd hj (fun a e h1 h2 => (hk1 a h1).trans h2) hwr
            have hm8 : (j + 8 * ((st.wt j).length + 1)) % 8 = j := by omega
            have hd8 : (j + 8 * ((st.wt j).length + 1)) / 8 = (st.wt j).length + 1 := by omega
            have hfit : zfits (zSt.mk st.dn st.lg (fun i => if i = j then st.wt j ++ [wg] else st.wt i) st.fl st.se st.lo st.go st.pa) j (j + 8 * ((st.wt j).length + 1)) := by show _ = zcnt _ (st.lg j) + 1; rw [hm8, hd8, (hok.2.2.1 _ hj).1]
            have hl60 : (st.lg j).length < n * 60 := by rw [zlen (n := n) _ (fun c hc => (hok.1 j hj c hc).1)]; exact zsum_lt (a := j) (fun i hi => hok.cnt60 hj hi) hj (by rw [(hok.2.2.1 _ hj).1]; omega)
            refine zr_Vi (As := [.int (nI j), .int (nI (j + (8 * (((st.wt j).length) + 1))))]) (rest := []) (q := (RC, TC, 14)) (mc := 0) (ms := 0) ⟨hx, hb, hml, hown, hz⟩ (kC_comes_yes l G B M1 _ x z L n mb (zSt.mk st.dn st.lg (fun i => if i = j then st.wt j ++ [wg] else st.wt i) st.fl st.se st.lo st.go st.pa) qs g hn hR1 j (j + 8 * ((st.wt j).length + 1)) hj (by omega) (hok.b8 hj) hfit hl60) (zt_V zm_250 zm_252 zs_8 zm_1 zm_253) rfl rfl rfl (show _ ∧ _ ∧ _ ∧ _ = some 2 from by decide +kernel) ⟨Nat.le_of_ble_eq_true rfl, Nat.le_of_ble_eq_true rfl⟩ zE_blind (zE_at hE hS) hH hK hx0 rfl rfl hS hl.1 rfl (Nat.le_of_ble_eq_true rfl) dC_make_94 ⟨Nat.le_of_ble_eq_true rfl, Nat.le_of_ble_eq_true rfl⟩ (fun r2 M2 sz2 H2 L2 hp hH hz1 hz2 hS => ?_)
            obtain ⟨rfl, hR2, hk2, hz3⟩ := hp
            have hk2 : ∀ a : Nat, a ≠ z + 3 + j → a ≠ z + 3 + n → a ≠ z + 1 → M2 a = M1 a := hk2
            have hsz : H2.size = sz := hz1.trans (hz3.trans hsz)
            refine lv_pop hx hb dC_make_97 rfl ?_
            refine lv_iload hx hb dC_make_98 (lv_at hl 0 rfl) ?_
            exact W.iret (v := (nI (((st.wt j).length) + 1))) hx hb hr (fun t ht hW => ⟨⟨(nI (((st.wt j).length) + 1)), (M2, sz), rfl, ⟨rfl, ⟨qs, g, hR2⟩, fun a h1 h2 h3 => (hk2 a (by omega) (by omega) (by omega)).trans (hk1 a (by omega)), Nat.le_refl _⟩, by rw [ht]; exact hH, by rw [ht]; exact hsz⟩, hS.F ht⟩) hS.2.2 dC_make_100
          · exact absurd b5 (by omega)
      · exact absurd b3 (by omega)
  · exact absurd b1 (by decide)
end
section
/-! THE CLASS: its constructor -/
def z0 : zSt := zSt.mk (fun _ => false) (fun _ => []) (fun _ => []) [] 0 0 0 0
theorem zck_nil : zck [] = 0 := by decide
set_option maxHeartbeats 4000000 in
set_option maxRecDepth 100000 in
theorem kC_init (l : Launch) (G : zG) (B : Nat) (M : zw_M) (sz : Nat) (x : Nat) (a b : Int32) (hx0 : M x = some (.inr (1, [.int 0, .int 0, .null, .null, .null, .null, .null, .null, .int 0, .null, .int 0, .int 0, .int 0, .int 0]))) : Met l yC_init (Cond.code yC_init bC_init 4 none :: zT) { frames := 1, cells := 23, slots := 5000, locals := 40 } (zq G B M sz [.ref x, .int a, .int b]) (va_Qv (fun (u : zw_M × Nat) => u.2 = sz + 7 + 2 * zcl 2 8 a ∧ (∀ L, sz + 6 + 2 * zcl 2 8 a ≤ L → ∃ g, zCR G u.1 x sz L (zcl 2 8 a) (zcl 16 2000 b) z0 [] g) ∧ ∀ q : Nat, q ≠ x → q < sz → u.1 q = M q) (zr_o G.1 zCl B) (zw_A B)) (23) (5000) (zw_A B) := by
  refine Met.ofW (cc := bC_init) (maxL := 4) (ret := none) (by decide) rfl ?_
  intro p e s m args below meth c s₁ B0 hml hv
  obtain ⟨rfl, hE, hH, hsz⟩ := hv
  have hx := B0.exec
  have hb := B0.bytes
  have hr := B0.returns
  have hlocks := B0.notSynchronized
  have hz : ∀ w ∈ zT, w.before _ s = true := fun w h => atoms_spec (ws := Cond.code yC_init bC_init 4 none :: zT) B0.pre w (List.mem_cons_of_mem _ h)
  have hown : s.vm.findClass RC = some m.cls := findClass_of_methodNamed B0.named
  have hK := hE.1
  have hl := lv_entry ([.ref x, .int a, .int b]) (n := 4) (Nat.le_of_ble_eq_true rfl)
  rw [lg_entry_eq]
  generalize (lg_sl ([.ref x, .int a, .int b]) ++ List.replicate (4 - (lg_sl ([.ref x, .int a, .int b])).length) Slot.unset).toArray = ls at hl ⊢
  have hl : lv_has ls 4 [(0, .ref x), (1, .int a), (2, .int b)] := hl
  have hS : va_S (zw_A B) s.heap s.heap [] := va_S.rf
  have hin : meth.name = "<init>" := (name_of_methodNamed B0.named B0.method).1
  have hlt0 : ∀ (a : Nat) (e : va_E), M a = some e → a < sz := fun a e h => by rw [← hsz]; exact hH.lt h
  obtain ⟨n, hnd⟩ : ∃ q, q = zcl 2 8 a := ⟨_, rfl⟩
  obtain ⟨mb, hmd⟩ : ∃ q, q = zcl 16 2000 b := ⟨_, rfl⟩
  have hcl := zcl_in (lo := 2) (hi := 8) (by decide) (by decide) a
  have hcm := zcl_max (lo := 2) (hi := 8) (by decide) (by decide) a
  have hcm2 := zcl_max (lo := 16) (hi := 2000) (by decide) (by decide) b
  rw [← hnd] at hcl hcm
  rw [← hmd] at hcm2
  rw [← hnd, ← hmd]
  have hn2 := hcl.1
  have hn8 := hcl.2.1
  have hnn : n * (n * 60) ≤ 8 * 480 := Nat.mul_le_mul hn8 (by omega)
  have hxs := hlt0 x _ hx0
  refine lv_aload_n hx hb dC_init_0 rfl (lv_at hl 0 rfl) ?_
  refine W.objInit hx hb hown (hz _ zm_18) (hz _ zm_19) (hz _ zm_20) rfl (by rw [hml]; exact hl.1) rfl dC_init_1 (Nat.le_of_ble_eq_true rfl) (Nat.le_of_ble_eq_true rfl) ?_
  refine lv_aload_n hx hb dC_init_4 rfl (lv_at hl 0 rfl) ?_
  refine lv_iconst (v := nI 2) hx hb dC_init_5 (by decide) ?_
  refine lv_bipush (v := nI 8) hx hb dC_init_6 (by decide) ?_
  refine lv_iload_n hx hb dC_init_8 rfl (lv_at hl 1 rfl) ?_
  refine va_mmin hx hb (by rw [hml]; exact hl.1.symm) hown (hz _ zm_21) (hz _ zm_22) (hz _ zm_2) (hz _ zm_23) (Nat.le_of_ble_eq_true rfl) (Nat.le_of_ble_eq_true rfl) (Nat.zero_le _) (Nat.zero_le _) dC_init_9 ?_
  refine va_mmax hx hb (by rw [hml]; exact hl.1.symm) hown (hz _ zm_24) (hz _ zm_25) (hz _ zm_2) (hz _ zm_26) (Nat.le_of_ble_eq_true rfl) (Nat.le_of_ble_eq_true rfl) (Nat.zero_le _) (Nat.zero_le _) dC_init_12 ?_
  refine zw_ti hcm ?_
  refine zw_putF (D := G.1) (ci := 1) (v := .int (nI n)) (ty := .int) (C := RC) (T := TC) (N := 14) hx hb hz iC tC tC_ok nC hown hK hH hS hx0 rfl 0 (by decide) (hz _ zm_31) (fun _ h9 => h9) rfl hin rfl (by decide +kernel) rfl rfl (Nat.le_of_ble_eq_true rfl) dC_init_15 (fun H1 L1 hH hz1 hS => ?_)
  have hsz : H1.size = _ := hz1.trans hsz
  obtain ⟨M1, hM1⟩ : ∃ Mq, Mq = zw_u M x (.inr (1, [.int (nI n), .int 0, .null, .null, .null, .null, .null, .null, .int 0, .null, .int 0, .int 0, .int 0, .int 0])) := ⟨_, rfl⟩
  have hH : zw_H G.1 zCl B M1 H1 := by rw [hM1]; exact hH
  have hx0 : M1 x = some (.inr (1, [.int (nI n), .int 0, .null, .null, .null, .null, .null, .null, .int 0, .null, .int 0, .int 0, .int 0, .int 0])) := by rw [hM1]; exact zw_us _ _ _
  refine lv_aload_n hx hb dC_init_18 rfl (lv_at hl 0 rfl) ?_
  refine lv_bipush (v := nI 16) hx hb dC_init_19 (by decide) ?_
  refine lv_sipush (v := nI 2000) hx hb dC_init_21 (by decide) ?_
  refine lv_iload_n hx hb dC_init_24 rfl (lv_at hl 2 rfl) ?_
  refine va_mmin hx hb (by rw [hml]; exact hl.1.symm) hown (hz _ zm_21) (hz _ zm_22) (hz _ zm_2) (hz _ zm_23) (Nat.le_of_ble_eq_true rfl) (Nat.le_of_ble_eq_true rfl) (Nat.zero_le _) (Nat.zero_le _) dC_init_25 ?_
  refine va_mmax hx hb (by rw [hml]; exact hl.1.symm) hown (hz _ zm_24) (hz _ zm_25) (hz _ zm_2) (hz _ zm_26) (Nat.le_of_ble_eq_true rfl) (Nat.le_of_ble_eq_true rfl) (Nat.zero_le _) (Nat.zero_le _) dC_init_28 ?_
  refine zw_ti hcm2 ?_
  refine zw_putF (D := G.1) (ci := 1) (v := .int (nI mb)) (ty := .int) (C := RC) (T := TC) (N := 14) hx hb hz iC tC tC_ok nC hown hK hH hS hx0 rfl 1 (by decide) (hz _ zm_32) (fun _ h9 => h9) rfl hin rfl (by decide +kernel) rfl rfl (Nat.le_of_ble_eq_true rfl) dC_init_31 (fun H2 L2 hH hz1 hS => ?_)
  have hsz : H2.size = _ := hz1.trans hsz
  obtain ⟨M2, hM2⟩ : ∃ Mq, Mq = zw_u M1 x (.inr (1, [.int (nI n), .int (nI mb), .null, .null, .null, .null, .null, .null, .int 0, .null, .int 0, .int 0, .int 0, .int 0])) := ⟨_, rfl⟩
  have hH : zw_H G.1 zCl B M2 H2 := by rw [hM2]; exact hH
  have hx0 : M2 x = some (.inr (1, [.int (nI n), .int (nI mb), .null, .null, .null, .null, .null, .null, .int 0, .null, .int 0, .int 0, .int 0, .int 0])) := by rw [hM2]; exact zw_us _ _ _
  refine lv_aload_n hx hb dC_init_34 rfl (lv_at hl 0 rfl) ?_
  refine va_get (D := G.1) (ci := 1) (v := .int (nI n)) (C := RC) (T := TC) (N := 14) hx hb hz iC hown hK (hH.one hx0) 0 rfl rfl 0 (by decide) (hz _ zm_31) (fun _ h9 => h9) rfl dC_init_35 ?_
  refine lv_bipush (v := nI 60) hx hb dC_init_38 (by decide) ?_
  refine lv_imul hx hb dC_init_40 ?_
  refine zw_ti (pk_mul _ _) ?_
  refine lv_istore_n (lv' := [(3, .int (nI (n * 60))), (0, .ref x), (1, .int a), (2, .int b)]) hx hb dC_init_41 rfl hl (by decide) rfl (fun ls hl => ?_)
  refine lv_aload_n hx hb dC_init_42 rfl (lv_at hl 1 rfl) ?_
  refine lv_aload_n hx hb dC_init_43 rfl (lv_at hl 1 rfl) ?_
  refine va_get (D := G.1) (ci := 1) (v := .int (nI n)) (C := RC) (T := TC) (N := 14) hx hb hz iC hown hK (hH.one hx0) 0 rfl rfl 0 (by decide) (hz _ zm_31) (fun _ h9 => h9) rfl dC_init_44 ?_
  refine zw_newa (atype := .boolean) (cA := G.2.1 2) (a0 := (n, .inl (fun _ => nI 0))) hx hb (hz _ zm_74) hK hH hS (Nat.le_trans hE.2.1 hS.1) 2 rfl rfl rfl (by omega) (by show _ + 1 ≤ 23; omega) (by show _ + _ ≤ 5000; omega) dC_init_47 (fun H3 hH hz1 hS => ?_)
  rw [hsz] at hH hz1 ⊢
  have hsz : H3.size = sz + 1 := by omega
  obtain ⟨M3, hM3⟩ : ∃ Mq, Mq = zw_u M2 sz (.inl (G.2.1 2, n, .inl (fun _ => nI 0))) := ⟨_, rfl⟩
  have hH : zw_H G.1 zCl B M3 H3 := by rw [hM3]; exact hH
  have hx0 : M3 x = some (.inr (1, [.int (nI n), .int (nI mb), .null, .null, .null, .null, .null, .null, .int 0, .null, .int 0, .int 0, .int 0, .int 0])) := by rw [hM3, zw_un _ _ (by omega)]; exact hx0
  have hdn : M3 sz = some (.inl (G.2.1 2, n, .inl (fun _ => nI 0))) := by rw [hM3]; exact zw_us _ _ _
  refine zw_putF (D := G.1) (ci := 1) (v := .ref sz) (ty := (.array .boolean)) (C := RC) (T := TC) (N := 14) hx hb hz iC tC tC_ok nC hown hK hH hS hx0 rfl 2 (by decide) (hz _ zm_33) (fun _ h9 => h9) rfl hin rfl (by decide +kernel) rfl rfl (Nat.le_of_ble_eq_true rfl) dC_init_49 (fun H4 L4 hH hz1 hS => ?_)
  have hsz : H4.size = _ := hz1.trans hsz
  obtain ⟨M4, hM4⟩ : ∃ Mq, Mq = zw_u M3 x (.inr (1, [.int (nI n), .int (nI mb), .ref sz, .null, .null, .null, .null, .null, .int 0, .null, .int 0, .int 0, .int 0, .int 0])) := ⟨_, rfl⟩
  have hH : zw_H G.1 zCl B M4 H4 := by rw [hM4]; exact hH
  have hdn : M4 sz = some (.inl (G.2.1 2, n, .inl (fun _ => nI 0))) := by rw [hM4, zw_un _ _ (by omega)]; exact hdn
  have hx0 : M4 x = some (.inr (1, [.int (nI n), .int (nI mb), .ref sz, .null, .null, .null, .null, .null, .int 0, .null, .int 0, .int 0, .int 0, .int 0])) := by rw [hM4]; exact zw_us _ _ _
  refine lv_aload_n hx hb dC_init_52 rfl (lv_at hl 1 rfl) ?_
  refine lv_aload_n hx hb dC_init_53 rfl (lv_at hl 1 rfl) ?_
  refine va_get (D := G.1) (ci := 1) (v := .int (nI n)) (C := RC) (T := TC) (N := 14) hx hb hz iC hown hK (hH.one hx0) 0 rfl rfl 0 (by decide) (hz _ zm_31) (fun _ h9 => h9) rfl dC_init_54 ?_
  refine zw_newa (atype := .long) (cA := G.2.1 1) (a0 := (n, .inr (.inl (fun _ => 0)))) hx hb (hz _ zm_75) hK hH hS (Nat.le_trans hE.2.1 hS.1) 1 rfl rfl rfl (by omega) (by show _ + 1 ≤ 23; omega) (by show _ + _ ≤ 5000; omega) dC_init_57 (fun H5 hH hz1 hS => ?_)
  rw [hsz] at hH hz1 ⊢
  have hsz : H5.size = sz + 2 := by omega
  obtain ⟨M5, hM5⟩ : ∃ Mq, Mq = zw_u M4 (sz + 1) (.inl (G.2.1 1, n, .inr (.inl (fun _ => 0)))) := ⟨_, rfl⟩
  have hH : zw_H G.1 zCl B M5 H5 := by rw [hM5]; exact hH
  have hx0 : M5 x = some (.inr (1, [.int (nI n), .int (nI mb), .ref sz, .null, .null, .null, .null, .null, .int 0, .null, .int 0, .int 0, .int 0, .int 0])) := by rw [hM5, zw_un _ _ (by omega)]; exact hx0
  have hdn : M5 sz = some (.inl (G.2.1 2, n, .inl (fun _ => nI 0))) := by rw [hM5, zw_un _ _ (by omega)]; exact hdn
  have hck : M5 (sz + 1) = some (.inl (G.2.1 1, n, .inr (.inl (fun _ => 0)))) := by rw [hM5]; exact zw_us _ _ _
  refine zw_putF (D := G.1) (ci := 1) (v := .ref (sz + 1)) (ty := (.array .long)) (C := RC) (T := TC) (N := 14) hx hb hz iC tC tC_ok nC hown hK hH hS hx0 rfl 3 (by decide) (hz _ zm_34) (fun _ h9 => h9) rfl hin rfl (by decide +kernel) rfl rfl (Nat.le_of_ble_eq_true rfl) dC_init_59 (fun H6 L6 hH hz1 hS => ?_)
  have hsz : H6.size = _ := hz1.trans hsz
  obtain ⟨M6, hM6⟩ : ∃ Mq, Mq = zw_u M5 x (.inr (1, [.int (nI n), .int (nI mb), .ref sz, .ref (sz + 1), .null, .null, .null, .null, .int 0, .null, .int 0, .int 0, .int 0, .int 0])) := ⟨_, rfl⟩
  have hH : zw_H G.1 zCl B M6 H6 := by rw [hM6]; exact hH
  have hdn : M6 sz = some (.inl (G.2.1 2, n, .inl (fun _ => nI 0))) := by rw [hM6, zw_un _ _ (by omega)]; exact hdn
  have hck : M6 (sz + 1) = some (.inl (G.2.1 1, n, .inr (.inl (fun _ => 0)))) := by rw [hM6, zw_un _ _ (by omega)]; exact hck
  have hx0 : M6 x = some (.inr (1, [.int (nI n), .int (nI mb), .ref sz, .ref (sz + 1), .null, .null, .null, .null, .int 0, .null, .int 0, .int 0, .int 0, .int 0])) := by rw [hM6]; exact zw_us _ _ _
  refine lv_aload_n hx hb dC_init_62 rfl (lv_at hl 1 rfl) ?_
  refine lv_aload_n hx hb dC_init_63 rfl (lv_at hl 1 rfl) ?_
  refine va_get (D := G.1) (ci := 1) (v := .int (nI n)) (C := RC) (T := TC) (N := 14) hx hb hz iC hown hK (hH.one hx0) 0 rfl rfl 0 (by decide) (hz _ zm_31) (fun _ h9 => h9) rfl dC_init_64 ?_
  refine lv_iload_n hx hb dC_init_67 rfl (lv_at hl 0 rfl) ?_
  refine zw_multi hx hb hown (hz _ zm_27) hE.2.2.2.2.2.1 (hz _ zm_76) hK hH hS (Nat.le_trans hE.2.1 hS.1) 0 4 rfl rfl dC_init_68 (by omega) (by omega) (by show _ + (1 + n) ≤ 23; omega) (by show _ + (n + n * _) ≤ 5000; omega) (fun H7 hH hz1 hS => ?_)
  rw [hsz] at hH hz1 ⊢
  have hsz : H7.size = sz + 3 + n := by omega
  obtain ⟨M7, hM7⟩ : ∃ Mq, Mq = zw_rows M6 (sz + 2 + 1) n (.inl (G.2.1 0, n * 60, .inl (fun _ => nI 0))) := ⟨_, rfl⟩
  rw [← hM7] at hH
  have hx0 : M7 x = some (.inr (1, [.int (nI n), .int (nI mb), .ref sz, .ref (sz + 1), .null, .null, .null, .null, .int 0, .null, .int 0, .int 0, .int 0, .int 0])) := by rw [hM7, zw_rout _ _ (by omega)]; exact hx0
  have hdn : M7 sz = some (.inl (G.2.1 2, n, .inl (fun _ => nI 0))) := by rw [hM7, zw_rout _ _ (by omega)]; exact hdn
  have hck : M7 (sz + 1) = some (.inl (G.2.1 1, n, .inr (.inl (fun _ => 0)))) := by rw [hM7, zw_rout _ _ (by omega)]; exact hck
  have hrw : ∀ i, i < n → M7 (sz + 3 + i) = some (.inl (G.2.1 0, n * 60, .inl (fun _ => nI 0))) := fun i hi => by rw [hM7]; exact zw_rin _ _ (by omega) (by omega)
  obtain ⟨M8, hM8⟩ : ∃ Mq, Mq = zw_u M7 (sz + 2) (.inl (G.2.1 4, n, .inr (.inr (.inr (.inr (fun i => some (sz + 2 + 1 + i))))))) := ⟨_, rfl⟩
  have hH : zw_H G.1 zCl B M8 H7 := by rw [hM8]; exact hH
  have hx0 : M8 x = some (.inr (1, [.int (nI n), .int (nI mb), .ref sz, .ref (sz + 1), .null, .null, .null, .null, .int 0, .null, .int 0, .int 0, .int 0, .int 0])) := by rw [hM8, zw_un _ _ (by omega)]; exact hx0
  have hdn : M8 sz = some (.inl (G.2.1 2, n, .inl (fun _ => nI 0))) := by rw [hM8, zw_un _ _ (by omega)]; exact hdn
  have hck : M8 (sz + 1) = some (.inl (G.2.1 1, n, .inr (.inl (fun _ => 0)))) := by rw [hM8, zw_un _ _ (by omega)]; exact hck
  have hrw : ∀ i, i < n → M8 (sz + 3 + i) = some (.inl (G.2.1 0, n * 60, .inl (fun _ => nI 0))) := fun i hi => by rw [hM8, zw_un _ _ (by omega)]; exact hrw i hi
  have hlgs : M8 (sz + 2) = some (.inl (G.2.1 4, n, .inr (.inr (.inr (.inr (fun i => some (sz + 2 + 1 + i))))))) := by rw [hM8]; exact zw_us _ _ _
  refine zw_putF (D := G.1) (ci := 1) (v := .ref (sz + 2)) (ty := (.array (.array .int))) (C := RC) (T := TC) (N := 14) hx hb hz iC tC tC_ok nC hown hK hH hS hx0 rfl 4 (by decide) (hz _ zm_35) (fun _ h9 => h9) rfl hin rfl (by decide +kernel) rfl rfl (Nat.le_of_ble_eq_true rfl) dC_init_72 (fun H8 L8 hH hz1 hS => ?_)
  have hsz : H8.size = _ := hz1.trans hsz
  obtain ⟨M9, hM9⟩ : ∃ Mq, Mq = zw_u M8 x (.inr (1, [.int (nI n), .int (nI mb), .ref sz, .ref (sz + 1), .ref (sz + 2), .null, .null, .null, .int 0, .null, .int 0, .int 0, .int 0, .int 0])) := ⟨_, rfl⟩
  have hH : zw_H G.1 zCl B M9 H8 := by rw [hM9]; exact hH
  have hdn : M9 sz = some (.inl (G.2.1 2, n, .inl (fun _ => nI 0))) := by rw [hM9, zw_un _ _ (by omega)]; exact hdn
  have hck : M9 (sz + 1) = some (.inl (G.2.1 1, n, .inr (.inl (fun _ => 0)))) := by rw [hM9, zw_un _ _ (by omega)]; exact hck
  have hlgs : M9 (sz + 2) = some (.inl (G.2.1 4, n, .inr (.inr (.inr (.inr (fun i => some (sz + 2 + 1 + i))))))) := by rw [hM9, zw_un _ _ (by omega)]; exact hlgs
  have hrw : ∀ i, i < n → M9 (sz + 3 + i) = some (.inl (G.2.1 0, n * 60, .inl (fun _ => nI 0))) := fun i hi => by rw [hM9, zw_un _ _ (by omega)]; exact hrw i hi
  have hx0 : M9 x = some (.inr (1, [.int (nI n), .int (nI mb), .ref sz, .ref (sz + 1), .ref (sz + 2), .null, .null, .null, .int 0, .null, .int 0, .int 0, .int 0, .int 0])) := by rw [hM9]; exact zw_us _ _ _
  refine lv_aload_n hx hb dC_init_75 rfl (lv_at hl 1 rfl) ?_
  refine lv_aload_n hx hb dC_init_76 rfl (lv_at hl 1 rfl) ?_
  refine va_get (D := G.1) (ci := 1) (v := .int (nI n)) (C := RC) (T := TC) (N := 14) hx hb hz iC hown hK (hH.one hx0) 0 rfl rfl 0 (by decide) (hz _ zm_31) (fun _ h9 => h9) rfl dC_init_77 ?_
  refine zw_newa (atype := .int) (cA := G.2.1 0) (a0 := (n, .inl (fun _ => nI 0))) hx hb (hz _ zm_76) hK hH hS (Nat.le_trans hE.2.1 hS.1) 0 rfl rfl rfl (by omega) (by show _ + 1 ≤ 23; omega) (by show _ + _ ≤ 5000; omega) dC_init_80 (fun H9 hH hz1 hS => ?_)
  rw [hsz] at hH hz1 ⊢
  have hsz : H9.size = sz + 4 + n := by omega
  obtain ⟨M10, hM10⟩ : ∃ Mq, Mq = zw_u M9 (sz + 3 + n) (.inl (G.2.1 0, n, .inl (fun _ => nI 0))) := ⟨_, rfl⟩
  have hH : zw_H G.1 zCl B M10 H9 := by rw [hM10]; exact hH
  have hx0 : M10 x = some (.inr (1, [.int (nI n), .int (nI mb), .ref sz, .ref (sz + 1), .ref (sz + 2), .null, .null, .null, .int 0, .null, .int 0, .int 0, .int 0, .int 0])) := by rw [hM10, zw_un _ _ (by omega)]; exact hx0
  have hdn : M10 sz = some (.inl (G.2.1 2, n, .inl (fun _ => nI 0))) := by rw [hM10, zw_un _ _ (by omega)]; exact hdn
  have hck : M10 (sz + 1) = some (.inl (G.2.1 1, n, .inr (.inl (fun _ => 0)))) := by rw [hM10, zw_un _ _ (by omega)]; exact hck
  have hlgs : M10 (sz + 2) = some (.inl (G.2.1 4, n, .inr (.inr (.inr (.inr (fun i => some (sz + 2 + 1 + i))))))) := by rw [hM10, zw_un _ _ (by omega)]; exact hlgs
  have hrw : ∀ i, i < n → M10 (sz + 3 + i) = some (.inl (G.2.1 0, n * 60, .inl (fun _ => nI 0))) := fun i hi => by rw [hM10, zw_un _ _ (by omega)]; exact hrw i hi
  have hlz : M10 (sz + 3 + n) = some (.inl (G.2.1 0, n, .inl (fun _ => nI 0))) := by rw [hM10]; exact zw_us _ _ _
  refine zw_putF (D := G.1) (ci := 1) (v := .ref (sz + 3 + n)) (ty := (.array .int)) (C := RC) (T := TC) (N := 14) hx hb hz iC tC tC_ok nC hown hK hH hS hx0 rfl 5 (by decide) (hz _ zm_36) (fun _ h9 => h9) rfl hin rfl (by decide +kernel) rfl rfl (Nat.le_of_ble_eq_true rfl) dC_init_82 (fun H10 L10 hH hz1 hS => ?_)
  have hsz : H10.size = _ := hz1.trans hsz
  obtain ⟨M11, hM11⟩ : ∃ Mq, Mq = zw_u M10 x (.inr (1, [.int (nI n), .int (nI mb), .ref sz, .ref (sz + 1), .ref (sz + 2), .ref (sz + 3 + n), .null, .null, .int 0, .null, .int 0, .int 0, .int 0, .int 0])) := ⟨_, rfl⟩
  have hH : zw_H G.1 zCl B M11 H10 := by rw [hM11]; exact hH
  have hdn : M11 sz = some (.inl (G.2.1 2, n, .inl (fun _ => nI 0))) := by rw [hM11, zw_un _ _ (by omega)]; exact hdn
  have hck : M11 (sz + 1) = some (.inl (G.2.1 1, n, .inr (.inl (fun _ => 0)))) := by rw [hM11, zw_un _ _ (by omega)]; exact hck
  have hlgs : M11 (sz + 2) = some (.inl (G.2.1 4, n, .inr (.inr (.inr (.inr (fun i => some (sz + 2 + 1 + i))))))) := by rw [hM11, zw_un _ _ (by omega)]; exact hlgs
  have hlz : M11 (sz + 3 + n) = some (.inl (G.2.1 0, n, .inl (fun _ => nI 0))) := by rw [hM11, zw_un _ _ (by omega)]; exact hlz
  have hrw : ∀ i, i < n → M11 (sz + 3 + i) = some (.inl (G.2.1 0, n * 60, .inl (fun _ => nI 0))) := fun i hi => by rw [hM11, zw_un _ _ (by omega)]; exact hrw i hi
  have hx0 : M11 x = some (.inr (1, [.int (nI n), .int (nI mb), .ref sz, .ref (sz + 1), .ref (sz + 2), .ref (sz + 3 + n), .null, .null, .int 0, .null, .int 0, .int 0, .int 0, .int 0])) := by rw [hM11]; exact zw_us _ _ _
  refine lv_aload_n hx hb dC_init_85 rfl (lv_at hl 1 rfl) ?_
  refine lv_aload_n hx hb dC_init_86 rfl (lv_at hl 1 rfl) ?_
  refine va_get (D := G.1) (ci := 1) (v := .int (nI n)) (C := RC) (T := TC) (N := 14) hx hb hz iC hown hK (hH.one hx0) 0 rfl rfl 0 (by decide) (hz _ zm_31) (fun _ h9 => h9) rfl dC_init_87 ?_
  refine lv_bipush (v := nI 60) hx hb dC_init_90 (by decide) ?_
  refine zw_multi hx hb hown (hz _ zm_27) hE.2.2.2.2.2.1 (hz _ zm_76) hK hH hS (Nat.le_trans hE.2.1 hS.1) 0 4 rfl rfl dC_init_92 (by omega) (by omega) (by show _ + (1 + n) ≤ 23; omega) (by show _ + (n + n * _) ≤ 5000; omega) (fun H11 hH hz1 hS => ?_)
  rw [hsz] at hH hz1 ⊢
  have hsz : H11.size = sz + 5 + 2 * n := by omega
  obtain ⟨M12, hM12⟩ : ∃ Mq, Mq = zw_rows M11 (sz + 4 + n + 1) n (.inl (G.2.1 0, 60, .inl (fun _ => nI 0))) := ⟨_, rfl⟩
  rw [← hM12] at hH
  have hx0 : M12 x = some (.inr (1, [.int (nI n), .int (nI mb), .ref sz, .ref (sz + 1), .ref (sz + 2), .ref (sz + 3 + n), .null, .null, .int 0, .null, .int 0, .int 0, .int 0, .int 0])) := by rw [hM12, zw_rout _ _ (by omega)]; exact hx0
  have hdn : M12 sz = some (.inl (G.2.1 2, n, .inl (fun _ => nI 0))) := by rw [hM12, zw_rout _ _ (by omega)]; exact hdn
  have hck : M12 (sz + 1) = some (.inl (G.2.1 1, n, .inr (.inl (fun _ => 0)))) := by rw [hM12, zw_rout _ _ (by omega)]; exact hck
  have hlgs : M12 (sz + 2) = some (.inl (G.2.1 4, n, .inr (.inr (.inr (.inr (fun i => some (sz + 2 + 1 + i))))))) := by rw [hM12, zw_rout _ _ (by omega)]; exact hlgs
  have hlz : M12 (sz + 3 + n) = some (.inl (G.2.1 0, n, .inl (fun _ => nI 0))) := by rw [hM12, zw_rout _ _ (by omega)]; exact hlz
  have hrw : ∀ i, i < n → M12 (sz + 3 + i) = some (.inl (G.2.1 0, n * 60, .inl (fun _ => nI 0))) := fun i hi => by rw [hM12, zw_rout _ _ (by omega)]; exact hrw i hi
  have hww : ∀ i, i < n → M12 (sz + 5 + n + i) = some (.inl (G.2.1 0, 60, .inl (fun _ => nI 0))) := fun i hi => by rw [hM12]; exact zw_rin _ _ (by omega) (by omega)
  obtain ⟨M13, hM13⟩ : ∃ Mq, Mq = zw_u M12 (sz + 4 + n) (.inl (G.2.1 4, n, .inr (.inr (.inr (.inr (fun i => some (sz + 4 + n + 1 + i))))))) := ⟨_, rfl⟩
  have hH : zw_H G.1 zCl B M13 H11 := by rw [hM13]; exact hH
  have hx0 : M13 x = some (.inr (1, [.int (nI n), .int (nI mb), .ref sz, .ref (sz + 1), .ref (sz + 2), .ref (sz + 3 + n), .null, .null, .int 0, .null, .int 0, .int 0, .int 0, .int 0])) := by rw [hM13, zw_un _ _ (by omega)]; exact hx0
  have hdn : M13 sz = some (.inl (G.2.1 2, n, .inl (fun _ => nI 0))) := by rw [hM13, zw_un _ _ (by omega)]; exact hdn
  have hck : M13 (sz + 1) = some (.inl (G.2.1 1, n, .inr (.inl (fun _ => 0)))) := by rw [hM13, zw_un _ _ (by omega)]; exact hck
  have hlgs : M13 (sz + 2) = some (.inl (G.2.1 4, n, .inr (.inr (.inr (.inr (fun i => some (sz + 2 + 1 + i))))))) := by rw [hM13, zw_un _ _ (by omega)]; exact hlgs
  have hlz : M13 (sz + 3 + n) = some (.inl (G.2.1 0, n, .inl (fun _ => nI 0))) := by rw [hM13, zw_un _ _ (by omega)]; exact hlz
  have hrw : ∀ i, i < n → M13 (sz + 3 + i) = some (.inl (G.2.1 0, n * 60, .inl (fun _ => nI 0))) := fun i hi => by rw [hM13, zw_un _ _ (by omega)]; exact hrw i hi
  have hww : ∀ i, i < n → M13 (sz + 5 + n + i) = some (.inl (G.2.1 0, 60, .inl (fun _ => nI 0))) := fun i hi => by rw [hM13, zw_un _ _ (by omega)]; exact hww i hi
  have hwts : M13 (sz + 4 + n) = some (.inl (G.2.1 4, n, .inr (.inr (.inr (.inr (fun i => some (sz + 4 + n + 1 + i))))))) := by rw [hM13]; exact zw_us _ _ _
  refine zw_putF (D := G.1) (ci := 1) (v := .ref (sz + 4 + n)) (ty := (.array (.array .int))) (C := RC) (T := TC) (N := 14) hx hb hz iC tC tC_ok nC hown hK hH hS hx0 rfl 6 (by decide) (hz _ zm_37) (fun _ h9 => h9) rfl hin rfl (by decide +kernel) rfl rfl (Nat.le_of_ble_eq_true rfl) dC_init_96 (fun H12 L12 hH hz1 hS => ?_)
  have hsz : H12.size = _ := hz1.trans hsz
  obtain ⟨M14, hM14⟩ : ∃ Mq, Mq = zw_u M13 x (.inr (1, [.int (nI n), .int (nI mb), .ref sz, .ref (sz + 1), .ref (sz + 2), .ref (sz + 3 + n), .ref (sz + 4 + n), .null, .int 0, .null, .int 0, .int 0, .int 0, .int 0])) := ⟨_, rfl⟩
  have hH : zw_H G.1 zCl B M14 H12 := by rw [hM14]; exact hH
  have hdn : M14 sz = some (.inl (G.2.1 2, n, .inl (fun _ => nI 0))) := by rw [hM14, zw_un _ _ (by omega)]; exact hdn
  have hck : M14 (sz + 1) = some (.inl (G.2.1 1, n, .inr (.inl (fun _ => 0)))) := by rw [hM14, zw_un _ _ (by omega)]; exact hck
  have hlgs : M14 (sz + 2) = some (.inl (G.2.1 4, n, .inr (.inr (.inr (.inr (fun i => some (sz + 2 + 1 + i))))))) := by rw [hM14, zw_un _ _ (by omega)]; exact hlgs
  have hlz : M14 (sz + 3 + n) = some (.inl (G.2.1 0, n, .inl (fun _ => nI 0))) := by rw [hM14, zw_un _ _ (by omega)]; exact hlz
  have hwts : M14 (sz + 4 + n) = some (.inl (G.2.1 4, n, .inr (.inr (.inr (.inr (fun i => some (sz + 4 + n + 1 + i))))))) := by rw [hM14, zw_un _ _ (by omega)]; exact hwts
  have hrw : ∀ i, i < n → M14 (sz + 3 + i) = some (.inl (G.2.1 0, n * 60, .inl (fun _ => nI 0))) := fun i hi => by rw [hM14, zw_un _ _ (by omega)]; exact hrw i hi
  have hww : ∀ i, i < n → M14 (sz + 5 + n + i) = some (.inl (G.2.1 0, 60, .inl (fun _ => nI 0))) := fun i hi => by rw [hM14, zw_un _ _ (by omega)]; exact hww i hi
  have hx0 : M14 x = some (.inr (1, [.int (nI n), .int (nI mb), .ref sz, .ref (sz + 1), .ref (sz + 2), .ref (sz + 3 + n), .ref (sz + 4 + n), .null, .int 0, .null, .int 0, .int 0, .int 0, .int 0])) := by rw [hM14]; exact zw_us _ _ _
  refine lv_aload_n hx hb dC_init_99 rfl (lv_at hl 1 rfl) ?_
  refine lv_bipush (v := nI 120) hx hb dC_init_100 (by decide) ?_
  refine zw_newq hx hb hown (hz _ zm_29) hE.2.2.2.2.2.2.1 hK hH hS (Nat.le_trans hE.2.1 hS.1) 3 rfl (N' := 120) rfl (by decide) (by show _ + 1 ≤ 23; omega) (by show _ + _ ≤ 5000; omega) dC_init_102 (fun H13 hH hz1 hS => ?_)
  rw [hsz] at hH hz1 ⊢
  have hsz : H13.size = sz + 6 + 2 * n := by omega
  obtain ⟨M15, hM15⟩ : ∃ Mq, Mq = zw_u M14 (sz + 5 + 2 * n) (.inl (G.2.1 3, 120, .inr (.inr (.inr (.inr (fun _ => none)))))) := ⟨_, rfl⟩
  have hH : zw_H G.1 zCl B M15 H13 := by rw [hM15]; exact hH
  have hx0 : M15 x = some (.inr (1, [.int (nI n), .int (nI mb), .ref sz, .ref (sz + 1), .ref (sz + 2), .ref (sz + 3 + n), .ref (sz + 4 + n), .null, .int 0, .null, .int 0, .int 0, .int 0, .int 0])) := by rw [hM15, zw_un _ _ (by omega)]; exact hx0
  have hdn : M15 sz = some (.inl (G.2.1 2, n, .inl (fun _ => nI 0))) := by rw [hM15, zw_un _ _ (by omega)]; exact hdn
  have hck : M15 (sz + 1) = some (.inl (G.2.1 1, n, .inr (.inl (fun _ => 0)))) := by rw [hM15, zw_un _ _ (by omega)]; exact hck
  have hlgs : M15 (sz + 2) = some (.inl (G.2.1 4, n, .inr (.inr (.inr (.inr (fun i => some (sz + 2 + 1 + i))))))) := by rw [hM15, zw_un _ _ (by omega)]; exact hlgs
  have hlz : M15 (sz + 3 + n) = some (.inl (G.2.1 0, n, .inl (fun _ => nI 0))) := by rw [hM15, zw_un _ _ (by omega)]; exact hlz
  have hwts : M15 (sz + 4 + n) = some (.inl (G.2.1 4, n, .inr (.inr (.inr (.inr (fun i => some (sz + 4 + n + 1 + i))))))) := by rw [hM15, zw_un _ _ (by omega)]; exact hwts
  have hrw : ∀ i, i < n → M15 (sz + 3 + i) = some (.inl (G.2.1 0, n * 60, .inl (fun _ => nI 0))) := fun i hi => by rw [hM15, zw_un _ _ (by omega)]; exact hrw i hi
  have hww : ∀ i, i < n → M15 (sz + 5 + n + i) = some (.inl (G.2.1 0, 60, .inl (fun _ => nI 0))) := fun i hi => by rw [hM15, zw_un _ _ (by omega)]; exact hww i hi
  have hfl : M15 (sz + 5 + 2 * n) = some (.inl (G.2.1 3, 120, .inr (.inr (.inr (.inr (fun _ => none)))))) := by rw [hM15]; exact zw_us _ _ _
  refine zw_putF (D := G.1) (ci := 1) (v := .ref (sz + 5 + 2 * n)) (ty := (.array (.object "ChangeSync$Message"))) (C := RC) (T := TC) (N := 14) hx hb hz iC tC tC_ok nC hown hK hH hS hx0 rfl 7 (by decide) (hz _ zm_38) (fun _ h9 => h9) rfl hin rfl (by decide +kernel) rfl rfl (Nat.le_of_ble_eq_true rfl) dC_init_105 (fun H14 L14 hH hz1 hS => ?_)
  have hsz : H14.size = _ := hz1.trans hsz
  obtain ⟨M16, hM16⟩ : ∃ Mq, Mq = zw_u M15 x (.inr (1, [.int (nI n), .int (nI mb), .ref sz, .ref (sz + 1), .ref (sz + 2), .ref (sz + 3 + n), .ref (sz + 4 + n), .ref (sz + 5 + 2 * n), .int 0, .null, .int 0, .int 0, .int 0, .int 0])) := ⟨_, rfl⟩
  have hH : zw_H G.1 zCl B M16 H14 := by rw [hM16]; exact hH
  have hdn : M16 sz = some (.inl (G.2.1 2, n, .inl (fun _ => nI 0))) := by rw [hM16, zw_un _ _ (by omega)]; exact hdn
  have hck : M16 (sz + 1) = some (.inl (G.2.1 1, n, .inr (.inl (fun _ => 0)))) := by rw [hM16, zw_un _ _ (by omega)]; exact hck
  have hlgs : M16 (sz + 2) = some (.inl (G.2.1 4, n, .inr (.inr (.inr (.inr (fun i => some (sz + 2 + 1 + i))))))) := by rw [hM16, zw_un _ _ (by omega)]; exact hlgs
  have hlz : M16 (sz + 3 + n) = some (.inl (G.2.1 0, n, .inl (fun _ => nI 0))) := by rw [hM16, zw_un _ _ (by omega)]; exact hlz
  have hwts : M16 (sz + 4 + n) = some (.inl (G.2.1 4, n, .inr (.inr (.inr (.inr (fun i => some (sz + 4 + n + 1 + i))))))) := by rw [hM16, zw_un _ _ (by omega)]; exact hwts
  have hfl : M16 (sz + 5 + 2 * n) = some (.inl (G.2.1 3, 120, .inr (.inr (.inr (.inr (fun _ => none)))))) := by rw [hM16, zw_un _ _ (by omega)]; exact hfl
  have hrw : ∀ i, i < n → M16 (sz + 3 + i) = some (.inl (G.2.1 0, n * 60, .inl (fun _ => nI 0))) := fun i hi => by rw [hM16, zw_un _ _ (by omega)]; exact hrw i hi
  have hww : ∀ i, i < n → M16 (sz + 5 + n + i) = some (.inl (G.2.1 0, 60, .inl (fun _ => nI 0))) := fun i hi => by rw [hM16, zw_un _ _ (by omega)]; exact hww i hi
  have hx0 : M16 x = some (.inr (1, [.int (nI n), .int (nI mb), .ref sz, .ref (sz + 1), .ref (sz + 2), .ref (sz + 3 + n), .ref (sz + 4 + n), .ref (sz + 5 + 2 * n), .int 0, .null, .int 0, .int 0, .int 0, .int 0])) := by rw [hM16]; exact zw_us _ _ _
  refine lv_aload_n hx hb dC_init_108 rfl (lv_at hl 1 rfl) ?_
  refine lv_iload_n hx hb dC_init_109 rfl (lv_at hl 0 rfl) ?_
  refine zw_newa (atype := .int) (cA := G.2.1 0) (a0 := (n * 60, .inl (fun _ => nI 0))) hx hb (hz _ zm_76) hK hH hS (Nat.le_trans hE.2.1 hS.1) 0 rfl rfl rfl (by omega) (by show _ + 1 ≤ 23; omega) (by show _ + _ ≤ 5000; omega) dC_init_110 (fun H15 hH hz1 hS => ?_)
  rw [hsz] at hH hz1 ⊢
  have hsz : H15.size = sz + 7 + 2 * n := by omega
  obtain ⟨M17, hM17⟩ : ∃ Mq, Mq = zw_u M16 (sz + 6 + 2 * n) (.inl (G.2.1 0, n * 60, .inl (fun _ => nI 0))) := ⟨_, rfl⟩
  have hH : zw_H G.1 zCl B M17 H15 := by rw [hM17]; exact hH
  have hx0 : M17 x = some (.inr (1, [.int (nI n), .int (nI mb), .ref sz, .ref (sz + 1), .ref (sz + 2), .ref (sz + 3 + n), .ref (sz + 4 + n), .ref (sz + 5 + 2 * n), .int 0, .null, .int 0, .int 0, .int 0, .int 0])) := by rw [hM17, zw_un _ _ (by omega)]; exact hx0
  have hdn : M17 sz = some (.inl (G.2.1 2, n, .inl (fun _ => nI 0))) := by rw [hM17, zw_un _ _ (by omega)]; exact hdn
  have hck : M17 (sz + 1) = some (.inl (G.2.1 1, n, .inr (.inl (fun _ => 0)))) := by rw [hM17, zw_un _ _ (by omega)]; exact hck
  have hlgs : M17 (sz + 2) = some (.inl (G.2.1 4, n, .inr (.inr (.inr (.inr (fun i => some (sz + 2 + 1 + i))))))) := by rw [hM17, zw_un _ _ (by omega)]; exact hlgs
  have hlz : M17 (sz + 3 + n) = some (.inl (G.2.1 0, n, .inl (fun _ => nI 0))) := by rw [hM17, zw_un _ _ (by omega)]; exact hlz
  have hwts : M17 (sz + 4 + n) = some (.inl (G.2.1 4, n, .inr (.inr (.inr (.inr (fun i => some (sz + 4 + n + 1 + i))))))) := by rw [hM17, zw_un _ _ (by omega)]; exact hwts
  have hfl : M17 (sz + 5 + 2 * n) = some (.inl (G.2.1 3, 120, .inr (.inr (.inr (.inr (fun _ => none)))))) := by rw [hM17, zw_un _ _ (by omega)]; exact hfl
  have hrw : ∀ i, i < n → M17 (sz + 3 + i) = some (.inl (G.2.1 0, n * 60, .inl (fun _ => nI 0))) := fun i hi => by rw [hM17, zw_un _ _ (by omega)]; exact hrw i hi
  have hww : ∀ i, i < n → M17 (sz + 5 + n + i) = some (.inl (G.2.1 0, 60, .inl (fun _ => nI 0))) := fun i hi => by rw [hM17, zw_un _ _ (by omega)]; exact hww i hi
  have hga : M17 (sz + 6 + 2 * n) = some (.inl (G.2.1 0, n * 60, .inl (fun _ => nI 0))) := by rw [hM17]; exact zw_us _ _ _
  refine zw_putF (D := G.1) (ci := 1) (v := .ref (sz + 6 + 2 * n)) (ty := (.array .int)) (C := RC) (T := TC) (N := 14) hx hb hz iC tC tC_ok nC hown hK hH hS hx0 rfl 9 (by decide) (hz _ zm_40) (fun _ h9 => h9) rfl hin rfl (by decide +kernel) rfl rfl (Nat.le_of_ble_eq_true rfl) dC_init_112 (fun H16 L16 hH hz1 hS => ?_)
  have hsz : H16.size = _ := hz1.trans hsz
  obtain ⟨M18, hM18⟩ : ∃ Mq, Mq = zw_u M17 x (.inr (1, [.int (nI n), .int (nI mb), .ref sz, .ref (sz + 1), .ref (sz + 2), .ref (sz + 3 + n), .ref (sz + 4 + n), .ref (sz + 5 + 2 * n), .int 0, .ref (sz + 6 + 2 * n), .int 0, .int 0, .int 0, .int 0])) := ⟨_, rfl⟩
  have hH : zw_H G.1 zCl B M18 H16 := by rw [hM18]; exact hH
  have hdn : M18 sz = some (.inl (G.2.1 2, n, .inl (fun _ => nI 0))) := by rw [hM18, zw_un _ _ (by omega)]; exact hdn
  have hck : M18 (sz + 1) = some (.inl (G.2.1 1, n, .inr (.inl (fun _ => 0)))) := by rw [hM18, zw_un _ _ (by omega)]; exact hck
  have hlgs : M18 (sz + 2) = some (.inl (G.2.1 4, n, .inr (.inr (.inr (.inr (fun i => some (sz + 2 + 1 + i))))))) := by rw [hM18, zw_un _ _ (by omega)]; exact hlgs
  have hlz : M18 (sz + 3 + n) = some (.inl (G.2.1 0, n, .inl (fun _ => nI 0))) := by rw [hM18, zw_un _ _ (by omega)]; exact hlz
  have hwts : M18 (sz + 4 + n) = some (.inl (G.2.1 4, n, .inr (.inr (.inr (.inr (fun i => some (sz + 4 + n + 1 + i))))))) := by rw [hM18, zw_un _ _ (by omega)]; exact hwts
  have hfl : M18 (sz + 5 + 2 * n) = some (.inl (G.2.1 3, 120, .inr (.inr (.inr (.inr (fun _ => none)))))) := by rw [hM18, zw_un _ _ (by omega)]; exact hfl
  have hga : M18 (sz + 6 + 2 * n) = some (.inl (G.2.1 0, n * 60, .inl (fun _ => nI 0))) := by rw [hM18, zw_un _ _ (by omega)]; exact hga
  have hrw : ∀ i, i < n → M18 (sz + 3 + i) = some (.inl (G.2.1 0, n * 60, .inl (fun _ => nI 0))) := fun i hi => by rw [hM18, zw_un _ _ (by omega)]; exact hrw i hi
  have hww : ∀ i, i < n → M18 (sz + 5 + n + i) = some (.inl (G.2.1 0, 60, .inl (fun _ => nI 0))) := fun i hi => by rw [hM18, zw_un _ _ (by omega)]; exact hww i hi
  have hx0 : M18 x = some (.inr (1, [.int (nI n), .int (nI mb), .ref sz, .ref (sz + 1), .ref (sz + 2), .ref (sz + 3 + n), .ref (sz + 4 + n), .ref (sz + 5 + 2 * n), .int 0, .ref (sz + 6 + 2 * n), .int 0, .int 0, .int 0, .int 0])) := by rw [hM18]; exact zw_us _ _ _
  have hkf : ∀ q : Nat, q ≠ x → q < sz → M18 q = M q := fun q h1 h2 => by rw [hM18, zw_un _ _ (by omega), hM17, zw_un _ _ (by omega), hM16, zw_un _ _ (by omega), hM15, zw_un _ _ (by omega), hM14, zw_un _ _ (by omega), hM13, zw_un _ _ (by omega), hM12, zw_rout _ _ (by omega), hM11, zw_un _ _ (by omega), hM10, zw_un _ _ (by omega), hM9, zw_un _ _ (by omega), hM8, zw_un _ _ (by omega), hM7, zw_rout _ _ (by omega), hM6, zw_un _ _ (by omega), hM5, zw_un _ _ (by omega), hM4, zw_un _ _ (by omega), hM3, zw_un _ _ (by omega), hM2, zw_un _ _ (by omega), hM1, zw_un _ _ (by omega)]
  rw [show (fun _ => (0 : Int64)) = fun i => zck (z0.lg i) from funext (fun _ => zck_nil.symm)] at hck
  rw [show (fun i => some (sz + 4 + n + 1 + i)) = fun i => some (sz + 5 + n + i) from funext (fun i => congrArg some (by omega))] at hwts
  refine W.widen (k := 23) (n := 5000) (by omega) (by omega) ?_
  exact W.vret hx hb hr (fun t ht hW => ⟨⟨(M18, (sz + 7 + 2 * n)), rfl, ⟨rfl, fun L hL => ⟨_, hxs, hL, hx0, hdn, hck, hlgs, hrw, hlz, hwts, hww, hfl, hga, rfl, fun i q mg h => by cases h⟩, hkf⟩, by rw [ht]; exact hH, by rw [ht]; exact hsz⟩, hS.F ht⟩) hS.2.2 dC_init_115
end
section
/-! THE CLASS: the roads that throw -/
def zW4 : List Cond := [.laysStatic "java/lang/Throwable" "UNASSIGNED_STACK" "[Ljava/lang/StackTraceElement;", .laysStatic "java/lang/Throwable" "SUPPRESSED_SENTINEL" "Ljava/util/List;", .isRef (.static "java/lang/Throwable" "UNASSIGNED_STACK" "[Ljava/lang/StackTraceElement;"), .isRef (.static "java/lang/Throwable" "SUPPRESSED_SENTINEL" "Ljava/util/List;")]
theorem zx_at {G : zG} {B : Nat} {args : Array Value} {s : State} (hz : ∀ w ∈ zT, w.before args s = true) (hE : zE G B s) {L : List Cond} (hL : ∀ a ∈ L, a ∈ zT ∨ a ∈ zF ∨ a ∈ zW4) : ∀ a ∈ L, a.before args s = true := by
  intro a ha
  obtain ⟨h1, h2, h3, h4, h5, h6, h7, h8, h9, h10⟩ := hE
  rcases hL a ha with h | h | h
  · exact hz a h
  · have hw2 := (List.mem_filter.mp h).2
    rw [Bool.and_eq_true] at hw2
    exact va_tabs hw2.2 rfl (h5 a h)
  · unfold zW4 at h
    simp only [List.mem_cons, List.not_mem_nil, or_false] at h
    rcases h with rfl | rfl | rfl | rfl
    · exact h8.2.word
    · exact h9.2.word
    · exact vx_isRefq h8.1
    · exact vx_isRefq h9.1
theorem zx_wIOOBE : ∀ a ∈ Bundle.ownAtoms RC 62 "java/lang/IndexOutOfBoundsException" ["java/lang/RuntimeException", "java/lang/Exception"], a ∈ zT ∨ a ∈ zF ∨ a ∈ zW4 := by decide +kernel
theorem zx_wIAE : ∀ a ∈ Bundle.ownAtoms RC 69 "java/lang/IllegalArgumentException" ["java/lang/RuntimeException", "java/lang/Exception"], a ∈ zT ∨ a ∈ zF ∨ a ∈ zW4 := by decide +kernel
theorem zx_wISE : ∀ a ∈ Bundle.ownAtoms RC 78 "java/lang/IllegalStateException" ["java/lang/RuntimeException", "java/lang/Exception"], a ∈ zT ∨ a ∈ zF ∨ a ∈ zW4 := by decide +kernel
set_option maxHeartbeats 4000000 in
set_option maxRecDepth 100000 in
theorem tC_make1 (l : Launch) (hflag : l.flags = flags0) (G : zG) (B : Nat) (M : zw_M) (x z L n mb : Nat) (st : zSt) (qs : List Nat) (g : Nat → Int32) (hn : n ≤ 8) (hR : zCR G M x z L n mb st qs g) (a : Int32) (ha : a < 0 ∨ nI n ≤ a) (wg : Int32) : zx_Met l yC_make (Cond.code yC_make bC_make 5 (some .int) :: zT) { frames := 6, cells := 1, slots := 6, locals := 82 } (zp G B M [.ref x, .int a, .int wg]) "java/lang/IndexOutOfBoundsException" 1 6 := by
  refine zx_ofW (cc := bC_make) (maxL := 5) (ret := (some .int)) (by decide) rfl ?_
  intro p e s m args below meth c s₁ B0 hml hv
  obtain ⟨rfl, hE, hH⟩ := hv
  have hx := B0.exec
  have hb := B0.bytes
  have hr := B0.returns
  have hlocks := B0.notSynchronized
  have hz : ∀ w ∈ zT, w.before _ s = true := fun w h => atoms_spec (ws := Cond.code yC_make bC_make 5 (some .int) :: zT) B0.pre w (List.mem_cons_of_mem _ h)
  have hown : s.vm.findClass RC = some m.cls := findClass_of_methodNamed B0.named
  have hK := hE.1
  have hl := lv_entry ([.ref x, .int a, .int wg]) (n := 5) (Nat.le_of_ble_eq_true rfl)
  rw [lg_entry_eq]
  generalize (lg_sl ([.ref x, .int a, .int wg]) ++ List.replicate (5 - (lg_sl ([.ref x, .int a, .int wg])).length) Slot.unset).toArray = ls at hl ⊢
  have hl : lv_has ls 5 [(0, .ref x), (1, .int a), (2, .int wg)] := hl
  have hS : va_S (zw_A B) s.heap s.heap [] := va_S.rf
  have hemp := zx_empty B0 (atoms_spec (ws := Cond.code yC_make bC_make 5 (some .int) :: zT) B0.pre _ List.mem_cons_self)
  have hx0 := hR.obj
  refine lv_aload_n hx hb dC_make_0 rfl (lv_at hl 0 rfl) ?_
  refine lv_iload_n hx hb dC_make_1 rfl (lv_at hl 1 rfl) ?_
  refine zr_V (As := [.int a]) (rest := []) (q := (RC, TC, 14)) ⟨hx, hb, hml, hown, hz⟩ (kC_isReplica_out l G B M x n mb z st.fl.length st.se st.lo st.go st.pa hn hx0 a ha) (zt_V zm_93 zm_95 zs_2 zm_1 zm_96) rfl rfl rfl (show _ ∧ _ ∧ _ ∧ _ = some 1 from by decide +kernel) ⟨Nat.le_of_ble_eq_true rfl, Nat.le_of_ble_eq_true rfl⟩ zE_blind (zE_at hE hS) hH hK hx0 rfl rfl hl.1 rfl (Nat.le_of_ble_eq_true rfl) dC_make_2 ⟨Nat.zero_le _, Nat.zero_le _⟩ ?_
  refine zc_ne0 (tgt := 18) hx hb dC_make_5 (by decide) (by omega) (fun c => ?_) (fun c => ?_)
  · exact absurd rfl c
  · obtain ⟨q0, hq0⟩ := hE.2.2.2.2.2.2.2.2.2 (60, "no such replica") (by decide)
    exact zx_throwS (E := "java/lang/IndexOutOfBoundsException") (names := ["java/lang/RuntimeException", "java/lang/Exception"]) (ic := 62) hx (Launch.traces_off hflag (Stand.of_body B0).admits) hb hemp hlocks hown rfl (by decide) (zx_at hz hE zx_wIOOBE) (hz _ zm_150) (hz _ zm_7) hq0 (hl.1.trans hml.symm) (Nat.le_refl _) dC_make_8 dC_make_11 dC_make_12 dC_make_14 dC_make_17 (Nat.le_of_ble_eq_true rfl) (Nat.le_of_ble_eq_true rfl) (Nat.le_of_ble_eq_true rfl) (Nat.le_of_ble_eq_true rfl) (Nat.le_refl _) (Nat.le_refl _)

set_option maxHeartbeats 4000000 in
set_option maxRecDepth 100000 in
theorem tC_make2 (l : Launch) (hflag : l.flags = flags0) (G : zG) (B : Nat) (M : zw_M) (x z L n mb : Nat) (st : zSt) (qs : List Nat) (g : Nat → Int32) (hn : n ≤ 8) (hR : zCR G M x z L n mb st qs g) (j : Nat) (hj : j < n) (wg : Int32) (hw : wg < nI 1 ∨ ¬ wg ≤ nI 400) : zx_Met l yC_make (Cond.code yC_make bC_make 5 (some .int) :: zT) { frames := 6, cells := 1, slots := 6, locals := 82 } (zp G B M [.ref x, .int (nI j), .int wg]) "java/lang/IllegalArgumentException" 1 6 := by
  refine zx_ofW (cc := bC_make) (maxL := 5) (ret := (some .int)) (by decide) rfl ?_
  intro p e s m args below meth c s₁ B0 hml hv
  obtain ⟨rfl, hE, hH⟩ := hv
  have hx := B0.exec
  have hb := B0.bytes
  have hr := B0.returns
  have hlocks := B0.notSynchronized
  have hz : ∀ w ∈ zT, w.before _ s = true := fun w h => atoms_spec (ws := Cond.code yC_make bC_make 5 (some .int) :: zT) B0.pre w (List.mem_cons_of_mem _ h)
  have hown : s.vm.findClass RC = some m.cls := findClass_of_methodNamed B0.named
  have hK := hE.1
  have hl := lv_entry ([.ref x, .int (nI j), .int wg]) (n := 5) (Nat.le_of_ble_eq_true rfl)
  rw [lg_entry_eq]
  generalize (lg_sl ([.ref x, .int (nI j), .int wg]) ++ List.replicate (5 - (lg_sl ([.ref x, .int (nI j), .int wg])).length) Slot.unset).toArray = ls at hl ⊢
  have hl : lv_has ls 5 [(0, .ref x), (1, .int (nI j)), (2, .int wg)] := hl
  have hS : va_S (zw_A B) s.heap s.heap [] := va_S.rf
  have hemp := zx_empty B0 (atoms_spec (ws := Cond.code yC_make bC_make 5 (some .int) :: zT) B0.pre _ List.mem_cons_self)
  have hx0 := hR.obj
  refine lv_aload_n hx hb dC_make_0 rfl (lv_at hl 0 rfl) ?_
  refine lv_iload_n hx hb dC_make_1 rfl (lv_at hl 1 rfl) ?_
  refine zr_V (As := [.int (nI j)]) (rest := []) (q := (RC, TC, 14)) ⟨hx, hb, hml, hown, hz⟩ (kC_isReplica_in l G B M x n mb z st.fl.length st.se st.lo st.go st.pa hn hx0 j hj) (zt_V zm_93 zm_95 zs_2 zm_1 zm_96) rfl rfl rfl (show _ ∧ _ ∧ _ ∧ _ = some 1 from by decide +kernel) ⟨Nat.le_of_ble_eq_true rfl, Nat.le_of_ble_eq_true rfl⟩ zE_blind (zE_at hE hS) hH hK hx0 rfl rfl hl.1 rfl (Nat.le_of_ble_eq_true rfl) dC_make_2 ⟨Nat.zero_le _, Nat.zero_le _⟩ ?_
  refine zc_ne0 (tgt := 18) hx hb dC_make_5 (by decide) (by omega) (fun c => ?_) (fun c => ?_)
  · refine lv_iload_n hx hb dC_make_18 rfl (lv_at hl 2 rfl) ?_
    refine lv_iconst (v := nI 1) hx hb dC_make_19 (by decide) ?_
    refine lv_icmp_lt (tgt := 30) hx hb dC_make_20 (by decide) (fun c2 => ?_) (fun c2 => ?_)
    · obtain ⟨q0, hq0⟩ := hE.2.2.2.2.2.2.2.2.2 (67, "a weight is 1 .. 400") (by decide)
      exact zx_throwS (E := "java/lang/IllegalArgumentException") (names := ["java/lang/RuntimeException", "java/lang/Exception"]) (ic := 69) hx (Launch.traces_off hflag (Stand.of_body B0).admits) hb hemp hlocks hown rfl (by decide) (zx_at hz hE zx_wIAE) (hz _ zm_218) (hz _ zm_8) hq0 (hl.1.trans hml.symm) (Nat.le_refl _) dC_make_30 dC_make_33 dC_make_34 dC_make_36 dC_make_39 (Nat.le_of_ble_eq_true rfl) (Nat.le_of_ble_eq_true rfl) (Nat.le_of_ble_eq_true rfl) (Nat.le_of_ble_eq_true rfl) (Nat.le_refl _) (Nat.le_refl _)
    · refine lv_iload_n hx hb dC_make_23 rfl (lv_at hl 2 rfl) ?_
      refine lv_sipush (v := nI 400) hx hb dC_make_24 (by decide) ?_
      refine lv_icmp_le (tgt := 40) hx hb dC_make_27 (by decide) (fun c3 => ?_) (fun c3 => ?_)
      · exact absurd c3 (hw.resolve_left c2)
      · obtain ⟨q0, hq0⟩ := hE.2.2.2.2.2.2.2.2.2 (67, "a weight is 1 .. 400") (by decide)
        exact zx_throwS (E := "java/lang/IllegalArgumentException") (names := ["java/lang/RuntimeException", "java/lang/Exception"]) (ic := 69) hx (Launch.traces_off hflag (Stand.of_body B0).admits) hb hemp hlocks hown rfl (by decide) (zx_at hz hE zx_wIAE) (hz _ zm_218) (hz _ zm_8) hq0 (hl.1.trans hml.symm) (Nat.le_refl _) dC_make_30 dC_make_33 dC_make_34 dC_make_36 dC_make_39 (Nat.le_of_ble_eq_true rfl) (Nat.le_of_ble_eq_true rfl) (Nat.le_of_ble_eq_true rfl) (Nat.le_of_ble_eq_true rfl) (Nat.le_refl _) (Nat.le_refl _)
  · exact absurd c (by decide)

set_option maxHeartbeats 4000000 in
set_option maxRecDepth 100000 in
theorem tC_make3 (l : Launch) (hflag : l.flags = flags0) (G : zG) (B : Nat) (M : zw_M) (x z L n mb : Nat) (st : zSt) (qs : List Nat) (g : Nat → Int32) (hn : n ≤ 8) (hR : zCR G M x z L n mb st qs g) (hok : zOK n st) (j wg : Nat) (hj : j < n) (hw1 : 1 ≤ wg) (hw4 : wg ≤ 400) (hd : st.dn j = true ∨ (st.wt j).length = 60) : zx_Met l yC_make (Cond.code yC_make bC_make 5 (some .int) :: zT) { frames := 6, cells := 1, slots := 6, locals := 82 } (zp G B M [.ref x, .int (nI j), .int (nI wg)]) "java/lang/IllegalStateException" 1 6 := by
  refine zx_ofW (cc := bC_make) (maxL := 5) (ret := (some .int)) (by decide) rfl ?_
  intro p e s m args below meth c s₁ B0 hml hv
  obtain ⟨rfl, hE, hH⟩ := hv
  have hx := B0.exec
  have hb := B0.bytes
  have hr := B0.returns
  have hlocks := B0.notSynchronized
  have hz : ∀ w ∈ zT, w.before _ s = true := fun w h => atoms_spec (ws := Cond.code yC_make bC_make 5 (some .int) :: zT) B0.pre w (List.mem_cons_of_mem _ h)
  have hown : s.vm.findClass RC = some m.cls := findClass_of_methodNamed B0.named
  have hK := hE.1
  have hl := lv_entry ([.ref x, .int (nI j), .int (nI wg)]) (n := 5) (Nat.le_of_ble_eq_true rfl)
  rw [lg_entry_eq]
  generalize (lg_sl ([.ref x, .int (nI j), .int (nI wg)]) ++ List.replicate (5 - (lg_sl ([.ref x, .int (nI j), .int (nI wg)])).length) Slot.unset).toArray = ls at hl ⊢
  have hl : lv_has ls 5 [(0, .ref x), (1, .int (nI j)), (2, .int (nI wg))] := hl
  have hS : va_S (zw_A B) s.heap s.heap [] := va_S.rf
  have hemp := zx_empty B0 (atoms_spec (ws := Cond.code yC_make bC_make 5 (some .int) :: zT) B0.pre _ List.mem_cons_self)
  have hb1 := zbool (st.dn j)
  have hzc : zb (zck (st.lg j)) j = (st.wt j).length := (zck_at (hok.b8 hj) (by omega)).trans (hok.2.2.1 _ hj).1
  have h60 := (hok.2.2.1 _ hj).2
  have hx0 := hR.obj
  have hdn := hR.dn
  have hck := hR.ck
  refine lv_aload_n hx hb dC_make_0 rfl (lv_at hl 0 rfl) ?_
  refine lv_iload_n hx hb dC_make_1 rfl (lv_at hl 1 rfl) ?_
  refine zr_V (As := [.int (nI j)]) (rest := []) (q := (RC, TC, 14)) ⟨hx, hb, hml, hown, hz⟩ (kC_isReplica_in l G B M x n mb z st.fl.length st.se st.lo st.go st.pa hn hx0 j hj) (zt_V zm_93 zm_95 zs_2 zm_1 zm_96) rfl rfl rfl (show _ ∧ _ ∧ _ ∧ _ = some 1 from by decide +kernel) ⟨Nat.le_of_ble_eq_true rfl, Nat.le_of_ble_eq_true rfl⟩ zE_blind (zE_at hE hS) hH hK hx0 rfl rfl hl.1 rfl (Nat.le_of_ble_eq_true rfl) dC_make_2 ⟨Nat.zero_le _, Nat.zero_le _⟩ ?_
  refine zc_ne0 (tgt := 18) hx hb dC_make_5 (by decide) (by omega) (fun b1 => ?_) (fun b1 => ?_)
  · refine lv_iload_n hx hb dC_make_18 rfl (lv_at hl 2 rfl) ?_
    refine lv_iconst (v := nI 1) hx hb dC_make_19 (by decide) ?_
    refine zc_lt (tgt := 30) hx hb dC_make_20 (by decide) (by omega) (by decide) (fun b2 => ?_) (fun b2 => ?_)
    · exact absurd b2 (by omega)
    · refine lv_iload_n hx hb dC_make_23 rfl (lv_at hl 2 rfl) ?_
      refine lv_sipush (v := nI 400) hx hb dC_make_24 (by decide) ?_
      refine zc_le (tgt := 40) hx hb dC_make_27 (by decide) (by omega) (by decide) (fun b3 => ?_) (fun b3 => ?_)
      · refine lv_aload_n hx hb dC_make_40 rfl (lv_at hl 0 rfl) ?_
        refine lv_iload_n hx hb dC_make_41 rfl (lv_at hl 1 rfl) ?_
        refine zr_V (As := [.int (nI j)]) (rest := []) (q := (RC, TC, 14)) ⟨hx, hb, hml, hown, hz⟩ (kC_madeBy l G B M x n mb z st.fl.length st.se st.lo st.go st.pa hn hx0 (fun a9 => zck (st.lg a9)) hck j hj) (zt_V zm_114 zm_116 zs_3 zm_1 zm_117) rfl rfl rfl (show _ ∧ _ ∧ _ ∧ _ = some 1 from by decide +kernel) ⟨Nat.le_of_ble_eq_true rfl, Nat.le_of_ble_eq_true rfl⟩ zE_blind (zE_at hE hS) hH hK hx0 rfl rfl hl.1 rfl (Nat.le_of_ble_eq_true rfl) dC_make_42 ⟨Nat.zero_le _, Nat.zero_le _⟩ ?_
        refine zw_ti (congrArg nI hzc) ?_
        refine lv_istore_n (lv' := [(3, .int (nI ((st.wt j).length))), (0, .ref x), (1, .int (nI j)), (2, .int (nI wg))]) hx hb dC_make_45 rfl hl (by decide) rfl (fun ls hl => ?_)
        refine lv_aload_n hx hb dC_make_46 rfl (lv_at hl 1 rfl) ?_
        refine va_get (D := G.1) (ci := 1) (v := .ref z) (C := RC) (T := TC) (N := 14) hx hb hz iC hown hK (hH.one hx0) 0 rfl rfl 2 (by decide) (hz _ zm_33) (fun _ h9 => h9) rfl dC_make_47 ?_
        refine lv_iload_n hx hb dC_make_50 rfl (lv_at hl 2 rfl) ?_
        refine zw_zald hx hb hK hH 2 hdn rfl (j) rfl (hj) (by omega) dC_make_51 ?_
        refine zc_ne0 (tgt := 61) hx hb dC_make_52 (by decide) (by omega) (fun b4 => ?_) (fun b4 => ?_)
        · obtain ⟨q0, hq0⟩ := hE.2.2.2.2.2.2.2.2.2 (76, "the replica is down, or has made 60 changes") (by decide)
          exact zx_throwS (E := "java/lang/IllegalStateException") (names := ["java/lang/RuntimeException", "java/lang/Exception"]) (ic := 78) hx (Launch.traces_off hflag (Stand.of_body B0).admits) hb hemp hlocks hown rfl (by decide) (zx_at hz hE zx_wISE) (hz _ zm_234) (hz _ zm_9) hq0 (hl.1.trans hml.symm) (Nat.le_refl _) dC_make_61 dC_make_64 dC_make_65 dC_make_67 dC_make_70 (Nat.le_of_ble_eq_true rfl) (Nat.le_of_ble_eq_true rfl) (Nat.le_of_ble_eq_true rfl) (Nat.le_of_ble_eq_true rfl) (Nat.le_refl _) (Nat.le_refl _)
        · refine lv_iload_n hx hb dC_make_55 rfl (lv_at hl 0 rfl) ?_
          refine lv_bipush (v := nI 60) hx hb dC_make_56 (by decide) ?_
          refine zc_lt (tgt := 71) hx hb dC_make_58 (by decide) (by omega) (by decide) (fun b5 => ?_) (fun b5 => ?_)
          · exact absurd b5 (by rcases hd with h | h; exact absurd (by rw [h]; decide) (show ¬ (st.dn j).toNat ≠ 0 by omega); omega)
          · obtain ⟨q0, hq0⟩ := hE.2.2.2.2.2.2.2.2.2 (76, "the replica is down, or has made 60 changes") (by decide)
            exact zx_throwS (E := "java/lang/IllegalStateException") (names := ["java/lang/RuntimeException", "java/lang/Exception"]) (ic := 78) hx (Launch.traces_off hflag (Stand.of_body B0).admits) hb hemp hlocks hown rfl (by decide) (zx_at hz hE zx_wISE) (hz _ zm_234) (hz _ zm_9) hq0 (hl.1.trans hml.symm) (Nat.le_refl _) dC_make_61 dC_make_64 dC_make_65 dC_make_67 dC_make_70 (Nat.le_of_ble_eq_true rfl) (Nat.le_of_ble_eq_true rfl) (Nat.le_of_ble_eq_true rfl) (Nat.le_of_ble_eq_true rfl) (Nat.le_refl _) (Nat.le_refl _)
      · exact absurd b3 (by omega)
  · exact absurd b1 (by decide)

set_option maxHeartbeats 4000000 in
set_option maxRecDepth 100000 in
theorem tC_tick1 (l : Launch) (hflag : l.flags = flags0) (G : zG) (B : Nat) (M : zw_M) (x z L n mb : Nat) (st : zSt) (qs : List Nat) (g : Nat → Int32) (hn : n ≤ 8) (hR : zCR G M x z L n mb st qs g) (a : Int32) (ha : a < 0 ∨ nI n ≤ a) : zx_Met l yC_tick (Cond.code yC_tick bC_tick 3 (some .int) :: zT) { frames := 6, cells := 1, slots := 6, locals := 82 } (zp G B M [.ref x, .int a]) "java/lang/IndexOutOfBoundsException" 1 6 := by
  refine zx_ofW (cc := bC_tick) (maxL := 3) (ret := (some .int)) (by decide) rfl ?_
  intro p e s m args below meth c s₁ B0 hml hv
  obtain ⟨rfl, hE, hH⟩ := hv
  have hx := B0.exec
  have hb := B0.bytes
  have hr := B0.returns
  have hlocks := B0.notSynchronized
  have hz : ∀ w ∈ zT, w.before _ s = true := fun w h => atoms_spec (ws := Cond.code yC_tick bC_tick 3 (some .int) :: zT) B0.pre w (List.mem_cons_of_mem _ h)
  have hown : s.vm.findClass RC = some m.cls := findClass_of_methodNamed B0.named
  have hK := hE.1
  have hl := lv_entry ([.ref x, .int a]) (n := 3) (Nat.le_of_ble_eq_true rfl)
  rw [lg_entry_eq]
  generalize (lg_sl ([.ref x, .int a]) ++ List.replicate (3 - (lg_sl ([.ref x, .int a])).length) Slot.unset).toArray = ls at hl ⊢
  have hl : lv_has ls 3 [(0, .ref x), (1, .int a)] := hl
  have hS : va_S (zw_A B) s.heap s.heap [] := va_S.rf
  have hemp := zx_empty B0 (atoms_spec (ws := Cond.code yC_tick bC_tick 3 (some .int) :: zT) B0.pre _ List.mem_cons_self)
  have hx0 := hR.obj
  refine lv_aload_n hx hb dC_tick_0 rfl (lv_at hl 0 rfl) ?_
  refine lv_iload_n hx hb dC_tick_1 rfl (lv_at hl 1 rfl) ?_
  refine zr_V (As := [.int a]) (rest := []) (q := (RC, TC, 14)) ⟨hx, hb, hml, hown, hz⟩ (kC_isReplica_out l G B M x n mb z st.fl.length st.se st.lo st.go st.pa hn hx0 a ha) (zt_V zm_93 zm_95 zs_2 zm_1 zm_96) rfl rfl rfl (show _ ∧ _ ∧ _ ∧ _ = some 1 from by decide +kernel) ⟨Nat.le_of_ble_eq_true rfl, Nat.le_of_ble_eq_true rfl⟩ zE_blind (zE_at hE hS) hH hK hx0 rfl rfl hl.1 rfl (Nat.le_of_ble_eq_true rfl) dC_tick_2 ⟨Nat.zero_le _, Nat.zero_le _⟩ ?_
  refine zc_ne0 (tgt := 18) hx hb dC_tick_5 (by decide) (by omega) (fun c => ?_) (fun c => ?_)
  · exact absurd rfl c
  · obtain ⟨q0, hq0⟩ := hE.2.2.2.2.2.2.2.2.2 (60, "no such replica") (by decide)
    exact zx_throwS (E := "java/lang/IndexOutOfBoundsException") (names := ["java/lang/RuntimeException", "java/lang/Exception"]) (ic := 62) hx (Launch.traces_off hflag (Stand.of_body B0).admits) hb hemp hlocks hown rfl (by decide) (zx_at hz hE zx_wIOOBE) (hz _ zm_150) (hz _ zm_7) hq0 (hl.1.trans hml.symm) (Nat.le_refl _) dC_tick_8 dC_tick_11 dC_tick_12 dC_tick_14 dC_tick_17 (Nat.le_of_ble_eq_true rfl) (Nat.le_of_ble_eq_true rfl) (Nat.le_of_ble_eq_true rfl) (Nat.le_of_ble_eq_true rfl) (Nat.le_refl _) (Nat.le_refl _)

set_option maxHeartbeats 4000000 in
set_option maxRecDepth 100000 in
theorem tC_tick2 (l : Launch) (hflag : l.flags = flags0) (G : zG) (B : Nat) (M : zw_M) (x z L n mb : Nat) (st : zSt) (qs : List Nat) (g : Nat → Int32) (hn : n ≤ 8) (hR : zCR G M x z L n mb st qs g) (j : Nat) (hj : j < n) (hd : st.dn j = true) : zx_Met l yC_tick (Cond.code yC_tick bC_tick 3 (some .int) :: zT) { frames := 6, cells := 1, slots := 6, locals := 82 } (zp G B M [.ref x, .int (nI j)]) "java/lang/IllegalStateException" 1 6 := by
  refine zx_ofW (cc := bC_tick) (maxL := 3) (ret := (some .int)) (by decide) rfl ?_
  intro p e s m args below meth c s₁ B0 hml hv
  obtain ⟨rfl, hE, hH⟩ := hv
  have hx := B0.exec
  have hb := B0.bytes
  have hr := B0.returns
  have hlocks := B0.notSynchronized
  have hz : ∀ w ∈ zT, w.before _ s = true := fun w h => atoms_spec (ws := Cond.code yC_tick bC_tick 3 (some .int) :: zT) B0.pre w (List.mem_cons_of_mem _ h)
  have hown : s.vm.findClass RC = some m.cls := findClass_of_methodNamed B0.named
  have hK := hE.1
  have hl := lv_entry ([.ref x, .int (nI j)]) (n := 3) (Nat.le_of_ble_eq_true rfl)
  rw [lg_entry_eq]
  generalize (lg_sl ([.ref x, .int (nI j)]) ++ List.replicate (3 - (lg_sl ([.ref x, .int (nI j)])).length) Slot.unset).toArray = ls at hl ⊢
  have hl : lv_has ls 3 [(0, .ref x), (1, .int (nI j))] := hl
  have hS : va_S (zw_A B) s.heap s.heap [] := va_S.rf
  have hemp := zx_empty B0 (atoms_spec (ws := Cond.code yC_tick bC_tick 3 (some .int) :: zT) B0.pre _ List.mem_cons_self)
  have hb1 := zbool (st.dn j)
  have hx0 := hR.obj
  have hdn := hR.dn
  refine lv_aload_n hx hb dC_tick_0 rfl (lv_at hl 0 rfl) ?_
  refine lv_iload_n hx hb dC_tick_1 rfl (lv_at hl 1 rfl) ?_
  refine zr_V (As := [.int (nI j)]) (rest := []) (q := (RC, TC, 14)) ⟨hx, hb, hml, hown, hz⟩ (kC_isReplica_in l G B M x n mb z st.fl.length st.se st.lo st.go st.pa hn hx0 j hj) (zt_V zm_93 zm_95 zs_2 zm_1 zm_96) rfl rfl rfl (show _ ∧ _ ∧ _ ∧ _ = some 1 from by decide +kernel) ⟨Nat.le_of_ble_eq_true rfl, Nat.le_of_ble_eq_true rfl⟩ zE_blind (zE_at hE hS) hH hK hx0 rfl rfl hl.1 rfl (Nat.le_of_ble_eq_true rfl) dC_tick_2 ⟨Nat.zero_le _, Nat.zero_le _⟩ ?_
  refine zc_ne0 (tgt := 18) hx hb dC_tick_5 (by decide) (by omega) (fun c => ?_) (fun c => ?_)
  · refine lv_aload_n hx hb dC_tick_18 rfl (lv_at hl 0 rfl) ?_
    refine va_get (D := G.1) (ci := 1) (v := .ref z) (C := RC) (T := TC) (N := 14) hx hb hz iC hown hK (hH.one hx0) 0 rfl rfl 2 (by decide) (hz _ zm_33) (fun _ h9 => h9) rfl dC_tick_19 ?_
    refine lv_iload_n hx hb dC_tick_22 rfl (lv_at hl 1 rfl) ?_
    refine zw_zald hx hb hK hH 2 hdn rfl (j) rfl (hj) (by omega) dC_tick_23 ?_
    refine zc_eq0 (tgt := 37) hx hb dC_tick_24 (by decide) (by omega) (fun c2 => ?_) (fun c2 => ?_)
    · exact absurd c2 (by rw [hd]; decide)
    · obtain ⟨q0, hq0⟩ := hE.2.2.2.2.2.2.2.2.2 (83, "the replica is down") (by decide)
      exact zx_throwS (E := "java/lang/IllegalStateException") (names := ["java/lang/RuntimeException", "java/lang/Exception"]) (ic := 78) hx (Launch.traces_off hflag (Stand.of_body B0).admits) hb hemp hlocks hown rfl (by decide) (zx_at hz hE zx_wISE) (hz _ zm_234) (hz _ zm_9) hq0 (hl.1.trans hml.symm) (Nat.le_refl _) dC_tick_27 dC_tick_30 dC_tick_31 dC_tick_33 dC_tick_36 (Nat.le_of_ble_eq_true rfl) (Nat.le_of_ble_eq_true rfl) (Nat.le_of_ble_eq_true rfl) (Nat.le_of_ble_eq_true rfl) (Nat.le_refl _) (Nat.le_refl _)
  · exact absurd c (by decide)

set_option maxHeartbeats 4000000 in
set_option maxRecDepth 100000 in
theorem tC_deliver (l : Launch) (hflag : l.flags = flags0) (G : zG) (B : Nat) (M : zw_M) (x z L n mb : Nat) (st : zSt) (qs : List Nat) (g : Nat → Int32) (hn : n ≤ 8) (hR : zCR G M x z L n mb st qs g) (a : Int32) (ha : a < 0 ∨ nI st.fl.length ≤ a) : zx_Met l yC_deliver (Cond.code yC_deliver bC_deliver 3 (some .int) :: zT) { frames := 6, cells := 1, slots := 6, locals := 82 } (zp G B M [.ref x, .int a]) "java/lang/IndexOutOfBoundsException" 1 6 := by
  refine zx_ofW (cc := bC_deliver) (maxL := 3) (ret := (some .int)) (by decide) rfl ?_
  intro p e s m args below meth c s₁ B0 hml hv
  obtain ⟨rfl, hE, hH⟩ := hv
  have hx := B0.exec
  have hb := B0.bytes
  have hr := B0.returns
  have hlocks := B0.notSynchronized
  have hz : ∀ w ∈ zT, w.before _ s = true := fun w h => atoms_spec (ws := Cond.code yC_deliver bC_deliver 3 (some .int) :: zT) B0.pre w (List.mem_cons_of_mem _ h)
  have hown : s.vm.findClass RC = some m.cls := findClass_of_methodNamed B0.named
  have hK := hE.1
  have hl := lv_entry ([.ref x, .int a]) (n := 3) (Nat.le_of_ble_eq_true rfl)
  rw [lg_entry_eq]
  generalize (lg_sl ([.ref x, .int a]) ++ List.replicate (3 - (lg_sl ([.ref x, .int a])).length) Slot.unset).toArray = ls at hl ⊢
  have hl : lv_has ls 3 [(0, .ref x), (1, .int a)] := hl
  have hS : va_S (zw_A B) s.heap s.heap [] := va_S.rf
  have hemp := zx_empty B0 (atoms_spec (ws := Cond.code yC_deliver bC_deliver 3 (some .int) :: zT) B0.pre _ List.mem_cons_self)
  have hx0 := hR.obj
  refine lv_aload_n hx hb dC_deliver_0 rfl (lv_at hl 0 rfl) ?_
  refine lv_iload_n hx hb dC_deliver_1 rfl (lv_at hl 1 rfl) ?_
  refine zr_V (As := [.int a]) (rest := []) (q := (RC, TC, 14)) ⟨hx, hb, hml, hown, hz⟩ (kC_messageAt_out l G B M x n mb z st.fl.length st.se st.lo st.go st.pa hn hx0 a ha) (zt_V zm_81 zm_83 zs_0 zm_1 zm_84) rfl rfl rfl (show _ ∧ _ ∧ _ ∧ _ = some 1 from by decide +kernel) ⟨Nat.le_of_ble_eq_true rfl, Nat.le_of_ble_eq_true rfl⟩ zE_blind (zE_at hE hS) hH hK hx0 rfl rfl hl.1 rfl (Nat.le_of_ble_eq_true rfl) dC_deliver_2 ⟨Nat.zero_le _, Nat.zero_le _⟩ ?_
  refine lv_astore_nN (lv' := [(2, .null), (0, .ref x), (1, .int a)]) hx hb dC_deliver_5 rfl hl (by decide) rfl (fun ls hl => ?_)
  refine lv_aload_nN hx hb dC_deliver_6 rfl (lv_at hl 0 rfl) ?_
  refine lv_ifnonnullN hx hb dC_deliver_7 ?_
  obtain ⟨q0, hq0⟩ := hE.2.2.2.2.2.2.2.2.2 (93, "no such message in flight") (by decide)
  exact zx_throwS (E := "java/lang/IndexOutOfBoundsException") (names := ["java/lang/RuntimeException", "java/lang/Exception"]) (ic := 62) hx (Launch.traces_off hflag (Stand.of_body B0).admits) hb hemp hlocks hown rfl (by decide) (zx_at hz hE zx_wIOOBE) (hz _ zm_150) (hz _ zm_7) hq0 (hl.1.trans hml.symm) (Nat.le_refl _) dC_deliver_10 dC_deliver_13 dC_deliver_14 dC_deliver_16 dC_deliver_19 (Nat.le_of_ble_eq_true rfl) (Nat.le_of_ble_eq_true rfl) (Nat.le_of_ble_eq_true rfl) (Nat.le_of_ble_eq_true rfl) (Nat.le_refl _) (Nat.le_refl _)

set_option maxHeartbeats 4000000 in
set_option maxRecDepth 100000 in
theorem tC_twice (l : Launch) (hflag : l.flags = flags0) (G : zG) (B : Nat) (M : zw_M) (x z L n mb : Nat) (st : zSt) (qs : List Nat) (g : Nat → Int32) (hn : n ≤ 8) (hR : zCR G M x z L n mb st qs g) (a : Int32) (ha : a < 0 ∨ nI st.fl.length ≤ a) : zx_Met l yC_twice (Cond.code yC_twice bC_twice 4 (some .int) :: zT) { frames := 6, cells := 1, slots := 6, locals := 82 } (zp G B M [.ref x, .int a]) "java/lang/IndexOutOfBoundsException" 1 6 := by
  refine zx_ofW (cc := bC_twice) (maxL := 4) (ret := (some .int)) (by decide) rfl ?_
  intro p e s m args below meth c s₁ B0 hml hv
  obtain ⟨rfl, hE, hH⟩ := hv
  have hx := B0.exec
  have hb := B0.bytes
  have hr := B0.returns
  have hlocks := B0.notSynchronized
  have hz : ∀ w ∈ zT, w.before _ s = true := fun w h => atoms_spec (ws := Cond.code yC_twice bC_twice 4 (some .int) :: zT) B0.pre w (List.mem_cons_of_mem _ h)
  have hown : s.vm.findClass RC = some m.cls := findClass_of_methodNamed B0.named
  have hK := hE.1
  have hl := lv_entry ([.ref x, .int a]) (n := 4) (Nat.le_of_ble_eq_true rfl)
  rw [lg_entry_eq]
  generalize (lg_sl ([.ref x, .int a]) ++ List.replicate (4 - (lg_sl ([.ref x, .int a])).length) Slot.unset).toArray = ls at hl ⊢
  have hl : lv_has ls 4 [(0, .ref x), (1, .int a)] := hl
  have hS : va_S (zw_A B) s.heap s.heap [] := va_S.rf
  have hemp := zx_empty B0 (atoms_spec (ws := Cond.code yC_twice bC_twice 4 (some .int) :: zT) B0.pre _ List.mem_cons_self)
  have hx0 := hR.obj
  refine lv_aload_n hx hb dC_twice_0 rfl (lv_at hl 0 rfl) ?_
  refine lv_iload_n hx hb dC_twice_1 rfl (lv_at hl 1 rfl) ?_
  refine zr_V (As := [.int a]) (rest := []) (q := (RC, TC, 14)) ⟨hx, hb, hml, hown, hz⟩ (kC_messageAt_out l G B M x n mb z st.fl.length st.se st.lo st.go st.pa hn hx0 a ha) (zt_V zm_81 zm_83 zs_0 zm_1 zm_84) rfl rfl rfl (show _ ∧ _ ∧ _ ∧ _ = some 1 from by decide +kernel) ⟨Nat.le_of_ble_eq_true rfl, Nat.le_of_ble_eq_true rfl⟩ zE_blind (zE_at hE hS) hH hK hx0 rfl rfl hl.1 rfl (Nat.le_of_ble_eq_true rfl) dC_twice_2 ⟨Nat.zero_le _, Nat.zero_le _⟩ ?_
  refine lv_astore_nN (lv' := [(2, .null), (0, .ref x), (1, .int a)]) hx hb dC_twice_5 rfl hl (by decide) rfl (fun ls hl => ?_)
  refine lv_aload_nN hx hb dC_twice_6 rfl (lv_at hl 0 rfl) ?_
  refine lv_ifnonnullN hx hb dC_twice_7 ?_
  obtain ⟨q0, hq0⟩ := hE.2.2.2.2.2.2.2.2.2 (93, "no such message in flight") (by decide)
  exact zx_throwS (E := "java/lang/IndexOutOfBoundsException") (names := ["java/lang/RuntimeException", "java/lang/Exception"]) (ic := 62) hx (Launch.traces_off hflag (Stand.of_body B0).admits) hb hemp hlocks hown rfl (by decide) (zx_at hz hE zx_wIOOBE) (hz _ zm_150) (hz _ zm_7) hq0 (hl.1.trans hml.symm) (Nat.le_refl _) dC_twice_10 dC_twice_13 dC_twice_14 dC_twice_16 dC_twice_19 (Nat.le_of_ble_eq_true rfl) (Nat.le_of_ble_eq_true rfl) (Nat.le_of_ble_eq_true rfl) (Nat.le_of_ble_eq_true rfl) (Nat.le_refl _) (Nat.le_refl _)

set_option maxHeartbeats 4000000 in
set_option maxRecDepth 100000 in
theorem tC_message1 (l : Launch) (hflag : l.flags = flags0) (G : zG) (B : Nat) (M : zw_M) (x z L n mb : Nat) (st : zSt) (qs : List Nat) (g : Nat → Int32) (hn : n ≤ 8) (hR : zCR G M x z L n mb st qs g) (a wa : Int32) (ha : a < 0 ∨ nI st.fl.length ≤ a) : zx_Met l yC_message (Cond.code yC_message bC_message 4 (some .int) :: zT) { frames := 6, cells := 1, slots := 6, locals := 82 } (zp G B M [.ref x, .int a, .int wa]) "java/lang/IndexOutOfBoundsException" 1 6 := by
  refine zx_ofW (cc := bC_message) (maxL := 4) (ret := (some .int)) (by decide) rfl ?_
  intro p e s m args below meth c s₁ B0 hml hv
  obtain ⟨rfl, hE, hH⟩ := hv
  have hx := B0.exec
  have hb := B0.bytes
  have hr := B0.returns
  have hlocks := B0.notSynchronized
  have hz : ∀ w ∈ zT, w.before _ s = true := fun w h => atoms_spec (ws := Cond.code yC_message bC_message 4 (some .int) :: zT) B0.pre w (List.mem_cons_of_mem _ h)
  have hown : s.vm.findClass RC = some m.cls := findClass_of_methodNamed B0.named
  have hK := hE.1
  have hl := lv_entry ([.ref x, .int a, .int wa]) (n := 4) (Nat.le_of_ble_eq_true rfl)
  rw [lg_entry_eq]
  generalize (lg_sl ([.ref x, .int a, .int wa]) ++ List.replicate (4 - (lg_sl ([.ref x, .int a, .int wa])).length) Slot.unset).toArray = ls at hl ⊢
  have hl : lv_has ls 4 [(0, .ref x), (1, .int a), (2, .int wa)] := hl
  have hS : va_S (zw_A B) s.heap s.heap [] := va_S.rf
  have hemp := zx_empty B0 (atoms_spec (ws := Cond.code yC_message bC_message 4 (some .int) :: zT) B0.pre _ List.mem_cons_self)
  have hx0 := hR.obj
  refine lv_aload_n hx hb dC_message_0 rfl (lv_at hl 0 rfl) ?_
  refine lv_iload_n hx hb dC_message_1 rfl (lv_at hl 1 rfl) ?_
  refine zr_V (As := [.int a]) (rest := []) (q := (RC, TC, 14)) ⟨hx, hb, hml, hown, hz⟩ (kC_messageAt_out l G B M x n mb z st.fl.length st.se st.lo st.go st.pa hn hx0 a ha) (zt_V zm_81 zm_83 zs_0 zm_1 zm_84) rfl rfl rfl (show _ ∧ _ ∧ _ ∧ _ = some 1 from by decide +kernel) ⟨Nat.le_of_ble_eq_true rfl, Nat.le_of_ble_eq_true rfl⟩ zE_blind (zE_at hE hS) hH hK hx0 rfl rfl hl.1 rfl (Nat.le_of_ble_eq_true rfl) dC_message_2 ⟨Nat.zero_le _, Nat.zero_le _⟩ ?_
  refine lv_astore_nN (lv' := [(3, .null), (0, .ref x), (1, .int a), (2, .int wa)]) hx hb dC_message_5 rfl hl (by decide) rfl (fun ls hl => ?_)
  refine lv_aload_nN hx hb dC_message_6 rfl (lv_at hl 0 rfl) ?_
  refine lv_ifnullN (tgt := 19) hx hb dC_message_7 (by decide) ?_
  obtain ⟨q0, hq0⟩ := hE.2.2.2.2.2.2.2.2.2 (145, "no such message in flight, or no such w") (by decide)
  exact zx_throwS (E := "java/lang/IndexOutOfBoundsException") (names := ["java/lang/RuntimeException", "java/lang/Exception"]) (ic := 62) hx (Launch.traces_off hflag (Stand.of_body B0).admits) hb hemp hlocks hown rfl (by decide) (zx_at hz hE zx_wIOOBE) (hz _ zm_150) (hz _ zm_7) hq0 (hl.1.trans hml.symm) (Nat.le_refl _) dC_message_19 dC_message_22 dC_message_23 dC_message_25 dC_message_28 (Nat.le_of_ble_eq_true rfl) (Nat.le_of_ble_eq_true rfl) (Nat.le_of_ble_eq_true rfl) (Nat.le_of_ble_eq_true rfl) (Nat.le_refl _) (Nat.le_refl _)

set_option maxHeartbeats 4000000 in
set_option maxRecDepth 100000 in
theorem tC_message2 (l : Launch) (hflag : l.flags = flags0) (G : zG) (B : Nat) (M : zw_M) (x z L n mb : Nat) (st : zSt) (qs : List Nat) (g : Nat → Int32) (hn : n ≤ 8) (hR : zCR G M x z L n mb st qs g) (h120 : st.fl.length ≤ 120) (j : Nat) (hj : j < st.fl.length) (wa : Int32) (hw : wa < 0 ∨ ¬ wa ≤ nI 4) : zx_Met l yC_message (Cond.code yC_message bC_message 4 (some .int) :: zT) { frames := 6, cells := 1, slots := 6, locals := 82 } (zp G B M [.ref x, .int (nI j), .int wa]) "java/lang/IndexOutOfBoundsException" 1 6 := by
  refine zx_ofW (cc := bC_message) (maxL := 4) (ret := (some .int)) (by decide) rfl ?_
  intro p e s m args below meth c s₁ B0 hml hv
  obtain ⟨rfl, hE, hH⟩ := hv
  have hx := B0.exec
  have hb := B0.bytes
  have hr := B0.returns
  have hlocks := B0.notSynchronized
  have hz : ∀ w ∈ zT, w.before _ s = true := fun w h => atoms_spec (ws := Cond.code yC_message bC_message 4 (some .int) :: zT) B0.pre w (List.mem_cons_of_mem _ h)
  have hown : s.vm.findClass RC = some m.cls := findClass_of_methodNamed B0.named
  have hK := hE.1
  have hl := lv_entry ([.ref x, .int (nI j), .int wa]) (n := 4) (Nat.le_of_ble_eq_true rfl)
  rw [lg_entry_eq]
  generalize (lg_sl ([.ref x, .int (nI j), .int wa]) ++ List.replicate (4 - (lg_sl ([.ref x, .int (nI j), .int wa])).length) Slot.unset).toArray = ls at hl ⊢
  have hl : lv_has ls 4 [(0, .ref x), (1, .int (nI j)), (2, .int wa)] := hl
  have hS : va_S (zw_A B) s.heap s.heap [] := va_S.rf
  have hemp := zx_empty B0 (atoms_spec (ws := Cond.code yC_message bC_message 4 (some .int) :: zT) B0.pre _ List.mem_cons_self)
  obtain ⟨q, mg, hq, -, -⟩ := hR.at hj
  have hx0 := hR.obj
  have hfl := hR.fl
  refine lv_aload_n hx hb dC_message_0 rfl (lv_at hl 0 rfl) ?_
  refine lv_iload_n hx hb dC_message_1 rfl (lv_at hl 1 rfl) ?_
  refine zr_V (As := [.int (nI j)]) (rest := []) (q := (RC, TC, 14)) ⟨hx, hb, hml, hown, hz⟩ (kC_messageAt_in l G B M x n mb z st.fl.length st.se st.lo st.go st.pa hn hx0 (fun i => qs[i]?) hfl h120 j q hj hq) (zt_V zm_81 zm_83 zs_0 zm_1 zm_84) rfl rfl rfl (show _ ∧ _ ∧ _ ∧ _ = some 1 from by decide +kernel) ⟨Nat.le_of_ble_eq_true rfl, Nat.le_of_ble_eq_true rfl⟩ zE_blind (zE_at hE hS) hH hK hx0 rfl rfl hl.1 rfl (Nat.le_of_ble_eq_true rfl) dC_message_2 ⟨Nat.zero_le _, Nat.zero_le _⟩ ?_
  refine lv_astore_n (lv' := [(3, .ref q), (0, .ref x), (1, .int (nI j)), (2, .int wa)]) hx hb dC_message_5 rfl hl (by decide) rfl (fun ls hl => ?_)
  refine lv_aload_n hx hb dC_message_6 rfl (lv_at hl 0 rfl) ?_
  refine lv_ifnull hx hb dC_message_7 ?_
  refine lv_iload_n hx hb dC_message_10 rfl (lv_at hl 3 rfl) ?_
  refine lv_if_lt (tgt := 19) hx hb dC_message_11 (by decide) (fun c => ?_) (fun c => ?_)
  · obtain ⟨q0, hq0⟩ := hE.2.2.2.2.2.2.2.2.2 (145, "no such message in flight, or no such w") (by decide)
    exact zx_throwS (E := "java/lang/IndexOutOfBoundsException") (names := ["java/lang/RuntimeException", "java/lang/Exception"]) (ic := 62) hx (Launch.traces_off hflag (Stand.of_body B0).admits) hb hemp hlocks hown rfl (by decide) (zx_at hz hE zx_wIOOBE) (hz _ zm_150) (hz _ zm_7) hq0 (hl.1.trans hml.symm) (Nat.le_refl _) dC_message_19 dC_message_22 dC_message_23 dC_message_25 dC_message_28 (Nat.le_of_ble_eq_true rfl) (Nat.le_of_ble_eq_true rfl) (Nat.le_of_ble_eq_true rfl) (Nat.le_of_ble_eq_true rfl) (Nat.le_refl _) (Nat.le_refl _)
  · refine lv_iload_n hx hb dC_message_14 rfl (lv_at hl 3 rfl) ?_
    refine lv_iconst (v := nI 4) hx hb dC_message_15 (by decide) ?_
    refine lv_icmp_le (tgt := 29) hx hb dC_message_16 (by decide) (fun c2 => ?_) (fun c2 => ?_)
    · exact absurd c2 (hw.resolve_left c)
    · obtain ⟨q0, hq0⟩ := hE.2.2.2.2.2.2.2.2.2 (145, "no such message in flight, or no such w") (by decide)
      exact zx_throwS (E := "java/lang/IndexOutOfBoundsException") (names := ["java/lang/RuntimeException", "java/lang/Exception"]) (ic := 62) hx (Launch.traces_off hflag (Stand.of_body B0).admits) hb hemp hlocks hown rfl (by decide) (zx_at hz hE zx_wIOOBE) (hz _ zm_150) (hz _ zm_7) hq0 (hl.1.trans hml.symm) (Nat.le_refl _) dC_message_19 dC_message_22 dC_message_23 dC_message_25 dC_message_28 (Nat.le_of_ble_eq_true rfl) (Nat.le_of_ble_eq_true rfl) (Nat.le_of_ble_eq_true rfl) (Nat.le_of_ble_eq_true rfl) (Nat.le_refl _) (Nat.le_refl _)

set_option maxHeartbeats 4000000 in
set_option maxRecDepth 100000 in
theorem tC_clock (l : Launch) (hflag : l.flags = flags0) (G : zG) (B : Nat) (M : zw_M) (x z L n mb : Nat) (st : zSt) (qs : List Nat) (g : Nat → Int32) (hn : n ≤ 8) (hR : zCR G M x z L n mb st qs g) (a : Int32) (ha : a < 0 ∨ nI n ≤ a) : zx_Met l yC_clock (Cond.code yC_clock bC_clock 2 (some .long) :: zT) { frames := 6, cells := 1, slots := 6, locals := 82 } (zp G B M [.ref x, .int a]) "java/lang/IndexOutOfBoundsException" 1 6 := by
  refine zx_ofW (cc := bC_clock) (maxL := 2) (ret := (some .long)) (by decide) rfl ?_
  intro p e s m args below meth c s₁ B0 hml hv
  obtain ⟨rfl, hE, hH⟩ := hv
  have hx := B0.exec
  have hb := B0.bytes
  have hr := B0.returns
  have hlocks := B0.notSynchronized
  have hz : ∀ w ∈ zT, w.before _ s = true := fun w h => atoms_spec (ws := Cond.code yC_clock bC_clock 2 (some .long) :: zT) B0.pre w (List.mem_cons_of_mem _ h)
  have hown : s.vm.findClass RC = some m.cls := findClass_of_methodNamed B0.named
  have hK := hE.1
  have hl := lv_entry ([.ref x, .int a]) (n := 2) (Nat.le_of_ble_eq_true rfl)
  rw [lg_entry_eq]
  generalize (lg_sl ([.ref x, .int a]) ++ List.replicate (2 - (lg_sl ([.ref x, .int a])).length) Slot.unset).toArray = ls at hl ⊢
  have hl : lv_has ls 2 [(0, .ref x), (1, .int a)] := hl
  have hS : va_S (zw_A B) s.heap s.heap [] := va_S.rf
  have hemp := zx_empty B0 (atoms_spec (ws := Cond.code yC_clock bC_clock 2 (some .long) :: zT) B0.pre _ List.mem_cons_self)
  have hx0 := hR.obj
  refine lv_aload_n hx hb dC_clock_0 rfl (lv_at hl 0 rfl) ?_
  refine lv_iload_n hx hb dC_clock_1 rfl (lv_at hl 1 rfl) ?_
  refine zr_V (As := [.int a]) (rest := []) (q := (RC, TC, 14)) ⟨hx, hb, hml, hown, hz⟩ (kC_isReplica_out l G B M x n mb z st.fl.length st.se st.lo st.go st.pa hn hx0 a ha) (zt_V zm_93 zm_95 zs_2 zm_1 zm_96) rfl rfl rfl (show _ ∧ _ ∧ _ ∧ _ = some 1 from by decide +kernel) ⟨Nat.le_of_ble_eq_true rfl, Nat.le_of_ble_eq_true rfl⟩ zE_blind (zE_at hE hS) hH hK hx0 rfl rfl hl.1 rfl (Nat.le_of_ble_eq_true rfl) dC_clock_2 ⟨Nat.zero_le _, Nat.zero_le _⟩ ?_
  refine zc_ne0 (tgt := 18) hx hb dC_clock_5 (by decide) (by omega) (fun c => ?_) (fun c => ?_)
  · exact absurd rfl c
  · obtain ⟨q0, hq0⟩ := hE.2.2.2.2.2.2.2.2.2 (60, "no such replica") (by decide)
    exact zx_throwS (E := "java/lang/IndexOutOfBoundsException") (names := ["java/lang/RuntimeException", "java/lang/Exception"]) (ic := 62) hx (Launch.traces_off hflag (Stand.of_body B0).admits) hb hemp hlocks hown rfl (by decide) (zx_at hz hE zx_wIOOBE) (hz _ zm_150) (hz _ zm_7) hq0 (hl.1.trans hml.symm) (Nat.le_refl _) dC_clock_8 dC_clock_11 dC_clock_12 dC_clock_14 dC_clock_17 (Nat.le_of_ble_eq_true rfl) (Nat.le_of_ble_eq_true rfl) (Nat.le_of_ble_eq_true rfl) (Nat.le_of_ble_eq_true rfl) (Nat.le_refl _) (Nat.le_refl _)

set_option maxHeartbeats 4000000 in
set_option maxRecDepth 100000 in
theorem tC_lacks (l : Launch) (hflag : l.flags = flags0) (G : zG) (B : Nat) (M : zw_M) (x z L n mb : Nat) (st : zSt) (qs : List Nat) (g : Nat → Int32) (hn : n ≤ 8) (hR : zCR G M x z L n mb st qs g) (a : Int32) (ha : a < 0 ∨ nI n ≤ a) : zx_Met l yC_lacks (Cond.code yC_lacks bC_lacks 2 (some .int) :: zT) { frames := 6, cells := 1, slots := 6, locals := 82 } (zp G B M [.ref x, .int a]) "java/lang/IndexOutOfBoundsException" 1 6 := by
  refine zx_ofW (cc := bC_lacks) (maxL := 2) (ret := (some .int)) (by decide) rfl ?_
  intro p e s m args below meth c s₁ B0 hml hv
  obtain ⟨rfl, hE, hH⟩ := hv
  have hx := B0.exec
  have hb := B0.bytes
  have hr := B0.returns
  have hlocks := B0.notSynchronized
  have hz : ∀ w ∈ zT, w.before _ s = true := fun w h => atoms_spec (ws := Cond.code yC_lacks bC_lacks 2 (some .int) :: zT) B0.pre w (List.mem_cons_of_mem _ h)
  have hown : s.vm.findClass RC = some m.cls := findClass_of_methodNamed B0.named
  have hK := hE.1
  have hl := lv_entry ([.ref x, .int a]) (n := 2) (Nat.le_of_ble_eq_true rfl)
  rw [lg_entry_eq]
  generalize (lg_sl ([.ref x, .int a]) ++ List.replicate (2 - (lg_sl ([.ref x, .int a])).length) Slot.unset).toArray = ls at hl ⊢
  have hl : lv_has ls 2 [(0, .ref x), (1, .int a)] := hl
  have hS : va_S (zw_A B) s.heap s.heap [] := va_S.rf
  have hemp := zx_empty B0 (atoms_spec (ws := Cond.code yC_lacks bC_lacks 2 (some .int) :: zT) B0.pre _ List.mem_cons_self)
  have hx0 := hR.obj
  refine lv_aload_n hx hb dC_lacks_0 rfl (lv_at hl 0 rfl) ?_
  refine lv_iload_n hx hb dC_lacks_1 rfl (lv_at hl 1 rfl) ?_
  refine zr_V (As := [.int a]) (rest := []) (q := (RC, TC, 14)) ⟨hx, hb, hml, hown, hz⟩ (kC_isReplica_out l G B M x n mb z st.fl.length st.se st.lo st.go st.pa hn hx0 a ha) (zt_V zm_93 zm_95 zs_2 zm_1 zm_96) rfl rfl rfl (show _ ∧ _ ∧ _ ∧ _ = some 1 from by decide +kernel) ⟨Nat.le_of_ble_eq_true rfl, Nat.le_of_ble_eq_true rfl⟩ zE_blind (zE_at hE hS) hH hK hx0 rfl rfl hl.1 rfl (Nat.le_of_ble_eq_true rfl) dC_lacks_2 ⟨Nat.zero_le _, Nat.zero_le _⟩ ?_
  refine zc_ne0 (tgt := 18) hx hb dC_lacks_5 (by decide) (by omega) (fun c => ?_) (fun c => ?_)
  · exact absurd rfl c
  · obtain ⟨q0, hq0⟩ := hE.2.2.2.2.2.2.2.2.2 (60, "no such replica") (by decide)
    exact zx_throwS (E := "java/lang/IndexOutOfBoundsException") (names := ["java/lang/RuntimeException", "java/lang/Exception"]) (ic := 62) hx (Launch.traces_off hflag (Stand.of_body B0).admits) hb hemp hlocks hown rfl (by decide) (zx_at hz hE zx_wIOOBE) (hz _ zm_150) (hz _ zm_7) hq0 (hl.1.trans hml.symm) (Nat.le_refl _) dC_lacks_8 dC_lacks_11 dC_lacks_12 dC_lacks_14 dC_lacks_17 (Nat.le_of_ble_eq_true rfl) (Nat.le_of_ble_eq_true rfl) (Nat.le_of_ble_eq_true rfl) (Nat.le_of_ble_eq_true rfl) (Nat.le_refl _) (Nat.le_refl _)
end
section
/-! THE REFERENCE: its object, the state that it stands for -/
def zoR (th n mb z nf se lo go pa pt : Nat) : List Value := [.int (nI th), .int (nI n), .int (nI mb), .ref z, .ref (z + 1), .ref (z + 2), .ref (z + 3), .ref (z + 4), .ref (z + 5), .int (nI nf), .ref (z + 6), .ref (z + 7), .ref (z + 8), .ref (z + 9), .ref (z + 10), .ref (z + 11), .int (nI se), .int (nI lo), .int (nI go), .int (nI pa), .ref (z + 12), .int (nI pt)]
/-- what its rows of messages hold: rows, numbers, from, to, sizes, clocks, inside, part -/
def zRX : Type := (Nat → Nat) × (Nat → Int32) × (Nat → Int32) × (Nat → Int32) × (Nat → Int32) × (Nat → Int64) × (Nat → Int32) × (Nat → Int32)
def zRX.mk (rw : Nat → Nat) (nu fr to si : Nat → Int32) (cl : Nat → Int64) (ins part : Nat → Int32) : zRX := (rw, nu, fr, to, si, cl, ins, part)
def zRX.rw (Y : zRX) : Nat → Nat := Y.1
def zRX.nu (Y : zRX) : Nat → Int32 := Y.2.1
def zRX.fr (Y : zRX) : Nat → Int32 := Y.2.2.1
def zRX.to (Y : zRX) : Nat → Int32 := Y.2.2.2.1
def zRX.si (Y : zRX) : Nat → Int32 := Y.2.2.2.2.1
def zRX.cl (Y : zRX) : Nat → Int64 := Y.2.2.2.2.2.1
def zRX.ins (Y : zRX) : Nat → Int32 := Y.2.2.2.2.2.2.1
def zRX.part (Y : zRX) : Nat → Int32 := Y.2.2.2.2.2.2.2
/-- the size that stands for a message: -1 for a CLOCK -/
def zsz (ck : Option Int64) (chs : List Nat) : Int32 := match ck with
  | some _ => -1
  | none => nI chs.length
def zRm (Y : zRX) (i : Nat) (mg : zMg) : Prop := Y.nu (Y.rw i) = nI mg.num ∧ Y.fr (Y.rw i) = nI mg.snd ∧ Y.to (Y.rw i) = nI mg.rcv ∧ Y.si (Y.rw i) = zsz mg.ck mg.chs ∧ (∀ k, mg.ck = some k → Y.cl (Y.rw i) = k) ∧ ∀ k, k < mg.chs.length → Y.ins (480 * Y.rw i + k) = nI (mg.chs.getD k 0)
def zRR (G : zG) (M : zw_M) (x z n mb : Nat) (st : zSt) (th pt : Nat) (Y : zRX) : Prop :=
  (x < z) ∧
  (M x = some (.inr (2, zoR th n mb z st.fl.length st.se st.lo st.go st.pa pt))) ∧
  (M (z) = some (.inl (G.2.1 2, 8, .inl (fun a9 => nI (st.dn a9).toNat)))) ∧
  (M (z + 1) = some (.inl (G.2.1 0, 8, .inl (fun a9 => nI ((st.wt a9).length))))) ∧
  (M (z + 2) = some (.inl (G.2.1 0, 488, .inl (fun a9 => nI ((st.wt (a9 / 61)).getD (a9 % 61) 0))))) ∧
  (M (z + 3) = some (.inl (G.2.1 0, 3840, .inl (fun a9 => nI ((st.lg (a9 / 480)).getD (a9 % 480) 0))))) ∧
  (M (z + 4) = some (.inl (G.2.1 0, 8, .inl (fun a9 => nI ((st.lg a9).length))))) ∧
  (M (z + 5) = some (.inl (G.2.1 0, 120, .inl (fun a9 => nI (Y.rw a9))))) ∧
  (M (z + 6) = some (.inl (G.2.1 0, 120, .inl Y.nu))) ∧
  (M (z + 7) = some (.inl (G.2.1 0, 120, .inl Y.fr))) ∧
  (M (z + 8) = some (.inl (G.2.1 0, 120, .inl Y.to))) ∧
  (M (z + 9) = some (.inl (G.2.1 0, 120, .inl Y.si))) ∧
  (M (z + 10) = some (.inl (G.2.1 1, 120, .inr (.inl Y.cl)))) ∧
  (M (z + 11) = some (.inl (G.2.1 0, 57600, .inl Y.ins))) ∧
  (M (z + 12) = some (.inl (G.2.1 0, 480, .inl Y.part))) ∧
  (∀ i, i < 120 → Y.rw i < 120) ∧
  (∀ i j, i < 120 → j < 120 → Y.rw i = Y.rw j → i = j) ∧
  (∀ (i : Nat) (mg : zMg), st.fl[i]? = some mg → zRm Y i mg)
theorem zRR.xz {G : zG} {M : zw_M} {x z n mb : Nat} {st : zSt} {th pt : Nat} {Y : zRX} (h : zRR G M x z n mb st th pt Y) : x < z := h.1
theorem zRR.obj {G : zG} {M : zw_M} {x z n mb : Nat} {st : zSt} {th pt : Nat} {Y : zRX} (h : zRR G M x z n mb st th pt Y) : M x = some (.inr (2, zoR th n mb z st.fl.length st.se st.lo st.go st.pa pt)) := h.2.1
theorem zRR.dn {G : zG} {M : zw_M} {x z n mb : Nat} {st : zSt} {th pt : Nat} {Y : zRX} (h : zRR G M x z n mb st th pt Y) : M (z) = some (.inl (G.2.1 2, 8, .inl (fun a9 => nI (st.dn a9).toNat))) := h.2.2.1
theorem zRR.md {G : zG} {M : zw_M} {x z n mb : Nat} {st : zSt} {th pt : Nat} {Y : zRX} (h : zRR G M x z n mb st th pt Y) : M (z + 1) = some (.inl (G.2.1 0, 8, .inl (fun a9 => nI ((st.wt a9).length)))) := h.2.2.2.1
theorem zRR.wt {G : zG} {M : zw_M} {x z n mb : Nat} {st : zSt} {th pt : Nat} {Y : zRX} (h : zRR G M x z n mb st th pt Y) : M (z + 2) = some (.inl (G.2.1 0, 488, .inl (fun a9 => nI ((st.wt (a9 / 61)).getD (a9 % 61) 0)))) := h.2.2.2.2.1
theorem zRR.has {G : zG} {M : zw_M} {x z n mb : Nat} {st : zSt} {th pt : Nat} {Y : zRX} (h : zRR G M x z n mb st th pt Y) : M (z + 3) = some (.inl (G.2.1 0, 3840, .inl (fun a9 => nI ((st.lg (a9 / 480)).getD (a9 % 480) 0)))) := h.2.2.2.2.2.1
theorem zRR.mn {G : zG} {M : zw_M} {x z n mb : Nat} {st : zSt} {th pt : Nat} {Y : zRX} (h : zRR G M x z n mb st th pt Y) : M (z + 4) = some (.inl (G.2.1 0, 8, .inl (fun a9 => nI ((st.lg a9).length)))) := h.2.2.2.2.2.2.1
theorem zRR.rw {G : zG} {M : zw_M} {x z n mb : Nat} {st : zSt} {th pt : Nat} {Y : zRX} (h : zRR G M x z n mb st th pt Y) : M (z + 5) = some (.inl (G.2.1 0, 120, .inl (fun a9 => nI (Y.rw a9)))) := h.2.2.2.2.2.2.2.1
theorem zRR.nu {G : zG} {M : zw_M} {x z n mb : Nat} {st : zSt} {th pt : Nat} {Y : zRX} (h : zRR G M x z n mb st th pt Y) : M (z + 6) = some (.inl (G.2.1 0, 120, .inl Y.nu)) := h.2.2.2.2.2.2.2.2.1
theorem zRR.fr {G : zG} {M : zw_M} {x z n mb : Nat} {st : zSt} {th pt : Nat} {Y : zRX} (h : zRR G M x z n mb st th pt Y) : M (z + 7) = some (.inl (G.2.1 0, 120, .inl Y.fr)) := h.2.2.2.2.2.2.2.2.2.1
theorem zRR.to {G : zG} {M : zw_M} {x z n mb : Nat} {st : zSt} {th pt : Nat} {Y : zRX} (h : zRR G M x z n mb st th pt Y) : M (z + 8) = some (.inl (G.2.1 0, 120, .inl Y.to)) := h.2.2.2.2.2.2.2.2.2.2.1
theorem zRR.si {G : zG} {M : zw_M} {x z n mb : Nat} {st : zSt} {th pt : Nat} {Y : zRX} (h : zRR G M x z n mb st th pt Y) : M (z + 9) = some (.inl (G.2.1 0, 120, .inl Y.si)) := h.2.2.2.2.2.2.2.2.2.2.2.1
theorem zRR.cl {G : zG} {M : zw_M} {x z n mb : Nat} {st : zSt} {th pt : Nat} {Y : zRX} (h : zRR G M x z n mb st th pt Y) : M (z + 10) = some (.inl (G.2.1 1, 120, .inr (.inl Y.cl))) := h.2.2.2.2.2.2.2.2.2.2.2.2.1
theorem zRR.ins {G : zG} {M : zw_M} {x z n mb : Nat} {st : zSt} {th pt : Nat} {Y : zRX} (h : zRR G M x z n mb st th pt Y) : M (z + 11) = some (.inl (G.2.1 0, 57600, .inl Y.ins)) := h.2.2.2.2.2.2.2.2.2.2.2.2.2.1
theorem zRR.part {G : zG} {M : zw_M} {x z n mb : Nat} {st : zSt} {th pt : Nat} {Y : zRX} (h : zRR G M x z n mb st th pt Y) : M (z + 12) = some (.inl (G.2.1 0, 480, .inl Y.part)) := h.2.2.2.2.2.2.2.2.2.2.2.2.2.2.1
theorem zRR.rwb {G : zG} {M : zw_M} {x z n mb : Nat} {st : zSt} {th pt : Nat} {Y : zRX} (h : zRR G M x z n mb st th pt Y) : ∀ i, i < 120 → Y.rw i < 120 := h.2.2.2.2.2.2.2.2.2.2.2.2.2.2.2.1
theorem zRR.rwi {G : zG} {M : zw_M} {x z n mb : Nat} {st : zSt} {th pt : Nat} {Y : zRX} (h : zRR G M x z n mb st th pt Y) : ∀ i j, i < 120 → j < 120 → Y.rw i = Y.rw j → i = j := h.2.2.2.2.2.2.2.2.2.2.2.2.2.2.2.2.1
theorem zRR.msg {G : zG} {M : zw_M} {x z n mb : Nat} {st : zSt} {th pt : Nat} {Y : zRX} (h : zRR G M x z n mb st th pt Y) : ∀ (i : Nat) (mg : zMg), st.fl[i]? = some mg → zRm Y i mg := h.2.2.2.2.2.2.2.2.2.2.2.2.2.2.2.2.2
/-- what a method of the reference leaves alone -/
def zrf (x z : Nat) (M M' : zw_M) : Prop := ∀ q : Nat, q ≠ x → (q < z ∨ z + 12 < q) → M' q = M q
theorem zrf.rf {x z : Nat} {M : zw_M} : zrf x z M M := fun _ _ _ => rfl
theorem zrf.tr {x z : Nat} {M M1 M2 : zw_M} (h1 : zrf x z M M1) (h2 : zrf x z M1 M2) : zrf x z M M2 := fun q a b => (h2 q a b).trans (h1 q a b)
theorem zrf.ux {x z : Nat} {M M1 : zw_M} {e : va_E} (h : zrf x z M M1) : zrf x z M (zw_u M1 x e) := fun q a b => by rw [zw_un _ _ a]; exact h q a b
theorem zrf.uz {x z a : Nat} {M M1 : zw_M} {e : va_E} (h : zrf x z M M1) (ha : z ≤ a) (hb : a ≤ z + 12) : zrf x z M (zw_u M1 a e) := fun q a1 b => by rw [zw_un _ _ (by omega)]; exact h q a1 b
def zRO (G : zG) (x z n mb sz : Nat) (M : zw_M) (st : zSt) (th : Nat) (u : zw_M × Nat) : Prop := (∃ (pt : Nat) (Y : zRX), zRR G u.1 x z n mb st th pt Y) ∧ zrf x z M u.1 ∧ u.2 = sz
theorem zRR.to2 {G : zG} {M : zw_M} {x z n mb : Nat} {st : zSt} {th pt : Nat} {Y : zRX} {M' : zw_M} (h : zRR G M x z n mb st th pt Y) (hM : ∀ (a : Nat) (e : va_E), (a = x ∨ (z ≤ a ∧ a ≤ z + 12)) → M a = some e → M' a = some e) : zRR G M' x z n mb st th pt Y := by
  have h1 := h.xz
  exact ⟨h.xz, hM _ _ (by omega) h.obj, hM _ _ (by omega) h.dn, hM _ _ (by omega) h.md, hM _ _ (by omega) h.wt, hM _ _ (by omega) h.has, hM _ _ (by omega) h.mn, hM _ _ (by omega) h.rw, hM _ _ (by omega) h.nu, hM _ _ (by omega) h.fr, hM _ _ (by omega) h.to, hM _ _ (by omega) h.si, hM _ _ (by omega) h.cl, hM _ _ (by omega) h.ins, hM _ _ (by omega) h.part, h.rwb, h.rwi, h.msg⟩
/-- a place in rows of 480, of 61 -/
theorem zpl (r k K : Nat) (h : k < K) : (K * r + k) / K = r ∧ (K * r + k) % K = k := by
  rw [Nat.mul_add_div (by omega), Nat.div_eq_of_lt h, Nat.mul_add_mod, Nat.mod_eq_of_lt h]
  exact ⟨rfl, rfl⟩

set_option maxHeartbeats 4000000 in
set_option maxRecDepth 100000 in
theorem kR_isReplica_in (l : Launch) (G : zG) (B : Nat) (M : zw_M) (x z n mb : Nat) (st : zSt) (th pt : Nat) (Y : zRX) (hn : n ≤ 8) (hR : zRR G M x z n mb st th pt Y) (j : Nat) (hj : j < n) : Met l yR_isReplica (Cond.code yR_isReplica bR_isReplica 2 (some .boolean) :: zT) { frames := 0, cells := 0, slots := 0, locals := 0 } (zp G B M [.ref x, .int (nI j)]) (k2_QcV (.int (nI 1))) 0 0 (fun _ => False) := by
  refine Met.ofW (cc := bR_isReplica) (maxL := 2) (ret := (some .boolean)) (by decide) rfl ?_
  intro p e s m args below meth c s₁ B0 hml hv
  obtain ⟨rfl, hE, hH⟩ := hv
  have hx := B0.exec
  have hb := B0.bytes
  have hr := B0.returns
  have hlocks := B0.notSynchronized
  have hz : ∀ w ∈ zT, w.before _ s = true := fun w h => atoms_spec (ws := Cond.code yR_isReplica bR_isReplica 2 (some .boolean) :: zT) B0.pre w (List.mem_cons_of_mem _ h)
  have hown : s.vm.findClass RR = some m.cls := findClass_of_methodNamed B0.named
  have hK := hE.1
  have hl := lv_entry ([.ref x, .int (nI j)]) (n := 2) (Nat.le_of_ble_eq_true rfl)
  rw [lg_entry_eq]
  generalize (lg_sl ([.ref x, .int (nI j)]) ++ List.replicate (2 - (lg_sl ([.ref x, .int (nI j)])).length) Slot.unset).toArray = ls at hl ⊢
  have hl : lv_has ls 2 [(0, .ref x), (1, .int (nI j))] := hl
  have hS : va_S (zw_A B) s.heap s.heap [] := va_S.rf
  refine lv_iload_n hx hb dR_isReplica_0 rfl (lv_at hl 1 rfl) ?_
  refine lv_if_lt (tgt := 16) hx hb dR_isReplica_1 (by decide) (fun c => ?_) (fun c => ?_)
  · exact absurd c (nI_pos (by omega))
  · refine lv_iload_n hx hb dR_isReplica_4 rfl (lv_at hl 1 rfl) ?_
    refine lv_aload_n hx hb dR_isReplica_5 rfl (lv_at hl 0 rfl) ?_
    refine va_get (D := G.1) (ci := 2) (v := .int (nI n)) (C := RR) (T := TR) (N := 22) hx hb hz iR hown hK (hH.one hR.obj) 0 rfl rfl 1 (by decide) (hz _ zm_389) (fun _ h9 => h9) rfl dR_isReplica_6 ?_
    refine zc_ge (tgt := 16) hx hb dR_isReplica_9 (by decide) (by omega) (by omega) (fun c => ?_) (fun c => ?_)
    · exact absurd c (by omega)
    · refine lv_iconst (v := nI 1) hx hb dR_isReplica_12 (by decide) ?_
      refine lv_goto (tgt := 17) hx hb dR_isReplica_13 (by decide) ?_
      exact W.zret (v := (nI 1)) (ty := .boolean) hx hb hr rfl (fun t ht hW => ⟨rfl, ht⟩) (fun q h => by cases h) dR_isReplica_17

set_option maxHeartbeats 4000000 in
set_option maxRecDepth 100000 in
theorem kR_isReplica_out (l : Launch) (G : zG) (B : Nat) (M : zw_M) (x z n mb : Nat) (st : zSt) (th pt : Nat) (Y : zRX) (hn : n ≤ 8) (hR : zRR G M x z n mb st th pt Y) (a : Int32) (ha : a < 0 ∨ nI n ≤ a) : Met l yR_isReplica (Cond.code yR_isReplica bR_isReplica 2 (some .boolean) :: zT) { frames := 0, cells := 0, slots := 0, locals := 0 } (zp G B M [.ref x, .int a]) (k2_QcV (.int (nI 0))) 0 0 (fun _ => False) := by
  refine Met.ofW (cc := bR_isReplica) (maxL := 2) (ret := (some .boolean)) (by decide) rfl ?_
  intro p e s m args below meth c s₁ B0 hml hv
  obtain ⟨rfl, hE, hH⟩ := hv
  have hx := B0.exec
  have hb := B0.bytes
  have hr := B0.returns
  have hlocks := B0.notSynchronized
  have hz : ∀ w ∈ zT, w.before _ s = true := fun w h => atoms_spec (ws := Cond.code yR_isReplica bR_isReplica 2 (some .boolean) :: zT) B0.pre w (List.mem_cons_of_mem _ h)
  have hown : s.vm.findClass RR = some m.cls := findClass_of_methodNamed B0.named
  have hK := hE.1
  have hl := lv_entry ([.ref x, .int a]) (n := 2) (Nat.le_of_ble_eq_true rfl)
  rw [lg_entry_eq]
  generalize (lg_sl ([.ref x, .int a]) ++ List.replicate (2 - (lg_sl ([.ref x, .int a])).length) Slot.unset).toArray = ls at hl ⊢
  have hl : lv_has ls 2 [(0, .ref x), (1, .int a)] := hl
  have hS : va_S (zw_A B) s.heap s.heap [] := va_S.rf
  refine lv_iload_n hx hb dR_isReplica_0 rfl (lv_at hl 1 rfl) ?_
  refine lv_if_lt (tgt := 16) hx hb dR_isReplica_1 (by decide) (fun c => ?_) (fun c => ?_)
  · refine lv_iconst (v := nI 0) hx hb dR_isReplica_16 (by decide) ?_
    exact W.zret (v := (nI 0)) (ty := .boolean) hx hb hr rfl (fun t ht hW => ⟨rfl, ht⟩) (fun q h => by cases h) dR_isReplica_17
  · refine lv_iload_n hx hb dR_isReplica_4 rfl (lv_at hl 1 rfl) ?_
    refine lv_aload_n hx hb dR_isReplica_5 rfl (lv_at hl 0 rfl) ?_
    refine va_get (D := G.1) (ci := 2) (v := .int (nI n)) (C := RR) (T := TR) (N := 22) hx hb hz iR hown hK (hH.one hR.obj) 0 rfl rfl 1 (by decide) (hz _ zm_389) (fun _ h9 => h9) rfl dR_isReplica_6 ?_
    refine lv_icmp_ge (tgt := 16) hx hb dR_isReplica_9 (by decide) (fun c2 => ?_) (fun c2 => ?_)
    · refine lv_iconst (v := nI 0) hx hb dR_isReplica_16 (by decide) ?_
      exact W.zret (v := (nI 0)) (ty := .boolean) hx hb hr rfl (fun t ht hW => ⟨rfl, ht⟩) (fun q h => by cases h) dR_isReplica_17
    · exact absurd (ha.resolve_left c) c2

set_option maxHeartbeats 4000000 in
set_option maxRecDepth 100000 in
theorem kR_isMessage_in (l : Launch) (G : zG) (B : Nat) (M : zw_M) (x z n mb : Nat) (st : zSt) (th pt : Nat) (Y : zRX) (hn : n ≤ 8) (hR : zRR G M x z n mb st th pt Y) (h120 : st.fl.length ≤ 120) (j : Nat) (hj : j < st.fl.length) : Met l yR_isMessage (Cond.code yR_isMessage bR_isMessage 2 (some .boolean) :: zT) { frames := 0, cells := 0, slots := 0, locals := 0 } (zp G B M [.ref x, .int (nI j)]) (k2_QcV (.int (nI 1))) 0 0 (fun _ => False) := by
  refine Met.ofW (cc := bR_isMessage) (maxL := 2) (ret := (some .boolean)) (by decide) rfl ?_
  intro p e s m args below meth c s₁ B0 hml hv
  obtain ⟨rfl, hE, hH⟩ := hv
  have hx := B0.exec
  have hb := B0.bytes
  have hr := B0.returns
  have hlocks := B0.notSynchronized
  have hz : ∀ w ∈ zT, w.before _ s = true := fun w h => atoms_spec (ws := Cond.code yR_isMessage bR_isMessage 2 (some .boolean) :: zT) B0.pre w (List.mem_cons_of_mem _ h)
  have hown : s.vm.findClass RR = some m.cls := findClass_of_methodNamed B0.named
  have hK := hE.1
  have hl := lv_entry ([.ref x, .int (nI j)]) (n := 2) (Nat.le_of_ble_eq_true rfl)
  rw [lg_entry_eq]
  generalize (lg_sl ([.ref x, .int (nI j)]) ++ List.replicate (2 - (lg_sl ([.ref x, .int (nI j)])).length) Slot.unset).toArray = ls at hl ⊢
  have hl : lv_has ls 2 [(0, .ref x), (1, .int (nI j))] := hl
  have hS : va_S (zw_A B) s.heap s.heap [] := va_S.rf
  refine lv_iload_n hx hb dR_isMessage_0 rfl (lv_at hl 1 rfl) ?_
  refine lv_if_lt (tgt := 16) hx hb dR_isMessage_1 (by decide) (fun c => ?_) (fun c => ?_)
  · exact absurd c (nI_pos (by omega))
  · refine lv_iload_n hx hb dR_isMessage_4 rfl (lv_at hl 1 rfl) ?_
    refine lv_aload_n hx hb dR_isMessage_5 rfl (lv_at hl 0 rfl) ?_
    refine va_get (D := G.1) (ci := 2) (v := .int (nI st.fl.length)) (C := RR) (T := TR) (N := 22) hx hb hz iR hown hK (hH.one hR.obj) 0 rfl rfl 9 (by decide) (hz _ zm_397) (fun _ h9 => h9) rfl dR_isMessage_6 ?_
    refine zc_ge (tgt := 16) hx hb dR_isMessage_9 (by decide) (by omega) (by omega) (fun c => ?_) (fun c => ?_)
    · exact absurd c (by omega)
    · refine lv_iconst (v := nI 1) hx hb dR_isMessage_12 (by decide) ?_
      refine lv_goto (tgt := 17) hx hb dR_isMessage_13 (by decide) ?_
      exact W.zret (v := (nI 1)) (ty := .boolean) hx hb hr rfl (fun t ht hW => ⟨rfl, ht⟩) (fun q h => by cases h) dR_isMessage_17

set_option maxHeartbeats 4000000 in
set_option maxRecDepth 100000 in
theorem kR_isMessage_out (l : Launch) (G : zG) (B : Nat) (M : zw_M) (x z n mb : Nat) (st : zSt) (th pt : Nat) (Y : zRX) (hn : n ≤ 8) (hR : zRR G M x z n mb st th pt Y) (a : Int32) (ha : a < 0 ∨ nI st.fl.length ≤ a) : Met l yR_isMessage (Cond.code yR_isMessage bR_isMessage 2 (some .boolean) :: zT) { frames := 0, cells := 0, slots := 0, locals := 0 } (zp G B M [.ref x, .int a]) (k2_QcV (.int (nI 0))) 0 0 (fun _ => False) := by
  refine Met.ofW (cc := bR_isMessage) (maxL := 2) (ret := (some .boolean)) (by decide) rfl ?_
  intro p e s m args below meth c s₁ B0 hml hv
  obtain ⟨rfl, hE, hH⟩ := hv
  have hx := B0.exec
  have hb := B0.bytes
  have hr := B0.returns
  have hlocks := B0.notSynchronized
  have hz : ∀ w ∈ zT, w.before _ s = true := fun w h => atoms_spec (ws := Cond.code yR_isMessage bR_isMessage 2 (some .boolean) :: zT) B0.pre w (List.mem_cons_of_mem _ h)
  have hown : s.vm.findClass RR = some m.cls := findClass_of_methodNamed B0.named
  have hK := hE.1
  have hl := lv_entry ([.ref x, .int a]) (n := 2) (Nat.le_of_ble_eq_true rfl)
  rw [lg_entry_eq]
  generalize (lg_sl ([.ref x, .int a]) ++ List.replicate (2 - (lg_sl ([.ref x, .int a])).length) Slot.unset).toArray = ls at hl ⊢
  have hl : lv_has ls 2 [(0, .ref x), (1, .int a)] := hl
  have hS : va_S (zw_A B) s.heap s.heap [] := va_S.rf
  refine lv_iload_n hx hb dR_isMessage_0 rfl (lv_at hl 1 rfl) ?_
  refine lv_if_lt (tgt := 16) hx hb dR_isMessage_1 (by decide) (fun c => ?_) (fun c => ?_)
  · refine lv_iconst (v := nI 0) hx hb dR_isMessage_16 (by decide) ?_
    exact W.zret (v := (nI 0)) (ty := .boolean) hx hb hr rfl (fun t ht hW => ⟨rfl, ht⟩) (fun q h => by cases h) dR_isMessage_17
  · refine lv_iload_n hx hb dR_isMessage_4 rfl (lv_at hl 1 rfl) ?_
    refine lv_aload_n hx hb dR_isMessage_5 rfl (lv_at hl 0 rfl) ?_
    refine va_get (D := G.1) (ci := 2) (v := .int (nI st.fl.length)) (C := RR) (T := TR) (N := 22) hx hb hz iR hown hK (hH.one hR.obj) 0 rfl rfl 9 (by decide) (hz _ zm_397) (fun _ h9 => h9) rfl dR_isMessage_6 ?_
    refine lv_icmp_ge (tgt := 16) hx hb dR_isMessage_9 (by decide) (fun c2 => ?_) (fun c2 => ?_)
    · refine lv_iconst (v := nI 0) hx hb dR_isMessage_16 (by decide) ?_
      exact W.zret (v := (nI 0)) (ty := .boolean) hx hb hr rfl (fun t ht hW => ⟨rfl, ht⟩) (fun q h => by cases h) dR_isMessage_17
    · exact absurd (ha.resolve_left c) c2

set_option maxHeartbeats 4000000 in
set_option maxRecDepth 100000 in
theorem kR_thrown (l : Launch) (G : zG) (B : Nat) (M : zw_M) (x z n mb : Nat) (st : zSt) (th pt : Nat) (Y : zRX) (hn : n ≤ 8) (hR : zRR G M x z n mb st th pt Y) : Met l yR_thrown (Cond.code yR_thrown bR_thrown 1 (some .int) :: zT) { frames := 0, cells := 0, slots := 0, locals := 0 } (zp G B M [.ref x]) (k2_QcV (.int (nI th))) 0 0 (fun _ => False) := by
  refine Met.ofW (cc := bR_thrown) (maxL := 1) (ret := (some .int)) (by decide) rfl ?_
  intro p e s m args below meth c s₁ B0 hml hv
  obtain ⟨rfl, hE, hH⟩ := hv
  have hx := B0.exec
  have hb := B0.bytes
  have hr := B0.returns
  have hlocks := B0.notSynchronized
  have hz : ∀ w ∈ zT, w.before _ s = true := fun w h => atoms_spec (ws := Cond.code yR_thrown bR_thrown 1 (some .int) :: zT) B0.pre w (List.mem_cons_of_mem _ h)
  have hown : s.vm.findClass RR = some m.cls := findClass_of_methodNamed B0.named
  have hK := hE.1
  have hl := lv_entry ([.ref x]) (n := 1) (Nat.le_of_ble_eq_true rfl)
  rw [lg_entry_eq]
  generalize (lg_sl ([.ref x]) ++ List.replicate (1 - (lg_sl ([.ref x])).length) Slot.unset).toArray = ls at hl ⊢
  have hl : lv_has ls 1 [(0, .ref x)] := hl
  have hS : va_S (zw_A B) s.heap s.heap [] := va_S.rf
  refine lv_aload_n hx hb dR_thrown_0 rfl (lv_at hl 0 rfl) ?_
  refine va_get (D := G.1) (ci := 2) (v := .int (nI th)) (C := RR) (T := TR) (N := 22) hx hb hz iR hown hK (hH.one hR.obj) 0 rfl rfl 0 (by decide) (hz _ zm_388) (fun _ h9 => h9) rfl dR_thrown_1 ?_
  exact W.iret (v := (nI th)) hx hb hr (fun t ht hW => ⟨rfl, ht⟩) (fun q h => by cases h) dR_thrown_4

theorem zcnt_take (a : Nat) {L : List Nat} {i : Nat} (h : i < L.length) : zcnt a (L.take (i + 1)) = zcnt a (L.take i) + if L.getD i 0 % 8 = a then 1 else 0 := by
  rw [List.take_succ, List.getElem?_eq_getElem h, Option.toList_some, zcnt_app, List.getD_eq_getElem?_getD, List.getElem?_eq_getElem h]
  rfl
set_option maxHeartbeats 4000000 in
set_option maxRecDepth 100000 in
theorem kR_reached (l : Launch) (G : zG) (B : Nat) (M : zw_M) (x z n mb : Nat) (st : zSt) (th pt : Nat) (Y : zRX) (hn : n ≤ 8) (hR : zRR G M x z n mb st th pt Y) (hok : zOK n st) (j a : Nat) (hj : j < n) (ha : a < 8) : Met l yR_reached (Cond.code yR_reached bR_reached 5 (some .int) :: zT) { frames := 0, cells := 0, slots := 0, locals := 0 } (zp G B M [.ref x, .int (nI j), .int (nI a)]) (k2_QcV (.int (nI (zcnt a (st.lg j))))) 0 0 (fun _ => False) := by
  refine Met.ofW (cc := bR_reached) (maxL := 5) (ret := (some .int)) (by decide) rfl ?_
  intro p e s m args below meth c s₁ B0 hml hv
  obtain ⟨rfl, hE, hH⟩ := hv
  have hx := B0.exec
  have hb := B0.bytes
  have hr := B0.returns
  have hlocks := B0.notSynchronized
  have hz : ∀ w ∈ zT, w.before _ s = true := fun w h => atoms_spec (ws := Cond.code yR_reached bR_reached 5 (some .int) :: zT) B0.pre w (List.mem_cons_of_mem _ h)
  have hown : s.vm.findClass RR = some m.cls := findClass_of_methodNamed B0.named
  have hK := hE.1
  have hl := lv_entry ([.ref x, .int (nI j), .int (nI a)]) (n := 5) (Nat.le_of_ble_eq_true rfl)
  rw [lg_entry_eq]
  generalize (lg_sl ([.ref x, .int (nI j), .int (nI a)]) ++ List.replicate (5 - (lg_sl ([.ref x, .int (nI j), .int (nI a)])).length) Slot.unset).toArray = ls at hl ⊢
  have hl : lv_has ls 5 [(0, .ref x), (1, .int (nI j)), (2, .int (nI a))] := hl
  have hS : va_S (zw_A B) s.heap s.heap [] := va_S.rf
  have hlen := hok.len hj
  have hval := hok.1 j hj
  refine lv_iconst (v := nI 0) hx hb dR_reached_0 (by decide) ?_
  refine lv_istore_n (lv' := [(3, .int (nI 0)), (0, .ref x), (1, .int (nI j)), (2, .int (nI a))]) hx hb dR_reached_1 rfl hl (by decide) rfl (fun ls hl => ?_)
  refine lv_iconst (v := nI 0) hx hb dR_reached_2 (by decide) ?_
  refine lv_istore (lv' := [(4, .int (nI 0)), (3, .int (nI 0)), (0, .ref x), (1, .int (nI j)), (2, .int (nI a))]) hx hb dR_reached_3 hl (by decide) rfl (fun ls hl => ?_)
  refine zl_up (Wg := fun ls => W p l e _ s m _ below meth c s.heap [] 0 0 _ (F0 m 5 ls [])) (fun i ls => lv_has ls 5 [(0, .ref x), (1, .int (nI j)), (2, .int (nI a)), (3, .int (nI (zcnt a ((st.lg j).take i)))), (4, .int (nI i))]) ((st.lg j).length) ?_ (i := 0) (by omega) (lv_sub hl [2, 3, 4, 1, 0] rfl)
  intro i hi ls hl ih
  have hl : lv_has ls 5 [(0, .ref x), (1, .int (nI j)), (2, .int (nI a)), (3, .int (nI (zcnt a ((st.lg j).take i)))), (4, .int (nI i))] := hl
  refine lv_iload hx hb dR_reached_5 (lv_at hl 4 rfl) ?_
  refine lv_aload_n hx hb dR_reached_7 rfl (lv_at hl 0 rfl) ?_
  refine va_get (D := G.1) (ci := 2) (v := .ref (z + 4)) (C := RR) (T := TR) (N := 22) hx hb hz iR hown hK (hH.one hR.obj) 0 rfl rfl 7 (by decide) (hz _ zm_395) (fun _ h9 => h9) rfl dR_reached_8 ?_
  refine lv_iload_n hx hb dR_reached_11 rfl (lv_at hl 1 rfl) ?_
  refine zw_iald hx hb hK hH 0 hR.mn rfl (j) rfl (by omega) (by decide) dR_reached_12 ?_
  refine zc_ge (tgt := 50) hx hb dR_reached_13 (by decide) (by omega) (by omega) (fun b1 => ?_) (fun b1 => ?_)
  · have e1 : (st.lg j).take i = st.lg j := List.take_of_length_le (by omega)
    refine lv_iload_n hx hb dR_reached_50 rfl (lv_at hl 3 rfl) ?_
    refine zw_ti (congrArg (fun L => nI (zcnt a L)) e1) ?_
    exact W.iret (v := (nI (zcnt a (st.lg j)))) hx hb hr (fun t ht hW => ⟨rfl, ht⟩) (fun q h => by cases h) dR_reached_51
  · obtain ⟨hp1, hp2⟩ := zpl j i 480 (by omega)
    have hv1 := zval.lt hn hok (hval _ (zget_mem b1))
    have hs1 := zcnt_take a b1
    refine lv_iload_n hx hb dR_reached_16 rfl (lv_at hl 3 rfl) ?_
    refine lv_aload_n hx hb dR_reached_17 rfl (lv_at hl 0 rfl) ?_
    refine va_get (D := G.1) (ci := 2) (v := .ref (z + 3)) (C := RR) (T := TR) (N := 22) hx hb hz iR hown hK (hH.one hR.obj) 0 rfl rfl 6 (by decide) (hz _ zm_394) (fun _ h9 => h9) rfl dR_reached_18 ?_
    refine lv_sipush (v := nI 480) hx hb dR_reached_21 (by decide) ?_
    refine lv_iload_n hx hb dR_reached_24 rfl (lv_at hl 1 rfl) ?_
    refine lv_imul hx hb dR_reached_25 ?_
    refine zw_ti (pk_mul _ _) ?_
    refine lv_iload hx hb dR_reached_26 (lv_at hl 4 rfl) ?_
    refine lv_iadd hx hb dR_reached_28 ?_
    refine zw_ti (nI_add _ _) ?_
    refine zw_iald hx hb hK hH 0 hR.has rfl (480 * j + i) rfl (by omega) (by decide) dR_reached_29 ?_
    refine zw_ti (by show nI ((st.lg ((480 * j + i) / 480)).getD ((480 * j + i) % 480) 0) = _; rw [hp1, hp2]) ?_
    refine lv_bipush (v := nI 8) hx hb dR_reached_30 (by decide) ?_
    refine lv_irem hx hb dR_reached_32 (nI_ne0 (by decide) (by decide)) ?_
    refine zw_ti (pk_rem hv1 (by decide) (by decide)) ?_
    refine lv_iload_n hx hb dR_reached_33 rfl (lv_at hl 2 rfl) ?_
    refine zc_ne (tgt := 41) hx hb dR_reached_34 (by decide) (by omega) (by omega) (fun b2 => ?_) (fun b2 => ?_)
    · refine lv_iconst (v := nI 0) hx hb dR_reached_41 (by decide) ?_
      refine lv_iadd hx hb dR_reached_42 ?_
      refine zw_ti (nI_add _ _) ?_
      refine lv_istore_n (lv' := [(3, .int (nI ((zcnt a ((st.lg j).take i)) + 0))), (0, .ref x), (1, .int (nI j)), (2, .int (nI a)), (4, .int (nI i))]) hx hb dR_reached_43 rfl hl (by decide) rfl (fun ls hl => ?_)
      refine lv_iinc (v := (nI (i + 1))) (lv' := [(4, .int (nI (i + 1))), (3, .int (nI ((zcnt a ((st.lg j).take i)) + 0))), (0, .ref x), (1, .int (nI j)), (2, .int (nI a))]) hx hb dR_reached_44 hl (k := 4) rfl (nI_add _ _) (by decide) rfl (fun ls hl => ?_)
      refine lv_goto (tgt := 5) hx hb dR_reached_47 (by decide) ?_
      exact ih b1 ls (lv_sub hl [2, 3, 4, 1, 0] (by rw [hs1, if_neg b2]; rfl))
    · refine lv_iconst (v := nI 1) hx hb dR_reached_37 (by decide) ?_
      refine lv_goto (tgt := 42) hx hb dR_reached_38 (by decide) ?_
      refine lv_iadd hx hb dR_reached_42 ?_
      refine zw_ti (nI_add _ _) ?_
      refine lv_istore_n (lv' := [(3, .int (nI ((zcnt a ((st.lg j).take i)) + 1))), (0, .ref x), (1, .int (nI j)), (2, .int (nI a)), (4, .int (nI i))]) hx hb dR_reached_43 rfl hl (by decide) rfl (fun ls hl => ?_)
      refine lv_iinc (v := (nI (i + 1))) (lv' := [(4, .int (nI (i + 1))), (3, .int (nI ((zcnt a ((st.lg j).take i)) + 1))), (0, .ref x), (1, .int (nI j)), (2, .int (nI a))]) hx hb dR_reached_44 hl (k := 4) rfl (nI_add _ _) (by decide) rfl (fun ls hl => ?_)
      refine lv_goto (tgt := 5) hx hb dR_reached_47 (by decide) ?_
      exact ih b1 ls (lv_sub hl [2, 3, 4, 1, 0] (by rw [hs1, if_pos b2]; rfl))

theorem zshl8 (p c : Nat) (hp : p < 2 ^ 56) (hc : c < 256) : (lN p <<< ((nI 8).toInt64 &&& 63)) ||| (nI c).toInt64 = lN (256 * p + c) := by
  apply uN_inj
  have h0 : (((nI 8).toInt64 &&& 63).toBitVec.smod 64).toNat = 8 := by decide
  have e1 : uN (lN p <<< ((nI 8).toInt64 &&& 63)) = 256 * p := by
    show ((lN p).toBitVec <<< (((nI 8).toInt64 &&& 63).toBitVec.smod 64).toNat).toNat = _
    rw [h0, BitVec.toNat_shiftLeft, Nat.shiftLeft_eq]
    have : (lN p).toBitVec.toNat = p := uN_lN (by omega)
    rw [this]
    omega
  have e2 : uN ((nI c).toInt64) = c := by rw [nI_l (by omega)]; exact uN_lN (by omega)
  rw [uN_lN (by omega)]
  show ((lN p <<< ((nI 8).toInt64 &&& 63)).toUInt64 ||| ((nI c).toInt64).toUInt64).toNat = _
  rw [UInt64.toNat_or]
  have e1' : (lN p <<< ((nI 8).toInt64 &&& 63)).toUInt64.toNat = 256 * p := e1
  have e2' : ((nI c).toInt64).toUInt64.toNat = c := e2
  rw [e1', e2', show 256 * p = p <<< 8 by rw [Nat.shiftLeft_eq]; omega]
  exact (Nat.shiftLeft_add_eq_or_of_lt (by omega) p).symm
set_option maxHeartbeats 4000000 in
set_option maxRecDepth 100000 in
theorem kR_clockOf (l : Launch) (G : zG) (B : Nat) (M : zw_M) (x z n mb : Nat) (st : zSt) (th pt : Nat) (Y : zRX) (hn : n ≤ 8) (hR : zRR G M x z n mb st th pt Y) (hok : zOK n st) (j : Nat) (hj : j < n) : Met l yR_clockOf (Cond.code yR_clockOf bR_clockOf 5 (some .long) :: zT) { frames := 1, cells := 0, slots := 0, locals := 24 } (zp G B M [.ref x, .int (nI j)]) (k2_QcV (.long (zck (st.lg j)))) 0 0 (fun _ => False) := by
  refine Met.ofW (cc := bR_clockOf) (maxL := 5) (ret := (some .long)) (by decide) rfl ?_
  intro p e s m args below meth c s₁ B0 hml hv
  obtain ⟨rfl, hE, hH⟩ := hv
  have hx := B0.exec
  have hb := B0.bytes
  have hr := B0.returns
  have hlocks := B0.notSynchronized
  have hz : ∀ w ∈ zT, w.before _ s = true := fun w h => atoms_spec (ws := Cond.code yR_clockOf bR_clockOf 5 (some .long) :: zT) B0.pre w (List.mem_cons_of_mem _ h)
  have hown : s.vm.findClass RR = some m.cls := findClass_of_methodNamed B0.named
  have hK := hE.1
  have hl := lv_entry ([.ref x, .int (nI j)]) (n := 5) (Nat.le_of_ble_eq_true rfl)
  rw [lg_entry_eq]
  generalize (lg_sl ([.ref x, .int (nI j)]) ++ List.replicate (5 - (lg_sl ([.ref x, .int (nI j)])).length) Slot.unset).toArray = ls at hl ⊢
  have hl : lv_has ls 5 [(0, .ref x), (1, .int (nI j))] := hl
  have hS : va_S (zw_A B) s.heap s.heap [] := va_S.rf
  have h8 := hok.b8 hj
  have c0 := h8 0 (by decide)
  have c1 := h8 1 (by decide)
  have c2 := h8 2 (by decide)
  have c3 := h8 3 (by decide)
  have c4 := h8 4 (by decide)
  have c5 := h8 5 (by decide)
  have c6 := h8 6 (by decide)
  have c7 := h8 7 (by decide)
  refine lv_lconst (v := 0) hx hb dR_clockOf_0 (by decide) ?_
  refine lv_lstore_n (lv' := [(2, .long 0), (0, .ref x), (1, .int (nI j))]) hx hb dR_clockOf_1 rfl hl (by decide) rfl (fun ls hl => ?_)
  refine lv_bipush (v := nI 7) hx hb dR_clockOf_2 (by decide) ?_
  refine lv_istore (lv' := [(4, .int (nI 7)), (2, .long 0), (0, .ref x), (1, .int (nI j))]) hx hb dR_clockOf_4 hl (by decide) rfl (fun ls hl => ?_)
  have hl : lv_has ls 5 [(4, .int (nI 7)), (2, .long (lN 0)), (0, .ref x), (1, .int (nI j))] := hl
  refine lv_iload hx hb dR_clockOf_6 (lv_at hl 0 rfl) ?_
  refine zc_lt0 hx hb dR_clockOf_8 (tgt := 31) (by decide) (by decide) ?_
  refine lv_lload_n hx hb dR_clockOf_11 rfl (lv_at hl 1 rfl) ?_
  refine lv_bipush (v := nI 8) hx hb dR_clockOf_12 (by decide) ?_
  refine lv_lshl hx hb dR_clockOf_14 rfl ?_
  refine lv_aload_n hx hb dR_clockOf_15 rfl (lv_at hl 2 rfl) ?_
  refine lv_iload_n hx hb dR_clockOf_16 rfl (lv_at hl 3 rfl) ?_
  refine lv_iload hx hb dR_clockOf_17 (lv_at hl 0 rfl) ?_
  refine zr_V (As := [.int (nI j), .int (nI 7)]) (rest := [.long (lN 0 <<< ((nI 8).toInt64 &&& 63))]) (q := (RR, TR, 22)) ⟨hx, hb, hml, hown, hz⟩ (kR_reached l G B M x z n mb st th pt Y hn hR hok j 7 hj (by decide)) (zt_V zm_479 zm_481 zs_18 zm_3 zm_482) rfl rfl rfl (show _ ∧ _ ∧ _ ∧ _ = some 2 from by decide +kernel) ⟨Nat.le_of_ble_eq_true rfl, Nat.le_of_ble_eq_true rfl⟩ zE_blind (zE_at hE hS) hH hK hR.obj rfl rfl hl.1 rfl (Nat.le_of_ble_eq_true rfl) dR_clockOf_19 ⟨Nat.zero_le _, Nat.zero_le _⟩ ?_
  refine lv_i2l hx hb dR_clockOf_22 rfl ?_
  refine lv_lor hx hb dR_clockOf_23 ?_
  refine zw_tl (zshl8 _ _ (by omega) (by omega)) ?_
  refine lv_lstore_n (lv' := [(2, .long (lN (256 * 0 + zcnt 7 (st.lg j)))), (4, .int (nI 7)), (0, .ref x), (1, .int (nI j))]) hx hb dR_clockOf_24 rfl hl (by decide) rfl (fun ls hl => ?_)
  refine lv_iinc (v := (nI 6)) (lv' := [(4, .int (nI 6)), (2, .long (lN (256 * 0 + zcnt 7 (st.lg j)))), (0, .ref x), (1, .int (nI j))]) hx hb dR_clockOf_25 hl (k := 1) rfl (by decide) (by decide) rfl (fun ls hl => ?_)
  refine lv_goto (tgt := 6) hx hb dR_clockOf_28 (by decide) ?_
  refine lv_iload hx hb dR_clockOf_6 (lv_at hl 0 rfl) ?_
  refine zc_lt0 hx hb dR_clockOf_8 (tgt := 31) (by decide) (by decide) ?_
  refine lv_lload_n hx hb dR_clockOf_11 rfl (lv_at hl 1 rfl) ?_
  refine lv_bipush (v := nI 8) hx hb dR_clockOf_12 (by decide) ?_
  refine lv_lshl hx hb dR_clockOf_14 rfl ?_
  refine lv_aload_n hx hb dR_clockOf_15 rfl (lv_at hl 2 rfl) ?_
  refine lv_iload_n hx hb dR_clockOf_16 rfl (lv_at hl 3 rfl) ?_
  refine lv_iload hx hb dR_clockOf_17 (lv_at hl 0 rfl) ?_
  refine zr_V (As := [.int (nI j), .int (nI 6)]) (rest := [.long (lN (256 * 0 + zcnt 7 (st.lg j)) <<< ((nI 8).toInt64 &&& 63))]) (q := (RR, TR, 22)) ⟨hx, hb, hml, hown, hz⟩ (kR_reached l G B M x z n mb st th pt Y hn hR hok j 6 hj (by decide)) (zt_V zm_479 zm_481 zs_18 zm_3 zm_482) rfl rfl rfl (show _ ∧ _ ∧ _ ∧ _ = some 2 from by decide +kernel) ⟨Nat.le_of_ble_eq_true rfl, Nat.le_of_ble_eq_true rfl⟩ zE_blind (zE_at hE hS) hH hK hR.obj rfl rfl hl.1 rfl (Nat.le_of_ble_eq_true rfl) dR_clockOf_19 ⟨Nat.zero_le _, Nat.zero_le _⟩ ?_
  refine lv_i2l hx hb dR_clockOf_22 rfl ?_
  refine lv_lor hx hb dR_clockOf_23 ?_
  refine zw_tl (zshl8 _ _ (by omega) (by omega)) ?_
  refine lv_lstore_n (lv' := [(2, .long (lN (256 * (256 * 0 + zcnt 7 (st.lg j)) + zcnt 6 (st.lg j)))), (4, .int (nI 6)), (0, .ref x), (1, .int (nI j))]) hx hb dR_clockOf_24 rfl hl (by decide) rfl (fun ls hl => ?_)
  refine lv_iinc (v := (nI 5)) (lv' := [(4, .int (nI 5)), (2, .long (lN (256 * (256 * 0 + zcnt 7 (st.lg j)) + zcnt 6 (st.lg j)))), (0, .ref x), (1, .int (nI j))]) hx hb dR_clockOf_25 hl (k := 1) rfl (by decide) (by decide) rfl (fun ls hl => ?_)
  refine lv_goto (tgt := 6) hx hb dR_clockOf_28 (by decide) ?_
  refine lv_iload hx hb dR_clockOf_6 (lv_at hl 0 rfl) ?_
  refine zc_lt0 hx hb dR_clockOf_8 (tgt := 31) (by decide) (by decide) ?_
  refine lv_lload_n hx hb dR_clockOf_11 rfl (lv_at hl 1 rfl) ?_
  refine lv_bipush (v := nI 8) hx hb dR_clockOf_12 (by decide) ?_
  refine lv_lshl hx hb dR_clockOf_14 rfl ?_
  refine lv_aload_n hx hb dR_clockOf_15 rfl (lv_at hl 2 rfl) ?_
  refine lv_iload_n hx hb dR_clockOf_16 rfl (lv_at hl 3 rfl) ?_
  refine lv_iload hx hb dR_clockOf_17 (lv_at hl 0 rfl) ?_
  refine zr_V (As := [.int (nI j), .int (nI 5)]) (rest := [.long (lN (256 * (256 * 0 + zcnt 7 (st.lg j)) + zcnt 6 (st.lg j)) <<< ((nI 8).toInt64 &&& 63))]) (q := (RR, TR, 22)) ⟨hx, hb, hml, hown, hz⟩ (kR_reached l G B M x z n mb st th pt Y hn hR hok j 5 hj (by decide)) (zt_V zm_479 zm_481 zs_18 zm_3 zm_482) rfl rfl rfl (show _ ∧ _ ∧ _ ∧ _ = some 2 from by decide +kernel) ⟨Nat.le_of_ble_eq_true rfl, Nat.le_of_ble_eq_true rfl⟩ zE_blind (zE_at hE hS) hH hK hR.obj rfl rfl hl.1 rfl (Nat.le_of_ble_eq_true rfl) dR_clockOf_19 ⟨Nat.zero_le _, Nat.zero_le _⟩ ?_
  refine lv_i2l hx hb dR_clockOf_22 rfl ?_
  refine lv_lor hx hb dR_clockOf_23 ?_
  refine zw_tl (zshl8 _ _ (by omega) (by omega)) ?_
  refine lv_lstore_n (lv' := [(2, .long (lN (256 * (256 * (256 * 0 + zcnt 7 (st.lg j)) + zcnt 6 (st.lg j)) + zcnt 5 (st.lg j)))), (4, .int (nI 5)), (0, .ref x), (1, .int (nI j))]) hx hb dR_clockOf_24 rfl hl (by decide) rfl (fun ls hl => ?_)
  refine lv_iinc (v := (nI 4)) (lv' := [(4, .int (nI 4)), (2, .long (lN (256 * (256 * (256 * 0 + zcnt 7 (st.lg j)) + zcnt 6 (st.lg j)) + zcnt 5 (st.lg j)))), (0, .ref x), (1, .int (nI j))]) hx hb dR_clockOf_25 hl (k := 1) rfl (by decide) (by decide) rfl (fun ls hl => ?_)
  refine lv_goto (tgt := 6) hx hb dR_clockOf_28 (by decide) ?_
  refine lv_iload hx hb dR_clockOf_6 (lv_at hl 0 rfl) ?_
  refine zc_lt0 hx hb dR_clockOf_8 (tgt := 31) (by decide) (by decide) ?_
  refine lv_lload_n hx hb dR_clockOf_11 rfl (lv_at hl 1 rfl) ?_
  refine lv_bipush (v := nI 8) hx hb dR_clockOf_12 (by decide) ?_
  refine lv_lshl hx hb dR_clockOf_14 rfl ?_
  refine lv_aload_n hx hb dR_clockOf_15 rfl (lv_at hl 2 rfl) ?_
  refine lv_iload_n hx hb dR_clockOf_16 rfl (lv_at hl 3 rfl) ?_
  refine lv_iload hx hb dR_clockOf_17 (lv_at hl 0 rfl) ?_
  refine zr_V (As := [.int (nI j), .int (nI 4)]) (rest := [.long (lN (256 * (256 * (256 * 0 + zcnt 7 (st.lg j)) + zcnt 6 (st.lg j)) + zcnt 5 (st.lg j)) <<< ((nI 8).toInt64 &&& 63))]) (q := (RR, TR, 22)) ⟨hx, hb, hml, hown, hz⟩ (kR_reached l G B M x z n mb st th pt Y hn hR hok j 4 hj (by decide)) (zt_V zm_479 zm_481 zs_18 zm_3 zm_482) rfl rfl rfl (show _ ∧ _ ∧ _ ∧ _ = some 2 from by decide +kernel) ⟨Nat.le_of_ble_eq_true rfl, Nat.le_of_ble_eq_true rfl⟩ zE_blind (zE_at hE hS) hH hK hR.obj rfl rfl hl.1 rfl (Nat.le_of_ble_eq_true rfl) dR_clockOf_19 ⟨Nat.zero_le _, Nat.zero_le _⟩ ?_
  refine lv_i2l hx hb dR_clockOf_22 rfl ?_
  refine lv_lor hx hb dR_clockOf_23 ?_
  refine zw_tl (zshl8 _ _ (by omega) (by omega)) ?_
  refine lv_lstore_n (lv' := [(2, .long (lN (256 * (256 * (256 * (256 * 0 + zcnt 7 (st.lg j)) + zcnt 6 (st.lg j)) + zcnt 5 (st.lg j)) + zcnt 4 (st.lg j)))), (4, .int (nI 4)), (0, .ref x), (1, .int (nI j))]) hx hb dR_clockOf_24 rfl hl (by decide) rfl (fun ls hl => ?_)
  refine lv_iinc (v := (nI 3)) (lv' := [(4, .int (nI 3)), (2, .long (lN (256 * (256 * (256 * (256 * 0 + zcnt 7 (st.lg j)) + zcnt 6 (st.lg j)) + zcnt 5 (st.lg j)) + zcnt 4 (st.lg j)))), (0, .ref x), (1, .int (nI j))]) hx hb dR_clockOf_25 hl (k := 1) rfl (by decide) (by decide) rfl (fun ls hl => ?_)
  refine lv_goto (tgt := 6) hx hb dR_clockOf_28 (by decide) ?_
  refine lv_iload hx hb dR_clockOf_6 (lv_at hl 0 rfl) ?_
  refine zc_lt0 hx hb dR_clockOf_8 (tgt := 31) (by decide) (by decide) ?_
  refine lv_lload_n hx hb dR_clockOf_11 rfl (lv_at hl 1 rfl) ?_
  refine lv_bipush (v := nI 8) hx hb dR_clockOf_12 (by decide) ?_
  refine lv_lshl hx hb dR_clockOf_14 rfl ?_
  refine lv_aload_n hx hb dR_clockOf_15 rfl (lv_at hl 2 rfl) ?_
  refine lv_iload_n hx hb dR_clockOf_16 rfl (lv_at hl 3 rfl) ?_
  refine lv_iload hx hb dR_clockOf_17 (lv_at hl 0 rfl) ?_
  refine zr_V (As := [.int (nI j), .int (nI 3)]) (rest := [.long (lN (256 * (256 * (256 * (256 * 0 + zcnt 7 (st.lg j)) + zcnt 6 (st.lg j)) + zcnt 5 (st.lg j)) + zcnt 4 (st.lg j)) <<< ((nI 8).toInt64 &&& 63))]) (q := (RR, TR, 22)) ⟨hx, hb, hml, hown, hz⟩ (kR_reached l G B M x z n mb st th pt Y hn hR hok j 3 hj (by decide)) (zt_V zm_479 zm_481 zs_18 zm_3 zm_482) rfl rfl rfl (show _ ∧ _ ∧ _ ∧ _ = some 2 from by decide +kernel) ⟨Nat.le_of_ble_eq_true rfl, Nat.le_of_ble_eq_true rfl⟩ zE_blind (zE_at hE hS) hH hK hR.obj rfl rfl hl.1 rfl (Nat.le_of_ble_eq_true rfl) dR_clockOf_19 ⟨Nat.zero_le _, Nat.zero_le _⟩ ?_
  refine lv_i2l hx hb dR_clockOf_22 rfl ?_
  refine lv_lor hx hb dR_clockOf_23 ?_
  refine zw_tl (zshl8 _ _ (by omega) (by omega)) ?_
  refine lv_lstore_n (lv' := [(2, .long (lN (256 * (256 * (256 * (256 * (256 * 0 + zcnt 7 (st.lg j)) + zcnt 6 (st.lg j)) + zcnt 5 (st.lg j)) + zcnt 4 (st.lg j)) + zcnt 3 (st.lg j)))), (4, .int (nI 3)), (0, .ref x), (1, .int (nI j))]) hx hb dR_clockOf_24 rfl hl (by decide) rfl (fun ls hl => ?_)
  refine lv_iinc (v := (nI 2)) (lv' := [(4, .int (nI 2)), (2, .long (lN (256 * (256 * (256 * (256 * (256 * 0 + zcnt 7 (st.lg j)) + zcnt 6 (st.lg j)) + zcnt 5 (st.lg j)) + zcnt 4 (st.lg j)) + zcnt 3 (st.lg j)))), (0, .ref x), (1, .int (nI j))]) hx hb dR_clockOf_25 hl (k := 1) rfl (by decide) (by decide) rfl (fun ls hl => ?_)
  refine lv_goto (tgt := 6) hx hb dR_clockOf_28 (by decide) ?_
  refine lv_iload hx hb dR_clockOf_6 (lv_at hl 0 rfl) ?_
  refine zc_lt0 hx hb dR_clockOf_8 (tgt := 31) (by decide) (by decide) ?_
  refine lv_lload_n hx hb dR_clockOf_11 rfl (lv_at hl 1 rfl) ?_
  refine lv_bipush (v := nI 8) hx hb dR_clockOf_12 (by decide) ?_
  refine lv_lshl hx hb dR_clockOf_14 rfl ?_
  refine lv_aload_n hx hb dR_clockOf_15 rfl (lv_at hl 2 rfl) ?_
  refine lv_iload_n hx hb dR_clockOf_16 rfl (lv_at hl 3 rfl) ?_
  refine lv_iload hx hb dR_clockOf_17 (lv_at hl 0 rfl) ?_
  refine zr_V (As := [.int (nI j), .int (nI 2)]) (rest := [.long (lN (256 * (256 * (256 * (256 * (256 * 0 + zcnt 7 (st.lg j)) + zcnt 6 (st.lg j)) + zcnt 5 (st.lg j)) + zcnt 4 (st.lg j)) + zcnt 3 (st.lg j)) <<< ((nI 8).toInt64 &&& 63))]) (q := (RR, TR, 22)) ⟨hx, hb, hml, hown, hz⟩ (kR_reached l G B M x z n mb st th pt Y hn hR hok j 2 hj (by decide)) (zt_V zm_479 zm_481 zs_18 zm_3 zm_482) rfl rfl rfl (show _ ∧ _ ∧ _ ∧ _ = some 2 from by decide +kernel) ⟨Nat.le_of_ble_eq_true rfl, Nat.le_of_ble_eq_true rfl⟩ zE_blind (zE_at hE hS) hH hK hR.obj rfl rfl hl.1 rfl (Nat.le_of_ble_eq_true rfl) dR_clockOf_19 ⟨Nat.zero_le _, Nat.zero_le _⟩ ?_
  refine lv_i2l hx hb dR_clockOf_22 rfl ?_
  refine lv_lor hx hb dR_clockOf_23 ?_
  refine zw_tl (zshl8 _ _ (by omega) (by omega)) ?_
  refine lv_lstore_n (lv' := [(2, .long (lN (256 * (256 * (256 * (256 * (256 * (256 * 0 + zcnt 7 (st.lg j)) + zcnt 6 (st.lg j)) + zcnt 5 (st.lg j)) + zcnt 4 (st.lg j)) + zcnt 3 (st.lg j)) + zcnt 2 (st.lg j)))), (4, .int (nI 2)), (0, .ref x), (1, .int (nI j))]) hx hb dR_clockOf_24 rfl hl (by decide) rfl (fun ls hl => ?_)
  refine lv_iinc (v := (nI 1)) (lv' := [(4, .int (nI 1)), (2, .long (lN (256 * (256 * (256 * (256 * (256 * (256 * 0 + zcnt 7 (st.lg j)) + zcnt 6 (st.lg j)) + zcnt 5 (st.lg j)) + zcnt 4 (st.lg j)) + zcnt 3 (st.lg j)) + zcnt 2 (st.lg j)))), (0, .ref x), (1, .int (nI j))]) hx hb dR_clockOf_25 hl (k := 1) rfl (by decide) (by decide) rfl (fun ls hl => ?_)
  refine lv_goto (tgt := 6) hx hb dR_clockOf_28 (by decide) ?_
  refine lv_iload hx hb dR_clockOf_6 (lv_at hl 0 rfl) ?_
  refine zc_lt0 hx hb dR_clockOf_8 (tgt := 31) (by decide) (by decide) ?_
  refine lv_lload_n hx hb dR_clockOf_11 rfl (lv_at hl 1 rfl) ?_
  refine lv_bipush (v := nI 8) hx hb dR_clockOf_12 (by decide) ?_
  refine lv_lshl hx hb dR_clockOf_14 rfl ?_
  refine lv_aload_n hx hb dR_clockOf_15 rfl (lv_at hl 2 rfl) ?_
  refine lv_iload_n hx hb dR_clockOf_16 rfl (lv_at hl 3 rfl) ?_
  refine lv_iload hx hb dR_clockOf_17 (lv_at hl 0 rfl) ?_
  refine zr_V (As := [.int (nI j), .int (nI 1)]) (rest := [.long (lN (256 * (256 * (256 * (256 * (256 * (256 * 0 + zcnt 7 (st.lg j)) + zcnt 6 (st.lg j)) + zcnt 5 (st.lg j)) + zcnt 4 (st.lg j)) + zcnt 3 (st.lg j)) + zcnt 2 (st.lg j)) <<< ((nI 8).toInt64 &&& 63))]) (q := (RR, TR, 22)) ⟨hx, hb, hml, hown, hz⟩ (kR_reached l G B M x z n mb st th pt Y hn hR hok j 1 hj (by decide)) (zt_V zm_479 zm_481 zs_18 zm_3 zm_482) rfl rfl rfl (show _ ∧ _ ∧ _ ∧ _ = some 2 from by decide +kernel) ⟨Nat.le_of_ble_eq_true rfl, Nat.le_of_ble_eq_true rfl⟩ zE_blind (zE_at hE hS) hH hK hR.obj rfl rfl hl.1 rfl (Nat.le_of_ble_eq_true rfl) dR_clockOf_19 ⟨Nat.zero_le _, Nat.zero_le _⟩ ?_
  refine lv_i2l hx hb dR_clockOf_22 rfl ?_
  refine lv_lor hx hb dR_clockOf_23 ?_
  refine zw_tl (zshl8 _ _ (by omega) (by omega)) ?_
  refine lv_lstore_n (lv' := [(2, .long (lN (256 * (256 * (256 * (256 * (256 * (256 * (256 * 0 + zcnt 7 (st.lg j)) + zcnt 6 (st.lg j)) + zcnt 5 (st.lg j)) + zcnt 4 (st.lg j)) + zcnt 3 (st.lg j)) + zcnt 2 (st.lg j)) + zcnt 1 (st.lg j)))), (4, .int (nI 1)), (0, .ref x), (1, .int (nI j))]) hx hb dR_clockOf_24 rfl hl (by decide) rfl (fun ls hl => ?_)
  refine lv_iinc (v := (nI 0)) (lv' := [(4, .int (nI 0)), (2, .long (lN (256 * (256 * (256 * (256 * (256 * (256 * (256 * 0 + zcnt 7 (st.lg j)) + zcnt 6 (st.lg j)) + zcnt 5 (st.lg j)) + zcnt 4 (st.lg j)) + zcnt 3 (st.lg j)) + zcnt 2 (st.lg j)) + zcnt 1 (st.lg j)))), (0, .ref x), (1, .int (nI j))]) hx hb dR_clockOf_25 hl (k := 1) rfl (by decide) (by decide) rfl (fun ls hl => ?_)
  refine lv_goto (tgt := 6) hx hb dR_clockOf_28 (by decide) ?_
  refine lv_iload hx hb dR_clockOf_6 (lv_at hl 0 rfl) ?_
  refine zc_lt0 hx hb dR_clockOf_8 (tgt := 31) (by decide) (by decide) ?_
  refine lv_lload_n hx hb dR_clockOf_11 rfl (lv_at hl 1 rfl) ?_
  refine lv_bipush (v := nI 8) hx hb dR_clockOf_12 (by decide) ?_
  refine lv_lshl hx hb dR_clockOf_14 rfl ?_
  refine lv_aload_n hx hb dR_clockOf_15 rfl (lv_at hl 2 rfl) ?_
  refine lv_iload_n hx hb dR_clockOf_16 rfl (lv_at hl 3 rfl) ?_
  refine lv_iload hx hb dR_clockOf_17 (lv_at hl 0 rfl) ?_
  refine zr_V (As := [.int (nI j), .int (nI 0)]) (rest := [.long (lN (256 * (256 * (256 * (256 * (256 * (256 * (256 * 0 + zcnt 7 (st.lg j)) + zcnt 6 (st.lg j)) + zcnt 5 (st.lg j)) + zcnt 4 (st.lg j)) + zcnt 3 (st.lg j)) + zcnt 2 (st.lg j)) + zcnt 1 (st.lg j)) <<< ((nI 8).toInt64 &&& 63))]) (q := (RR, TR, 22)) ⟨hx, hb, hml, hown, hz⟩ (kR_reached l G B M x z n mb st th pt Y hn hR hok j 0 hj (by decide)) (zt_V zm_479 zm_481 zs_18 zm_3 zm_482) rfl rfl rfl (show _ ∧ _ ∧ _ ∧ _ = some 2 from by decide +kernel) ⟨Nat.le_of_ble_eq_true rfl, Nat.le_of_ble_eq_true rfl⟩ zE_blind (zE_at hE hS) hH hK hR.obj rfl rfl hl.1 rfl (Nat.le_of_ble_eq_true rfl) dR_clockOf_19 ⟨Nat.zero_le _, Nat.zero_le _⟩ ?_
  refine lv_i2l hx hb dR_clockOf_22 rfl ?_
  refine lv_lor hx hb dR_clockOf_23 ?_
  refine zw_tl (zshl8 _ _ (by omega) (by omega)) ?_
  refine lv_lstore_n (lv' := [(2, .long (lN (256 * (256 * (256 * (256 * (256 * (256 * (256 * (256 * 0 + zcnt 7 (st.lg j)) + zcnt 6 (st.lg j)) + zcnt 5 (st.lg j)) + zcnt 4 (st.lg j)) + zcnt 3 (st.lg j)) + zcnt 2 (st.lg j)) + zcnt 1 (st.lg j)) + zcnt 0 (st.lg j)))), (4, .int (nI 0)), (0, .ref x), (1, .int (nI j))]) hx hb dR_clockOf_24 rfl hl (by decide) rfl (fun ls hl => ?_)
  refine lv_iinc (v := (-1)) (lv' := [(4, .int (-1)), (2, .long (lN (256 * (256 * (256 * (256 * (256 * (256 * (256 * (256 * 0 + zcnt 7 (st.lg j)) + zcnt 6 (st.lg j)) + zcnt 5 (st.lg j)) + zcnt 4 (st.lg j)) + zcnt 3 (st.lg j)) + zcnt 2 (st.lg j)) + zcnt 1 (st.lg j)) + zcnt 0 (st.lg j)))), (0, .ref x), (1, .int (nI j))]) hx hb dR_clockOf_25 hl (k := 1) rfl (by decide) (by decide) rfl (fun ls hl => ?_)
  refine lv_goto (tgt := 6) hx hb dR_clockOf_28 (by decide) ?_
  refine lv_iload hx hb dR_clockOf_6 (lv_at hl 0 rfl) ?_
  refine lv_if_lt (tgt := 31) hx hb dR_clockOf_8 (by decide) (fun _ => ?_) (fun h => absurd (by decide) h)
  refine lv_lload_n hx hb dR_clockOf_31 rfl (lv_at hl 1 rfl) ?_
  refine zw_tl (show _ = zck (st.lg j) from congrArg lN (by unfold zp8; dsimp only; omega)) ?_
  exact W.lret (v := (zck (st.lg j))) hx hb hr (fun t ht hW => ⟨rfl, ht⟩) (fun q h => by cases h) dR_clockOf_32

set_option maxHeartbeats 4000000 in
set_option maxRecDepth 100000 in
theorem kR_weightOf (l : Launch) (G : zG) (B : Nat) (M : zw_M) (x z n mb : Nat) (st : zSt) (th pt : Nat) (Y : zRX) (hn : n ≤ 8) (hR : zRR G M x z n mb st th pt Y) (hok : zOK n st) (k0 : Nat) (hv : zval n st.wt k0) : Met l yR_weightOf (Cond.code yR_weightOf bR_weightOf 2 (some .int) :: zT) { frames := 0, cells := 0, slots := 0, locals := 0 } (zp G B M [.ref x, .int (nI k0)]) (k2_QcV (.int (nI (zwo st.wt k0)))) 0 0 (fun _ => False) := by
  refine Met.ofW (cc := bR_weightOf) (maxL := 2) (ret := (some .int)) (by decide) rfl ?_
  intro p e s m args below meth c s₁ B0 hml hv
  obtain ⟨rfl, hE, hH⟩ := hv
  have hx := B0.exec
  have hb := B0.bytes
  have hr := B0.returns
  have hlocks := B0.notSynchronized
  have hz : ∀ w ∈ zT, w.before _ s = true := fun w h => atoms_spec (ws := Cond.code yR_weightOf bR_weightOf 2 (some .int) :: zT) B0.pre w (List.mem_cons_of_mem _ h)
  have hown : s.vm.findClass RR = some m.cls := findClass_of_methodNamed B0.named
  have hK := hE.1
  have hl := lv_entry ([.ref x, .int (nI k0)]) (n := 2) (Nat.le_of_ble_eq_true rfl)
  rw [lg_entry_eq]
  generalize (lg_sl ([.ref x, .int (nI k0)]) ++ List.replicate (2 - (lg_sl ([.ref x, .int (nI k0)])).length) Slot.unset).toArray = ls at hl ⊢
  have hl : lv_has ls 2 [(0, .ref x), (1, .int (nI k0))] := hl
  have hS : va_S (zw_A B) s.heap s.heap [] := va_S.rf
  have hk31 := zval.lt hn hok hv
  have h60 := (hok.2.2.1 _ hv.1).2
  have hv1 := hv.2.1
  have hv2 := hv.2.2
  have hv0 := hv.1
  obtain ⟨hp1, hp2⟩ := zpl (k0 % 8) (k0 / 8 - 1) 61 (by omega)
  refine lv_aload_n hx hb dR_weightOf_0 rfl (lv_at hl 0 rfl) ?_
  refine va_get (D := G.1) (ci := 2) (v := .ref (z + 2)) (C := RR) (T := TR) (N := 22) hx hb hz iR hown hK (hH.one hR.obj) 0 rfl rfl 5 (by decide) (hz _ zm_393) (fun _ h9 => h9) rfl dR_weightOf_1 ?_
  refine lv_bipush (v := nI 61) hx hb dR_weightOf_4 (by decide) ?_
  refine lv_iload_n hx hb dR_weightOf_6 rfl (lv_at hl 1 rfl) ?_
  refine lv_bipush (v := nI 8) hx hb dR_weightOf_7 (by decide) ?_
  refine lv_irem hx hb dR_weightOf_9 (nI_ne0 (by decide) (by decide)) ?_
  refine zw_ti (pk_rem hk31 (by decide) (by decide)) ?_
  refine lv_imul hx hb dR_weightOf_10 ?_
  refine zw_ti (pk_mul _ _) ?_
  refine lv_iload_n hx hb dR_weightOf_11 rfl (lv_at hl 1 rfl) ?_
  refine lv_bipush (v := nI 8) hx hb dR_weightOf_12 (by decide) ?_
  refine lv_idiv hx hb dR_weightOf_14 (nI_ne0 (by decide) (by decide)) ?_
  refine zw_ti (pk_div hk31 (by decide) (by decide)) ?_
  refine lv_iadd hx hb dR_weightOf_15 ?_
  refine zw_ti (nI_add _ _) ?_
  refine lv_iconst (v := nI 1) hx hb dR_weightOf_16 (by decide) ?_
  refine lv_isub hx hb dR_weightOf_17 ?_
  refine zw_ti (pk_sub (by omega)) ?_
  refine zw_ti (by rw [show 61 * (k0 % 8) + k0 / 8 - 1 = 61 * (k0 % 8) + (k0 / 8 - 1) by omega]) ?_
  refine zw_iald hx hb hK hH 0 hR.wt rfl (61 * (k0 % 8) + (k0 / 8 - 1)) rfl (by omega) (by decide) dR_weightOf_18 ?_
  refine zw_ti (by show nI ((st.wt ((61 * (k0 % 8) + (k0 / 8 - 1)) / 61)).getD ((61 * (k0 % 8) + (k0 / 8 - 1)) % 61) 0) = nI (zwo st.wt k0); rw [hp1, hp2]; rfl) ?_
  exact W.iret (v := (nI (zwo st.wt k0))) hx hb hr (fun t ht hW => ⟨rfl, ht⟩) (fun q h => by cases h) dR_weightOf_19

set_option maxHeartbeats 4000000 in
set_option maxRecDepth 100000 in
theorem kR_total (l : Launch) (G : zG) (B : Nat) (M : zw_M) (x z n mb : Nat) (st : zSt) (th pt : Nat) (Y : zRX) (hn : n ≤ 8) (hR : zRR G M x z n mb st th pt Y) : Met l yR_total (Cond.code yR_total bR_total 3 (some .int) :: zT) { frames := 0, cells := 0, slots := 0, locals := 0 } (zp G B M [.ref x]) (k2_QcV (.int (nI (zsum (fun a => (st.wt a).length) n)))) 0 0 (fun _ => False) := by
  refine Met.ofW (cc := bR_total) (maxL := 3) (ret := (some .int)) (by decide) rfl ?_
  intro p e s m args below meth c s₁ B0 hml hv
  obtain ⟨rfl, hE, hH⟩ := hv
  have hx := B0.exec
  have hb := B0.bytes
  have hr := B0.returns
  have hlocks := B0.notSynchronized
  have hz : ∀ w ∈ zT, w.before _ s = true := fun w h => atoms_spec (ws := Cond.code yR_total bR_total 3 (some .int) :: zT) B0.pre w (List.mem_cons_of_mem _ h)
  have hown : s.vm.findClass RR = some m.cls := findClass_of_methodNamed B0.named
  have hK := hE.1
  have hl := lv_entry ([.ref x]) (n := 3) (Nat.le_of_ble_eq_true rfl)
  rw [lg_entry_eq]
  generalize (lg_sl ([.ref x]) ++ List.replicate (3 - (lg_sl ([.ref x])).length) Slot.unset).toArray = ls at hl ⊢
  have hl : lv_has ls 3 [(0, .ref x)] := hl
  have hS : va_S (zw_A B) s.heap s.heap [] := va_S.rf
  refine lv_iconst (v := nI 0) hx hb dR_total_0 (by decide) ?_
  refine lv_istore_n (lv' := [(1, .int (nI 0)), (0, .ref x)]) hx hb dR_total_1 rfl hl (by decide) rfl (fun ls hl => ?_)
  refine lv_iconst (v := nI 0) hx hb dR_total_2 (by decide) ?_
  refine lv_istore_n (lv' := [(2, .int (nI 0)), (1, .int (nI 0)), (0, .ref x)]) hx hb dR_total_3 rfl hl (by decide) rfl (fun ls hl => ?_)
  refine zl_up (Wg := fun ls => W p l e _ s m _ below meth c s.heap [] 0 0 _ (F0 m 4 ls [])) (fun i ls => lv_has ls 3 [(0, .ref x), (1, .int (nI (zsum (fun a => (st.wt a).length) i))), (2, .int (nI i))]) n ?_ (i := 0) (by omega) (lv_sub hl [2, 1, 0] rfl)
  intro i hi ls hl ih
  have hl : lv_has ls 3 [(0, .ref x), (1, .int (nI (zsum (fun a => (st.wt a).length) i))), (2, .int (nI i))] := hl
  refine lv_iload_n hx hb dR_total_4 rfl (lv_at hl 2 rfl) ?_
  refine lv_aload_n hx hb dR_total_5 rfl (lv_at hl 0 rfl) ?_
  refine va_get (D := G.1) (ci := 2) (v := .int (nI n)) (C := RR) (T := TR) (N := 22) hx hb hz iR hown hK (hH.one hR.obj) 0 rfl rfl 1 (by decide) (hz _ zm_389) (fun _ h9 => h9) rfl dR_total_6 ?_
  refine zc_ge (tgt := 27) hx hb dR_total_9 (by decide) (by omega) (by omega) (fun c => ?_) (fun c => ?_)
  · have e1 : n = i := by omega
    rw [e1]
    refine lv_iload_n hx hb dR_total_27 rfl (lv_at hl 1 rfl) ?_
    exact W.iret (v := (nI (zsum (fun a => (st.wt a).length) i))) hx hb hr (fun t ht hW => ⟨rfl, ht⟩) (fun q h => by cases h) dR_total_28
  · refine lv_iload_n hx hb dR_total_12 rfl (lv_at hl 1 rfl) ?_
    refine lv_aload_n hx hb dR_total_13 rfl (lv_at hl 0 rfl) ?_
    refine va_get (D := G.1) (ci := 2) (v := .ref (z + 1)) (C := RR) (T := TR) (N := 22) hx hb hz iR hown hK (hH.one hR.obj) 0 rfl rfl 4 (by decide) (hz _ zm_392) (fun _ h9 => h9) rfl dR_total_14 ?_
    refine lv_iload_n hx hb dR_total_17 rfl (lv_at hl 2 rfl) ?_
    refine zw_iald hx hb hK hH 0 hR.md rfl (i) rfl (by omega) (by decide) dR_total_18 ?_
    refine lv_iadd hx hb dR_total_19 ?_
    refine zw_ti (nI_add _ _) ?_
    refine lv_istore_n (lv' := [(1, .int (nI ((zsum (fun a => (st.wt a).length) i) + ((st.wt i).length)))), (0, .ref x), (2, .int (nI i))]) hx hb dR_total_20 rfl hl (by decide) rfl (fun ls hl => ?_)
    refine lv_iinc (v := (nI (i + 1))) (lv' := [(2, .int (nI (i + 1))), (1, .int (nI ((zsum (fun a => (st.wt a).length) i) + ((st.wt i).length)))), (0, .ref x)]) hx hb dR_total_21 hl (k := 2) rfl (nI_add _ _) (by decide) rfl (fun ls hl => ?_)
    refine lv_goto (tgt := 4) hx hb dR_total_24 (by decide) ?_
    exact ih c ls (lv_sub hl [2, 1, 0] rfl)
end

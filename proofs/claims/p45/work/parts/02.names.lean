/-! names, code, decode rows (printed by program from the claim) -/
def RX0 : String := "InodeCouncil$Holds"
def TX0 : u_T := fun k => match k with
  | 0 => ("InodeCouncil$Holds", "opened", "I", false)
  | 1 => ("InodeCouncil$Holds", "files", "[I", true)
  | 2 => ("InodeCouncil$Holds", "ends", "[I", true)
  | _ => ("InodeCouncil$Holds", "open", "[Z", true)
def tyX0 : Nat → FieldType := fun k => match k with
  | 0 => .int
  | 1 => .array .int
  | 2 => .array .int
  | _ => .array .boolean
theorem nmX0 : ∀ a, a < 4 → ∀ b, b < 4 → a ≠ b → (TX0 a).2.1 ≠ (TX0 b).2.1 := by decide +kernel
theorem tyX0_ok : ∀ k, k < 4 → parseFieldDescriptor (TX0 k).2.2.1 = some (tyX0 k) := by decide +kernel
abbrev cX0_init : ByteArray := prog_2_method_1_code
def yX0_init : MethodName := ⟨RX0, "<init>", "()V"⟩
abbrev cX0_openedTotal : ByteArray := prog_2_method_2_code
def yX0_openedTotal : MethodName := ⟨RX0, "openedTotal", "()I"⟩
abbrev cX0_wasOpened : ByteArray := prog_2_method_3_code
def yX0_wasOpened : MethodName := ⟨RX0, "wasOpened", "(I)Z"⟩
abbrev cX0_isStillOpen : ByteArray := prog_2_method_4_code
def yX0_isStillOpen : MethodName := ⟨RX0, "isStillOpen", "(I)Z"⟩
abbrev cX0_fileOf : ByteArray := prog_2_method_5_code
def yX0_fileOf : MethodName := ⟨RX0, "fileOf", "(I)I"⟩
abbrev cX0_endOf : ByteArray := prog_2_method_6_code
def yX0_endOf : MethodName := ⟨RX0, "endOf", "(I)I"⟩
abbrev cX0_add : ByteArray := prog_2_method_7_code
def yX0_add : MethodName := ⟨RX0, "add", "(II)I"⟩
abbrev cX0_close : ByteArray := prog_2_method_8_code
def yX0_close : MethodName := ⟨RX0, "close", "(I)V"⟩
abbrev cX0_openTotal : ByteArray := prog_2_method_9_code
def yX0_openTotal : MethodName := ⟨RX0, "openTotal", "(I)I"⟩
abbrev cX0_firstToEnd : ByteArray := prog_2_method_10_code
def yX0_firstToEnd : MethodName := ⟨RX0, "firstToEnd", "()I"⟩
def RX1 : String := "InodeCouncil$Snapshots"
def TX1 : u_T := fun k => match k with
  | 0 => ("InodeCouncil$Snapshots", "taken", "I", false)
  | 1 => ("InodeCouncil$Snapshots", "kept", "I", false)
  | 2 => ("InodeCouncil$Snapshots", "ranks", "[I", true)
  | 3 => ("InodeCouncil$Snapshots", "rows", "[I", true)
  | 4 => ("InodeCouncil$Snapshots", "rowInUse", "[Z", true)
  | 5 => ("InodeCouncil$Snapshots", "fileInRow", "[Z", true)
  | _ => ("InodeCouncil$Snapshots", "cells", "[[I", true)
def tyX1 : Nat → FieldType := fun k => match k with
  | 0 => .int
  | 1 => .int
  | 2 => .array .int
  | 3 => .array .int
  | 4 => .array .boolean
  | 5 => .array .boolean
  | _ => .array (.array .int)
theorem nmX1 : ∀ a, a < 7 → ∀ b, b < 7 → a ≠ b → (TX1 a).2.1 ≠ (TX1 b).2.1 := by decide +kernel
theorem tyX1_ok : ∀ k, k < 7 → parseFieldDescriptor (TX1 k).2.2.1 = some (tyX1 k) := by decide +kernel
abbrev cX1_init : ByteArray := prog_3_method_1_code
def yX1_init : MethodName := ⟨RX1, "<init>", "()V"⟩
abbrev cX1_takenTotal : ByteArray := prog_3_method_2_code
def yX1_takenTotal : MethodName := ⟨RX1, "takenTotal", "()I"⟩
abbrev cX1_keptTotal : ByteArray := prog_3_method_3_code
def yX1_keptTotal : MethodName := ⟨RX1, "keptTotal", "()I"⟩
abbrev cX1_wasTaken : ByteArray := prog_3_method_4_code
def yX1_wasTaken : MethodName := ⟨RX1, "wasTaken", "(I)Z"⟩
abbrev cX1_rowOf : ByteArray := prog_3_method_5_code
def yX1_rowOf : MethodName := ⟨RX1, "rowOf", "(I)I"⟩
abbrev cX1_isRow : ByteArray := prog_3_method_6_code
def yX1_isRow : MethodName := ⟨RX1, "isRow", "(I)Z"⟩
abbrev cX1_add : ByteArray := prog_3_method_7_code
def yX1_add : MethodName := ⟨RX1, "add", "(ILInodeCouncil$State;)I"⟩
abbrev cX1_unusedRow : ByteArray := prog_3_method_8_code
def yX1_unusedRow : MethodName := ⟨RX1, "unusedRow", "()I"⟩
abbrev cX1_fillRow : ByteArray := prog_3_method_9_code
def yX1_fillRow : MethodName := ⟨RX1, "fillRow", "(ILInodeCouncil$State;)V"⟩
abbrev cX1_drop : ByteArray := prog_3_method_10_code
def yX1_drop : MethodName := ⟨RX1, "drop", "(ILInodeCouncil$State;)V"⟩
abbrev cX1_includes : ByteArray := prog_3_method_11_code
def yX1_includes : MethodName := ⟨RX1, "includes", "(II)Z"⟩
abbrev cX1_isInRow : ByteArray := prog_3_method_12_code
def yX1_isInRow : MethodName := ⟨RX1, "isInRow", "(II)Z"⟩
abbrev cX1_blockIn : ByteArray := prog_3_method_13_code
def yX1_blockIn : MethodName := ⟨RX1, "blockIn", "(III)I"⟩
abbrev cX1_blocksInFile : ByteArray := prog_3_method_14_code
def yX1_blocksInFile : MethodName := ⟨RX1, "blocksInFile", "(II)J"⟩
abbrev cX1_leastKept : ByteArray := prog_3_method_15_code
def yX1_leastKept : MethodName := ⟨RX1, "leastKept", "()I"⟩
abbrev cX1_walkKept : ByteArray := prog_3_method_16_code
def yX1_walkKept : MethodName := ⟨RX1, "walkKept", "([I)V"⟩
def RX2 : String := "InodeCouncil$State"
def TX2 : u_T := fun k => match k with
  | 0 => ("InodeCouncil$State", "files", "I", false)
  | 1 => ("InodeCouncil$State", "ownerOfFile", "[I", true)
  | 2 => ("InodeCouncil$State", "links", "[I", true)
  | 3 => ("InodeCouncil$State", "alive", "[Z", true)
  | 4 => ("InodeCouncil$State", "cells", "[I", true)
  | 5 => ("InodeCouncil$State", "values", "[I", true)
  | 6 => ("InodeCouncil$State", "users", "[I", true)
  | 7 => ("InodeCouncil$State", "promised", "[I", true)
  | _ => ("InodeCouncil$State", "entries", "I", false)
def tyX2 : Nat → FieldType := fun k => match k with
  | 0 => .int
  | 1 => .array .int
  | 2 => .array .int
  | 3 => .array .boolean
  | 4 => .array .int
  | 5 => .array .int
  | 6 => .array .int
  | 7 => .array .int
  | _ => .int
theorem nmX2 : ∀ a, a < 9 → ∀ b, b < 9 → a ≠ b → (TX2 a).2.1 ≠ (TX2 b).2.1 := by decide +kernel
theorem tyX2_ok : ∀ k, k < 9 → parseFieldDescriptor (TX2 k).2.2.1 = some (tyX2 k) := by decide +kernel
abbrev cX2_init : ByteArray := prog_4_method_1_code
def yX2_init : MethodName := ⟨RX2, "<init>", "()V"⟩
abbrev cX2_copyFrom : ByteArray := prog_4_method_2_code
def yX2_copyFrom : MethodName := ⟨RX2, "copyFrom", "(LInodeCouncil$State;)V"⟩
abbrev cX2_entryTotal : ByteArray := prog_4_method_3_code
def yX2_entryTotal : MethodName := ⟨RX2, "entryTotal", "()I"⟩
abbrev cX2_setEntries : ByteArray := prog_4_method_4_code
def yX2_setEntries : MethodName := ⟨RX2, "setEntries", "(I)V"⟩
abbrev cX2_fileTotal : ByteArray := prog_4_method_5_code
def yX2_fileTotal : MethodName := ⟨RX2, "fileTotal", "()I"⟩
abbrev cX2_hasFile : ByteArray := prog_4_method_6_code
def yX2_hasFile : MethodName := ⟨RX2, "hasFile", "(I)Z"⟩
abbrev cX2_addFile : ByteArray := prog_4_method_7_code
def yX2_addFile : MethodName := ⟨RX2, "addFile", "(I)I"⟩
abbrev cX2_removeFile : ByteArray := prog_4_method_8_code
def yX2_removeFile : MethodName := ⟨RX2, "removeFile", "(I)V"⟩
abbrev cX2_isAlive : ByteArray := prog_4_method_9_code
def yX2_isAlive : MethodName := ⟨RX2, "isAlive", "(I)Z"⟩
abbrev cX2_ownerIn : ByteArray := prog_4_method_10_code
def yX2_ownerIn : MethodName := ⟨RX2, "ownerIn", "(I)I"⟩
abbrev cX2_linkTotal : ByteArray := prog_4_method_11_code
def yX2_linkTotal : MethodName := ⟨RX2, "linkTotal", "(I)I"⟩
abbrev cX2_setLinks : ByteArray := prog_4_method_12_code
def yX2_setLinks : MethodName := ⟨RX2, "setLinks", "(II)V"⟩
abbrev cX2_blockIn : ByteArray := prog_4_method_13_code
def yX2_blockIn : MethodName := ⟨RX2, "blockIn", "(II)I"⟩
abbrev cX2_setBlock : ByteArray := prog_4_method_14_code
def yX2_setBlock : MethodName := ⟨RX2, "setBlock", "(III)V"⟩
abbrev cX2_blocksInFile : ByteArray := prog_4_method_15_code
def yX2_blocksInFile : MethodName := ⟨RX2, "blocksInFile", "(II)J"⟩
abbrev cX2_blocksOfOwner : ByteArray := prog_4_method_16_code
def yX2_blocksOfOwner : MethodName := ⟨RX2, "blocksOfOwner", "(II)J"⟩
abbrev cX2_walkFiles : ByteArray := prog_4_method_17_code
def yX2_walkFiles : MethodName := ⟨RX2, "walkFiles", "([I)V"⟩
abbrev cX2_userTotal : ByteArray := prog_4_method_18_code
def yX2_userTotal : MethodName := ⟨RX2, "userTotal", "(I)I"⟩
abbrev cX2_addUser : ByteArray := prog_4_method_19_code
def yX2_addUser : MethodName := ⟨RX2, "addUser", "(I)V"⟩
abbrev cX2_removeUser : ByteArray := prog_4_method_20_code
def yX2_removeUser : MethodName := ⟨RX2, "removeUser", "(I)V"⟩
abbrev cX2_valueIn : ByteArray := prog_4_method_21_code
def yX2_valueIn : MethodName := ⟨RX2, "valueIn", "(I)I"⟩
abbrev cX2_setValue : ByteArray := prog_4_method_22_code
def yX2_setValue : MethodName := ⟨RX2, "setValue", "(II)V"⟩
abbrev cX2_freeTotal : ByteArray := prog_4_method_23_code
def yX2_freeTotal : MethodName := ⟨RX2, "freeTotal", "()I"⟩
abbrev cX2_takeBlock : ByteArray := prog_4_method_24_code
def yX2_takeBlock : MethodName := ⟨RX2, "takeBlock", "(I)I"⟩
abbrev cX2_promisedFor : ByteArray := prog_4_method_25_code
def yX2_promisedFor : MethodName := ⟨RX2, "promisedFor", "(I)I"⟩
abbrev cX2_setPromised : ByteArray := prog_4_method_26_code
def yX2_setPromised : MethodName := ⟨RX2, "setPromised", "(II)V"⟩
abbrev cX2_promisedInAll : ByteArray := prog_4_method_27_code
def yX2_promisedInAll : MethodName := ⟨RX2, "promisedInAll", "()I"⟩
def RX3 : String := "InodeCouncil"
def TX3 : u_T := fun k => match k with
  | 0 => ("InodeCouncil", "now", "LInodeCouncil$State;", true)
  | 1 => ("InodeCouncil", "atBegin", "LInodeCouncil$State;", true)
  | 2 => ("InodeCouncil", "inTransaction", "Z", false)
  | 3 => ("InodeCouncil", "kinds", "[C", true)
  | 4 => ("InodeCouncil", "owners", "I", false)
  | 5 => ("InodeCouncil", "quotas", "[I", true)
  | 6 => ("InodeCouncil", "snapshots", "LInodeCouncil$Snapshots;", true)
  | 7 => ("InodeCouncil", "holds", "LInodeCouncil$Holds;", true)
  | 8 => ("InodeCouncil", "today", "I", false)
  | 9 => ("InodeCouncil", "line", "Ljava/lang/StringBuilder;", true)
  | _ => ("InodeCouncil", "walked", "[I", true)
def tyX3 : Nat → FieldType := fun k => match k with
  | 0 => .object "InodeCouncil$State"
  | 1 => .object "InodeCouncil$State"
  | 2 => .boolean
  | 3 => .array .char
  | 4 => .int
  | 5 => .array .int
  | 6 => .object "InodeCouncil$Snapshots"
  | 7 => .object "InodeCouncil$Holds"
  | 8 => .int
  | 9 => .object "java/lang/StringBuilder"
  | _ => .array .int
theorem nmX3 : ∀ a, a < 11 → ∀ b, b < 11 → a ≠ b → (TX3 a).2.1 ≠ (TX3 b).2.1 := by decide +kernel
theorem tyX3_ok : ∀ k, k < 11 → parseFieldDescriptor (TX3 k).2.2.1 = some (tyX3 k) := by decide +kernel
abbrev cX3_init : ByteArray := prog_1_method_1_code
def yX3_init : MethodName := ⟨RX3, "<init>", "()V"⟩
abbrev cX3_addOwner : ByteArray := prog_1_method_2_code
def yX3_addOwner : MethodName := ⟨RX3, "addOwner", "(I)I"⟩
abbrev cX3_createFile : ByteArray := prog_1_method_3_code
def yX3_createFile : MethodName := ⟨RX3, "createFile", "(I)I"⟩
abbrev cX3_fileCount : ByteArray := prog_1_method_4_code
def yX3_fileCount : MethodName := ⟨RX3, "fileCount", "()I"⟩
abbrev cX3_doesExist : ByteArray := prog_1_method_5_code
def yX3_doesExist : MethodName := ⟨RX3, "doesExist", "(I)Z"⟩
abbrev cX3_linksOf : ByteArray := prog_1_method_6_code
def yX3_linksOf : MethodName := ⟨RX3, "linksOf", "(I)I"⟩
abbrev cX3_link : ByteArray := prog_1_method_7_code
def yX3_link : MethodName := ⟨RX3, "link", "(I)I"⟩
abbrev cX3_unlink : ByteArray := prog_1_method_8_code
def yX3_unlink : MethodName := ⟨RX3, "unlink", "(I)I"⟩
abbrev cX3_write : ByteArray := prog_1_method_9_code
def yX3_write : MethodName := ⟨RX3, "write", "(III)I"⟩
abbrev cX3_punch : ByteArray := prog_1_method_10_code
def yX3_punch : MethodName := ⟨RX3, "punch", "(II)I"⟩
abbrev cX3_read : ByteArray := prog_1_method_11_code
def yX3_read : MethodName := ⟨RX3, "read", "(II)I"⟩
abbrev cX3_blockAt : ByteArray := prog_1_method_12_code
def yX3_blockAt : MethodName := ⟨RX3, "blockAt", "(II)I"⟩
abbrev cX3_blocksOf : ByteArray := prog_1_method_13_code
def yX3_blocksOf : MethodName := ⟨RX3, "blocksOf", "(I)I"⟩
abbrev cX3_usedBy : ByteArray := prog_1_method_14_code
def yX3_usedBy : MethodName := ⟨RX3, "usedBy", "(I)I"⟩
abbrev cX3_free : ByteArray := prog_1_method_15_code
def yX3_free : MethodName := ⟨RX3, "free", "()I"⟩
abbrev cX3_usersOf : ByteArray := prog_1_method_16_code
def yX3_usersOf : MethodName := ⟨RX3, "usersOf", "(I)I"⟩
abbrev cX3_usersByWalk : ByteArray := prog_1_method_17_code
def yX3_usersByWalk : MethodName := ⟨RX3, "usersByWalk", "(I)I"⟩
abbrev cX3_promise : ByteArray := prog_1_method_18_code
def yX3_promise : MethodName := ⟨RX3, "promise", "(II)I"⟩
abbrev cX3_promisedTo : ByteArray := prog_1_method_19_code
def yX3_promisedTo : MethodName := ⟨RX3, "promisedTo", "(I)I"⟩
abbrev cX3_giveBack : ByteArray := prog_1_method_20_code
def yX3_giveBack : MethodName := ⟨RX3, "giveBack", "(I)I"⟩
abbrev cX3_takeSnapshot : ByteArray := prog_1_method_21_code
def yX3_takeSnapshot : MethodName := ⟨RX3, "takeSnapshot", "(I)I"⟩
abbrev cX3_isKept : ByteArray := prog_1_method_22_code
def yX3_isKept : MethodName := ⟨RX3, "isKept", "(I)Z"⟩
abbrev cX3_readFrom : ByteArray := prog_1_method_23_code
def yX3_readFrom : MethodName := ⟨RX3, "readFrom", "(III)I"⟩
abbrev cX3_thin : ByteArray := prog_1_method_24_code
def yX3_thin : MethodName := ⟨RX3, "thin", "(I)I"⟩
abbrev cX3_nextToDrop : ByteArray := prog_1_method_25_code
def yX3_nextToDrop : MethodName := ⟨RX3, "nextToDrop", "()I"⟩
abbrev cX3_restore : ByteArray := prog_1_method_26_code
def yX3_restore : MethodName := ⟨RX3, "restore", "(II)I"⟩
abbrev cX3_openHold : ByteArray := prog_1_method_27_code
def yX3_openHold : MethodName := ⟨RX3, "openHold", "(II)I"⟩
abbrev cX3_release : ByteArray := prog_1_method_28_code
def yX3_release : MethodName := ⟨RX3, "release", "(I)I"⟩
abbrev cX3_isOpen : ByteArray := prog_1_method_29_code
def yX3_isOpen : MethodName := ⟨RX3, "isOpen", "(I)Z"⟩
abbrev cX3_holdsOn : ByteArray := prog_1_method_30_code
def yX3_holdsOn : MethodName := ⟨RX3, "holdsOn", "(I)I"⟩
abbrev cX3_nextEnd : ByteArray := prog_1_method_31_code
def yX3_nextEnd : MethodName := ⟨RX3, "nextEnd", "()I"⟩
abbrev cX3_pass : ByteArray := prog_1_method_32_code
def yX3_pass : MethodName := ⟨RX3, "pass", "(I)I"⟩
abbrev cX3_day : ByteArray := prog_1_method_33_code
def yX3_day : MethodName := ⟨RX3, "day", "()I"⟩
abbrev cX3_begin : ByteArray := prog_1_method_34_code
def yX3_begin : MethodName := ⟨RX3, "begin", "()I"⟩
abbrev cX3_commit : ByteArray := prog_1_method_35_code
def yX3_commit : MethodName := ⟨RX3, "commit", "()I"⟩
abbrev cX3_crash : ByteArray := prog_1_method_36_code
def yX3_crash : MethodName := ⟨RX3, "crash", "()I"⟩
abbrev cX3_journalSize : ByteArray := prog_1_method_37_code
def yX3_journalSize : MethodName := ⟨RX3, "journalSize", "()I"⟩
abbrev cX3_entryKind : ByteArray := prog_1_method_38_code
def yX3_entryKind : MethodName := ⟨RX3, "entryKind", "(I)C"⟩
abbrev cX3_isConsistent : ByteArray := prog_1_method_41_code
def yX3_isConsistent : MethodName := ⟨RX3, "isConsistent", "()Z"⟩
abbrev cX3_writeFile : ByteArray := prog_1_method_42_code
def yX3_writeFile : MethodName := ⟨RX3, "writeFile", "(I)I"⟩
abbrev cX3_lineAt : ByteArray := prog_1_method_43_code
def yX3_lineAt : MethodName := ⟨RX3, "lineAt", "(I)C"⟩
abbrev cX3_requireWithin : ByteArray := prog_1_method_44_code
def yX3_requireWithin : MethodName := ⟨RX3, "requireWithin", "(III)V"⟩
abbrev cX3_requireOwner : ByteArray := prog_1_method_45_code
def yX3_requireOwner : MethodName := ⟨RX3, "requireOwner", "(I)V"⟩
abbrev cX3_requireFile : ByteArray := prog_1_method_46_code
def yX3_requireFile : MethodName := ⟨RX3, "requireFile", "(I)V"⟩
abbrev cX3_requirePlace : ByteArray := prog_1_method_47_code
def yX3_requirePlace : MethodName := ⟨RX3, "requirePlace", "(I)V"⟩
abbrev cX3_requireBlock : ByteArray := prog_1_method_48_code
def yX3_requireBlock : MethodName := ⟨RX3, "requireBlock", "(I)V"⟩
abbrev cX3_requireSnapshot : ByteArray := prog_1_method_49_code
def yX3_requireSnapshot : MethodName := ⟨RX3, "requireSnapshot", "(I)V"⟩
abbrev cX3_requireInSnapshot : ByteArray := prog_1_method_50_code
def yX3_requireInSnapshot : MethodName := ⟨RX3, "requireInSnapshot", "(II)V"⟩
abbrev cX3_requireHold : ByteArray := prog_1_method_51_code
def yX3_requireHold : MethodName := ⟨RX3, "requireHold", "(I)V"⟩
abbrev cX3_requireLinks : ByteArray := prog_1_method_52_code
def yX3_requireLinks : MethodName := ⟨RX3, "requireLinks", "(I)V"⟩
abbrev cX3_requireNoTransaction : ByteArray := prog_1_method_53_code
def yX3_requireNoTransaction : MethodName := ⟨RX3, "requireNoTransaction", "()V"⟩
abbrev cX3_requireBlockFor : ByteArray := prog_1_method_54_code
def yX3_requireBlockFor : MethodName := ⟨RX3, "requireBlockFor", "(III)V"⟩
abbrev cX3_blockOrThrow : ByteArray := prog_1_method_55_code
def yX3_blockOrThrow : MethodName := ⟨RX3, "blockOrThrow", "(II)I"⟩
abbrev cX3_isBlock : ByteArray := prog_1_method_56_code
def yX3_isBlock : MethodName := ⟨RX3, "isBlock", "(I)Z"⟩
abbrev cX3_isPlace : ByteArray := prog_1_method_57_code
def yX3_isPlace : MethodName := ⟨RX3, "isPlace", "(I)Z"⟩
abbrev cX3_countUser : ByteArray := prog_1_method_58_code
def yX3_countUser : MethodName := ⟨RX3, "countUser", "([II)V"⟩
abbrev cX3_quotaOf : ByteArray := prog_1_method_59_code
def yX3_quotaOf : MethodName := ⟨RX3, "quotaOf", "(I)I"⟩
abbrev cX3_note : ByteArray := prog_1_method_60_code
def yX3_note : MethodName := ⟨RX3, "note", "(C)V"⟩
abbrev cX3_endHold : ByteArray := prog_1_method_61_code
def yX3_endHold : MethodName := ⟨RX3, "endHold", "(I)I"⟩
abbrev cX3_removeIfAbandoned : ByteArray := prog_1_method_62_code
def yX3_removeIfAbandoned : MethodName := ⟨RX3, "removeIfAbandoned", "(I)I"⟩
abbrev cX3_walkUsers : ByteArray := prog_1_method_63_code
def yX3_walkUsers : MethodName := ⟨RX3, "walkUsers", "()V"⟩
abbrev cX3_areUsersAsWalked : ByteArray := prog_1_method_64_code
def yX3_areUsersAsWalked : MethodName := ⟨RX3, "areUsersAsWalked", "()Z"⟩
abbrev cX3_areHeldFilesAlive : ByteArray := prog_1_method_65_code
def yX3_areHeldFilesAlive : MethodName := ⟨RX3, "areHeldFilesAlive", "()Z"⟩
def RX4 : String := "InodeCouncilModel"
def TX4 : u_T := fun k => match k with
  | _ => ("", "", "", false)
def tyX4 : Nat → FieldType := fun k => match k with
  | _ => .int
theorem nmX4 : ∀ a, a < 0 → ∀ b, b < 0 → a ≠ b → (TX4 a).2.1 ≠ (TX4 b).2.1 := by decide +kernel
theorem tyX4_ok : ∀ k, k < 0 → parseFieldDescriptor (TX4 k).2.2.1 = some (tyX4 k) := by decide +kernel
def RJx145de : String := "java/io/Serializable"
def TJx145de : u_T := fun k => match k with
  | _ => ("", "", "", false)
def tyJx145de : Nat → FieldType := fun k => match k with
  | _ => .int
theorem nmJx145de : ∀ a, a < 0 → ∀ b, b < 0 → a ≠ b → (TJx145de a).2.1 ≠ (TJx145de b).2.1 := by decide +kernel
theorem tyJx145de_ok : ∀ k, k < 0 → parseFieldDescriptor (TJx145de k).2.2.1 = some (tyJx145de k) := by decide +kernel
def RJ5 : String := "java/lang/AbstractStringBuilder"
def TJ5 : u_T := fun k => match k with
  | _ => ("", "", "", false)
def tyJ5 : Nat → FieldType := fun k => match k with
  | _ => .int
theorem nmJ5 : ∀ a, a < 0 → ∀ b, b < 0 → a ≠ b → (TJ5 a).2.1 ≠ (TJ5 b).2.1 := by decide +kernel
theorem tyJ5_ok : ∀ k, k < 0 → parseFieldDescriptor (TJ5 k).2.2.1 = some (tyJ5 k) := by decide +kernel
abbrev cJ5_init_d00df : ByteArray := prog_8_method_2_code
def yJ5_init_d00df : MethodName := ⟨RJ5, "<init>", "(I)V"⟩
abbrev cJ5_length_8abf5 : ByteArray := prog_8_method_6_code
def yJ5_length_8abf5 : MethodName := ⟨RJ5, "length", "()I"⟩
abbrev cJ5_ensureCapacityInternal_d00df : ByteArray := prog_8_method_9_code
def yJ5_ensureCapacityInternal_d00df : MethodName := ⟨RJ5, "ensureCapacityInternal", "(I)V"⟩
abbrev cJ5_newCapacity_0f7a4 : ByteArray := prog_8_method_10_code
def yJ5_newCapacity_0f7a4 : MethodName := ⟨RJ5, "newCapacity", "(I)I"⟩
abbrev cJ5_inflate_da8c8 : ByteArray := prog_8_method_11_code
def yJ5_inflate_da8c8 : MethodName := ⟨RJ5, "inflate", "()V"⟩
abbrev cJ5_setLength_d00df : ByteArray := prog_8_method_13_code
def yJ5_setLength_d00df : MethodName := ⟨RJ5, "setLength", "(I)V"⟩
abbrev cJ5_charAt_5068e : ByteArray := prog_8_method_14_code
def yJ5_charAt_5068e : MethodName := ⟨RJ5, "charAt", "(I)C"⟩
abbrev cJ5_append_cf1ce : ByteArray := prog_8_method_22_code
def yJ5_append_cf1ce : MethodName := ⟨RJ5, "append", "(Ljava/lang/String;)Ljava/lang/AbstractStringBuilder;"⟩
abbrev cJ5_appendNull_278bc : ByteArray := prog_8_method_26_code
def yJ5_appendNull_278bc : MethodName := ⟨RJ5, "appendNull", "()Ljava/lang/AbstractStringBuilder;"⟩
abbrev cJ5_append_3fe6f : ByteArray := prog_8_method_31_code
def yJ5_append_3fe6f : MethodName := ⟨RJ5, "append", "(C)Ljava/lang/AbstractStringBuilder;"⟩
abbrev cJ5_append_c97b9 : ByteArray := prog_8_method_32_code
def yJ5_append_c97b9 : MethodName := ⟨RJ5, "append", "(I)Ljava/lang/AbstractStringBuilder;"⟩
abbrev cJ5_getValue_6d5f1 : ByteArray := prog_8_method_64_code
def yJ5_getValue_6d5f1 : MethodName := ⟨RJ5, "getValue", "()[B"⟩
abbrev cJ5_isLatin1_aae02 : ByteArray := prog_8_method_68_code
def yJ5_isLatin1_aae02 : MethodName := ⟨RJ5, "isLatin1", "()Z"⟩
abbrev cJ5_inflateIfNeededFor_a7421 : ByteArray := prog_8_method_71_code
def yJ5_inflateIfNeededFor_a7421 : MethodName := ⟨RJ5, "inflateIfNeededFor", "(Ljava/lang/String;)V"⟩
abbrev cJ5_putStringAt_47b60 : ByteArray := prog_8_method_73_code
def yJ5_putStringAt_47b60 : MethodName := ⟨RJ5, "putStringAt", "(ILjava/lang/String;)V"⟩
def RJx2cfe8 : String := "java/lang/Appendable"
def TJx2cfe8 : u_T := fun k => match k with
  | _ => ("", "", "", false)
def tyJx2cfe8 : Nat → FieldType := fun k => match k with
  | _ => .int
theorem nmJx2cfe8 : ∀ a, a < 0 → ∀ b, b < 0 → a ≠ b → (TJx2cfe8 a).2.1 ≠ (TJx2cfe8 b).2.1 := by decide +kernel
theorem tyJx2cfe8_ok : ∀ k, k < 0 → parseFieldDescriptor (TJx2cfe8 k).2.2.1 = some (tyJx2cfe8 k) := by decide +kernel
def RJx00060 : String := "java/lang/ArrayIndexOutOfBoundsException"
def TJx00060 : u_T := fun k => match k with
  | 0 => ("java/lang/Throwable", "backtrace", "Ljava/lang/Object;", false)
  | 1 => ("java/lang/Throwable", "detailMessage", "Ljava/lang/String;", false)
  | 2 => ("java/lang/Throwable", "cause", "Ljava/lang/Throwable;", false)
  | 3 => ("java/lang/Throwable", "stackTrace", "[Ljava/lang/StackTraceElement;", false)
  | 4 => ("java/lang/Throwable", "depth", "I", false)
  | _ => ("java/lang/Throwable", "suppressedExceptions", "Ljava/util/List;", false)
def tyJx00060 : Nat → FieldType := fun k => match k with
  | 0 => .object "java/lang/Object"
  | 1 => .object "java/lang/String"
  | 2 => .object "java/lang/Throwable"
  | 3 => .array (.object "java/lang/StackTraceElement")
  | 4 => .int
  | _ => .object "java/util/List"
theorem nmJx00060 : ∀ a, a < 6 → ∀ b, b < 6 → a ≠ b → (TJx00060 a).2.1 ≠ (TJx00060 b).2.1 := by decide +kernel
theorem tyJx00060_ok : ∀ k, k < 6 → parseFieldDescriptor (TJx00060 k).2.2.1 = some (tyJx00060 k) := by decide +kernel
abbrev cJx00060_init_a7421 : ByteArray := prog_10_method_2_code
def yJx00060_init_a7421 : MethodName := ⟨RJx00060, "<init>", "(Ljava/lang/String;)V"⟩
abbrev cJx00060_init_d00df : ByteArray := prog_10_method_3_code
def yJx00060_init_d00df : MethodName := ⟨RJx00060, "<init>", "(I)V"⟩
def RJx9f9b0 : String := "java/lang/CharSequence"
def TJx9f9b0 : u_T := fun k => match k with
  | _ => ("", "", "", false)
def tyJx9f9b0 : Nat → FieldType := fun k => match k with
  | _ => .int
theorem nmJx9f9b0 : ∀ a, a < 0 → ∀ b, b < 0 → a ≠ b → (TJx9f9b0 a).2.1 ≠ (TJx9f9b0 b).2.1 := by decide +kernel
theorem tyJx9f9b0_ok : ∀ k, k < 0 → parseFieldDescriptor (TJx9f9b0 k).2.2.1 = some (tyJx9f9b0 k) := by decide +kernel
def RJx8e188 : String := "java/lang/Cloneable"
def TJx8e188 : u_T := fun k => match k with
  | _ => ("", "", "", false)
def tyJx8e188 : Nat → FieldType := fun k => match k with
  | _ => .int
theorem nmJx8e188 : ∀ a, a < 0 → ∀ b, b < 0 → a ≠ b → (TJx8e188 a).2.1 ≠ (TJx8e188 b).2.1 := by decide +kernel
theorem tyJx8e188_ok : ∀ k, k < 0 → parseFieldDescriptor (TJx8e188 k).2.2.1 = some (tyJx8e188 k) := by decide +kernel
def RJxb160c : String := "java/lang/Comparable"
def TJxb160c : u_T := fun k => match k with
  | _ => ("", "", "", false)
def tyJxb160c : Nat → FieldType := fun k => match k with
  | _ => .int
theorem nmJxb160c : ∀ a, a < 0 → ∀ b, b < 0 → a ≠ b → (TJxb160c a).2.1 ≠ (TJxb160c b).2.1 := by decide +kernel
theorem tyJxb160c_ok : ∀ k, k < 0 → parseFieldDescriptor (TJxb160c k).2.2.1 = some (tyJxb160c k) := by decide +kernel
def RJ6 : String := "java/lang/Integer"
def TJ6 : u_T := fun k => match k with
  | _ => ("", "", "", false)
def tyJ6 : Nat → FieldType := fun k => match k with
  | _ => .int
theorem nmJ6 : ∀ a, a < 0 → ∀ b, b < 0 → a ≠ b → (TJ6 a).2.1 ≠ (TJ6 b).2.1 := by decide +kernel
theorem tyJ6_ok : ∀ k, k < 0 → parseFieldDescriptor (TJ6 k).2.2.1 = some (tyJ6 k) := by decide +kernel
abbrev cJ6_getChars_ba4f3 : ByteArray := prog_18_method_12_code
def yJ6_getChars_ba4f3 : MethodName := ⟨RJ6, "getChars", "(II[B)I"⟩
abbrev cJ6_stringSize_0f7a4 : ByteArray := prog_18_method_13_code
def yJ6_stringSize_0f7a4 : MethodName := ⟨RJ6, "stringSize", "(I)I"⟩
def RJ13 : String := "java/lang/Long"
def TJ13 : u_T := fun k => match k with
  | _ => ("", "", "", false)
def tyJ13 : Nat → FieldType := fun k => match k with
  | _ => .int
theorem nmJ13 : ∀ a, a < 0 → ∀ b, b < 0 → a ≠ b → (TJ13 a).2.1 ≠ (TJ13 b).2.1 := by decide +kernel
theorem tyJ13_ok : ∀ k, k < 0 → parseFieldDescriptor (TJ13 k).2.2.1 = some (tyJ13 k) := by decide +kernel
abbrev cJ13_bitCount_95d88 : ByteArray := prog_19_method_50_code
def yJ13_bitCount_95d88 : MethodName := ⟨RJ13, "bitCount", "(J)I"⟩
def RJ9 : String := "java/lang/Math"
def TJ9 : u_T := fun k => match k with
  | _ => ("", "", "", false)
def tyJ9 : Nat → FieldType := fun k => match k with
  | _ => .int
theorem nmJ9 : ∀ a, a < 0 → ∀ b, b < 0 → a ≠ b → (TJ9 a).2.1 ≠ (TJ9 b).2.1 := by decide +kernel
theorem tyJ9_ok : ∀ k, k < 0 → parseFieldDescriptor (TJ9 k).2.2.1 = some (tyJ9 k) := by decide +kernel
abbrev cJ9_max_7cf53 : ByteArray := prog_20_method_65_code
def yJ9_max_7cf53 : MethodName := ⟨RJ9, "max", "(II)I"⟩
abbrev cJ9_min_7cf53 : ByteArray := prog_20_method_69_code
def yJ9_min_7cf53 : MethodName := ⟨RJ9, "min", "(II)I"⟩
def RJxd2413 : String := "java/lang/Number"
def TJxd2413 : u_T := fun k => match k with
  | _ => ("", "", "", false)
def tyJxd2413 : Nat → FieldType := fun k => match k with
  | _ => .int
theorem nmJxd2413 : ∀ a, a < 0 → ∀ b, b < 0 → a ≠ b → (TJxd2413 a).2.1 ≠ (TJxd2413 b).2.1 := by decide +kernel
theorem tyJxd2413_ok : ∀ k, k < 0 → parseFieldDescriptor (TJxd2413 k).2.2.1 = some (tyJxd2413 k) := by decide +kernel
def RJ0 : String := "java/lang/String"
def TJ0 : u_T := fun k => match k with
  | 0 => ("java/lang/String", "value", "[B", true)
  | 1 => ("java/lang/String", "coder", "B", true)
  | 2 => ("java/lang/String", "hash", "I", false)
  | _ => ("java/lang/String", "hashIsZero", "Z", false)
def tyJ0 : Nat → FieldType := fun k => match k with
  | 0 => .array .byte
  | 1 => .byte
  | 2 => .int
  | _ => .boolean
theorem nmJ0 : ∀ a, a < 4 → ∀ b, b < 4 → a ≠ b → (TJ0 a).2.1 ≠ (TJ0 b).2.1 := by decide +kernel
theorem tyJ0_ok : ∀ k, k < 4 → parseFieldDescriptor (TJ0 k).2.2.1 = some (tyJ0 k) := by decide +kernel
abbrev cJ0_init_81219 : ByteArray := prog_23_method_53_code
def yJ0_init_81219 : MethodName := ⟨RJ0, "<init>", "(Ljava/lang/StringBuilder;)V"⟩
abbrev cJ0_length_8abf5 : ByteArray := prog_23_method_54_code
def yJ0_length_8abf5 : MethodName := ⟨RJ0, "length", "()I"⟩
abbrev cJ0_getBytes_840e7 : ByteArray := prog_23_method_147_code
def yJ0_getBytes_840e7 : MethodName := ⟨RJ0, "getBytes", "([BIB)V"⟩
abbrev cJ0_init_db425 : ByteArray := prog_23_method_150_code
def yJ0_init_db425 : MethodName := ⟨RJ0, "<init>", "(Ljava/lang/AbstractStringBuilder;Ljava/lang/Void;)V"⟩
abbrev cJ0_coder_7d493 : ByteArray := prog_23_method_152_code
def yJ0_coder_7d493 : MethodName := ⟨RJ0, "coder", "()B"⟩
abbrev cJ0_checkIndex_df160 : ByteArray := prog_23_method_155_code
def yJ0_checkIndex_df160 : MethodName := ⟨RJ0, "checkIndex", "(II)V"⟩
abbrev cJ0_checkBoundsOffCount_cabcc : ByteArray := prog_23_method_157_code
def yJ0_checkBoundsOffCount_cabcc : MethodName := ⟨RJ0, "checkBoundsOffCount", "(III)I"⟩
abbrev cJ0_checkBoundsBeginEnd_23922 : ByteArray := prog_23_method_158_code
def yJ0_checkBoundsBeginEnd_23922 : MethodName := ⟨RJ0, "checkBoundsBeginEnd", "(III)V"⟩
def RJ4 : String := "java/lang/StringBuilder"
def TJ4 : u_T := fun k => match k with
  | 0 => ("java/lang/AbstractStringBuilder", "value", "[B", false)
  | 1 => ("java/lang/AbstractStringBuilder", "coder", "B", false)
  | 2 => ("java/lang/AbstractStringBuilder", "maybeLatin1", "Z", false)
  | _ => ("java/lang/AbstractStringBuilder", "count", "I", false)
def tyJ4 : Nat → FieldType := fun k => match k with
  | 0 => .array .byte
  | 1 => .byte
  | 2 => .boolean
  | _ => .int
theorem nmJ4 : ∀ a, a < 4 → ∀ b, b < 4 → a ≠ b → (TJ4 a).2.1 ≠ (TJ4 b).2.1 := by decide +kernel
theorem tyJ4_ok : ∀ k, k < 4 → parseFieldDescriptor (TJ4 k).2.2.1 = some (tyJ4 k) := by decide +kernel
abbrev cJ4_init_da8c8 : ByteArray := prog_24_method_1_code
def yJ4_init_da8c8 : MethodName := ⟨RJ4, "<init>", "()V"⟩
abbrev cJ4_append_15ec4 : ByteArray := prog_24_method_7_code
def yJ4_append_15ec4 : MethodName := ⟨RJ4, "append", "(Ljava/lang/String;)Ljava/lang/StringBuilder;"⟩
abbrev cJ4_append_cf468 : ByteArray := prog_24_method_14_code
def yJ4_append_cf468 : MethodName := ⟨RJ4, "append", "(C)Ljava/lang/StringBuilder;"⟩
abbrev cJ4_append_bf812 : ByteArray := prog_24_method_15_code
def yJ4_append_bf812 : MethodName := ⟨RJ4, "append", "(I)Ljava/lang/StringBuilder;"⟩
abbrev cJ4_toString_0e30d : ByteArray := prog_24_method_42_code
def yJ4_toString_0e30d : MethodName := ⟨RJ4, "toString", "()Ljava/lang/String;"⟩
abbrev cJ4_charAt_5068e : ByteArray := prog_24_method_88_code
def yJ4_charAt_5068e : MethodName := ⟨RJ4, "charAt", "(I)C"⟩
abbrev cJ4_setLength_d00df : ByteArray := prog_24_method_89_code
def yJ4_setLength_d00df : MethodName := ⟨RJ4, "setLength", "(I)V"⟩
abbrev cJ4_length_8abf5 : ByteArray := prog_24_method_93_code
def yJ4_length_8abf5 : MethodName := ⟨RJ4, "length", "()I"⟩
def RJx7c733 : String := "java/lang/StringIndexOutOfBoundsException"
def TJx7c733 : u_T := fun k => match k with
  | 0 => ("java/lang/Throwable", "backtrace", "Ljava/lang/Object;", false)
  | 1 => ("java/lang/Throwable", "detailMessage", "Ljava/lang/String;", false)
  | 2 => ("java/lang/Throwable", "cause", "Ljava/lang/Throwable;", false)
  | 3 => ("java/lang/Throwable", "stackTrace", "[Ljava/lang/StackTraceElement;", false)
  | 4 => ("java/lang/Throwable", "depth", "I", false)
  | _ => ("java/lang/Throwable", "suppressedExceptions", "Ljava/util/List;", false)
def tyJx7c733 : Nat → FieldType := fun k => match k with
  | 0 => .object "java/lang/Object"
  | 1 => .object "java/lang/String"
  | 2 => .object "java/lang/Throwable"
  | 3 => .array (.object "java/lang/StackTraceElement")
  | 4 => .int
  | _ => .object "java/util/List"
theorem nmJx7c733 : ∀ a, a < 6 → ∀ b, b < 6 → a ≠ b → (TJx7c733 a).2.1 ≠ (TJx7c733 b).2.1 := by decide +kernel
theorem tyJx7c733_ok : ∀ k, k < 6 → parseFieldDescriptor (TJx7c733 k).2.2.1 = some (tyJx7c733 k) := by decide +kernel
abbrev cJx7c733_init_d00df : ByteArray := prog_25_method_3_code
def yJx7c733_init_d00df : MethodName := ⟨RJx7c733, "<init>", "(I)V"⟩
def RJ1 : String := "java/lang/StringLatin1"
def TJ1 : u_T := fun k => match k with
  | _ => ("", "", "", false)
def tyJ1 : Nat → FieldType := fun k => match k with
  | _ => .int
theorem nmJ1 : ∀ a, a < 0 → ∀ b, b < 0 → a ≠ b → (TJ1 a).2.1 ≠ (TJ1 b).2.1 := by decide +kernel
theorem tyJ1_ok : ∀ k, k < 0 → parseFieldDescriptor (TJ1 k).2.2.1 = some (tyJ1 k) := by decide +kernel
abbrev cJ1_canEncode_fc78d : ByteArray := prog_26_method_3_code
def yJ1_canEncode_fc78d : MethodName := ⟨RJ1, "canEncode", "(C)Z"⟩
abbrev cJ1_fillNull_b72d1 : ByteArray := prog_26_method_48_code
def yJ1_fillNull_b72d1 : MethodName := ⟨RJ1, "fillNull", "([BII)V"⟩
abbrev cJ1_inflate_0e8fd : ByteArray := prog_26_method_50_code
def yJ1_inflate_0e8fd : MethodName := ⟨RJ1, "inflate", "([BI[BII)V"⟩
def RJ2 : String := "java/lang/StringUTF16"
def TJ2 : u_T := fun k => match k with
  | _ => ("", "", "", false)
def tyJ2 : Nat → FieldType := fun k => match k with
  | _ => .int
theorem nmJ2 : ∀ a, a < 0 → ∀ b, b < 0 → a ≠ b → (TJ2 a).2.1 ≠ (TJ2 b).2.1 := by decide +kernel
theorem tyJ2_ok : ∀ k, k < 0 → parseFieldDescriptor (TJ2 k).2.2.1 = some (tyJ2 k) := by decide +kernel
abbrev cJ2_newBytesFor_77867 : ByteArray := prog_27_method_2_code
def yJ2_newBytesFor_77867 : MethodName := ⟨RJ2, "newBytesFor", "(I)[B"⟩
abbrev cJ2_newBytesLength_0f7a4 : ByteArray := prog_27_method_3_code
def yJ2_newBytesLength_0f7a4 : MethodName := ⟨RJ2, "newBytesLength", "(I)I"⟩
abbrev cJ2_putChar_b72d1 : ByteArray := prog_27_method_4_code
def yJ2_putChar_b72d1 : MethodName := ⟨RJ2, "putChar", "([BII)V"⟩
abbrev cJ2_getChar_3b067 : ByteArray := prog_27_method_5_code
def yJ2_getChar_3b067 : MethodName := ⟨RJ2, "getChar", "([BI)C"⟩
abbrev cJ2_length_9d52b : ByteArray := prog_27_method_6_code
def yJ2_length_9d52b : MethodName := ⟨RJ2, "length", "([B)I"⟩
abbrev cJ2_coderFromArrayLen_85cad : ByteArray := prog_27_method_15_code
def yJ2_coderFromArrayLen_85cad : MethodName := ⟨RJ2, "coderFromArrayLen", "([BI)B"⟩
abbrev cJ2_compress_39247 : ByteArray := prog_27_method_17_code
def yJ2_compress_39247 : MethodName := ⟨RJ2, "compress", "([BII)[B"⟩
abbrev cJ2_compress_5af95 : ByteArray := prog_27_method_22_code
def yJ2_compress_5af95 : MethodName := ⟨RJ2, "compress", "([BI[BII)I"⟩
abbrev cJ2_fillNull_b72d1 : ByteArray := prog_27_method_70_code
def yJ2_fillNull_b72d1 : MethodName := ⟨RJ2, "fillNull", "([BII)V"⟩
abbrev cJ2_putCharSB_b72d1 : ByteArray := prog_27_method_71_code
def yJ2_putCharSB_b72d1 : MethodName := ⟨RJ2, "putCharSB", "([BII)V"⟩
abbrev cJ2_getChars_46870 : ByteArray := prog_27_method_77_code
def yJ2_getChars_46870 : MethodName := ⟨RJ2, "getChars", "(III[B)I"⟩
abbrev cJ2_putCharsAt_cd4e5 : ByteArray := prog_27_method_81_code
def yJ2_putCharsAt_cd4e5 : MethodName := ⟨RJ2, "putCharsAt", "([BICCCC)I"⟩
abbrev cJ2_inflate_0e8fd : ByteArray := prog_27_method_86_code
def yJ2_inflate_0e8fd : MethodName := ⟨RJ2, "inflate", "([BI[BII)V"⟩
abbrev cJ2_getChars_ba4f3 : ByteArray := prog_27_method_89_code
def yJ2_getChars_ba4f3 : MethodName := ⟨RJ2, "getChars", "(II[B)I"⟩
abbrev cJ2_checkIndex_2214a : ByteArray := prog_27_method_91_code
def yJ2_checkIndex_2214a : MethodName := ⟨RJ2, "checkIndex", "(I[B)V"⟩
abbrev cJ2_checkBoundsBeginEnd_d044e : ByteArray := prog_27_method_93_code
def yJ2_checkBoundsBeginEnd_d044e : MethodName := ⟨RJ2, "checkBoundsBeginEnd", "(II[B)V"⟩
abbrev cJ2_checkBoundsOffCount_d044e : ByteArray := prog_27_method_94_code
def yJ2_checkBoundsOffCount_d044e : MethodName := ⟨RJ2, "checkBoundsOffCount", "(II[B)V"⟩
def RJ10 : String := "java/lang/System"
def TJ10 : u_T := fun k => match k with
  | _ => ("", "", "", false)
def tyJ10 : Nat → FieldType := fun k => match k with
  | _ => .int
theorem nmJ10 : ∀ a, a < 0 → ∀ b, b < 0 → a ≠ b → (TJ10 a).2.1 ≠ (TJ10 b).2.1 := by decide +kernel
theorem tyJ10_ok : ∀ k, k < 0 → parseFieldDescriptor (TJ10 k).2.2.1 = some (tyJ10 k) := by decide +kernel
def RJxfd54e : String := "java/lang/constant/Constable"
def TJxfd54e : u_T := fun k => match k with
  | _ => ("", "", "", false)
def tyJxfd54e : Nat → FieldType := fun k => match k with
  | _ => .int
theorem nmJxfd54e : ∀ a, a < 0 → ∀ b, b < 0 → a ≠ b → (TJxfd54e a).2.1 ≠ (TJxfd54e b).2.1 := by decide +kernel
theorem tyJxfd54e_ok : ∀ k, k < 0 → parseFieldDescriptor (TJxfd54e k).2.2.1 = some (tyJxfd54e k) := by decide +kernel
def RJx3cf43 : String := "java/lang/constant/ConstantDesc"
def TJx3cf43 : u_T := fun k => match k with
  | _ => ("", "", "", false)
def tyJx3cf43 : Nat → FieldType := fun k => match k with
  | _ => .int
theorem nmJx3cf43 : ∀ a, a < 0 → ∀ b, b < 0 → a ≠ b → (TJx3cf43 a).2.1 ≠ (TJx3cf43 b).2.1 := by decide +kernel
theorem tyJx3cf43_ok : ∀ k, k < 0 → parseFieldDescriptor (TJx3cf43 k).2.2.1 = some (tyJx3cf43 k) := by decide +kernel
def RJ7 : String := "java/util/Arrays"
def TJ7 : u_T := fun k => match k with
  | _ => ("", "", "", false)
def tyJ7 : Nat → FieldType := fun k => match k with
  | _ => .int
theorem nmJ7 : ∀ a, a < 0 → ∀ b, b < 0 → a ≠ b → (TJ7 a).2.1 ≠ (TJ7 b).2.1 := by decide +kernel
theorem tyJ7_ok : ∀ k, k < 0 → parseFieldDescriptor (TJ7 k).2.2.1 = some (tyJ7 k) := by decide +kernel
abbrev cJ7_rangeCheck_23922 : ByteArray := prog_33_method_30_code
def yJ7_rangeCheck_23922 : MethodName := ⟨RJ7, "rangeCheck", "(III)V"⟩
abbrev cJ7_fill_53178 : ByteArray := prog_33_method_103_code
def yJ7_fill_53178 : MethodName := ⟨RJ7, "fill", "([II)V"⟩
abbrev cJ7_fill_eb02e : ByteArray := prog_33_method_110_code
def yJ7_fill_eb02e : MethodName := ⟨RJ7, "fill", "([BIIB)V"⟩
abbrev cJ7_copyOf_9075b : ByteArray := prog_33_method_121_code
def yJ7_copyOf_9075b : MethodName := ⟨RJ7, "copyOf", "([BI)[B"⟩
abbrev cJ7_checkLength_df160 : ByteArray := prog_33_method_131_code
def yJ7_checkLength_df160 : MethodName := ⟨RJ7, "checkLength", "(II)V"⟩
abbrev cJ7_copyOfRange_39247 : ByteArray := prog_33_method_132_code
def yJ7_copyOfRange_39247 : MethodName := ⟨RJ7, "copyOfRange", "([BII)[B"⟩
abbrev cJ7_copyOfRangeByte_39247 : ByteArray := prog_33_method_133_code
def yJ7_copyOfRangeByte_39247 : MethodName := ⟨RJ7, "copyOfRangeByte", "([BII)[B"⟩
def RJ8 : String := "jdk/internal/util/ArraysSupport"
def TJ8 : u_T := fun k => match k with
  | _ => ("", "", "", false)
def tyJ8 : Nat → FieldType := fun k => match k with
  | _ => .int
theorem nmJ8 : ∀ a, a < 0 → ∀ b, b < 0 → a ≠ b → (TJ8 a).2.1 ≠ (TJ8 b).2.1 := by decide +kernel
theorem tyJ8_ok : ∀ k, k < 0 → parseFieldDescriptor (TJ8 k).2.2.1 = some (tyJ8 k) := by decide +kernel
abbrev cJ8_newLength_cabcc : ByteArray := prog_35_method_27_code
def yJ8_newLength_cabcc : MethodName := ⟨RJ8, "newLength", "(III)I"⟩
abbrev cJ8_hugeLength_7cf53 : ByteArray := prog_35_method_28_code
def yJ8_hugeLength_7cf53 : MethodName := ⟨RJ8, "hugeLength", "(II)I"⟩
def RJ3 : String := "jdk/internal/util/Preconditions"
def TJ3 : u_T := fun k => match k with
  | _ => ("", "", "", false)
def tyJ3 : Nat → FieldType := fun k => match k with
  | _ => .int
theorem nmJ3 : ∀ a, a < 0 → ∀ b, b < 0 → a ≠ b → (TJ3 a).2.1 ≠ (TJ3 b).2.1 := by decide +kernel
theorem tyJ3_ok : ∀ k, k < 0 → parseFieldDescriptor (TJ3 k).2.2.1 = some (tyJ3 k) := by decide +kernel
abbrev cJ3_checkIndex_8e157 : ByteArray := prog_36_method_11_code
def yJ3_checkIndex_8e157 : MethodName := ⟨RJ3, "checkIndex", "(IILjava/util/function/BiFunction;)I"⟩
abbrev cJ3_checkFromToIndex_8c36e : ByteArray := prog_36_method_12_code
def yJ3_checkFromToIndex_8c36e : MethodName := ⟨RJ3, "checkFromToIndex", "(IIILjava/util/function/BiFunction;)I"⟩
abbrev cJ3_checkFromIndexSize_8c36e : ByteArray := prog_36_method_13_code
def yJ3_checkFromIndexSize_8c36e : MethodName := ⟨RJ3, "checkFromIndexSize", "(IIILjava/util/function/BiFunction;)I"⟩
def RL : String := "InodeCouncilLaw"
abbrev cL_cell : ByteArray := method_2_code
def yL_cell : MethodName := ⟨RL, "cell", "([II)I"⟩
abbrev cL_low : ByteArray := method_3_code
def yL_low : MethodName := ⟨RL, "low", "(II)I"⟩
abbrev cL_call : ByteArray := method_4_code
def yL_call : MethodName := ⟨RL, "call", "(LInodeCouncil;IIII)I"⟩
abbrev cL_state : ByteArray := method_5_code
def yL_state : MethodName := ⟨RL, "state", "(LInodeCouncil;III)J"⟩
abbrev cL_sound : ByteArray := method_6_code
def yL_sound : MethodName := ⟨RL, "sound", "(LInodeCouncil;I[I)Z"⟩
abbrev cL_law : ByteArray := code
def yL_law : MethodName := ⟨RL, "law", "([I)Z"⟩
abbrev vwCl : List vw_C := [(RJ0, TJ0, 4), (RJ4, TJ4, 4), (RJx00060, TJx00060, 6), (RJx7c733, TJx7c733, 6), (RX0, TX0, 4), (RX1, TX1, 7), (RX2, TX2, 9), (RX3, TX3, 11)]

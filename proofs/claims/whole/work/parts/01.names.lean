-- ===== PART A: goes FIRST, ahead of the names: the tables' words, and 'selects' of the private methods out of them =====
/-- a private method of a class that the tables say can be made, by its rows of tables_1 -/
def lw_okq (q : MethodName × Nat) : Prop := (q.1.cls ≠ "java/lang/invoke/MethodHandle" ∧ q.1.cls ≠ "java/lang/invoke/VarHandle") ∧ Cond.instantiable q.1.cls q.2 ∈ tables_1 ∧ Cond.privateMethod q.1 ∈ tables_1 ∧ Cond.instanceMethod q.1 ∈ tables_1
theorem lw_p0 : lw_okq (⟨"SealedLedger", "commitNew", "(I)I"⟩, 6) := ⟨⟨by decide +kernel, by decide +kernel⟩, List.mem_of_getElem? (i := 10) (by decide +kernel), List.mem_of_getElem? (i := 150) (by decide +kernel), List.mem_of_getElem? (i := 151) (by decide +kernel)⟩
theorem lw_p1 : lw_okq (⟨"SealedLedger", "isPoor", "()Z"⟩, 6) := ⟨⟨by decide +kernel, by decide +kernel⟩, List.mem_of_getElem? (i := 10) (by decide +kernel), List.mem_of_getElem? (i := 154) (by decide +kernel), List.mem_of_getElem? (i := 155) (by decide +kernel)⟩
theorem lw_p2 : lw_okq (⟨"SealedLedger$Log", "totalAt", "(IIZ)I"⟩, 7) := ⟨⟨by decide +kernel, by decide +kernel⟩, List.mem_of_getElem? (i := 35) (by decide +kernel), List.mem_of_getElem? (i := 180) (by decide +kernel), List.mem_of_getElem? (i := 181) (by decide +kernel)⟩
theorem lw_p3 : lw_okq (⟨"SealedLedger$Log", "sealCell", "(I)I"⟩, 7) := ⟨⟨by decide +kernel, by decide +kernel⟩, List.mem_of_getElem? (i := 35) (by decide +kernel), List.mem_of_getElem? (i := 207) (by decide +kernel), List.mem_of_getElem? (i := 208) (by decide +kernel)⟩
theorem lw_p4 : lw_okq (⟨"SealedLedger$Log", "lastSeal", "()I"⟩, 7) := ⟨⟨by decide +kernel, by decide +kernel⟩, List.mem_of_getElem? (i := 35) (by decide +kernel), List.mem_of_getElem? (i := 211) (by decide +kernel), List.mem_of_getElem? (i := 212) (by decide +kernel)⟩
theorem lw_p5 : lw_okq (⟨"SealedLedger$Log", "leafFrom", "(I)I"⟩, 7) := ⟨⟨by decide +kernel, by decide +kernel⟩, List.mem_of_getElem? (i := 35) (by decide +kernel), List.mem_of_getElem? (i := 215) (by decide +kernel), List.mem_of_getElem? (i := 216) (by decide +kernel)⟩
theorem lw_p6 : lw_okq (⟨"SealedLedger$Log", "acceptNext", "()V"⟩, 7) := ⟨⟨by decide +kernel, by decide +kernel⟩, List.mem_of_getElem? (i := 35) (by decide +kernel), List.mem_of_getElem? (i := 224) (by decide +kernel), List.mem_of_getElem? (i := 225) (by decide +kernel)⟩
theorem lw_p7 : lw_okq (⟨"SealedLedger", "writeBlock", "(I)Z"⟩, 6) := ⟨⟨by decide +kernel, by decide +kernel⟩, List.mem_of_getElem? (i := 10) (by decide +kernel), List.mem_of_getElem? (i := 247) (by decide +kernel), List.mem_of_getElem? (i := 248) (by decide +kernel)⟩
theorem lw_p8 : lw_okq (⟨"SealedLedger", "losePower", "()V"⟩, 6) := ⟨⟨by decide +kernel, by decide +kernel⟩, List.mem_of_getElem? (i := 10) (by decide +kernel), List.mem_of_getElem? (i := 259) (by decide +kernel), List.mem_of_getElem? (i := 260) (by decide +kernel)⟩
theorem lw_p9 : lw_okq (⟨"SealedLedger$Log", "clearBehindEnd", "()V"⟩, 7) := ⟨⟨by decide +kernel, by decide +kernel⟩, List.mem_of_getElem? (i := 35) (by decide +kernel), List.mem_of_getElem? (i := 271) (by decide +kernel), List.mem_of_getElem? (i := 272) (by decide +kernel)⟩
theorem lw_p10 : lw_okq (⟨"SealedLedger$Log", "nextIsSound", "()Z"⟩, 7) := ⟨⟨by decide +kernel, by decide +kernel⟩, List.mem_of_getElem? (i := 35) (by decide +kernel), List.mem_of_getElem? (i := 297) (by decide +kernel), List.mem_of_getElem? (i := 298) (by decide +kernel)⟩
theorem lw_p11 : lw_okq (⟨"SealedLedger$Log", "nextFits", "()Z"⟩, 7) := ⟨⟨by decide +kernel, by decide +kernel⟩, List.mem_of_getElem? (i := 35) (by decide +kernel), List.mem_of_getElem? (i := 301) (by decide +kernel), List.mem_of_getElem? (i := 302) (by decide +kernel)⟩
theorem lw_p12 : lw_okq (⟨"SealedLedger$Log", "nextLegsAreSound", "()Z"⟩, 7) := ⟨⟨by decide +kernel, by decide +kernel⟩, List.mem_of_getElem? (i := 35) (by decide +kernel), List.mem_of_getElem? (i := 305) (by decide +kernel), List.mem_of_getElem? (i := 306) (by decide +kernel)⟩
theorem lw_p13 : lw_okq (⟨"SealedLedgerModel", "sameLegs", "(I)Z"⟩, 22) := ⟨⟨by decide +kernel, by decide +kernel⟩, List.mem_of_getElem? (i := 473) (by decide +kernel), List.mem_of_getElem? (i := 571) (by decide +kernel), List.mem_of_getElem? (i := 572) (by decide +kernel)⟩
theorem lw_p14 : lw_okq (⟨"SealedLedgerModel", "total", "()I"⟩, 22) := ⟨⟨by decide +kernel, by decide +kernel⟩, List.mem_of_getElem? (i := 473) (by decide +kernel), List.mem_of_getElem? (i := 575) (by decide +kernel), List.mem_of_getElem? (i := 576) (by decide +kernel)⟩
theorem lw_p15 : lw_okq (⟨"SealedLedgerModel", "poor", "()Z"⟩, 22) := ⟨⟨by decide +kernel, by decide +kernel⟩, List.mem_of_getElem? (i := 473) (by decide +kernel), List.mem_of_getElem? (i := 579) (by decide +kernel), List.mem_of_getElem? (i := 580) (by decide +kernel)⟩
def lw_privs_1 : List (MethodName × Nat) := [(⟨"SealedLedger", "commitNew", "(I)I"⟩, 6), (⟨"SealedLedger", "isPoor", "()Z"⟩, 6), (⟨"SealedLedger$Log", "totalAt", "(IIZ)I"⟩, 7), (⟨"SealedLedger$Log", "sealCell", "(I)I"⟩, 7), (⟨"SealedLedger$Log", "lastSeal", "()I"⟩, 7), (⟨"SealedLedger$Log", "leafFrom", "(I)I"⟩, 7), (⟨"SealedLedger$Log", "acceptNext", "()V"⟩, 7), (⟨"SealedLedger", "writeBlock", "(I)Z"⟩, 6), (⟨"SealedLedger", "losePower", "()V"⟩, 6), (⟨"SealedLedger$Log", "clearBehindEnd", "()V"⟩, 7), (⟨"SealedLedger$Log", "nextIsSound", "()Z"⟩, 7), (⟨"SealedLedger$Log", "nextFits", "()Z"⟩, 7), (⟨"SealedLedger$Log", "nextLegsAreSound", "()Z"⟩, 7), (⟨"SealedLedgerModel", "sameLegs", "(I)Z"⟩, 22), (⟨"SealedLedgerModel", "total", "()I"⟩, 22), (⟨"SealedLedgerModel", "poor", "()Z"⟩, 22)]
theorem lw_r1 : ∀ q ∈ lw_privs_1, lw_okq q := List.forall_mem_cons.mpr ⟨lw_p0, List.forall_mem_cons.mpr ⟨lw_p1, List.forall_mem_cons.mpr ⟨lw_p2, List.forall_mem_cons.mpr ⟨lw_p3, List.forall_mem_cons.mpr ⟨lw_p4, List.forall_mem_cons.mpr ⟨lw_p5, List.forall_mem_cons.mpr ⟨lw_p6, List.forall_mem_cons.mpr ⟨lw_p7, List.forall_mem_cons.mpr ⟨lw_p8, List.forall_mem_cons.mpr ⟨lw_p9, List.forall_mem_cons.mpr ⟨lw_p10, List.forall_mem_cons.mpr ⟨lw_p11, List.forall_mem_cons.mpr ⟨lw_p12, List.forall_mem_cons.mpr ⟨lw_p13, List.forall_mem_cons.mpr ⟨lw_p14, List.forall_mem_cons.mpr ⟨lw_p15, fun _ h => absurd h List.not_mem_nil⟩⟩⟩⟩⟩⟩⟩⟩⟩⟩⟩⟩⟩⟩⟩⟩
theorem lw_p16 : lw_okq (⟨"SealedLedgerModel", "sealOf", "(I)I"⟩, 22) := ⟨⟨by decide +kernel, by decide +kernel⟩, List.mem_of_getElem? (i := 473) (by decide +kernel), List.mem_of_getElem? (i := 591) (by decide +kernel), List.mem_of_getElem? (i := 592) (by decide +kernel)⟩
theorem lw_p17 : lw_okq (⟨"SealedLedgerModel", "leafOf", "(I)I"⟩, 22) := ⟨⟨by decide +kernel, by decide +kernel⟩, List.mem_of_getElem? (i := 473) (by decide +kernel), List.mem_of_getElem? (i := 595) (by decide +kernel), List.mem_of_getElem? (i := 596) (by decide +kernel)⟩
theorem lw_p18 : lw_okq (⟨"SealedLedgerModel", "write", "(I)Z"⟩, 22) := ⟨⟨by decide +kernel, by decide +kernel⟩, List.mem_of_getElem? (i := 473) (by decide +kernel), List.mem_of_getElem? (i := 608) (by decide +kernel), List.mem_of_getElem? (i := 609) (by decide +kernel)⟩
theorem lw_p19 : lw_okq (⟨"SealedLedgerModel", "logged", "(I)I"⟩, 22) := ⟨⟨by decide +kernel, by decide +kernel⟩, List.mem_of_getElem? (i := 473) (by decide +kernel), List.mem_of_getElem? (i := 612) (by decide +kernel), List.mem_of_getElem? (i := 613) (by decide +kernel)⟩
theorem lw_p20 : lw_okq (⟨"SealedLedgerModel", "sound", "(I)Z"⟩, 22) := ⟨⟨by decide +kernel, by decide +kernel⟩, List.mem_of_getElem? (i := 473) (by decide +kernel), List.mem_of_getElem? (i := 624) (by decide +kernel), List.mem_of_getElem? (i := 625) (by decide +kernel)⟩
theorem lw_p21 : lw_okq (⟨"SealedLedgerModel", "hash", "(II)I"⟩, 22) := ⟨⟨by decide +kernel, by decide +kernel⟩, List.mem_of_getElem? (i := 473) (by decide +kernel), List.mem_of_getElem? (i := 651) (by decide +kernel), List.mem_of_getElem? (i := 652) (by decide +kernel)⟩
theorem lw_p22 : lw_okq (⟨"SealedLedgerModel", "lay", "(I)V"⟩, 22) := ⟨⟨by decide +kernel, by decide +kernel⟩, List.mem_of_getElem? (i := 473) (by decide +kernel), List.mem_of_getElem? (i := 665) (by decide +kernel), List.mem_of_getElem? (i := 666) (by decide +kernel)⟩
def lw_privs_2 : List (MethodName × Nat) := [(⟨"SealedLedgerModel", "sealOf", "(I)I"⟩, 22), (⟨"SealedLedgerModel", "leafOf", "(I)I"⟩, 22), (⟨"SealedLedgerModel", "write", "(I)Z"⟩, 22), (⟨"SealedLedgerModel", "logged", "(I)I"⟩, 22), (⟨"SealedLedgerModel", "sound", "(I)Z"⟩, 22), (⟨"SealedLedgerModel", "hash", "(II)I"⟩, 22), (⟨"SealedLedgerModel", "lay", "(I)V"⟩, 22)]
theorem lw_r2 : ∀ q ∈ lw_privs_2, lw_okq q := List.forall_mem_cons.mpr ⟨lw_p16, List.forall_mem_cons.mpr ⟨lw_p17, List.forall_mem_cons.mpr ⟨lw_p18, List.forall_mem_cons.mpr ⟨lw_p19, List.forall_mem_cons.mpr ⟨lw_p20, List.forall_mem_cons.mpr ⟨lw_p21, List.forall_mem_cons.mpr ⟨lw_p22, fun _ h => absurd h List.not_mem_nil⟩⟩⟩⟩⟩⟩⟩
def lw_privs : List (MethodName × Nat) := lw_privs_1 ++ (lw_privs_2)
def lw_tbl : List Cond := k2_sels lw_privs ++ tables_1
theorem lw_privs_ok : ∀ q ∈ lw_privs, lw_okq q := by
  show ∀ q ∈ lw_privs_1 ++ (lw_privs_2), lw_okq q
  exact List.forall_mem_append.mpr ⟨lw_r1, lw_r2⟩
def RX0 : String := "SealedLedger$Disk"
def TX0 : u_T := fun k => match k with
  | 0 => ("SealedLedger$Disk", "cells", "[I", true)
  | 1 => ("SealedLedger$Disk", "done", "I", false)
  | _ => ("SealedLedger$Disk", "failing", "I", false)
def tyX0 : Nat → FieldType := fun k => match k with
  | 0 => .array .int
  | 1 => .int
  | _ => .int
theorem nX0 : ∀ a, a < 3 → ∀ b, b < 3 → a ≠ b → (TX0 a).2.1 ≠ (TX0 b).2.1 := by decide +kernel
theorem tyX0_ok : ∀ k, k < 3 → parseFieldDescriptor (TX0 k).2.2.1 = some (tyX0 k) := by decide +kernel
abbrev cX0_init : ByteArray := prog_2_method_1_code
def yX0_init : MethodName := ⟨RX0, "<init>", "()V"⟩
abbrev cX0_failAt : ByteArray := prog_2_method_2_code
def yX0_failAt : MethodName := ⟨RX0, "failAt", "(I)V"⟩
abbrev cX0_writesDone : ByteArray := prog_2_method_3_code
def yX0_writesDone : MethodName := ⟨RX0, "writesDone", "()I"⟩
abbrev cX0_cellAt : ByteArray := prog_2_method_4_code
def yX0_cellAt : MethodName := ⟨RX0, "cellAt", "(I)I"⟩
abbrev cX0_write : ByteArray := prog_2_method_5_code
def yX0_write : MethodName := ⟨RX0, "write", "(LSealedLedger$Log;I)Z"⟩
def RX1 : String := "SealedLedger$Draft"
def TX1 : u_T := fun k => match k with
  | 0 => ("SealedLedger$Draft", "accounts", "[I", true)
  | 1 => ("SealedLedger$Draft", "amounts", "[I", true)
  | _ => ("SealedLedger$Draft", "count", "I", false)
def tyX1 : Nat → FieldType := fun k => match k with
  | 0 => .array .int
  | 1 => .array .int
  | _ => .int
theorem nX1 : ∀ a, a < 3 → ∀ b, b < 3 → a ≠ b → (TX1 a).2.1 ≠ (TX1 b).2.1 := by decide +kernel
theorem tyX1_ok : ∀ k, k < 3 → parseFieldDescriptor (TX1 k).2.2.1 = some (tyX1 k) := by decide +kernel
abbrev cX1_init : ByteArray := prog_3_method_1_code
def yX1_init : MethodName := ⟨RX1, "<init>", "()V"⟩
abbrev cX1_add : ByteArray := prog_3_method_2_code
def yX1_add : MethodName := ⟨RX1, "add", "(II)Z"⟩
abbrev cX1_clear : ByteArray := prog_3_method_3_code
def yX1_clear : MethodName := ⟨RX1, "clear", "()V"⟩
abbrev cX1_size : ByteArray := prog_3_method_4_code
def yX1_size : MethodName := ⟨RX1, "size", "()I"⟩
abbrev cX1_accountAt : ByteArray := prog_3_method_5_code
def yX1_accountAt : MethodName := ⟨RX1, "accountAt", "(I)I"⟩
abbrev cX1_amountAt : ByteArray := prog_3_method_6_code
def yX1_amountAt : MethodName := ⟨RX1, "amountAt", "(I)I"⟩
abbrev cX1_isEven : ByteArray := prog_3_method_7_code
def yX1_isEven : MethodName := ⟨RX1, "isEven", "()Z"⟩
abbrev cX1_change : ByteArray := prog_3_method_8_code
def yX1_change : MethodName := ⟨RX1, "change", "(I)I"⟩
def RX2 : String := "SealedLedger$Log"
def TX2 : u_T := fun k => match k with
  | 0 => ("SealedLedger$Log", "cells", "[I", true)
  | 1 => ("SealedLedger$Log", "starts", "[I", true)
  | 2 => ("SealedLedger$Log", "leaves", "[I", true)
  | 3 => ("SealedLedger$Log", "count", "I", false)
  | 4 => ("SealedLedger$Log", "end", "I", false)
  | 5 => ("SealedLedger$Log", "syncedCount", "I", false)
  | _ => ("SealedLedger$Log", "syncedEnd", "I", false)
def tyX2 : Nat → FieldType := fun k => match k with
  | 0 => .array .int
  | 1 => .array .int
  | 2 => .array .int
  | 3 => .int
  | 4 => .int
  | 5 => .int
  | _ => .int
theorem nX2 : ∀ a, a < 7 → ∀ b, b < 7 → a ≠ b → (TX2 a).2.1 ≠ (TX2 b).2.1 := by decide +kernel
theorem tyX2_ok : ∀ k, k < 7 → parseFieldDescriptor (TX2 k).2.2.1 = some (tyX2 k) := by decide +kernel
abbrev cX2_init : ByteArray := prog_4_method_1_code
def yX2_init : MethodName := ⟨RX2, "<init>", "()V"⟩
abbrev cX2_size : ByteArray := prog_4_method_2_code
def yX2_size : MethodName := ⟨RX2, "size", "()I"⟩
abbrev cX2_syncedSize : ByteArray := prog_4_method_3_code
def yX2_syncedSize : MethodName := ⟨RX2, "syncedSize", "()I"⟩
abbrev cX2_cellAt : ByteArray := prog_4_method_4_code
def yX2_cellAt : MethodName := ⟨RX2, "cellAt", "(I)I"⟩
abbrev cX2_leafOf : ByteArray := prog_4_method_5_code
def yX2_leafOf : MethodName := ⟨RX2, "leafOf", "(I)I"⟩
abbrev cX2_endsInBlock : ByteArray := prog_4_method_6_code
def yX2_endsInBlock : MethodName := ⟨RX2, "endsInBlock", "()Z"⟩
abbrev cX2_endBlock : ByteArray := prog_4_method_7_code
def yX2_endBlock : MethodName := ⟨RX2, "endBlock", "()I"⟩
abbrev cX2_syncedBlock : ByteArray := prog_4_method_8_code
def yX2_syncedBlock : MethodName := ⟨RX2, "syncedBlock", "()I"⟩
abbrev cX2_markSynced : ByteArray := prog_4_method_9_code
def yX2_markSynced : MethodName := ⟨RX2, "markSynced", "()V"⟩
abbrev cX2_clear : ByteArray := prog_4_method_10_code
def yX2_clear : MethodName := ⟨RX2, "clear", "()V"⟩
abbrev cX2_append : ByteArray := prog_4_method_11_code
def yX2_append : MethodName := ⟨RX2, "append", "(ILSealedLedger$Draft;)Z"⟩
abbrev cX2_load : ByteArray := prog_4_method_12_code
def yX2_load : MethodName := ⟨RX2, "load", "(LSealedLedger$Disk;)V"⟩
abbrev cX2_firstWith : ByteArray := prog_4_method_13_code
def yX2_firstWith : MethodName := ⟨RX2, "firstWith", "(I)I"⟩
abbrev cX2_hasLegsOf : ByteArray := prog_4_method_14_code
def yX2_hasLegsOf : MethodName := ⟨RX2, "hasLegsOf", "(LSealedLedger$Draft;I)Z"⟩
abbrev cX2_total : ByteArray := prog_4_method_15_code
def yX2_total : MethodName := ⟨RX2, "total", "(IIIZ)I"⟩
abbrev cX2_totalAt : ByteArray := prog_4_method_16_code
def yX2_totalAt : MethodName := ⟨RX2, "totalAt", "(IIZ)I"⟩
abbrev cX2_acceptNext : ByteArray := prog_4_method_17_code
def yX2_acceptNext : MethodName := ⟨RX2, "acceptNext", "()V"⟩
abbrev cX2_nextIsSound : ByteArray := prog_4_method_18_code
def yX2_nextIsSound : MethodName := ⟨RX2, "nextIsSound", "()Z"⟩
abbrev cX2_nextFits : ByteArray := prog_4_method_19_code
def yX2_nextFits : MethodName := ⟨RX2, "nextFits", "()Z"⟩
abbrev cX2_nextLegsAreSound : ByteArray := prog_4_method_20_code
def yX2_nextLegsAreSound : MethodName := ⟨RX2, "nextLegsAreSound", "()Z"⟩
abbrev cX2_leafFrom : ByteArray := prog_4_method_21_code
def yX2_leafFrom : MethodName := ⟨RX2, "leafFrom", "(I)I"⟩
abbrev cX2_lastSeal : ByteArray := prog_4_method_22_code
def yX2_lastSeal : MethodName := ⟨RX2, "lastSeal", "()I"⟩
abbrev cX2_clearBehindEnd : ByteArray := prog_4_method_23_code
def yX2_clearBehindEnd : MethodName := ⟨RX2, "clearBehindEnd", "()V"⟩
abbrev cX2_sealCell : ByteArray := prog_4_method_24_code
def yX2_sealCell : MethodName := ⟨RX2, "sealCell", "(I)I"⟩
abbrev cX2_accountCell : ByteArray := prog_4_method_25_code
def yX2_accountCell : MethodName := ⟨RX2, "accountCell", "(II)I"⟩
abbrev cX2_amountCell : ByteArray := prog_4_method_26_code
def yX2_amountCell : MethodName := ⟨RX2, "amountCell", "(II)I"⟩
abbrev cX2_blockOf : ByteArray := prog_4_method_27_code
def yX2_blockOf : MethodName := ⟨RX2, "blockOf", "(I)I"⟩
def RX3 : String := "SealedLedger$Pad"
def TX3 : u_T := fun k => match k with
  | 0 => ("SealedLedger$Pad", "ints", "[I", true)
  | _ => ("SealedLedger$Pad", "count", "I", false)
def tyX3 : Nat → FieldType := fun k => match k with
  | 0 => .array .int
  | _ => .int
theorem nX3 : ∀ a, a < 2 → ∀ b, b < 2 → a ≠ b → (TX3 a).2.1 ≠ (TX3 b).2.1 := by decide +kernel
theorem tyX3_ok : ∀ k, k < 2 → parseFieldDescriptor (TX3 k).2.2.1 = some (tyX3 k) := by decide +kernel
abbrev cX3_init : ByteArray := prog_5_method_1_code
def yX3_init : MethodName := ⟨RX3, "<init>", "()V"⟩
abbrev cX3_clear : ByteArray := prog_5_method_2_code
def yX3_clear : MethodName := ⟨RX3, "clear", "()V"⟩
abbrev cX3_length : ByteArray := prog_5_method_3_code
def yX3_length : MethodName := ⟨RX3, "length", "()I"⟩
abbrev cX3_intAt : ByteArray := prog_5_method_4_code
def yX3_intAt : MethodName := ⟨RX3, "intAt", "(I)I"⟩
abbrev cX3_add : ByteArray := prog_5_method_5_code
def yX3_add : MethodName := ⟨RX3, "add", "(I)Z"⟩
abbrev cX3_removeLast : ByteArray := prog_5_method_6_code
def yX3_removeLast : MethodName := ⟨RX3, "removeLast", "()Z"⟩
abbrev cX3_showsInclusion : ByteArray := prog_5_method_7_code
def yX3_showsInclusion : MethodName := ⟨RX3, "showsInclusion", "(IIII)Z"⟩
abbrev cX3_showsConsistency : ByteArray := prog_5_method_8_code
def yX3_showsConsistency : MethodName := ⟨RX3, "showsConsistency", "(IIII)Z"⟩
abbrev cX3_shownAbove : ByteArray := prog_5_method_9_code
def yX3_shownAbove : MethodName := ⟨RX3, "shownAbove", "(LSealedLedger$Pad;IIII)I"⟩
abbrev cX3_shownOld : ByteArray := prog_5_method_10_code
def yX3_shownOld : MethodName := ⟨RX3, "shownOld", "(LSealedLedger$Pad;IIII)I"⟩
abbrev cX3_shownNew : ByteArray := prog_5_method_11_code
def yX3_shownNew : MethodName := ⟨RX3, "shownNew", "(LSealedLedger$Pad;IIII)I"⟩
abbrev cX3_inclusionLength : ByteArray := prog_5_method_12_code
def yX3_inclusionLength : MethodName := ⟨RX3, "inclusionLength", "(II)I"⟩
abbrev cX3_consistencySteps : ByteArray := prog_5_method_13_code
def yX3_consistencySteps : MethodName := ⟨RX3, "consistencySteps", "(II)I"⟩
abbrev cX3_isOwn : ByteArray := prog_5_method_14_code
def yX3_isOwn : MethodName := ⟨RX3, "isOwn", "(II)Z"⟩
def RX4 : String := "SealedLedger$Tree"
abbrev cX4_headOf : ByteArray := prog_6_method_2_code
def yX4_headOf : MethodName := ⟨RX4, "headOf", "(LSealedLedger$Log;I)I"⟩
abbrev cX4_addInclusion : ByteArray := prog_6_method_3_code
def yX4_addInclusion : MethodName := ⟨RX4, "addInclusion", "(LSealedLedger$Log;LSealedLedger$Pad;II)V"⟩
abbrev cX4_addConsistency : ByteArray := prog_6_method_4_code
def yX4_addConsistency : MethodName := ⟨RX4, "addConsistency", "(LSealedLedger$Log;LSealedLedger$Pad;II)V"⟩
abbrev cX4_hash : ByteArray := prog_6_method_5_code
def yX4_hash : MethodName := ⟨RX4, "hash", "(LSealedLedger$Log;III)I"⟩
abbrev cX4_inclusion : ByteArray := prog_6_method_6_code
def yX4_inclusion : MethodName := ⟨RX4, "inclusion", "(LSealedLedger$Log;LSealedLedger$Pad;IIII)V"⟩
abbrev cX4_consistency : ByteArray := prog_6_method_7_code
def yX4_consistency : MethodName := ⟨RX4, "consistency", "(LSealedLedger$Log;LSealedLedger$Pad;IIIZI)V"⟩
def RX5 : String := "SealedLedger"
def TX5 : u_T := fun k => match k with
  | 0 => ("SealedLedger", "limits", "[I", true)
  | 1 => ("SealedLedger", "draft", "LSealedLedger$Draft;", true)
  | 2 => ("SealedLedger", "log", "LSealedLedger$Log;", true)
  | 3 => ("SealedLedger", "disk", "LSealedLedger$Disk;", true)
  | 4 => ("SealedLedger", "proof", "LSealedLedger$Pad;", true)
  | _ => ("SealedLedger", "running", "Z", false)
def tyX5 : Nat → FieldType := fun k => match k with
  | 0 => .array .int
  | 1 => .object "SealedLedger$Draft"
  | 2 => .object "SealedLedger$Log"
  | 3 => .object "SealedLedger$Disk"
  | 4 => .object "SealedLedger$Pad"
  | _ => .boolean
theorem nX5 : ∀ a, a < 6 → ∀ b, b < 6 → a ≠ b → (TX5 a).2.1 ≠ (TX5 b).2.1 := by decide +kernel
theorem tyX5_ok : ∀ k, k < 6 → parseFieldDescriptor (TX5 k).2.2.1 = some (tyX5 k) := by decide +kernel
abbrev cX5_init : ByteArray := prog_1_method_1_code
def yX5_init : MethodName := ⟨RX5, "<init>", "()V"⟩
abbrev cX5_limit : ByteArray := prog_1_method_2_code
def yX5_limit : MethodName := ⟨RX5, "limit", "(II)Z"⟩
abbrev cX5_leg : ByteArray := prog_1_method_3_code
def yX5_leg : MethodName := ⟨RX5, "leg", "(II)Z"⟩
abbrev cX5_drop : ByteArray := prog_1_method_4_code
def yX5_drop : MethodName := ⟨RX5, "drop", "()V"⟩
abbrev cX5_commit : ByteArray := prog_1_method_5_code
def yX5_commit : MethodName := ⟨RX5, "commit", "(I)I"⟩
abbrev cX5_sync : ByteArray := prog_1_method_6_code
def yX5_sync : MethodName := ⟨RX5, "sync", "()I"⟩
abbrev cX5_fail : ByteArray := prog_1_method_7_code
def yX5_fail : MethodName := ⟨RX5, "fail", "(I)Z"⟩
abbrev cX5_recover : ByteArray := prog_1_method_8_code
def yX5_recover : MethodName := ⟨RX5, "recover", "()I"⟩
abbrev cX5_on : ByteArray := prog_1_method_9_code
def yX5_on : MethodName := ⟨RX5, "on", "()Z"⟩
abbrev cX5_entries : ByteArray := prog_1_method_10_code
def yX5_entries : MethodName := ⟨RX5, "entries", "()I"⟩
abbrev cX5_synced : ByteArray := prog_1_method_11_code
def yX5_synced : MethodName := ⟨RX5, "synced", "()I"⟩
abbrev cX5_balance : ByteArray := prog_1_method_12_code
def yX5_balance : MethodName := ⟨RX5, "balance", "(II)I"⟩
abbrev cX5_statement : ByteArray := prog_1_method_13_code
def yX5_statement : MethodName := ⟨RX5, "statement", "(IIIZ)I"⟩
abbrev cX5_find : ByteArray := prog_1_method_14_code
def yX5_find : MethodName := ⟨RX5, "find", "(I)I"⟩
abbrev cX5_leaf : ByteArray := prog_1_method_15_code
def yX5_leaf : MethodName := ⟨RX5, "leaf", "(I)I"⟩
abbrev cX5_head : ByteArray := prog_1_method_16_code
def yX5_head : MethodName := ⟨RX5, "head", "(I)I"⟩
abbrev cX5_prove : ByteArray := prog_1_method_17_code
def yX5_prove : MethodName := ⟨RX5, "prove", "(II)I"⟩
abbrev cX5_extend : ByteArray := prog_1_method_18_code
def yX5_extend : MethodName := ⟨RX5, "extend", "(II)I"⟩
abbrev cX5_put : ByteArray := prog_1_method_19_code
def yX5_put : MethodName := ⟨RX5, "put", "(I)Z"⟩
abbrev cX5_take : ByteArray := prog_1_method_20_code
def yX5_take : MethodName := ⟨RX5, "take", "()Z"⟩
abbrev cX5_pad : ByteArray := prog_1_method_21_code
def yX5_pad : MethodName := ⟨RX5, "pad", "(I)I"⟩
abbrev cX5_included : ByteArray := prog_1_method_22_code
def yX5_included : MethodName := ⟨RX5, "included", "(IIII)Z"⟩
abbrev cX5_consistent : ByteArray := prog_1_method_23_code
def yX5_consistent : MethodName := ⟨RX5, "consistent", "(IIII)Z"⟩
abbrev cX5_cell : ByteArray := prog_1_method_24_code
def yX5_cell : MethodName := ⟨RX5, "cell", "(I)I"⟩
abbrev cX5_writes : ByteArray := prog_1_method_25_code
def yX5_writes : MethodName := ⟨RX5, "writes", "()I"⟩
abbrev cX5_commitNew : ByteArray := prog_1_method_26_code
def yX5_commitNew : MethodName := ⟨RX5, "commitNew", "(I)I"⟩
abbrev cX5_isPoor : ByteArray := prog_1_method_27_code
def yX5_isPoor : MethodName := ⟨RX5, "isPoor", "()Z"⟩
abbrev cX5_writeBlock : ByteArray := prog_1_method_28_code
def yX5_writeBlock : MethodName := ⟨RX5, "writeBlock", "(I)Z"⟩
abbrev cX5_losePower : ByteArray := prog_1_method_29_code
def yX5_losePower : MethodName := ⟨RX5, "losePower", "()V"⟩
abbrev cX5_isAccount : ByteArray := prog_1_method_30_code
def yX5_isAccount : MethodName := ⟨RX5, "isAccount", "(I)Z"⟩
abbrev cX5_isAmount : ByteArray := prog_1_method_31_code
def yX5_isAmount : MethodName := ⟨RX5, "isAmount", "(I)Z"⟩
abbrev cX5_entryCells : ByteArray := prog_1_method_32_code
def yX5_entryCells : MethodName := ⟨RX5, "entryCells", "(I)I"⟩
abbrev cX5_mix : ByteArray := prog_1_method_33_code
def yX5_mix : MethodName := ⟨RX5, "mix", "(II)I"⟩
abbrev cX5_node : ByteArray := prog_1_method_34_code
def yX5_node : MethodName := ⟨RX5, "node", "(II)I"⟩
abbrev cX5_split : ByteArray := prog_1_method_35_code
def yX5_split : MethodName := ⟨RX5, "split", "(I)I"⟩
def RX6 : String := "SealedLedgerModel"
def TX6 : u_T := fun k => match k with
  | 0 => ("SealedLedgerModel", "count", "I", false)
  | 1 => ("SealedLedgerModel", "keys", "[I", true)
  | 2 => ("SealedLedgerModel", "legs", "[I", true)
  | 3 => ("SealedLedgerModel", "account", "[I", true)
  | 4 => ("SealedLedgerModel", "amount", "[I", true)
  | 5 => ("SealedLedgerModel", "seals", "[I", true)
  | 6 => ("SealedLedgerModel", "ends", "[I", true)
  | 7 => ("SealedLedgerModel", "synced", "I", false)
  | 8 => ("SealedLedgerModel", "syncedEnd", "I", false)
  | 9 => ("SealedLedgerModel", "draft", "I", false)
  | 10 => ("SealedLedgerModel", "draftAccount", "[I", true)
  | 11 => ("SealedLedgerModel", "draftAmount", "[I", true)
  | 12 => ("SealedLedgerModel", "limits", "[I", true)
  | 13 => ("SealedLedgerModel", "disk", "[I", true)
  | 14 => ("SealedLedgerModel", "off", "Z", false)
  | 15 => ("SealedLedgerModel", "failing", "I", false)
  | 16 => ("SealedLedgerModel", "written", "I", false)
  | 17 => ("SealedLedgerModel", "padded", "I", false)
  | 18 => ("SealedLedgerModel", "pad", "[I", true)
  | 19 => ("SealedLedgerModel", "stack", "[I", true)
  | 20 => ("SealedLedgerModel", "firsts", "[Z", true)
  | _ => ("SealedLedgerModel", "others", "[I", true)
def tyX6 : Nat → FieldType := fun k => match k with
  | 0 => .int
  | 1 => .array .int
  | 2 => .array .int
  | 3 => .array .int
  | 4 => .array .int
  | 5 => .array .int
  | 6 => .array .int
  | 7 => .int
  | 8 => .int
  | 9 => .int
  | 10 => .array .int
  | 11 => .array .int
  | 12 => .array .int
  | 13 => .array .int
  | 14 => .boolean
  | 15 => .int
  | 16 => .int
  | 17 => .int
  | 18 => .array .int
  | 19 => .array .int
  | 20 => .array .boolean
  | _ => .array .int
theorem nX6 : ∀ a, a < 22 → ∀ b, b < 22 → a ≠ b → (TX6 a).2.1 ≠ (TX6 b).2.1 := by decide +kernel
theorem tyX6_ok : ∀ k, k < 22 → parseFieldDescriptor (TX6 k).2.2.1 = some (tyX6 k) := by decide +kernel
abbrev cX6_init : ByteArray := prog_8_method_1_code
def yX6_init : MethodName := ⟨RX6, "<init>", "()V"⟩
abbrev cX6_mix : ByteArray := prog_8_method_2_code
def yX6_mix : MethodName := ⟨RX6, "mix", "(II)I"⟩
abbrev cX6_node : ByteArray := prog_8_method_3_code
def yX6_node : MethodName := ⟨RX6, "node", "(II)I"⟩
abbrev cX6_isAccount : ByteArray := prog_8_method_4_code
def yX6_isAccount : MethodName := ⟨RX6, "isAccount", "(I)Z"⟩
abbrev cX6_limit : ByteArray := prog_8_method_5_code
def yX6_limit : MethodName := ⟨RX6, "limit", "(II)Z"⟩
abbrev cX6_leg : ByteArray := prog_8_method_6_code
def yX6_leg : MethodName := ⟨RX6, "leg", "(II)Z"⟩
abbrev cX6_drop : ByteArray := prog_8_method_7_code
def yX6_drop : MethodName := ⟨RX6, "drop", "()V"⟩
abbrev cX6_leafOf : ByteArray := prog_8_method_8_code
def yX6_leafOf : MethodName := ⟨RX6, "leafOf", "(I)I"⟩
abbrev cX6_sealOf : ByteArray := prog_8_method_9_code
def yX6_sealOf : MethodName := ⟨RX6, "sealOf", "(I)I"⟩
abbrev cX6_sameLegs : ByteArray := prog_8_method_10_code
def yX6_sameLegs : MethodName := ⟨RX6, "sameLegs", "(I)Z"⟩
abbrev cX6_total : ByteArray := prog_8_method_11_code
def yX6_total : MethodName := ⟨RX6, "total", "()I"⟩
abbrev cX6_poor : ByteArray := prog_8_method_12_code
def yX6_poor : MethodName := ⟨RX6, "poor", "()Z"⟩
abbrev cX6_commit : ByteArray := prog_8_method_13_code
def yX6_commit : MethodName := ⟨RX6, "commit", "(I)I"⟩
abbrev cX6_logged : ByteArray := prog_8_method_14_code
def yX6_logged : MethodName := ⟨RX6, "logged", "(I)I"⟩
abbrev cX6_write : ByteArray := prog_8_method_15_code
def yX6_write : MethodName := ⟨RX6, "write", "(I)Z"⟩
abbrev cX6_sync : ByteArray := prog_8_method_16_code
def yX6_sync : MethodName := ⟨RX6, "sync", "()I"⟩
abbrev cX6_fail : ByteArray := prog_8_method_17_code
def yX6_fail : MethodName := ⟨RX6, "fail", "(I)Z"⟩
abbrev cX6_sound : ByteArray := prog_8_method_18_code
def yX6_sound : MethodName := ⟨RX6, "sound", "(I)Z"⟩
abbrev cX6_recover : ByteArray := prog_8_method_19_code
def yX6_recover : MethodName := ⟨RX6, "recover", "()I"⟩
abbrev cX6_on : ByteArray := prog_8_method_20_code
def yX6_on : MethodName := ⟨RX6, "on", "()Z"⟩
abbrev cX6_entries : ByteArray := prog_8_method_21_code
def yX6_entries : MethodName := ⟨RX6, "entries", "()I"⟩
abbrev cX6_synced : ByteArray := prog_8_method_22_code
def yX6_synced : MethodName := ⟨RX6, "synced", "()I"⟩
abbrev cX6_balance : ByteArray := prog_8_method_23_code
def yX6_balance : MethodName := ⟨RX6, "balance", "(II)I"⟩
abbrev cX6_statement : ByteArray := prog_8_method_24_code
def yX6_statement : MethodName := ⟨RX6, "statement", "(IIIZ)I"⟩
abbrev cX6_find : ByteArray := prog_8_method_25_code
def yX6_find : MethodName := ⟨RX6, "find", "(I)I"⟩
abbrev cX6_leaf : ByteArray := prog_8_method_26_code
def yX6_leaf : MethodName := ⟨RX6, "leaf", "(I)I"⟩
abbrev cX6_hash : ByteArray := prog_8_method_27_code
def yX6_hash : MethodName := ⟨RX6, "hash", "(II)I"⟩
abbrev cX6_head : ByteArray := prog_8_method_28_code
def yX6_head : MethodName := ⟨RX6, "head", "(I)I"⟩
abbrev cX6_part : ByteArray := prog_8_method_29_code
def yX6_part : MethodName := ⟨RX6, "part", "(I)I"⟩
abbrev cX6_lay : ByteArray := prog_8_method_30_code
def yX6_lay : MethodName := ⟨RX6, "lay", "(I)V"⟩
abbrev cX6_prove : ByteArray := prog_8_method_31_code
def yX6_prove : MethodName := ⟨RX6, "prove", "(II)I"⟩
abbrev cX6_extend : ByteArray := prog_8_method_32_code
def yX6_extend : MethodName := ⟨RX6, "extend", "(II)I"⟩
abbrev cX6_put : ByteArray := prog_8_method_33_code
def yX6_put : MethodName := ⟨RX6, "put", "(I)Z"⟩
abbrev cX6_take : ByteArray := prog_8_method_34_code
def yX6_take : MethodName := ⟨RX6, "take", "()Z"⟩
abbrev cX6_pad : ByteArray := prog_8_method_35_code
def yX6_pad : MethodName := ⟨RX6, "pad", "(I)I"⟩
abbrev cX6_included : ByteArray := prog_8_method_36_code
def yX6_included : MethodName := ⟨RX6, "included", "(IIII)Z"⟩
abbrev cX6_consistent : ByteArray := prog_8_method_37_code
def yX6_consistent : MethodName := ⟨RX6, "consistent", "(IIII)Z"⟩
abbrev cX6_cell : ByteArray := prog_8_method_38_code
def yX6_cell : MethodName := ⟨RX6, "cell", "(I)I"⟩
abbrev cX6_writes : ByteArray := prog_8_method_39_code
def yX6_writes : MethodName := ⟨RX6, "writes", "()I"⟩
abbrev vwCl : List vw_C := [(RX0, TX0, 3), (RX1, TX1, 3), (RX2, TX2, 7), (RX3, TX3, 2), (RX5, TX5, 6), (RX6, TX6, 22)]

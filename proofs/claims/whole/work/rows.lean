section
-- ===== PART A: goes FIRST, ahead of the names: the tables' words, and 'selects' of the private methods out of them =====
/-- a private method of a class that the tables say can be made, by its rows of tables_1 -/
def lw_okq (q : MethodName × Nat) : Prop := (q.1.cls ≠ "java/lang/invoke/MethodHandle" ∧ q.1.cls ≠ "java/lang/invoke/VarHandle") ∧ Cond.instantiable q.1.cls q.2 ∈ tables_1 ∧ Cond.privateMethod q.1 ∈ tables_1 ∧ Cond.instanceMethod q.1 ∈ tables_1
theorem lw_p0 : lw_okq (⟨"SealedLedger", "commitNew", "(I)I"⟩, 6) := ⟨⟨by decide +kernel, by decide +kernel⟩, List.mem_of_getElem? (i := 10) (by decide +kernel), List.mem_of_getElem? (i := 150) (by decide +kernel), List.mem_of_getElem? (i := 151) (by decide +kernel)⟩
theorem lw_p1 : lw_okq (⟨"SealedLedger", "isPoor", "()Z"⟩, 6) := ⟨⟨by decide +kernel, by decide +kernel⟩, List.mem_of_getElem? (i := 10) (by decide +kernel), List.mem_of_getElem? (i := 154) (by decide +kernel), List.mem_of_getElem? (i := 155) (by decide +kernel)⟩
theorem lw_p2 : lw_okq (⟨"SealedLedger$Log", "totalAt", "(IIZ)I"⟩, 7) := ⟨⟨by decide +kernel, by decide +kernel⟩, List.mem_of_getElem? (i := 35) (by decide +kernel), List.mem_of_getElem? (i := 180) (by decide +kernel), List.mem_of_getElem? (i := 181) (by decide +kernel)⟩
theorem lw_p3 : lw_okq (⟨"SealedLedger$Log", "sealCell", "(I)I"⟩, 7) := ⟨⟨by decide +kernel, by decide +kernel⟩, List.mem_of_getElem? (i := 35) (by decide +kernel), List.mem_of_getElem? (i := 207) (by decide +kernel), List.mem_of_getElem? (i := 208) (by decide +kernel)⟩
theorem lw_p4 : lw_okq (⟨"SealedLedger$Log", "lastSeal", "()I"⟩, 7) := ⟨⟨by decide +kernel, by decide +kernel⟩, List.mem_of_getElem? (i := 35) (by decide +kernel), List.mem_of_getElem? (i := 211) (by decide +kernel), List.mem_of_getElem? (i := 212) (by decide +kernel)⟩
theorem lw_p5 : lw_okq (⟨"SealedLedger$Log", "leafFrom", "(I)I"⟩, 7) := ⟨⟨by decide +kernel, by decide +kernel⟩, List.mem_of_getElem? (i := 35) (by decide +kernel), List.mem_of_getElem? (i := 215) (by decide +kernel), List.mem_of_getElem? (i := 216) (by decide +kernel)⟩
theorem lw_p6 : lw_okq (⟨"SealedLedger$Log", "acceptNext", "()V"⟩, 7) := ⟨⟨by decide +kernel, by decide +kernel⟩, List.mem_of_getElem? (i := 35) (by decide +kernel), List.mem_of_getElem? (i := 224) (by decide +kernel), List.mem_of_getElem? (i := 225) (by decide +kernel)⟩
theorem lw_p7 : lw_okq (⟨"SealedLedger", "writeBlock", "(I)Z"⟩, 6) := ⟨⟨by decide +kernel, by decide +kernel⟩, List.mem_of_getElem? (i := 10) (by decide +kernel), List.mem_of_getElem? (i := 247) (by decide +kernel), List.mem_of_getElem? (i := 248) (by decide +kernel)⟩
theorem lw_p8 : lw_okq (⟨"SealedLedger", "losePower", "()V"⟩, 6) := ⟨⟨by decide +kernel, by decide +kernel⟩, List.mem_of_getElem? (i := 10) (by decide +kernel), List.mem_of_getElem? (i := 259) (by decide +kernel), List.mem_of_getElem? (i := 260) (by decide +kernel)⟩
theorem lw_p9 : lw_okq (⟨"SealedLedger$Log", "clearBehindEnd", "()V"⟩, 7) := ⟨⟨by decide +kernel, by decide +kernel⟩, List.mem_of_getElem? (i := 35) (by decide +kernel), List.mem_of_getElem? (i := 271) (by decide +kernel), List.mem_of_getElem? (i := 272) (by decide +kernel)⟩
theorem lw_p10 : lw_okq (⟨"SealedLedger$Log", "nextIsSound", "()Z"⟩, 7) := ⟨⟨by decide +kernel, by decide +kernel⟩, List.mem_of_getElem? (i := 35) (by decide +kernel), List.mem_of_getElem? (i := 297) (by decide +kernel), List.mem_of_getElem? (i := 298) (by decide +kernel)⟩
theorem lw_p11 : lw_okq (⟨"SealedLedger$Log", "nextFits", "()Z"⟩, 7) := ⟨⟨by decide +kernel, by decide +kernel⟩, List.mem_of_getElem? (i := 35) (by decide +kernel), List.mem_of_getElem? (i := 301) (by decide +kernel), List.mem_of_getElem? (i := 302) (by decide +kernel)⟩
theorem lw_p12 : lw_okq (⟨"SealedLedger$Log", "nextLegsAreSound", "()Z"⟩, 7) := ⟨⟨by decide +kernel, by decide +kernel⟩, List.mem_of_getElem? (i := 35) (by decide +kernel), List.mem_of_getElem? (i := 305) (by decide +kernel), List.mem_of_getElem? (i := 306) (by decide +kernel)⟩
theorem lw_p13 : lw_okq (⟨"SealedLedgerModel", "sameLegs", "(I)Z"⟩, 22) := ⟨⟨by decide +kernel, by decide +kernel⟩, List.mem_of_getElem? (i := 473) (by decide +kernel), List.mem_of_getElem? (i := 571) (by decide +kernel), List.mem_of_getElem? (i := 572) (by decide +kernel)⟩
theorem lw_p14 : lw_okq (⟨"SealedLedgerModel", "total", "()I"⟩, 22) := ⟨⟨by decide +kernel, by decide +kernel⟩, List.mem_of_getElem? (i := 473) (by decide +kernel), List.mem_of_getElem? (i := 575) (by decide +kernel), List.mem_of_getElem? (i := 576) (by decide +kernel)⟩
theorem lw_p15 : lw_okq (⟨"SealedLedgerModel", "poor", "()Z"⟩, 22) := ⟨⟨by decide +kernel, by decide +kernel⟩, List.mem_of_getElem? (i := 473) (by decide +kernel), List.mem_of_getElem? (i := 579) (by decide +kernel), List.mem_of_getElem? (i := 580) (by decide +kernel)⟩
def lw_privs_1 : List (MethodName × Nat) := [(⟨"SealedLedger", "commitNew", "(I)I"⟩, 6), (⟨"SealedLedger", "isPoor", "()Z"⟩, 6), (⟨"SealedLedger$Log", "totalAt", "(IIZ)I"⟩, 7), (⟨"SealedLedger$Log", "sealCell", "(I)I"⟩, 7), (⟨"SealedLedger$Log", "lastSeal", "()I"⟩, 7), (⟨"SealedLedger$Log", "leafFrom", "(I)I"⟩, 7), (⟨"SealedLedger$Log", "acceptNext", "()V"⟩, 7), (⟨"SealedLedger", "writeBlock", "(I)Z"⟩, 6), (⟨"SealedLedger", "losePower", "()V"⟩, 6), (⟨"SealedLedger$Log", "clearBehindEnd", "()V"⟩, 7), (⟨"SealedLedger$Log", "nextIsSound", "()Z"⟩, 7), (⟨"SealedLedger$Log", "nextFits", "()Z"⟩, 7), (⟨"SealedLedger$Log", "nextLegsAreSound", "()Z"⟩, 7), (⟨"SealedLedgerModel", "sameLegs", "(I)Z"⟩, 22), (⟨"SealedLedgerModel", "total", "()I"⟩, 22), (⟨"SealedLedgerModel", "poor", "()Z"⟩, 22)]
theorem lw_r1 : ∀ q ∈ lw_privs_1, lw_okq q := List.forall_mem_cons.mpr ⟨lw_p0, List.forall_mem_cons.mpr ⟨lw_p1, List.forall_mem_cons.mpr ⟨lw_p2, List.forall_mem_cons.mpr ⟨lw_p3, List.forall_mem_cons.mpr ⟨lw_p4, List.forall_mem_cons.mpr ⟨lw_p5, List.forall_mem_cons.mpr ⟨lw_p6, List.forall_mem_cons.mpr ⟨lw_p7, List.forall_mem_cons.mpr ⟨lw_p8, List.forall_mem_cons.mpr ⟨lw_p9, List.forall_mem_cons.mpr ⟨lw_p10, List.forall_mem_cons.mpr ⟨lw_p11, List.forall_mem_cons.mpr ⟨lw_p12, List.forall_mem_cons.mpr ⟨lw_p13, List.forall_mem_cons.mpr ⟨lw_p14, List.forall_mem_cons.mpr ⟨lw_p15, fun _ h => absurd h List.not_mem_nil⟩⟩⟩⟩⟩⟩⟩⟩⟩⟩⟩⟩⟩⟩⟩⟩
theorem lw_p16 : lw_okq (⟨"SealedLedgerModel", "sealOf", "(I)I"⟩, 22) := ⟨⟨by decide +kernel, by decide +kernel⟩, List.mem_of_getElem? (i := 473) (by decide +kernel), List.mem_of_getElem? (i := 591) (by decide +kernel), List.mem_of_getElem? (i := 592) (by decide +kernel)⟩
theorem lw_p17 : lw_okq (⟨"SealedLedgerModel", "leafOf", "(I)I"⟩, 22) := ⟨⟨by decide +kernel, by decide +kernel⟩, List.mem_of_getElem? (i := 473) (by decide +kernel), List.mem_of_getElem? (i := 595) (by decide +kernel), List.mem_of_getElem? (i := 596) (by decide +kernel)⟩
theorem lw_p18 : lw_okq (⟨"SealedLedgerModel", "write", "(I)Z"⟩, 22) := ⟨⟨by decide +kernel, by decide +kernel⟩, List.mem_of_getElem? (i := 473) (by decide +kernel), List.mem_of_getElem? (i := 608) (by decide +kernel), List.mem_of_getElem? (i := 609) (by decide +kernel)⟩
theorem lw_p19 : lw_okq (⟨"SealedLedgerModel", "logged", "(I)I"⟩, 22) := ⟨⟨by decide +kernel, by decide +kernel⟩, List.mem_of_getElem? (i := 473) (by decide +kernel), List.mem_of_getElem? (i := 612) (by decide +kernel), List.mem_of_getElem? (i := 613) (by decide +kernel)⟩
theorem lw_p20 : lw_okq (⟨"SealedLedgerModel", "sound", "(I)Z"⟩, 22) := ⟨⟨by decide +kernel, by decide +kernel⟩, List.mem_of_getElem? (i := 473) (by decide +kernel), List.mem_of_getElem? (i := 624) (by decide +kernel), List.mem_of_getElem? (i := 625) (by decide +kernel)⟩
theorem lw_p21 : lw_okq (⟨"SealedLedgerModel", "hash", "(II)I"⟩, 22) := ⟨⟨by decide +kernel, by decide +kernel⟩, List.mem_of_getElem? (i := 473) (by decide +kernel), List.mem_of_getElem? (i := 651) (by decide +kernel), List.mem_of_getElem? (i := 652) (by decide +kernel)⟩
theorem lw_p22 : lw_okq (⟨"SealedLedgerModel", "lay", "(I)V"⟩, 22) := ⟨⟨by decide +kernel, by decide +kernel⟩, List.mem_of_getElem? (i := 473) (by decide +kernel), List.mem_of_getElem? (i := 665) (by decide +kernel), List.mem_of_getElem? (i := 666) (by decide +kernel)⟩
def lw_privs_2 : List (MethodName × Nat) := [(⟨"SealedLedgerModel", "sealOf", "(I)I"⟩, 22), (⟨"SealedLedgerModel", "leafOf", "(I)I"⟩, 22), (⟨"SealedLedgerModel", "write", "(I)Z"⟩, 22), (⟨"SealedLedgerModel", "logged", "(I)I"⟩, 22), (⟨"SealedLedgerModel", "sound", "(I)Z"⟩, 22), (⟨"SealedLedgerModel", "hash", "(II)I"⟩, 22), (⟨"SealedLedgerModel", "lay", "(I)V"⟩, 22)]
theorem lw_r2 : ∀ q ∈ lw_privs_2, lw_okq q := List.forall_mem_cons.mpr ⟨lw_p16, List.forall_mem_cons.mpr ⟨lw_p17, List.forall_mem_cons.mpr ⟨lw_p18, List.forall_mem_cons.mpr ⟨lw_p19, List.forall_mem_cons.mpr ⟨lw_p20, List.forall_mem_cons.mpr ⟨lw_p21, List.forall_mem_cons.mpr ⟨lw_p22, fun _ h => absurd h List.not_mem_nil⟩⟩⟩⟩⟩⟩⟩
def lw_privs : List (MethodName × Nat) := lw_privs_1 ++ (lw_privs_2)
def lw_tbl : List Cond := k2_sels lw_privs ++ tables_1
theorem lw_privs_ok : ∀ q ∈ lw_privs, lw_okq q := by
  show ∀ q ∈ lw_privs_1 ++ (lw_privs_2), lw_okq q
  exact List.forall_mem_append.mpr ⟨lw_r1, lw_r2⟩
def RX0 : String := "SealedLedger$Disk"
def TX0 : u_T := fun k => match k with
  | 0 => ("SealedLedger$Disk", "cells", "[I", true)
  | 1 => ("SealedLedger$Disk", "done", "I", false)
  | _ => ("SealedLedger$Disk", "failing", "I", false)
def tyX0 : Nat → FieldType := fun k => match k with
  | 0 => .array .int
  | 1 => .int
  | _ => .int
theorem nX0 : ∀ a, a < 3 → ∀ b, b < 3 → a ≠ b → (TX0 a).2.1 ≠ (TX0 b).2.1 := by decide +kernel
theorem tyX0_ok : ∀ k, k < 3 → parseFieldDescriptor (TX0 k).2.2.1 = some (tyX0 k) := by decide +kernel
abbrev cX0_init : ByteArray := prog_2_method_1_code
def yX0_init : MethodName := ⟨RX0, "<init>", "()V"⟩
abbrev cX0_failAt : ByteArray := prog_2_method_2_code
def yX0_failAt : MethodName := ⟨RX0, "failAt", "(I)V"⟩
abbrev cX0_writesDone : ByteArray := prog_2_method_3_code
def yX0_writesDone : MethodName := ⟨RX0, "writesDone", "()I"⟩
abbrev cX0_cellAt : ByteArray := prog_2_method_4_code
def yX0_cellAt : MethodName := ⟨RX0, "cellAt", "(I)I"⟩
abbrev cX0_write : ByteArray := prog_2_method_5_code
def yX0_write : MethodName := ⟨RX0, "write", "(LSealedLedger$Log;I)Z"⟩
def RX1 : String := "SealedLedger$Draft"
def TX1 : u_T := fun k => match k with
  | 0 => ("SealedLedger$Draft", "accounts", "[I", true)
  | 1 => ("SealedLedger$Draft", "amounts", "[I", true)
  | _ => ("SealedLedger$Draft", "count", "I", false)
def tyX1 : Nat → FieldType := fun k => match k with
  | 0 => .array .int
  | 1 => .array .int
  | _ => .int
theorem nX1 : ∀ a, a < 3 → ∀ b, b < 3 → a ≠ b → (TX1 a).2.1 ≠ (TX1 b).2.1 := by decide +kernel
theorem tyX1_ok : ∀ k, k < 3 → parseFieldDescriptor (TX1 k).2.2.1 = some (tyX1 k) := by decide +kernel
abbrev cX1_init : ByteArray := prog_3_method_1_code
def yX1_init : MethodName := ⟨RX1, "<init>", "()V"⟩
abbrev cX1_add : ByteArray := prog_3_method_2_code
def yX1_add : MethodName := ⟨RX1, "add", "(II)Z"⟩
abbrev cX1_clear : ByteArray := prog_3_method_3_code
def yX1_clear : MethodName := ⟨RX1, "clear", "()V"⟩
abbrev cX1_size : ByteArray := prog_3_method_4_code
def yX1_size : MethodName := ⟨RX1, "size", "()I"⟩
abbrev cX1_accountAt : ByteArray := prog_3_method_5_code
def yX1_accountAt : MethodName := ⟨RX1, "accountAt", "(I)I"⟩
abbrev cX1_amountAt : ByteArray := prog_3_method_6_code
def yX1_amountAt : MethodName := ⟨RX1, "amountAt", "(I)I"⟩
abbrev cX1_isEven : ByteArray := prog_3_method_7_code
def yX1_isEven : MethodName := ⟨RX1, "isEven", "()Z"⟩
abbrev cX1_change : ByteArray := prog_3_method_8_code
def yX1_change : MethodName := ⟨RX1, "change", "(I)I"⟩
def RX2 : String := "SealedLedger$Log"
def TX2 : u_T := fun k => match k with
  | 0 => ("SealedLedger$Log", "cells", "[I", true)
  | 1 => ("SealedLedger$Log", "starts", "[I", true)
  | 2 => ("SealedLedger$Log", "leaves", "[I", true)
  | 3 => ("SealedLedger$Log", "count", "I", false)
  | 4 => ("SealedLedger$Log", "end", "I", false)
  | 5 => ("SealedLedger$Log", "syncedCount", "I", false)
  | _ => ("SealedLedger$Log", "syncedEnd", "I", false)
def tyX2 : Nat → FieldType := fun k => match k with
  | 0 => .array .int
  | 1 => .array .int
  | 2 => .array .int
  | 3 => .int
  | 4 => .int
  | 5 => .int
  | _ => .int
theorem nX2 : ∀ a, a < 7 → ∀ b, b < 7 → a ≠ b → (TX2 a).2.1 ≠ (TX2 b).2.1 := by decide +kernel
theorem tyX2_ok : ∀ k, k < 7 → parseFieldDescriptor (TX2 k).2.2.1 = some (tyX2 k) := by decide +kernel
abbrev cX2_init : ByteArray := prog_4_method_1_code
def yX2_init : MethodName := ⟨RX2, "<init>", "()V"⟩
abbrev cX2_size : ByteArray := prog_4_method_2_code
def yX2_size : MethodName := ⟨RX2, "size", "()I"⟩
abbrev cX2_syncedSize : ByteArray := prog_4_method_3_code
def yX2_syncedSize : MethodName := ⟨RX2, "syncedSize", "()I"⟩
abbrev cX2_cellAt : ByteArray := prog_4_method_4_code
def yX2_cellAt : MethodName := ⟨RX2, "cellAt", "(I)I"⟩
abbrev cX2_leafOf : ByteArray := prog_4_method_5_code
def yX2_leafOf : MethodName := ⟨RX2, "leafOf", "(I)I"⟩
abbrev cX2_endsInBlock : ByteArray := prog_4_method_6_code
def yX2_endsInBlock : MethodName := ⟨RX2, "endsInBlock", "()Z"⟩
abbrev cX2_endBlock : ByteArray := prog_4_method_7_code
def yX2_endBlock : MethodName := ⟨RX2, "endBlock", "()I"⟩
abbrev cX2_syncedBlock : ByteArray := prog_4_method_8_code
def yX2_syncedBlock : MethodName := ⟨RX2, "syncedBlock", "()I"⟩
abbrev cX2_markSynced : ByteArray := prog_4_method_9_code
def yX2_markSynced : MethodName := ⟨RX2, "markSynced", "()V"⟩
abbrev cX2_clear : ByteArray := prog_4_method_10_code
def yX2_clear : MethodName := ⟨RX2, "clear", "()V"⟩
abbrev cX2_append : ByteArray := prog_4_method_11_code
def yX2_append : MethodName := ⟨RX2, "append", "(ILSealedLedger$Draft;)Z"⟩
abbrev cX2_load : ByteArray := prog_4_method_12_code
def yX2_load : MethodName := ⟨RX2, "load", "(LSealedLedger$Disk;)V"⟩
abbrev cX2_firstWith : ByteArray := prog_4_method_13_code
def yX2_firstWith : MethodName := ⟨RX2, "firstWith", "(I)I"⟩
abbrev cX2_hasLegsOf : ByteArray := prog_4_method_14_code
def yX2_hasLegsOf : MethodName := ⟨RX2, "hasLegsOf", "(LSealedLedger$Draft;I)Z"⟩
abbrev cX2_total : ByteArray := prog_4_method_15_code
def yX2_total : MethodName := ⟨RX2, "total", "(IIIZ)I"⟩
abbrev cX2_totalAt : ByteArray := prog_4_method_16_code
def yX2_totalAt : MethodName := ⟨RX2, "totalAt", "(IIZ)I"⟩
abbrev cX2_acceptNext : ByteArray := prog_4_method_17_code
def yX2_acceptNext : MethodName := ⟨RX2, "acceptNext", "()V"⟩
abbrev cX2_nextIsSound : ByteArray := prog_4_method_18_code
def yX2_nextIsSound : MethodName := ⟨RX2, "nextIsSound", "()Z"⟩
abbrev cX2_nextFits : ByteArray := prog_4_method_19_code
def yX2_nextFits : MethodName := ⟨RX2, "nextFits", "()Z"⟩
abbrev cX2_nextLegsAreSound : ByteArray := prog_4_method_20_code
def yX2_nextLegsAreSound : MethodName := ⟨RX2, "nextLegsAreSound", "()Z"⟩
abbrev cX2_leafFrom : ByteArray := prog_4_method_21_code
def yX2_leafFrom : MethodName := ⟨RX2, "leafFrom", "(I)I"⟩
abbrev cX2_lastSeal : ByteArray := prog_4_method_22_code
def yX2_lastSeal : MethodName := ⟨RX2, "lastSeal", "()I"⟩
abbrev cX2_clearBehindEnd : ByteArray := prog_4_method_23_code
def yX2_clearBehindEnd : MethodName := ⟨RX2, "clearBehindEnd", "()V"⟩
abbrev cX2_sealCell : ByteArray := prog_4_method_24_code
def yX2_sealCell : MethodName := ⟨RX2, "sealCell", "(I)I"⟩
abbrev cX2_accountCell : ByteArray := prog_4_method_25_code
def yX2_accountCell : MethodName := ⟨RX2, "accountCell", "(II)I"⟩
abbrev cX2_amountCell : ByteArray := prog_4_method_26_code
def yX2_amountCell : MethodName := ⟨RX2, "amountCell", "(II)I"⟩
abbrev cX2_blockOf : ByteArray := prog_4_method_27_code
def yX2_blockOf : MethodName := ⟨RX2, "blockOf", "(I)I"⟩
def RX3 : String := "SealedLedger$Pad"
def TX3 : u_T := fun k => match k with
  | 0 => ("SealedLedger$Pad", "ints", "[I", true)
  | _ => ("SealedLedger$Pad", "count", "I", false)
def tyX3 : Nat → FieldType := fun k => match k with
  | 0 => .array .int
  | _ => .int
theorem nX3 : ∀ a, a < 2 → ∀ b, b < 2 → a ≠ b → (TX3 a).2.1 ≠ (TX3 b).2.1 := by decide +kernel
theorem tyX3_ok : ∀ k, k < 2 → parseFieldDescriptor (TX3 k).2.2.1 = some (tyX3 k) := by decide +kernel
abbrev cX3_init : ByteArray := prog_5_method_1_code
def yX3_init : MethodName := ⟨RX3, "<init>", "()V"⟩
abbrev cX3_clear : ByteArray := prog_5_method_2_code
def yX3_clear : MethodName := ⟨RX3, "clear", "()V"⟩
abbrev cX3_length : ByteArray := prog_5_method_3_code
def yX3_length : MethodName := ⟨RX3, "length", "()I"⟩
abbrev cX3_intAt : ByteArray := prog_5_method_4_code
def yX3_intAt : MethodName := ⟨RX3, "intAt", "(I)I"⟩
abbrev cX3_add : ByteArray := prog_5_method_5_code
def yX3_add : MethodName := ⟨RX3, "add", "(I)Z"⟩
abbrev cX3_removeLast : ByteArray := prog_5_method_6_code
def yX3_removeLast : MethodName := ⟨RX3, "removeLast", "()Z"⟩
abbrev cX3_showsInclusion : ByteArray := prog_5_method_7_code
def yX3_showsInclusion : MethodName := ⟨RX3, "showsInclusion", "(IIII)Z"⟩
abbrev cX3_showsConsistency : ByteArray := prog_5_method_8_code
def yX3_showsConsistency : MethodName := ⟨RX3, "showsConsistency", "(IIII)Z"⟩
abbrev cX3_shownAbove : ByteArray := prog_5_method_9_code
def yX3_shownAbove : MethodName := ⟨RX3, "shownAbove", "(LSealedLedger$Pad;IIII)I"⟩
abbrev cX3_shownOld : ByteArray := prog_5_method_10_code
def yX3_shownOld : MethodName := ⟨RX3, "shownOld", "(LSealedLedger$Pad;IIII)I"⟩
abbrev cX3_shownNew : ByteArray := prog_5_method_11_code
def yX3_shownNew : MethodName := ⟨RX3, "shownNew", "(LSealedLedger$Pad;IIII)I"⟩
abbrev cX3_inclusionLength : ByteArray := prog_5_method_12_code
def yX3_inclusionLength : MethodName := ⟨RX3, "inclusionLength", "(II)I"⟩
abbrev cX3_consistencySteps : ByteArray := prog_5_method_13_code
def yX3_consistencySteps : MethodName := ⟨RX3, "consistencySteps", "(II)I"⟩
abbrev cX3_isOwn : ByteArray := prog_5_method_14_code
def yX3_isOwn : MethodName := ⟨RX3, "isOwn", "(II)Z"⟩
def RX4 : String := "SealedLedger$Tree"
abbrev cX4_headOf : ByteArray := prog_6_method_2_code
def yX4_headOf : MethodName := ⟨RX4, "headOf", "(LSealedLedger$Log;I)I"⟩
abbrev cX4_addInclusion : ByteArray := prog_6_method_3_code
def yX4_addInclusion : MethodName := ⟨RX4, "addInclusion", "(LSealedLedger$Log;LSealedLedger$Pad;II)V"⟩
abbrev cX4_addConsistency : ByteArray := prog_6_method_4_code
def yX4_addConsistency : MethodName := ⟨RX4, "addConsistency", "(LSealedLedger$Log;LSealedLedger$Pad;II)V"⟩
abbrev cX4_hash : ByteArray := prog_6_method_5_code
def yX4_hash : MethodName := ⟨RX4, "hash", "(LSealedLedger$Log;III)I"⟩
abbrev cX4_inclusion : ByteArray := prog_6_method_6_code
def yX4_inclusion : MethodName := ⟨RX4, "inclusion", "(LSealedLedger$Log;LSealedLedger$Pad;IIII)V"⟩
abbrev cX4_consistency : ByteArray := prog_6_method_7_code
def yX4_consistency : MethodName := ⟨RX4, "consistency", "(LSealedLedger$Log;LSealedLedger$Pad;IIIZI)V"⟩
def RX5 : String := "SealedLedger"
def TX5 : u_T := fun k => match k with
  | 0 => ("SealedLedger", "limits", "[I", true)
  | 1 => ("SealedLedger", "draft", "LSealedLedger$Draft;", true)
  | 2 => ("SealedLedger", "log", "LSealedLedger$Log;", true)
  | 3 => ("SealedLedger", "disk", "LSealedLedger$Disk;", true)
  | 4 => ("SealedLedger", "proof", "LSealedLedger$Pad;", true)
  | _ => ("SealedLedger", "running", "Z", false)
def tyX5 : Nat → FieldType := fun k => match k with
  | 0 => .array .int
  | 1 => .object "SealedLedger$Draft"
  | 2 => .object "SealedLedger$Log"
  | 3 => .object "SealedLedger$Disk"
  | 4 => .object "SealedLedger$Pad"
  | _ => .boolean
theorem nX5 : ∀ a, a < 6 → ∀ b, b < 6 → a ≠ b → (TX5 a).2.1 ≠ (TX5 b).2.1 := by decide +kernel
theorem tyX5_ok : ∀ k, k < 6 → parseFieldDescriptor (TX5 k).2.2.1 = some (tyX5 k) := by decide +kernel
abbrev cX5_init : ByteArray := prog_1_method_1_code
def yX5_init : MethodName := ⟨RX5, "<init>", "()V"⟩
abbrev cX5_limit : ByteArray := prog_1_method_2_code
def yX5_limit : MethodName := ⟨RX5, "limit", "(II)Z"⟩
abbrev cX5_leg : ByteArray := prog_1_method_3_code
def yX5_leg : MethodName := ⟨RX5, "leg", "(II)Z"⟩
abbrev cX5_drop : ByteArray := prog_1_method_4_code
def yX5_drop : MethodName := ⟨RX5, "drop", "()V"⟩
abbrev cX5_commit : ByteArray := prog_1_method_5_code
def yX5_commit : MethodName := ⟨RX5, "commit", "(I)I"⟩
abbrev cX5_sync : ByteArray := prog_1_method_6_code
def yX5_sync : MethodName := ⟨RX5, "sync", "()I"⟩
abbrev cX5_fail : ByteArray := prog_1_method_7_code
def yX5_fail : MethodName := ⟨RX5, "fail", "(I)Z"⟩
abbrev cX5_recover : ByteArray := prog_1_method_8_code
def yX5_recover : MethodName := ⟨RX5, "recover", "()I"⟩
abbrev cX5_on : ByteArray := prog_1_method_9_code
def yX5_on : MethodName := ⟨RX5, "on", "()Z"⟩
abbrev cX5_entries : ByteArray := prog_1_method_10_code
def yX5_entries : MethodName := ⟨RX5, "entries", "()I"⟩
abbrev cX5_synced : ByteArray := prog_1_method_11_code
def yX5_synced : MethodName := ⟨RX5, "synced", "()I"⟩
abbrev cX5_balance : ByteArray := prog_1_method_12_code
def yX5_balance : MethodName := ⟨RX5, "balance", "(II)I"⟩
abbrev cX5_statement : ByteArray := prog_1_method_13_code
def yX5_statement : MethodName := ⟨RX5, "statement", "(IIIZ)I"⟩
abbrev cX5_find : ByteArray := prog_1_method_14_code
def yX5_find : MethodName := ⟨RX5, "find", "(I)I"⟩
abbrev cX5_leaf : ByteArray := prog_1_method_15_code
def yX5_leaf : MethodName := ⟨RX5, "leaf", "(I)I"⟩
abbrev cX5_head : ByteArray := prog_1_method_16_code
def yX5_head : MethodName := ⟨RX5, "head", "(I)I"⟩
abbrev cX5_prove : ByteArray := prog_1_method_17_code
def yX5_prove : MethodName := ⟨RX5, "prove", "(II)I"⟩
abbrev cX5_extend : ByteArray := prog_1_method_18_code
def yX5_extend : MethodName := ⟨RX5, "extend", "(II)I"⟩
abbrev cX5_put : ByteArray := prog_1_method_19_code
def yX5_put : MethodName := ⟨RX5, "put", "(I)Z"⟩
abbrev cX5_take : ByteArray := prog_1_method_20_code
def yX5_take : MethodName := ⟨RX5, "take", "()Z"⟩
abbrev cX5_pad : ByteArray := prog_1_method_21_code
def yX5_pad : MethodName := ⟨RX5, "pad", "(I)I"⟩
abbrev cX5_included : ByteArray := prog_1_method_22_code
def yX5_included : MethodName := ⟨RX5, "included", "(IIII)Z"⟩
abbrev cX5_consistent : ByteArray := prog_1_method_23_code
def yX5_consistent : MethodName := ⟨RX5, "consistent", "(IIII)Z"⟩
abbrev cX5_cell : ByteArray := prog_1_method_24_code
def yX5_cell : MethodName := ⟨RX5, "cell", "(I)I"⟩
abbrev cX5_writes : ByteArray := prog_1_method_25_code
def yX5_writes : MethodName := ⟨RX5, "writes", "()I"⟩
abbrev cX5_commitNew : ByteArray := prog_1_method_26_code
def yX5_commitNew : MethodName := ⟨RX5, "commitNew", "(I)I"⟩
abbrev cX5_isPoor : ByteArray := prog_1_method_27_code
def yX5_isPoor : MethodName := ⟨RX5, "isPoor", "()Z"⟩
abbrev cX5_writeBlock : ByteArray := prog_1_method_28_code
def yX5_writeBlock : MethodName := ⟨RX5, "writeBlock", "(I)Z"⟩
abbrev cX5_losePower : ByteArray := prog_1_method_29_code
def yX5_losePower : MethodName := ⟨RX5, "losePower", "()V"⟩
abbrev cX5_isAccount : ByteArray := prog_1_method_30_code
def yX5_isAccount : MethodName := ⟨RX5, "isAccount", "(I)Z"⟩
abbrev cX5_isAmount : ByteArray := prog_1_method_31_code
def yX5_isAmount : MethodName := ⟨RX5, "isAmount", "(I)Z"⟩
abbrev cX5_entryCells : ByteArray := prog_1_method_32_code
def yX5_entryCells : MethodName := ⟨RX5, "entryCells", "(I)I"⟩
abbrev cX5_mix : ByteArray := prog_1_method_33_code
def yX5_mix : MethodName := ⟨RX5, "mix", "(II)I"⟩
abbrev cX5_node : ByteArray := prog_1_method_34_code
def yX5_node : MethodName := ⟨RX5, "node", "(II)I"⟩
abbrev cX5_split : ByteArray := prog_1_method_35_code
def yX5_split : MethodName := ⟨RX5, "split", "(I)I"⟩
def RX6 : String := "SealedLedgerModel"
def TX6 : u_T := fun k => match k with
  | 0 => ("SealedLedgerModel", "count", "I", false)
  | 1 => ("SealedLedgerModel", "keys", "[I", true)
  | 2 => ("SealedLedgerModel", "legs", "[I", true)
  | 3 => ("SealedLedgerModel", "account", "[I", true)
  | 4 => ("SealedLedgerModel", "amount", "[I", true)
  | 5 => ("SealedLedgerModel", "seals", "[I", true)
  | 6 => ("SealedLedgerModel", "ends", "[I", true)
  | 7 => ("SealedLedgerModel", "synced", "I", false)
  | 8 => ("SealedLedgerModel", "syncedEnd", "I", false)
  | 9 => ("SealedLedgerModel", "draft", "I", false)
  | 10 => ("SealedLedgerModel", "draftAccount", "[I", true)
  | 11 => ("SealedLedgerModel", "draftAmount", "[I", true)
  | 12 => ("SealedLedgerModel", "limits", "[I", true)
  | 13 => ("SealedLedgerModel", "disk", "[I", true)
  | 14 => ("SealedLedgerModel", "off", "Z", false)
  | 15 => ("SealedLedgerModel", "failing", "I", false)
  | 16 => ("SealedLedgerModel", "written", "I", false)
  | 17 => ("SealedLedgerModel", "padded", "I", false)
  | 18 => ("SealedLedgerModel", "pad", "[I", true)
  | 19 => ("SealedLedgerModel", "stack", "[I", true)
  | 20 => ("SealedLedgerModel", "firsts", "[Z", true)
  | _ => ("SealedLedgerModel", "others", "[I", true)
def tyX6 : Nat → FieldType := fun k => match k with
  | 0 => .int
  | 1 => .array .int
  | 2 => .array .int
  | 3 => .array .int
  | 4 => .array .int
  | 5 => .array .int
  | 6 => .array .int
  | 7 => .int
  | 8 => .int
  | 9 => .int
  | 10 => .array .int
  | 11 => .array .int
  | 12 => .array .int
  | 13 => .array .int
  | 14 => .boolean
  | 15 => .int
  | 16 => .int
  | 17 => .int
  | 18 => .array .int
  | 19 => .array .int
  | 20 => .array .boolean
  | _ => .array .int
theorem nX6 : ∀ a, a < 22 → ∀ b, b < 22 → a ≠ b → (TX6 a).2.1 ≠ (TX6 b).2.1 := by decide +kernel
theorem tyX6_ok : ∀ k, k < 22 → parseFieldDescriptor (TX6 k).2.2.1 = some (tyX6 k) := by decide +kernel
abbrev cX6_init : ByteArray := prog_8_method_1_code
def yX6_init : MethodName := ⟨RX6, "<init>", "()V"⟩
abbrev cX6_mix : ByteArray := prog_8_method_2_code
def yX6_mix : MethodName := ⟨RX6, "mix", "(II)I"⟩
abbrev cX6_node : ByteArray := prog_8_method_3_code
def yX6_node : MethodName := ⟨RX6, "node", "(II)I"⟩
abbrev cX6_isAccount : ByteArray := prog_8_method_4_code
def yX6_isAccount : MethodName := ⟨RX6, "isAccount", "(I)Z"⟩
abbrev cX6_limit : ByteArray := prog_8_method_5_code
def yX6_limit : MethodName := ⟨RX6, "limit", "(II)Z"⟩
abbrev cX6_leg : ByteArray := prog_8_method_6_code
def yX6_leg : MethodName := ⟨RX6, "leg", "(II)Z"⟩
abbrev cX6_drop : ByteArray := prog_8_method_7_code
def yX6_drop : MethodName := ⟨RX6, "drop", "()V"⟩
abbrev cX6_leafOf : ByteArray := prog_8_method_8_code
def yX6_leafOf : MethodName := ⟨RX6, "leafOf", "(I)I"⟩
abbrev cX6_sealOf : ByteArray := prog_8_method_9_code
def yX6_sealOf : MethodName := ⟨RX6, "sealOf", "(I)I"⟩
abbrev cX6_sameLegs : ByteArray := prog_8_method_10_code
def yX6_sameLegs : MethodName := ⟨RX6, "sameLegs", "(I)Z"⟩
abbrev cX6_total : ByteArray := prog_8_method_11_code
def yX6_total : MethodName := ⟨RX6, "total", "()I"⟩
abbrev cX6_poor : ByteArray := prog_8_method_12_code
def yX6_poor : MethodName := ⟨RX6, "poor", "()Z"⟩
abbrev cX6_commit : ByteArray := prog_8_method_13_code
def yX6_commit : MethodName := ⟨RX6, "commit", "(I)I"⟩
abbrev cX6_logged : ByteArray := prog_8_method_14_code
def yX6_logged : MethodName := ⟨RX6, "logged", "(I)I"⟩
abbrev cX6_write : ByteArray := prog_8_method_15_code
def yX6_write : MethodName := ⟨RX6, "write", "(I)Z"⟩
abbrev cX6_sync : ByteArray := prog_8_method_16_code
def yX6_sync : MethodName := ⟨RX6, "sync", "()I"⟩
abbrev cX6_fail : ByteArray := prog_8_method_17_code
def yX6_fail : MethodName := ⟨RX6, "fail", "(I)Z"⟩
abbrev cX6_sound : ByteArray := prog_8_method_18_code
def yX6_sound : MethodName := ⟨RX6, "sound", "(I)Z"⟩
abbrev cX6_recover : ByteArray := prog_8_method_19_code
def yX6_recover : MethodName := ⟨RX6, "recover", "()I"⟩
abbrev cX6_on : ByteArray := prog_8_method_20_code
def yX6_on : MethodName := ⟨RX6, "on", "()Z"⟩
abbrev cX6_entries : ByteArray := prog_8_method_21_code
def yX6_entries : MethodName := ⟨RX6, "entries", "()I"⟩
abbrev cX6_synced : ByteArray := prog_8_method_22_code
def yX6_synced : MethodName := ⟨RX6, "synced", "()I"⟩
abbrev cX6_balance : ByteArray := prog_8_method_23_code
def yX6_balance : MethodName := ⟨RX6, "balance", "(II)I"⟩
abbrev cX6_statement : ByteArray := prog_8_method_24_code
def yX6_statement : MethodName := ⟨RX6, "statement", "(IIIZ)I"⟩
abbrev cX6_find : ByteArray := prog_8_method_25_code
def yX6_find : MethodName := ⟨RX6, "find", "(I)I"⟩
abbrev cX6_leaf : ByteArray := prog_8_method_26_code
def yX6_leaf : MethodName := ⟨RX6, "leaf", "(I)I"⟩
abbrev cX6_hash : ByteArray := prog_8_method_27_code
def yX6_hash : MethodName := ⟨RX6, "hash", "(II)I"⟩
abbrev cX6_head : ByteArray := prog_8_method_28_code
def yX6_head : MethodName := ⟨RX6, "head", "(I)I"⟩
abbrev cX6_part : ByteArray := prog_8_method_29_code
def yX6_part : MethodName := ⟨RX6, "part", "(I)I"⟩
abbrev cX6_lay : ByteArray := prog_8_method_30_code
def yX6_lay : MethodName := ⟨RX6, "lay", "(I)V"⟩
abbrev cX6_prove : ByteArray := prog_8_method_31_code
def yX6_prove : MethodName := ⟨RX6, "prove", "(II)I"⟩
abbrev cX6_extend : ByteArray := prog_8_method_32_code
def yX6_extend : MethodName := ⟨RX6, "extend", "(II)I"⟩
abbrev cX6_put : ByteArray := prog_8_method_33_code
def yX6_put : MethodName := ⟨RX6, "put", "(I)Z"⟩
abbrev cX6_take : ByteArray := prog_8_method_34_code
def yX6_take : MethodName := ⟨RX6, "take", "()Z"⟩
abbrev cX6_pad : ByteArray := prog_8_method_35_code
def yX6_pad : MethodName := ⟨RX6, "pad", "(I)I"⟩
abbrev cX6_included : ByteArray := prog_8_method_36_code
def yX6_included : MethodName := ⟨RX6, "included", "(IIII)Z"⟩
abbrev cX6_consistent : ByteArray := prog_8_method_37_code
def yX6_consistent : MethodName := ⟨RX6, "consistent", "(IIII)Z"⟩
abbrev cX6_cell : ByteArray := prog_8_method_38_code
def yX6_cell : MethodName := ⟨RX6, "cell", "(I)I"⟩
abbrev cX6_writes : ByteArray := prog_8_method_39_code
def yX6_writes : MethodName := ⟨RX6, "writes", "()I"⟩
abbrev vwCl : List vw_C := [(RX0, TX0, 3), (RX1, TX1, 3), (RX2, TX2, 7), (RX3, TX3, 2), (RX5, TX5, 6), (RX6, TX6, 22)]
end
section
def hw_l0 : List Cond := [.methodLink RX1 3 objectInit, .instanceMethod objectInit, .code objectInit ⟨#[0xb1]⟩ 1 none, .arrayClass .int, .fieldLink RX1 9 "SealedLedger$Draft" "accounts" "[I", .fieldLink RX1 15 "SealedLedger$Draft" "amounts" "[I", .code yX1_init cX1_init 1 none, .methodLink RX2 3 objectInit, .fieldLink RX2 9 "SealedLedger$Log" "cells" "[I", .fieldLink RX2 15 "SealedLedger$Log" "starts" "[I", .fieldLink RX2 18 "SealedLedger$Log" "leaves" "[I", .code yX2_init cX2_init 1 none, .methodLink RX0 3 objectInit, .fieldLink RX0 9 "SealedLedger$Disk" "cells" "[I", .code yX0_init cX0_init 1 none, .methodLink RX3 3 objectInit, .fieldLink RX3 9 "SealedLedger$Pad" "ints" "[I", .code yX3_init cX3_init 1 none, .methodLink RX5 3 objectInit, .fieldLink RX5 9 "SealedLedger" "limits" "[I", .classLink RX5 13 RX1, .instantiable RX1 3, .initialized RX1, .methodLink RX5 15 yX1_init, .instanceMethod yX1_init, .fieldLink RX5 16 "SealedLedger" "draft" "LSealedLedger$Draft;", .classLink RX5 20 RX2, .instantiable RX2 7, .initialized RX2, .methodLink RX5 22 yX2_init, .instanceMethod yX2_init, .fieldLink RX5 23 "SealedLedger" "log" "LSealedLedger$Log;"]
def hw_l1 : List Cond := [.classLink RX5 27 RX0, .instantiable RX0 3, .initialized RX0, .methodLink RX5 29 yX0_init, .instanceMethod yX0_init, .fieldLink RX5 30 "SealedLedger" "disk" "LSealedLedger$Disk;", .classLink RX5 34 RX3, .instantiable RX3 2, .initialized RX3, .methodLink RX5 36 yX3_init, .instanceMethod yX3_init, .fieldLink RX5 37 "SealedLedger" "proof" "LSealedLedger$Pad;", .fieldLink RX5 41 "SealedLedger" "running" "Z", .code yX5_init cX5_init 1 none, .code yX5_isAccount cX5_isAccount 1 (some .boolean), .methodLink RX5 45 yX5_isAccount, .static yX5_isAccount, .initialized RX5, .constant RX5 49 (99999 : Int32), .code yX5_limit cX5_limit 3 (some .boolean), .code yX5_isAmount cX5_isAmount 1 (some .boolean), .fieldLink RX1 18 "SealedLedger$Draft" "count" "I", .code yX1_add cX1_add 3 (some .boolean), .methodLink RX5 50 yX5_isAmount, .static yX5_isAmount, .selects RX1 yX1_add yX1_add, .methodLink RX5 53 yX1_add, .instanceMethod yX1_add, .code yX5_leg cX5_leg 3 (some .boolean), .code yX1_clear cX1_clear 1 none, .selects RX1 yX1_clear yX1_clear, .methodLink RX5 57 yX1_clear]
def hw_l2 : List Cond := [.instanceMethod yX1_clear, .code yX5_drop cX5_drop 1 none, .code yX1_isEven cX1_isEven 3 (some .boolean), .fieldLink RX2 21 "SealedLedger$Log" "count" "I", .code yX2_firstWith cX2_firstWith 3 (some .int), .code yX1_size cX1_size 1 (some .int), .code yX1_accountAt cX1_accountAt 2 (some .int), .code yX2_size cX2_size 1 (some .int), .code yX2_accountCell cX2_accountCell 2 (some .int), .code yX2_amountCell cX2_amountCell 2 (some .int), .methodLink RX2 53 yX2_accountCell, .static yX2_accountCell, .methodLink RX2 60 yX2_amountCell, .static yX2_amountCell, .code yX2_totalAt cX2_totalAt 6 (some .int), .methodLink RX2 93 Lib.Math.min.name, .static Lib.Math.min.name, .initialized "java/lang/Math", .code Lib.Math.min.name Lib.Math.min.code 2 (some .int), .methodLink RX2 98 Lib.Math.max.name, .static Lib.Math.max.name, .code Lib.Math.max.name Lib.Math.max.code 2 (some .int), .selects RX2 yX2_totalAt yX2_totalAt, .methodLink RX2 101 yX2_totalAt, .instanceMethod yX2_totalAt, .code yX2_total cX2_total 8 (some .int), .code yX1_change cX1_change 4 (some .int), .selects RX1 yX1_size yX1_size, .methodLink RX5 157 yX1_size, .instanceMethod yX1_size, .selects RX1 yX1_accountAt yX1_accountAt, .methodLink RX5 158 yX1_accountAt]
def hw_l3 : List Cond := [.instanceMethod yX1_accountAt, .selects RX2 yX2_size yX2_size, .methodLink RX5 99 yX2_size, .instanceMethod yX2_size, .selects RX2 yX2_total yX2_total, .methodLink RX5 105 yX2_total, .instanceMethod yX2_total, .selects RX1 yX1_change yX1_change, .methodLink RX5 161 yX1_change, .instanceMethod yX1_change, .code yX5_isPoor cX5_isPoor 4 (some .boolean), .code yX5_entryCells cX5_entryCells 1 (some .int), .code yX1_amountAt cX1_amountAt 2 (some .int), .static yX5_entryCells, .code yX2_sealCell cX2_sealCell 2 (some .int), .fieldLink RX2 28 "SealedLedger$Log" "end" "I", .code yX2_lastSeal cX2_lastSeal 1 (some .int), .constant RX5 172 (16777619 : Int32), .constant RX5 173 (739982445 : Int32), .code yX5_mix cX5_mix 4 (some .int), .static yX5_mix, .code yX2_leafFrom cX2_leafFrom 4 (some .int), .selects RX2 yX2_leafFrom yX2_leafFrom, .methodLink RX2 72 yX2_leafFrom, .instanceMethod yX2_leafFrom, .code yX2_acceptNext cX2_acceptNext 1 none, .methodLink RX2 44 yX1_size, .selects RX2 yX2_sealCell yX2_sealCell, .methodLink RX2 66 yX2_sealCell, .instanceMethod yX2_sealCell, .selects RX2 yX2_lastSeal yX2_lastSeal, .methodLink RX2 69 yX2_lastSeal]
def hw_l4 : List Cond := [.instanceMethod yX2_lastSeal, .selects RX2 yX2_acceptNext yX2_acceptNext, .methodLink RX2 78 yX2_acceptNext, .instanceMethod yX2_acceptNext, .methodLink RX2 57 yX1_accountAt, .selects RX1 yX1_amountAt yX1_amountAt, .methodLink RX2 63 yX1_amountAt, .instanceMethod yX1_amountAt, .code yX2_append cX2_append 5 (some .boolean), .selects RX5 yX5_isPoor yX5_isPoor, .methodLink RX5 150 yX5_isPoor, .instanceMethod yX5_isPoor, .selects RX2 yX2_append yX2_append, .methodLink RX5 153 yX2_append, .instanceMethod yX2_append, .code yX5_commitNew cX5_commitNew 2 (some .int), .code yX2_hasLegsOf cX2_hasLegsOf 5 (some .boolean), .selects RX1 yX1_isEven yX1_isEven, .methodLink RX5 60 yX1_isEven, .instanceMethod yX1_isEven, .selects RX2 yX2_firstWith yX2_firstWith, .methodLink RX5 64 yX2_firstWith, .instanceMethod yX2_firstWith, .selects RX2 yX2_hasLegsOf yX2_hasLegsOf, .methodLink RX5 71 yX2_hasLegsOf, .instanceMethod yX2_hasLegsOf, .selects RX5 yX5_commitNew yX5_commitNew, .methodLink RX5 68 yX5_commitNew, .instanceMethod yX5_commitNew, .code yX5_commit cX5_commit 3 (some .int), .code yX2_blockOf cX2_blockOf 1 (some .int), .fieldLink RX2 35 "SealedLedger$Log" "syncedEnd" "I"]
def hw_l5 : List Cond := [.methodLink RX2 31 yX2_blockOf, .static yX2_blockOf, .code yX2_syncedBlock cX2_syncedBlock 1 (some .int), .code yX2_endBlock cX2_endBlock 1 (some .int), .code yX2_cellAt cX2_cellAt 2 (some .int), .fieldLink RX0 15 "SealedLedger$Disk" "failing" "I", .fieldLink RX0 19 "SealedLedger$Disk" "done" "I", .selects RX2 yX2_cellAt yX2_cellAt, .methodLink RX0 22 yX2_cellAt, .instanceMethod yX2_cellAt, .code yX0_write cX0_write 5 (some .boolean), .fieldLink RX2 25 "SealedLedger$Log" "syncedCount" "I", .code yX2_markSynced cX2_markSynced 1 none, .code yX2_clearBehindEnd cX2_clearBehindEnd 2 none, .selects RX2 yX2_markSynced yX2_markSynced, .methodLink RX2 38 yX2_markSynced, .instanceMethod yX2_markSynced, .selects RX2 yX2_clearBehindEnd yX2_clearBehindEnd, .methodLink RX2 41 yX2_clearBehindEnd, .instanceMethod yX2_clearBehindEnd, .code yX2_clear cX2_clear 1 none, .selects RX2 yX2_clear yX2_clear, .methodLink RX5 171 yX2_clear, .instanceMethod yX2_clear, .code yX5_losePower cX5_losePower 1 none, .selects RX0 yX0_write yX0_write, .methodLink RX5 164 yX0_write, .instanceMethod yX0_write, .selects RX5 yX5_losePower yX5_losePower, .methodLink RX5 168 yX5_losePower, .instanceMethod yX5_losePower, .code yX5_writeBlock cX5_writeBlock 2 (some .boolean)]
def hw_l6 : List Cond := [.selects RX2 yX2_syncedBlock yX2_syncedBlock, .methodLink RX5 75 yX2_syncedBlock, .instanceMethod yX2_syncedBlock, .selects RX2 yX2_endBlock yX2_endBlock, .methodLink RX5 79 yX2_endBlock, .instanceMethod yX2_endBlock, .methodLink RX5 85 yX2_markSynced, .selects RX5 yX5_writeBlock yX5_writeBlock, .methodLink RX5 82 yX5_writeBlock, .instanceMethod yX5_writeBlock, .code yX5_sync cX5_sync 4 (some .int), .code yX0_failAt cX0_failAt 2 none, .selects RX0 yX0_failAt yX0_failAt, .methodLink RX5 88 yX0_failAt, .instanceMethod yX0_failAt, .code yX5_fail cX5_fail 2 (some .boolean), .code yX0_cellAt cX0_cellAt 2 (some .int), .code yX2_nextFits cX2_nextFits 1 (some .boolean), .code yX2_nextLegsAreSound cX2_nextLegsAreSound 4 (some .boolean), .selects RX2 yX2_nextFits yX2_nextFits, .methodLink RX2 105 yX2_nextFits, .instanceMethod yX2_nextFits, .selects RX2 yX2_nextLegsAreSound yX2_nextLegsAreSound, .methodLink RX2 108 yX2_nextLegsAreSound, .instanceMethod yX2_nextLegsAreSound, .code yX2_nextIsSound cX2_nextIsSound 1 (some .boolean), .methodLink RX2 81 yX2_clear, .selects RX0 yX0_cellAt yX0_cellAt, .methodLink RX2 84 yX0_cellAt, .instanceMethod yX0_cellAt, .selects RX2 yX2_nextIsSound yX2_nextIsSound, .methodLink RX2 89 yX2_nextIsSound]
def hw_l7 : List Cond := [.instanceMethod yX2_nextIsSound, .code yX2_load cX2_load 3 none, .code yX2_endsInBlock cX2_endsInBlock 1 (some .boolean), .selects RX2 yX2_load yX2_load, .methodLink RX5 92 yX2_load, .instanceMethod yX2_load, .selects RX2 yX2_endsInBlock yX2_endsInBlock, .methodLink RX5 96 yX2_endsInBlock, .instanceMethod yX2_endsInBlock, .code yX5_recover cX5_recover 1 (some .int), .code yX5_on cX5_on 1 (some .boolean), .code yX5_entries cX5_entries 1 (some .int), .code yX2_syncedSize cX2_syncedSize 1 (some .int), .selects RX2 yX2_syncedSize yX2_syncedSize, .methodLink RX5 102 yX2_syncedSize, .instanceMethod yX2_syncedSize, .code yX5_synced cX5_synced 1 (some .int), .code yX5_balance cX5_balance 3 (some .int), .code yX5_statement cX5_statement 5 (some .int), .code yX5_find cX5_find 2 (some .int), .code yX2_leafOf cX2_leafOf 2 (some .int), .selects RX2 yX2_leafOf yX2_leafOf, .methodLink RX5 109 yX2_leafOf, .instanceMethod yX2_leafOf, .code yX5_leaf cX5_leaf 2 (some .int), .code yX5_split cX5_split 3 (some .int), .methodLink RX5 174 yX5_mix, .code yX5_node cX5_node 2 (some .int), .methodLink RX4 27 yX2_leafOf, .static yX5_split, .code yX4_hash cX4_hash 5 (some .int), .methodLink RX4 13 yX4_hash]
def hw_l8 : List Cond := [.static yX4_hash, .initialized RX4, .static yX5_node, .code yX4_headOf cX4_headOf 2 (some .int), .methodLink RX5 112 yX4_headOf, .static yX4_headOf, .code yX5_head cX5_head 2 (some .int), .fieldLink RX3 15 "SealedLedger$Pad" "count" "I", .code yX3_clear cX3_clear 1 none, .code yX3_add cX3_add 2 (some .boolean), .code yX4_inclusion cX4_inclusion 7 none, .methodLink RX4 19 yX4_inclusion, .static yX4_inclusion, .selects RX3 yX3_add yX3_add, .methodLink RX4 39 yX3_add, .instanceMethod yX3_add, .code yX4_addInclusion cX4_addInclusion 4 none, .code yX3_length cX3_length 1 (some .int), .selects RX3 yX3_clear yX3_clear, .methodLink RX5 118 yX3_clear, .instanceMethod yX3_clear, .methodLink RX5 119 yX4_addInclusion, .static yX4_addInclusion, .selects RX3 yX3_length yX3_length, .methodLink RX5 123 yX3_length, .instanceMethod yX3_length, .code yX5_prove cX5_prove 3 (some .int), .code yX4_consistency cX4_consistency 8 none, .methodLink RX4 23 yX4_consistency, .static yX4_consistency, .code yX4_addConsistency cX4_addConsistency 4 none, .methodLink RX5 126 yX4_addConsistency]
def hw_l9 : List Cond := [.static yX4_addConsistency, .code yX5_extend cX5_extend 3 (some .int), .methodLink RX5 129 yX3_add, .code yX5_put cX5_put 2 (some .boolean), .code yX3_removeLast cX3_removeLast 1 (some .boolean), .selects RX3 yX3_removeLast yX3_removeLast, .methodLink RX5 131 yX3_removeLast, .instanceMethod yX3_removeLast, .code yX5_take cX5_take 1 (some .boolean), .code yX3_intAt cX3_intAt 2 (some .int), .selects RX3 yX3_intAt yX3_intAt, .methodLink RX5 134 yX3_intAt, .instanceMethod yX3_intAt, .code yX5_pad cX5_pad 2 (some .int), .code yX3_inclusionLength cX3_inclusionLength 4 (some .int), .methodLink RX3 34 yX3_intAt, .code yX3_shownAbove cX3_shownAbove 7 (some .int), .methodLink RX3 23 yX3_shownAbove, .static yX3_shownAbove, .methodLink RX3 19 yX3_inclusionLength, .static yX3_inclusionLength, .code yX3_showsInclusion cX3_showsInclusion 5 (some .boolean), .selects RX3 yX3_showsInclusion yX3_showsInclusion, .methodLink RX5 137 yX3_showsInclusion, .instanceMethod yX3_showsInclusion, .code yX5_included cX5_included 5 (some .boolean), .code yX3_consistencySteps cX3_consistencySteps 4 (some .int), .code yX3_isOwn cX3_isOwn 3 (some .boolean), .code yX3_shownOld cX3_shownOld 6 (some .int), .methodLink RX3 38 yX3_shownOld, .static yX3_shownOld, .code yX3_shownNew cX3_shownNew 7 (some .int)]
def hw_l10 : List Cond := [.methodLink RX3 41 yX3_shownNew, .static yX3_shownNew, .methodLink RX3 27 yX3_consistencySteps, .static yX3_consistencySteps, .methodLink RX3 30 yX3_isOwn, .static yX3_isOwn, .code yX3_showsConsistency cX3_showsConsistency 8 (some .boolean), .selects RX3 yX3_showsConsistency yX3_showsConsistency, .methodLink RX5 141 yX3_showsConsistency, .instanceMethod yX3_showsConsistency, .code yX5_consistent cX5_consistent 5 (some .boolean), .methodLink RX5 144 yX0_cellAt, .code yX5_cell cX5_cell 2 (some .int), .code yX0_writesDone cX0_writesDone 1 (some .int), .selects RX0 yX0_writesDone yX0_writesDone, .methodLink RX5 147 yX0_writesDone, .instanceMethod yX0_writesDone, .code yX5_writes cX5_writes 1 (some .int)]
def hw_all : List Cond := hw_l0 ++ (hw_l1 ++ (hw_l2 ++ (hw_l3 ++ (hw_l4 ++ (hw_l5 ++ (hw_l6 ++ (hw_l7 ++ (hw_l8 ++ (hw_l9 ++ (hw_l10 ++ (u_ws RX0 TX0 3 ++ (u_ws RX1 TX1 3 ++ (u_ws RX2 TX2 7 ++ (u_ws RX3 TX3 2 ++ (u_ws RX5 TX5 6 ++ (u_ws RX6 TX6 22))))))))))))))))
theorem hw_i0 {w : Cond} (h : w ∈ hw_l0) : w ∈ hw_all := List.mem_append_left _ h
theorem hw_i1 {w : Cond} (h : w ∈ hw_l1) : w ∈ hw_all := List.mem_append_right _ (List.mem_append_left _ h)
theorem hw_i2 {w : Cond} (h : w ∈ hw_l2) : w ∈ hw_all := List.mem_append_right _ (List.mem_append_right _ (List.mem_append_left _ h))
theorem hw_i3 {w : Cond} (h : w ∈ hw_l3) : w ∈ hw_all := List.mem_append_right _ (List.mem_append_right _ (List.mem_append_right _ (List.mem_append_left _ h)))
theorem hw_i4 {w : Cond} (h : w ∈ hw_l4) : w ∈ hw_all := List.mem_append_right _ (List.mem_append_right _ (List.mem_append_right _ (List.mem_append_right _ (List.mem_append_left _ h))))
theorem hw_i5 {w : Cond} (h : w ∈ hw_l5) : w ∈ hw_all := List.mem_append_right _ (List.mem_append_right _ (List.mem_append_right _ (List.mem_append_right _ (List.mem_append_right _ (List.mem_append_left _ h)))))
theorem hw_i6 {w : Cond} (h : w ∈ hw_l6) : w ∈ hw_all := List.mem_append_right _ (List.mem_append_right _ (List.mem_append_right _ (List.mem_append_right _ (List.mem_append_right _ (List.mem_append_right _ (List.mem_append_left _ h))))))
theorem hw_i7 {w : Cond} (h : w ∈ hw_l7) : w ∈ hw_all := List.mem_append_right _ (List.mem_append_right _ (List.mem_append_right _ (List.mem_append_right _ (List.mem_append_right _ (List.mem_append_right _ (List.mem_append_right _ (List.mem_append_left _ h)))))))
theorem hw_i8 {w : Cond} (h : w ∈ hw_l8) : w ∈ hw_all := List.mem_append_right _ (List.mem_append_right _ (List.mem_append_right _ (List.mem_append_right _ (List.mem_append_right _ (List.mem_append_right _ (List.mem_append_right _ (List.mem_append_right _ (List.mem_append_left _ h))))))))
theorem hw_i9 {w : Cond} (h : w ∈ hw_l9) : w ∈ hw_all := List.mem_append_right _ (List.mem_append_right _ (List.mem_append_right _ (List.mem_append_right _ (List.mem_append_right _ (List.mem_append_right _ (List.mem_append_right _ (List.mem_append_right _ (List.mem_append_right _ (List.mem_append_left _ h)))))))))
theorem hw_i10 {w : Cond} (h : w ∈ hw_l10) : w ∈ hw_all := List.mem_append_right _ (List.mem_append_right _ (List.mem_append_right _ (List.mem_append_right _ (List.mem_append_right _ (List.mem_append_right _ (List.mem_append_right _ (List.mem_append_right _ (List.mem_append_right _ (List.mem_append_right _ (List.mem_append_left _ h))))))))))
theorem in_X0 : ∀ w ∈ u_ws RX0 TX0 3, w ∈ hw_all := fun w h => List.mem_append_right _ (List.mem_append_right _ (List.mem_append_right _ (List.mem_append_right _ (List.mem_append_right _ (List.mem_append_right _ (List.mem_append_right _ (List.mem_append_right _ (List.mem_append_right _ (List.mem_append_right _ (List.mem_append_right _ (List.mem_append_left _ h)))))))))))
theorem in_X1 : ∀ w ∈ u_ws RX1 TX1 3, w ∈ hw_all := fun w h => List.mem_append_right _ (List.mem_append_right _ (List.mem_append_right _ (List.mem_append_right _ (List.mem_append_right _ (List.mem_append_right _ (List.mem_append_right _ (List.mem_append_right _ (List.mem_append_right _ (List.mem_append_right _ (List.mem_append_right _ (List.mem_append_right _ (List.mem_append_left _ h))))))))))))
theorem in_X2 : ∀ w ∈ u_ws RX2 TX2 7, w ∈ hw_all := fun w h => List.mem_append_right _ (List.mem_append_right _ (List.mem_append_right _ (List.mem_append_right _ (List.mem_append_right _ (List.mem_append_right _ (List.mem_append_right _ (List.mem_append_right _ (List.mem_append_right _ (List.mem_append_right _ (List.mem_append_right _ (List.mem_append_right _ (List.mem_append_right _ (List.mem_append_left _ h)))))))))))))
theorem in_X3 : ∀ w ∈ u_ws RX3 TX3 2, w ∈ hw_all := fun w h => List.mem_append_right _ (List.mem_append_right _ (List.mem_append_right _ (List.mem_append_right _ (List.mem_append_right _ (List.mem_append_right _ (List.mem_append_right _ (List.mem_append_right _ (List.mem_append_right _ (List.mem_append_right _ (List.mem_append_right _ (List.mem_append_right _ (List.mem_append_right _ (List.mem_append_right _ (List.mem_append_left _ h))))))))))))))
theorem in_X5 : ∀ w ∈ u_ws RX5 TX5 6, w ∈ hw_all := fun w h => List.mem_append_right _ (List.mem_append_right _ (List.mem_append_right _ (List.mem_append_right _ (List.mem_append_right _ (List.mem_append_right _ (List.mem_append_right _ (List.mem_append_right _ (List.mem_append_right _ (List.mem_append_right _ (List.mem_append_right _ (List.mem_append_right _ (List.mem_append_right _ (List.mem_append_right _ (List.mem_append_right _ (List.mem_append_left _ h)))))))))))))))
theorem in_X6 : ∀ w ∈ u_ws RX6 TX6 22, w ∈ hw_all := fun w h => List.mem_append_right _ (List.mem_append_right _ (List.mem_append_right _ (List.mem_append_right _ (List.mem_append_right _ (List.mem_append_right _ (List.mem_append_right _ (List.mem_append_right _ (List.mem_append_right _ (List.mem_append_right _ (List.mem_append_right _ (List.mem_append_right _ (List.mem_append_right _ (List.mem_append_right _ (List.mem_append_right _ (List.mem_append_right _ (h))))))))))))))))
theorem mw_0 : (.methodLink RX1 3 objectInit : Cond) ∈ hw_all := hw_i0 (List.mem_of_getElem? (i := 0) rfl)
theorem mw_1 : (.instanceMethod objectInit : Cond) ∈ hw_all := hw_i0 (List.mem_of_getElem? (i := 1) rfl)
theorem mw_2 : (.code objectInit ⟨#[0xb1]⟩ 1 none : Cond) ∈ hw_all := hw_i0 (List.mem_of_getElem? (i := 2) rfl)
theorem mw_3 : (.arrayClass .int : Cond) ∈ hw_all := hw_i0 (List.mem_of_getElem? (i := 3) rfl)
theorem mw_4 : (.fieldLink RX1 9 "SealedLedger$Draft" "accounts" "[I" : Cond) ∈ hw_all := hw_i0 (List.mem_of_getElem? (i := 4) rfl)
theorem mw_5 : (.fieldLink RX1 15 "SealedLedger$Draft" "amounts" "[I" : Cond) ∈ hw_all := hw_i0 (List.mem_of_getElem? (i := 5) rfl)
theorem mw_6 : (.code yX1_init cX1_init 1 none : Cond) ∈ hw_all := hw_i0 (List.mem_of_getElem? (i := 6) rfl)
theorem mw_7 : (.methodLink RX2 3 objectInit : Cond) ∈ hw_all := hw_i0 (List.mem_of_getElem? (i := 7) rfl)
theorem mw_8 : (.fieldLink RX2 9 "SealedLedger$Log" "cells" "[I" : Cond) ∈ hw_all := hw_i0 (List.mem_of_getElem? (i := 8) rfl)
theorem mw_9 : (.fieldLink RX2 15 "SealedLedger$Log" "starts" "[I" : Cond) ∈ hw_all := hw_i0 (List.mem_of_getElem? (i := 9) rfl)
theorem mw_10 : (.fieldLink RX2 18 "SealedLedger$Log" "leaves" "[I" : Cond) ∈ hw_all := hw_i0 (List.mem_of_getElem? (i := 10) rfl)
theorem mw_11 : (.code yX2_init cX2_init 1 none : Cond) ∈ hw_all := hw_i0 (List.mem_of_getElem? (i := 11) rfl)
theorem mw_12 : (.methodLink RX0 3 objectInit : Cond) ∈ hw_all := hw_i0 (List.mem_of_getElem? (i := 12) rfl)
theorem mw_13 : (.fieldLink RX0 9 "SealedLedger$Disk" "cells" "[I" : Cond) ∈ hw_all := hw_i0 (List.mem_of_getElem? (i := 13) rfl)
theorem mw_14 : (.code yX0_init cX0_init 1 none : Cond) ∈ hw_all := hw_i0 (List.mem_of_getElem? (i := 14) rfl)
theorem mw_15 : (.methodLink RX3 3 objectInit : Cond) ∈ hw_all := hw_i0 (List.mem_of_getElem? (i := 15) rfl)
theorem mw_16 : (.fieldLink RX3 9 "SealedLedger$Pad" "ints" "[I" : Cond) ∈ hw_all := hw_i0 (List.mem_of_getElem? (i := 16) rfl)
theorem mw_17 : (.code yX3_init cX3_init 1 none : Cond) ∈ hw_all := hw_i0 (List.mem_of_getElem? (i := 17) rfl)
theorem mw_18 : (.methodLink RX5 3 objectInit : Cond) ∈ hw_all := hw_i0 (List.mem_of_getElem? (i := 18) rfl)
theorem mw_19 : (.fieldLink RX5 9 "SealedLedger" "limits" "[I" : Cond) ∈ hw_all := hw_i0 (List.mem_of_getElem? (i := 19) rfl)
theorem mw_20 : (.classLink RX5 13 RX1 : Cond) ∈ hw_all := hw_i0 (List.mem_of_getElem? (i := 20) rfl)
theorem mw_21 : (.instantiable RX1 3 : Cond) ∈ hw_all := hw_i0 (List.mem_of_getElem? (i := 21) rfl)
theorem mw_22 : (.initialized RX1 : Cond) ∈ hw_all := hw_i0 (List.mem_of_getElem? (i := 22) rfl)
theorem mw_23 : (.methodLink RX5 15 yX1_init : Cond) ∈ hw_all := hw_i0 (List.mem_of_getElem? (i := 23) rfl)
theorem mw_24 : (.instanceMethod yX1_init : Cond) ∈ hw_all := hw_i0 (List.mem_of_getElem? (i := 24) rfl)
theorem mw_25 : (.fieldLink RX5 16 "SealedLedger" "draft" "LSealedLedger$Draft;" : Cond) ∈ hw_all := hw_i0 (List.mem_of_getElem? (i := 25) rfl)
theorem mw_26 : (.classLink RX5 20 RX2 : Cond) ∈ hw_all := hw_i0 (List.mem_of_getElem? (i := 26) rfl)
theorem mw_27 : (.instantiable RX2 7 : Cond) ∈ hw_all := hw_i0 (List.mem_of_getElem? (i := 27) rfl)
theorem mw_28 : (.initialized RX2 : Cond) ∈ hw_all := hw_i0 (List.mem_of_getElem? (i := 28) rfl)
theorem mw_29 : (.methodLink RX5 22 yX2_init : Cond) ∈ hw_all := hw_i0 (List.mem_of_getElem? (i := 29) rfl)
theorem mw_30 : (.instanceMethod yX2_init : Cond) ∈ hw_all := hw_i0 (List.mem_of_getElem? (i := 30) rfl)
theorem mw_31 : (.fieldLink RX5 23 "SealedLedger" "log" "LSealedLedger$Log;" : Cond) ∈ hw_all := hw_i0 (List.mem_of_getElem? (i := 31) rfl)
theorem mw_32 : (.classLink RX5 27 RX0 : Cond) ∈ hw_all := hw_i1 (List.mem_of_getElem? (i := 0) rfl)
theorem mw_33 : (.instantiable RX0 3 : Cond) ∈ hw_all := hw_i1 (List.mem_of_getElem? (i := 1) rfl)
theorem mw_34 : (.initialized RX0 : Cond) ∈ hw_all := hw_i1 (List.mem_of_getElem? (i := 2) rfl)
theorem mw_35 : (.methodLink RX5 29 yX0_init : Cond) ∈ hw_all := hw_i1 (List.mem_of_getElem? (i := 3) rfl)
theorem mw_36 : (.instanceMethod yX0_init : Cond) ∈ hw_all := hw_i1 (List.mem_of_getElem? (i := 4) rfl)
theorem mw_37 : (.fieldLink RX5 30 "SealedLedger" "disk" "LSealedLedger$Disk;" : Cond) ∈ hw_all := hw_i1 (List.mem_of_getElem? (i := 5) rfl)
theorem mw_38 : (.classLink RX5 34 RX3 : Cond) ∈ hw_all := hw_i1 (List.mem_of_getElem? (i := 6) rfl)
theorem mw_39 : (.instantiable RX3 2 : Cond) ∈ hw_all := hw_i1 (List.mem_of_getElem? (i := 7) rfl)
theorem mw_40 : (.initialized RX3 : Cond) ∈ hw_all := hw_i1 (List.mem_of_getElem? (i := 8) rfl)
theorem mw_41 : (.methodLink RX5 36 yX3_init : Cond) ∈ hw_all := hw_i1 (List.mem_of_getElem? (i := 9) rfl)
theorem mw_42 : (.instanceMethod yX3_init : Cond) ∈ hw_all := hw_i1 (List.mem_of_getElem? (i := 10) rfl)
theorem mw_43 : (.fieldLink RX5 37 "SealedLedger" "proof" "LSealedLedger$Pad;" : Cond) ∈ hw_all := hw_i1 (List.mem_of_getElem? (i := 11) rfl)
theorem mw_44 : (.fieldLink RX5 41 "SealedLedger" "running" "Z" : Cond) ∈ hw_all := hw_i1 (List.mem_of_getElem? (i := 12) rfl)
theorem mw_45 : (.code yX5_init cX5_init 1 none : Cond) ∈ hw_all := hw_i1 (List.mem_of_getElem? (i := 13) rfl)
theorem mw_46 : (.code yX5_isAccount cX5_isAccount 1 (some .boolean) : Cond) ∈ hw_all := hw_i1 (List.mem_of_getElem? (i := 14) rfl)
theorem mw_47 : (.methodLink RX5 45 yX5_isAccount : Cond) ∈ hw_all := hw_i1 (List.mem_of_getElem? (i := 15) rfl)
theorem mw_48 : (.static yX5_isAccount : Cond) ∈ hw_all := hw_i1 (List.mem_of_getElem? (i := 16) rfl)
theorem mw_49 : (.initialized RX5 : Cond) ∈ hw_all := hw_i1 (List.mem_of_getElem? (i := 17) rfl)
theorem mw_50 : (.constant RX5 49 (99999 : Int32) : Cond) ∈ hw_all := hw_i1 (List.mem_of_getElem? (i := 18) rfl)
theorem mw_51 : (.code yX5_limit cX5_limit 3 (some .boolean) : Cond) ∈ hw_all := hw_i1 (List.mem_of_getElem? (i := 19) rfl)
theorem mw_52 : (.code yX5_isAmount cX5_isAmount 1 (some .boolean) : Cond) ∈ hw_all := hw_i1 (List.mem_of_getElem? (i := 20) rfl)
theorem mw_53 : (.fieldLink RX1 18 "SealedLedger$Draft" "count" "I" : Cond) ∈ hw_all := hw_i1 (List.mem_of_getElem? (i := 21) rfl)
theorem mw_54 : (.code yX1_add cX1_add 3 (some .boolean) : Cond) ∈ hw_all := hw_i1 (List.mem_of_getElem? (i := 22) rfl)
theorem mw_55 : (.methodLink RX5 50 yX5_isAmount : Cond) ∈ hw_all := hw_i1 (List.mem_of_getElem? (i := 23) rfl)
theorem mw_56 : (.static yX5_isAmount : Cond) ∈ hw_all := hw_i1 (List.mem_of_getElem? (i := 24) rfl)
theorem mw_57 : (.selects RX1 yX1_add yX1_add : Cond) ∈ hw_all := hw_i1 (List.mem_of_getElem? (i := 25) rfl)
theorem mw_58 : (.methodLink RX5 53 yX1_add : Cond) ∈ hw_all := hw_i1 (List.mem_of_getElem? (i := 26) rfl)
theorem mw_59 : (.instanceMethod yX1_add : Cond) ∈ hw_all := hw_i1 (List.mem_of_getElem? (i := 27) rfl)
theorem mw_60 : (.code yX5_leg cX5_leg 3 (some .boolean) : Cond) ∈ hw_all := hw_i1 (List.mem_of_getElem? (i := 28) rfl)
theorem mw_61 : (.code yX1_clear cX1_clear 1 none : Cond) ∈ hw_all := hw_i1 (List.mem_of_getElem? (i := 29) rfl)
theorem mw_62 : (.selects RX1 yX1_clear yX1_clear : Cond) ∈ hw_all := hw_i1 (List.mem_of_getElem? (i := 30) rfl)
theorem mw_63 : (.methodLink RX5 57 yX1_clear : Cond) ∈ hw_all := hw_i1 (List.mem_of_getElem? (i := 31) rfl)
theorem mw_64 : (.instanceMethod yX1_clear : Cond) ∈ hw_all := hw_i2 (List.mem_of_getElem? (i := 0) rfl)
theorem mw_65 : (.code yX5_drop cX5_drop 1 none : Cond) ∈ hw_all := hw_i2 (List.mem_of_getElem? (i := 1) rfl)
theorem mw_66 : (.code yX1_isEven cX1_isEven 3 (some .boolean) : Cond) ∈ hw_all := hw_i2 (List.mem_of_getElem? (i := 2) rfl)
theorem mw_67 : (.fieldLink RX2 21 "SealedLedger$Log" "count" "I" : Cond) ∈ hw_all := hw_i2 (List.mem_of_getElem? (i := 3) rfl)
theorem mw_68 : (.code yX2_firstWith cX2_firstWith 3 (some .int) : Cond) ∈ hw_all := hw_i2 (List.mem_of_getElem? (i := 4) rfl)
theorem mw_69 : (.code yX1_size cX1_size 1 (some .int) : Cond) ∈ hw_all := hw_i2 (List.mem_of_getElem? (i := 5) rfl)
theorem mw_70 : (.code yX1_accountAt cX1_accountAt 2 (some .int) : Cond) ∈ hw_all := hw_i2 (List.mem_of_getElem? (i := 6) rfl)
theorem mw_71 : (.code yX2_size cX2_size 1 (some .int) : Cond) ∈ hw_all := hw_i2 (List.mem_of_getElem? (i := 7) rfl)
theorem mw_72 : (.code yX2_accountCell cX2_accountCell 2 (some .int) : Cond) ∈ hw_all := hw_i2 (List.mem_of_getElem? (i := 8) rfl)
theorem mw_73 : (.code yX2_amountCell cX2_amountCell 2 (some .int) : Cond) ∈ hw_all := hw_i2 (List.mem_of_getElem? (i := 9) rfl)
theorem mw_74 : (.methodLink RX2 53 yX2_accountCell : Cond) ∈ hw_all := hw_i2 (List.mem_of_getElem? (i := 10) rfl)
theorem mw_75 : (.static yX2_accountCell : Cond) ∈ hw_all := hw_i2 (List.mem_of_getElem? (i := 11) rfl)
theorem mw_76 : (.methodLink RX2 60 yX2_amountCell : Cond) ∈ hw_all := hw_i2 (List.mem_of_getElem? (i := 12) rfl)
theorem mw_77 : (.static yX2_amountCell : Cond) ∈ hw_all := hw_i2 (List.mem_of_getElem? (i := 13) rfl)
theorem mw_78 : (.code yX2_totalAt cX2_totalAt 6 (some .int) : Cond) ∈ hw_all := hw_i2 (List.mem_of_getElem? (i := 14) rfl)
theorem mw_79 : (.methodLink RX2 93 Lib.Math.min.name : Cond) ∈ hw_all := hw_i2 (List.mem_of_getElem? (i := 15) rfl)
theorem mw_80 : (.static Lib.Math.min.name : Cond) ∈ hw_all := hw_i2 (List.mem_of_getElem? (i := 16) rfl)
theorem mw_81 : (.initialized "java/lang/Math" : Cond) ∈ hw_all := hw_i2 (List.mem_of_getElem? (i := 17) rfl)
theorem mw_82 : (.code Lib.Math.min.name Lib.Math.min.code 2 (some .int) : Cond) ∈ hw_all := hw_i2 (List.mem_of_getElem? (i := 18) rfl)
theorem mw_83 : (.methodLink RX2 98 Lib.Math.max.name : Cond) ∈ hw_all := hw_i2 (List.mem_of_getElem? (i := 19) rfl)
theorem mw_84 : (.static Lib.Math.max.name : Cond) ∈ hw_all := hw_i2 (List.mem_of_getElem? (i := 20) rfl)
theorem mw_85 : (.code Lib.Math.max.name Lib.Math.max.code 2 (some .int) : Cond) ∈ hw_all := hw_i2 (List.mem_of_getElem? (i := 21) rfl)
theorem mw_86 : (.selects RX2 yX2_totalAt yX2_totalAt : Cond) ∈ hw_all := hw_i2 (List.mem_of_getElem? (i := 22) rfl)
theorem mw_87 : (.methodLink RX2 101 yX2_totalAt : Cond) ∈ hw_all := hw_i2 (List.mem_of_getElem? (i := 23) rfl)
theorem mw_88 : (.instanceMethod yX2_totalAt : Cond) ∈ hw_all := hw_i2 (List.mem_of_getElem? (i := 24) rfl)
theorem mw_89 : (.code yX2_total cX2_total 8 (some .int) : Cond) ∈ hw_all := hw_i2 (List.mem_of_getElem? (i := 25) rfl)
theorem mw_90 : (.code yX1_change cX1_change 4 (some .int) : Cond) ∈ hw_all := hw_i2 (List.mem_of_getElem? (i := 26) rfl)
theorem mw_91 : (.selects RX1 yX1_size yX1_size : Cond) ∈ hw_all := hw_i2 (List.mem_of_getElem? (i := 27) rfl)
theorem mw_92 : (.methodLink RX5 157 yX1_size : Cond) ∈ hw_all := hw_i2 (List.mem_of_getElem? (i := 28) rfl)
theorem mw_93 : (.instanceMethod yX1_size : Cond) ∈ hw_all := hw_i2 (List.mem_of_getElem? (i := 29) rfl)
theorem mw_94 : (.selects RX1 yX1_accountAt yX1_accountAt : Cond) ∈ hw_all := hw_i2 (List.mem_of_getElem? (i := 30) rfl)
theorem mw_95 : (.methodLink RX5 158 yX1_accountAt : Cond) ∈ hw_all := hw_i2 (List.mem_of_getElem? (i := 31) rfl)
theorem mw_96 : (.instanceMethod yX1_accountAt : Cond) ∈ hw_all := hw_i3 (List.mem_of_getElem? (i := 0) rfl)
theorem mw_97 : (.selects RX2 yX2_size yX2_size : Cond) ∈ hw_all := hw_i3 (List.mem_of_getElem? (i := 1) rfl)
theorem mw_98 : (.methodLink RX5 99 yX2_size : Cond) ∈ hw_all := hw_i3 (List.mem_of_getElem? (i := 2) rfl)
theorem mw_99 : (.instanceMethod yX2_size : Cond) ∈ hw_all := hw_i3 (List.mem_of_getElem? (i := 3) rfl)
theorem mw_100 : (.selects RX2 yX2_total yX2_total : Cond) ∈ hw_all := hw_i3 (List.mem_of_getElem? (i := 4) rfl)
theorem mw_101 : (.methodLink RX5 105 yX2_total : Cond) ∈ hw_all := hw_i3 (List.mem_of_getElem? (i := 5) rfl)
theorem mw_102 : (.instanceMethod yX2_total : Cond) ∈ hw_all := hw_i3 (List.mem_of_getElem? (i := 6) rfl)
theorem mw_103 : (.selects RX1 yX1_change yX1_change : Cond) ∈ hw_all := hw_i3 (List.mem_of_getElem? (i := 7) rfl)
theorem mw_104 : (.methodLink RX5 161 yX1_change : Cond) ∈ hw_all := hw_i3 (List.mem_of_getElem? (i := 8) rfl)
theorem mw_105 : (.instanceMethod yX1_change : Cond) ∈ hw_all := hw_i3 (List.mem_of_getElem? (i := 9) rfl)
theorem mw_106 : (.code yX5_isPoor cX5_isPoor 4 (some .boolean) : Cond) ∈ hw_all := hw_i3 (List.mem_of_getElem? (i := 10) rfl)
theorem mw_107 : (.code yX5_entryCells cX5_entryCells 1 (some .int) : Cond) ∈ hw_all := hw_i3 (List.mem_of_getElem? (i := 11) rfl)
theorem mw_108 : (.code yX1_amountAt cX1_amountAt 2 (some .int) : Cond) ∈ hw_all := hw_i3 (List.mem_of_getElem? (i := 12) rfl)
theorem mw_109 : (.static yX5_entryCells : Cond) ∈ hw_all := hw_i3 (List.mem_of_getElem? (i := 13) rfl)
theorem mw_110 : (.code yX2_sealCell cX2_sealCell 2 (some .int) : Cond) ∈ hw_all := hw_i3 (List.mem_of_getElem? (i := 14) rfl)
theorem mw_111 : (.fieldLink RX2 28 "SealedLedger$Log" "end" "I" : Cond) ∈ hw_all := hw_i3 (List.mem_of_getElem? (i := 15) rfl)
theorem mw_112 : (.code yX2_lastSeal cX2_lastSeal 1 (some .int) : Cond) ∈ hw_all := hw_i3 (List.mem_of_getElem? (i := 16) rfl)
theorem mw_113 : (.constant RX5 172 (16777619 : Int32) : Cond) ∈ hw_all := hw_i3 (List.mem_of_getElem? (i := 17) rfl)
theorem mw_114 : (.constant RX5 173 (739982445 : Int32) : Cond) ∈ hw_all := hw_i3 (List.mem_of_getElem? (i := 18) rfl)
theorem mw_115 : (.code yX5_mix cX5_mix 4 (some .int) : Cond) ∈ hw_all := hw_i3 (List.mem_of_getElem? (i := 19) rfl)
theorem mw_116 : (.static yX5_mix : Cond) ∈ hw_all := hw_i3 (List.mem_of_getElem? (i := 20) rfl)
theorem mw_117 : (.code yX2_leafFrom cX2_leafFrom 4 (some .int) : Cond) ∈ hw_all := hw_i3 (List.mem_of_getElem? (i := 21) rfl)
theorem mw_118 : (.selects RX2 yX2_leafFrom yX2_leafFrom : Cond) ∈ hw_all := hw_i3 (List.mem_of_getElem? (i := 22) rfl)
theorem mw_119 : (.methodLink RX2 72 yX2_leafFrom : Cond) ∈ hw_all := hw_i3 (List.mem_of_getElem? (i := 23) rfl)
theorem mw_120 : (.instanceMethod yX2_leafFrom : Cond) ∈ hw_all := hw_i3 (List.mem_of_getElem? (i := 24) rfl)
theorem mw_121 : (.code yX2_acceptNext cX2_acceptNext 1 none : Cond) ∈ hw_all := hw_i3 (List.mem_of_getElem? (i := 25) rfl)
theorem mw_122 : (.methodLink RX2 44 yX1_size : Cond) ∈ hw_all := hw_i3 (List.mem_of_getElem? (i := 26) rfl)
theorem mw_123 : (.selects RX2 yX2_sealCell yX2_sealCell : Cond) ∈ hw_all := hw_i3 (List.mem_of_getElem? (i := 27) rfl)
theorem mw_124 : (.methodLink RX2 66 yX2_sealCell : Cond) ∈ hw_all := hw_i3 (List.mem_of_getElem? (i := 28) rfl)
theorem mw_125 : (.instanceMethod yX2_sealCell : Cond) ∈ hw_all := hw_i3 (List.mem_of_getElem? (i := 29) rfl)
theorem mw_126 : (.selects RX2 yX2_lastSeal yX2_lastSeal : Cond) ∈ hw_all := hw_i3 (List.mem_of_getElem? (i := 30) rfl)
theorem mw_127 : (.methodLink RX2 69 yX2_lastSeal : Cond) ∈ hw_all := hw_i3 (List.mem_of_getElem? (i := 31) rfl)
theorem mw_128 : (.instanceMethod yX2_lastSeal : Cond) ∈ hw_all := hw_i4 (List.mem_of_getElem? (i := 0) rfl)
theorem mw_129 : (.selects RX2 yX2_acceptNext yX2_acceptNext : Cond) ∈ hw_all := hw_i4 (List.mem_of_getElem? (i := 1) rfl)
theorem mw_130 : (.methodLink RX2 78 yX2_acceptNext : Cond) ∈ hw_all := hw_i4 (List.mem_of_getElem? (i := 2) rfl)
theorem mw_131 : (.instanceMethod yX2_acceptNext : Cond) ∈ hw_all := hw_i4 (List.mem_of_getElem? (i := 3) rfl)
theorem mw_132 : (.methodLink RX2 57 yX1_accountAt : Cond) ∈ hw_all := hw_i4 (List.mem_of_getElem? (i := 4) rfl)
theorem mw_133 : (.selects RX1 yX1_amountAt yX1_amountAt : Cond) ∈ hw_all := hw_i4 (List.mem_of_getElem? (i := 5) rfl)
theorem mw_134 : (.methodLink RX2 63 yX1_amountAt : Cond) ∈ hw_all := hw_i4 (List.mem_of_getElem? (i := 6) rfl)
theorem mw_135 : (.instanceMethod yX1_amountAt : Cond) ∈ hw_all := hw_i4 (List.mem_of_getElem? (i := 7) rfl)
theorem mw_136 : (.code yX2_append cX2_append 5 (some .boolean) : Cond) ∈ hw_all := hw_i4 (List.mem_of_getElem? (i := 8) rfl)
theorem mw_137 : (.selects RX5 yX5_isPoor yX5_isPoor : Cond) ∈ hw_all := hw_i4 (List.mem_of_getElem? (i := 9) rfl)
theorem mw_138 : (.methodLink RX5 150 yX5_isPoor : Cond) ∈ hw_all := hw_i4 (List.mem_of_getElem? (i := 10) rfl)
theorem mw_139 : (.instanceMethod yX5_isPoor : Cond) ∈ hw_all := hw_i4 (List.mem_of_getElem? (i := 11) rfl)
theorem mw_140 : (.selects RX2 yX2_append yX2_append : Cond) ∈ hw_all := hw_i4 (List.mem_of_getElem? (i := 12) rfl)
theorem mw_141 : (.methodLink RX5 153 yX2_append : Cond) ∈ hw_all := hw_i4 (List.mem_of_getElem? (i := 13) rfl)
theorem mw_142 : (.instanceMethod yX2_append : Cond) ∈ hw_all := hw_i4 (List.mem_of_getElem? (i := 14) rfl)
theorem mw_143 : (.code yX5_commitNew cX5_commitNew 2 (some .int) : Cond) ∈ hw_all := hw_i4 (List.mem_of_getElem? (i := 15) rfl)
theorem mw_144 : (.code yX2_hasLegsOf cX2_hasLegsOf 5 (some .boolean) : Cond) ∈ hw_all := hw_i4 (List.mem_of_getElem? (i := 16) rfl)
theorem mw_145 : (.selects RX1 yX1_isEven yX1_isEven : Cond) ∈ hw_all := hw_i4 (List.mem_of_getElem? (i := 17) rfl)
theorem mw_146 : (.methodLink RX5 60 yX1_isEven : Cond) ∈ hw_all := hw_i4 (List.mem_of_getElem? (i := 18) rfl)
theorem mw_147 : (.instanceMethod yX1_isEven : Cond) ∈ hw_all := hw_i4 (List.mem_of_getElem? (i := 19) rfl)
theorem mw_148 : (.selects RX2 yX2_firstWith yX2_firstWith : Cond) ∈ hw_all := hw_i4 (List.mem_of_getElem? (i := 20) rfl)
theorem mw_149 : (.methodLink RX5 64 yX2_firstWith : Cond) ∈ hw_all := hw_i4 (List.mem_of_getElem? (i := 21) rfl)
theorem mw_150 : (.instanceMethod yX2_firstWith : Cond) ∈ hw_all := hw_i4 (List.mem_of_getElem? (i := 22) rfl)
theorem mw_151 : (.selects RX2 yX2_hasLegsOf yX2_hasLegsOf : Cond) ∈ hw_all := hw_i4 (List.mem_of_getElem? (i := 23) rfl)
theorem mw_152 : (.methodLink RX5 71 yX2_hasLegsOf : Cond) ∈ hw_all := hw_i4 (List.mem_of_getElem? (i := 24) rfl)
theorem mw_153 : (.instanceMethod yX2_hasLegsOf : Cond) ∈ hw_all := hw_i4 (List.mem_of_getElem? (i := 25) rfl)
theorem mw_154 : (.selects RX5 yX5_commitNew yX5_commitNew : Cond) ∈ hw_all := hw_i4 (List.mem_of_getElem? (i := 26) rfl)
theorem mw_155 : (.methodLink RX5 68 yX5_commitNew : Cond) ∈ hw_all := hw_i4 (List.mem_of_getElem? (i := 27) rfl)
theorem mw_156 : (.instanceMethod yX5_commitNew : Cond) ∈ hw_all := hw_i4 (List.mem_of_getElem? (i := 28) rfl)
theorem mw_157 : (.code yX5_commit cX5_commit 3 (some .int) : Cond) ∈ hw_all := hw_i4 (List.mem_of_getElem? (i := 29) rfl)
theorem mw_158 : (.code yX2_blockOf cX2_blockOf 1 (some .int) : Cond) ∈ hw_all := hw_i4 (List.mem_of_getElem? (i := 30) rfl)
theorem mw_159 : (.fieldLink RX2 35 "SealedLedger$Log" "syncedEnd" "I" : Cond) ∈ hw_all := hw_i4 (List.mem_of_getElem? (i := 31) rfl)
theorem mw_160 : (.methodLink RX2 31 yX2_blockOf : Cond) ∈ hw_all := hw_i5 (List.mem_of_getElem? (i := 0) rfl)
theorem mw_161 : (.static yX2_blockOf : Cond) ∈ hw_all := hw_i5 (List.mem_of_getElem? (i := 1) rfl)
theorem mw_162 : (.code yX2_syncedBlock cX2_syncedBlock 1 (some .int) : Cond) ∈ hw_all := hw_i5 (List.mem_of_getElem? (i := 2) rfl)
theorem mw_163 : (.code yX2_endBlock cX2_endBlock 1 (some .int) : Cond) ∈ hw_all := hw_i5 (List.mem_of_getElem? (i := 3) rfl)
theorem mw_164 : (.code yX2_cellAt cX2_cellAt 2 (some .int) : Cond) ∈ hw_all := hw_i5 (List.mem_of_getElem? (i := 4) rfl)
theorem mw_165 : (.fieldLink RX0 15 "SealedLedger$Disk" "failing" "I" : Cond) ∈ hw_all := hw_i5 (List.mem_of_getElem? (i := 5) rfl)
theorem mw_166 : (.fieldLink RX0 19 "SealedLedger$Disk" "done" "I" : Cond) ∈ hw_all := hw_i5 (List.mem_of_getElem? (i := 6) rfl)
theorem mw_167 : (.selects RX2 yX2_cellAt yX2_cellAt : Cond) ∈ hw_all := hw_i5 (List.mem_of_getElem? (i := 7) rfl)
theorem mw_168 : (.methodLink RX0 22 yX2_cellAt : Cond) ∈ hw_all := hw_i5 (List.mem_of_getElem? (i := 8) rfl)
theorem mw_169 : (.instanceMethod yX2_cellAt : Cond) ∈ hw_all := hw_i5 (List.mem_of_getElem? (i := 9) rfl)
theorem mw_170 : (.code yX0_write cX0_write 5 (some .boolean) : Cond) ∈ hw_all := hw_i5 (List.mem_of_getElem? (i := 10) rfl)
theorem mw_171 : (.fieldLink RX2 25 "SealedLedger$Log" "syncedCount" "I" : Cond) ∈ hw_all := hw_i5 (List.mem_of_getElem? (i := 11) rfl)
theorem mw_172 : (.code yX2_markSynced cX2_markSynced 1 none : Cond) ∈ hw_all := hw_i5 (List.mem_of_getElem? (i := 12) rfl)
theorem mw_173 : (.code yX2_clearBehindEnd cX2_clearBehindEnd 2 none : Cond) ∈ hw_all := hw_i5 (List.mem_of_getElem? (i := 13) rfl)
theorem mw_174 : (.selects RX2 yX2_markSynced yX2_markSynced : Cond) ∈ hw_all := hw_i5 (List.mem_of_getElem? (i := 14) rfl)
theorem mw_175 : (.methodLink RX2 38 yX2_markSynced : Cond) ∈ hw_all := hw_i5 (List.mem_of_getElem? (i := 15) rfl)
theorem mw_176 : (.instanceMethod yX2_markSynced : Cond) ∈ hw_all := hw_i5 (List.mem_of_getElem? (i := 16) rfl)
theorem mw_177 : (.selects RX2 yX2_clearBehindEnd yX2_clearBehindEnd : Cond) ∈ hw_all := hw_i5 (List.mem_of_getElem? (i := 17) rfl)
theorem mw_178 : (.methodLink RX2 41 yX2_clearBehindEnd : Cond) ∈ hw_all := hw_i5 (List.mem_of_getElem? (i := 18) rfl)
theorem mw_179 : (.instanceMethod yX2_clearBehindEnd : Cond) ∈ hw_all := hw_i5 (List.mem_of_getElem? (i := 19) rfl)
theorem mw_180 : (.code yX2_clear cX2_clear 1 none : Cond) ∈ hw_all := hw_i5 (List.mem_of_getElem? (i := 20) rfl)
theorem mw_181 : (.selects RX2 yX2_clear yX2_clear : Cond) ∈ hw_all := hw_i5 (List.mem_of_getElem? (i := 21) rfl)
theorem mw_182 : (.methodLink RX5 171 yX2_clear : Cond) ∈ hw_all := hw_i5 (List.mem_of_getElem? (i := 22) rfl)
theorem mw_183 : (.instanceMethod yX2_clear : Cond) ∈ hw_all := hw_i5 (List.mem_of_getElem? (i := 23) rfl)
theorem mw_184 : (.code yX5_losePower cX5_losePower 1 none : Cond) ∈ hw_all := hw_i5 (List.mem_of_getElem? (i := 24) rfl)
theorem mw_185 : (.selects RX0 yX0_write yX0_write : Cond) ∈ hw_all := hw_i5 (List.mem_of_getElem? (i := 25) rfl)
theorem mw_186 : (.methodLink RX5 164 yX0_write : Cond) ∈ hw_all := hw_i5 (List.mem_of_getElem? (i := 26) rfl)
theorem mw_187 : (.instanceMethod yX0_write : Cond) ∈ hw_all := hw_i5 (List.mem_of_getElem? (i := 27) rfl)
theorem mw_188 : (.selects RX5 yX5_losePower yX5_losePower : Cond) ∈ hw_all := hw_i5 (List.mem_of_getElem? (i := 28) rfl)
theorem mw_189 : (.methodLink RX5 168 yX5_losePower : Cond) ∈ hw_all := hw_i5 (List.mem_of_getElem? (i := 29) rfl)
theorem mw_190 : (.instanceMethod yX5_losePower : Cond) ∈ hw_all := hw_i5 (List.mem_of_getElem? (i := 30) rfl)
theorem mw_191 : (.code yX5_writeBlock cX5_writeBlock 2 (some .boolean) : Cond) ∈ hw_all := hw_i5 (List.mem_of_getElem? (i := 31) rfl)
theorem mw_192 : (.selects RX2 yX2_syncedBlock yX2_syncedBlock : Cond) ∈ hw_all := hw_i6 (List.mem_of_getElem? (i := 0) rfl)
theorem mw_193 : (.methodLink RX5 75 yX2_syncedBlock : Cond) ∈ hw_all := hw_i6 (List.mem_of_getElem? (i := 1) rfl)
theorem mw_194 : (.instanceMethod yX2_syncedBlock : Cond) ∈ hw_all := hw_i6 (List.mem_of_getElem? (i := 2) rfl)
theorem mw_195 : (.selects RX2 yX2_endBlock yX2_endBlock : Cond) ∈ hw_all := hw_i6 (List.mem_of_getElem? (i := 3) rfl)
theorem mw_196 : (.methodLink RX5 79 yX2_endBlock : Cond) ∈ hw_all := hw_i6 (List.mem_of_getElem? (i := 4) rfl)
theorem mw_197 : (.instanceMethod yX2_endBlock : Cond) ∈ hw_all := hw_i6 (List.mem_of_getElem? (i := 5) rfl)
theorem mw_198 : (.methodLink RX5 85 yX2_markSynced : Cond) ∈ hw_all := hw_i6 (List.mem_of_getElem? (i := 6) rfl)
theorem mw_199 : (.selects RX5 yX5_writeBlock yX5_writeBlock : Cond) ∈ hw_all := hw_i6 (List.mem_of_getElem? (i := 7) rfl)
theorem mw_200 : (.methodLink RX5 82 yX5_writeBlock : Cond) ∈ hw_all := hw_i6 (List.mem_of_getElem? (i := 8) rfl)
theorem mw_201 : (.instanceMethod yX5_writeBlock : Cond) ∈ hw_all := hw_i6 (List.mem_of_getElem? (i := 9) rfl)
theorem mw_202 : (.code yX5_sync cX5_sync 4 (some .int) : Cond) ∈ hw_all := hw_i6 (List.mem_of_getElem? (i := 10) rfl)
theorem mw_203 : (.code yX0_failAt cX0_failAt 2 none : Cond) ∈ hw_all := hw_i6 (List.mem_of_getElem? (i := 11) rfl)
theorem mw_204 : (.selects RX0 yX0_failAt yX0_failAt : Cond) ∈ hw_all := hw_i6 (List.mem_of_getElem? (i := 12) rfl)
theorem mw_205 : (.methodLink RX5 88 yX0_failAt : Cond) ∈ hw_all := hw_i6 (List.mem_of_getElem? (i := 13) rfl)
theorem mw_206 : (.instanceMethod yX0_failAt : Cond) ∈ hw_all := hw_i6 (List.mem_of_getElem? (i := 14) rfl)
theorem mw_207 : (.code yX5_fail cX5_fail 2 (some .boolean) : Cond) ∈ hw_all := hw_i6 (List.mem_of_getElem? (i := 15) rfl)
theorem mw_208 : (.code yX0_cellAt cX0_cellAt 2 (some .int) : Cond) ∈ hw_all := hw_i6 (List.mem_of_getElem? (i := 16) rfl)
theorem mw_209 : (.code yX2_nextFits cX2_nextFits 1 (some .boolean) : Cond) ∈ hw_all := hw_i6 (List.mem_of_getElem? (i := 17) rfl)
theorem mw_210 : (.code yX2_nextLegsAreSound cX2_nextLegsAreSound 4 (some .boolean) : Cond) ∈ hw_all := hw_i6 (List.mem_of_getElem? (i := 18) rfl)
theorem mw_211 : (.selects RX2 yX2_nextFits yX2_nextFits : Cond) ∈ hw_all := hw_i6 (List.mem_of_getElem? (i := 19) rfl)
theorem mw_212 : (.methodLink RX2 105 yX2_nextFits : Cond) ∈ hw_all := hw_i6 (List.mem_of_getElem? (i := 20) rfl)
theorem mw_213 : (.instanceMethod yX2_nextFits : Cond) ∈ hw_all := hw_i6 (List.mem_of_getElem? (i := 21) rfl)
theorem mw_214 : (.selects RX2 yX2_nextLegsAreSound yX2_nextLegsAreSound : Cond) ∈ hw_all := hw_i6 (List.mem_of_getElem? (i := 22) rfl)
theorem mw_215 : (.methodLink RX2 108 yX2_nextLegsAreSound : Cond) ∈ hw_all := hw_i6 (List.mem_of_getElem? (i := 23) rfl)
theorem mw_216 : (.instanceMethod yX2_nextLegsAreSound : Cond) ∈ hw_all := hw_i6 (List.mem_of_getElem? (i := 24) rfl)
theorem mw_217 : (.code yX2_nextIsSound cX2_nextIsSound 1 (some .boolean) : Cond) ∈ hw_all := hw_i6 (List.mem_of_getElem? (i := 25) rfl)
theorem mw_218 : (.methodLink RX2 81 yX2_clear : Cond) ∈ hw_all := hw_i6 (List.mem_of_getElem? (i := 26) rfl)
theorem mw_219 : (.selects RX0 yX0_cellAt yX0_cellAt : Cond) ∈ hw_all := hw_i6 (List.mem_of_getElem? (i := 27) rfl)
theorem mw_220 : (.methodLink RX2 84 yX0_cellAt : Cond) ∈ hw_all := hw_i6 (List.mem_of_getElem? (i := 28) rfl)
theorem mw_221 : (.instanceMethod yX0_cellAt : Cond) ∈ hw_all := hw_i6 (List.mem_of_getElem? (i := 29) rfl)
theorem mw_222 : (.selects RX2 yX2_nextIsSound yX2_nextIsSound : Cond) ∈ hw_all := hw_i6 (List.mem_of_getElem? (i := 30) rfl)
theorem mw_223 : (.methodLink RX2 89 yX2_nextIsSound : Cond) ∈ hw_all := hw_i6 (List.mem_of_getElem? (i := 31) rfl)
theorem mw_224 : (.instanceMethod yX2_nextIsSound : Cond) ∈ hw_all := hw_i7 (List.mem_of_getElem? (i := 0) rfl)
theorem mw_225 : (.code yX2_load cX2_load 3 none : Cond) ∈ hw_all := hw_i7 (List.mem_of_getElem? (i := 1) rfl)
theorem mw_226 : (.code yX2_endsInBlock cX2_endsInBlock 1 (some .boolean) : Cond) ∈ hw_all := hw_i7 (List.mem_of_getElem? (i := 2) rfl)
theorem mw_227 : (.selects RX2 yX2_load yX2_load : Cond) ∈ hw_all := hw_i7 (List.mem_of_getElem? (i := 3) rfl)
theorem mw_228 : (.methodLink RX5 92 yX2_load : Cond) ∈ hw_all := hw_i7 (List.mem_of_getElem? (i := 4) rfl)
theorem mw_229 : (.instanceMethod yX2_load : Cond) ∈ hw_all := hw_i7 (List.mem_of_getElem? (i := 5) rfl)
theorem mw_230 : (.selects RX2 yX2_endsInBlock yX2_endsInBlock : Cond) ∈ hw_all := hw_i7 (List.mem_of_getElem? (i := 6) rfl)
theorem mw_231 : (.methodLink RX5 96 yX2_endsInBlock : Cond) ∈ hw_all := hw_i7 (List.mem_of_getElem? (i := 7) rfl)
theorem mw_232 : (.instanceMethod yX2_endsInBlock : Cond) ∈ hw_all := hw_i7 (List.mem_of_getElem? (i := 8) rfl)
theorem mw_233 : (.code yX5_recover cX5_recover 1 (some .int) : Cond) ∈ hw_all := hw_i7 (List.mem_of_getElem? (i := 9) rfl)
theorem mw_234 : (.code yX5_on cX5_on 1 (some .boolean) : Cond) ∈ hw_all := hw_i7 (List.mem_of_getElem? (i := 10) rfl)
theorem mw_235 : (.code yX5_entries cX5_entries 1 (some .int) : Cond) ∈ hw_all := hw_i7 (List.mem_of_getElem? (i := 11) rfl)
theorem mw_236 : (.code yX2_syncedSize cX2_syncedSize 1 (some .int) : Cond) ∈ hw_all := hw_i7 (List.mem_of_getElem? (i := 12) rfl)
theorem mw_237 : (.selects RX2 yX2_syncedSize yX2_syncedSize : Cond) ∈ hw_all := hw_i7 (List.mem_of_getElem? (i := 13) rfl)
theorem mw_238 : (.methodLink RX5 102 yX2_syncedSize : Cond) ∈ hw_all := hw_i7 (List.mem_of_getElem? (i := 14) rfl)
theorem mw_239 : (.instanceMethod yX2_syncedSize : Cond) ∈ hw_all := hw_i7 (List.mem_of_getElem? (i := 15) rfl)
theorem mw_240 : (.code yX5_synced cX5_synced 1 (some .int) : Cond) ∈ hw_all := hw_i7 (List.mem_of_getElem? (i := 16) rfl)
theorem mw_241 : (.code yX5_balance cX5_balance 3 (some .int) : Cond) ∈ hw_all := hw_i7 (List.mem_of_getElem? (i := 17) rfl)
theorem mw_242 : (.code yX5_statement cX5_statement 5 (some .int) : Cond) ∈ hw_all := hw_i7 (List.mem_of_getElem? (i := 18) rfl)
theorem mw_243 : (.code yX5_find cX5_find 2 (some .int) : Cond) ∈ hw_all := hw_i7 (List.mem_of_getElem? (i := 19) rfl)
theorem mw_244 : (.code yX2_leafOf cX2_leafOf 2 (some .int) : Cond) ∈ hw_all := hw_i7 (List.mem_of_getElem? (i := 20) rfl)
theorem mw_245 : (.selects RX2 yX2_leafOf yX2_leafOf : Cond) ∈ hw_all := hw_i7 (List.mem_of_getElem? (i := 21) rfl)
theorem mw_246 : (.methodLink RX5 109 yX2_leafOf : Cond) ∈ hw_all := hw_i7 (List.mem_of_getElem? (i := 22) rfl)
theorem mw_247 : (.instanceMethod yX2_leafOf : Cond) ∈ hw_all := hw_i7 (List.mem_of_getElem? (i := 23) rfl)
theorem mw_248 : (.code yX5_leaf cX5_leaf 2 (some .int) : Cond) ∈ hw_all := hw_i7 (List.mem_of_getElem? (i := 24) rfl)
theorem mw_249 : (.code yX5_split cX5_split 3 (some .int) : Cond) ∈ hw_all := hw_i7 (List.mem_of_getElem? (i := 25) rfl)
theorem mw_250 : (.methodLink RX5 174 yX5_mix : Cond) ∈ hw_all := hw_i7 (List.mem_of_getElem? (i := 26) rfl)
theorem mw_251 : (.code yX5_node cX5_node 2 (some .int) : Cond) ∈ hw_all := hw_i7 (List.mem_of_getElem? (i := 27) rfl)
theorem mw_252 : (.methodLink RX4 27 yX2_leafOf : Cond) ∈ hw_all := hw_i7 (List.mem_of_getElem? (i := 28) rfl)
theorem mw_253 : (.static yX5_split : Cond) ∈ hw_all := hw_i7 (List.mem_of_getElem? (i := 29) rfl)
theorem mw_254 : (.code yX4_hash cX4_hash 5 (some .int) : Cond) ∈ hw_all := hw_i7 (List.mem_of_getElem? (i := 30) rfl)
theorem mw_255 : (.methodLink RX4 13 yX4_hash : Cond) ∈ hw_all := hw_i7 (List.mem_of_getElem? (i := 31) rfl)
theorem mw_256 : (.static yX4_hash : Cond) ∈ hw_all := hw_i8 (List.mem_of_getElem? (i := 0) rfl)
theorem mw_257 : (.initialized RX4 : Cond) ∈ hw_all := hw_i8 (List.mem_of_getElem? (i := 1) rfl)
theorem mw_258 : (.static yX5_node : Cond) ∈ hw_all := hw_i8 (List.mem_of_getElem? (i := 2) rfl)
theorem mw_259 : (.code yX4_headOf cX4_headOf 2 (some .int) : Cond) ∈ hw_all := hw_i8 (List.mem_of_getElem? (i := 3) rfl)
theorem mw_260 : (.methodLink RX5 112 yX4_headOf : Cond) ∈ hw_all := hw_i8 (List.mem_of_getElem? (i := 4) rfl)
theorem mw_261 : (.static yX4_headOf : Cond) ∈ hw_all := hw_i8 (List.mem_of_getElem? (i := 5) rfl)
theorem mw_262 : (.code yX5_head cX5_head 2 (some .int) : Cond) ∈ hw_all := hw_i8 (List.mem_of_getElem? (i := 6) rfl)
theorem mw_263 : (.fieldLink RX3 15 "SealedLedger$Pad" "count" "I" : Cond) ∈ hw_all := hw_i8 (List.mem_of_getElem? (i := 7) rfl)
theorem mw_264 : (.code yX3_clear cX3_clear 1 none : Cond) ∈ hw_all := hw_i8 (List.mem_of_getElem? (i := 8) rfl)
theorem mw_265 : (.code yX3_add cX3_add 2 (some .boolean) : Cond) ∈ hw_all := hw_i8 (List.mem_of_getElem? (i := 9) rfl)
theorem mw_266 : (.code yX4_inclusion cX4_inclusion 7 none : Cond) ∈ hw_all := hw_i8 (List.mem_of_getElem? (i := 10) rfl)
theorem mw_267 : (.methodLink RX4 19 yX4_inclusion : Cond) ∈ hw_all := hw_i8 (List.mem_of_getElem? (i := 11) rfl)
theorem mw_268 : (.static yX4_inclusion : Cond) ∈ hw_all := hw_i8 (List.mem_of_getElem? (i := 12) rfl)
theorem mw_269 : (.selects RX3 yX3_add yX3_add : Cond) ∈ hw_all := hw_i8 (List.mem_of_getElem? (i := 13) rfl)
theorem mw_270 : (.methodLink RX4 39 yX3_add : Cond) ∈ hw_all := hw_i8 (List.mem_of_getElem? (i := 14) rfl)
theorem mw_271 : (.instanceMethod yX3_add : Cond) ∈ hw_all := hw_i8 (List.mem_of_getElem? (i := 15) rfl)
theorem mw_272 : (.code yX4_addInclusion cX4_addInclusion 4 none : Cond) ∈ hw_all := hw_i8 (List.mem_of_getElem? (i := 16) rfl)
theorem mw_273 : (.code yX3_length cX3_length 1 (some .int) : Cond) ∈ hw_all := hw_i8 (List.mem_of_getElem? (i := 17) rfl)
theorem mw_274 : (.selects RX3 yX3_clear yX3_clear : Cond) ∈ hw_all := hw_i8 (List.mem_of_getElem? (i := 18) rfl)
theorem mw_275 : (.methodLink RX5 118 yX3_clear : Cond) ∈ hw_all := hw_i8 (List.mem_of_getElem? (i := 19) rfl)
theorem mw_276 : (.instanceMethod yX3_clear : Cond) ∈ hw_all := hw_i8 (List.mem_of_getElem? (i := 20) rfl)
theorem mw_277 : (.methodLink RX5 119 yX4_addInclusion : Cond) ∈ hw_all := hw_i8 (List.mem_of_getElem? (i := 21) rfl)
theorem mw_278 : (.static yX4_addInclusion : Cond) ∈ hw_all := hw_i8 (List.mem_of_getElem? (i := 22) rfl)
theorem mw_279 : (.selects RX3 yX3_length yX3_length : Cond) ∈ hw_all := hw_i8 (List.mem_of_getElem? (i := 23) rfl)
theorem mw_280 : (.methodLink RX5 123 yX3_length : Cond) ∈ hw_all := hw_i8 (List.mem_of_getElem? (i := 24) rfl)
theorem mw_281 : (.instanceMethod yX3_length : Cond) ∈ hw_all := hw_i8 (List.mem_of_getElem? (i := 25) rfl)
theorem mw_282 : (.code yX5_prove cX5_prove 3 (some .int) : Cond) ∈ hw_all := hw_i8 (List.mem_of_getElem? (i := 26) rfl)
theorem mw_283 : (.code yX4_consistency cX4_consistency 8 none : Cond) ∈ hw_all := hw_i8 (List.mem_of_getElem? (i := 27) rfl)
theorem mw_284 : (.methodLink RX4 23 yX4_consistency : Cond) ∈ hw_all := hw_i8 (List.mem_of_getElem? (i := 28) rfl)
theorem mw_285 : (.static yX4_consistency : Cond) ∈ hw_all := hw_i8 (List.mem_of_getElem? (i := 29) rfl)
theorem mw_286 : (.code yX4_addConsistency cX4_addConsistency 4 none : Cond) ∈ hw_all := hw_i8 (List.mem_of_getElem? (i := 30) rfl)
theorem mw_287 : (.methodLink RX5 126 yX4_addConsistency : Cond) ∈ hw_all := hw_i8 (List.mem_of_getElem? (i := 31) rfl)
theorem mw_288 : (.static yX4_addConsistency : Cond) ∈ hw_all := hw_i9 (List.mem_of_getElem? (i := 0) rfl)
theorem mw_289 : (.code yX5_extend cX5_extend 3 (some .int) : Cond) ∈ hw_all := hw_i9 (List.mem_of_getElem? (i := 1) rfl)
theorem mw_290 : (.methodLink RX5 129 yX3_add : Cond) ∈ hw_all := hw_i9 (List.mem_of_getElem? (i := 2) rfl)
theorem mw_291 : (.code yX5_put cX5_put 2 (some .boolean) : Cond) ∈ hw_all := hw_i9 (List.mem_of_getElem? (i := 3) rfl)
theorem mw_292 : (.code yX3_removeLast cX3_removeLast 1 (some .boolean) : Cond) ∈ hw_all := hw_i9 (List.mem_of_getElem? (i := 4) rfl)
theorem mw_293 : (.selects RX3 yX3_removeLast yX3_removeLast : Cond) ∈ hw_all := hw_i9 (List.mem_of_getElem? (i := 5) rfl)
theorem mw_294 : (.methodLink RX5 131 yX3_removeLast : Cond) ∈ hw_all := hw_i9 (List.mem_of_getElem? (i := 6) rfl)
theorem mw_295 : (.instanceMethod yX3_removeLast : Cond) ∈ hw_all := hw_i9 (List.mem_of_getElem? (i := 7) rfl)
theorem mw_296 : (.code yX5_take cX5_take 1 (some .boolean) : Cond) ∈ hw_all := hw_i9 (List.mem_of_getElem? (i := 8) rfl)
theorem mw_297 : (.code yX3_intAt cX3_intAt 2 (some .int) : Cond) ∈ hw_all := hw_i9 (List.mem_of_getElem? (i := 9) rfl)
theorem mw_298 : (.selects RX3 yX3_intAt yX3_intAt : Cond) ∈ hw_all := hw_i9 (List.mem_of_getElem? (i := 10) rfl)
theorem mw_299 : (.methodLink RX5 134 yX3_intAt : Cond) ∈ hw_all := hw_i9 (List.mem_of_getElem? (i := 11) rfl)
theorem mw_300 : (.instanceMethod yX3_intAt : Cond) ∈ hw_all := hw_i9 (List.mem_of_getElem? (i := 12) rfl)
theorem mw_301 : (.code yX5_pad cX5_pad 2 (some .int) : Cond) ∈ hw_all := hw_i9 (List.mem_of_getElem? (i := 13) rfl)
theorem mw_302 : (.code yX3_inclusionLength cX3_inclusionLength 4 (some .int) : Cond) ∈ hw_all := hw_i9 (List.mem_of_getElem? (i := 14) rfl)
theorem mw_303 : (.methodLink RX3 34 yX3_intAt : Cond) ∈ hw_all := hw_i9 (List.mem_of_getElem? (i := 15) rfl)
theorem mw_304 : (.code yX3_shownAbove cX3_shownAbove 7 (some .int) : Cond) ∈ hw_all := hw_i9 (List.mem_of_getElem? (i := 16) rfl)
theorem mw_305 : (.methodLink RX3 23 yX3_shownAbove : Cond) ∈ hw_all := hw_i9 (List.mem_of_getElem? (i := 17) rfl)
theorem mw_306 : (.static yX3_shownAbove : Cond) ∈ hw_all := hw_i9 (List.mem_of_getElem? (i := 18) rfl)
theorem mw_307 : (.methodLink RX3 19 yX3_inclusionLength : Cond) ∈ hw_all := hw_i9 (List.mem_of_getElem? (i := 19) rfl)
theorem mw_308 : (.static yX3_inclusionLength : Cond) ∈ hw_all := hw_i9 (List.mem_of_getElem? (i := 20) rfl)
theorem mw_309 : (.code yX3_showsInclusion cX3_showsInclusion 5 (some .boolean) : Cond) ∈ hw_all := hw_i9 (List.mem_of_getElem? (i := 21) rfl)
theorem mw_310 : (.selects RX3 yX3_showsInclusion yX3_showsInclusion : Cond) ∈ hw_all := hw_i9 (List.mem_of_getElem? (i := 22) rfl)
theorem mw_311 : (.methodLink RX5 137 yX3_showsInclusion : Cond) ∈ hw_all := hw_i9 (List.mem_of_getElem? (i := 23) rfl)
theorem mw_312 : (.instanceMethod yX3_showsInclusion : Cond) ∈ hw_all := hw_i9 (List.mem_of_getElem? (i := 24) rfl)
theorem mw_313 : (.code yX5_included cX5_included 5 (some .boolean) : Cond) ∈ hw_all := hw_i9 (List.mem_of_getElem? (i := 25) rfl)
theorem mw_314 : (.code yX3_consistencySteps cX3_consistencySteps 4 (some .int) : Cond) ∈ hw_all := hw_i9 (List.mem_of_getElem? (i := 26) rfl)
theorem mw_315 : (.code yX3_isOwn cX3_isOwn 3 (some .boolean) : Cond) ∈ hw_all := hw_i9 (List.mem_of_getElem? (i := 27) rfl)
theorem mw_316 : (.code yX3_shownOld cX3_shownOld 6 (some .int) : Cond) ∈ hw_all := hw_i9 (List.mem_of_getElem? (i := 28) rfl)
theorem mw_317 : (.methodLink RX3 38 yX3_shownOld : Cond) ∈ hw_all := hw_i9 (List.mem_of_getElem? (i := 29) rfl)
theorem mw_318 : (.static yX3_shownOld : Cond) ∈ hw_all := hw_i9 (List.mem_of_getElem? (i := 30) rfl)
theorem mw_319 : (.code yX3_shownNew cX3_shownNew 7 (some .int) : Cond) ∈ hw_all := hw_i9 (List.mem_of_getElem? (i := 31) rfl)
theorem mw_320 : (.methodLink RX3 41 yX3_shownNew : Cond) ∈ hw_all := hw_i10 (List.mem_of_getElem? (i := 0) rfl)
theorem mw_321 : (.static yX3_shownNew : Cond) ∈ hw_all := hw_i10 (List.mem_of_getElem? (i := 1) rfl)
theorem mw_322 : (.methodLink RX3 27 yX3_consistencySteps : Cond) ∈ hw_all := hw_i10 (List.mem_of_getElem? (i := 2) rfl)
theorem mw_323 : (.static yX3_consistencySteps : Cond) ∈ hw_all := hw_i10 (List.mem_of_getElem? (i := 3) rfl)
theorem mw_324 : (.methodLink RX3 30 yX3_isOwn : Cond) ∈ hw_all := hw_i10 (List.mem_of_getElem? (i := 4) rfl)
theorem mw_325 : (.static yX3_isOwn : Cond) ∈ hw_all := hw_i10 (List.mem_of_getElem? (i := 5) rfl)
theorem mw_326 : (.code yX3_showsConsistency cX3_showsConsistency 8 (some .boolean) : Cond) ∈ hw_all := hw_i10 (List.mem_of_getElem? (i := 6) rfl)
theorem mw_327 : (.selects RX3 yX3_showsConsistency yX3_showsConsistency : Cond) ∈ hw_all := hw_i10 (List.mem_of_getElem? (i := 7) rfl)
theorem mw_328 : (.methodLink RX5 141 yX3_showsConsistency : Cond) ∈ hw_all := hw_i10 (List.mem_of_getElem? (i := 8) rfl)
theorem mw_329 : (.instanceMethod yX3_showsConsistency : Cond) ∈ hw_all := hw_i10 (List.mem_of_getElem? (i := 9) rfl)
theorem mw_330 : (.code yX5_consistent cX5_consistent 5 (some .boolean) : Cond) ∈ hw_all := hw_i10 (List.mem_of_getElem? (i := 10) rfl)
theorem mw_331 : (.methodLink RX5 144 yX0_cellAt : Cond) ∈ hw_all := hw_i10 (List.mem_of_getElem? (i := 11) rfl)
theorem mw_332 : (.code yX5_cell cX5_cell 2 (some .int) : Cond) ∈ hw_all := hw_i10 (List.mem_of_getElem? (i := 12) rfl)
theorem mw_333 : (.code yX0_writesDone cX0_writesDone 1 (some .int) : Cond) ∈ hw_all := hw_i10 (List.mem_of_getElem? (i := 13) rfl)
theorem mw_334 : (.selects RX0 yX0_writesDone yX0_writesDone : Cond) ∈ hw_all := hw_i10 (List.mem_of_getElem? (i := 14) rfl)
theorem mw_335 : (.methodLink RX5 147 yX0_writesDone : Cond) ∈ hw_all := hw_i10 (List.mem_of_getElem? (i := 15) rfl)
theorem mw_336 : (.instanceMethod yX0_writesDone : Cond) ∈ hw_all := hw_i10 (List.mem_of_getElem? (i := 16) rfl)
theorem mw_337 : (.code yX5_writes cX5_writes 1 (some .int) : Cond) ∈ hw_all := hw_i10 (List.mem_of_getElem? (i := 17) rfl)
theorem hw_goodb : hw_all.all goodWord = true := by decide +kernel
theorem hw_good : ∀ w ∈ hw_all, (w.onTables && w.keeps) = true ∨ ∃ ty, w = .arrayClass ty := fun w h => good_of_word (List.all_eq_true.mp hw_goodb w h)
def hw_nest : List (String × Nat × MethodName × String) := [(RX2, 50, yX5_entryCells, "SealedLedger"), (RX2, 75, yX5_mix, "SealedLedger"), (RX2, 111, yX5_isAccount, "SealedLedger"), (RX2, 115, yX5_isAmount, "SealedLedger"), (RX4, 33, yX5_split, "SealedLedger"), (RX4, 36, yX5_node, "SealedLedger"), (RX4, 9, yX5_mix, "SealedLedger"), (RX3, 44, yX5_split, "SealedLedger"), (RX3, 47, yX5_node, "SealedLedger")]
theorem mn_0 : ((RX2, 50, yX5_entryCells, "SealedLedger") : String × Nat × MethodName × String) ∈ hw_nest := List.mem_of_getElem? (i := 0) rfl
theorem mn_1 : ((RX2, 75, yX5_mix, "SealedLedger") : String × Nat × MethodName × String) ∈ hw_nest := List.mem_of_getElem? (i := 1) rfl
theorem mn_2 : ((RX2, 111, yX5_isAccount, "SealedLedger") : String × Nat × MethodName × String) ∈ hw_nest := List.mem_of_getElem? (i := 2) rfl
theorem mn_3 : ((RX2, 115, yX5_isAmount, "SealedLedger") : String × Nat × MethodName × String) ∈ hw_nest := List.mem_of_getElem? (i := 3) rfl
theorem mn_4 : ((RX4, 33, yX5_split, "SealedLedger") : String × Nat × MethodName × String) ∈ hw_nest := List.mem_of_getElem? (i := 4) rfl
theorem mn_5 : ((RX4, 36, yX5_node, "SealedLedger") : String × Nat × MethodName × String) ∈ hw_nest := List.mem_of_getElem? (i := 5) rfl
theorem mn_6 : ((RX4, 9, yX5_mix, "SealedLedger") : String × Nat × MethodName × String) ∈ hw_nest := List.mem_of_getElem? (i := 6) rfl
theorem mn_7 : ((RX3, 44, yX5_split, "SealedLedger") : String × Nat × MethodName × String) ∈ hw_nest := List.mem_of_getElem? (i := 7) rfl
theorem mn_8 : ((RX3, 47, yX5_node, "SealedLedger") : String × Nat × MethodName × String) ∈ hw_nest := List.mem_of_getElem? (i := 8) rfl
abbrev wX5_init : List Cond := .code yX5_init cX5_init 1 none :: hw_all
abbrev wX5_limit : List Cond := .code yX5_limit cX5_limit 3 (some .boolean) :: hw_all
abbrev wX5_leg : List Cond := .code yX5_leg cX5_leg 3 (some .boolean) :: hw_all
abbrev wX5_drop : List Cond := .code yX5_drop cX5_drop 1 none :: hw_all
abbrev wX5_commit : List Cond := .code yX5_commit cX5_commit 3 (some .int) :: hw_all
abbrev wX5_sync : List Cond := .code yX5_sync cX5_sync 4 (some .int) :: hw_all
abbrev wX5_fail : List Cond := .code yX5_fail cX5_fail 2 (some .boolean) :: hw_all
abbrev wX5_recover : List Cond := .code yX5_recover cX5_recover 1 (some .int) :: hw_all
abbrev wX5_on : List Cond := .code yX5_on cX5_on 1 (some .boolean) :: hw_all
abbrev wX5_entries : List Cond := .code yX5_entries cX5_entries 1 (some .int) :: hw_all
abbrev wX5_synced : List Cond := .code yX5_synced cX5_synced 1 (some .int) :: hw_all
abbrev wX5_balance : List Cond := .code yX5_balance cX5_balance 3 (some .int) :: hw_all
abbrev wX5_statement : List Cond := .code yX5_statement cX5_statement 5 (some .int) :: hw_all
abbrev wX5_find : List Cond := .code yX5_find cX5_find 2 (some .int) :: hw_all
abbrev wX5_leaf : List Cond := .code yX5_leaf cX5_leaf 2 (some .int) :: hw_all
abbrev wX5_head : List Cond := .code yX5_head cX5_head 2 (some .int) :: hw_all
abbrev wX5_prove : List Cond := .code yX5_prove cX5_prove 3 (some .int) :: hw_all
abbrev wX5_extend : List Cond := .code yX5_extend cX5_extend 3 (some .int) :: hw_all
abbrev wX5_put : List Cond := .code yX5_put cX5_put 2 (some .boolean) :: hw_all
abbrev wX5_take : List Cond := .code yX5_take cX5_take 1 (some .boolean) :: hw_all
abbrev wX5_pad : List Cond := .code yX5_pad cX5_pad 2 (some .int) :: hw_all
abbrev wX5_included : List Cond := .code yX5_included cX5_included 5 (some .boolean) :: hw_all
abbrev wX5_consistent : List Cond := .code yX5_consistent cX5_consistent 5 (some .boolean) :: hw_all
abbrev wX5_cell : List Cond := .code yX5_cell cX5_cell 2 (some .int) :: hw_all
abbrev wX5_writes : List Cond := .code yX5_writes cX5_writes 1 (some .int) :: hw_all
abbrev wX5_commitNew : List Cond := .code yX5_commitNew cX5_commitNew 2 (some .int) :: hw_all
abbrev wX5_isPoor : List Cond := .code yX5_isPoor cX5_isPoor 4 (some .boolean) :: hw_all
abbrev wX5_writeBlock : List Cond := .code yX5_writeBlock cX5_writeBlock 2 (some .boolean) :: hw_all
abbrev wX5_losePower : List Cond := .code yX5_losePower cX5_losePower 1 none :: hw_all
abbrev wX5_isAccount : List Cond := .code yX5_isAccount cX5_isAccount 1 (some .boolean) :: hw_all
abbrev wX5_isAmount : List Cond := .code yX5_isAmount cX5_isAmount 1 (some .boolean) :: hw_all
abbrev wX5_entryCells : List Cond := .code yX5_entryCells cX5_entryCells 1 (some .int) :: hw_all
abbrev wX5_mix : List Cond := .code yX5_mix cX5_mix 4 (some .int) :: hw_all
abbrev wX5_node : List Cond := .code yX5_node cX5_node 2 (some .int) :: hw_all
abbrev wX5_split : List Cond := .code yX5_split cX5_split 3 (some .int) :: hw_all
abbrev wX0_init : List Cond := .code yX0_init cX0_init 1 none :: hw_all
abbrev wX0_failAt : List Cond := .code yX0_failAt cX0_failAt 2 none :: hw_all
abbrev wX0_writesDone : List Cond := .code yX0_writesDone cX0_writesDone 1 (some .int) :: hw_all
abbrev wX0_cellAt : List Cond := .code yX0_cellAt cX0_cellAt 2 (some .int) :: hw_all
abbrev wX0_write : List Cond := .code yX0_write cX0_write 5 (some .boolean) :: hw_all
abbrev wX1_init : List Cond := .code yX1_init cX1_init 1 none :: hw_all
abbrev wX1_add : List Cond := .code yX1_add cX1_add 3 (some .boolean) :: hw_all
abbrev wX1_clear : List Cond := .code yX1_clear cX1_clear 1 none :: hw_all
abbrev wX1_size : List Cond := .code yX1_size cX1_size 1 (some .int) :: hw_all
abbrev wX1_accountAt : List Cond := .code yX1_accountAt cX1_accountAt 2 (some .int) :: hw_all
abbrev wX1_amountAt : List Cond := .code yX1_amountAt cX1_amountAt 2 (some .int) :: hw_all
abbrev wX1_isEven : List Cond := .code yX1_isEven cX1_isEven 3 (some .boolean) :: hw_all
abbrev wX1_change : List Cond := .code yX1_change cX1_change 4 (some .int) :: hw_all
abbrev wX2_init : List Cond := .code yX2_init cX2_init 1 none :: hw_all
abbrev wX2_size : List Cond := .code yX2_size cX2_size 1 (some .int) :: hw_all
abbrev wX2_syncedSize : List Cond := .code yX2_syncedSize cX2_syncedSize 1 (some .int) :: hw_all
abbrev wX2_cellAt : List Cond := .code yX2_cellAt cX2_cellAt 2 (some .int) :: hw_all
abbrev wX2_leafOf : List Cond := .code yX2_leafOf cX2_leafOf 2 (some .int) :: hw_all
abbrev wX2_endsInBlock : List Cond := .code yX2_endsInBlock cX2_endsInBlock 1 (some .boolean) :: hw_all
abbrev wX2_endBlock : List Cond := .code yX2_endBlock cX2_endBlock 1 (some .int) :: hw_all
abbrev wX2_syncedBlock : List Cond := .code yX2_syncedBlock cX2_syncedBlock 1 (some .int) :: hw_all
abbrev wX2_markSynced : List Cond := .code yX2_markSynced cX2_markSynced 1 none :: hw_all
abbrev wX2_clear : List Cond := .code yX2_clear cX2_clear 1 none :: hw_all
abbrev wX2_append : List Cond := .code yX2_append cX2_append 5 (some .boolean) :: hw_all
abbrev wX2_load : List Cond := .code yX2_load cX2_load 3 none :: hw_all
abbrev wX2_firstWith : List Cond := .code yX2_firstWith cX2_firstWith 3 (some .int) :: hw_all
abbrev wX2_hasLegsOf : List Cond := .code yX2_hasLegsOf cX2_hasLegsOf 5 (some .boolean) :: hw_all
abbrev wX2_total : List Cond := .code yX2_total cX2_total 8 (some .int) :: hw_all
abbrev wX2_totalAt : List Cond := .code yX2_totalAt cX2_totalAt 6 (some .int) :: hw_all
abbrev wX2_acceptNext : List Cond := .code yX2_acceptNext cX2_acceptNext 1 none :: hw_all
abbrev wX2_nextIsSound : List Cond := .code yX2_nextIsSound cX2_nextIsSound 1 (some .boolean) :: hw_all
abbrev wX2_nextFits : List Cond := .code yX2_nextFits cX2_nextFits 1 (some .boolean) :: hw_all
abbrev wX2_nextLegsAreSound : List Cond := .code yX2_nextLegsAreSound cX2_nextLegsAreSound 4 (some .boolean) :: hw_all
abbrev wX2_leafFrom : List Cond := .code yX2_leafFrom cX2_leafFrom 4 (some .int) :: hw_all
abbrev wX2_lastSeal : List Cond := .code yX2_lastSeal cX2_lastSeal 1 (some .int) :: hw_all
abbrev wX2_clearBehindEnd : List Cond := .code yX2_clearBehindEnd cX2_clearBehindEnd 2 none :: hw_all
abbrev wX2_sealCell : List Cond := .code yX2_sealCell cX2_sealCell 2 (some .int) :: hw_all
abbrev wX2_accountCell : List Cond := .code yX2_accountCell cX2_accountCell 2 (some .int) :: hw_all
abbrev wX2_amountCell : List Cond := .code yX2_amountCell cX2_amountCell 2 (some .int) :: hw_all
abbrev wX2_blockOf : List Cond := .code yX2_blockOf cX2_blockOf 1 (some .int) :: hw_all
abbrev wX3_init : List Cond := .code yX3_init cX3_init 1 none :: hw_all
abbrev wX3_clear : List Cond := .code yX3_clear cX3_clear 1 none :: hw_all
abbrev wX3_length : List Cond := .code yX3_length cX3_length 1 (some .int) :: hw_all
abbrev wX3_intAt : List Cond := .code yX3_intAt cX3_intAt 2 (some .int) :: hw_all
abbrev wX3_add : List Cond := .code yX3_add cX3_add 2 (some .boolean) :: hw_all
abbrev wX3_removeLast : List Cond := .code yX3_removeLast cX3_removeLast 1 (some .boolean) :: hw_all
abbrev wX3_showsInclusion : List Cond := .code yX3_showsInclusion cX3_showsInclusion 5 (some .boolean) :: hw_all
abbrev wX3_showsConsistency : List Cond := .code yX3_showsConsistency cX3_showsConsistency 8 (some .boolean) :: hw_all
abbrev wX3_shownAbove : List Cond := .code yX3_shownAbove cX3_shownAbove 7 (some .int) :: hw_all
abbrev wX3_shownOld : List Cond := .code yX3_shownOld cX3_shownOld 6 (some .int) :: hw_all
abbrev wX3_shownNew : List Cond := .code yX3_shownNew cX3_shownNew 7 (some .int) :: hw_all
abbrev wX3_inclusionLength : List Cond := .code yX3_inclusionLength cX3_inclusionLength 4 (some .int) :: hw_all
abbrev wX3_consistencySteps : List Cond := .code yX3_consistencySteps cX3_consistencySteps 4 (some .int) :: hw_all
abbrev wX3_isOwn : List Cond := .code yX3_isOwn cX3_isOwn 3 (some .boolean) :: hw_all
abbrev wX4_headOf : List Cond := .code yX4_headOf cX4_headOf 2 (some .int) :: hw_all
abbrev wX4_addInclusion : List Cond := .code yX4_addInclusion cX4_addInclusion 4 none :: hw_all
abbrev wX4_addConsistency : List Cond := .code yX4_addConsistency cX4_addConsistency 4 none :: hw_all
abbrev wX4_hash : List Cond := .code yX4_hash cX4_hash 5 (some .int) :: hw_all
abbrev wX4_inclusion : List Cond := .code yX4_inclusion cX4_inclusion 7 none :: hw_all
abbrev wX4_consistency : List Cond := .code yX4_consistency cX4_consistency 8 none :: hw_all
end
section
section HW1
def hw_rd (n : Nat) (f : Nat → Int32) (i : Int32) : Option Int32 := if i < 0 ∨ n ≤ i.toNatClampNeg then none else some (f i.toNatClampNeg)
def hw_wr (n : Nat) (f : Nat → Int32) (i x : Int32) : Option (Nat → Int32) := if i < 0 ∨ n ≤ i.toNatClampNeg then none else some (upd f i.toNatClampNeg x)
def hw_wz (n : Nat) (f : Nat → Int32) (i x : Int32) : Option (Nat → Int32) := if i < 0 ∨ n ≤ i.toNatClampNeg then none else some (upd f i.toNatClampNeg (x &&& 1))
def hw_z (v : Int32) : Option Int32 := if v = 0 ∨ v = 1 then some v else none
def hw_ushr (x y : Int32) : Int32 := (x.toUInt32 >>> (y.toUInt32 &&& Int32.toUInt32 31)).toInt32
def hw_min (x y : Int32) : Int32 := if y < x then y else x
def hw_max (x y : Int32) : Int32 := if x < y then y else x
theorem hw_rd_some {n : Nat} {f : Nat → Int32} {i v : Int32} (h : hw_rd n f i = some v) : vp_in i n ∧ f i.toNatClampNeg = v := by
  unfold hw_rd at h
  by_cases hc : i < 0 ∨ n ≤ i.toNatClampNeg
  · rw [if_pos hc] at h; cases h
  · rw [if_neg hc] at h; exact ⟨hc, Option.some.inj h⟩
theorem hw_wr_some {n : Nat} {f g : Nat → Int32} {i x : Int32} (h : hw_wr n f i x = some g) : vp_in i n ∧ upd f i.toNatClampNeg x = g := by
  unfold hw_wr at h
  by_cases hc : i < 0 ∨ n ≤ i.toNatClampNeg
  · rw [if_pos hc] at h; cases h
  · rw [if_neg hc] at h; exact ⟨hc, Option.some.inj h⟩
theorem hw_wz_some {n : Nat} {f g : Nat → Int32} {i x : Int32} (h : hw_wz n f i x = some g) : vp_in i n ∧ upd f i.toNatClampNeg (vp_nar .boolean x) = g := by
  unfold hw_wz at h
  by_cases hc : i < 0 ∨ n ≤ i.toNatClampNeg
  · rw [if_pos hc] at h; cases h
  · rw [if_neg hc] at h; exact ⟨hc, Option.some.inj h⟩
theorem hw_z_some {v w : Int32} (h : hw_z v = some w) : v = w ∧ narrow .boolean (.int v) = .int v := by
  unfold hw_z at h
  by_cases hc : v = 0 ∨ v = 1
  · rw [if_pos hc] at h
    refine ⟨Option.some.inj h, ?_⟩
    rcases hc with rfl | rfl <;> rfl
  · rw [if_neg hc] at h; cases h
theorem hw_bind {α β : Type} {o : Option α} {k : α → Option β} {b : β} (h : o.bind k = some b) : ∃ a, o = some a ∧ k a = some b := by
  cases o with
  | none => cases h
  | some a => exact ⟨a, rfl, h⟩
def hw_NE (U : State) : Prop := ∀ q ∈ hw_nest, va_Nw (.methodLinkNest q.1 q.2.1 q.2.2.1 q.2.2.2) U
theorem hw_NE.warm {s U : State} (hW : s.WarmedH U.vm) (h : hw_NE s) : hw_NE U := fun q hq => va_Nw.warmM hW (h q hq)
theorem hw_NE.same {s U : State} (hv : s.vm = U.vm) (h : hw_NE s) : hw_NE U := fun q hq => va_Nw.same rfl hv (h q hq)
abbrev hw_pre (D : va_G) (cl : List vw_C) (cA cZ : ClassId) (sz : Nat) (av : List Value) (ws : va_W) : Array Value → State → Prop := va_Pc av (fun U => U.heap.size = sz ∧ va_P D cl ws U.heap ∧ va_K D cl [(cA, .int), (cZ, .boolean)] U ∧ va_D (fun _ => True) ws ∧ hw_NE U)
def hw_Q (D : va_G) (cl : List vw_C) (A : Nat → Prop) (w1 : va_W) (r : Option Value) : Array Value → State → Outcome → State → Prop := fun _ st oc t => oc = .returned r ∧ va_P D cl w1 t.heap ∧ va_D A w1 ∧ va_F A st t
def hw_C (l : Launch) (y : MethodName) (wy : List Cond) (rm : Room) (D : va_G) (cl : List vw_C) (cA cZ : ClassId) (av : List Value) (wc w1 : va_W) (r : Option Value) : Prop := ∀ sz : Nat, Met l y wy rm (hw_pre D cl cA cZ sz av wc) (hw_Q D cl (va_A wc sz) w1 r) 0 0 (va_A wc sz)
def hw_QN (D : va_G) (cl : List vw_C) (A : Nat → Prop) (w1 : (Nat → Nat) → va_W) (r : Option Value) : Array Value → State → Outcome → State → Prop := fun _ st oc t => oc = .returned r ∧ (∃ u : Nat → Nat, va_P D cl (w1 u) t.heap ∧ va_D A (w1 u)) ∧ va_F A st t
def hw_N (l : Launch) (y : MethodName) (wy : List Cond) (rm : Room) (D : va_G) (cl : List vw_C) (cA cZ : ClassId) (av : List Value) (wc : va_W) (w1 : (Nat → Nat) → va_W) (r : Option Value) (mc ms : Nat) : Prop := ∀ sz : Nat, Met l y wy rm (hw_pre D cl cA cZ sz av wc) (hw_QN D cl (va_A wc sz) w1 r) mc ms (va_A wc sz)
def hw_Z (below : List Frame) (args : Array Value) (s : State) (D : va_G) (cl : List vw_C) (A : Nat → Prop) (w1 : va_W) (r : Option Value) : State → Prop := MQ below (hw_Q D cl A w1 r) args s 0 0 A
def hw_ZN (below : List Frame) (args : Array Value) (s : State) (D : va_G) (cl : List vw_C) (A : Nat → Prop) (w1 : (Nat → Nat) → va_W) (r : Option Value) (mc ms : Nat) : State → Prop := MQ below (hw_QN D cl A w1 r) args s mc ms A
end HW1
section HWG
theorem hw_gC {y : MethodName} {bytes : ByteArray} {maxL : Nat} {ret : Option FieldType} (h5 : Cond.code y bytes maxL ret ∈ hw_all) : GoodIn hw_all (Cond.code y bytes maxL ret :: hw_all) := by
  intro w hw
  rcases List.mem_cons.mp hw with rfl | h
  · exact ⟨h5, hw_good _ h5⟩
  · exact ⟨h, hw_good _ h⟩
theorem hw_gS {own : String} {idx : Nat} {y : MethodName} {bytes : ByteArray} {maxL : Nat} {ret : Option FieldType} (h1 : Cond.methodLink own idx y ∈ hw_all) (h2 : Cond.static y ∈ hw_all) (h3 : Cond.initialized own ∈ hw_all) (h5 : Cond.code y bytes maxL ret ∈ hw_all) : GoodIn hw_all (wsS own idx y (Cond.code y bytes maxL ret :: hw_all)) := by
  intro w hw
  rcases List.mem_append.mp hw with h | h
  · have hm : w ∈ hw_all := by
      rcases List.mem_cons.mp h with rfl | h
      · exact h1
      rcases List.mem_cons.mp h with rfl | h
      · exact h2
      rcases List.mem_cons.mp h with rfl | h
      · exact h3
      cases h
    exact ⟨hm, hw_good _ hm⟩
  · exact hw_gC h5 w h
theorem hw_gA {own : String} {idx : Nat} {y : MethodName} {bytes : ByteArray} {maxL : Nat} {ret : Option FieldType} (h1 : Cond.methodLink own idx y ∈ hw_all) (h2 : Cond.static y ∈ hw_all) (h3 : Cond.initialized y.cls ∈ hw_all) (h5 : Cond.code y bytes maxL ret ∈ hw_all) : GoodIn hw_all (va_wsS own idx y (Cond.code y bytes maxL ret :: hw_all)) := by
  intro w hw
  rcases List.mem_append.mp hw with h | h
  · have hm : w ∈ hw_all := by
      rcases List.mem_cons.mp h with rfl | h
      · exact h1
      rcases List.mem_cons.mp h with rfl | h
      · exact h2
      rcases List.mem_cons.mp h with rfl | h
      · exact h3
      cases h
    exact ⟨hm, hw_good _ hm⟩
  · exact hw_gC h5 w h
theorem hw_gV {own C : String} {idx : Nat} {y : MethodName} {bytes : ByteArray} {maxL : Nat} {ret : Option FieldType} (h1 : Cond.methodLink own idx y ∈ hw_all) (h2 : Cond.instanceMethod y ∈ hw_all) (h3 : Cond.selects C y y ∈ hw_all) (h4 : Cond.initialized C ∈ hw_all) (h5 : Cond.code y bytes maxL ret ∈ hw_all) : GoodIn hw_all (wsV own idx C y (Cond.code y bytes maxL ret :: hw_all)) := by
  intro w hw
  rcases List.mem_append.mp hw with h | h
  · have hm : w ∈ hw_all := by
      rcases List.mem_cons.mp h with rfl | h
      · exact h1
      rcases List.mem_cons.mp h with rfl | h
      · exact h2
      rcases List.mem_cons.mp h with rfl | h
      · exact h3
      rcases List.mem_cons.mp h with rfl | h
      · exact h4
      cases h
    exact ⟨hm, hw_good _ hm⟩
  · exact hw_gC h5 w h
end HWG
section HW2
variable {l : Launch} {y : MethodName} {w : List Cond} {rm : Room} {D : va_G} {cl : List vw_C} {cA cZ : ClassId} {av : List Value} {ws : va_W} {r : Option Value} {cc : ByteArray} {maxL : Nat} {ret : Option FieldType}
theorem hw_of {w1 : va_W} (hy : plainName y.cls = true) (hw : w = Cond.code y cc maxL ret :: hw_all) (hav : (lg_sl av).length ≤ maxL)
    (body : ∀ (p : Program) (e : Env) (s : State) (m : MethodId) (args : Array Value) (below : List Frame) (meth : Method) (c : Code) (A : Nat → Prop) (ls : Array Slot), p.tables.exec = Jvm.exec → c.code = cc → meth.sig.returnType = ret → meth.locks = false → c.maxLocals = maxL → s.vm.findClass y.cls = some m.cls → (∀ x ∈ hw_all, x.before args s = true) → (∀ q, s.heap.size ≤ q → A q) → va_K D cl [(cA, .int), (cZ, .boolean)] s → hw_NE s → va_P D cl ws s.heap → va_D A ws → va_S A s.heap s.heap [] → lv_has ls maxL (lv_args 0 av) →
      W p l e rm s m args below meth c s.heap [] 0 0 (hw_Z below args s D cl A w1 r) (F0 m 0 ls [])) :
    hw_C l y w rm D cl cA cZ av ws w1 r := by
  intro sz
  refine Met.ofW (cc := cc) (maxL := maxL) (ret := ret) hy hw ?_
  intro p e s m args below meth c s₁ B hml hv
  obtain ⟨rfl, hsz, hP, hK, hD0, hE⟩ := hv
  subst hsz
  have hl := lv_entry av (n := maxL) hav
  rw [lg_entry_eq]
  exact body p e s m _ below meth c (va_A ws s.heap.size) _ B.exec B.bytes B.returns B.notSynchronized hml (findClass_of_methodNamed B.named) (fun x hx => atoms_spec (ws := w) B.pre x (hw ▸ List.mem_cons_of_mem _ hx)) (fun q h => Or.inr h) hK hE hP hD0.self va_S.rf hl
theorem hw_ofN {w1 : (Nat → Nat) → va_W} {mc ms : Nat} (hy : plainName y.cls = true) (hw : w = Cond.code y cc maxL ret :: hw_all) (hav : (lg_sl av).length ≤ maxL)
    (body : ∀ (p : Program) (e : Env) (s : State) (m : MethodId) (args : Array Value) (below : List Frame) (meth : Method) (c : Code) (A : Nat → Prop) (ls : Array Slot), p.tables.exec = Jvm.exec → c.code = cc → meth.sig.returnType = ret → meth.locks = false → c.maxLocals = maxL → s.vm.findClass y.cls = some m.cls → meth.name = y.name → (∀ x ∈ hw_all, x.before args s = true) → (∀ q, s.heap.size ≤ q → A q) → va_K D cl [(cA, .int), (cZ, .boolean)] s → hw_NE s → va_P D cl ws s.heap → va_D A ws → va_S A s.heap s.heap [] → lv_has ls maxL (lv_args 0 av) →
      W p l e rm s m args below meth c s.heap [] 0 0 (hw_ZN below args s D cl A w1 r mc ms) (F0 m 0 ls [])) :
    hw_N l y w rm D cl cA cZ av ws w1 r mc ms := by
  intro sz
  refine Met.ofW (cc := cc) (maxL := maxL) (ret := ret) hy hw ?_
  intro p e s m args below meth c s₁ B hml hv
  obtain ⟨rfl, hsz, hP, hK, hD0, hE⟩ := hv
  subst hsz
  have hl := lv_entry av (n := maxL) hav
  rw [lg_entry_eq]
  exact body p e s m _ below meth c (va_A ws s.heap.size) _ B.exec B.bytes B.returns B.notSynchronized hml (findClass_of_methodNamed B.named) (name_of_methodNamed B.named B.method).1 (fun x hx => atoms_spec (ws := w) B.pre x (hw ▸ List.mem_cons_of_mem _ hx)) (fun q h => Or.inr h) hK hE hP hD0.self va_S.rf hl
end HW2
section HW3
variable {p : Program} {l : Launch} {e : Env} {R : Room} {s : State} {m : MethodId} {args : Array Value} {below : List Frame} {meth : Method} {c : Code} {H : Heap} {locs : List Loc} {cells slots : Nat} {Q : State → Prop}
variable {cc : ByteArray} {pc : Nat} {ls : Array Slot} {rest st0 : List Value} {D : va_G} {cl : List vw_C} {cA cZ : ClassId} {A : Nat → Prop} {ws wc wr w1 : va_W} {a : Array Value} {r : Option Value} {a0 : Nat}
theorem hw_ri {v : Int32} (hx : p.tables.exec = Jvm.exec) (hb : c.code = cc) (hr : meth.sig.returnType = some .int) (hlocks : meth.locks = false) (hP : va_P D cl w1 H) (hD : va_D A w1) (hS : va_S A s.heap H locs) (hdg : decode cc pc = .ok (.ireturn, 1)) : W p l e R s m args below meth c H locs 0 0 (hw_Z below args s D cl A w1 (some (.int v))) (F0 m pc ls [.int v]) :=
  W.iret hx hb hr (fun t ht hW => ⟨rfl, by rw [ht]; exact hP, hD, hS.F ht⟩) hS.2.2 hdg hlocks
theorem hw_rz {v : Int32} (hx : p.tables.exec = Jvm.exec) (hb : c.code = cc) (hr : meth.sig.returnType = some .boolean) (hlocks : meth.locks = false) (hn : narrow .boolean (.int v) = .int v) (hP : va_P D cl w1 H) (hD : va_D A w1) (hS : va_S A s.heap H locs) (hdg : decode cc pc = .ok (.ireturn, 1)) : W p l e R s m args below meth c H locs 0 0 (hw_Z below args s D cl A w1 (some (.int v))) (F0 m pc ls [.int v]) :=
  W.zret hx hb hr hn (fun t ht hW => ⟨rfl, by rw [ht]; exact hP, hD, hS.F ht⟩) hS.2.2 hdg hlocks
theorem hw_rv (hx : p.tables.exec = Jvm.exec) (hb : c.code = cc) (hr : meth.sig.returnType = none) (hlocks : meth.locks = false) (hP : va_P D cl w1 H) (hD : va_D A w1) (hS : va_S A s.heap H locs) (hdg : decode cc pc = .ok (.return_, 1)) : W p l e R s m args below meth c H locs 0 0 (hw_Z below args s D cl A w1 none) (F0 m pc ls []) :=
  W.vret hx hb hr (fun t ht hW => ⟨rfl, by rw [ht]; exact hP, hD, hS.F ht⟩) hS.2.2 hdg hlocks
theorem hw_rvN {w1 : (Nat → Nat) → va_W} {mc ms : Nat} (u : Nat → Nat) (hx : p.tables.exec = Jvm.exec) (hb : c.code = cc) (hr : meth.sig.returnType = none) (hlocks : meth.locks = false) (hP : va_P D cl (w1 u) H) (hD : va_D A (w1 u)) (hS : va_S A s.heap H locs) (hdg : decode cc pc = .ok (.return_, 1)) : W p l e R s m args below meth c H locs mc ms (hw_ZN below args s D cl A w1 none mc ms) (F0 m pc ls []) :=
  W.vret hx hb hr (fun t ht hW => ⟨rfl, ⟨u, by rw [ht]; exact hP, hD⟩, hS.F ht⟩) hS.2.2 hdg hlocks
theorem hw_iald (hx : p.tables.exec = Jvm.exec) (hb : c.code = cc) (hK : va_K D cl [(cA, .int), (cZ, .boolean)] s) (hP : va_P D cl ws H) (q0 : Nat) {n : Nat} {f : Nat → Int32} (ha : ws[q0]? = some (a0, .inl (cA, n, .inl f))) {i v : Int32} (hv : hw_rd n f i = some v) (hdg : decode cc pc = .ok (.iaload, 1)) (kk : W p l e R s m args below meth c H locs cells slots Q (F0 m (pc + 1) ls (.int v :: rest))) : W p l e R s m args below meth c H locs cells slots Q (F0 m pc ls (.int i :: .ref a0 :: rest)) := by
  obtain ⟨h1, rfl⟩ := hw_rd_some hv
  exact va_iald hx hb hK hP q0 0 ha rfl h1 hdg kk
theorem hw_iast {H0 : Heap} (hx : p.tables.exec = Jvm.exec) (hb : c.code = cc) (hK : va_K D cl [(cA, .int), (cZ, .boolean)] s) (hP : va_P D cl ws H) (hD : va_D A ws) (hS : va_S A H0 H locs) (q0 : Nat) {n : Nat} {f g : Nat → Int32} (ha : ws[q0]? = some (a0, .inl (cA, n, .inl f))) {i x : Int32} (hv : hw_wr n f i x = some g) (hdg : decode cc pc = .ok (.iastore, 1)) (kk : ∀ (H1 : Heap) (locs1 : List Loc), va_P D cl (ws.set q0 (a0, .inl (cA, n, .inl g))) H1 → va_D A (ws.set q0 (a0, .inl (cA, n, .inl g))) → va_S A H0 H1 locs1 → W p l e R s m args below meth c H1 locs1 cells slots Q (F0 m (pc + 1) ls rest)) : W p l e R s m args below meth c H locs cells slots Q (F0 m pc ls (.int x :: .int i :: .ref a0 :: rest)) := by
  obtain ⟨h1, rfl⟩ := hw_wr_some hv
  exact va_iast hx hb hK hP hD hS q0 0 ha rfl h1 hdg kk
theorem hw_newa {H0 : Heap} (hx : p.tables.exec = Jvm.exec) (hb : c.code = cc) {atype : ArrayType} (harr : (Cond.arrayClass (newarray.typeOf atype)).before args s = true) (hty : newarray.typeOf atype = .int) (hK : va_K D cl [(cA, .int), (cZ, .boolean)] s) (hP : va_P D cl ws H) (hD : va_D A ws) (hS : va_S A H0 H locs) (hA : ∀ q, H0.size ≤ q → A q) {n : Int32} (N : Nat) (hn : ¬ n < 0) (hN : n.toNatClampNeg = N) (hbytes : N * componentBytes .int ≤ 536870912) (hcells : cells + 1 ≤ R.cells) (hslots : slots + N ≤ R.slots) (hdg : decode cc pc = .ok (.newarray atype, 2)) (kk : ∀ (q : Nat) (H1 : Heap), va_P D cl (ws ++ [(q, .inl (cA, N, .inl (fun _ => 0)))]) H1 → va_D A (ws ++ [(q, .inl (cA, N, .inl (fun _ => 0)))]) → va_S A H0 H1 locs → W p l e R s m args below meth c H1 locs (cells + 1) (slots + N) Q (F0 m (pc + 2) ls (.ref q :: rest))) : W p l e R s m args below meth c H locs cells slots Q (F0 m pc ls (.int n :: rest)) := by
  refine va_newa (a0 := (N, .inl (fun _ => 0))) hx hb harr hty hK hP hD hS hA (fun _ => rfl) hn hN hbytes hcells hslots hdg (fun q cB H1 hK1 hP1 hD1 hS1 => ?_)
  have h1 := (hK1.2 0 (cA, .int) rfl).2
  have h2 := (hK1.2 2 (cB, .int) rfl).2
  have h3 : some cA = some cB := h1.symm.trans h2
  cases h3
  exact kk q H1 hP1 hD1 hS1
theorem hw_zald (hx : p.tables.exec = Jvm.exec) (hb : c.code = cc) (hK : va_K D cl [(cA, .int), (cZ, .boolean)] s) (hP : va_P D cl ws H) (q0 : Nat) {n : Nat} {f : Nat → Int32} (ha : ws[q0]? = some (a0, .inl (cZ, n, .inl f))) {i v : Int32} (hv : hw_rd n f i = some v) (hdg : decode cc pc = .ok (.baload, 1)) (kk : W p l e R s m args below meth c H locs cells slots Q (F0 m (pc + 1) ls (.int v :: rest))) : W p l e R s m args below meth c H locs cells slots Q (F0 m pc ls (.int i :: .ref a0 :: rest)) := by
  obtain ⟨h1, rfl⟩ := hw_rd_some hv
  exact va_zald hx hb hK hP q0 1 ha rfl h1 hdg kk
theorem hw_zast {H0 : Heap} (hx : p.tables.exec = Jvm.exec) (hb : c.code = cc) (hK : va_K D cl [(cA, .int), (cZ, .boolean)] s) (hP : va_P D cl ws H) (hD : va_D A ws) (hS : va_S A H0 H locs) (q0 : Nat) {n : Nat} {f g : Nat → Int32} (ha : ws[q0]? = some (a0, .inl (cZ, n, .inl f))) {i x : Int32} (hv : hw_wz n f i x = some g) (hdg : decode cc pc = .ok (.bastore, 1)) (kk : ∀ (H1 : Heap) (locs1 : List Loc), va_P D cl (ws.set q0 (a0, .inl (cZ, n, .inl g))) H1 → va_D A (ws.set q0 (a0, .inl (cZ, n, .inl g))) → va_S A H0 H1 locs1 → W p l e R s m args below meth c H1 locs1 cells slots Q (F0 m (pc + 1) ls rest)) : W p l e R s m args below meth c H locs cells slots Q (F0 m pc ls (.int x :: .int i :: .ref a0 :: rest)) := by
  obtain ⟨h1, rfl⟩ := hw_wz_some hv
  exact va_zast hx hb hK hP hD hS q0 1 ha rfl h1 hdg kk
theorem hw_newz {H0 : Heap} (hx : p.tables.exec = Jvm.exec) (hb : c.code = cc) {atype : ArrayType} (harr : (Cond.arrayClass (newarray.typeOf atype)).before args s = true) (hty : newarray.typeOf atype = .boolean) (hK : va_K D cl [(cA, .int), (cZ, .boolean)] s) (hP : va_P D cl ws H) (hD : va_D A ws) (hS : va_S A H0 H locs) (hA : ∀ q, H0.size ≤ q → A q) {n : Int32} (N : Nat) (hn : ¬ n < 0) (hN : n.toNatClampNeg = N) (hbytes : N * componentBytes .boolean ≤ 536870912) (hcells : cells + 1 ≤ R.cells) (hslots : slots + N ≤ R.slots) (hdg : decode cc pc = .ok (.newarray atype, 2)) (kk : ∀ (q : Nat) (H1 : Heap), va_P D cl (ws ++ [(q, .inl (cZ, N, .inl (fun _ => 0)))]) H1 → va_D A (ws ++ [(q, .inl (cZ, N, .inl (fun _ => 0)))]) → va_S A H0 H1 locs → W p l e R s m args below meth c H1 locs (cells + 1) (slots + N) Q (F0 m (pc + 2) ls (.ref q :: rest))) : W p l e R s m args below meth c H locs cells slots Q (F0 m pc ls (.int n :: rest)) := by
  refine va_newa (a0 := (N, .inl (fun _ => 0))) hx hb harr hty hK hP hD hS hA (fun _ => rfl) hn hN hbytes hcells hslots hdg (fun q cB H1 hK1 hP1 hD1 hS1 => ?_)
  have h1 := (hK1.2 1 (cZ, .boolean) rfl).2
  have h2 := (hK1.2 2 (cB, .boolean) rfl).2
  have h3 : some cZ = some cB := h1.symm.trans h2
  cases h3
  exact kk q H1 hP1 hD1 hS1
theorem hw_mmin (hx : p.tables.exec = Jvm.exec) (hb : c.code = cc) (hml : c.maxLocals = ls.size) {own : String} {index : Nat} (hown : s.vm.findClass own = some m.cls) (hlink : (Cond.methodLink own index Lib.Math.min.name).before args s = true) (hstat : (Cond.static Lib.Math.min.name).before args s = true) (hini : (Cond.initialized "java/lang/Math").before args s = true) (hcode : (Cond.code Lib.Math.min.name Lib.Math.min.code 2 (some .int)).before args s = true) (hframes : 1 ≤ R.frames) (hlocals : (rest.map fun v => v.category).sum + 13 ≤ R.locals) (hc : cells ≤ R.cells) (hs : slots ≤ R.slots) {x y : Int32} (hdg : decode cc pc = .ok (.invokestatic index, 3)) (kk : W p l e R s m args below meth c H locs cells slots Q (F0 m (pc + 3) ls (.int (hw_min x y) :: rest))) : W p l e R s m args below meth c H locs cells slots Q (F0 m pc ls (.int y :: .int x :: rest)) :=
  va_mmin hx hb hml hown hlink hstat hini hcode hframes hlocals hc hs hdg kk
theorem hw_mmax (hx : p.tables.exec = Jvm.exec) (hb : c.code = cc) (hml : c.maxLocals = ls.size) {own : String} {index : Nat} (hown : s.vm.findClass own = some m.cls) (hlink : (Cond.methodLink own index Lib.Math.max.name).before args s = true) (hstat : (Cond.static Lib.Math.max.name).before args s = true) (hini : (Cond.initialized "java/lang/Math").before args s = true) (hcode : (Cond.code Lib.Math.max.name Lib.Math.max.code 2 (some .int)).before args s = true) (hframes : 1 ≤ R.frames) (hlocals : (rest.map fun v => v.category).sum + 13 ≤ R.locals) (hc : cells ≤ R.cells) (hs : slots ≤ R.slots) {x y : Int32} (hdg : decode cc pc = .ok (.invokestatic index, 3)) (kk : W p l e R s m args below meth c H locs cells slots Q (F0 m (pc + 3) ls (.int (hw_max x y) :: rest))) : W p l e R s m args below meth c H locs cells slots Q (F0 m pc ls (.int y :: .int x :: rest)) :=
  va_mmax hx hb hml hown hlink hstat hini hcode hframes hlocals hc hs hdg kk
theorem hw_iushr (hx : p.tables.exec = Jvm.exec) (hb : c.code = cc) {x y : Int32} (hdg : decode cc pc = .ok (.iushr, 1)) (k : W p l e R s m args below meth c H locs cells slots Q (F0 m (pc + 1) ls (.int (hw_ushr x y) :: rest))) : W p l e R s m args below meth c H locs cells slots Q (F0 m pc ls (.int y :: .int x :: rest)) :=
  lv_iushr hx hb hdg rfl k
variable {β : Type} {f1 f2 : Option β} {res : β} {off : Int} {tgt : Nat}
theorem hi_icmp_eq (hx : p.tables.exec = Jvm.exec) (hb : c.code = cc) {x y : Int32} (hdg : decode cc pc = .ok (.if_icmp .eq off, 3)) (ht : (pc : Int) + off = (tgt : Int)) (hf : (if x = y then f1 else f2) = some res) (kt : x = y → f1 = some res → W p l e R s m args below meth c H locs cells slots Q (F0 m tgt ls rest)) (kf : ¬ x = y → f2 = some res → W p l e R s m args below meth c H locs cells slots Q (F0 m (pc + 3) ls rest)) : W p l e R s m args below meth c H locs cells slots Q (F0 m pc ls (.int y :: .int x :: rest)) := lv_icmp_eq hx hb hdg ht (fun hc => kt hc ((if_pos hc).symm.trans hf)) (fun hc => kf hc ((if_neg hc).symm.trans hf))
theorem hi_icmp_ne (hx : p.tables.exec = Jvm.exec) (hb : c.code = cc) {x y : Int32} (hdg : decode cc pc = .ok (.if_icmp .ne off, 3)) (ht : (pc : Int) + off = (tgt : Int)) (hf : (if x = y then f2 else f1) = some res) (kt : ¬ x = y → f1 = some res → W p l e R s m args below meth c H locs cells slots Q (F0 m tgt ls rest)) (kf : x = y → f2 = some res → W p l e R s m args below meth c H locs cells slots Q (F0 m (pc + 3) ls rest)) : W p l e R s m args below meth c H locs cells slots Q (F0 m pc ls (.int y :: .int x :: rest)) := lv_icmp_ne hx hb hdg ht (fun hc => kt hc ((if_neg hc).symm.trans hf)) (fun hc => kf hc ((if_pos hc).symm.trans hf))
theorem hi_icmp_lt (hx : p.tables.exec = Jvm.exec) (hb : c.code = cc) {x y : Int32} (hdg : decode cc pc = .ok (.if_icmp .lt off, 3)) (ht : (pc : Int) + off = (tgt : Int)) (hf : (if x < y then f1 else f2) = some res) (kt : x < y → f1 = some res → W p l e R s m args below meth c H locs cells slots Q (F0 m tgt ls rest)) (kf : ¬ x < y → f2 = some res → W p l e R s m args below meth c H locs cells slots Q (F0 m (pc + 3) ls rest)) : W p l e R s m args below meth c H locs cells slots Q (F0 m pc ls (.int y :: .int x :: rest)) := lv_icmp_lt hx hb hdg ht (fun hc => kt hc ((if_pos hc).symm.trans hf)) (fun hc => kf hc ((if_neg hc).symm.trans hf))
theorem hi_icmp_ge (hx : p.tables.exec = Jvm.exec) (hb : c.code = cc) {x y : Int32} (hdg : decode cc pc = .ok (.if_icmp .ge off, 3)) (ht : (pc : Int) + off = (tgt : Int)) (hf : (if y ≤ x then f1 else f2) = some res) (kt : y ≤ x → f1 = some res → W p l e R s m args below meth c H locs cells slots Q (F0 m tgt ls rest)) (kf : ¬ y ≤ x → f2 = some res → W p l e R s m args below meth c H locs cells slots Q (F0 m (pc + 3) ls rest)) : W p l e R s m args below meth c H locs cells slots Q (F0 m pc ls (.int y :: .int x :: rest)) := lv_icmp_ge hx hb hdg ht (fun hc => kt hc ((if_pos hc).symm.trans hf)) (fun hc => kf hc ((if_neg hc).symm.trans hf))
theorem hi_icmp_gt (hx : p.tables.exec = Jvm.exec) (hb : c.code = cc) {x y : Int32} (hdg : decode cc pc = .ok (.if_icmp .gt off, 3)) (ht : (pc : Int) + off = (tgt : Int)) (hf : (if y < x then f1 else f2) = some res) (kt : y < x → f1 = some res → W p l e R s m args below meth c H locs cells slots Q (F0 m tgt ls rest)) (kf : ¬ y < x → f2 = some res → W p l e R s m args below meth c H locs cells slots Q (F0 m (pc + 3) ls rest)) : W p l e R s m args below meth c H locs cells slots Q (F0 m pc ls (.int y :: .int x :: rest)) := lv_icmp_gt hx hb hdg ht (fun hc => kt hc ((if_pos hc).symm.trans hf)) (fun hc => kf hc ((if_neg hc).symm.trans hf))
theorem hi_icmp_le (hx : p.tables.exec = Jvm.exec) (hb : c.code = cc) {x y : Int32} (hdg : decode cc pc = .ok (.if_icmp .le off, 3)) (ht : (pc : Int) + off = (tgt : Int)) (hf : (if x ≤ y then f1 else f2) = some res) (kt : x ≤ y → f1 = some res → W p l e R s m args below meth c H locs cells slots Q (F0 m tgt ls rest)) (kf : ¬ x ≤ y → f2 = some res → W p l e R s m args below meth c H locs cells slots Q (F0 m (pc + 3) ls rest)) : W p l e R s m args below meth c H locs cells slots Q (F0 m pc ls (.int y :: .int x :: rest)) := lv_icmp_le hx hb hdg ht (fun hc => kt hc ((if_pos hc).symm.trans hf)) (fun hc => kf hc ((if_neg hc).symm.trans hf))
theorem hi_if_eq (hx : p.tables.exec = Jvm.exec) (hb : c.code = cc) {x : Int32} (hdg : decode cc pc = .ok (.ifCond .eq off, 3)) (ht : (pc : Int) + off = (tgt : Int)) (hf : (if x = 0 then f1 else f2) = some res) (kt : x = 0 → f1 = some res → W p l e R s m args below meth c H locs cells slots Q (F0 m tgt ls rest)) (kf : ¬ x = 0 → f2 = some res → W p l e R s m args below meth c H locs cells slots Q (F0 m (pc + 3) ls rest)) : W p l e R s m args below meth c H locs cells slots Q (F0 m pc ls (.int x :: rest)) := lv_if_eq hx hb hdg ht (fun hc => kt hc ((if_pos hc).symm.trans hf)) (fun hc => kf hc ((if_neg hc).symm.trans hf))
theorem hi_if_ne (hx : p.tables.exec = Jvm.exec) (hb : c.code = cc) {x : Int32} (hdg : decode cc pc = .ok (.ifCond .ne off, 3)) (ht : (pc : Int) + off = (tgt : Int)) (hf : (if x = 0 then f2 else f1) = some res) (kt : ¬ x = 0 → f1 = some res → W p l e R s m args below meth c H locs cells slots Q (F0 m tgt ls rest)) (kf : x = 0 → f2 = some res → W p l e R s m args below meth c H locs cells slots Q (F0 m (pc + 3) ls rest)) : W p l e R s m args below meth c H locs cells slots Q (F0 m pc ls (.int x :: rest)) := lv_if_ne hx hb hdg ht (fun hc => kt hc ((if_neg hc).symm.trans hf)) (fun hc => kf hc ((if_pos hc).symm.trans hf))
theorem hi_if_lt (hx : p.tables.exec = Jvm.exec) (hb : c.code = cc) {x : Int32} (hdg : decode cc pc = .ok (.ifCond .lt off, 3)) (ht : (pc : Int) + off = (tgt : Int)) (hf : (if x < 0 then f1 else f2) = some res) (kt : x < 0 → f1 = some res → W p l e R s m args below meth c H locs cells slots Q (F0 m tgt ls rest)) (kf : ¬ x < 0 → f2 = some res → W p l e R s m args below meth c H locs cells slots Q (F0 m (pc + 3) ls rest)) : W p l e R s m args below meth c H locs cells slots Q (F0 m pc ls (.int x :: rest)) := lv_if_lt hx hb hdg ht (fun hc => kt hc ((if_pos hc).symm.trans hf)) (fun hc => kf hc ((if_neg hc).symm.trans hf))
theorem hi_if_ge (hx : p.tables.exec = Jvm.exec) (hb : c.code = cc) {x : Int32} (hdg : decode cc pc = .ok (.ifCond .ge off, 3)) (ht : (pc : Int) + off = (tgt : Int)) (hf : (if 0 ≤ x then f1 else f2) = some res) (kt : 0 ≤ x → f1 = some res → W p l e R s m args below meth c H locs cells slots Q (F0 m tgt ls rest)) (kf : ¬ 0 ≤ x → f2 = some res → W p l e R s m args below meth c H locs cells slots Q (F0 m (pc + 3) ls rest)) : W p l e R s m args below meth c H locs cells slots Q (F0 m pc ls (.int x :: rest)) := lv_if_ge hx hb hdg ht (fun hc => kt hc ((if_pos hc).symm.trans hf)) (fun hc => kf hc ((if_neg hc).symm.trans hf))
theorem hi_if_gt (hx : p.tables.exec = Jvm.exec) (hb : c.code = cc) {x : Int32} (hdg : decode cc pc = .ok (.ifCond .gt off, 3)) (ht : (pc : Int) + off = (tgt : Int)) (hf : (if 0 < x then f1 else f2) = some res) (kt : 0 < x → f1 = some res → W p l e R s m args below meth c H locs cells slots Q (F0 m tgt ls rest)) (kf : ¬ 0 < x → f2 = some res → W p l e R s m args below meth c H locs cells slots Q (F0 m (pc + 3) ls rest)) : W p l e R s m args below meth c H locs cells slots Q (F0 m pc ls (.int x :: rest)) := lv_if_gt hx hb hdg ht (fun hc => kt hc ((if_pos hc).symm.trans hf)) (fun hc => kf hc ((if_neg hc).symm.trans hf))
theorem hi_if_le (hx : p.tables.exec = Jvm.exec) (hb : c.code = cc) {x : Int32} (hdg : decode cc pc = .ok (.ifCond .le off, 3)) (ht : (pc : Int) + off = (tgt : Int)) (hf : (if x ≤ 0 then f1 else f2) = some res) (kt : x ≤ 0 → f1 = some res → W p l e R s m args below meth c H locs cells slots Q (F0 m tgt ls rest)) (kf : ¬ x ≤ 0 → f2 = some res → W p l e R s m args below meth c H locs cells slots Q (F0 m (pc + 3) ls rest)) : W p l e R s m args below meth c H locs cells slots Q (F0 m pc ls (.int x :: rest)) := lv_if_le hx hb hdg ht (fun hc => kt hc ((if_pos hc).symm.trans hf)) (fun hc => kf hc ((if_neg hc).symm.trans hf))
end HW3
section HW4
variable {p : Program} {l : Launch} {e : Env} {R : Room} {s : State} {m : MethodId} {args : Array Value} {below : List Frame} {meth : Method} {c : Code} {H : Heap} {locs : List Loc} {cells slots : Nat} {Q : State → Prop}
variable {cc : ByteArray} {pc : Nat} {ls : Array Slot} {rest st0 : List Value} {D : va_G} {cl : List vw_C} {cA cZ : ClassId} {A : Nat → Prop} {ws wc wr w1 : va_W} {a : Array Value} {r : Option Value} {H0 : Heap}
theorem hw_go (hr : va_Run p l e R s m args below meth c H locs cells slots 0 0 (F0 m pc ls st0) rest (hw_Q D cl (va_A wc H.size) w1 r a) (va_A wc H.size)) (isC isR : List Nat) (hC : isC.map (fun i => ws[i]?) = wc.map some) (hR : isR.map (fun i => ws[i]?) = wr.map some) (hn : va_nd isR = true) (hdis : ∀ i ∈ isR, i ∉ isC) (hP : va_P D cl ws H) (hD : va_D A ws) (hS : va_S A H0 H locs) (hA : ∀ q, H0.size ≤ q → A q)
    (kk : ∀ (H1 : Heap) (locs1 : List Loc), va_P D cl (wr ++ w1) H1 → va_D A (wr ++ w1) → va_S A H0 H1 locs1 → W p l e R s m args below meth c H1 locs1 cells slots Q (F0 m (pc + 3) ls (r.toList ++ rest))) : W p l e R s m args below meth c H locs cells slots Q (F0 m pc ls st0) := by
  have hF := va_free hD hS hA isC hC
  intro T hT X
  obtain ⟨v, st₀, t, T', L, h0, X', hL, e1, e2, ⟨hv, hP1, hD1, hz, hk⟩, st⟩ := hr T hT X
  cases hv
  rw [h0] at hz hk
  have hk1 : ∀ q : Nat, q < H.size → ¬ va_A wc H.size q → T'.heap[q]? = H[q]? := fun q h1 h2 => by rw [e1]; exact hk q h1 h2
  have hz1 : H.size ≤ T'.heap.size := by rw [e1]; exact hz
  obtain ⟨hP2, hD2⟩ := va_join (wr := wr) (w1 := w1) hP hD isC isR hC hR hn hdis hk1 hF (by rw [e1]; exact hP1) hD1
  obtain ⟨t2, a1, b1⟩ := kk T'.heap (locs ++ L) hP2 hD2 ⟨Nat.le_trans hS.1 hz1, fun q h1 h2 => by
      rw [hk1 q (Nat.lt_of_lt_of_le h1 hS.1) (fun z => h2 (hF q z))]; exact hS.2.1 q h1 h2, fun q hq => by
      rcases List.mem_append.mp hq with h | h
      · exact hS.2.2 q h
      · exact hF _ (hL q h)⟩ T' rfl X'
  exact ⟨t2, st t2 a1, b1⟩
theorem hw_goN {w1 : (Nat → Nat) → va_W} {mc ms : Nat} (hr : va_Run p l e R s m args below meth c H locs cells slots mc ms (F0 m pc ls st0) rest (hw_QN D cl (va_A wc H.size) w1 r a) (va_A wc H.size)) (isC isR : List Nat) (hC : isC.map (fun i => ws[i]?) = wc.map some) (hR : isR.map (fun i => ws[i]?) = wr.map some) (hn : va_nd isR = true) (hdis : ∀ i ∈ isR, i ∉ isC) (hP : va_P D cl ws H) (hD : va_D A ws) (hS : va_S A H0 H locs) (hA : ∀ q, H0.size ≤ q → A q)
    (kk : ∀ (u : Nat → Nat) (H1 : Heap) (locs1 : List Loc), va_P D cl (wr ++ w1 u) H1 → va_D A (wr ++ w1 u) → va_S A H0 H1 locs1 → W p l e R s m args below meth c H1 locs1 (cells + mc) (slots + ms) Q (F0 m (pc + 3) ls (r.toList ++ rest))) : W p l e R s m args below meth c H locs cells slots Q (F0 m pc ls st0) := by
  have hF := va_free hD hS hA isC hC
  intro T hT X
  obtain ⟨v, st₀, t, T', L, h0, X', hL, e1, e2, ⟨hv, ⟨u, hP1, hD1⟩, hz, hk⟩, st⟩ := hr T hT X
  cases hv
  rw [h0] at hz hk
  have hk1 : ∀ q : Nat, q < H.size → ¬ va_A wc H.size q → T'.heap[q]? = H[q]? := fun q h1 h2 => by rw [e1]; exact hk q h1 h2
  have hz1 : H.size ≤ T'.heap.size := by rw [e1]; exact hz
  obtain ⟨hP2, hD2⟩ := va_join (wr := wr) (w1 := w1 u) hP hD isC isR hC hR hn hdis hk1 hF (by rw [e1]; exact hP1) hD1
  obtain ⟨t2, a1, b1⟩ := kk u T'.heap (locs ++ L) hP2 hD2 ⟨Nat.le_trans hS.1 hz1, fun q h1 h2 => by
      rw [hk1 q (Nat.lt_of_lt_of_le h1 hS.1) (fun z => h2 (hF q z))]; exact hS.2.1 q h1 h2, fun q hq => by
      rcases List.mem_append.mp hq with h | h
      · exact hS.2.2 q h
      · exact hF _ (hL q h)⟩ T' rfl X'
  exact ⟨t2, st t2 a1, b1⟩
theorem hw_preS {As : List Value} (isC : List Nat) (hnC : va_nd isC = true) (hC : isC.map (fun i => ws[i]?) = wc.map some) (hK : va_K D cl [(cA, .int), (cZ, .boolean)] s) (hE : hw_NE s) (hP : va_P D cl ws H) (hD : va_D A ws) : PreS s H (hw_pre D cl cA cZ H.size As wc) As := by
  have hPc : va_P D cl wc H := by
    intro k q hk
    have h1 : (wc.map some)[k]? = some (some q) := by rw [List.getElem?_map, hk]; rfl
    rw [← hC, List.getElem?_map] at h1
    cases h2 : isC[k]? with
    | none => rw [h2] at h1; cases h1
    | some i =>
      rw [h2] at h1
      exact hP i q (Option.some.inj h1)
  refine ⟨fun a U g mk q => ?_, fun U hU hW => ⟨rfl, by rw [hU], by rw [hU]; exact hPc, va_K.moved hW.alike hK, (hD.sub isC hnC hC).weaken (fun _ _ _ _ => trivial), hE.warm hW⟩⟩
  obtain ⟨q0, q1, qP, qK, qD, qE⟩ := q
  exact ⟨q0, q1, qP, va_K.moved (u := U) (U := U.calling g mk a) (Vm.Alike.refl U.vm) qK, qD, hw_NE.same (s := U) (U := U.calling g mk a) rfl qE⟩
variable {Ts : List Cond} {own host : String} {nL index maxL n : Nat} {y : MethodName} {bytes : ByteArray} {ret : Option FieldType} {wy : List Cond} {rm : Room} {As : List Value} {b : Nat}
theorem hw_goS (S : CallFix p m c cc nL s args Ts own) (hM : hw_C l y wy rm D cl cA cZ As wc w1 r) (cw : CallB R s args own index y bytes maxL ret wy rm 0 0 n ∧ (Cond.static y).before args s = true) (isC isR : List Nat) (hC : isC.map (fun i => ws[i]?) = wc.map some) (hR : isR.map (fun i => ws[i]?) = wr.map some) (hnC : va_nd isC = true) (hnR : va_nd isR = true) (hdis : ∀ i ∈ isR, i ∉ isC) (hK : va_K D cl [(cA, .int), (cZ, .boolean)] s) (hE : hw_NE s) (hP : va_P D cl ws H) (hD : va_D A ws) (hS : va_S A H0 H locs) (hA : ∀ q, H0.size ≤ q → A q) (hsize : ls.size = nL) (hn : As.length = n) (hst : st0 = As.reverse ++ rest) (hW : (rest.map fun v => v.category).sum ≤ 8) (hdg : decode cc pc = .ok (.invokestatic index, 3)) (hf : cells ≤ R.cells ∧ slots ≤ R.slots)
    (kk : ∀ (H1 : Heap) (locs1 : List Loc), va_P D cl (wr ++ w1) H1 → va_D A (wr ++ w1) → va_S A H0 H1 locs1 → W p l e R s m args below meth c H1 locs1 cells slots Q (F0 m (pc + 3) ls (r.toList ++ rest))) : W p l e R s m args below meth c H locs cells slots Q (F0 m pc ls st0) :=
  hw_go (va_runS S (hM H.size) cw (hw_preS isC hnC hC hK hE hP hD) rfl hn hsize hst (lv_room hW) hdg hf) isC isR hC hR hnR hdis hP hD hS hA kk
theorem hw_goSN (S : CallFix p m c cc nL s args Ts own) (hM : hw_C l y wy rm D cl cA cZ As wc w1 r) (cw : va_CN R s args own index y host bytes maxL ret wy rm 0 0 n ∧ (Cond.static y).before args s = true ∧ True) (isC isR : List Nat) (hC : isC.map (fun i => ws[i]?) = wc.map some) (hR : isR.map (fun i => ws[i]?) = wr.map some) (hnC : va_nd isC = true) (hnR : va_nd isR = true) (hdis : ∀ i ∈ isR, i ∉ isC) (hK : va_K D cl [(cA, .int), (cZ, .boolean)] s) (hE : hw_NE s) (hP : va_P D cl ws H) (hD : va_D A ws) (hS : va_S A H0 H locs) (hA : ∀ q, H0.size ≤ q → A q) (hsize : ls.size = nL) (hn : As.length = n) (hst : st0 = As.reverse ++ rest) (hW : (rest.map fun v => v.category).sum ≤ 8) (hdg : decode cc pc = .ok (.invokestatic index, 3)) (hf : cells ≤ R.cells ∧ slots ≤ R.slots)
    (kk : ∀ (H1 : Heap) (locs1 : List Loc), va_P D cl (wr ++ w1) H1 → va_D A (wr ++ w1) → va_S A H0 H1 locs1 → W p l e R s m args below meth c H1 locs1 cells slots Q (F0 m (pc + 3) ls (r.toList ++ rest))) : W p l e R s m args below meth c H locs cells slots Q (F0 m pc ls st0) :=
  hw_go (va_runSN S (hM H.size) cw (hw_preS isC hnC hC hK hE hP hD) rfl hn hsize hst (lv_room hW) hdg hf) isC isR hC hR hnR hdis hP hD hS hA kk
theorem hw_goV {C : String} {T : u_T} {N ci : Nat} {fs : List Value} (S : CallFix p m c cc nL s args Ts own) (hM : hw_C l y wy rm D cl cA cZ (.ref b :: As) wc w1 r) (cw : CallW R s args own C index y bytes maxL ret wy rm 0 0 n) (q0 : Nat) (hc : cl[ci]? = some (C, T, N)) (he : ws[q0]? = some (b, .inr (ci, fs))) (isC isR : List Nat) (hC : isC.map (fun i => ws[i]?) = wc.map some) (hR : isR.map (fun i => ws[i]?) = wr.map some) (hnC : va_nd isC = true) (hnR : va_nd isR = true) (hdis : ∀ i ∈ isR, i ∉ isC) (hK : va_K D cl [(cA, .int), (cZ, .boolean)] s) (hE : hw_NE s) (hP : va_P D cl ws H) (hD : va_D A ws) (hS : va_S A H0 H locs) (hA : ∀ q, H0.size ≤ q → A q) (hsize : ls.size = nL) (hn : As.length = n) (hst : st0 = As.reverse ++ .ref b :: rest) (hW : (rest.map fun v => v.category).sum ≤ 8) (hdg : decode cc pc = .ok (.invokevirtual index, 3)) (hf : cells ≤ R.cells ∧ slots ≤ R.slots)
    (kk : ∀ (H1 : Heap) (locs1 : List Loc), va_P D cl (wr ++ w1) H1 → va_D A (wr ++ w1) → va_S A H0 H1 locs1 → W p l e R s m args below meth c H1 locs1 cells slots Q (F0 m (pc + 3) ls (r.toList ++ rest))) : W p l e R s m args below meth c H locs cells slots Q (F0 m pc ls st0) :=
  hw_go (va_runV S (hM H.size) cw ⟨(hw_preS isC hnC hC hK hE hP hD).1, va_recv hK hP hc he, (hw_preS isC hnC hC hK hE hP hD).2⟩ rfl hn hsize hst (lv_room hW) hdg hf) isC isR hC hR hnR hdis hP hD hS hA kk
theorem hw_goVN {C : String} {T : u_T} {N ci : Nat} {fs : List Value} (S : CallFix p m c cc nL s args Ts own) (hM : hw_C l y wy rm D cl cA cZ (.ref b :: As) wc w1 r) (cw : va_CN R s args own index y host bytes maxL ret wy rm 0 0 n ∧ (Cond.instanceMethod y).before args s = true ∧ (Cond.selects C y y).before args s = true) (q0 : Nat) (hc : cl[ci]? = some (C, T, N)) (he : ws[q0]? = some (b, .inr (ci, fs))) (isC isR : List Nat) (hC : isC.map (fun i => ws[i]?) = wc.map some) (hR : isR.map (fun i => ws[i]?) = wr.map some) (hnC : va_nd isC = true) (hnR : va_nd isR = true) (hdis : ∀ i ∈ isR, i ∉ isC) (hK : va_K D cl [(cA, .int), (cZ, .boolean)] s) (hE : hw_NE s) (hP : va_P D cl ws H) (hD : va_D A ws) (hS : va_S A H0 H locs) (hA : ∀ q, H0.size ≤ q → A q) (hsize : ls.size = nL) (hn : As.length = n) (hst : st0 = As.reverse ++ .ref b :: rest) (hW : (rest.map fun v => v.category).sum ≤ 8) (hdg : decode cc pc = .ok (.invokevirtual index, 3)) (hf : cells ≤ R.cells ∧ slots ≤ R.slots)
    (kk : ∀ (H1 : Heap) (locs1 : List Loc), va_P D cl (wr ++ w1) H1 → va_D A (wr ++ w1) → va_S A H0 H1 locs1 → W p l e R s m args below meth c H1 locs1 cells slots Q (F0 m (pc + 3) ls (r.toList ++ rest))) : W p l e R s m args below meth c H locs cells slots Q (F0 m pc ls st0) :=
  hw_go (va_runVN S (hM H.size) cw ⟨(hw_preS isC hnC hC hK hE hP hD).1, va_recv hK hP hc he, (hw_preS isC hnC hC hK hE hP hD).2⟩ rfl hn hsize hst (lv_room hW) hdg hf) isC isR hC hR hnR hdis hP hD hS hA kk
theorem hw_goI {w1 : (Nat → Nat) → va_W} {mc ms : Nat} (S : CallFix p m c cc nL s args Ts own) (hM : hw_N l y wy rm D cl cA cZ (.ref b :: As) wc w1 r mc ms) (cw : CallB R s args own index y bytes maxL none wy rm mc ms n ∧ y.name = "<init>" ∧ (Cond.instanceMethod y).before args s = true) (isC isR : List Nat) (hC : isC.map (fun i => ws[i]?) = wc.map some) (hR : isR.map (fun i => ws[i]?) = wr.map some) (hnC : va_nd isC = true) (hnR : va_nd isR = true) (hdis : ∀ i ∈ isR, i ∉ isC) (hK : va_K D cl [(cA, .int), (cZ, .boolean)] s) (hE : hw_NE s) (hP : va_P D cl ws H) (hD : va_D A ws) (hS : va_S A H0 H locs) (hA : ∀ q, H0.size ≤ q → A q) (hsize : ls.size = nL) (hn : As.length = n) (hst : st0 = As.reverse ++ .ref b :: rest) (hW : (rest.map fun v => v.category).sum ≤ 8) (hdg : decode cc pc = .ok (.invokespecial index, 3)) (hf : cells + mc ≤ R.cells ∧ slots + ms ≤ R.slots)
    (kk : ∀ (u : Nat → Nat) (H1 : Heap) (locs1 : List Loc), va_P D cl (wr ++ w1 u) H1 → va_D A (wr ++ w1 u) → va_S A H0 H1 locs1 → W p l e R s m args below meth c H1 locs1 (cells + mc) (slots + ms) Q (F0 m (pc + 3) ls (r.toList ++ rest))) : W p l e R s m args below meth c H locs cells slots Q (F0 m pc ls st0) :=
  hw_goN (va_runI S (hM H.size) cw (hw_preS isC hnC hC hK hE hP hD) rfl hn hsize hst (lv_room hW) hdg hf) isC isR hC hR hnR hdis hP hD hS hA kk
end HW4
theorem ks_X5_15 : GoodIn hw_all wX1_init := hw_gC mw_6
theorem ks_X5_22 : GoodIn hw_all wX2_init := hw_gC mw_11
theorem ks_X5_29 : GoodIn hw_all wX0_init := hw_gC mw_14
theorem ks_X5_36 : GoodIn hw_all wX3_init := hw_gC mw_17
theorem ks_X5_45 : GoodIn hw_all (wsS RX5 45 yX5_isAccount wX5_isAccount) := hw_gS mw_47 mw_48 mw_49 mw_46
theorem ks_X5_50 : GoodIn hw_all (wsS RX5 50 yX5_isAmount wX5_isAmount) := hw_gS mw_55 mw_56 mw_49 mw_52
theorem ks_X5_53 : GoodIn hw_all (wsV RX5 53 RX1 yX1_add wX1_add) := hw_gV mw_58 mw_59 mw_57 mw_22 mw_54
theorem ks_X5_57 : GoodIn hw_all (wsV RX5 57 RX1 yX1_clear wX1_clear) := hw_gV mw_63 mw_64 mw_62 mw_22 mw_61
theorem ks_X2_53 : GoodIn hw_all (wsS RX2 53 yX2_accountCell wX2_accountCell) := hw_gS mw_74 mw_75 mw_28 mw_72
theorem ks_X2_60 : GoodIn hw_all (wsS RX2 60 yX2_amountCell wX2_amountCell) := hw_gS mw_76 mw_77 mw_28 mw_73
theorem ks_X2_101 : GoodIn hw_all (wsV RX2 101 RX2 yX2_totalAt wX2_totalAt) := hw_gV mw_87 mw_88 mw_86 mw_28 mw_78
theorem ks_X5_157 : GoodIn hw_all (wsV RX5 157 RX1 yX1_size wX1_size) := hw_gV mw_92 mw_93 mw_91 mw_22 mw_69
theorem ks_X5_158 : GoodIn hw_all (wsV RX5 158 RX1 yX1_accountAt wX1_accountAt) := hw_gV mw_95 mw_96 mw_94 mw_22 mw_70
theorem ks_X5_99 : GoodIn hw_all (wsV RX5 99 RX2 yX2_size wX2_size) := hw_gV mw_98 mw_99 mw_97 mw_28 mw_71
theorem ks_X5_105 : GoodIn hw_all (wsV RX5 105 RX2 yX2_total wX2_total) := hw_gV mw_101 mw_102 mw_100 mw_28 mw_89
theorem ks_X5_161 : GoodIn hw_all (wsV RX5 161 RX1 yX1_change wX1_change) := hw_gV mw_104 mw_105 mw_103 mw_22 mw_90
theorem ks_X2_50 : GoodIn hw_all wX5_entryCells := hw_gC mw_107
theorem ks_X2_75 : GoodIn hw_all wX5_mix := hw_gC mw_115
theorem ks_X2_72 : GoodIn hw_all (wsV RX2 72 RX2 yX2_leafFrom wX2_leafFrom) := hw_gV mw_119 mw_120 mw_118 mw_28 mw_117
theorem ks_X2_44 : GoodIn hw_all (wsV RX2 44 RX1 yX1_size wX1_size) := hw_gV mw_122 mw_93 mw_91 mw_22 mw_69
theorem ks_X2_66 : GoodIn hw_all (wsV RX2 66 RX2 yX2_sealCell wX2_sealCell) := hw_gV mw_124 mw_125 mw_123 mw_28 mw_110
theorem ks_X2_69 : GoodIn hw_all (wsV RX2 69 RX2 yX2_lastSeal wX2_lastSeal) := hw_gV mw_127 mw_128 mw_126 mw_28 mw_112
theorem ks_X2_78 : GoodIn hw_all (wsV RX2 78 RX2 yX2_acceptNext wX2_acceptNext) := hw_gV mw_130 mw_131 mw_129 mw_28 mw_121
theorem ks_X2_57 : GoodIn hw_all (wsV RX2 57 RX1 yX1_accountAt wX1_accountAt) := hw_gV mw_132 mw_96 mw_94 mw_22 mw_70
theorem ks_X2_63 : GoodIn hw_all (wsV RX2 63 RX1 yX1_amountAt wX1_amountAt) := hw_gV mw_134 mw_135 mw_133 mw_22 mw_108
theorem ks_X5_150 : GoodIn hw_all (wsV RX5 150 RX5 yX5_isPoor wX5_isPoor) := hw_gV mw_138 mw_139 mw_137 mw_49 mw_106
theorem ks_X5_153 : GoodIn hw_all (wsV RX5 153 RX2 yX2_append wX2_append) := hw_gV mw_141 mw_142 mw_140 mw_28 mw_136
theorem ks_X5_60 : GoodIn hw_all (wsV RX5 60 RX1 yX1_isEven wX1_isEven) := hw_gV mw_146 mw_147 mw_145 mw_22 mw_66
theorem ks_X5_64 : GoodIn hw_all (wsV RX5 64 RX2 yX2_firstWith wX2_firstWith) := hw_gV mw_149 mw_150 mw_148 mw_28 mw_68
theorem ks_X5_71 : GoodIn hw_all (wsV RX5 71 RX2 yX2_hasLegsOf wX2_hasLegsOf) := hw_gV mw_152 mw_153 mw_151 mw_28 mw_144
theorem ks_X5_68 : GoodIn hw_all (wsV RX5 68 RX5 yX5_commitNew wX5_commitNew) := hw_gV mw_155 mw_156 mw_154 mw_49 mw_143
theorem ks_X2_31 : GoodIn hw_all (wsS RX2 31 yX2_blockOf wX2_blockOf) := hw_gS mw_160 mw_161 mw_28 mw_158
theorem ks_X0_22 : GoodIn hw_all (wsV RX0 22 RX2 yX2_cellAt wX2_cellAt) := hw_gV mw_168 mw_169 mw_167 mw_28 mw_164
theorem ks_X2_38 : GoodIn hw_all (wsV RX2 38 RX2 yX2_markSynced wX2_markSynced) := hw_gV mw_175 mw_176 mw_174 mw_28 mw_172
theorem ks_X2_41 : GoodIn hw_all (wsV RX2 41 RX2 yX2_clearBehindEnd wX2_clearBehindEnd) := hw_gV mw_178 mw_179 mw_177 mw_28 mw_173
theorem ks_X5_171 : GoodIn hw_all (wsV RX5 171 RX2 yX2_clear wX2_clear) := hw_gV mw_182 mw_183 mw_181 mw_28 mw_180
theorem ks_X5_164 : GoodIn hw_all (wsV RX5 164 RX0 yX0_write wX0_write) := hw_gV mw_186 mw_187 mw_185 mw_34 mw_170
theorem ks_X5_168 : GoodIn hw_all (wsV RX5 168 RX5 yX5_losePower wX5_losePower) := hw_gV mw_189 mw_190 mw_188 mw_49 mw_184
theorem ks_X5_75 : GoodIn hw_all (wsV RX5 75 RX2 yX2_syncedBlock wX2_syncedBlock) := hw_gV mw_193 mw_194 mw_192 mw_28 mw_162
theorem ks_X5_79 : GoodIn hw_all (wsV RX5 79 RX2 yX2_endBlock wX2_endBlock) := hw_gV mw_196 mw_197 mw_195 mw_28 mw_163
theorem ks_X5_85 : GoodIn hw_all (wsV RX5 85 RX2 yX2_markSynced wX2_markSynced) := hw_gV mw_198 mw_176 mw_174 mw_28 mw_172
theorem ks_X5_82 : GoodIn hw_all (wsV RX5 82 RX5 yX5_writeBlock wX5_writeBlock) := hw_gV mw_200 mw_201 mw_199 mw_49 mw_191
theorem ks_X5_88 : GoodIn hw_all (wsV RX5 88 RX0 yX0_failAt wX0_failAt) := hw_gV mw_205 mw_206 mw_204 mw_34 mw_203
theorem ks_X2_111 : GoodIn hw_all wX5_isAccount := hw_gC mw_46
theorem ks_X2_115 : GoodIn hw_all wX5_isAmount := hw_gC mw_52
theorem ks_X2_105 : GoodIn hw_all (wsV RX2 105 RX2 yX2_nextFits wX2_nextFits) := hw_gV mw_212 mw_213 mw_211 mw_28 mw_209
theorem ks_X2_108 : GoodIn hw_all (wsV RX2 108 RX2 yX2_nextLegsAreSound wX2_nextLegsAreSound) := hw_gV mw_215 mw_216 mw_214 mw_28 mw_210
theorem ks_X2_81 : GoodIn hw_all (wsV RX2 81 RX2 yX2_clear wX2_clear) := hw_gV mw_218 mw_183 mw_181 mw_28 mw_180
theorem ks_X2_84 : GoodIn hw_all (wsV RX2 84 RX0 yX0_cellAt wX0_cellAt) := hw_gV mw_220 mw_221 mw_219 mw_34 mw_208
theorem ks_X2_89 : GoodIn hw_all (wsV RX2 89 RX2 yX2_nextIsSound wX2_nextIsSound) := hw_gV mw_223 mw_224 mw_222 mw_28 mw_217
theorem ks_X5_92 : GoodIn hw_all (wsV RX5 92 RX2 yX2_load wX2_load) := hw_gV mw_228 mw_229 mw_227 mw_28 mw_225
theorem ks_X5_96 : GoodIn hw_all (wsV RX5 96 RX2 yX2_endsInBlock wX2_endsInBlock) := hw_gV mw_231 mw_232 mw_230 mw_28 mw_226
theorem ks_X5_102 : GoodIn hw_all (wsV RX5 102 RX2 yX2_syncedSize wX2_syncedSize) := hw_gV mw_238 mw_239 mw_237 mw_28 mw_236
theorem ks_X5_109 : GoodIn hw_all (wsV RX5 109 RX2 yX2_leafOf wX2_leafOf) := hw_gV mw_246 mw_247 mw_245 mw_28 mw_244
theorem ks_X5_174 : GoodIn hw_all (wsS RX5 174 yX5_mix wX5_mix) := hw_gS mw_250 mw_116 mw_49 mw_115
theorem ks_X4_27 : GoodIn hw_all (wsV RX4 27 RX2 yX2_leafOf wX2_leafOf) := hw_gV mw_252 mw_247 mw_245 mw_28 mw_244
theorem ks_X4_33 : GoodIn hw_all wX5_split := hw_gC mw_249
theorem ks_X4_13 : GoodIn hw_all (wsS RX4 13 yX4_hash wX4_hash) := hw_gS mw_255 mw_256 mw_257 mw_254
theorem ks_X4_36 : GoodIn hw_all wX5_node := hw_gC mw_251
theorem ks_X4_9 : GoodIn hw_all wX5_mix := hw_gC mw_115
theorem ks_X5_112 : GoodIn hw_all (va_wsS RX5 112 yX4_headOf wX4_headOf) := hw_gA mw_260 mw_261 mw_257 mw_259
theorem ks_X4_19 : GoodIn hw_all (wsS RX4 19 yX4_inclusion wX4_inclusion) := hw_gS mw_267 mw_268 mw_257 mw_266
theorem ks_X4_39 : GoodIn hw_all (wsV RX4 39 RX3 yX3_add wX3_add) := hw_gV mw_270 mw_271 mw_269 mw_40 mw_265
theorem ks_X5_118 : GoodIn hw_all (wsV RX5 118 RX3 yX3_clear wX3_clear) := hw_gV mw_275 mw_276 mw_274 mw_40 mw_264
theorem ks_X5_119 : GoodIn hw_all (va_wsS RX5 119 yX4_addInclusion wX4_addInclusion) := hw_gA mw_277 mw_278 mw_257 mw_272
theorem ks_X5_123 : GoodIn hw_all (wsV RX5 123 RX3 yX3_length wX3_length) := hw_gV mw_280 mw_281 mw_279 mw_40 mw_273
theorem ks_X4_23 : GoodIn hw_all (wsS RX4 23 yX4_consistency wX4_consistency) := hw_gS mw_284 mw_285 mw_257 mw_283
theorem ks_X5_126 : GoodIn hw_all (va_wsS RX5 126 yX4_addConsistency wX4_addConsistency) := hw_gA mw_287 mw_288 mw_257 mw_286
theorem ks_X5_129 : GoodIn hw_all (wsV RX5 129 RX3 yX3_add wX3_add) := hw_gV mw_290 mw_271 mw_269 mw_40 mw_265
theorem ks_X5_131 : GoodIn hw_all (wsV RX5 131 RX3 yX3_removeLast wX3_removeLast) := hw_gV mw_294 mw_295 mw_293 mw_40 mw_292
theorem ks_X5_134 : GoodIn hw_all (wsV RX5 134 RX3 yX3_intAt wX3_intAt) := hw_gV mw_299 mw_300 mw_298 mw_40 mw_297
theorem ks_X3_44 : GoodIn hw_all wX5_split := hw_gC mw_249
theorem ks_X3_34 : GoodIn hw_all (wsV RX3 34 RX3 yX3_intAt wX3_intAt) := hw_gV mw_303 mw_300 mw_298 mw_40 mw_297
theorem ks_X3_23 : GoodIn hw_all (wsS RX3 23 yX3_shownAbove wX3_shownAbove) := hw_gS mw_305 mw_306 mw_40 mw_304
theorem ks_X3_47 : GoodIn hw_all wX5_node := hw_gC mw_251
theorem ks_X3_19 : GoodIn hw_all (wsS RX3 19 yX3_inclusionLength wX3_inclusionLength) := hw_gS mw_307 mw_308 mw_40 mw_302
theorem ks_X5_137 : GoodIn hw_all (wsV RX5 137 RX3 yX3_showsInclusion wX3_showsInclusion) := hw_gV mw_311 mw_312 mw_310 mw_40 mw_309
theorem ks_X3_38 : GoodIn hw_all (wsS RX3 38 yX3_shownOld wX3_shownOld) := hw_gS mw_317 mw_318 mw_40 mw_316
theorem ks_X3_41 : GoodIn hw_all (wsS RX3 41 yX3_shownNew wX3_shownNew) := hw_gS mw_320 mw_321 mw_40 mw_319
theorem ks_X3_27 : GoodIn hw_all (wsS RX3 27 yX3_consistencySteps wX3_consistencySteps) := hw_gS mw_322 mw_323 mw_40 mw_314
theorem ks_X3_30 : GoodIn hw_all (wsS RX3 30 yX3_isOwn wX3_isOwn) := hw_gS mw_324 mw_325 mw_40 mw_315
theorem ks_X5_141 : GoodIn hw_all (wsV RX5 141 RX3 yX3_showsConsistency wX3_showsConsistency) := hw_gV mw_328 mw_329 mw_327 mw_40 mw_326
theorem ks_X5_144 : GoodIn hw_all (wsV RX5 144 RX0 yX0_cellAt wX0_cellAt) := hw_gV mw_331 mw_221 mw_219 mw_34 mw_208
theorem ks_X5_147 : GoodIn hw_all (wsV RX5 147 RX0 yX0_writesDone wX0_writesDone) := hw_gV mw_335 mw_336 mw_334 mw_34 mw_333
end

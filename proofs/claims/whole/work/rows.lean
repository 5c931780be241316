section
-- ===== PART A: goes FIRST, ahead of the names: the tables' words, and 'selects' of the private methods out of them =====
/-- a private method of a class that the tables say can be made, by its rows of tables_1 -/
def lw_okq (q : MethodName × Nat) : Prop := (q.1.cls ≠ "java/lang/invoke/MethodHandle" ∧ q.1.cls ≠ "java/lang/invoke/VarHandle") ∧ Cond.instantiable q.1.cls q.2 ∈ tables_1 ∧ Cond.privateMethod q.1 ∈ tables_1 ∧ Cond.instanceMethod q.1 ∈ tables_1
theorem lw_p0 : lw_okq (⟨"SealedLedger", "commitNew", "(I)I"⟩, 6) := ⟨⟨by decide +kernel, by decide +kernel⟩, List.mem_of_getElem? (i := 10) (by decide +kernel), List.mem_of_getElem? (i := 150) (by decide +kernel), List.mem_of_getElem? (i := 151) (by decide +kernel)⟩
theorem lw_p1 : lw_okq (⟨"SealedLedger", "isPoor", "()Z"⟩, 6) := ⟨⟨by decide +kernel, by decide +kernel⟩, List.mem_of_getElem? (i := 10) (by decide +kernel), List.mem_of_getElem? (i := 154) (by decide +kernel), List.mem_of_getElem? (i := 155) (by decide +kernel)⟩
theorem lw_p2 : lw_okq (⟨"SealedLedger$Log", "totalAt", "(IIZ)I"⟩, 7) := ⟨⟨by decide +kernel, by decide +kernel⟩, List.mem_of_getElem? (i := 35) (by decide +kernel), List.mem_of_getElem? (i := 180) (by decide +kernel), List.mem_of_getElem? (i := 181) (by decide +kernel)⟩
theorem lw_p3 : lw_okq (⟨"SealedLedger$Log", "sealCell", "(I)I"⟩, 7) := ⟨⟨by decide +kernel, by decide +kernel⟩, List.mem_of_getElem? (i := 35) (by decide +kernel), List.mem_of_getElem? (i := 207) (by decide +kernel), List.mem_of_getElem? (i := 208) (by decide +kernel)⟩
theorem lw_p4 : lw_okq (⟨"SealedLedger$Log", "lastSeal", "()I"⟩, 7) := ⟨⟨by decide +kernel, by decide +kernel⟩, List.mem_of_getElem? (i := 35) (by decide +kernel), List.mem_of_getElem? (i := 211) (by decide +kernel), List.mem_of_getElem? (i := 212) (by decide +kernel)⟩
theorem lw_p5 : lw_okq (⟨"SealedLedger$Log", "leafFrom", "(I)I"⟩, 7) := ⟨⟨by decide +kernel, by decide +kernel⟩, List.mem_of_getElem? (i := 35) (by decide +kernel), List.mem_of_getElem? (i := 215) (by decide +kernel), List.mem_of_getElem? (i := 216) (by decide +kernel)⟩
theorem lw_p6 : lw_okq (⟨"SealedLedger$Log", "acceptNext", "()V"⟩, 7) := ⟨⟨by decide +kernel, by decide +kernel⟩, List.mem_of_getElem? (i := 35) (by decide +kernel), List.mem_of_getElem? (i := 224) (by decide +kernel), List.mem_of_getElem? (i := 225) (by decide +kernel)⟩
theorem lw_p7 : lw_okq (⟨"SealedLedger", "writeBlock", "(I)Z"⟩, 6) := ⟨⟨by decide +kernel, by decide +kernel⟩, List.mem_of_getElem? (i := 10) (by decide +kernel), List.mem_of_getElem? (i := 247) (by decide +kernel), List.mem_of_getElem? (i := 248) (by decide +kernel)⟩
theorem lw_p8 : lw_okq (⟨"SealedLedger", "losePower", "()V"⟩, 6) := ⟨⟨by decide +kernel, by decide +kernel⟩, List.mem_of_getElem? (i := 10) (by decide +kernel), List.mem_of_getElem? (i := 259) (by decide +kernel), List.mem_of_getElem? (i := 260) (by decide +kernel)⟩
theorem lw_p9 : lw_okq (⟨"SealedLedger$Log", "clearBehindEnd", "()V"⟩, 7) := ⟨⟨by decide +kernel, by decide +kernel⟩, List.mem_of_getElem? (i := 35) (by decide +kernel), List.mem_of_getElem? (i := 271) (by decide +kernel), List.mem_of_getElem? (i := 272) (by decide +kernel)⟩
theorem lw_p10 : lw_okq (⟨"SealedLedger$Log", "nextIsSound", "()Z"⟩, 7) := ⟨⟨by decide +kernel, by decide +kernel⟩, List.mem_of_getElem? (i := 35) (by decide +kernel), List.mem_of_getElem? (i := 297) (by decide +kernel), List.mem_of_getElem? (i := 298) (by decide +kernel)⟩
theorem lw_p11 : lw_okq (⟨"SealedLedger$Log", "nextFits", "()Z"⟩, 7) := ⟨⟨by decide +kernel, by decide +kernel⟩, List.mem_of_getElem? (i := 35) (by decide +kernel), List.mem_of_getElem? (i := 301) (by decide +kernel), List.mem_of_getElem? (i := 302) (by decide +kernel)⟩
theorem lw_p12 : lw_okq (⟨"SealedLedger$Log", "nextLegsAreSound", "()Z"⟩, 7) := ⟨⟨by decide +kernel, by decide +kernel⟩, List.mem_of_getElem? (i := 35) (by decide +kernel), List.mem_of_getElem? (i := 305) (by decide +kernel), List.mem_of_getElem? (i := 306) (by decide +kernel)⟩
theorem lw_p13 : lw_okq (⟨"SealedLedgerModel", "sameLegs", "(I)Z"⟩, 22) := ⟨⟨by decide +kernel, by decide +kernel⟩, List.mem_of_getElem? (i := 473) (by decide +kernel), List.mem_of_getElem? (i := 571) (by decide +kernel), List.mem_of_getElem? (i := 572) (by decide +kernel)⟩
theorem lw_p14 : lw_okq (⟨"SealedLedgerModel", "total", "()I"⟩, 22) := ⟨⟨by decide +kernel, by decide +kernel⟩, List.mem_of_getElem? (i := 473) (by decide +kernel), List.mem_of_getElem? (i := 575) (by decide +kernel), List.mem_of_getElem? (i := 576) (by decide +kernel)⟩
theorem lw_p15 : lw_okq (⟨"SealedLedgerModel", "poor", "()Z"⟩, 22) := ⟨⟨by decide +kernel, by decide +kernel⟩, List.mem_of_getElem? (i := 473) (by decide +kernel), List.mem_of_getElem? (i := 579) (by decide +kernel), List.mem_of_getElem? (i := 580) (by decide +kernel)⟩
def lw_privs_1 : List (MethodName × Nat) := [(⟨"SealedLedger", "commitNew", "(I)I"⟩, 6), (⟨"SealedLedger", "isPoor", "()Z"⟩, 6), (⟨"SealedLedger$Log", "totalAt", "(IIZ)I"⟩, 7), (⟨"SealedLedger$Log", "sealCell", "(I)I"⟩, 7), (⟨"SealedLedger$Log", "lastSeal", "()I"⟩, 7), (⟨"SealedLedger$Log", "leafFrom", "(I)I"⟩, 7), (⟨"SealedLedger$Log", "acceptNext", "()V"⟩, 7), (⟨"SealedLedger", "writeBlock", "(I)Z"⟩, 6), (⟨"SealedLedger", "losePower", "()V"⟩, 6), (⟨"SealedLedger$Log", "clearBehindEnd", "()V"⟩, 7), (⟨"SealedLedger$Log", "nextIsSound", "()Z"⟩, 7), (⟨"SealedLedger$Log", "nextFits", "()Z"⟩, 7), (⟨"SealedLedger$Log", "nextLegsAreSound", "()Z"⟩, 7), (⟨"SealedLedgerModel", "sameLegs", "(I)Z"⟩, 22), (⟨"SealedLedgerModel", "total", "()I"⟩, 22), (⟨"SealedLedgerModel", "poor", "()Z"⟩, 22)]
theorem lw_r1 : ∀ q ∈ lw_privs_1, lw_okq q := List.forall_mem_cons.mpr ⟨lw_p0, List.forall_mem_cons.mpr ⟨lw_p1, List.forall_mem_cons.mpr ⟨lw_p2, List.forall_mem_cons.mpr ⟨lw_p3, List.forall_mem_cons.mpr ⟨lw_p4, List.forall_mem_cons.mpr ⟨lw_p5, List.forall_mem_cons.mpr ⟨lw_p6, List.forall_mem_cons.mpr ⟨lw_p7, List.forall_mem_cons.mpr ⟨lw_p8, List.forall_mem_cons.mpr ⟨lw_p9, List.forall_mem_cons.mpr ⟨lw_p10, List.forall_mem_cons.mpr ⟨lw_p11, List.forall_mem_cons.mpr ⟨lw_p12, List.forall_mem_cons.mpr ⟨lw_p13, List.forall_mem_cons.mpr ⟨lw_p14, List.forall_mem_cons.mpr ⟨lw_p15, fun _ h => absurd h List.not_mem_nil⟩⟩⟩⟩⟩⟩⟩⟩⟩⟩⟩⟩⟩⟩⟩⟩
theorem lw_p16 : lw_okq (⟨"SealedLedgerModel", "sealOf", "(I)I"⟩, 22) := ⟨⟨by decide +kernel, by decide +kernel⟩, List.mem_of_getElem? (i := 473) (by decide +kernel), List.mem_of_getElem? (i := 591) (by decide +kernel), List.mem_of_getElem? (i := 592) (by decide +kernel)⟩
theorem lw_p17 : lw_okq (⟨"SealedLedgerModel", "leafOf", "(I)I"⟩, 22) := ⟨⟨by decide +kernel, by decide +kernel⟩, List.mem_of_getElem? (i := 473) (by decide +kernel), List.mem_of_getElem? (i := 595) (by decide +kernel), List.mem_of_getElem? (i := 596) (by decide +kernel)⟩
theorem lw_p18 : lw_okq (⟨"SealedLedgerModel", "write", "(I)Z"⟩, 22) := ⟨⟨by decide +kernel, by decide +kernel⟩, List.mem_of_getElem? (i := 473) (by decide +kernel), List.mem_of_getElem? (i := 608) (by decide +kernel), List.mem_of_getElem? (i := 609) (by decide +kernel)⟩
theorem lw_p19 : lw_okq (⟨"SealedLedgerModel", "logged", "(I)I"⟩, 22) := ⟨⟨by decide +kernel, by decide +kernel⟩, List.mem_of_getElem? (i := 473) (by decide +kernel), List.mem_of_getElem? (i := 612) (by decide +kernel), List.mem_of_getElem? (i := 613) (by decide +kernel)⟩
theorem lw_p20 : lw_okq (⟨"SealedLedgerModel", "sound", "(I)Z"⟩, 22) := ⟨⟨by decide +kernel, by decide +kernel⟩, List.mem_of_getElem? (i := 473) (by decide +kernel), List.mem_of_getElem? (i := 624) (by decide +kernel), List.mem_of_getElem? (i := 625) (by decide +kernel)⟩
theorem lw_p21 : lw_okq (⟨"SealedLedgerModel", "hash", "(II)I"⟩, 22) := ⟨⟨by decide +kernel, by decide +kernel⟩, List.mem_of_getElem? (i := 473) (by decide +kernel), List.mem_of_getElem? (i := 651) (by decide +kernel), List.mem_of_getElem? (i := 652) (by decide +kernel)⟩
theorem lw_p22 : lw_okq (⟨"SealedLedgerModel", "lay", "(I)V"⟩, 22) := ⟨⟨by decide +kernel, by decide +kernel⟩, List.mem_of_getElem? (i := 473) (by decide +kernel), List.mem_of_getElem? (i := 665) (by decide +kernel), List.mem_of_getElem? (i := 666) (by decide +kernel)⟩
def lw_privs_2 : List (MethodName × Nat) := [(⟨"SealedLedgerModel", "sealOf", "(I)I"⟩, 22), (⟨"SealedLedgerModel", "leafOf", "(I)I"⟩, 22), (⟨"SealedLedgerModel", "write", "(I)Z"⟩, 22), (⟨"SealedLedgerModel", "logged", "(I)I"⟩, 22), (⟨"SealedLedgerModel", "sound", "(I)Z"⟩, 22), (⟨"SealedLedgerModel", "hash", "(II)I"⟩, 22), (⟨"SealedLedgerModel", "lay", "(I)V"⟩, 22)]
theorem lw_r2 : ∀ q ∈ lw_privs_2, lw_okq q := List.forall_mem_cons.mpr ⟨lw_p16, List.forall_mem_cons.mpr ⟨lw_p17, List.forall_mem_cons.mpr ⟨lw_p18, List.forall_mem_cons.mpr ⟨lw_p19, List.forall_mem_cons.mpr ⟨lw_p20, List.forall_mem_cons.mpr ⟨lw_p21, List.forall_mem_cons.mpr ⟨lw_p22, fun _ h => absurd h List.not_mem_nil⟩⟩⟩⟩⟩⟩⟩
def lw_privs : List (MethodName × Nat) := lw_privs_1 ++ (lw_privs_2)
def lw_tbl : List Cond := k2_sels lw_privs ++ tables_1
theorem lw_privs_ok : ∀ q ∈ lw_privs, lw_okq q := by
  show ∀ q ∈ lw_privs_1 ++ (lw_privs_2), lw_okq q
  exact List.forall_mem_append.mpr ⟨lw_r1, lw_r2⟩
def RX0 : String := "SealedLedger$Disk"
def TX0 : u_T := fun k => match k with
  | 0 => ("SealedLedger$Disk", "cells", "[I", true)
  | 1 => ("SealedLedger$Disk", "done", "I", false)
  | _ => ("SealedLedger$Disk", "failing", "I", false)
def tyX0 : Nat → FieldType := fun k => match k with
  | 0 => .array .int
  | 1 => .int
  | _ => .int
theorem nX0 : ∀ a, a < 3 → ∀ b, b < 3 → a ≠ b → (TX0 a).2.1 ≠ (TX0 b).2.1 := by decide +kernel
theorem tyX0_ok : ∀ k, k < 3 → parseFieldDescriptor (TX0 k).2.2.1 = some (tyX0 k) := by decide +kernel
abbrev cX0_init : ByteArray := prog_2_method_1_code
def yX0_init : MethodName := ⟨RX0, "<init>", "()V"⟩
abbrev cX0_failAt : ByteArray := prog_2_method_2_code
def yX0_failAt : MethodName := ⟨RX0, "failAt", "(I)V"⟩
abbrev cX0_writesDone : ByteArray := prog_2_method_3_code
def yX0_writesDone : MethodName := ⟨RX0, "writesDone", "()I"⟩
abbrev cX0_cellAt : ByteArray := prog_2_method_4_code
def yX0_cellAt : MethodName := ⟨RX0, "cellAt", "(I)I"⟩
abbrev cX0_write : ByteArray := prog_2_method_5_code
def yX0_write : MethodName := ⟨RX0, "write", "(LSealedLedger$Log;I)Z"⟩
def RX1 : String := "SealedLedger$Draft"
def TX1 : u_T := fun k => match k with
  | 0 => ("SealedLedger$Draft", "accounts", "[I", true)
  | 1 => ("SealedLedger$Draft", "amounts", "[I", true)
  | _ => ("SealedLedger$Draft", "count", "I", false)
def tyX1 : Nat → FieldType := fun k => match k with
  | 0 => .array .int
  | 1 => .array .int
  | _ => .int
theorem nX1 : ∀ a, a < 3 → ∀ b, b < 3 → a ≠ b → (TX1 a).2.1 ≠ (TX1 b).2.1 := by decide +kernel
theorem tyX1_ok : ∀ k, k < 3 → parseFieldDescriptor (TX1 k).2.2.1 = some (tyX1 k) := by decide +kernel
abbrev cX1_init : ByteArray := prog_3_method_1_code
def yX1_init : MethodName := ⟨RX1, "<init>", "()V"⟩
abbrev cX1_add : ByteArray := prog_3_method_2_code
def yX1_add : MethodName := ⟨RX1, "add", "(II)Z"⟩
abbrev cX1_clear : ByteArray := prog_3_method_3_code
def yX1_clear : MethodName := ⟨RX1, "clear", "()V"⟩
abbrev cX1_size : ByteArray := prog_3_method_4_code
def yX1_size : MethodName := ⟨RX1, "size", "()I"⟩
abbrev cX1_accountAt : ByteArray := prog_3_method_5_code
def yX1_accountAt : MethodName := ⟨RX1, "accountAt", "(I)I"⟩
abbrev cX1_amountAt : ByteArray := prog_3_method_6_code
def yX1_amountAt : MethodName := ⟨RX1, "amountAt", "(I)I"⟩
abbrev cX1_isEven : ByteArray := prog_3_method_7_code
def yX1_isEven : MethodName := ⟨RX1, "isEven", "()Z"⟩
abbrev cX1_change : ByteArray := prog_3_method_8_code
def yX1_change : MethodName := ⟨RX1, "change", "(I)I"⟩
def RX2 : String := "SealedLedger$Log"
def TX2 : u_T := fun k => match k with
  | 0 => ("SealedLedger$Log", "cells", "[I", true)
  | 1 => ("SealedLedger$Log", "starts", "[I", true)
  | 2 => ("SealedLedger$Log", "leaves", "[I", true)
  | 3 => ("SealedLedger$Log", "count", "I", false)
  | 4 => ("SealedLedger$Log", "end", "I", false)
  | 5 => ("SealedLedger$Log", "syncedCount", "I", false)
  | _ => ("SealedLedger$Log", "syncedEnd", "I", false)
def tyX2 : Nat → FieldType := fun k => match k with
  | 0 => .array .int
  | 1 => .array .int
  | 2 => .array .int
  | 3 => .int
  | 4 => .int
  | 5 => .int
  | _ => .int
theorem nX2 : ∀ a, a < 7 → ∀ b, b < 7 → a ≠ b → (TX2 a).2.1 ≠ (TX2 b).2.1 := by decide +kernel
theorem tyX2_ok : ∀ k, k < 7 → parseFieldDescriptor (TX2 k).2.2.1 = some (tyX2 k) := by decide +kernel
abbrev cX2_init : ByteArray := prog_4_method_1_code
def yX2_init : MethodName := ⟨RX2, "<init>", "()V"⟩
abbrev cX2_size : ByteArray := prog_4_method_2_code
def yX2_size : MethodName := ⟨RX2, "size", "()I"⟩
abbrev cX2_syncedSize : ByteArray := prog_4_method_3_code
def yX2_syncedSize : MethodName := ⟨RX2, "syncedSize", "()I"⟩
abbrev cX2_cellAt : ByteArray := prog_4_method_4_code
def yX2_cellAt : MethodName := ⟨RX2, "cellAt", "(I)I"⟩
abbrev cX2_leafOf : ByteArray := prog_4_method_5_code
def yX2_leafOf : MethodName := ⟨RX2, "leafOf", "(I)I"⟩
abbrev cX2_endsInBlock : ByteArray := prog_4_method_6_code
def yX2_endsInBlock : MethodName := ⟨RX2, "endsInBlock", "()Z"⟩
abbrev cX2_endBlock : ByteArray := prog_4_method_7_code
def yX2_endBlock : MethodName := ⟨RX2, "endBlock", "()I"⟩
abbrev cX2_syncedBlock : ByteArray := prog_4_method_8_code
def yX2_syncedBlock : MethodName := ⟨RX2, "syncedBlock", "()I"⟩
abbrev cX2_markSynced : ByteArray := prog_4_method_9_code
def yX2_markSynced : MethodName := ⟨RX2, "markSynced", "()V"⟩
abbrev cX2_clear : ByteArray := prog_4_method_10_code
def yX2_clear : MethodName := ⟨RX2, "clear", "()V"⟩
abbrev cX2_append : ByteArray := prog_4_method_11_code
def yX2_append : MethodName := ⟨RX2, "append", "(ILSealedLedger$Draft;)Z"⟩
abbrev cX2_load : ByteArray := prog_4_method_12_code
def yX2_load : MethodName := ⟨RX2, "load", "(LSealedLedger$Disk;)V"⟩
abbrev cX2_firstWith : ByteArray := prog_4_method_13_code
def yX2_firstWith : MethodName := ⟨RX2, "firstWith", "(I)I"⟩
abbrev cX2_hasLegsOf : ByteArray := prog_4_method_14_code
def yX2_hasLegsOf : MethodName := ⟨RX2, "hasLegsOf", "(LSealedLedger$Draft;I)Z"⟩
abbrev cX2_total : ByteArray := prog_4_method_15_code
def yX2_total : MethodName := ⟨RX2, "total", "(IIIZ)I"⟩
abbrev cX2_totalAt : ByteArray := prog_4_method_16_code
def yX2_totalAt : MethodName := ⟨RX2, "totalAt", "(IIZ)I"⟩
abbrev cX2_acceptNext : ByteArray := prog_4_method_17_code
def yX2_acceptNext : MethodName := ⟨RX2, "acceptNext", "()V"⟩
abbrev cX2_nextIsSound : ByteArray := prog_4_method_18_code
def yX2_nextIsSound : MethodName := ⟨RX2, "nextIsSound", "()Z"⟩
abbrev cX2_nextFits : ByteArray := prog_4_method_19_code
def yX2_nextFits : MethodName := ⟨RX2, "nextFits", "()Z"⟩
abbrev cX2_nextLegsAreSound : ByteArray := prog_4_method_20_code
def yX2_nextLegsAreSound : MethodName := ⟨RX2, "nextLegsAreSound", "()Z"⟩
abbrev cX2_leafFrom : ByteArray := prog_4_method_21_code
def yX2_leafFrom : MethodName := ⟨RX2, "leafFrom", "(I)I"⟩
abbrev cX2_lastSeal : ByteArray := prog_4_method_22_code
def yX2_lastSeal : MethodName := ⟨RX2, "lastSeal", "()I"⟩
abbrev cX2_clearBehindEnd : ByteArray := prog_4_method_23_code
def yX2_clearBehindEnd : MethodName := ⟨RX2, "clearBehindEnd", "()V"⟩
abbrev cX2_sealCell : ByteArray := prog_4_method_24_code
def yX2_sealCell : MethodName := ⟨RX2, "sealCell", "(I)I"⟩
abbrev cX2_accountCell : ByteArray := prog_4_method_25_code
def yX2_accountCell : MethodName := ⟨RX2, "accountCell", "(II)I"⟩
abbrev cX2_amountCell : ByteArray := prog_4_method_26_code
def yX2_amountCell : MethodName := ⟨RX2, "amountCell", "(II)I"⟩
abbrev cX2_blockOf : ByteArray := prog_4_method_27_code
def yX2_blockOf : MethodName := ⟨RX2, "blockOf", "(I)I"⟩
def RX3 : String := "SealedLedger$Pad"
def TX3 : u_T := fun k => match k with
  | 0 => ("SealedLedger$Pad", "ints", "[I", true)
  | _ => ("SealedLedger$Pad", "count", "I", false)
def tyX3 : Nat → FieldType := fun k => match k with
  | 0 => .array .int
  | _ => .int
theorem nX3 : ∀ a, a < 2 → ∀ b, b < 2 → a ≠ b → (TX3 a).2.1 ≠ (TX3 b).2.1 := by decide +kernel
theorem tyX3_ok : ∀ k, k < 2 → parseFieldDescriptor (TX3 k).2.2.1 = some (tyX3 k) := by decide +kernel
abbrev cX3_init : ByteArray := prog_5_method_1_code
def yX3_init : MethodName := ⟨RX3, "<init>", "()V"⟩
abbrev cX3_clear : ByteArray := prog_5_method_2_code
def yX3_clear : MethodName := ⟨RX3, "clear", "()V"⟩
abbrev cX3_length : ByteArray := prog_5_method_3_code
def yX3_length : MethodName := ⟨RX3, "length", "()I"⟩
abbrev cX3_intAt : ByteArray := prog_5_method_4_code
def yX3_intAt : MethodName := ⟨RX3, "intAt", "(I)I"⟩
abbrev cX3_add : ByteArray := prog_5_method_5_code
def yX3_add : MethodName := ⟨RX3, "add", "(I)Z"⟩
abbrev cX3_removeLast : ByteArray := prog_5_method_6_code
def yX3_removeLast : MethodName := ⟨RX3, "removeLast", "()Z"⟩
abbrev cX3_showsInclusion : ByteArray := prog_5_method_7_code
def yX3_showsInclusion : MethodName := ⟨RX3, "showsInclusion", "(IIII)Z"⟩
abbrev cX3_showsConsistency : ByteArray := prog_5_method_8_code
def yX3_showsConsistency : MethodName := ⟨RX3, "showsConsistency", "(IIII)Z"⟩
abbrev cX3_shownAbove : ByteArray := prog_5_method_9_code
def yX3_shownAbove : MethodName := ⟨RX3, "shownAbove", "(LSealedLedger$Pad;IIII)I"⟩
abbrev cX3_shownOld : ByteArray := prog_5_method_10_code
def yX3_shownOld : MethodName := ⟨RX3, "shownOld", "(LSealedLedger$Pad;IIII)I"⟩
abbrev cX3_shownNew : ByteArray := prog_5_method_11_code
def yX3_shownNew : MethodName := ⟨RX3, "shownNew", "(LSealedLedger$Pad;IIII)I"⟩
abbrev cX3_inclusionLength : ByteArray := prog_5_method_12_code
def yX3_inclusionLength : MethodName := ⟨RX3, "inclusionLength", "(II)I"⟩
abbrev cX3_consistencySteps : ByteArray := prog_5_method_13_code
def yX3_consistencySteps : MethodName := ⟨RX3, "consistencySteps", "(II)I"⟩
abbrev cX3_isOwn : ByteArray := prog_5_method_14_code
def yX3_isOwn : MethodName := ⟨RX3, "isOwn", "(II)Z"⟩
def RX4 : String := "SealedLedger$Tree"
abbrev cX4_headOf : ByteArray := prog_6_method_2_code
def yX4_headOf : MethodName := ⟨RX4, "headOf", "(LSealedLedger$Log;I)I"⟩
abbrev cX4_addInclusion : ByteArray := prog_6_method_3_code
def yX4_addInclusion : MethodName := ⟨RX4, "addInclusion", "(LSealedLedger$Log;LSealedLedger$Pad;II)V"⟩
abbrev cX4_addConsistency : ByteArray := prog_6_method_4_code
def yX4_addConsistency : MethodName := ⟨RX4, "addConsistency", "(LSealedLedger$Log;LSealedLedger$Pad;II)V"⟩
abbrev cX4_hash : ByteArray := prog_6_method_5_code
def yX4_hash : MethodName := ⟨RX4, "hash", "(LSealedLedger$Log;III)I"⟩
abbrev cX4_inclusion : ByteArray := prog_6_method_6_code
def yX4_inclusion : MethodName := ⟨RX4, "inclusion", "(LSealedLedger$Log;LSealedLedger$Pad;IIII)V"⟩
abbrev cX4_consistency : ByteArray := prog_6_method_7_code
def yX4_consistency : MethodName := ⟨RX4, "consistency", "(LSealedLedger$Log;LSealedLedger$Pad;IIIZI)V"⟩
def RX5 : String := "SealedLedger"
def TX5 : u_T := fun k => match k with
  | 0 => ("SealedLedger", "limits", "[I", true)
  | 1 => ("SealedLedger", "draft", "LSealedLedger$Draft;", true)
  | 2 => ("SealedLedger", "log", "LSealedLedger$Log;", true)
  | 3 => ("SealedLedger", "disk", "LSealedLedger$Disk;", true)
  | 4 => ("SealedLedger", "proof", "LSealedLedger$Pad;", true)
  | _ => ("SealedLedger", "running", "Z", false)
def tyX5 : Nat → FieldType := fun k => match k with
  | 0 => .array .int
  | 1 => .object "SealedLedger$Draft"
  | 2 => .object "SealedLedger$Log"
  | 3 => .object "SealedLedger$Disk"
  | 4 => .object "SealedLedger$Pad"
  | _ => .boolean
theorem nX5 : ∀ a, a < 6 → ∀ b, b < 6 → a ≠ b → (TX5 a).2.1 ≠ (TX5 b).2.1 := by decide +kernel
theorem tyX5_ok : ∀ k, k < 6 → parseFieldDescriptor (TX5 k).2.2.1 = some (tyX5 k) := by decide +kernel
abbrev cX5_init : ByteArray := prog_1_method_1_code
def yX5_init : MethodName := ⟨RX5, "<init>", "()V"⟩
abbrev cX5_limit : ByteArray := prog_1_method_2_code
def yX5_limit : MethodName := ⟨RX5, "limit", "(II)Z"⟩
abbrev cX5_leg : ByteArray := prog_1_method_3_code
def yX5_leg : MethodName := ⟨RX5, "leg", "(II)Z"⟩
abbrev cX5_drop : ByteArray := prog_1_method_4_code
def yX5_drop : MethodName := ⟨RX5, "drop", "()V"⟩
abbrev cX5_commit : ByteArray := prog_1_method_5_code
def yX5_commit : MethodName := ⟨RX5, "commit", "(I)I"⟩
abbrev cX5_sync : ByteArray := prog_1_method_6_code
def yX5_sync : MethodName := ⟨RX5, "sync", "()I"⟩
abbrev cX5_fail : ByteArray := prog_1_method_7_code
def yX5_fail : MethodName := ⟨RX5, "fail", "(I)Z"⟩
abbrev cX5_recover : ByteArray := prog_1_method_8_code
def yX5_recover : MethodName := ⟨RX5, "recover", "()I"⟩
abbrev cX5_on : ByteArray := prog_1_method_9_code
def yX5_on : MethodName := ⟨RX5, "on", "()Z"⟩
abbrev cX5_entries : ByteArray := prog_1_method_10_code
def yX5_entries : MethodName := ⟨RX5, "entries", "()I"⟩
abbrev cX5_synced : ByteArray := prog_1_method_11_code
def yX5_synced : MethodName := ⟨RX5, "synced", "()I"⟩
abbrev cX5_balance : ByteArray := prog_1_method_12_code
def yX5_balance : MethodName := ⟨RX5, "balance", "(II)I"⟩
abbrev cX5_statement : ByteArray := prog_1_method_13_code
def yX5_statement : MethodName := ⟨RX5, "statement", "(IIIZ)I"⟩
abbrev cX5_find : ByteArray := prog_1_method_14_code
def yX5_find : MethodName := ⟨RX5, "find", "(I)I"⟩
abbrev cX5_leaf : ByteArray := prog_1_method_15_code
def yX5_leaf : MethodName := ⟨RX5, "leaf", "(I)I"⟩
abbrev cX5_head : ByteArray := prog_1_method_16_code
def yX5_head : MethodName := ⟨RX5, "head", "(I)I"⟩
abbrev cX5_prove : ByteArray := prog_1_method_17_code
def yX5_prove : MethodName := ⟨RX5, "prove", "(II)I"⟩
abbrev cX5_extend : ByteArray := prog_1_method_18_code
def yX5_extend : MethodName := ⟨RX5, "extend", "(II)I"⟩
abbrev cX5_put : ByteArray := prog_1_method_19_code
def yX5_put : MethodName := ⟨RX5, "put", "(I)Z"⟩
abbrev cX5_take : ByteArray := prog_1_method_20_code
def yX5_take : MethodName := ⟨RX5, "take", "()Z"⟩
abbrev cX5_pad : ByteArray := prog_1_method_21_code
def yX5_pad : MethodName := ⟨RX5, "pad", "(I)I"⟩
abbrev cX5_included : ByteArray := prog_1_method_22_code
def yX5_included : MethodName := ⟨RX5, "included", "(IIII)Z"⟩
abbrev cX5_consistent : ByteArray := prog_1_method_23_code
def yX5_consistent : MethodName := ⟨RX5, "consistent", "(IIII)Z"⟩
abbrev cX5_cell : ByteArray := prog_1_method_24_code
def yX5_cell : MethodName := ⟨RX5, "cell", "(I)I"⟩
abbrev cX5_writes : ByteArray := prog_1_method_25_code
def yX5_writes : MethodName := ⟨RX5, "writes", "()I"⟩
abbrev cX5_commitNew : ByteArray := prog_1_method_26_code
def yX5_commitNew : MethodName := ⟨RX5, "commitNew", "(I)I"⟩
abbrev cX5_isPoor : ByteArray := prog_1_method_27_code
def yX5_isPoor : MethodName := ⟨RX5, "isPoor", "()Z"⟩
abbrev cX5_writeBlock : ByteArray := prog_1_method_28_code
def yX5_writeBlock : MethodName := ⟨RX5, "writeBlock", "(I)Z"⟩
abbrev cX5_losePower : ByteArray := prog_1_method_29_code
def yX5_losePower : MethodName := ⟨RX5, "losePower", "()V"⟩
abbrev cX5_isAccount : ByteArray := prog_1_method_30_code
def yX5_isAccount : MethodName := ⟨RX5, "isAccount", "(I)Z"⟩
abbrev cX5_isAmount : ByteArray := prog_1_method_31_code
def yX5_isAmount : MethodName := ⟨RX5, "isAmount", "(I)Z"⟩
abbrev cX5_entryCells : ByteArray := prog_1_method_32_code
def yX5_entryCells : MethodName := ⟨RX5, "entryCells", "(I)I"⟩
abbrev cX5_mix : ByteArray := prog_1_method_33_code
def yX5_mix : MethodName := ⟨RX5, "mix", "(II)I"⟩
abbrev cX5_node : ByteArray := prog_1_method_34_code
def yX5_node : MethodName := ⟨RX5, "node", "(II)I"⟩
abbrev cX5_split : ByteArray := prog_1_method_35_code
def yX5_split : MethodName := ⟨RX5, "split", "(I)I"⟩
def RX6 : String := "SealedLedgerModel"
def TX6 : u_T := fun k => match k with
  | 0 => ("SealedLedgerModel", "count", "I", false)
  | 1 => ("SealedLedgerModel", "keys", "[I", true)
  | 2 => ("SealedLedgerModel", "legs", "[I", true)
  | 3 => ("SealedLedgerModel", "account", "[I", true)
  | 4 => ("SealedLedgerModel", "amount", "[I", true)
  | 5 => ("SealedLedgerModel", "seals", "[I", true)
  | 6 => ("SealedLedgerModel", "ends", "[I", true)
  | 7 => ("SealedLedgerModel", "synced", "I", false)
  | 8 => ("SealedLedgerModel", "syncedEnd", "I", false)
  | 9 => ("SealedLedgerModel", "draft", "I", false)
  | 10 => ("SealedLedgerModel", "draftAccount", "[I", true)
  | 11 => ("SealedLedgerModel", "draftAmount", "[I", true)
  | 12 => ("SealedLedgerModel", "limits", "[I", true)
  | 13 => ("SealedLedgerModel", "disk", "[I", true)
  | 14 => ("SealedLedgerModel", "off", "Z", false)
  | 15 => ("SealedLedgerModel", "failing", "I", false)
  | 16 => ("SealedLedgerModel", "written", "I", false)
  | 17 => ("SealedLedgerModel", "padded", "I", false)
  | 18 => ("SealedLedgerModel", "pad", "[I", true)
  | 19 => ("SealedLedgerModel", "stack", "[I", true)
  | 20 => ("SealedLedgerModel", "firsts", "[Z", true)
  | _ => ("SealedLedgerModel", "others", "[I", true)
def tyX6 : Nat → FieldType := fun k => match k with
  | 0 => .int
  | 1 => .array .int
  | 2 => .array .int
  | 3 => .array .int
  | 4 => .array .int
  | 5 => .array .int
  | 6 => .array .int
  | 7 => .int
  | 8 => .int
  | 9 => .int
  | 10 => .array .int
  | 11 => .array .int
  | 12 => .array .int
  | 13 => .array .int
  | 14 => .boolean
  | 15 => .int
  | 16 => .int
  | 17 => .int
  | 18 => .array .int
  | 19 => .array .int
  | 20 => .array .boolean
  | _ => .array .int
theorem nX6 : ∀ a, a < 22 → ∀ b, b < 22 → a ≠ b → (TX6 a).2.1 ≠ (TX6 b).2.1 := by decide +kernel
theorem tyX6_ok : ∀ k, k < 22 → parseFieldDescriptor (TX6 k).2.2.1 = some (tyX6 k) := by decide +kernel
abbrev cX6_init : ByteArray := prog_8_method_1_code
def yX6_init : MethodName := ⟨RX6, "<init>", "()V"⟩
abbrev cX6_mix : ByteArray := prog_8_method_2_code
def yX6_mix : MethodName := ⟨RX6, "mix", "(II)I"⟩
abbrev cX6_node : ByteArray := prog_8_method_3_code
def yX6_node : MethodName := ⟨RX6, "node", "(II)I"⟩
abbrev cX6_isAccount : ByteArray := prog_8_method_4_code
def yX6_isAccount : MethodName := ⟨RX6, "isAccount", "(I)Z"⟩
abbrev cX6_limit : ByteArray := prog_8_method_5_code
def yX6_limit : MethodName := ⟨RX6, "limit", "(II)Z"⟩
abbrev cX6_leg : ByteArray := prog_8_method_6_code
def yX6_leg : MethodName := ⟨RX6, "leg", "(II)Z"⟩
abbrev cX6_drop : ByteArray := prog_8_method_7_code
def yX6_drop : MethodName := ⟨RX6, "drop", "()V"⟩
abbrev cX6_leafOf : ByteArray := prog_8_method_8_code
def yX6_leafOf : MethodName := ⟨RX6, "leafOf", "(I)I"⟩
abbrev cX6_sealOf : ByteArray := prog_8_method_9_code
def yX6_sealOf : MethodName := ⟨RX6, "sealOf", "(I)I"⟩
abbrev cX6_sameLegs : ByteArray := prog_8_method_10_code
def yX6_sameLegs : MethodName := ⟨RX6, "sameLegs", "(I)Z"⟩
abbrev cX6_total : ByteArray := prog_8_method_11_code
def yX6_total : MethodName := ⟨RX6, "total", "()I"⟩
abbrev cX6_poor : ByteArray := prog_8_method_12_code
def yX6_poor : MethodName := ⟨RX6, "poor", "()Z"⟩
abbrev cX6_commit : ByteArray := prog_8_method_13_code
def yX6_commit : MethodName := ⟨RX6, "commit", "(I)I"⟩
abbrev cX6_logged : ByteArray := prog_8_method_14_code
def yX6_logged : MethodName := ⟨RX6, "logged", "(I)I"⟩
abbrev cX6_write : ByteArray := prog_8_method_15_code
def yX6_write : MethodName := ⟨RX6, "write", "(I)Z"⟩
abbrev cX6_sync : ByteArray := prog_8_method_16_code
def yX6_sync : MethodName := ⟨RX6, "sync", "()I"⟩
abbrev cX6_fail : ByteArray := prog_8_method_17_code
def yX6_fail : MethodName := ⟨RX6, "fail", "(I)Z"⟩
abbrev cX6_sound : ByteArray := prog_8_method_18_code
def yX6_sound : MethodName := ⟨RX6, "sound", "(I)Z"⟩
abbrev cX6_recover : ByteArray := prog_8_method_19_code
def yX6_recover : MethodName := ⟨RX6, "recover", "()I"⟩
abbrev cX6_on : ByteArray := prog_8_method_20_code
def yX6_on : MethodName := ⟨RX6, "on", "()Z"⟩
abbrev cX6_entries : ByteArray := prog_8_method_21_code
def yX6_entries : MethodName := ⟨RX6, "entries", "()I"⟩
abbrev cX6_synced : ByteArray := prog_8_method_22_code
def yX6_synced : MethodName := ⟨RX6, "synced", "()I"⟩
abbrev cX6_balance : ByteArray := prog_8_method_23_code
def yX6_balance : MethodName := ⟨RX6, "balance", "(II)I"⟩
abbrev cX6_statement : ByteArray := prog_8_method_24_code
def yX6_statement : MethodName := ⟨RX6, "statement", "(IIIZ)I"⟩
abbrev cX6_find : ByteArray := prog_8_method_25_code
def yX6_find : MethodName := ⟨RX6, "find", "(I)I"⟩
abbrev cX6_leaf : ByteArray := prog_8_method_26_code
def yX6_leaf : MethodName := ⟨RX6, "leaf", "(I)I"⟩
abbrev cX6_hash : ByteArray := prog_8_method_27_code
def yX6_hash : MethodName := ⟨RX6, "hash", "(II)I"⟩
abbrev cX6_head : ByteArray := prog_8_method_28_code
def yX6_head : MethodName := ⟨RX6, "head", "(I)I"⟩
abbrev cX6_part : ByteArray := prog_8_method_29_code
def yX6_part : MethodName := ⟨RX6, "part", "(I)I"⟩
abbrev cX6_lay : ByteArray := prog_8_method_30_code
def yX6_lay : MethodName := ⟨RX6, "lay", "(I)V"⟩
abbrev cX6_prove : ByteArray := prog_8_method_31_code
def yX6_prove : MethodName := ⟨RX6, "prove", "(II)I"⟩
abbrev cX6_extend : ByteArray := prog_8_method_32_code
def yX6_extend : MethodName := ⟨RX6, "extend", "(II)I"⟩
abbrev cX6_put : ByteArray := prog_8_method_33_code
def yX6_put : MethodName := ⟨RX6, "put", "(I)Z"⟩
abbrev cX6_take : ByteArray := prog_8_method_34_code
def yX6_take : MethodName := ⟨RX6, "take", "()Z"⟩
abbrev cX6_pad : ByteArray := prog_8_method_35_code
def yX6_pad : MethodName := ⟨RX6, "pad", "(I)I"⟩
abbrev cX6_included : ByteArray := prog_8_method_36_code
def yX6_included : MethodName := ⟨RX6, "included", "(IIII)Z"⟩
abbrev cX6_consistent : ByteArray := prog_8_method_37_code
def yX6_consistent : MethodName := ⟨RX6, "consistent", "(IIII)Z"⟩
abbrev cX6_cell : ByteArray := prog_8_method_38_code
def yX6_cell : MethodName := ⟨RX6, "cell", "(I)I"⟩
abbrev cX6_writes : ByteArray := prog_8_method_39_code
def yX6_writes : MethodName := ⟨RX6, "writes", "()I"⟩
abbrev vwCl : List vw_C := [(RX0, TX0, 3), (RX1, TX1, 3), (RX2, TX2, 7), (RX3, TX3, 2), (RX5, TX5, 6), (RX6, TX6, 22)]
end
section
theorem dX1_init_0 : decode cX1_init 0 = .ok (.aload_n 0, 1) := by decide +kernel
theorem dX1_init_1 : decode cX1_init 1 = .ok (.invokespecial 3, 3) := by decide +kernel
theorem dX1_init_4 : decode cX1_init 4 = .ok (.aload_n 0, 1) := by decide +kernel
theorem dX1_init_5 : decode cX1_init 5 = .ok (.iconst 4, 1) := by decide +kernel
theorem dX1_init_6 : decode cX1_init 6 = .ok (.newarray .int, 2) := by decide +kernel
theorem dX1_init_8 : decode cX1_init 8 = .ok (.putfield 9, 3) := by decide +kernel
theorem dX1_init_11 : decode cX1_init 11 = .ok (.aload_n 0, 1) := by decide +kernel
theorem dX1_init_12 : decode cX1_init 12 = .ok (.iconst 4, 1) := by decide +kernel
theorem dX1_init_13 : decode cX1_init 13 = .ok (.newarray .int, 2) := by decide +kernel
theorem dX1_init_15 : decode cX1_init 15 = .ok (.putfield 15, 3) := by decide +kernel
theorem dX1_init_18 : decode cX1_init 18 = .ok (.return_, 1) := by decide +kernel
theorem dX2_init_0 : decode cX2_init 0 = .ok (.aload_n 0, 1) := by decide +kernel
theorem dX2_init_1 : decode cX2_init 1 = .ok (.invokespecial 3, 3) := by decide +kernel
theorem dX2_init_4 : decode cX2_init 4 = .ok (.aload_n 0, 1) := by decide +kernel
theorem dX2_init_5 : decode cX2_init 5 = .ok (.sipush 512, 3) := by decide +kernel
theorem dX2_init_8 : decode cX2_init 8 = .ok (.newarray .int, 2) := by decide +kernel
theorem dX2_init_10 : decode cX2_init 10 = .ok (.putfield 9, 3) := by decide +kernel
theorem dX2_init_13 : decode cX2_init 13 = .ok (.aload_n 0, 1) := by decide +kernel
theorem dX2_init_14 : decode cX2_init 14 = .ok (.bipush 73, 2) := by decide +kernel
theorem dX2_init_16 : decode cX2_init 16 = .ok (.newarray .int, 2) := by decide +kernel
theorem dX2_init_18 : decode cX2_init 18 = .ok (.putfield 15, 3) := by decide +kernel
theorem dX2_init_21 : decode cX2_init 21 = .ok (.aload_n 0, 1) := by decide +kernel
theorem dX2_init_22 : decode cX2_init 22 = .ok (.bipush 73, 2) := by decide +kernel
theorem dX2_init_24 : decode cX2_init 24 = .ok (.newarray .int, 2) := by decide +kernel
theorem dX2_init_26 : decode cX2_init 26 = .ok (.putfield 18, 3) := by decide +kernel
theorem dX2_init_29 : decode cX2_init 29 = .ok (.return_, 1) := by decide +kernel
theorem dX0_init_0 : decode cX0_init 0 = .ok (.aload_n 0, 1) := by decide +kernel
theorem dX0_init_1 : decode cX0_init 1 = .ok (.invokespecial 3, 3) := by decide +kernel
theorem dX0_init_4 : decode cX0_init 4 = .ok (.aload_n 0, 1) := by decide +kernel
theorem dX0_init_5 : decode cX0_init 5 = .ok (.sipush 512, 3) := by decide +kernel
theorem dX0_init_8 : decode cX0_init 8 = .ok (.newarray .int, 2) := by decide +kernel
theorem dX0_init_10 : decode cX0_init 10 = .ok (.putfield 9, 3) := by decide +kernel
theorem dX0_init_13 : decode cX0_init 13 = .ok (.return_, 1) := by decide +kernel
theorem dX3_init_0 : decode cX3_init 0 = .ok (.aload_n 0, 1) := by decide +kernel
theorem dX3_init_1 : decode cX3_init 1 = .ok (.invokespecial 3, 3) := by decide +kernel
theorem dX3_init_4 : decode cX3_init 4 = .ok (.aload_n 0, 1) := by decide +kernel
theorem dX3_init_5 : decode cX3_init 5 = .ok (.bipush 16, 2) := by decide +kernel
theorem dX3_init_7 : decode cX3_init 7 = .ok (.newarray .int, 2) := by decide +kernel
theorem dX3_init_9 : decode cX3_init 9 = .ok (.putfield 9, 3) := by decide +kernel
theorem dX3_init_12 : decode cX3_init 12 = .ok (.return_, 1) := by decide +kernel
theorem dX5_init_0 : decode cX5_init 0 = .ok (.aload_n 0, 1) := by decide +kernel
theorem dX5_init_1 : decode cX5_init 1 = .ok (.invokespecial 3, 3) := by decide +kernel
theorem dX5_init_4 : decode cX5_init 4 = .ok (.aload_n 0, 1) := by decide +kernel
theorem dX5_init_5 : decode cX5_init 5 = .ok (.bipush 8, 2) := by decide +kernel
theorem dX5_init_7 : decode cX5_init 7 = .ok (.newarray .int, 2) := by decide +kernel
theorem dX5_init_9 : decode cX5_init 9 = .ok (.putfield 9, 3) := by decide +kernel
theorem dX5_init_12 : decode cX5_init 12 = .ok (.aload_n 0, 1) := by decide +kernel
theorem dX5_init_13 : decode cX5_init 13 = .ok (.new 13, 3) := by decide +kernel
theorem dX5_init_16 : decode cX5_init 16 = .ok (.dup, 1) := by decide +kernel
theorem dX5_init_17 : decode cX5_init 17 = .ok (.invokespecial 15, 3) := by decide +kernel
theorem dX5_init_20 : decode cX5_init 20 = .ok (.putfield 16, 3) := by decide +kernel
theorem dX5_init_23 : decode cX5_init 23 = .ok (.aload_n 0, 1) := by decide +kernel
theorem dX5_init_24 : decode cX5_init 24 = .ok (.new 20, 3) := by decide +kernel
theorem dX5_init_27 : decode cX5_init 27 = .ok (.dup, 1) := by decide +kernel
theorem dX5_init_28 : decode cX5_init 28 = .ok (.invokespecial 22, 3) := by decide +kernel
theorem dX5_init_31 : decode cX5_init 31 = .ok (.putfield 23, 3) := by decide +kernel
theorem dX5_init_34 : decode cX5_init 34 = .ok (.aload_n 0, 1) := by decide +kernel
theorem dX5_init_35 : decode cX5_init 35 = .ok (.new 27, 3) := by decide +kernel
theorem dX5_init_38 : decode cX5_init 38 = .ok (.dup, 1) := by decide +kernel
theorem dX5_init_39 : decode cX5_init 39 = .ok (.invokespecial 29, 3) := by decide +kernel
theorem dX5_init_42 : decode cX5_init 42 = .ok (.putfield 30, 3) := by decide +kernel
theorem dX5_init_45 : decode cX5_init 45 = .ok (.aload_n 0, 1) := by decide +kernel
theorem dX5_init_46 : decode cX5_init 46 = .ok (.new 34, 3) := by decide +kernel
theorem dX5_init_49 : decode cX5_init 49 = .ok (.dup, 1) := by decide +kernel
theorem dX5_init_50 : decode cX5_init 50 = .ok (.invokespecial 36, 3) := by decide +kernel
theorem dX5_init_53 : decode cX5_init 53 = .ok (.putfield 37, 3) := by decide +kernel
theorem dX5_init_56 : decode cX5_init 56 = .ok (.aload_n 0, 1) := by decide +kernel
theorem dX5_init_57 : decode cX5_init 57 = .ok (.iconst 1, 1) := by decide +kernel
theorem dX5_init_58 : decode cX5_init 58 = .ok (.putfield 41, 3) := by decide +kernel
theorem dX5_init_61 : decode cX5_init 61 = .ok (.return_, 1) := by decide +kernel
theorem dX5_isAccount_0 : decode cX5_isAccount 0 = .ok (.iload_n 0, 1) := by decide +kernel
theorem dX5_isAccount_1 : decode cX5_isAccount 1 = .ok (.ifCond .lt 13, 3) := by decide +kernel
theorem dX5_isAccount_4 : decode cX5_isAccount 4 = .ok (.iload_n 0, 1) := by decide +kernel
theorem dX5_isAccount_5 : decode cX5_isAccount 5 = .ok (.bipush 8, 2) := by decide +kernel
theorem dX5_isAccount_7 : decode cX5_isAccount 7 = .ok (.if_icmp .ge 7, 3) := by decide +kernel
theorem dX5_isAccount_10 : decode cX5_isAccount 10 = .ok (.iconst 1, 1) := by decide +kernel
theorem dX5_isAccount_11 : decode cX5_isAccount 11 = .ok (.goto 4, 3) := by decide +kernel
theorem dX5_isAccount_14 : decode cX5_isAccount 14 = .ok (.iconst 0, 1) := by decide +kernel
theorem dX5_isAccount_15 : decode cX5_isAccount 15 = .ok (.ireturn, 1) := by decide +kernel
theorem dX5_limit_0 : decode cX5_limit 0 = .ok (.iload_n 1, 1) := by decide +kernel
theorem dX5_limit_1 : decode cX5_limit 1 = .ok (.invokestatic 45, 3) := by decide +kernel
theorem dX5_limit_4 : decode cX5_limit 4 = .ok (.ifCond .eq 13, 3) := by decide +kernel
theorem dX5_limit_7 : decode cX5_limit 7 = .ok (.iload_n 2, 1) := by decide +kernel
theorem dX5_limit_8 : decode cX5_limit 8 = .ok (.ifCond .lt 9, 3) := by decide +kernel
theorem dX5_limit_11 : decode cX5_limit 11 = .ok (.iload_n 2, 1) := by decide +kernel
theorem dX5_limit_12 : decode cX5_limit 12 = .ok (.ldc 49, 2) := by decide +kernel
theorem dX5_limit_14 : decode cX5_limit 14 = .ok (.if_icmp .le 5, 3) := by decide +kernel
theorem dX5_limit_17 : decode cX5_limit 17 = .ok (.iconst 0, 1) := by decide +kernel
theorem dX5_limit_18 : decode cX5_limit 18 = .ok (.ireturn, 1) := by decide +kernel
theorem dX5_limit_19 : decode cX5_limit 19 = .ok (.aload_n 0, 1) := by decide +kernel
theorem dX5_limit_20 : decode cX5_limit 20 = .ok (.getfield 9, 3) := by decide +kernel
theorem dX5_limit_23 : decode cX5_limit 23 = .ok (.iload_n 1, 1) := by decide +kernel
theorem dX5_limit_24 : decode cX5_limit 24 = .ok (.iload_n 2, 1) := by decide +kernel
theorem dX5_limit_25 : decode cX5_limit 25 = .ok (.iastore, 1) := by decide +kernel
theorem dX5_limit_26 : decode cX5_limit 26 = .ok (.iconst 1, 1) := by decide +kernel
theorem dX5_limit_27 : decode cX5_limit 27 = .ok (.ireturn, 1) := by decide +kernel
theorem dX5_isAmount_0 : decode cX5_isAmount 0 = .ok (.iload_n 0, 1) := by decide +kernel
theorem dX5_isAmount_1 : decode cX5_isAmount 1 = .ok (.sipush (-9999), 3) := by decide +kernel
theorem dX5_isAmount_4 : decode cX5_isAmount 4 = .ok (.if_icmp .lt 14, 3) := by decide +kernel
theorem dX5_isAmount_7 : decode cX5_isAmount 7 = .ok (.iload_n 0, 1) := by decide +kernel
theorem dX5_isAmount_8 : decode cX5_isAmount 8 = .ok (.sipush 9999, 3) := by decide +kernel
theorem dX5_isAmount_11 : decode cX5_isAmount 11 = .ok (.if_icmp .gt 7, 3) := by decide +kernel
theorem dX5_isAmount_14 : decode cX5_isAmount 14 = .ok (.iconst 1, 1) := by decide +kernel
theorem dX5_isAmount_15 : decode cX5_isAmount 15 = .ok (.goto 4, 3) := by decide +kernel
theorem dX5_isAmount_18 : decode cX5_isAmount 18 = .ok (.iconst 0, 1) := by decide +kernel
theorem dX5_isAmount_19 : decode cX5_isAmount 19 = .ok (.ireturn, 1) := by decide +kernel
theorem dX1_add_0 : decode cX1_add 0 = .ok (.aload_n 0, 1) := by decide +kernel
theorem dX1_add_1 : decode cX1_add 1 = .ok (.getfield 18, 3) := by decide +kernel
theorem dX1_add_4 : decode cX1_add 4 = .ok (.iconst 4, 1) := by decide +kernel
theorem dX1_add_5 : decode cX1_add 5 = .ok (.if_icmp .lt 5, 3) := by decide +kernel
theorem dX1_add_8 : decode cX1_add 8 = .ok (.iconst 0, 1) := by decide +kernel
theorem dX1_add_9 : decode cX1_add 9 = .ok (.ireturn, 1) := by decide +kernel
theorem dX1_add_10 : decode cX1_add 10 = .ok (.aload_n 0, 1) := by decide +kernel
theorem dX1_add_11 : decode cX1_add 11 = .ok (.getfield 9, 3) := by decide +kernel
theorem dX1_add_14 : decode cX1_add 14 = .ok (.aload_n 0, 1) := by decide +kernel
theorem dX1_add_15 : decode cX1_add 15 = .ok (.getfield 18, 3) := by decide +kernel
theorem dX1_add_18 : decode cX1_add 18 = .ok (.iload_n 1, 1) := by decide +kernel
theorem dX1_add_19 : decode cX1_add 19 = .ok (.iastore, 1) := by decide +kernel
theorem dX1_add_20 : decode cX1_add 20 = .ok (.aload_n 0, 1) := by decide +kernel
theorem dX1_add_21 : decode cX1_add 21 = .ok (.getfield 15, 3) := by decide +kernel
theorem dX1_add_24 : decode cX1_add 24 = .ok (.aload_n 0, 1) := by decide +kernel
theorem dX1_add_25 : decode cX1_add 25 = .ok (.getfield 18, 3) := by decide +kernel
theorem dX1_add_28 : decode cX1_add 28 = .ok (.iload_n 2, 1) := by decide +kernel
theorem dX1_add_29 : decode cX1_add 29 = .ok (.iastore, 1) := by decide +kernel
theorem dX1_add_30 : decode cX1_add 30 = .ok (.aload_n 0, 1) := by decide +kernel
theorem dX1_add_31 : decode cX1_add 31 = .ok (.dup, 1) := by decide +kernel
theorem dX1_add_32 : decode cX1_add 32 = .ok (.getfield 18, 3) := by decide +kernel
theorem dX1_add_35 : decode cX1_add 35 = .ok (.iconst 1, 1) := by decide +kernel
theorem dX1_add_36 : decode cX1_add 36 = .ok (.iadd, 1) := by decide +kernel
theorem dX1_add_37 : decode cX1_add 37 = .ok (.putfield 18, 3) := by decide +kernel
theorem dX1_add_40 : decode cX1_add 40 = .ok (.iconst 1, 1) := by decide +kernel
theorem dX1_add_41 : decode cX1_add 41 = .ok (.ireturn, 1) := by decide +kernel
theorem dX5_leg_0 : decode cX5_leg 0 = .ok (.aload_n 0, 1) := by decide +kernel
theorem dX5_leg_1 : decode cX5_leg 1 = .ok (.getfield 41, 3) := by decide +kernel
theorem dX5_leg_4 : decode cX5_leg 4 = .ok (.ifCond .eq 33, 3) := by decide +kernel
theorem dX5_leg_7 : decode cX5_leg 7 = .ok (.iload_n 1, 1) := by decide +kernel
theorem dX5_leg_8 : decode cX5_leg 8 = .ok (.invokestatic 45, 3) := by decide +kernel
theorem dX5_leg_11 : decode cX5_leg 11 = .ok (.ifCond .eq 26, 3) := by decide +kernel
theorem dX5_leg_14 : decode cX5_leg 14 = .ok (.iload_n 2, 1) := by decide +kernel
theorem dX5_leg_15 : decode cX5_leg 15 = .ok (.invokestatic 50, 3) := by decide +kernel
theorem dX5_leg_18 : decode cX5_leg 18 = .ok (.ifCond .eq 19, 3) := by decide +kernel
theorem dX5_leg_21 : decode cX5_leg 21 = .ok (.aload_n 0, 1) := by decide +kernel
theorem dX5_leg_22 : decode cX5_leg 22 = .ok (.getfield 16, 3) := by decide +kernel
theorem dX5_leg_25 : decode cX5_leg 25 = .ok (.iload_n 1, 1) := by decide +kernel
theorem dX5_leg_26 : decode cX5_leg 26 = .ok (.iload_n 2, 1) := by decide +kernel
theorem dX5_leg_27 : decode cX5_leg 27 = .ok (.invokevirtual 53, 3) := by decide +kernel
theorem dX5_leg_30 : decode cX5_leg 30 = .ok (.ifCond .eq 7, 3) := by decide +kernel
theorem dX5_leg_33 : decode cX5_leg 33 = .ok (.iconst 1, 1) := by decide +kernel
theorem dX5_leg_34 : decode cX5_leg 34 = .ok (.goto 4, 3) := by decide +kernel
theorem dX5_leg_37 : decode cX5_leg 37 = .ok (.iconst 0, 1) := by decide +kernel
theorem dX5_leg_38 : decode cX5_leg 38 = .ok (.ireturn, 1) := by decide +kernel
theorem dX1_clear_0 : decode cX1_clear 0 = .ok (.aload_n 0, 1) := by decide +kernel
theorem dX1_clear_1 : decode cX1_clear 1 = .ok (.iconst 0, 1) := by decide +kernel
theorem dX1_clear_2 : decode cX1_clear 2 = .ok (.putfield 18, 3) := by decide +kernel
theorem dX1_clear_5 : decode cX1_clear 5 = .ok (.return_, 1) := by decide +kernel
theorem dX5_drop_0 : decode cX5_drop 0 = .ok (.aload_n 0, 1) := by decide +kernel
theorem dX5_drop_1 : decode cX5_drop 1 = .ok (.getfield 16, 3) := by decide +kernel
theorem dX5_drop_4 : decode cX5_drop 4 = .ok (.invokevirtual 57, 3) := by decide +kernel
theorem dX5_drop_7 : decode cX5_drop 7 = .ok (.return_, 1) := by decide +kernel
theorem dX1_isEven_0 : decode cX1_isEven 0 = .ok (.iconst 0, 1) := by decide +kernel
theorem dX1_isEven_1 : decode cX1_isEven 1 = .ok (.istore_n 1, 1) := by decide +kernel
theorem dX1_isEven_2 : decode cX1_isEven 2 = .ok (.iconst 0, 1) := by decide +kernel
theorem dX1_isEven_3 : decode cX1_isEven 3 = .ok (.istore_n 2, 1) := by decide +kernel
theorem dX1_isEven_4 : decode cX1_isEven 4 = .ok (.iload_n 2, 1) := by decide +kernel
theorem dX1_isEven_5 : decode cX1_isEven 5 = .ok (.aload_n 0, 1) := by decide +kernel
theorem dX1_isEven_6 : decode cX1_isEven 6 = .ok (.getfield 18, 3) := by decide +kernel
theorem dX1_isEven_9 : decode cX1_isEven 9 = .ok (.if_icmp .ge 18, 3) := by decide +kernel
theorem dX1_isEven_12 : decode cX1_isEven 12 = .ok (.iload_n 1, 1) := by decide +kernel
theorem dX1_isEven_13 : decode cX1_isEven 13 = .ok (.aload_n 0, 1) := by decide +kernel
theorem dX1_isEven_14 : decode cX1_isEven 14 = .ok (.getfield 15, 3) := by decide +kernel
theorem dX1_isEven_17 : decode cX1_isEven 17 = .ok (.iload_n 2, 1) := by decide +kernel
theorem dX1_isEven_18 : decode cX1_isEven 18 = .ok (.iaload, 1) := by decide +kernel
theorem dX1_isEven_19 : decode cX1_isEven 19 = .ok (.iadd, 1) := by decide +kernel
theorem dX1_isEven_20 : decode cX1_isEven 20 = .ok (.istore_n 1, 1) := by decide +kernel
theorem dX1_isEven_21 : decode cX1_isEven 21 = .ok (.iinc 2 1, 3) := by decide +kernel
theorem dX1_isEven_24 : decode cX1_isEven 24 = .ok (.goto (-20), 3) := by decide +kernel
theorem dX1_isEven_27 : decode cX1_isEven 27 = .ok (.aload_n 0, 1) := by decide +kernel
theorem dX1_isEven_28 : decode cX1_isEven 28 = .ok (.getfield 18, 3) := by decide +kernel
theorem dX1_isEven_31 : decode cX1_isEven 31 = .ok (.iconst 2, 1) := by decide +kernel
theorem dX1_isEven_32 : decode cX1_isEven 32 = .ok (.if_icmp .lt 11, 3) := by decide +kernel
theorem dX1_isEven_35 : decode cX1_isEven 35 = .ok (.iload_n 1, 1) := by decide +kernel
theorem dX1_isEven_36 : decode cX1_isEven 36 = .ok (.ifCond .ne 7, 3) := by decide +kernel
theorem dX1_isEven_39 : decode cX1_isEven 39 = .ok (.iconst 1, 1) := by decide +kernel
theorem dX1_isEven_40 : decode cX1_isEven 40 = .ok (.goto 4, 3) := by decide +kernel
theorem dX1_isEven_43 : decode cX1_isEven 43 = .ok (.iconst 0, 1) := by decide +kernel
theorem dX1_isEven_44 : decode cX1_isEven 44 = .ok (.ireturn, 1) := by decide +kernel
theorem dX2_firstWith_0 : decode cX2_firstWith 0 = .ok (.iconst 0, 1) := by decide +kernel
theorem dX2_firstWith_1 : decode cX2_firstWith 1 = .ok (.istore_n 2, 1) := by decide +kernel
theorem dX2_firstWith_2 : decode cX2_firstWith 2 = .ok (.iload_n 2, 1) := by decide +kernel
theorem dX2_firstWith_3 : decode cX2_firstWith 3 = .ok (.aload_n 0, 1) := by decide +kernel
theorem dX2_firstWith_4 : decode cX2_firstWith 4 = .ok (.getfield 21, 3) := by decide +kernel
theorem dX2_firstWith_7 : decode cX2_firstWith 7 = .ok (.if_icmp .ge 28, 3) := by decide +kernel
theorem dX2_firstWith_10 : decode cX2_firstWith 10 = .ok (.aload_n 0, 1) := by decide +kernel
theorem dX2_firstWith_11 : decode cX2_firstWith 11 = .ok (.getfield 9, 3) := by decide +kernel
theorem dX2_firstWith_14 : decode cX2_firstWith 14 = .ok (.aload_n 0, 1) := by decide +kernel
theorem dX2_firstWith_15 : decode cX2_firstWith 15 = .ok (.getfield 15, 3) := by decide +kernel
theorem dX2_firstWith_18 : decode cX2_firstWith 18 = .ok (.iload_n 2, 1) := by decide +kernel
theorem dX2_firstWith_19 : decode cX2_firstWith 19 = .ok (.iaload, 1) := by decide +kernel
theorem dX2_firstWith_20 : decode cX2_firstWith 20 = .ok (.iconst 1, 1) := by decide +kernel
theorem dX2_firstWith_21 : decode cX2_firstWith 21 = .ok (.iadd, 1) := by decide +kernel
theorem dX2_firstWith_22 : decode cX2_firstWith 22 = .ok (.iaload, 1) := by decide +kernel
theorem dX2_firstWith_23 : decode cX2_firstWith 23 = .ok (.iload_n 1, 1) := by decide +kernel
theorem dX2_firstWith_24 : decode cX2_firstWith 24 = .ok (.if_icmp .ne 5, 3) := by decide +kernel
theorem dX2_firstWith_27 : decode cX2_firstWith 27 = .ok (.iload_n 2, 1) := by decide +kernel
theorem dX2_firstWith_28 : decode cX2_firstWith 28 = .ok (.ireturn, 1) := by decide +kernel
theorem dX2_firstWith_29 : decode cX2_firstWith 29 = .ok (.iinc 2 1, 3) := by decide +kernel
theorem dX2_firstWith_32 : decode cX2_firstWith 32 = .ok (.goto (-30), 3) := by decide +kernel
theorem dX2_firstWith_35 : decode cX2_firstWith 35 = .ok (.iconst (-1), 1) := by decide +kernel
theorem dX2_firstWith_36 : decode cX2_firstWith 36 = .ok (.ireturn, 1) := by decide +kernel
theorem dX1_size_0 : decode cX1_size 0 = .ok (.aload_n 0, 1) := by decide +kernel
theorem dX1_size_1 : decode cX1_size 1 = .ok (.getfield 18, 3) := by decide +kernel
theorem dX1_size_4 : decode cX1_size 4 = .ok (.ireturn, 1) := by decide +kernel
theorem dX1_accountAt_0 : decode cX1_accountAt 0 = .ok (.iload_n 1, 1) := by decide +kernel
theorem dX1_accountAt_1 : decode cX1_accountAt 1 = .ok (.ifCond .lt 20, 3) := by decide +kernel
theorem dX1_accountAt_4 : decode cX1_accountAt 4 = .ok (.iload_n 1, 1) := by decide +kernel
theorem dX1_accountAt_5 : decode cX1_accountAt 5 = .ok (.aload_n 0, 1) := by decide +kernel
theorem dX1_accountAt_6 : decode cX1_accountAt 6 = .ok (.getfield 18, 3) := by decide +kernel
theorem dX1_accountAt_9 : decode cX1_accountAt 9 = .ok (.if_icmp .ge 12, 3) := by decide +kernel
theorem dX1_accountAt_12 : decode cX1_accountAt 12 = .ok (.aload_n 0, 1) := by decide +kernel
theorem dX1_accountAt_13 : decode cX1_accountAt 13 = .ok (.getfield 9, 3) := by decide +kernel
theorem dX1_accountAt_16 : decode cX1_accountAt 16 = .ok (.iload_n 1, 1) := by decide +kernel
theorem dX1_accountAt_17 : decode cX1_accountAt 17 = .ok (.iaload, 1) := by decide +kernel
theorem dX1_accountAt_18 : decode cX1_accountAt 18 = .ok (.goto 4, 3) := by decide +kernel
theorem dX1_accountAt_21 : decode cX1_accountAt 21 = .ok (.iconst 0, 1) := by decide +kernel
theorem dX1_accountAt_22 : decode cX1_accountAt 22 = .ok (.ireturn, 1) := by decide +kernel
theorem dX2_size_0 : decode cX2_size 0 = .ok (.aload_n 0, 1) := by decide +kernel
theorem dX2_size_1 : decode cX2_size 1 = .ok (.getfield 21, 3) := by decide +kernel
theorem dX2_size_4 : decode cX2_size 4 = .ok (.ireturn, 1) := by decide +kernel
theorem dX2_accountCell_0 : decode cX2_accountCell 0 = .ok (.iload_n 0, 1) := by decide +kernel
theorem dX2_accountCell_1 : decode cX2_accountCell 1 = .ok (.iconst 2, 1) := by decide +kernel
theorem dX2_accountCell_2 : decode cX2_accountCell 2 = .ok (.iadd, 1) := by decide +kernel
theorem dX2_accountCell_3 : decode cX2_accountCell 3 = .ok (.iconst 2, 1) := by decide +kernel
theorem dX2_accountCell_4 : decode cX2_accountCell 4 = .ok (.iload_n 1, 1) := by decide +kernel
theorem dX2_accountCell_5 : decode cX2_accountCell 5 = .ok (.imul, 1) := by decide +kernel
theorem dX2_accountCell_6 : decode cX2_accountCell 6 = .ok (.iadd, 1) := by decide +kernel
theorem dX2_accountCell_7 : decode cX2_accountCell 7 = .ok (.ireturn, 1) := by decide +kernel
theorem dX2_amountCell_0 : decode cX2_amountCell 0 = .ok (.iload_n 0, 1) := by decide +kernel
theorem dX2_amountCell_1 : decode cX2_amountCell 1 = .ok (.iconst 3, 1) := by decide +kernel
theorem dX2_amountCell_2 : decode cX2_amountCell 2 = .ok (.iadd, 1) := by decide +kernel
theorem dX2_amountCell_3 : decode cX2_amountCell 3 = .ok (.iconst 2, 1) := by decide +kernel
theorem dX2_amountCell_4 : decode cX2_amountCell 4 = .ok (.iload_n 1, 1) := by decide +kernel
theorem dX2_amountCell_5 : decode cX2_amountCell 5 = .ok (.imul, 1) := by decide +kernel
theorem dX2_amountCell_6 : decode cX2_amountCell 6 = .ok (.iadd, 1) := by decide +kernel
theorem dX2_amountCell_7 : decode cX2_amountCell 7 = .ok (.ireturn, 1) := by decide +kernel
theorem dX2_totalAt_0 : decode cX2_totalAt 0 = .ok (.iconst 0, 1) := by decide +kernel
theorem dX2_totalAt_1 : decode cX2_totalAt 1 = .ok (.istore 4, 2) := by decide +kernel
theorem dX2_totalAt_3 : decode cX2_totalAt 3 = .ok (.iconst 0, 1) := by decide +kernel
theorem dX2_totalAt_4 : decode cX2_totalAt 4 = .ok (.istore 5, 2) := by decide +kernel
theorem dX2_totalAt_6 : decode cX2_totalAt 6 = .ok (.iload 5, 2) := by decide +kernel
theorem dX2_totalAt_8 : decode cX2_totalAt 8 = .ok (.aload_n 0, 1) := by decide +kernel
theorem dX2_totalAt_9 : decode cX2_totalAt 9 = .ok (.getfield 9, 3) := by decide +kernel
theorem dX2_totalAt_12 : decode cX2_totalAt 12 = .ok (.iload_n 1, 1) := by decide +kernel
theorem dX2_totalAt_13 : decode cX2_totalAt 13 = .ok (.iaload, 1) := by decide +kernel
theorem dX2_totalAt_14 : decode cX2_totalAt 14 = .ok (.if_icmp .ge 48, 3) := by decide +kernel
theorem dX2_totalAt_17 : decode cX2_totalAt 17 = .ok (.aload_n 0, 1) := by decide +kernel
theorem dX2_totalAt_18 : decode cX2_totalAt 18 = .ok (.getfield 9, 3) := by decide +kernel
theorem dX2_totalAt_21 : decode cX2_totalAt 21 = .ok (.iload_n 1, 1) := by decide +kernel
theorem dX2_totalAt_22 : decode cX2_totalAt 22 = .ok (.iload 5, 2) := by decide +kernel
theorem dX2_totalAt_24 : decode cX2_totalAt 24 = .ok (.invokestatic 53, 3) := by decide +kernel
theorem dX2_totalAt_27 : decode cX2_totalAt 27 = .ok (.iaload, 1) := by decide +kernel
theorem dX2_totalAt_28 : decode cX2_totalAt 28 = .ok (.iload_n 2, 1) := by decide +kernel
theorem dX2_totalAt_29 : decode cX2_totalAt 29 = .ok (.if_icmp .ne 27, 3) := by decide +kernel
theorem dX2_totalAt_32 : decode cX2_totalAt 32 = .ok (.iload 4, 2) := by decide +kernel
theorem dX2_totalAt_34 : decode cX2_totalAt 34 = .ok (.iload_n 3, 1) := by decide +kernel
theorem dX2_totalAt_35 : decode cX2_totalAt 35 = .ok (.ifCond .eq 17, 3) := by decide +kernel
theorem dX2_totalAt_38 : decode cX2_totalAt 38 = .ok (.aload_n 0, 1) := by decide +kernel
theorem dX2_totalAt_39 : decode cX2_totalAt 39 = .ok (.getfield 9, 3) := by decide +kernel
theorem dX2_totalAt_42 : decode cX2_totalAt 42 = .ok (.iload_n 1, 1) := by decide +kernel
theorem dX2_totalAt_43 : decode cX2_totalAt 43 = .ok (.iload 5, 2) := by decide +kernel
theorem dX2_totalAt_45 : decode cX2_totalAt 45 = .ok (.invokestatic 60, 3) := by decide +kernel
theorem dX2_totalAt_48 : decode cX2_totalAt 48 = .ok (.iaload, 1) := by decide +kernel
theorem dX2_totalAt_49 : decode cX2_totalAt 49 = .ok (.goto 4, 3) := by decide +kernel
theorem dX2_totalAt_52 : decode cX2_totalAt 52 = .ok (.iconst 1, 1) := by decide +kernel
theorem dX2_totalAt_53 : decode cX2_totalAt 53 = .ok (.iadd, 1) := by decide +kernel
theorem dX2_totalAt_54 : decode cX2_totalAt 54 = .ok (.istore 4, 2) := by decide +kernel
theorem dX2_totalAt_56 : decode cX2_totalAt 56 = .ok (.iinc 5 1, 3) := by decide +kernel
theorem dX2_totalAt_59 : decode cX2_totalAt 59 = .ok (.goto (-53), 3) := by decide +kernel
theorem dX2_totalAt_62 : decode cX2_totalAt 62 = .ok (.iload 4, 2) := by decide +kernel
theorem dX2_totalAt_64 : decode cX2_totalAt 64 = .ok (.ireturn, 1) := by decide +kernel
theorem dX2_total_0 : decode cX2_total 0 = .ok (.iconst 0, 1) := by decide +kernel
theorem dX2_total_1 : decode cX2_total 1 = .ok (.istore 5, 2) := by decide +kernel
theorem dX2_total_3 : decode cX2_total 3 = .ok (.iload_n 3, 1) := by decide +kernel
theorem dX2_total_4 : decode cX2_total 4 = .ok (.aload_n 0, 1) := by decide +kernel
theorem dX2_total_5 : decode cX2_total 5 = .ok (.getfield 21, 3) := by decide +kernel
theorem dX2_total_8 : decode cX2_total 8 = .ok (.invokestatic 93, 3) := by decide +kernel
theorem dX2_total_11 : decode cX2_total 11 = .ok (.istore 6, 2) := by decide +kernel
theorem dX2_total_13 : decode cX2_total 13 = .ok (.iload_n 2, 1) := by decide +kernel
theorem dX2_total_14 : decode cX2_total 14 = .ok (.iconst 0, 1) := by decide +kernel
theorem dX2_total_15 : decode cX2_total 15 = .ok (.invokestatic 98, 3) := by decide +kernel
theorem dX2_total_18 : decode cX2_total 18 = .ok (.istore 7, 2) := by decide +kernel
theorem dX2_total_20 : decode cX2_total 20 = .ok (.iload 7, 2) := by decide +kernel
theorem dX2_total_22 : decode cX2_total 22 = .ok (.iload 6, 2) := by decide +kernel
theorem dX2_total_24 : decode cX2_total 24 = .ok (.if_icmp .ge 28, 3) := by decide +kernel
theorem dX2_total_27 : decode cX2_total 27 = .ok (.iload 5, 2) := by decide +kernel
theorem dX2_total_29 : decode cX2_total 29 = .ok (.aload_n 0, 1) := by decide +kernel
theorem dX2_total_30 : decode cX2_total 30 = .ok (.aload_n 0, 1) := by decide +kernel
theorem dX2_total_31 : decode cX2_total 31 = .ok (.getfield 15, 3) := by decide +kernel
theorem dX2_total_34 : decode cX2_total 34 = .ok (.iload 7, 2) := by decide +kernel
theorem dX2_total_36 : decode cX2_total 36 = .ok (.iaload, 1) := by decide +kernel
theorem dX2_total_37 : decode cX2_total 37 = .ok (.iload_n 1, 1) := by decide +kernel
theorem dX2_total_38 : decode cX2_total 38 = .ok (.iload 4, 2) := by decide +kernel
theorem dX2_total_40 : decode cX2_total 40 = .ok (.invokevirtual 101, 3) := by decide +kernel
theorem dX2_total_43 : decode cX2_total 43 = .ok (.iadd, 1) := by decide +kernel
theorem dX2_total_44 : decode cX2_total 44 = .ok (.istore 5, 2) := by decide +kernel
theorem dX2_total_46 : decode cX2_total 46 = .ok (.iinc 7 1, 3) := by decide +kernel
theorem dX2_total_49 : decode cX2_total 49 = .ok (.goto (-29), 3) := by decide +kernel
theorem dX2_total_52 : decode cX2_total 52 = .ok (.iload 5, 2) := by decide +kernel
theorem dX2_total_54 : decode cX2_total 54 = .ok (.ireturn, 1) := by decide +kernel
theorem dX1_change_0 : decode cX1_change 0 = .ok (.iconst 0, 1) := by decide +kernel
theorem dX1_change_1 : decode cX1_change 1 = .ok (.istore_n 2, 1) := by decide +kernel
theorem dX1_change_2 : decode cX1_change 2 = .ok (.iconst 0, 1) := by decide +kernel
theorem dX1_change_3 : decode cX1_change 3 = .ok (.istore_n 3, 1) := by decide +kernel
theorem dX1_change_4 : decode cX1_change 4 = .ok (.iload_n 3, 1) := by decide +kernel
theorem dX1_change_5 : decode cX1_change 5 = .ok (.aload_n 0, 1) := by decide +kernel
theorem dX1_change_6 : decode cX1_change 6 = .ok (.getfield 18, 3) := by decide +kernel
theorem dX1_change_9 : decode cX1_change 9 = .ok (.if_icmp .ge 28, 3) := by decide +kernel
theorem dX1_change_12 : decode cX1_change 12 = .ok (.aload_n 0, 1) := by decide +kernel
theorem dX1_change_13 : decode cX1_change 13 = .ok (.getfield 9, 3) := by decide +kernel
theorem dX1_change_16 : decode cX1_change 16 = .ok (.iload_n 3, 1) := by decide +kernel
theorem dX1_change_17 : decode cX1_change 17 = .ok (.iaload, 1) := by decide +kernel
theorem dX1_change_18 : decode cX1_change 18 = .ok (.iload_n 1, 1) := by decide +kernel
theorem dX1_change_19 : decode cX1_change 19 = .ok (.if_icmp .ne 12, 3) := by decide +kernel
theorem dX1_change_22 : decode cX1_change 22 = .ok (.iload_n 2, 1) := by decide +kernel
theorem dX1_change_23 : decode cX1_change 23 = .ok (.aload_n 0, 1) := by decide +kernel
theorem dX1_change_24 : decode cX1_change 24 = .ok (.getfield 15, 3) := by decide +kernel
theorem dX1_change_27 : decode cX1_change 27 = .ok (.iload_n 3, 1) := by decide +kernel
theorem dX1_change_28 : decode cX1_change 28 = .ok (.iaload, 1) := by decide +kernel
theorem dX1_change_29 : decode cX1_change 29 = .ok (.iadd, 1) := by decide +kernel
theorem dX1_change_30 : decode cX1_change 30 = .ok (.istore_n 2, 1) := by decide +kernel
theorem dX1_change_31 : decode cX1_change 31 = .ok (.iinc 3 1, 3) := by decide +kernel
theorem dX1_change_34 : decode cX1_change 34 = .ok (.goto (-30), 3) := by decide +kernel
theorem dX1_change_37 : decode cX1_change 37 = .ok (.iload_n 2, 1) := by decide +kernel
theorem dX1_change_38 : decode cX1_change 38 = .ok (.ireturn, 1) := by decide +kernel
theorem dX5_isPoor_0 : decode cX5_isPoor 0 = .ok (.iconst 0, 1) := by decide +kernel
theorem dX5_isPoor_1 : decode cX5_isPoor 1 = .ok (.istore_n 1, 1) := by decide +kernel
theorem dX5_isPoor_2 : decode cX5_isPoor 2 = .ok (.iload_n 1, 1) := by decide +kernel
theorem dX5_isPoor_3 : decode cX5_isPoor 3 = .ok (.aload_n 0, 1) := by decide +kernel
theorem dX5_isPoor_4 : decode cX5_isPoor 4 = .ok (.getfield 16, 3) := by decide +kernel
theorem dX5_isPoor_7 : decode cX5_isPoor 7 = .ok (.invokevirtual 157, 3) := by decide +kernel
theorem dX5_isPoor_10 : decode cX5_isPoor 10 = .ok (.if_icmp .ge 58, 3) := by decide +kernel
theorem dX5_isPoor_13 : decode cX5_isPoor 13 = .ok (.aload_n 0, 1) := by decide +kernel
theorem dX5_isPoor_14 : decode cX5_isPoor 14 = .ok (.getfield 16, 3) := by decide +kernel
theorem dX5_isPoor_17 : decode cX5_isPoor 17 = .ok (.iload_n 1, 1) := by decide +kernel
theorem dX5_isPoor_18 : decode cX5_isPoor 18 = .ok (.invokevirtual 158, 3) := by decide +kernel
theorem dX5_isPoor_21 : decode cX5_isPoor 21 = .ok (.istore_n 2, 1) := by decide +kernel
theorem dX5_isPoor_22 : decode cX5_isPoor 22 = .ok (.aload_n 0, 1) := by decide +kernel
theorem dX5_isPoor_23 : decode cX5_isPoor 23 = .ok (.getfield 23, 3) := by decide +kernel
theorem dX5_isPoor_26 : decode cX5_isPoor 26 = .ok (.iload_n 2, 1) := by decide +kernel
theorem dX5_isPoor_27 : decode cX5_isPoor 27 = .ok (.iconst 0, 1) := by decide +kernel
theorem dX5_isPoor_28 : decode cX5_isPoor 28 = .ok (.aload_n 0, 1) := by decide +kernel
theorem dX5_isPoor_29 : decode cX5_isPoor 29 = .ok (.getfield 23, 3) := by decide +kernel
theorem dX5_isPoor_32 : decode cX5_isPoor 32 = .ok (.invokevirtual 99, 3) := by decide +kernel
theorem dX5_isPoor_35 : decode cX5_isPoor 35 = .ok (.iconst 1, 1) := by decide +kernel
theorem dX5_isPoor_36 : decode cX5_isPoor 36 = .ok (.invokevirtual 105, 3) := by decide +kernel
theorem dX5_isPoor_39 : decode cX5_isPoor 39 = .ok (.aload_n 0, 1) := by decide +kernel
theorem dX5_isPoor_40 : decode cX5_isPoor 40 = .ok (.getfield 16, 3) := by decide +kernel
theorem dX5_isPoor_43 : decode cX5_isPoor 43 = .ok (.iload_n 2, 1) := by decide +kernel
theorem dX5_isPoor_44 : decode cX5_isPoor 44 = .ok (.invokevirtual 161, 3) := by decide +kernel
theorem dX5_isPoor_47 : decode cX5_isPoor 47 = .ok (.iadd, 1) := by decide +kernel
theorem dX5_isPoor_48 : decode cX5_isPoor 48 = .ok (.istore_n 3, 1) := by decide +kernel
theorem dX5_isPoor_49 : decode cX5_isPoor 49 = .ok (.iload_n 3, 1) := by decide +kernel
theorem dX5_isPoor_50 : decode cX5_isPoor 50 = .ok (.aload_n 0, 1) := by decide +kernel
theorem dX5_isPoor_51 : decode cX5_isPoor 51 = .ok (.getfield 9, 3) := by decide +kernel
theorem dX5_isPoor_54 : decode cX5_isPoor 54 = .ok (.iload_n 2, 1) := by decide +kernel
theorem dX5_isPoor_55 : decode cX5_isPoor 55 = .ok (.iaload, 1) := by decide +kernel
theorem dX5_isPoor_56 : decode cX5_isPoor 56 = .ok (.ineg, 1) := by decide +kernel
theorem dX5_isPoor_57 : decode cX5_isPoor 57 = .ok (.if_icmp .ge 5, 3) := by decide +kernel
theorem dX5_isPoor_60 : decode cX5_isPoor 60 = .ok (.iconst 1, 1) := by decide +kernel
theorem dX5_isPoor_61 : decode cX5_isPoor 61 = .ok (.ireturn, 1) := by decide +kernel
theorem dX5_isPoor_62 : decode cX5_isPoor 62 = .ok (.iinc 1 1, 3) := by decide +kernel
theorem dX5_isPoor_65 : decode cX5_isPoor 65 = .ok (.goto (-63), 3) := by decide +kernel
theorem dX5_isPoor_68 : decode cX5_isPoor 68 = .ok (.iconst 0, 1) := by decide +kernel
theorem dX5_isPoor_69 : decode cX5_isPoor 69 = .ok (.ireturn, 1) := by decide +kernel
theorem dX5_entryCells_0 : decode cX5_entryCells 0 = .ok (.iconst 3, 1) := by decide +kernel
theorem dX5_entryCells_1 : decode cX5_entryCells 1 = .ok (.iconst 2, 1) := by decide +kernel
theorem dX5_entryCells_2 : decode cX5_entryCells 2 = .ok (.iload_n 0, 1) := by decide +kernel
theorem dX5_entryCells_3 : decode cX5_entryCells 3 = .ok (.imul, 1) := by decide +kernel
theorem dX5_entryCells_4 : decode cX5_entryCells 4 = .ok (.iadd, 1) := by decide +kernel
theorem dX5_entryCells_5 : decode cX5_entryCells 5 = .ok (.ireturn, 1) := by decide +kernel
theorem dX1_amountAt_0 : decode cX1_amountAt 0 = .ok (.iload_n 1, 1) := by decide +kernel
theorem dX1_amountAt_1 : decode cX1_amountAt 1 = .ok (.ifCond .lt 20, 3) := by decide +kernel
theorem dX1_amountAt_4 : decode cX1_amountAt 4 = .ok (.iload_n 1, 1) := by decide +kernel
theorem dX1_amountAt_5 : decode cX1_amountAt 5 = .ok (.aload_n 0, 1) := by decide +kernel
theorem dX1_amountAt_6 : decode cX1_amountAt 6 = .ok (.getfield 18, 3) := by decide +kernel
theorem dX1_amountAt_9 : decode cX1_amountAt 9 = .ok (.if_icmp .ge 12, 3) := by decide +kernel
theorem dX1_amountAt_12 : decode cX1_amountAt 12 = .ok (.aload_n 0, 1) := by decide +kernel
theorem dX1_amountAt_13 : decode cX1_amountAt 13 = .ok (.getfield 15, 3) := by decide +kernel
theorem dX1_amountAt_16 : decode cX1_amountAt 16 = .ok (.iload_n 1, 1) := by decide +kernel
theorem dX1_amountAt_17 : decode cX1_amountAt 17 = .ok (.iaload, 1) := by decide +kernel
theorem dX1_amountAt_18 : decode cX1_amountAt 18 = .ok (.goto 4, 3) := by decide +kernel
theorem dX1_amountAt_21 : decode cX1_amountAt 21 = .ok (.iconst 0, 1) := by decide +kernel
theorem dX1_amountAt_22 : decode cX1_amountAt 22 = .ok (.ireturn, 1) := by decide +kernel
theorem dX2_sealCell_0 : decode cX2_sealCell 0 = .ok (.iload_n 1, 1) := by decide +kernel
theorem dX2_sealCell_1 : decode cX2_sealCell 1 = .ok (.aload_n 0, 1) := by decide +kernel
theorem dX2_sealCell_2 : decode cX2_sealCell 2 = .ok (.getfield 9, 3) := by decide +kernel
theorem dX2_sealCell_5 : decode cX2_sealCell 5 = .ok (.iload_n 1, 1) := by decide +kernel
theorem dX2_sealCell_6 : decode cX2_sealCell 6 = .ok (.iaload, 1) := by decide +kernel
theorem dX2_sealCell_7 : decode cX2_sealCell 7 = .ok (.invokestatic 50, 3) := by decide +kernel
theorem dX2_sealCell_10 : decode cX2_sealCell 10 = .ok (.iadd, 1) := by decide +kernel
theorem dX2_sealCell_11 : decode cX2_sealCell 11 = .ok (.iconst 1, 1) := by decide +kernel
theorem dX2_sealCell_12 : decode cX2_sealCell 12 = .ok (.isub, 1) := by decide +kernel
theorem dX2_sealCell_13 : decode cX2_sealCell 13 = .ok (.ireturn, 1) := by decide +kernel
theorem dX2_lastSeal_0 : decode cX2_lastSeal 0 = .ok (.aload_n 0, 1) := by decide +kernel
theorem dX2_lastSeal_1 : decode cX2_lastSeal 1 = .ok (.getfield 28, 3) := by decide +kernel
theorem dX2_lastSeal_4 : decode cX2_lastSeal 4 = .ok (.ifCond .le 17, 3) := by decide +kernel
theorem dX2_lastSeal_7 : decode cX2_lastSeal 7 = .ok (.aload_n 0, 1) := by decide +kernel
theorem dX2_lastSeal_8 : decode cX2_lastSeal 8 = .ok (.getfield 9, 3) := by decide +kernel
theorem dX2_lastSeal_11 : decode cX2_lastSeal 11 = .ok (.aload_n 0, 1) := by decide +kernel
theorem dX2_lastSeal_12 : decode cX2_lastSeal 12 = .ok (.getfield 28, 3) := by decide +kernel
theorem dX2_lastSeal_15 : decode cX2_lastSeal 15 = .ok (.iconst 1, 1) := by decide +kernel
theorem dX2_lastSeal_16 : decode cX2_lastSeal 16 = .ok (.isub, 1) := by decide +kernel
theorem dX2_lastSeal_17 : decode cX2_lastSeal 17 = .ok (.iaload, 1) := by decide +kernel
theorem dX2_lastSeal_18 : decode cX2_lastSeal 18 = .ok (.goto 4, 3) := by decide +kernel
theorem dX2_lastSeal_21 : decode cX2_lastSeal 21 = .ok (.iconst 0, 1) := by decide +kernel
theorem dX2_lastSeal_22 : decode cX2_lastSeal 22 = .ok (.ireturn, 1) := by decide +kernel
theorem dX5_mix_0 : decode cX5_mix 0 = .ok (.iload_n 0, 1) := by decide +kernel
theorem dX5_mix_1 : decode cX5_mix 1 = .ok (.ldc 172, 2) := by decide +kernel
theorem dX5_mix_3 : decode cX5_mix 3 = .ok (.imul, 1) := by decide +kernel
theorem dX5_mix_4 : decode cX5_mix 4 = .ok (.iload_n 1, 1) := by decide +kernel
theorem dX5_mix_5 : decode cX5_mix 5 = .ok (.iadd, 1) := by decide +kernel
theorem dX5_mix_6 : decode cX5_mix 6 = .ok (.istore_n 2, 1) := by decide +kernel
theorem dX5_mix_7 : decode cX5_mix 7 = .ok (.iload_n 2, 1) := by decide +kernel
theorem dX5_mix_8 : decode cX5_mix 8 = .ok (.iload_n 2, 1) := by decide +kernel
theorem dX5_mix_9 : decode cX5_mix 9 = .ok (.bipush 15, 2) := by decide +kernel
theorem dX5_mix_11 : decode cX5_mix 11 = .ok (.iushr, 1) := by decide +kernel
theorem dX5_mix_12 : decode cX5_mix 12 = .ok (.ixor, 1) := by decide +kernel
theorem dX5_mix_13 : decode cX5_mix 13 = .ok (.ldc 173, 2) := by decide +kernel
theorem dX5_mix_15 : decode cX5_mix 15 = .ok (.imul, 1) := by decide +kernel
theorem dX5_mix_16 : decode cX5_mix 16 = .ok (.istore_n 3, 1) := by decide +kernel
theorem dX5_mix_17 : decode cX5_mix 17 = .ok (.iload_n 3, 1) := by decide +kernel
theorem dX5_mix_18 : decode cX5_mix 18 = .ok (.iload_n 3, 1) := by decide +kernel
theorem dX5_mix_19 : decode cX5_mix 19 = .ok (.bipush 12, 2) := by decide +kernel
theorem dX5_mix_21 : decode cX5_mix 21 = .ok (.iushr, 1) := by decide +kernel
theorem dX5_mix_22 : decode cX5_mix 22 = .ok (.ixor, 1) := by decide +kernel
theorem dX5_mix_23 : decode cX5_mix 23 = .ok (.ireturn, 1) := by decide +kernel
theorem dX2_leafFrom_0 : decode cX2_leafFrom 0 = .ok (.iconst 0, 1) := by decide +kernel
theorem dX2_leafFrom_1 : decode cX2_leafFrom 1 = .ok (.aload_n 0, 1) := by decide +kernel
theorem dX2_leafFrom_2 : decode cX2_leafFrom 2 = .ok (.getfield 9, 3) := by decide +kernel
theorem dX2_leafFrom_5 : decode cX2_leafFrom 5 = .ok (.iload_n 1, 1) := by decide +kernel
theorem dX2_leafFrom_6 : decode cX2_leafFrom 6 = .ok (.iconst 1, 1) := by decide +kernel
theorem dX2_leafFrom_7 : decode cX2_leafFrom 7 = .ok (.iadd, 1) := by decide +kernel
theorem dX2_leafFrom_8 : decode cX2_leafFrom 8 = .ok (.iaload, 1) := by decide +kernel
theorem dX2_leafFrom_9 : decode cX2_leafFrom 9 = .ok (.invokestatic 75, 3) := by decide +kernel
theorem dX2_leafFrom_12 : decode cX2_leafFrom 12 = .ok (.istore_n 2, 1) := by decide +kernel
theorem dX2_leafFrom_13 : decode cX2_leafFrom 13 = .ok (.iconst 0, 1) := by decide +kernel
theorem dX2_leafFrom_14 : decode cX2_leafFrom 14 = .ok (.istore_n 3, 1) := by decide +kernel
theorem dX2_leafFrom_15 : decode cX2_leafFrom 15 = .ok (.iload_n 3, 1) := by decide +kernel
theorem dX2_leafFrom_16 : decode cX2_leafFrom 16 = .ok (.aload_n 0, 1) := by decide +kernel
theorem dX2_leafFrom_17 : decode cX2_leafFrom 17 = .ok (.getfield 9, 3) := by decide +kernel
theorem dX2_leafFrom_20 : decode cX2_leafFrom 20 = .ok (.iload_n 1, 1) := by decide +kernel
theorem dX2_leafFrom_21 : decode cX2_leafFrom 21 = .ok (.iaload, 1) := by decide +kernel
theorem dX2_leafFrom_22 : decode cX2_leafFrom 22 = .ok (.if_icmp .ge 38, 3) := by decide +kernel
theorem dX2_leafFrom_25 : decode cX2_leafFrom 25 = .ok (.iload_n 2, 1) := by decide +kernel
theorem dX2_leafFrom_26 : decode cX2_leafFrom 26 = .ok (.bipush 16, 2) := by decide +kernel
theorem dX2_leafFrom_28 : decode cX2_leafFrom 28 = .ok (.aload_n 0, 1) := by decide +kernel
theorem dX2_leafFrom_29 : decode cX2_leafFrom 29 = .ok (.getfield 9, 3) := by decide +kernel
theorem dX2_leafFrom_32 : decode cX2_leafFrom 32 = .ok (.iload_n 1, 1) := by decide +kernel
theorem dX2_leafFrom_33 : decode cX2_leafFrom 33 = .ok (.iload_n 3, 1) := by decide +kernel
theorem dX2_leafFrom_34 : decode cX2_leafFrom 34 = .ok (.invokestatic 60, 3) := by decide +kernel
theorem dX2_leafFrom_37 : decode cX2_leafFrom 37 = .ok (.iaload, 1) := by decide +kernel
theorem dX2_leafFrom_38 : decode cX2_leafFrom 38 = .ok (.imul, 1) := by decide +kernel
theorem dX2_leafFrom_39 : decode cX2_leafFrom 39 = .ok (.aload_n 0, 1) := by decide +kernel
theorem dX2_leafFrom_40 : decode cX2_leafFrom 40 = .ok (.getfield 9, 3) := by decide +kernel
theorem dX2_leafFrom_43 : decode cX2_leafFrom 43 = .ok (.iload_n 1, 1) := by decide +kernel
theorem dX2_leafFrom_44 : decode cX2_leafFrom 44 = .ok (.iload_n 3, 1) := by decide +kernel
theorem dX2_leafFrom_45 : decode cX2_leafFrom 45 = .ok (.invokestatic 53, 3) := by decide +kernel
theorem dX2_leafFrom_48 : decode cX2_leafFrom 48 = .ok (.iaload, 1) := by decide +kernel
theorem dX2_leafFrom_49 : decode cX2_leafFrom 49 = .ok (.iadd, 1) := by decide +kernel
theorem dX2_leafFrom_50 : decode cX2_leafFrom 50 = .ok (.invokestatic 75, 3) := by decide +kernel
theorem dX2_leafFrom_53 : decode cX2_leafFrom 53 = .ok (.istore_n 2, 1) := by decide +kernel
theorem dX2_leafFrom_54 : decode cX2_leafFrom 54 = .ok (.iinc 3 1, 3) := by decide +kernel
theorem dX2_leafFrom_57 : decode cX2_leafFrom 57 = .ok (.goto (-42), 3) := by decide +kernel
theorem dX2_leafFrom_60 : decode cX2_leafFrom 60 = .ok (.iload_n 2, 1) := by decide +kernel
theorem dX2_leafFrom_61 : decode cX2_leafFrom 61 = .ok (.ireturn, 1) := by decide +kernel
theorem dX2_acceptNext_0 : decode cX2_acceptNext 0 = .ok (.aload_n 0, 1) := by decide +kernel
theorem dX2_acceptNext_1 : decode cX2_acceptNext 1 = .ok (.getfield 15, 3) := by decide +kernel
theorem dX2_acceptNext_4 : decode cX2_acceptNext 4 = .ok (.aload_n 0, 1) := by decide +kernel
theorem dX2_acceptNext_5 : decode cX2_acceptNext 5 = .ok (.getfield 21, 3) := by decide +kernel
theorem dX2_acceptNext_8 : decode cX2_acceptNext 8 = .ok (.aload_n 0, 1) := by decide +kernel
theorem dX2_acceptNext_9 : decode cX2_acceptNext 9 = .ok (.getfield 28, 3) := by decide +kernel
theorem dX2_acceptNext_12 : decode cX2_acceptNext 12 = .ok (.iastore, 1) := by decide +kernel
theorem dX2_acceptNext_13 : decode cX2_acceptNext 13 = .ok (.aload_n 0, 1) := by decide +kernel
theorem dX2_acceptNext_14 : decode cX2_acceptNext 14 = .ok (.getfield 18, 3) := by decide +kernel
theorem dX2_acceptNext_17 : decode cX2_acceptNext 17 = .ok (.aload_n 0, 1) := by decide +kernel
theorem dX2_acceptNext_18 : decode cX2_acceptNext 18 = .ok (.getfield 21, 3) := by decide +kernel
theorem dX2_acceptNext_21 : decode cX2_acceptNext 21 = .ok (.aload_n 0, 1) := by decide +kernel
theorem dX2_acceptNext_22 : decode cX2_acceptNext 22 = .ok (.aload_n 0, 1) := by decide +kernel
theorem dX2_acceptNext_23 : decode cX2_acceptNext 23 = .ok (.getfield 28, 3) := by decide +kernel
theorem dX2_acceptNext_26 : decode cX2_acceptNext 26 = .ok (.invokevirtual 72, 3) := by decide +kernel
theorem dX2_acceptNext_29 : decode cX2_acceptNext 29 = .ok (.iastore, 1) := by decide +kernel
theorem dX2_acceptNext_30 : decode cX2_acceptNext 30 = .ok (.aload_n 0, 1) := by decide +kernel
theorem dX2_acceptNext_31 : decode cX2_acceptNext 31 = .ok (.dup, 1) := by decide +kernel
theorem dX2_acceptNext_32 : decode cX2_acceptNext 32 = .ok (.getfield 21, 3) := by decide +kernel
theorem dX2_acceptNext_35 : decode cX2_acceptNext 35 = .ok (.iconst 1, 1) := by decide +kernel
theorem dX2_acceptNext_36 : decode cX2_acceptNext 36 = .ok (.iadd, 1) := by decide +kernel
theorem dX2_acceptNext_37 : decode cX2_acceptNext 37 = .ok (.putfield 21, 3) := by decide +kernel
theorem dX2_acceptNext_40 : decode cX2_acceptNext 40 = .ok (.aload_n 0, 1) := by decide +kernel
theorem dX2_acceptNext_41 : decode cX2_acceptNext 41 = .ok (.dup, 1) := by decide +kernel
theorem dX2_acceptNext_42 : decode cX2_acceptNext 42 = .ok (.getfield 28, 3) := by decide +kernel
theorem dX2_acceptNext_45 : decode cX2_acceptNext 45 = .ok (.aload_n 0, 1) := by decide +kernel
theorem dX2_acceptNext_46 : decode cX2_acceptNext 46 = .ok (.getfield 9, 3) := by decide +kernel
theorem dX2_acceptNext_49 : decode cX2_acceptNext 49 = .ok (.aload_n 0, 1) := by decide +kernel
theorem dX2_acceptNext_50 : decode cX2_acceptNext 50 = .ok (.getfield 28, 3) := by decide +kernel
theorem dX2_acceptNext_53 : decode cX2_acceptNext 53 = .ok (.iaload, 1) := by decide +kernel
theorem dX2_acceptNext_54 : decode cX2_acceptNext 54 = .ok (.invokestatic 50, 3) := by decide +kernel
theorem dX2_acceptNext_57 : decode cX2_acceptNext 57 = .ok (.iadd, 1) := by decide +kernel
theorem dX2_acceptNext_58 : decode cX2_acceptNext 58 = .ok (.putfield 28, 3) := by decide +kernel
theorem dX2_acceptNext_61 : decode cX2_acceptNext 61 = .ok (.return_, 1) := by decide +kernel
theorem dX2_append_0 : decode cX2_append 0 = .ok (.aload_n 2, 1) := by decide +kernel
theorem dX2_append_1 : decode cX2_append 1 = .ok (.invokevirtual 44, 3) := by decide +kernel
theorem dX2_append_4 : decode cX2_append 4 = .ok (.istore_n 3, 1) := by decide +kernel
theorem dX2_append_5 : decode cX2_append 5 = .ok (.aload_n 0, 1) := by decide +kernel
theorem dX2_append_6 : decode cX2_append 6 = .ok (.getfield 21, 3) := by decide +kernel
theorem dX2_append_9 : decode cX2_append 9 = .ok (.bipush 73, 2) := by decide +kernel
theorem dX2_append_11 : decode cX2_append 11 = .ok (.if_icmp .ge 18, 3) := by decide +kernel
theorem dX2_append_14 : decode cX2_append 14 = .ok (.aload_n 0, 1) := by decide +kernel
theorem dX2_append_15 : decode cX2_append 15 = .ok (.getfield 28, 3) := by decide +kernel
theorem dX2_append_18 : decode cX2_append 18 = .ok (.iload_n 3, 1) := by decide +kernel
theorem dX2_append_19 : decode cX2_append 19 = .ok (.invokestatic 50, 3) := by decide +kernel
theorem dX2_append_22 : decode cX2_append 22 = .ok (.iadd, 1) := by decide +kernel
theorem dX2_append_23 : decode cX2_append 23 = .ok (.sipush 512, 3) := by decide +kernel
theorem dX2_append_26 : decode cX2_append 26 = .ok (.if_icmp .le 5, 3) := by decide +kernel
theorem dX2_append_29 : decode cX2_append 29 = .ok (.iconst 0, 1) := by decide +kernel
theorem dX2_append_30 : decode cX2_append 30 = .ok (.ireturn, 1) := by decide +kernel
theorem dX2_append_31 : decode cX2_append 31 = .ok (.aload_n 0, 1) := by decide +kernel
theorem dX2_append_32 : decode cX2_append 32 = .ok (.getfield 9, 3) := by decide +kernel
theorem dX2_append_35 : decode cX2_append 35 = .ok (.aload_n 0, 1) := by decide +kernel
theorem dX2_append_36 : decode cX2_append 36 = .ok (.getfield 28, 3) := by decide +kernel
theorem dX2_append_39 : decode cX2_append 39 = .ok (.iload_n 3, 1) := by decide +kernel
theorem dX2_append_40 : decode cX2_append 40 = .ok (.iastore, 1) := by decide +kernel
theorem dX2_append_41 : decode cX2_append 41 = .ok (.aload_n 0, 1) := by decide +kernel
theorem dX2_append_42 : decode cX2_append 42 = .ok (.getfield 9, 3) := by decide +kernel
theorem dX2_append_45 : decode cX2_append 45 = .ok (.aload_n 0, 1) := by decide +kernel
theorem dX2_append_46 : decode cX2_append 46 = .ok (.getfield 28, 3) := by decide +kernel
theorem dX2_append_49 : decode cX2_append 49 = .ok (.iconst 1, 1) := by decide +kernel
theorem dX2_append_50 : decode cX2_append 50 = .ok (.iadd, 1) := by decide +kernel
theorem dX2_append_51 : decode cX2_append 51 = .ok (.iload_n 1, 1) := by decide +kernel
theorem dX2_append_52 : decode cX2_append 52 = .ok (.iastore, 1) := by decide +kernel
theorem dX2_append_53 : decode cX2_append 53 = .ok (.iconst 0, 1) := by decide +kernel
theorem dX2_append_54 : decode cX2_append 54 = .ok (.istore 4, 2) := by decide +kernel
theorem dX2_append_56 : decode cX2_append 56 = .ok (.iload 4, 2) := by decide +kernel
theorem dX2_append_58 : decode cX2_append 58 = .ok (.iload_n 3, 1) := by decide +kernel
theorem dX2_append_59 : decode cX2_append 59 = .ok (.if_icmp .ge 49, 3) := by decide +kernel
theorem dX2_append_62 : decode cX2_append 62 = .ok (.aload_n 0, 1) := by decide +kernel
theorem dX2_append_63 : decode cX2_append 63 = .ok (.getfield 9, 3) := by decide +kernel
theorem dX2_append_66 : decode cX2_append 66 = .ok (.aload_n 0, 1) := by decide +kernel
theorem dX2_append_67 : decode cX2_append 67 = .ok (.getfield 28, 3) := by decide +kernel
theorem dX2_append_70 : decode cX2_append 70 = .ok (.iload 4, 2) := by decide +kernel
theorem dX2_append_72 : decode cX2_append 72 = .ok (.invokestatic 53, 3) := by decide +kernel
theorem dX2_append_75 : decode cX2_append 75 = .ok (.aload_n 2, 1) := by decide +kernel
theorem dX2_append_76 : decode cX2_append 76 = .ok (.iload 4, 2) := by decide +kernel
theorem dX2_append_78 : decode cX2_append 78 = .ok (.invokevirtual 57, 3) := by decide +kernel
theorem dX2_append_81 : decode cX2_append 81 = .ok (.iastore, 1) := by decide +kernel
theorem dX2_append_82 : decode cX2_append 82 = .ok (.aload_n 0, 1) := by decide +kernel
theorem dX2_append_83 : decode cX2_append 83 = .ok (.getfield 9, 3) := by decide +kernel
theorem dX2_append_86 : decode cX2_append 86 = .ok (.aload_n 0, 1) := by decide +kernel
theorem dX2_append_87 : decode cX2_append 87 = .ok (.getfield 28, 3) := by decide +kernel
theorem dX2_append_90 : decode cX2_append 90 = .ok (.iload 4, 2) := by decide +kernel
theorem dX2_append_92 : decode cX2_append 92 = .ok (.invokestatic 60, 3) := by decide +kernel
theorem dX2_append_95 : decode cX2_append 95 = .ok (.aload_n 2, 1) := by decide +kernel
theorem dX2_append_96 : decode cX2_append 96 = .ok (.iload 4, 2) := by decide +kernel
theorem dX2_append_98 : decode cX2_append 98 = .ok (.invokevirtual 63, 3) := by decide +kernel
theorem dX2_append_101 : decode cX2_append 101 = .ok (.iastore, 1) := by decide +kernel
theorem dX2_append_102 : decode cX2_append 102 = .ok (.iinc 4 1, 3) := by decide +kernel
theorem dX2_append_105 : decode cX2_append 105 = .ok (.goto (-49), 3) := by decide +kernel
theorem dX2_append_108 : decode cX2_append 108 = .ok (.aload_n 0, 1) := by decide +kernel
theorem dX2_append_109 : decode cX2_append 109 = .ok (.getfield 9, 3) := by decide +kernel
theorem dX2_append_112 : decode cX2_append 112 = .ok (.aload_n 0, 1) := by decide +kernel
theorem dX2_append_113 : decode cX2_append 113 = .ok (.aload_n 0, 1) := by decide +kernel
theorem dX2_append_114 : decode cX2_append 114 = .ok (.getfield 28, 3) := by decide +kernel
theorem dX2_append_117 : decode cX2_append 117 = .ok (.invokevirtual 66, 3) := by decide +kernel
theorem dX2_append_120 : decode cX2_append 120 = .ok (.aload_n 0, 1) := by decide +kernel
theorem dX2_append_121 : decode cX2_append 121 = .ok (.invokevirtual 69, 3) := by decide +kernel
theorem dX2_append_124 : decode cX2_append 124 = .ok (.aload_n 0, 1) := by decide +kernel
theorem dX2_append_125 : decode cX2_append 125 = .ok (.aload_n 0, 1) := by decide +kernel
theorem dX2_append_126 : decode cX2_append 126 = .ok (.getfield 28, 3) := by decide +kernel
theorem dX2_append_129 : decode cX2_append 129 = .ok (.invokevirtual 72, 3) := by decide +kernel
theorem dX2_append_132 : decode cX2_append 132 = .ok (.invokestatic 75, 3) := by decide +kernel
theorem dX2_append_135 : decode cX2_append 135 = .ok (.iastore, 1) := by decide +kernel
theorem dX2_append_136 : decode cX2_append 136 = .ok (.aload_n 0, 1) := by decide +kernel
theorem dX2_append_137 : decode cX2_append 137 = .ok (.invokevirtual 78, 3) := by decide +kernel
theorem dX2_append_140 : decode cX2_append 140 = .ok (.iconst 1, 1) := by decide +kernel
theorem dX2_append_141 : decode cX2_append 141 = .ok (.ireturn, 1) := by decide +kernel
theorem dX5_commitNew_0 : decode cX5_commitNew 0 = .ok (.aload_n 0, 1) := by decide +kernel
theorem dX5_commitNew_1 : decode cX5_commitNew 1 = .ok (.invokevirtual 150, 3) := by decide +kernel
theorem dX5_commitNew_4 : decode cX5_commitNew 4 = .ok (.ifCond .eq 6, 3) := by decide +kernel
theorem dX5_commitNew_7 : decode cX5_commitNew 7 = .ok (.bipush (-5), 2) := by decide +kernel
theorem dX5_commitNew_9 : decode cX5_commitNew 9 = .ok (.ireturn, 1) := by decide +kernel
theorem dX5_commitNew_10 : decode cX5_commitNew 10 = .ok (.aload_n 0, 1) := by decide +kernel
theorem dX5_commitNew_11 : decode cX5_commitNew 11 = .ok (.getfield 23, 3) := by decide +kernel
theorem dX5_commitNew_14 : decode cX5_commitNew 14 = .ok (.iload_n 1, 1) := by decide +kernel
theorem dX5_commitNew_15 : decode cX5_commitNew 15 = .ok (.aload_n 0, 1) := by decide +kernel
theorem dX5_commitNew_16 : decode cX5_commitNew 16 = .ok (.getfield 16, 3) := by decide +kernel
theorem dX5_commitNew_19 : decode cX5_commitNew 19 = .ok (.invokevirtual 153, 3) := by decide +kernel
theorem dX5_commitNew_22 : decode cX5_commitNew 22 = .ok (.ifCond .ne 6, 3) := by decide +kernel
theorem dX5_commitNew_25 : decode cX5_commitNew 25 = .ok (.bipush (-6), 2) := by decide +kernel
theorem dX5_commitNew_27 : decode cX5_commitNew 27 = .ok (.ireturn, 1) := by decide +kernel
theorem dX5_commitNew_28 : decode cX5_commitNew 28 = .ok (.aload_n 0, 1) := by decide +kernel
theorem dX5_commitNew_29 : decode cX5_commitNew 29 = .ok (.getfield 16, 3) := by decide +kernel
theorem dX5_commitNew_32 : decode cX5_commitNew 32 = .ok (.invokevirtual 57, 3) := by decide +kernel
theorem dX5_commitNew_35 : decode cX5_commitNew 35 = .ok (.aload_n 0, 1) := by decide +kernel
theorem dX5_commitNew_36 : decode cX5_commitNew 36 = .ok (.getfield 23, 3) := by decide +kernel
theorem dX5_commitNew_39 : decode cX5_commitNew 39 = .ok (.invokevirtual 99, 3) := by decide +kernel
theorem dX5_commitNew_42 : decode cX5_commitNew 42 = .ok (.iconst 1, 1) := by decide +kernel
theorem dX5_commitNew_43 : decode cX5_commitNew 43 = .ok (.isub, 1) := by decide +kernel
theorem dX5_commitNew_44 : decode cX5_commitNew 44 = .ok (.ireturn, 1) := by decide +kernel
theorem dX2_hasLegsOf_0 : decode cX2_hasLegsOf 0 = .ok (.iload_n 2, 1) := by decide +kernel
theorem dX2_hasLegsOf_1 : decode cX2_hasLegsOf 1 = .ok (.ifCond .lt 29, 3) := by decide +kernel
theorem dX2_hasLegsOf_4 : decode cX2_hasLegsOf 4 = .ok (.iload_n 2, 1) := by decide +kernel
theorem dX2_hasLegsOf_5 : decode cX2_hasLegsOf 5 = .ok (.aload_n 0, 1) := by decide +kernel
theorem dX2_hasLegsOf_6 : decode cX2_hasLegsOf 6 = .ok (.getfield 21, 3) := by decide +kernel
theorem dX2_hasLegsOf_9 : decode cX2_hasLegsOf 9 = .ok (.if_icmp .ge 21, 3) := by decide +kernel
theorem dX2_hasLegsOf_12 : decode cX2_hasLegsOf 12 = .ok (.aload_n 0, 1) := by decide +kernel
theorem dX2_hasLegsOf_13 : decode cX2_hasLegsOf 13 = .ok (.getfield 9, 3) := by decide +kernel
theorem dX2_hasLegsOf_16 : decode cX2_hasLegsOf 16 = .ok (.aload_n 0, 1) := by decide +kernel
theorem dX2_hasLegsOf_17 : decode cX2_hasLegsOf 17 = .ok (.getfield 15, 3) := by decide +kernel
theorem dX2_hasLegsOf_20 : decode cX2_hasLegsOf 20 = .ok (.iload_n 2, 1) := by decide +kernel
theorem dX2_hasLegsOf_21 : decode cX2_hasLegsOf 21 = .ok (.iaload, 1) := by decide +kernel
theorem dX2_hasLegsOf_22 : decode cX2_hasLegsOf 22 = .ok (.iaload, 1) := by decide +kernel
theorem dX2_hasLegsOf_23 : decode cX2_hasLegsOf 23 = .ok (.aload_n 1, 1) := by decide +kernel
theorem dX2_hasLegsOf_24 : decode cX2_hasLegsOf 24 = .ok (.invokevirtual 44, 3) := by decide +kernel
theorem dX2_hasLegsOf_27 : decode cX2_hasLegsOf 27 = .ok (.if_icmp .eq 5, 3) := by decide +kernel
theorem dX2_hasLegsOf_30 : decode cX2_hasLegsOf 30 = .ok (.iconst 0, 1) := by decide +kernel
theorem dX2_hasLegsOf_31 : decode cX2_hasLegsOf 31 = .ok (.ireturn, 1) := by decide +kernel
theorem dX2_hasLegsOf_32 : decode cX2_hasLegsOf 32 = .ok (.aload_n 0, 1) := by decide +kernel
theorem dX2_hasLegsOf_33 : decode cX2_hasLegsOf 33 = .ok (.getfield 15, 3) := by decide +kernel
theorem dX2_hasLegsOf_36 : decode cX2_hasLegsOf 36 = .ok (.iload_n 2, 1) := by decide +kernel
theorem dX2_hasLegsOf_37 : decode cX2_hasLegsOf 37 = .ok (.iaload, 1) := by decide +kernel
theorem dX2_hasLegsOf_38 : decode cX2_hasLegsOf 38 = .ok (.istore_n 3, 1) := by decide +kernel
theorem dX2_hasLegsOf_39 : decode cX2_hasLegsOf 39 = .ok (.iconst 0, 1) := by decide +kernel
theorem dX2_hasLegsOf_40 : decode cX2_hasLegsOf 40 = .ok (.istore 4, 2) := by decide +kernel
theorem dX2_hasLegsOf_42 : decode cX2_hasLegsOf 42 = .ok (.iload 4, 2) := by decide +kernel
theorem dX2_hasLegsOf_44 : decode cX2_hasLegsOf 44 = .ok (.aload_n 1, 1) := by decide +kernel
theorem dX2_hasLegsOf_45 : decode cX2_hasLegsOf 45 = .ok (.invokevirtual 44, 3) := by decide +kernel
theorem dX2_hasLegsOf_48 : decode cX2_hasLegsOf 48 = .ok (.if_icmp .ge 51, 3) := by decide +kernel
theorem dX2_hasLegsOf_51 : decode cX2_hasLegsOf 51 = .ok (.aload_n 0, 1) := by decide +kernel
theorem dX2_hasLegsOf_52 : decode cX2_hasLegsOf 52 = .ok (.getfield 9, 3) := by decide +kernel
theorem dX2_hasLegsOf_55 : decode cX2_hasLegsOf 55 = .ok (.iload_n 3, 1) := by decide +kernel
theorem dX2_hasLegsOf_56 : decode cX2_hasLegsOf 56 = .ok (.iload 4, 2) := by decide +kernel
theorem dX2_hasLegsOf_58 : decode cX2_hasLegsOf 58 = .ok (.invokestatic 53, 3) := by decide +kernel
theorem dX2_hasLegsOf_61 : decode cX2_hasLegsOf 61 = .ok (.iaload, 1) := by decide +kernel
theorem dX2_hasLegsOf_62 : decode cX2_hasLegsOf 62 = .ok (.aload_n 1, 1) := by decide +kernel
theorem dX2_hasLegsOf_63 : decode cX2_hasLegsOf 63 = .ok (.iload 4, 2) := by decide +kernel
theorem dX2_hasLegsOf_65 : decode cX2_hasLegsOf 65 = .ok (.invokevirtual 57, 3) := by decide +kernel
theorem dX2_hasLegsOf_68 : decode cX2_hasLegsOf 68 = .ok (.if_icmp .ne 23, 3) := by decide +kernel
theorem dX2_hasLegsOf_71 : decode cX2_hasLegsOf 71 = .ok (.aload_n 0, 1) := by decide +kernel
theorem dX2_hasLegsOf_72 : decode cX2_hasLegsOf 72 = .ok (.getfield 9, 3) := by decide +kernel
theorem dX2_hasLegsOf_75 : decode cX2_hasLegsOf 75 = .ok (.iload_n 3, 1) := by decide +kernel
theorem dX2_hasLegsOf_76 : decode cX2_hasLegsOf 76 = .ok (.iload 4, 2) := by decide +kernel
theorem dX2_hasLegsOf_78 : decode cX2_hasLegsOf 78 = .ok (.invokestatic 60, 3) := by decide +kernel
theorem dX2_hasLegsOf_81 : decode cX2_hasLegsOf 81 = .ok (.iaload, 1) := by decide +kernel
theorem dX2_hasLegsOf_82 : decode cX2_hasLegsOf 82 = .ok (.aload_n 1, 1) := by decide +kernel
theorem dX2_hasLegsOf_83 : decode cX2_hasLegsOf 83 = .ok (.iload 4, 2) := by decide +kernel
theorem dX2_hasLegsOf_85 : decode cX2_hasLegsOf 85 = .ok (.invokevirtual 63, 3) := by decide +kernel
theorem dX2_hasLegsOf_88 : decode cX2_hasLegsOf 88 = .ok (.if_icmp .eq 5, 3) := by decide +kernel
theorem dX2_hasLegsOf_91 : decode cX2_hasLegsOf 91 = .ok (.iconst 0, 1) := by decide +kernel
theorem dX2_hasLegsOf_92 : decode cX2_hasLegsOf 92 = .ok (.ireturn, 1) := by decide +kernel
theorem dX2_hasLegsOf_93 : decode cX2_hasLegsOf 93 = .ok (.iinc 4 1, 3) := by decide +kernel
theorem dX2_hasLegsOf_96 : decode cX2_hasLegsOf 96 = .ok (.goto (-54), 3) := by decide +kernel
theorem dX2_hasLegsOf_99 : decode cX2_hasLegsOf 99 = .ok (.iconst 1, 1) := by decide +kernel
theorem dX2_hasLegsOf_100 : decode cX2_hasLegsOf 100 = .ok (.ireturn, 1) := by decide +kernel
theorem dX5_commit_0 : decode cX5_commit 0 = .ok (.aload_n 0, 1) := by decide +kernel
theorem dX5_commit_1 : decode cX5_commit 1 = .ok (.getfield 41, 3) := by decide +kernel
theorem dX5_commit_4 : decode cX5_commit 4 = .ok (.ifCond .ne 6, 3) := by decide +kernel
theorem dX5_commit_7 : decode cX5_commit 7 = .ok (.bipush (-2), 2) := by decide +kernel
theorem dX5_commit_9 : decode cX5_commit 9 = .ok (.ireturn, 1) := by decide +kernel
theorem dX5_commit_10 : decode cX5_commit 10 = .ok (.aload_n 0, 1) := by decide +kernel
theorem dX5_commit_11 : decode cX5_commit 11 = .ok (.getfield 16, 3) := by decide +kernel
theorem dX5_commit_14 : decode cX5_commit 14 = .ok (.invokevirtual 60, 3) := by decide +kernel
theorem dX5_commit_17 : decode cX5_commit 17 = .ok (.ifCond .ne 6, 3) := by decide +kernel
theorem dX5_commit_20 : decode cX5_commit 20 = .ok (.bipush (-3), 2) := by decide +kernel
theorem dX5_commit_22 : decode cX5_commit 22 = .ok (.ireturn, 1) := by decide +kernel
theorem dX5_commit_23 : decode cX5_commit 23 = .ok (.aload_n 0, 1) := by decide +kernel
theorem dX5_commit_24 : decode cX5_commit 24 = .ok (.getfield 23, 3) := by decide +kernel
theorem dX5_commit_27 : decode cX5_commit 27 = .ok (.iload_n 1, 1) := by decide +kernel
theorem dX5_commit_28 : decode cX5_commit 28 = .ok (.invokevirtual 64, 3) := by decide +kernel
theorem dX5_commit_31 : decode cX5_commit 31 = .ok (.istore_n 2, 1) := by decide +kernel
theorem dX5_commit_32 : decode cX5_commit 32 = .ok (.iload_n 2, 1) := by decide +kernel
theorem dX5_commit_33 : decode cX5_commit 33 = .ok (.iconst (-1), 1) := by decide +kernel
theorem dX5_commit_34 : decode cX5_commit 34 = .ok (.if_icmp .ne 9, 3) := by decide +kernel
theorem dX5_commit_37 : decode cX5_commit 37 = .ok (.aload_n 0, 1) := by decide +kernel
theorem dX5_commit_38 : decode cX5_commit 38 = .ok (.iload_n 1, 1) := by decide +kernel
theorem dX5_commit_39 : decode cX5_commit 39 = .ok (.invokevirtual 68, 3) := by decide +kernel
theorem dX5_commit_42 : decode cX5_commit 42 = .ok (.ireturn, 1) := by decide +kernel
theorem dX5_commit_43 : decode cX5_commit 43 = .ok (.aload_n 0, 1) := by decide +kernel
theorem dX5_commit_44 : decode cX5_commit 44 = .ok (.getfield 23, 3) := by decide +kernel
theorem dX5_commit_47 : decode cX5_commit 47 = .ok (.aload_n 0, 1) := by decide +kernel
theorem dX5_commit_48 : decode cX5_commit 48 = .ok (.getfield 16, 3) := by decide +kernel
theorem dX5_commit_51 : decode cX5_commit 51 = .ok (.iload_n 2, 1) := by decide +kernel
theorem dX5_commit_52 : decode cX5_commit 52 = .ok (.invokevirtual 71, 3) := by decide +kernel
theorem dX5_commit_55 : decode cX5_commit 55 = .ok (.ifCond .ne 6, 3) := by decide +kernel
theorem dX5_commit_58 : decode cX5_commit 58 = .ok (.bipush (-4), 2) := by decide +kernel
theorem dX5_commit_60 : decode cX5_commit 60 = .ok (.ireturn, 1) := by decide +kernel
theorem dX5_commit_61 : decode cX5_commit 61 = .ok (.aload_n 0, 1) := by decide +kernel
theorem dX5_commit_62 : decode cX5_commit 62 = .ok (.getfield 16, 3) := by decide +kernel
theorem dX5_commit_65 : decode cX5_commit 65 = .ok (.invokevirtual 57, 3) := by decide +kernel
theorem dX5_commit_68 : decode cX5_commit 68 = .ok (.iload_n 2, 1) := by decide +kernel
theorem dX5_commit_69 : decode cX5_commit 69 = .ok (.ireturn, 1) := by decide +kernel
theorem dX2_blockOf_0 : decode cX2_blockOf 0 = .ok (.iload_n 0, 1) := by decide +kernel
theorem dX2_blockOf_1 : decode cX2_blockOf 1 = .ok (.bipush 8, 2) := by decide +kernel
theorem dX2_blockOf_3 : decode cX2_blockOf 3 = .ok (.idiv, 1) := by decide +kernel
theorem dX2_blockOf_4 : decode cX2_blockOf 4 = .ok (.bipush 63, 2) := by decide +kernel
theorem dX2_blockOf_6 : decode cX2_blockOf 6 = .ok (.invokestatic 93, 3) := by decide +kernel
theorem dX2_blockOf_9 : decode cX2_blockOf 9 = .ok (.ireturn, 1) := by decide +kernel
theorem dX2_syncedBlock_0 : decode cX2_syncedBlock 0 = .ok (.aload_n 0, 1) := by decide +kernel
theorem dX2_syncedBlock_1 : decode cX2_syncedBlock 1 = .ok (.getfield 35, 3) := by decide +kernel
theorem dX2_syncedBlock_4 : decode cX2_syncedBlock 4 = .ok (.invokestatic 31, 3) := by decide +kernel
theorem dX2_syncedBlock_7 : decode cX2_syncedBlock 7 = .ok (.ireturn, 1) := by decide +kernel
theorem dX2_endBlock_0 : decode cX2_endBlock 0 = .ok (.aload_n 0, 1) := by decide +kernel
theorem dX2_endBlock_1 : decode cX2_endBlock 1 = .ok (.getfield 28, 3) := by decide +kernel
theorem dX2_endBlock_4 : decode cX2_endBlock 4 = .ok (.invokestatic 31, 3) := by decide +kernel
theorem dX2_endBlock_7 : decode cX2_endBlock 7 = .ok (.ireturn, 1) := by decide +kernel
theorem dX2_cellAt_0 : decode cX2_cellAt 0 = .ok (.iload_n 1, 1) := by decide +kernel
theorem dX2_cellAt_1 : decode cX2_cellAt 1 = .ok (.ifCond .lt 19, 3) := by decide +kernel
theorem dX2_cellAt_4 : decode cX2_cellAt 4 = .ok (.iload_n 1, 1) := by decide +kernel
theorem dX2_cellAt_5 : decode cX2_cellAt 5 = .ok (.sipush 512, 3) := by decide +kernel
theorem dX2_cellAt_8 : decode cX2_cellAt 8 = .ok (.if_icmp .ge 12, 3) := by decide +kernel
theorem dX2_cellAt_11 : decode cX2_cellAt 11 = .ok (.aload_n 0, 1) := by decide +kernel
theorem dX2_cellAt_12 : decode cX2_cellAt 12 = .ok (.getfield 9, 3) := by decide +kernel
theorem dX2_cellAt_15 : decode cX2_cellAt 15 = .ok (.iload_n 1, 1) := by decide +kernel
theorem dX2_cellAt_16 : decode cX2_cellAt 16 = .ok (.iaload, 1) := by decide +kernel
theorem dX2_cellAt_17 : decode cX2_cellAt 17 = .ok (.goto 4, 3) := by decide +kernel
theorem dX2_cellAt_20 : decode cX2_cellAt 20 = .ok (.iconst 0, 1) := by decide +kernel
theorem dX2_cellAt_21 : decode cX2_cellAt 21 = .ok (.ireturn, 1) := by decide +kernel
theorem dX0_write_0 : decode cX0_write 0 = .ok (.aload_n 0, 1) := by decide +kernel
theorem dX0_write_1 : decode cX0_write 1 = .ok (.getfield 15, 3) := by decide +kernel
theorem dX0_write_4 : decode cX0_write 4 = .ok (.ifCond .le 22, 3) := by decide +kernel
theorem dX0_write_7 : decode cX0_write 7 = .ok (.aload_n 0, 1) := by decide +kernel
theorem dX0_write_8 : decode cX0_write 8 = .ok (.dup, 1) := by decide +kernel
theorem dX0_write_9 : decode cX0_write 9 = .ok (.getfield 15, 3) := by decide +kernel
theorem dX0_write_12 : decode cX0_write 12 = .ok (.iconst 1, 1) := by decide +kernel
theorem dX0_write_13 : decode cX0_write 13 = .ok (.isub, 1) := by decide +kernel
theorem dX0_write_14 : decode cX0_write 14 = .ok (.putfield 15, 3) := by decide +kernel
theorem dX0_write_17 : decode cX0_write 17 = .ok (.aload_n 0, 1) := by decide +kernel
theorem dX0_write_18 : decode cX0_write 18 = .ok (.getfield 15, 3) := by decide +kernel
theorem dX0_write_21 : decode cX0_write 21 = .ok (.ifCond .ne 5, 3) := by decide +kernel
theorem dX0_write_24 : decode cX0_write 24 = .ok (.iconst 0, 1) := by decide +kernel
theorem dX0_write_25 : decode cX0_write 25 = .ok (.ireturn, 1) := by decide +kernel
theorem dX0_write_26 : decode cX0_write 26 = .ok (.iload_n 2, 1) := by decide +kernel
theorem dX0_write_27 : decode cX0_write 27 = .ok (.bipush 8, 2) := by decide +kernel
theorem dX0_write_29 : decode cX0_write 29 = .ok (.imul, 1) := by decide +kernel
theorem dX0_write_30 : decode cX0_write 30 = .ok (.istore_n 3, 1) := by decide +kernel
theorem dX0_write_31 : decode cX0_write 31 = .ok (.iload_n 3, 1) := by decide +kernel
theorem dX0_write_32 : decode cX0_write 32 = .ok (.istore 4, 2) := by decide +kernel
theorem dX0_write_34 : decode cX0_write 34 = .ok (.iload 4, 2) := by decide +kernel
theorem dX0_write_36 : decode cX0_write 36 = .ok (.iload_n 3, 1) := by decide +kernel
theorem dX0_write_37 : decode cX0_write 37 = .ok (.bipush 8, 2) := by decide +kernel
theorem dX0_write_39 : decode cX0_write 39 = .ok (.iadd, 1) := by decide +kernel
theorem dX0_write_40 : decode cX0_write 40 = .ok (.if_icmp .ge 22, 3) := by decide +kernel
theorem dX0_write_43 : decode cX0_write 43 = .ok (.aload_n 0, 1) := by decide +kernel
theorem dX0_write_44 : decode cX0_write 44 = .ok (.getfield 9, 3) := by decide +kernel
theorem dX0_write_47 : decode cX0_write 47 = .ok (.iload 4, 2) := by decide +kernel
theorem dX0_write_49 : decode cX0_write 49 = .ok (.aload_n 1, 1) := by decide +kernel
theorem dX0_write_50 : decode cX0_write 50 = .ok (.iload 4, 2) := by decide +kernel
theorem dX0_write_52 : decode cX0_write 52 = .ok (.invokevirtual 22, 3) := by decide +kernel
theorem dX0_write_55 : decode cX0_write 55 = .ok (.iastore, 1) := by decide +kernel
theorem dX0_write_56 : decode cX0_write 56 = .ok (.iinc 4 1, 3) := by decide +kernel
theorem dX0_write_59 : decode cX0_write 59 = .ok (.goto (-25), 3) := by decide +kernel
theorem dX0_write_62 : decode cX0_write 62 = .ok (.aload_n 0, 1) := by decide +kernel
theorem dX0_write_63 : decode cX0_write 63 = .ok (.dup, 1) := by decide +kernel
theorem dX0_write_64 : decode cX0_write 64 = .ok (.getfield 19, 3) := by decide +kernel
theorem dX0_write_67 : decode cX0_write 67 = .ok (.iconst 1, 1) := by decide +kernel
theorem dX0_write_68 : decode cX0_write 68 = .ok (.iadd, 1) := by decide +kernel
theorem dX0_write_69 : decode cX0_write 69 = .ok (.putfield 19, 3) := by decide +kernel
theorem dX0_write_72 : decode cX0_write 72 = .ok (.iconst 1, 1) := by decide +kernel
theorem dX0_write_73 : decode cX0_write 73 = .ok (.ireturn, 1) := by decide +kernel
theorem dX2_markSynced_0 : decode cX2_markSynced 0 = .ok (.aload_n 0, 1) := by decide +kernel
theorem dX2_markSynced_1 : decode cX2_markSynced 1 = .ok (.aload_n 0, 1) := by decide +kernel
theorem dX2_markSynced_2 : decode cX2_markSynced 2 = .ok (.getfield 21, 3) := by decide +kernel
theorem dX2_markSynced_5 : decode cX2_markSynced 5 = .ok (.putfield 25, 3) := by decide +kernel
theorem dX2_markSynced_8 : decode cX2_markSynced 8 = .ok (.aload_n 0, 1) := by decide +kernel
theorem dX2_markSynced_9 : decode cX2_markSynced 9 = .ok (.aload_n 0, 1) := by decide +kernel
theorem dX2_markSynced_10 : decode cX2_markSynced 10 = .ok (.getfield 28, 3) := by decide +kernel
theorem dX2_markSynced_13 : decode cX2_markSynced 13 = .ok (.putfield 35, 3) := by decide +kernel
theorem dX2_markSynced_16 : decode cX2_markSynced 16 = .ok (.return_, 1) := by decide +kernel
theorem dX2_clearBehindEnd_0 : decode cX2_clearBehindEnd 0 = .ok (.aload_n 0, 1) := by decide +kernel
theorem dX2_clearBehindEnd_1 : decode cX2_clearBehindEnd 1 = .ok (.getfield 28, 3) := by decide +kernel
theorem dX2_clearBehindEnd_4 : decode cX2_clearBehindEnd 4 = .ok (.istore_n 1, 1) := by decide +kernel
theorem dX2_clearBehindEnd_5 : decode cX2_clearBehindEnd 5 = .ok (.iload_n 1, 1) := by decide +kernel
theorem dX2_clearBehindEnd_6 : decode cX2_clearBehindEnd 6 = .ok (.sipush 512, 3) := by decide +kernel
theorem dX2_clearBehindEnd_9 : decode cX2_clearBehindEnd 9 = .ok (.if_icmp .ge 16, 3) := by decide +kernel
theorem dX2_clearBehindEnd_12 : decode cX2_clearBehindEnd 12 = .ok (.aload_n 0, 1) := by decide +kernel
theorem dX2_clearBehindEnd_13 : decode cX2_clearBehindEnd 13 = .ok (.getfield 9, 3) := by decide +kernel
theorem dX2_clearBehindEnd_16 : decode cX2_clearBehindEnd 16 = .ok (.iload_n 1, 1) := by decide +kernel
theorem dX2_clearBehindEnd_17 : decode cX2_clearBehindEnd 17 = .ok (.iconst 0, 1) := by decide +kernel
theorem dX2_clearBehindEnd_18 : decode cX2_clearBehindEnd 18 = .ok (.iastore, 1) := by decide +kernel
theorem dX2_clearBehindEnd_19 : decode cX2_clearBehindEnd 19 = .ok (.iinc 1 1, 3) := by decide +kernel
theorem dX2_clearBehindEnd_22 : decode cX2_clearBehindEnd 22 = .ok (.goto (-17), 3) := by decide +kernel
theorem dX2_clearBehindEnd_25 : decode cX2_clearBehindEnd 25 = .ok (.return_, 1) := by decide +kernel
theorem dX2_clear_0 : decode cX2_clear 0 = .ok (.aload_n 0, 1) := by decide +kernel
theorem dX2_clear_1 : decode cX2_clear 1 = .ok (.iconst 0, 1) := by decide +kernel
theorem dX2_clear_2 : decode cX2_clear 2 = .ok (.putfield 21, 3) := by decide +kernel
theorem dX2_clear_5 : decode cX2_clear 5 = .ok (.aload_n 0, 1) := by decide +kernel
theorem dX2_clear_6 : decode cX2_clear 6 = .ok (.iconst 0, 1) := by decide +kernel
theorem dX2_clear_7 : decode cX2_clear 7 = .ok (.putfield 28, 3) := by decide +kernel
theorem dX2_clear_10 : decode cX2_clear 10 = .ok (.aload_n 0, 1) := by decide +kernel
theorem dX2_clear_11 : decode cX2_clear 11 = .ok (.invokevirtual 38, 3) := by decide +kernel
theorem dX2_clear_14 : decode cX2_clear 14 = .ok (.aload_n 0, 1) := by decide +kernel
theorem dX2_clear_15 : decode cX2_clear 15 = .ok (.invokevirtual 41, 3) := by decide +kernel
theorem dX2_clear_18 : decode cX2_clear 18 = .ok (.return_, 1) := by decide +kernel
theorem dX5_losePower_0 : decode cX5_losePower 0 = .ok (.aload_n 0, 1) := by decide +kernel
theorem dX5_losePower_1 : decode cX5_losePower 1 = .ok (.iconst 0, 1) := by decide +kernel
theorem dX5_losePower_2 : decode cX5_losePower 2 = .ok (.putfield 41, 3) := by decide +kernel
theorem dX5_losePower_5 : decode cX5_losePower 5 = .ok (.aload_n 0, 1) := by decide +kernel
theorem dX5_losePower_6 : decode cX5_losePower 6 = .ok (.getfield 23, 3) := by decide +kernel
theorem dX5_losePower_9 : decode cX5_losePower 9 = .ok (.invokevirtual 171, 3) := by decide +kernel
theorem dX5_losePower_12 : decode cX5_losePower 12 = .ok (.aload_n 0, 1) := by decide +kernel
theorem dX5_losePower_13 : decode cX5_losePower 13 = .ok (.getfield 16, 3) := by decide +kernel
theorem dX5_losePower_16 : decode cX5_losePower 16 = .ok (.invokevirtual 57, 3) := by decide +kernel
theorem dX5_losePower_19 : decode cX5_losePower 19 = .ok (.return_, 1) := by decide +kernel
theorem dX5_writeBlock_0 : decode cX5_writeBlock 0 = .ok (.aload_n 0, 1) := by decide +kernel
theorem dX5_writeBlock_1 : decode cX5_writeBlock 1 = .ok (.getfield 30, 3) := by decide +kernel
theorem dX5_writeBlock_4 : decode cX5_writeBlock 4 = .ok (.aload_n 0, 1) := by decide +kernel
theorem dX5_writeBlock_5 : decode cX5_writeBlock 5 = .ok (.getfield 23, 3) := by decide +kernel
theorem dX5_writeBlock_8 : decode cX5_writeBlock 8 = .ok (.iload_n 1, 1) := by decide +kernel
theorem dX5_writeBlock_9 : decode cX5_writeBlock 9 = .ok (.invokevirtual 164, 3) := by decide +kernel
theorem dX5_writeBlock_12 : decode cX5_writeBlock 12 = .ok (.ifCond .eq 5, 3) := by decide +kernel
theorem dX5_writeBlock_15 : decode cX5_writeBlock 15 = .ok (.iconst 1, 1) := by decide +kernel
theorem dX5_writeBlock_16 : decode cX5_writeBlock 16 = .ok (.ireturn, 1) := by decide +kernel
theorem dX5_writeBlock_17 : decode cX5_writeBlock 17 = .ok (.aload_n 0, 1) := by decide +kernel
theorem dX5_writeBlock_18 : decode cX5_writeBlock 18 = .ok (.invokevirtual 168, 3) := by decide +kernel
theorem dX5_writeBlock_21 : decode cX5_writeBlock 21 = .ok (.iconst 0, 1) := by decide +kernel
theorem dX5_writeBlock_22 : decode cX5_writeBlock 22 = .ok (.ireturn, 1) := by decide +kernel
theorem dX5_sync_0 : decode cX5_sync 0 = .ok (.aload_n 0, 1) := by decide +kernel
theorem dX5_sync_1 : decode cX5_sync 1 = .ok (.getfield 41, 3) := by decide +kernel
theorem dX5_sync_4 : decode cX5_sync 4 = .ok (.ifCond .ne 6, 3) := by decide +kernel
theorem dX5_sync_7 : decode cX5_sync 7 = .ok (.bipush (-2), 2) := by decide +kernel
theorem dX5_sync_9 : decode cX5_sync 9 = .ok (.ireturn, 1) := by decide +kernel
theorem dX5_sync_10 : decode cX5_sync 10 = .ok (.aload_n 0, 1) := by decide +kernel
theorem dX5_sync_11 : decode cX5_sync 11 = .ok (.getfield 23, 3) := by decide +kernel
theorem dX5_sync_14 : decode cX5_sync 14 = .ok (.invokevirtual 75, 3) := by decide +kernel
theorem dX5_sync_17 : decode cX5_sync 17 = .ok (.istore_n 1, 1) := by decide +kernel
theorem dX5_sync_18 : decode cX5_sync 18 = .ok (.aload_n 0, 1) := by decide +kernel
theorem dX5_sync_19 : decode cX5_sync 19 = .ok (.getfield 23, 3) := by decide +kernel
theorem dX5_sync_22 : decode cX5_sync 22 = .ok (.invokevirtual 79, 3) := by decide +kernel
theorem dX5_sync_25 : decode cX5_sync 25 = .ok (.istore_n 2, 1) := by decide +kernel
theorem dX5_sync_26 : decode cX5_sync 26 = .ok (.iload_n 1, 1) := by decide +kernel
theorem dX5_sync_27 : decode cX5_sync 27 = .ok (.istore_n 3, 1) := by decide +kernel
theorem dX5_sync_28 : decode cX5_sync 28 = .ok (.iload_n 3, 1) := by decide +kernel
theorem dX5_sync_29 : decode cX5_sync 29 = .ok (.iload_n 2, 1) := by decide +kernel
theorem dX5_sync_30 : decode cX5_sync 30 = .ok (.if_icmp .gt 20, 3) := by decide +kernel
theorem dX5_sync_33 : decode cX5_sync 33 = .ok (.aload_n 0, 1) := by decide +kernel
theorem dX5_sync_34 : decode cX5_sync 34 = .ok (.iload_n 3, 1) := by decide +kernel
theorem dX5_sync_35 : decode cX5_sync 35 = .ok (.invokevirtual 82, 3) := by decide +kernel
theorem dX5_sync_38 : decode cX5_sync 38 = .ok (.ifCond .ne 6, 3) := by decide +kernel
theorem dX5_sync_41 : decode cX5_sync 41 = .ok (.bipush (-2), 2) := by decide +kernel
theorem dX5_sync_43 : decode cX5_sync 43 = .ok (.ireturn, 1) := by decide +kernel
theorem dX5_sync_44 : decode cX5_sync 44 = .ok (.iinc 3 1, 3) := by decide +kernel
theorem dX5_sync_47 : decode cX5_sync 47 = .ok (.goto (-19), 3) := by decide +kernel
theorem dX5_sync_50 : decode cX5_sync 50 = .ok (.aload_n 0, 1) := by decide +kernel
theorem dX5_sync_51 : decode cX5_sync 51 = .ok (.getfield 23, 3) := by decide +kernel
theorem dX5_sync_54 : decode cX5_sync 54 = .ok (.invokevirtual 85, 3) := by decide +kernel
theorem dX5_sync_57 : decode cX5_sync 57 = .ok (.iload_n 2, 1) := by decide +kernel
theorem dX5_sync_58 : decode cX5_sync 58 = .ok (.iload_n 1, 1) := by decide +kernel
theorem dX5_sync_59 : decode cX5_sync 59 = .ok (.isub, 1) := by decide +kernel
theorem dX5_sync_60 : decode cX5_sync 60 = .ok (.iconst 1, 1) := by decide +kernel
theorem dX5_sync_61 : decode cX5_sync 61 = .ok (.iadd, 1) := by decide +kernel
theorem dX5_sync_62 : decode cX5_sync 62 = .ok (.ireturn, 1) := by decide +kernel
theorem dX0_failAt_0 : decode cX0_failAt 0 = .ok (.aload_n 0, 1) := by decide +kernel
theorem dX0_failAt_1 : decode cX0_failAt 1 = .ok (.iload_n 1, 1) := by decide +kernel
theorem dX0_failAt_2 : decode cX0_failAt 2 = .ok (.putfield 15, 3) := by decide +kernel
theorem dX0_failAt_5 : decode cX0_failAt 5 = .ok (.return_, 1) := by decide +kernel
theorem dX5_fail_0 : decode cX5_fail 0 = .ok (.iload_n 1, 1) := by decide +kernel
theorem dX5_fail_1 : decode cX5_fail 1 = .ok (.ifCond .lt 9, 3) := by decide +kernel
theorem dX5_fail_4 : decode cX5_fail 4 = .ok (.iload_n 1, 1) := by decide +kernel
theorem dX5_fail_5 : decode cX5_fail 5 = .ok (.bipush 40, 2) := by decide +kernel
theorem dX5_fail_7 : decode cX5_fail 7 = .ok (.if_icmp .le 5, 3) := by decide +kernel
theorem dX5_fail_10 : decode cX5_fail 10 = .ok (.iconst 0, 1) := by decide +kernel
theorem dX5_fail_11 : decode cX5_fail 11 = .ok (.ireturn, 1) := by decide +kernel
theorem dX5_fail_12 : decode cX5_fail 12 = .ok (.aload_n 0, 1) := by decide +kernel
theorem dX5_fail_13 : decode cX5_fail 13 = .ok (.getfield 30, 3) := by decide +kernel
theorem dX5_fail_16 : decode cX5_fail 16 = .ok (.iload_n 1, 1) := by decide +kernel
theorem dX5_fail_17 : decode cX5_fail 17 = .ok (.invokevirtual 88, 3) := by decide +kernel
theorem dX5_fail_20 : decode cX5_fail 20 = .ok (.iconst 1, 1) := by decide +kernel
theorem dX5_fail_21 : decode cX5_fail 21 = .ok (.ireturn, 1) := by decide +kernel
theorem dX0_cellAt_0 : decode cX0_cellAt 0 = .ok (.iload_n 1, 1) := by decide +kernel
theorem dX0_cellAt_1 : decode cX0_cellAt 1 = .ok (.ifCond .lt 19, 3) := by decide +kernel
theorem dX0_cellAt_4 : decode cX0_cellAt 4 = .ok (.iload_n 1, 1) := by decide +kernel
theorem dX0_cellAt_5 : decode cX0_cellAt 5 = .ok (.sipush 512, 3) := by decide +kernel
theorem dX0_cellAt_8 : decode cX0_cellAt 8 = .ok (.if_icmp .ge 12, 3) := by decide +kernel
theorem dX0_cellAt_11 : decode cX0_cellAt 11 = .ok (.aload_n 0, 1) := by decide +kernel
theorem dX0_cellAt_12 : decode cX0_cellAt 12 = .ok (.getfield 9, 3) := by decide +kernel
theorem dX0_cellAt_15 : decode cX0_cellAt 15 = .ok (.iload_n 1, 1) := by decide +kernel
theorem dX0_cellAt_16 : decode cX0_cellAt 16 = .ok (.iaload, 1) := by decide +kernel
theorem dX0_cellAt_17 : decode cX0_cellAt 17 = .ok (.goto 4, 3) := by decide +kernel
theorem dX0_cellAt_20 : decode cX0_cellAt 20 = .ok (.iconst 0, 1) := by decide +kernel
theorem dX0_cellAt_21 : decode cX0_cellAt 21 = .ok (.ireturn, 1) := by decide +kernel
theorem dX2_nextFits_0 : decode cX2_nextFits 0 = .ok (.aload_n 0, 1) := by decide +kernel
theorem dX2_nextFits_1 : decode cX2_nextFits 1 = .ok (.getfield 28, 3) := by decide +kernel
theorem dX2_nextFits_4 : decode cX2_nextFits 4 = .ok (.sipush 512, 3) := by decide +kernel
theorem dX2_nextFits_7 : decode cX2_nextFits 7 = .ok (.if_icmp .ge 56, 3) := by decide +kernel
theorem dX2_nextFits_10 : decode cX2_nextFits 10 = .ok (.aload_n 0, 1) := by decide +kernel
theorem dX2_nextFits_11 : decode cX2_nextFits 11 = .ok (.getfield 9, 3) := by decide +kernel
theorem dX2_nextFits_14 : decode cX2_nextFits 14 = .ok (.aload_n 0, 1) := by decide +kernel
theorem dX2_nextFits_15 : decode cX2_nextFits 15 = .ok (.getfield 28, 3) := by decide +kernel
theorem dX2_nextFits_18 : decode cX2_nextFits 18 = .ok (.iaload, 1) := by decide +kernel
theorem dX2_nextFits_19 : decode cX2_nextFits 19 = .ok (.iconst 2, 1) := by decide +kernel
theorem dX2_nextFits_20 : decode cX2_nextFits 20 = .ok (.if_icmp .lt 43, 3) := by decide +kernel
theorem dX2_nextFits_23 : decode cX2_nextFits 23 = .ok (.aload_n 0, 1) := by decide +kernel
theorem dX2_nextFits_24 : decode cX2_nextFits 24 = .ok (.getfield 9, 3) := by decide +kernel
theorem dX2_nextFits_27 : decode cX2_nextFits 27 = .ok (.aload_n 0, 1) := by decide +kernel
theorem dX2_nextFits_28 : decode cX2_nextFits 28 = .ok (.getfield 28, 3) := by decide +kernel
theorem dX2_nextFits_31 : decode cX2_nextFits 31 = .ok (.iaload, 1) := by decide +kernel
theorem dX2_nextFits_32 : decode cX2_nextFits 32 = .ok (.iconst 4, 1) := by decide +kernel
theorem dX2_nextFits_33 : decode cX2_nextFits 33 = .ok (.if_icmp .gt 30, 3) := by decide +kernel
theorem dX2_nextFits_36 : decode cX2_nextFits 36 = .ok (.aload_n 0, 1) := by decide +kernel
theorem dX2_nextFits_37 : decode cX2_nextFits 37 = .ok (.getfield 28, 3) := by decide +kernel
theorem dX2_nextFits_40 : decode cX2_nextFits 40 = .ok (.aload_n 0, 1) := by decide +kernel
theorem dX2_nextFits_41 : decode cX2_nextFits 41 = .ok (.getfield 9, 3) := by decide +kernel
theorem dX2_nextFits_44 : decode cX2_nextFits 44 = .ok (.aload_n 0, 1) := by decide +kernel
theorem dX2_nextFits_45 : decode cX2_nextFits 45 = .ok (.getfield 28, 3) := by decide +kernel
theorem dX2_nextFits_48 : decode cX2_nextFits 48 = .ok (.iaload, 1) := by decide +kernel
theorem dX2_nextFits_49 : decode cX2_nextFits 49 = .ok (.invokestatic 50, 3) := by decide +kernel
theorem dX2_nextFits_52 : decode cX2_nextFits 52 = .ok (.iadd, 1) := by decide +kernel
theorem dX2_nextFits_53 : decode cX2_nextFits 53 = .ok (.sipush 512, 3) := by decide +kernel
theorem dX2_nextFits_56 : decode cX2_nextFits 56 = .ok (.if_icmp .gt 7, 3) := by decide +kernel
theorem dX2_nextFits_59 : decode cX2_nextFits 59 = .ok (.iconst 1, 1) := by decide +kernel
theorem dX2_nextFits_60 : decode cX2_nextFits 60 = .ok (.goto 4, 3) := by decide +kernel
theorem dX2_nextFits_63 : decode cX2_nextFits 63 = .ok (.iconst 0, 1) := by decide +kernel
theorem dX2_nextFits_64 : decode cX2_nextFits 64 = .ok (.ireturn, 1) := by decide +kernel
theorem dX2_nextLegsAreSound_0 : decode cX2_nextLegsAreSound 0 = .ok (.iconst 0, 1) := by decide +kernel
theorem dX2_nextLegsAreSound_1 : decode cX2_nextLegsAreSound 1 = .ok (.istore_n 1, 1) := by decide +kernel
theorem dX2_nextLegsAreSound_2 : decode cX2_nextLegsAreSound 2 = .ok (.iconst 0, 1) := by decide +kernel
theorem dX2_nextLegsAreSound_3 : decode cX2_nextLegsAreSound 3 = .ok (.istore_n 2, 1) := by decide +kernel
theorem dX2_nextLegsAreSound_4 : decode cX2_nextLegsAreSound 4 = .ok (.iload_n 2, 1) := by decide +kernel
theorem dX2_nextLegsAreSound_5 : decode cX2_nextLegsAreSound 5 = .ok (.aload_n 0, 1) := by decide +kernel
theorem dX2_nextLegsAreSound_6 : decode cX2_nextLegsAreSound 6 = .ok (.getfield 9, 3) := by decide +kernel
theorem dX2_nextLegsAreSound_9 : decode cX2_nextLegsAreSound 9 = .ok (.aload_n 0, 1) := by decide +kernel
theorem dX2_nextLegsAreSound_10 : decode cX2_nextLegsAreSound 10 = .ok (.getfield 28, 3) := by decide +kernel
theorem dX2_nextLegsAreSound_13 : decode cX2_nextLegsAreSound 13 = .ok (.iaload, 1) := by decide +kernel
theorem dX2_nextLegsAreSound_14 : decode cX2_nextLegsAreSound 14 = .ok (.if_icmp .ge 55, 3) := by decide +kernel
theorem dX2_nextLegsAreSound_17 : decode cX2_nextLegsAreSound 17 = .ok (.aload_n 0, 1) := by decide +kernel
theorem dX2_nextLegsAreSound_18 : decode cX2_nextLegsAreSound 18 = .ok (.getfield 9, 3) := by decide +kernel
theorem dX2_nextLegsAreSound_21 : decode cX2_nextLegsAreSound 21 = .ok (.aload_n 0, 1) := by decide +kernel
theorem dX2_nextLegsAreSound_22 : decode cX2_nextLegsAreSound 22 = .ok (.getfield 28, 3) := by decide +kernel
theorem dX2_nextLegsAreSound_25 : decode cX2_nextLegsAreSound 25 = .ok (.iload_n 2, 1) := by decide +kernel
theorem dX2_nextLegsAreSound_26 : decode cX2_nextLegsAreSound 26 = .ok (.invokestatic 60, 3) := by decide +kernel
theorem dX2_nextLegsAreSound_29 : decode cX2_nextLegsAreSound 29 = .ok (.iaload, 1) := by decide +kernel
theorem dX2_nextLegsAreSound_30 : decode cX2_nextLegsAreSound 30 = .ok (.istore_n 3, 1) := by decide +kernel
theorem dX2_nextLegsAreSound_31 : decode cX2_nextLegsAreSound 31 = .ok (.aload_n 0, 1) := by decide +kernel
theorem dX2_nextLegsAreSound_32 : decode cX2_nextLegsAreSound 32 = .ok (.getfield 9, 3) := by decide +kernel
theorem dX2_nextLegsAreSound_35 : decode cX2_nextLegsAreSound 35 = .ok (.aload_n 0, 1) := by decide +kernel
theorem dX2_nextLegsAreSound_36 : decode cX2_nextLegsAreSound 36 = .ok (.getfield 28, 3) := by decide +kernel
theorem dX2_nextLegsAreSound_39 : decode cX2_nextLegsAreSound 39 = .ok (.iload_n 2, 1) := by decide +kernel
theorem dX2_nextLegsAreSound_40 : decode cX2_nextLegsAreSound 40 = .ok (.invokestatic 53, 3) := by decide +kernel
theorem dX2_nextLegsAreSound_43 : decode cX2_nextLegsAreSound 43 = .ok (.iaload, 1) := by decide +kernel
theorem dX2_nextLegsAreSound_44 : decode cX2_nextLegsAreSound 44 = .ok (.invokestatic 111, 3) := by decide +kernel
theorem dX2_nextLegsAreSound_47 : decode cX2_nextLegsAreSound 47 = .ok (.ifCond .eq 10, 3) := by decide +kernel
theorem dX2_nextLegsAreSound_50 : decode cX2_nextLegsAreSound 50 = .ok (.iload_n 3, 1) := by decide +kernel
theorem dX2_nextLegsAreSound_51 : decode cX2_nextLegsAreSound 51 = .ok (.invokestatic 115, 3) := by decide +kernel
theorem dX2_nextLegsAreSound_54 : decode cX2_nextLegsAreSound 54 = .ok (.ifCond .ne 5, 3) := by decide +kernel
theorem dX2_nextLegsAreSound_57 : decode cX2_nextLegsAreSound 57 = .ok (.iconst 0, 1) := by decide +kernel
theorem dX2_nextLegsAreSound_58 : decode cX2_nextLegsAreSound 58 = .ok (.ireturn, 1) := by decide +kernel
theorem dX2_nextLegsAreSound_59 : decode cX2_nextLegsAreSound 59 = .ok (.iload_n 1, 1) := by decide +kernel
theorem dX2_nextLegsAreSound_60 : decode cX2_nextLegsAreSound 60 = .ok (.iload_n 3, 1) := by decide +kernel
theorem dX2_nextLegsAreSound_61 : decode cX2_nextLegsAreSound 61 = .ok (.iadd, 1) := by decide +kernel
theorem dX2_nextLegsAreSound_62 : decode cX2_nextLegsAreSound 62 = .ok (.istore_n 1, 1) := by decide +kernel
theorem dX2_nextLegsAreSound_63 : decode cX2_nextLegsAreSound 63 = .ok (.iinc 2 1, 3) := by decide +kernel
theorem dX2_nextLegsAreSound_66 : decode cX2_nextLegsAreSound 66 = .ok (.goto (-62), 3) := by decide +kernel
theorem dX2_nextLegsAreSound_69 : decode cX2_nextLegsAreSound 69 = .ok (.iload_n 1, 1) := by decide +kernel
theorem dX2_nextLegsAreSound_70 : decode cX2_nextLegsAreSound 70 = .ok (.ifCond .ne 7, 3) := by decide +kernel
theorem dX2_nextLegsAreSound_73 : decode cX2_nextLegsAreSound 73 = .ok (.iconst 1, 1) := by decide +kernel
theorem dX2_nextLegsAreSound_74 : decode cX2_nextLegsAreSound 74 = .ok (.goto 4, 3) := by decide +kernel
theorem dX2_nextLegsAreSound_77 : decode cX2_nextLegsAreSound 77 = .ok (.iconst 0, 1) := by decide +kernel
theorem dX2_nextLegsAreSound_78 : decode cX2_nextLegsAreSound 78 = .ok (.ireturn, 1) := by decide +kernel
theorem dX2_nextIsSound_0 : decode cX2_nextIsSound 0 = .ok (.aload_n 0, 1) := by decide +kernel
theorem dX2_nextIsSound_1 : decode cX2_nextIsSound 1 = .ok (.invokevirtual 105, 3) := by decide +kernel
theorem dX2_nextIsSound_4 : decode cX2_nextIsSound 4 = .ok (.ifCond .eq 45, 3) := by decide +kernel
theorem dX2_nextIsSound_7 : decode cX2_nextIsSound 7 = .ok (.aload_n 0, 1) := by decide +kernel
theorem dX2_nextIsSound_8 : decode cX2_nextIsSound 8 = .ok (.invokevirtual 108, 3) := by decide +kernel
theorem dX2_nextIsSound_11 : decode cX2_nextIsSound 11 = .ok (.ifCond .eq 38, 3) := by decide +kernel
theorem dX2_nextIsSound_14 : decode cX2_nextIsSound 14 = .ok (.aload_n 0, 1) := by decide +kernel
theorem dX2_nextIsSound_15 : decode cX2_nextIsSound 15 = .ok (.getfield 9, 3) := by decide +kernel
theorem dX2_nextIsSound_18 : decode cX2_nextIsSound 18 = .ok (.aload_n 0, 1) := by decide +kernel
theorem dX2_nextIsSound_19 : decode cX2_nextIsSound 19 = .ok (.aload_n 0, 1) := by decide +kernel
theorem dX2_nextIsSound_20 : decode cX2_nextIsSound 20 = .ok (.getfield 28, 3) := by decide +kernel
theorem dX2_nextIsSound_23 : decode cX2_nextIsSound 23 = .ok (.invokevirtual 66, 3) := by decide +kernel
theorem dX2_nextIsSound_26 : decode cX2_nextIsSound 26 = .ok (.iaload, 1) := by decide +kernel
theorem dX2_nextIsSound_27 : decode cX2_nextIsSound 27 = .ok (.aload_n 0, 1) := by decide +kernel
theorem dX2_nextIsSound_28 : decode cX2_nextIsSound 28 = .ok (.invokevirtual 69, 3) := by decide +kernel
theorem dX2_nextIsSound_31 : decode cX2_nextIsSound 31 = .ok (.aload_n 0, 1) := by decide +kernel
theorem dX2_nextIsSound_32 : decode cX2_nextIsSound 32 = .ok (.aload_n 0, 1) := by decide +kernel
theorem dX2_nextIsSound_33 : decode cX2_nextIsSound 33 = .ok (.getfield 28, 3) := by decide +kernel
theorem dX2_nextIsSound_36 : decode cX2_nextIsSound 36 = .ok (.invokevirtual 72, 3) := by decide +kernel
theorem dX2_nextIsSound_39 : decode cX2_nextIsSound 39 = .ok (.invokestatic 75, 3) := by decide +kernel
theorem dX2_nextIsSound_42 : decode cX2_nextIsSound 42 = .ok (.if_icmp .ne 7, 3) := by decide +kernel
theorem dX2_nextIsSound_45 : decode cX2_nextIsSound 45 = .ok (.iconst 1, 1) := by decide +kernel
theorem dX2_nextIsSound_46 : decode cX2_nextIsSound 46 = .ok (.goto 4, 3) := by decide +kernel
theorem dX2_nextIsSound_49 : decode cX2_nextIsSound 49 = .ok (.iconst 0, 1) := by decide +kernel
theorem dX2_nextIsSound_50 : decode cX2_nextIsSound 50 = .ok (.ireturn, 1) := by decide +kernel
theorem dX2_load_0 : decode cX2_load 0 = .ok (.aload_n 0, 1) := by decide +kernel
theorem dX2_load_1 : decode cX2_load 1 = .ok (.invokevirtual 81, 3) := by decide +kernel
theorem dX2_load_4 : decode cX2_load 4 = .ok (.iconst 0, 1) := by decide +kernel
theorem dX2_load_5 : decode cX2_load 5 = .ok (.istore_n 2, 1) := by decide +kernel
theorem dX2_load_6 : decode cX2_load 6 = .ok (.iload_n 2, 1) := by decide +kernel
theorem dX2_load_7 : decode cX2_load 7 = .ok (.sipush 512, 3) := by decide +kernel
theorem dX2_load_10 : decode cX2_load 10 = .ok (.if_icmp .ge 20, 3) := by decide +kernel
theorem dX2_load_13 : decode cX2_load 13 = .ok (.aload_n 0, 1) := by decide +kernel
theorem dX2_load_14 : decode cX2_load 14 = .ok (.getfield 9, 3) := by decide +kernel
theorem dX2_load_17 : decode cX2_load 17 = .ok (.iload_n 2, 1) := by decide +kernel
theorem dX2_load_18 : decode cX2_load 18 = .ok (.aload_n 1, 1) := by decide +kernel
theorem dX2_load_19 : decode cX2_load 19 = .ok (.iload_n 2, 1) := by decide +kernel
theorem dX2_load_20 : decode cX2_load 20 = .ok (.invokevirtual 84, 3) := by decide +kernel
theorem dX2_load_23 : decode cX2_load 23 = .ok (.iastore, 1) := by decide +kernel
theorem dX2_load_24 : decode cX2_load 24 = .ok (.iinc 2 1, 3) := by decide +kernel
theorem dX2_load_27 : decode cX2_load 27 = .ok (.goto (-21), 3) := by decide +kernel
theorem dX2_load_30 : decode cX2_load 30 = .ok (.iconst 0, 1) := by decide +kernel
theorem dX2_load_31 : decode cX2_load 31 = .ok (.istore_n 2, 1) := by decide +kernel
theorem dX2_load_32 : decode cX2_load 32 = .ok (.iload_n 2, 1) := by decide +kernel
theorem dX2_load_33 : decode cX2_load 33 = .ok (.bipush 73, 2) := by decide +kernel
theorem dX2_load_35 : decode cX2_load 35 = .ok (.if_icmp .ge 20, 3) := by decide +kernel
theorem dX2_load_38 : decode cX2_load 38 = .ok (.aload_n 0, 1) := by decide +kernel
theorem dX2_load_39 : decode cX2_load 39 = .ok (.invokevirtual 89, 3) := by decide +kernel
theorem dX2_load_42 : decode cX2_load 42 = .ok (.ifCond .eq 13, 3) := by decide +kernel
theorem dX2_load_45 : decode cX2_load 45 = .ok (.aload_n 0, 1) := by decide +kernel
theorem dX2_load_46 : decode cX2_load 46 = .ok (.invokevirtual 78, 3) := by decide +kernel
theorem dX2_load_49 : decode cX2_load 49 = .ok (.iinc 2 1, 3) := by decide +kernel
theorem dX2_load_52 : decode cX2_load 52 = .ok (.goto (-20), 3) := by decide +kernel
theorem dX2_load_55 : decode cX2_load 55 = .ok (.aload_n 0, 1) := by decide +kernel
theorem dX2_load_56 : decode cX2_load 56 = .ok (.invokevirtual 38, 3) := by decide +kernel
theorem dX2_load_59 : decode cX2_load 59 = .ok (.aload_n 0, 1) := by decide +kernel
theorem dX2_load_60 : decode cX2_load 60 = .ok (.invokevirtual 41, 3) := by decide +kernel
theorem dX2_load_63 : decode cX2_load 63 = .ok (.return_, 1) := by decide +kernel
theorem dX2_endsInBlock_0 : decode cX2_endsInBlock 0 = .ok (.aload_n 0, 1) := by decide +kernel
theorem dX2_endsInBlock_1 : decode cX2_endsInBlock 1 = .ok (.getfield 28, 3) := by decide +kernel
theorem dX2_endsInBlock_4 : decode cX2_endsInBlock 4 = .ok (.sipush 512, 3) := by decide +kernel
theorem dX2_endsInBlock_7 : decode cX2_endsInBlock 7 = .ok (.if_icmp .ge 7, 3) := by decide +kernel
theorem dX2_endsInBlock_10 : decode cX2_endsInBlock 10 = .ok (.iconst 1, 1) := by decide +kernel
theorem dX2_endsInBlock_11 : decode cX2_endsInBlock 11 = .ok (.goto 4, 3) := by decide +kernel
theorem dX2_endsInBlock_14 : decode cX2_endsInBlock 14 = .ok (.iconst 0, 1) := by decide +kernel
theorem dX2_endsInBlock_15 : decode cX2_endsInBlock 15 = .ok (.ireturn, 1) := by decide +kernel
theorem dX5_recover_0 : decode cX5_recover 0 = .ok (.aload_n 0, 1) := by decide +kernel
theorem dX5_recover_1 : decode cX5_recover 1 = .ok (.getfield 41, 3) := by decide +kernel
theorem dX5_recover_4 : decode cX5_recover 4 = .ok (.ifCond .eq 5, 3) := by decide +kernel
theorem dX5_recover_7 : decode cX5_recover 7 = .ok (.iconst (-1), 1) := by decide +kernel
theorem dX5_recover_8 : decode cX5_recover 8 = .ok (.ireturn, 1) := by decide +kernel
theorem dX5_recover_9 : decode cX5_recover 9 = .ok (.aload_n 0, 1) := by decide +kernel
theorem dX5_recover_10 : decode cX5_recover 10 = .ok (.getfield 23, 3) := by decide +kernel
theorem dX5_recover_13 : decode cX5_recover 13 = .ok (.aload_n 0, 1) := by decide +kernel
theorem dX5_recover_14 : decode cX5_recover 14 = .ok (.getfield 30, 3) := by decide +kernel
theorem dX5_recover_17 : decode cX5_recover 17 = .ok (.invokevirtual 92, 3) := by decide +kernel
theorem dX5_recover_20 : decode cX5_recover 20 = .ok (.aload_n 0, 1) := by decide +kernel
theorem dX5_recover_21 : decode cX5_recover 21 = .ok (.iconst 1, 1) := by decide +kernel
theorem dX5_recover_22 : decode cX5_recover 22 = .ok (.putfield 41, 3) := by decide +kernel
theorem dX5_recover_25 : decode cX5_recover 25 = .ok (.aload_n 0, 1) := by decide +kernel
theorem dX5_recover_26 : decode cX5_recover 26 = .ok (.getfield 23, 3) := by decide +kernel
theorem dX5_recover_29 : decode cX5_recover 29 = .ok (.invokevirtual 96, 3) := by decide +kernel
theorem dX5_recover_32 : decode cX5_recover 32 = .ok (.ifCond .eq 20, 3) := by decide +kernel
theorem dX5_recover_35 : decode cX5_recover 35 = .ok (.aload_n 0, 1) := by decide +kernel
theorem dX5_recover_36 : decode cX5_recover 36 = .ok (.aload_n 0, 1) := by decide +kernel
theorem dX5_recover_37 : decode cX5_recover 37 = .ok (.getfield 23, 3) := by decide +kernel
theorem dX5_recover_40 : decode cX5_recover 40 = .ok (.invokevirtual 79, 3) := by decide +kernel
theorem dX5_recover_43 : decode cX5_recover 43 = .ok (.invokevirtual 82, 3) := by decide +kernel
theorem dX5_recover_46 : decode cX5_recover 46 = .ok (.ifCond .ne 6, 3) := by decide +kernel
theorem dX5_recover_49 : decode cX5_recover 49 = .ok (.bipush (-2), 2) := by decide +kernel
theorem dX5_recover_51 : decode cX5_recover 51 = .ok (.ireturn, 1) := by decide +kernel
theorem dX5_recover_52 : decode cX5_recover 52 = .ok (.aload_n 0, 1) := by decide +kernel
theorem dX5_recover_53 : decode cX5_recover 53 = .ok (.getfield 23, 3) := by decide +kernel
theorem dX5_recover_56 : decode cX5_recover 56 = .ok (.invokevirtual 99, 3) := by decide +kernel
theorem dX5_recover_59 : decode cX5_recover 59 = .ok (.ireturn, 1) := by decide +kernel
theorem dX5_on_0 : decode cX5_on 0 = .ok (.aload_n 0, 1) := by decide +kernel
theorem dX5_on_1 : decode cX5_on 1 = .ok (.getfield 41, 3) := by decide +kernel
theorem dX5_on_4 : decode cX5_on 4 = .ok (.ireturn, 1) := by decide +kernel
theorem dX5_entries_0 : decode cX5_entries 0 = .ok (.aload_n 0, 1) := by decide +kernel
theorem dX5_entries_1 : decode cX5_entries 1 = .ok (.getfield 23, 3) := by decide +kernel
theorem dX5_entries_4 : decode cX5_entries 4 = .ok (.invokevirtual 99, 3) := by decide +kernel
theorem dX5_entries_7 : decode cX5_entries 7 = .ok (.ireturn, 1) := by decide +kernel
theorem dX2_syncedSize_0 : decode cX2_syncedSize 0 = .ok (.aload_n 0, 1) := by decide +kernel
theorem dX2_syncedSize_1 : decode cX2_syncedSize 1 = .ok (.getfield 25, 3) := by decide +kernel
theorem dX2_syncedSize_4 : decode cX2_syncedSize 4 = .ok (.ireturn, 1) := by decide +kernel
theorem dX5_synced_0 : decode cX5_synced 0 = .ok (.aload_n 0, 1) := by decide +kernel
theorem dX5_synced_1 : decode cX5_synced 1 = .ok (.getfield 23, 3) := by decide +kernel
theorem dX5_synced_4 : decode cX5_synced 4 = .ok (.invokevirtual 102, 3) := by decide +kernel
theorem dX5_synced_7 : decode cX5_synced 7 = .ok (.ireturn, 1) := by decide +kernel
theorem dX5_balance_0 : decode cX5_balance 0 = .ok (.iload_n 1, 1) := by decide +kernel
theorem dX5_balance_1 : decode cX5_balance 1 = .ok (.invokestatic 45, 3) := by decide +kernel
theorem dX5_balance_4 : decode cX5_balance 4 = .ok (.ifCond .eq 18, 3) := by decide +kernel
theorem dX5_balance_7 : decode cX5_balance 7 = .ok (.iload_n 2, 1) := by decide +kernel
theorem dX5_balance_8 : decode cX5_balance 8 = .ok (.ifCond .lt 14, 3) := by decide +kernel
theorem dX5_balance_11 : decode cX5_balance 11 = .ok (.iload_n 2, 1) := by decide +kernel
theorem dX5_balance_12 : decode cX5_balance 12 = .ok (.aload_n 0, 1) := by decide +kernel
theorem dX5_balance_13 : decode cX5_balance 13 = .ok (.getfield 23, 3) := by decide +kernel
theorem dX5_balance_16 : decode cX5_balance 16 = .ok (.invokevirtual 99, 3) := by decide +kernel
theorem dX5_balance_19 : decode cX5_balance 19 = .ok (.if_icmp .le 5, 3) := by decide +kernel
theorem dX5_balance_22 : decode cX5_balance 22 = .ok (.iconst 0, 1) := by decide +kernel
theorem dX5_balance_23 : decode cX5_balance 23 = .ok (.ireturn, 1) := by decide +kernel
theorem dX5_balance_24 : decode cX5_balance 24 = .ok (.aload_n 0, 1) := by decide +kernel
theorem dX5_balance_25 : decode cX5_balance 25 = .ok (.getfield 23, 3) := by decide +kernel
theorem dX5_balance_28 : decode cX5_balance 28 = .ok (.iload_n 1, 1) := by decide +kernel
theorem dX5_balance_29 : decode cX5_balance 29 = .ok (.iconst 0, 1) := by decide +kernel
theorem dX5_balance_30 : decode cX5_balance 30 = .ok (.iload_n 2, 1) := by decide +kernel
theorem dX5_balance_31 : decode cX5_balance 31 = .ok (.iconst 1, 1) := by decide +kernel
theorem dX5_balance_32 : decode cX5_balance 32 = .ok (.invokevirtual 105, 3) := by decide +kernel
theorem dX5_balance_35 : decode cX5_balance 35 = .ok (.ireturn, 1) := by decide +kernel
theorem dX5_statement_0 : decode cX5_statement 0 = .ok (.iload_n 1, 1) := by decide +kernel
theorem dX5_statement_1 : decode cX5_statement 1 = .ok (.invokestatic 45, 3) := by decide +kernel
theorem dX5_statement_4 : decode cX5_statement 4 = .ok (.ifCond .eq 18, 3) := by decide +kernel
theorem dX5_statement_7 : decode cX5_statement 7 = .ok (.aload_n 0, 1) := by decide +kernel
theorem dX5_statement_8 : decode cX5_statement 8 = .ok (.getfield 23, 3) := by decide +kernel
theorem dX5_statement_11 : decode cX5_statement 11 = .ok (.iload_n 1, 1) := by decide +kernel
theorem dX5_statement_12 : decode cX5_statement 12 = .ok (.iload_n 2, 1) := by decide +kernel
theorem dX5_statement_13 : decode cX5_statement 13 = .ok (.iload_n 3, 1) := by decide +kernel
theorem dX5_statement_14 : decode cX5_statement 14 = .ok (.iload 4, 2) := by decide +kernel
theorem dX5_statement_16 : decode cX5_statement 16 = .ok (.invokevirtual 105, 3) := by decide +kernel
theorem dX5_statement_19 : decode cX5_statement 19 = .ok (.goto 4, 3) := by decide +kernel
theorem dX5_statement_22 : decode cX5_statement 22 = .ok (.iconst 0, 1) := by decide +kernel
theorem dX5_statement_23 : decode cX5_statement 23 = .ok (.ireturn, 1) := by decide +kernel
theorem dX5_find_0 : decode cX5_find 0 = .ok (.aload_n 0, 1) := by decide +kernel
theorem dX5_find_1 : decode cX5_find 1 = .ok (.getfield 23, 3) := by decide +kernel
theorem dX5_find_4 : decode cX5_find 4 = .ok (.iload_n 1, 1) := by decide +kernel
theorem dX5_find_5 : decode cX5_find 5 = .ok (.invokevirtual 64, 3) := by decide +kernel
theorem dX5_find_8 : decode cX5_find 8 = .ok (.ireturn, 1) := by decide +kernel
theorem dX2_leafOf_0 : decode cX2_leafOf 0 = .ok (.iload_n 1, 1) := by decide +kernel
theorem dX2_leafOf_1 : decode cX2_leafOf 1 = .ok (.ifCond .lt 20, 3) := by decide +kernel
theorem dX2_leafOf_4 : decode cX2_leafOf 4 = .ok (.iload_n 1, 1) := by decide +kernel
theorem dX2_leafOf_5 : decode cX2_leafOf 5 = .ok (.aload_n 0, 1) := by decide +kernel
theorem dX2_leafOf_6 : decode cX2_leafOf 6 = .ok (.getfield 21, 3) := by decide +kernel
theorem dX2_leafOf_9 : decode cX2_leafOf 9 = .ok (.if_icmp .ge 12, 3) := by decide +kernel
theorem dX2_leafOf_12 : decode cX2_leafOf 12 = .ok (.aload_n 0, 1) := by decide +kernel
theorem dX2_leafOf_13 : decode cX2_leafOf 13 = .ok (.getfield 18, 3) := by decide +kernel
theorem dX2_leafOf_16 : decode cX2_leafOf 16 = .ok (.iload_n 1, 1) := by decide +kernel
theorem dX2_leafOf_17 : decode cX2_leafOf 17 = .ok (.iaload, 1) := by decide +kernel
theorem dX2_leafOf_18 : decode cX2_leafOf 18 = .ok (.goto 4, 3) := by decide +kernel
theorem dX2_leafOf_21 : decode cX2_leafOf 21 = .ok (.iconst 0, 1) := by decide +kernel
theorem dX2_leafOf_22 : decode cX2_leafOf 22 = .ok (.ireturn, 1) := by decide +kernel
theorem dX5_leaf_0 : decode cX5_leaf 0 = .ok (.aload_n 0, 1) := by decide +kernel
theorem dX5_leaf_1 : decode cX5_leaf 1 = .ok (.getfield 23, 3) := by decide +kernel
theorem dX5_leaf_4 : decode cX5_leaf 4 = .ok (.iload_n 1, 1) := by decide +kernel
theorem dX5_leaf_5 : decode cX5_leaf 5 = .ok (.invokevirtual 109, 3) := by decide +kernel
theorem dX5_leaf_8 : decode cX5_leaf 8 = .ok (.ireturn, 1) := by decide +kernel
theorem dX5_split_0 : decode cX5_split 0 = .ok (.iconst 1, 1) := by decide +kernel
theorem dX5_split_1 : decode cX5_split 1 = .ok (.istore_n 1, 1) := by decide +kernel
theorem dX5_split_2 : decode cX5_split 2 = .ok (.iconst 0, 1) := by decide +kernel
theorem dX5_split_3 : decode cX5_split 3 = .ok (.istore_n 2, 1) := by decide +kernel
theorem dX5_split_4 : decode cX5_split 4 = .ok (.iload_n 2, 1) := by decide +kernel
theorem dX5_split_5 : decode cX5_split 5 = .ok (.bipush 10, 2) := by decide +kernel
theorem dX5_split_7 : decode cX5_split 7 = .ok (.if_icmp .ge 20, 3) := by decide +kernel
theorem dX5_split_10 : decode cX5_split 10 = .ok (.iconst 2, 1) := by decide +kernel
theorem dX5_split_11 : decode cX5_split 11 = .ok (.iload_n 1, 1) := by decide +kernel
theorem dX5_split_12 : decode cX5_split 12 = .ok (.imul, 1) := by decide +kernel
theorem dX5_split_13 : decode cX5_split 13 = .ok (.iload_n 0, 1) := by decide +kernel
theorem dX5_split_14 : decode cX5_split 14 = .ok (.if_icmp .ge 13, 3) := by decide +kernel
theorem dX5_split_17 : decode cX5_split 17 = .ok (.iconst 2, 1) := by decide +kernel
theorem dX5_split_18 : decode cX5_split 18 = .ok (.iload_n 1, 1) := by decide +kernel
theorem dX5_split_19 : decode cX5_split 19 = .ok (.imul, 1) := by decide +kernel
theorem dX5_split_20 : decode cX5_split 20 = .ok (.istore_n 1, 1) := by decide +kernel
theorem dX5_split_21 : decode cX5_split 21 = .ok (.iinc 2 1, 3) := by decide +kernel
theorem dX5_split_24 : decode cX5_split 24 = .ok (.goto (-20), 3) := by decide +kernel
theorem dX5_split_27 : decode cX5_split 27 = .ok (.iload_n 1, 1) := by decide +kernel
theorem dX5_split_28 : decode cX5_split 28 = .ok (.ireturn, 1) := by decide +kernel
theorem dX5_node_0 : decode cX5_node 0 = .ok (.iconst 1, 1) := by decide +kernel
theorem dX5_node_1 : decode cX5_node 1 = .ok (.iload_n 0, 1) := by decide +kernel
theorem dX5_node_2 : decode cX5_node 2 = .ok (.invokestatic 174, 3) := by decide +kernel
theorem dX5_node_5 : decode cX5_node 5 = .ok (.iload_n 1, 1) := by decide +kernel
theorem dX5_node_6 : decode cX5_node 6 = .ok (.invokestatic 174, 3) := by decide +kernel
theorem dX5_node_9 : decode cX5_node 9 = .ok (.ireturn, 1) := by decide +kernel
theorem dX4_hash_0 : decode cX4_hash 0 = .ok (.iload_n 2, 1) := by decide +kernel
theorem dX4_hash_1 : decode cX4_hash 1 = .ok (.iconst 1, 1) := by decide +kernel
theorem dX4_hash_2 : decode cX4_hash 2 = .ok (.if_icmp .le 7, 3) := by decide +kernel
theorem dX4_hash_5 : decode cX4_hash 5 = .ok (.iload_n 3, 1) := by decide +kernel
theorem dX4_hash_6 : decode cX4_hash 6 = .ok (.ifCond .gt 9, 3) := by decide +kernel
theorem dX4_hash_9 : decode cX4_hash 9 = .ok (.aload_n 0, 1) := by decide +kernel
theorem dX4_hash_10 : decode cX4_hash 10 = .ok (.iload_n 1, 1) := by decide +kernel
theorem dX4_hash_11 : decode cX4_hash 11 = .ok (.invokevirtual 27, 3) := by decide +kernel
theorem dX4_hash_14 : decode cX4_hash 14 = .ok (.ireturn, 1) := by decide +kernel
theorem dX4_hash_15 : decode cX4_hash 15 = .ok (.iload_n 2, 1) := by decide +kernel
theorem dX4_hash_16 : decode cX4_hash 16 = .ok (.invokestatic 33, 3) := by decide +kernel
theorem dX4_hash_19 : decode cX4_hash 19 = .ok (.istore 4, 2) := by decide +kernel
theorem dX4_hash_21 : decode cX4_hash 21 = .ok (.aload_n 0, 1) := by decide +kernel
theorem dX4_hash_22 : decode cX4_hash 22 = .ok (.iload_n 1, 1) := by decide +kernel
theorem dX4_hash_23 : decode cX4_hash 23 = .ok (.iload 4, 2) := by decide +kernel
theorem dX4_hash_25 : decode cX4_hash 25 = .ok (.iload_n 3, 1) := by decide +kernel
theorem dX4_hash_26 : decode cX4_hash 26 = .ok (.iconst 1, 1) := by decide +kernel
theorem dX4_hash_27 : decode cX4_hash 27 = .ok (.isub, 1) := by decide +kernel
theorem dX4_hash_28 : decode cX4_hash 28 = .ok (.invokestatic 13, 3) := by decide +kernel
theorem dX4_hash_31 : decode cX4_hash 31 = .ok (.aload_n 0, 1) := by decide +kernel
theorem dX4_hash_32 : decode cX4_hash 32 = .ok (.iload_n 1, 1) := by decide +kernel
theorem dX4_hash_33 : decode cX4_hash 33 = .ok (.iload 4, 2) := by decide +kernel
theorem dX4_hash_35 : decode cX4_hash 35 = .ok (.iadd, 1) := by decide +kernel
theorem dX4_hash_36 : decode cX4_hash 36 = .ok (.iload_n 2, 1) := by decide +kernel
theorem dX4_hash_37 : decode cX4_hash 37 = .ok (.iload 4, 2) := by decide +kernel
theorem dX4_hash_39 : decode cX4_hash 39 = .ok (.isub, 1) := by decide +kernel
theorem dX4_hash_40 : decode cX4_hash 40 = .ok (.iload_n 3, 1) := by decide +kernel
theorem dX4_hash_41 : decode cX4_hash 41 = .ok (.iconst 1, 1) := by decide +kernel
theorem dX4_hash_42 : decode cX4_hash 42 = .ok (.isub, 1) := by decide +kernel
theorem dX4_hash_43 : decode cX4_hash 43 = .ok (.invokestatic 13, 3) := by decide +kernel
theorem dX4_hash_46 : decode cX4_hash 46 = .ok (.invokestatic 36, 3) := by decide +kernel
theorem dX4_hash_49 : decode cX4_hash 49 = .ok (.ireturn, 1) := by decide +kernel
theorem dX4_headOf_0 : decode cX4_headOf 0 = .ok (.iload_n 1, 1) := by decide +kernel
theorem dX4_headOf_1 : decode cX4_headOf 1 = .ok (.ifCond .ne 11, 3) := by decide +kernel
theorem dX4_headOf_4 : decode cX4_headOf 4 = .ok (.iconst 2, 1) := by decide +kernel
theorem dX4_headOf_5 : decode cX4_headOf 5 = .ok (.iconst 0, 1) := by decide +kernel
theorem dX4_headOf_6 : decode cX4_headOf 6 = .ok (.invokestatic 9, 3) := by decide +kernel
theorem dX4_headOf_9 : decode cX4_headOf 9 = .ok (.goto 11, 3) := by decide +kernel
theorem dX4_headOf_12 : decode cX4_headOf 12 = .ok (.aload_n 0, 1) := by decide +kernel
theorem dX4_headOf_13 : decode cX4_headOf 13 = .ok (.iconst 0, 1) := by decide +kernel
theorem dX4_headOf_14 : decode cX4_headOf 14 = .ok (.iload_n 1, 1) := by decide +kernel
theorem dX4_headOf_15 : decode cX4_headOf 15 = .ok (.bipush 10, 2) := by decide +kernel
theorem dX4_headOf_17 : decode cX4_headOf 17 = .ok (.invokestatic 13, 3) := by decide +kernel
theorem dX4_headOf_20 : decode cX4_headOf 20 = .ok (.ireturn, 1) := by decide +kernel
theorem dX5_head_0 : decode cX5_head 0 = .ok (.iload_n 1, 1) := by decide +kernel
theorem dX5_head_1 : decode cX5_head 1 = .ok (.ifCond .lt 14, 3) := by decide +kernel
theorem dX5_head_4 : decode cX5_head 4 = .ok (.iload_n 1, 1) := by decide +kernel
theorem dX5_head_5 : decode cX5_head 5 = .ok (.aload_n 0, 1) := by decide +kernel
theorem dX5_head_6 : decode cX5_head 6 = .ok (.getfield 23, 3) := by decide +kernel
theorem dX5_head_9 : decode cX5_head 9 = .ok (.invokevirtual 102, 3) := by decide +kernel
theorem dX5_head_12 : decode cX5_head 12 = .ok (.if_icmp .le 7, 3) := by decide +kernel
theorem dX5_head_15 : decode cX5_head 15 = .ok (.iconst 0, 1) := by decide +kernel
theorem dX5_head_16 : decode cX5_head 16 = .ok (.goto 11, 3) := by decide +kernel
theorem dX5_head_19 : decode cX5_head 19 = .ok (.aload_n 0, 1) := by decide +kernel
theorem dX5_head_20 : decode cX5_head 20 = .ok (.getfield 23, 3) := by decide +kernel
theorem dX5_head_23 : decode cX5_head 23 = .ok (.iload_n 1, 1) := by decide +kernel
theorem dX5_head_24 : decode cX5_head 24 = .ok (.invokestatic 112, 3) := by decide +kernel
theorem dX5_head_27 : decode cX5_head 27 = .ok (.ireturn, 1) := by decide +kernel
theorem dX3_clear_0 : decode cX3_clear 0 = .ok (.aload_n 0, 1) := by decide +kernel
theorem dX3_clear_1 : decode cX3_clear 1 = .ok (.iconst 0, 1) := by decide +kernel
theorem dX3_clear_2 : decode cX3_clear 2 = .ok (.putfield 15, 3) := by decide +kernel
theorem dX3_clear_5 : decode cX3_clear 5 = .ok (.return_, 1) := by decide +kernel
theorem dX3_add_0 : decode cX3_add 0 = .ok (.aload_n 0, 1) := by decide +kernel
theorem dX3_add_1 : decode cX3_add 1 = .ok (.getfield 15, 3) := by decide +kernel
theorem dX3_add_4 : decode cX3_add 4 = .ok (.bipush 16, 2) := by decide +kernel
theorem dX3_add_6 : decode cX3_add 6 = .ok (.if_icmp .lt 5, 3) := by decide +kernel
theorem dX3_add_9 : decode cX3_add 9 = .ok (.iconst 0, 1) := by decide +kernel
theorem dX3_add_10 : decode cX3_add 10 = .ok (.ireturn, 1) := by decide +kernel
theorem dX3_add_11 : decode cX3_add 11 = .ok (.aload_n 0, 1) := by decide +kernel
theorem dX3_add_12 : decode cX3_add 12 = .ok (.getfield 9, 3) := by decide +kernel
theorem dX3_add_15 : decode cX3_add 15 = .ok (.aload_n 0, 1) := by decide +kernel
theorem dX3_add_16 : decode cX3_add 16 = .ok (.getfield 15, 3) := by decide +kernel
theorem dX3_add_19 : decode cX3_add 19 = .ok (.iload_n 1, 1) := by decide +kernel
theorem dX3_add_20 : decode cX3_add 20 = .ok (.iastore, 1) := by decide +kernel
theorem dX3_add_21 : decode cX3_add 21 = .ok (.aload_n 0, 1) := by decide +kernel
theorem dX3_add_22 : decode cX3_add 22 = .ok (.dup, 1) := by decide +kernel
theorem dX3_add_23 : decode cX3_add 23 = .ok (.getfield 15, 3) := by decide +kernel
theorem dX3_add_26 : decode cX3_add 26 = .ok (.iconst 1, 1) := by decide +kernel
theorem dX3_add_27 : decode cX3_add 27 = .ok (.iadd, 1) := by decide +kernel
theorem dX3_add_28 : decode cX3_add 28 = .ok (.putfield 15, 3) := by decide +kernel
theorem dX3_add_31 : decode cX3_add 31 = .ok (.iconst 1, 1) := by decide +kernel
theorem dX3_add_32 : decode cX3_add 32 = .ok (.ireturn, 1) := by decide +kernel
theorem dX4_inclusion_0 : decode cX4_inclusion 0 = .ok (.iload 4, 2) := by decide +kernel
theorem dX4_inclusion_2 : decode cX4_inclusion 2 = .ok (.iconst 1, 1) := by decide +kernel
theorem dX4_inclusion_3 : decode cX4_inclusion 3 = .ok (.if_icmp .le 8, 3) := by decide +kernel
theorem dX4_inclusion_6 : decode cX4_inclusion 6 = .ok (.iload 5, 2) := by decide +kernel
theorem dX4_inclusion_8 : decode cX4_inclusion 8 = .ok (.ifCond .gt 4, 3) := by decide +kernel
theorem dX4_inclusion_11 : decode cX4_inclusion 11 = .ok (.return_, 1) := by decide +kernel
theorem dX4_inclusion_12 : decode cX4_inclusion 12 = .ok (.iload 4, 2) := by decide +kernel
theorem dX4_inclusion_14 : decode cX4_inclusion 14 = .ok (.invokestatic 33, 3) := by decide +kernel
theorem dX4_inclusion_17 : decode cX4_inclusion 17 = .ok (.istore 6, 2) := by decide +kernel
theorem dX4_inclusion_19 : decode cX4_inclusion 19 = .ok (.iload_n 2, 1) := by decide +kernel
theorem dX4_inclusion_20 : decode cX4_inclusion 20 = .ok (.iload 6, 2) := by decide +kernel
theorem dX4_inclusion_22 : decode cX4_inclusion 22 = .ok (.if_icmp .ge 41, 3) := by decide +kernel
theorem dX4_inclusion_25 : decode cX4_inclusion 25 = .ok (.aload_n 0, 1) := by decide +kernel
theorem dX4_inclusion_26 : decode cX4_inclusion 26 = .ok (.aload_n 1, 1) := by decide +kernel
theorem dX4_inclusion_27 : decode cX4_inclusion 27 = .ok (.iload_n 2, 1) := by decide +kernel
theorem dX4_inclusion_28 : decode cX4_inclusion 28 = .ok (.iload_n 3, 1) := by decide +kernel
theorem dX4_inclusion_29 : decode cX4_inclusion 29 = .ok (.iload 6, 2) := by decide +kernel
theorem dX4_inclusion_31 : decode cX4_inclusion 31 = .ok (.iload 5, 2) := by decide +kernel
theorem dX4_inclusion_33 : decode cX4_inclusion 33 = .ok (.iconst 1, 1) := by decide +kernel
theorem dX4_inclusion_34 : decode cX4_inclusion 34 = .ok (.isub, 1) := by decide +kernel
theorem dX4_inclusion_35 : decode cX4_inclusion 35 = .ok (.invokestatic 19, 3) := by decide +kernel
theorem dX4_inclusion_38 : decode cX4_inclusion 38 = .ok (.aload_n 1, 1) := by decide +kernel
theorem dX4_inclusion_39 : decode cX4_inclusion 39 = .ok (.aload_n 0, 1) := by decide +kernel
theorem dX4_inclusion_40 : decode cX4_inclusion 40 = .ok (.iload_n 3, 1) := by decide +kernel
theorem dX4_inclusion_41 : decode cX4_inclusion 41 = .ok (.iload 6, 2) := by decide +kernel
theorem dX4_inclusion_43 : decode cX4_inclusion 43 = .ok (.iadd, 1) := by decide +kernel
theorem dX4_inclusion_44 : decode cX4_inclusion 44 = .ok (.iload 4, 2) := by decide +kernel
theorem dX4_inclusion_46 : decode cX4_inclusion 46 = .ok (.iload 6, 2) := by decide +kernel
theorem dX4_inclusion_48 : decode cX4_inclusion 48 = .ok (.isub, 1) := by decide +kernel
theorem dX4_inclusion_49 : decode cX4_inclusion 49 = .ok (.iload 5, 2) := by decide +kernel
theorem dX4_inclusion_51 : decode cX4_inclusion 51 = .ok (.iconst 1, 1) := by decide +kernel
theorem dX4_inclusion_52 : decode cX4_inclusion 52 = .ok (.isub, 1) := by decide +kernel
theorem dX4_inclusion_53 : decode cX4_inclusion 53 = .ok (.invokestatic 13, 3) := by decide +kernel
theorem dX4_inclusion_56 : decode cX4_inclusion 56 = .ok (.invokevirtual 39, 3) := by decide +kernel
theorem dX4_inclusion_59 : decode cX4_inclusion 59 = .ok (.pop, 1) := by decide +kernel
theorem dX4_inclusion_60 : decode cX4_inclusion 60 = .ok (.goto 41, 3) := by decide +kernel
theorem dX4_inclusion_63 : decode cX4_inclusion 63 = .ok (.aload_n 0, 1) := by decide +kernel
theorem dX4_inclusion_64 : decode cX4_inclusion 64 = .ok (.aload_n 1, 1) := by decide +kernel
theorem dX4_inclusion_65 : decode cX4_inclusion 65 = .ok (.iload_n 2, 1) := by decide +kernel
theorem dX4_inclusion_66 : decode cX4_inclusion 66 = .ok (.iload 6, 2) := by decide +kernel
theorem dX4_inclusion_68 : decode cX4_inclusion 68 = .ok (.isub, 1) := by decide +kernel
theorem dX4_inclusion_69 : decode cX4_inclusion 69 = .ok (.iload_n 3, 1) := by decide +kernel
theorem dX4_inclusion_70 : decode cX4_inclusion 70 = .ok (.iload 6, 2) := by decide +kernel
theorem dX4_inclusion_72 : decode cX4_inclusion 72 = .ok (.iadd, 1) := by decide +kernel
theorem dX4_inclusion_73 : decode cX4_inclusion 73 = .ok (.iload 4, 2) := by decide +kernel
theorem dX4_inclusion_75 : decode cX4_inclusion 75 = .ok (.iload 6, 2) := by decide +kernel
theorem dX4_inclusion_77 : decode cX4_inclusion 77 = .ok (.isub, 1) := by decide +kernel
theorem dX4_inclusion_78 : decode cX4_inclusion 78 = .ok (.iload 5, 2) := by decide +kernel
theorem dX4_inclusion_80 : decode cX4_inclusion 80 = .ok (.iconst 1, 1) := by decide +kernel
theorem dX4_inclusion_81 : decode cX4_inclusion 81 = .ok (.isub, 1) := by decide +kernel
theorem dX4_inclusion_82 : decode cX4_inclusion 82 = .ok (.invokestatic 19, 3) := by decide +kernel
theorem dX4_inclusion_85 : decode cX4_inclusion 85 = .ok (.aload_n 1, 1) := by decide +kernel
theorem dX4_inclusion_86 : decode cX4_inclusion 86 = .ok (.aload_n 0, 1) := by decide +kernel
theorem dX4_inclusion_87 : decode cX4_inclusion 87 = .ok (.iload_n 3, 1) := by decide +kernel
theorem dX4_inclusion_88 : decode cX4_inclusion 88 = .ok (.iload 6, 2) := by decide +kernel
theorem dX4_inclusion_90 : decode cX4_inclusion 90 = .ok (.iload 5, 2) := by decide +kernel
theorem dX4_inclusion_92 : decode cX4_inclusion 92 = .ok (.iconst 1, 1) := by decide +kernel
theorem dX4_inclusion_93 : decode cX4_inclusion 93 = .ok (.isub, 1) := by decide +kernel
theorem dX4_inclusion_94 : decode cX4_inclusion 94 = .ok (.invokestatic 13, 3) := by decide +kernel
theorem dX4_inclusion_97 : decode cX4_inclusion 97 = .ok (.invokevirtual 39, 3) := by decide +kernel
theorem dX4_inclusion_100 : decode cX4_inclusion 100 = .ok (.pop, 1) := by decide +kernel
theorem dX4_inclusion_101 : decode cX4_inclusion 101 = .ok (.return_, 1) := by decide +kernel
theorem dX4_addInclusion_0 : decode cX4_addInclusion 0 = .ok (.aload_n 0, 1) := by decide +kernel
theorem dX4_addInclusion_1 : decode cX4_addInclusion 1 = .ok (.aload_n 1, 1) := by decide +kernel
theorem dX4_addInclusion_2 : decode cX4_addInclusion 2 = .ok (.iload_n 2, 1) := by decide +kernel
theorem dX4_addInclusion_3 : decode cX4_addInclusion 3 = .ok (.iconst 0, 1) := by decide +kernel
theorem dX4_addInclusion_4 : decode cX4_addInclusion 4 = .ok (.iload_n 3, 1) := by decide +kernel
theorem dX4_addInclusion_5 : decode cX4_addInclusion 5 = .ok (.bipush 10, 2) := by decide +kernel
theorem dX4_addInclusion_7 : decode cX4_addInclusion 7 = .ok (.invokestatic 19, 3) := by decide +kernel
theorem dX4_addInclusion_10 : decode cX4_addInclusion 10 = .ok (.return_, 1) := by decide +kernel
theorem dX3_length_0 : decode cX3_length 0 = .ok (.aload_n 0, 1) := by decide +kernel
theorem dX3_length_1 : decode cX3_length 1 = .ok (.getfield 15, 3) := by decide +kernel
theorem dX3_length_4 : decode cX3_length 4 = .ok (.ireturn, 1) := by decide +kernel
theorem dX5_prove_0 : decode cX5_prove 0 = .ok (.iload_n 2, 1) := by decide +kernel
theorem dX5_prove_1 : decode cX5_prove 1 = .ok (.aload_n 0, 1) := by decide +kernel
theorem dX5_prove_2 : decode cX5_prove 2 = .ok (.getfield 23, 3) := by decide +kernel
theorem dX5_prove_5 : decode cX5_prove 5 = .ok (.invokevirtual 102, 3) := by decide +kernel
theorem dX5_prove_8 : decode cX5_prove 8 = .ok (.if_icmp .gt 12, 3) := by decide +kernel
theorem dX5_prove_11 : decode cX5_prove 11 = .ok (.iload_n 1, 1) := by decide +kernel
theorem dX5_prove_12 : decode cX5_prove 12 = .ok (.ifCond .lt 8, 3) := by decide +kernel
theorem dX5_prove_15 : decode cX5_prove 15 = .ok (.iload_n 1, 1) := by decide +kernel
theorem dX5_prove_16 : decode cX5_prove 16 = .ok (.iload_n 2, 1) := by decide +kernel
theorem dX5_prove_17 : decode cX5_prove 17 = .ok (.if_icmp .lt 5, 3) := by decide +kernel
theorem dX5_prove_20 : decode cX5_prove 20 = .ok (.iconst (-1), 1) := by decide +kernel
theorem dX5_prove_21 : decode cX5_prove 21 = .ok (.ireturn, 1) := by decide +kernel
theorem dX5_prove_22 : decode cX5_prove 22 = .ok (.aload_n 0, 1) := by decide +kernel
theorem dX5_prove_23 : decode cX5_prove 23 = .ok (.getfield 37, 3) := by decide +kernel
theorem dX5_prove_26 : decode cX5_prove 26 = .ok (.invokevirtual 118, 3) := by decide +kernel
theorem dX5_prove_29 : decode cX5_prove 29 = .ok (.aload_n 0, 1) := by decide +kernel
theorem dX5_prove_30 : decode cX5_prove 30 = .ok (.getfield 23, 3) := by decide +kernel
theorem dX5_prove_33 : decode cX5_prove 33 = .ok (.aload_n 0, 1) := by decide +kernel
theorem dX5_prove_34 : decode cX5_prove 34 = .ok (.getfield 37, 3) := by decide +kernel
theorem dX5_prove_37 : decode cX5_prove 37 = .ok (.iload_n 1, 1) := by decide +kernel
theorem dX5_prove_38 : decode cX5_prove 38 = .ok (.iload_n 2, 1) := by decide +kernel
theorem dX5_prove_39 : decode cX5_prove 39 = .ok (.invokestatic 119, 3) := by decide +kernel
theorem dX5_prove_42 : decode cX5_prove 42 = .ok (.aload_n 0, 1) := by decide +kernel
theorem dX5_prove_43 : decode cX5_prove 43 = .ok (.getfield 37, 3) := by decide +kernel
theorem dX5_prove_46 : decode cX5_prove 46 = .ok (.invokevirtual 123, 3) := by decide +kernel
theorem dX5_prove_49 : decode cX5_prove 49 = .ok (.ireturn, 1) := by decide +kernel
theorem dX4_consistency_0 : decode cX4_consistency 0 = .ok (.iload_n 2, 1) := by decide +kernel
theorem dX4_consistency_1 : decode cX4_consistency 1 = .ok (.iload 4, 2) := by decide +kernel
theorem dX4_consistency_3 : decode cX4_consistency 3 = .ok (.if_icmp .eq 8, 3) := by decide +kernel
theorem dX4_consistency_6 : decode cX4_consistency 6 = .ok (.iload 6, 2) := by decide +kernel
theorem dX4_consistency_8 : decode cX4_consistency 8 = .ok (.ifCond .gt 23, 3) := by decide +kernel
theorem dX4_consistency_11 : decode cX4_consistency 11 = .ok (.iload 5, 2) := by decide +kernel
theorem dX4_consistency_13 : decode cX4_consistency 13 = .ok (.ifCond .ne 17, 3) := by decide +kernel
theorem dX4_consistency_16 : decode cX4_consistency 16 = .ok (.aload_n 1, 1) := by decide +kernel
theorem dX4_consistency_17 : decode cX4_consistency 17 = .ok (.aload_n 0, 1) := by decide +kernel
theorem dX4_consistency_18 : decode cX4_consistency 18 = .ok (.iload_n 3, 1) := by decide +kernel
theorem dX4_consistency_19 : decode cX4_consistency 19 = .ok (.iload 4, 2) := by decide +kernel
theorem dX4_consistency_21 : decode cX4_consistency 21 = .ok (.iload 6, 2) := by decide +kernel
theorem dX4_consistency_23 : decode cX4_consistency 23 = .ok (.invokestatic 13, 3) := by decide +kernel
theorem dX4_consistency_26 : decode cX4_consistency 26 = .ok (.invokevirtual 39, 3) := by decide +kernel
theorem dX4_consistency_29 : decode cX4_consistency 29 = .ok (.pop, 1) := by decide +kernel
theorem dX4_consistency_30 : decode cX4_consistency 30 = .ok (.return_, 1) := by decide +kernel
theorem dX4_consistency_31 : decode cX4_consistency 31 = .ok (.iload 4, 2) := by decide +kernel
theorem dX4_consistency_33 : decode cX4_consistency 33 = .ok (.invokestatic 33, 3) := by decide +kernel
theorem dX4_consistency_36 : decode cX4_consistency 36 = .ok (.istore 7, 2) := by decide +kernel
theorem dX4_consistency_38 : decode cX4_consistency 38 = .ok (.iload_n 2, 1) := by decide +kernel
theorem dX4_consistency_39 : decode cX4_consistency 39 = .ok (.iload 7, 2) := by decide +kernel
theorem dX4_consistency_41 : decode cX4_consistency 41 = .ok (.if_icmp .gt 43, 3) := by decide +kernel
theorem dX4_consistency_44 : decode cX4_consistency 44 = .ok (.aload_n 0, 1) := by decide +kernel
theorem dX4_consistency_45 : decode cX4_consistency 45 = .ok (.aload_n 1, 1) := by decide +kernel
theorem dX4_consistency_46 : decode cX4_consistency 46 = .ok (.iload_n 2, 1) := by decide +kernel
theorem dX4_consistency_47 : decode cX4_consistency 47 = .ok (.iload_n 3, 1) := by decide +kernel
theorem dX4_consistency_48 : decode cX4_consistency 48 = .ok (.iload 7, 2) := by decide +kernel
theorem dX4_consistency_50 : decode cX4_consistency 50 = .ok (.iload 5, 2) := by decide +kernel
theorem dX4_consistency_52 : decode cX4_consistency 52 = .ok (.iload 6, 2) := by decide +kernel
theorem dX4_consistency_54 : decode cX4_consistency 54 = .ok (.iconst 1, 1) := by decide +kernel
theorem dX4_consistency_55 : decode cX4_consistency 55 = .ok (.isub, 1) := by decide +kernel
theorem dX4_consistency_56 : decode cX4_consistency 56 = .ok (.invokestatic 23, 3) := by decide +kernel
theorem dX4_consistency_59 : decode cX4_consistency 59 = .ok (.aload_n 1, 1) := by decide +kernel
theorem dX4_consistency_60 : decode cX4_consistency 60 = .ok (.aload_n 0, 1) := by decide +kernel
theorem dX4_consistency_61 : decode cX4_consistency 61 = .ok (.iload_n 3, 1) := by decide +kernel
theorem dX4_consistency_62 : decode cX4_consistency 62 = .ok (.iload 7, 2) := by decide +kernel
theorem dX4_consistency_64 : decode cX4_consistency 64 = .ok (.iadd, 1) := by decide +kernel
theorem dX4_consistency_65 : decode cX4_consistency 65 = .ok (.iload 4, 2) := by decide +kernel
theorem dX4_consistency_67 : decode cX4_consistency 67 = .ok (.iload 7, 2) := by decide +kernel
theorem dX4_consistency_69 : decode cX4_consistency 69 = .ok (.isub, 1) := by decide +kernel
theorem dX4_consistency_70 : decode cX4_consistency 70 = .ok (.iload 6, 2) := by decide +kernel
theorem dX4_consistency_72 : decode cX4_consistency 72 = .ok (.iconst 1, 1) := by decide +kernel
theorem dX4_consistency_73 : decode cX4_consistency 73 = .ok (.isub, 1) := by decide +kernel
theorem dX4_consistency_74 : decode cX4_consistency 74 = .ok (.invokestatic 13, 3) := by decide +kernel
theorem dX4_consistency_77 : decode cX4_consistency 77 = .ok (.invokevirtual 39, 3) := by decide +kernel
theorem dX4_consistency_80 : decode cX4_consistency 80 = .ok (.pop, 1) := by decide +kernel
theorem dX4_consistency_81 : decode cX4_consistency 81 = .ok (.goto 42, 3) := by decide +kernel
theorem dX4_consistency_84 : decode cX4_consistency 84 = .ok (.aload_n 0, 1) := by decide +kernel
theorem dX4_consistency_85 : decode cX4_consistency 85 = .ok (.aload_n 1, 1) := by decide +kernel
theorem dX4_consistency_86 : decode cX4_consistency 86 = .ok (.iload_n 2, 1) := by decide +kernel
theorem dX4_consistency_87 : decode cX4_consistency 87 = .ok (.iload 7, 2) := by decide +kernel
theorem dX4_consistency_89 : decode cX4_consistency 89 = .ok (.isub, 1) := by decide +kernel
theorem dX4_consistency_90 : decode cX4_consistency 90 = .ok (.iload_n 3, 1) := by decide +kernel
theorem dX4_consistency_91 : decode cX4_consistency 91 = .ok (.iload 7, 2) := by decide +kernel
theorem dX4_consistency_93 : decode cX4_consistency 93 = .ok (.iadd, 1) := by decide +kernel
theorem dX4_consistency_94 : decode cX4_consistency 94 = .ok (.iload 4, 2) := by decide +kernel
theorem dX4_consistency_96 : decode cX4_consistency 96 = .ok (.iload 7, 2) := by decide +kernel
theorem dX4_consistency_98 : decode cX4_consistency 98 = .ok (.isub, 1) := by decide +kernel
theorem dX4_consistency_99 : decode cX4_consistency 99 = .ok (.iconst 0, 1) := by decide +kernel
theorem dX4_consistency_100 : decode cX4_consistency 100 = .ok (.iload 6, 2) := by decide +kernel
theorem dX4_consistency_102 : decode cX4_consistency 102 = .ok (.iconst 1, 1) := by decide +kernel
theorem dX4_consistency_103 : decode cX4_consistency 103 = .ok (.isub, 1) := by decide +kernel
theorem dX4_consistency_104 : decode cX4_consistency 104 = .ok (.invokestatic 23, 3) := by decide +kernel
theorem dX4_consistency_107 : decode cX4_consistency 107 = .ok (.aload_n 1, 1) := by decide +kernel
theorem dX4_consistency_108 : decode cX4_consistency 108 = .ok (.aload_n 0, 1) := by decide +kernel
theorem dX4_consistency_109 : decode cX4_consistency 109 = .ok (.iload_n 3, 1) := by decide +kernel
theorem dX4_consistency_110 : decode cX4_consistency 110 = .ok (.iload 7, 2) := by decide +kernel
theorem dX4_consistency_112 : decode cX4_consistency 112 = .ok (.iload 6, 2) := by decide +kernel
theorem dX4_consistency_114 : decode cX4_consistency 114 = .ok (.iconst 1, 1) := by decide +kernel
theorem dX4_consistency_115 : decode cX4_consistency 115 = .ok (.isub, 1) := by decide +kernel
theorem dX4_consistency_116 : decode cX4_consistency 116 = .ok (.invokestatic 13, 3) := by decide +kernel
theorem dX4_consistency_119 : decode cX4_consistency 119 = .ok (.invokevirtual 39, 3) := by decide +kernel
theorem dX4_consistency_122 : decode cX4_consistency 122 = .ok (.pop, 1) := by decide +kernel
theorem dX4_consistency_123 : decode cX4_consistency 123 = .ok (.return_, 1) := by decide +kernel
theorem dX4_addConsistency_0 : decode cX4_addConsistency 0 = .ok (.aload_n 0, 1) := by decide +kernel
theorem dX4_addConsistency_1 : decode cX4_addConsistency 1 = .ok (.aload_n 1, 1) := by decide +kernel
theorem dX4_addConsistency_2 : decode cX4_addConsistency 2 = .ok (.iload_n 2, 1) := by decide +kernel
theorem dX4_addConsistency_3 : decode cX4_addConsistency 3 = .ok (.iconst 0, 1) := by decide +kernel
theorem dX4_addConsistency_4 : decode cX4_addConsistency 4 = .ok (.iload_n 3, 1) := by decide +kernel
theorem dX4_addConsistency_5 : decode cX4_addConsistency 5 = .ok (.iconst 1, 1) := by decide +kernel
theorem dX4_addConsistency_6 : decode cX4_addConsistency 6 = .ok (.bipush 10, 2) := by decide +kernel
theorem dX4_addConsistency_8 : decode cX4_addConsistency 8 = .ok (.invokestatic 23, 3) := by decide +kernel
theorem dX4_addConsistency_11 : decode cX4_addConsistency 11 = .ok (.return_, 1) := by decide +kernel
theorem dX5_extend_0 : decode cX5_extend 0 = .ok (.iload_n 2, 1) := by decide +kernel
theorem dX5_extend_1 : decode cX5_extend 1 = .ok (.aload_n 0, 1) := by decide +kernel
theorem dX5_extend_2 : decode cX5_extend 2 = .ok (.getfield 23, 3) := by decide +kernel
theorem dX5_extend_5 : decode cX5_extend 5 = .ok (.invokevirtual 102, 3) := by decide +kernel
theorem dX5_extend_8 : decode cX5_extend 8 = .ok (.if_icmp .gt 13, 3) := by decide +kernel
theorem dX5_extend_11 : decode cX5_extend 11 = .ok (.iload_n 1, 1) := by decide +kernel
theorem dX5_extend_12 : decode cX5_extend 12 = .ok (.iconst 1, 1) := by decide +kernel
theorem dX5_extend_13 : decode cX5_extend 13 = .ok (.if_icmp .lt 8, 3) := by decide +kernel
theorem dX5_extend_16 : decode cX5_extend 16 = .ok (.iload_n 1, 1) := by decide +kernel
theorem dX5_extend_17 : decode cX5_extend 17 = .ok (.iload_n 2, 1) := by decide +kernel
theorem dX5_extend_18 : decode cX5_extend 18 = .ok (.if_icmp .le 5, 3) := by decide +kernel
theorem dX5_extend_21 : decode cX5_extend 21 = .ok (.iconst (-1), 1) := by decide +kernel
theorem dX5_extend_22 : decode cX5_extend 22 = .ok (.ireturn, 1) := by decide +kernel
theorem dX5_extend_23 : decode cX5_extend 23 = .ok (.aload_n 0, 1) := by decide +kernel
theorem dX5_extend_24 : decode cX5_extend 24 = .ok (.getfield 37, 3) := by decide +kernel
theorem dX5_extend_27 : decode cX5_extend 27 = .ok (.invokevirtual 118, 3) := by decide +kernel
theorem dX5_extend_30 : decode cX5_extend 30 = .ok (.aload_n 0, 1) := by decide +kernel
theorem dX5_extend_31 : decode cX5_extend 31 = .ok (.getfield 23, 3) := by decide +kernel
theorem dX5_extend_34 : decode cX5_extend 34 = .ok (.aload_n 0, 1) := by decide +kernel
theorem dX5_extend_35 : decode cX5_extend 35 = .ok (.getfield 37, 3) := by decide +kernel
theorem dX5_extend_38 : decode cX5_extend 38 = .ok (.iload_n 1, 1) := by decide +kernel
theorem dX5_extend_39 : decode cX5_extend 39 = .ok (.iload_n 2, 1) := by decide +kernel
theorem dX5_extend_40 : decode cX5_extend 40 = .ok (.invokestatic 126, 3) := by decide +kernel
theorem dX5_extend_43 : decode cX5_extend 43 = .ok (.aload_n 0, 1) := by decide +kernel
theorem dX5_extend_44 : decode cX5_extend 44 = .ok (.getfield 37, 3) := by decide +kernel
theorem dX5_extend_47 : decode cX5_extend 47 = .ok (.invokevirtual 123, 3) := by decide +kernel
theorem dX5_extend_50 : decode cX5_extend 50 = .ok (.ireturn, 1) := by decide +kernel
theorem dX5_put_0 : decode cX5_put 0 = .ok (.aload_n 0, 1) := by decide +kernel
theorem dX5_put_1 : decode cX5_put 1 = .ok (.getfield 37, 3) := by decide +kernel
theorem dX5_put_4 : decode cX5_put 4 = .ok (.iload_n 1, 1) := by decide +kernel
theorem dX5_put_5 : decode cX5_put 5 = .ok (.invokevirtual 129, 3) := by decide +kernel
theorem dX5_put_8 : decode cX5_put 8 = .ok (.ireturn, 1) := by decide +kernel
theorem dX3_removeLast_0 : decode cX3_removeLast 0 = .ok (.aload_n 0, 1) := by decide +kernel
theorem dX3_removeLast_1 : decode cX3_removeLast 1 = .ok (.getfield 15, 3) := by decide +kernel
theorem dX3_removeLast_4 : decode cX3_removeLast 4 = .ok (.ifCond .gt 5, 3) := by decide +kernel
theorem dX3_removeLast_7 : decode cX3_removeLast 7 = .ok (.iconst 0, 1) := by decide +kernel
theorem dX3_removeLast_8 : decode cX3_removeLast 8 = .ok (.ireturn, 1) := by decide +kernel
theorem dX3_removeLast_9 : decode cX3_removeLast 9 = .ok (.aload_n 0, 1) := by decide +kernel
theorem dX3_removeLast_10 : decode cX3_removeLast 10 = .ok (.dup, 1) := by decide +kernel
theorem dX3_removeLast_11 : decode cX3_removeLast 11 = .ok (.getfield 15, 3) := by decide +kernel
theorem dX3_removeLast_14 : decode cX3_removeLast 14 = .ok (.iconst 1, 1) := by decide +kernel
theorem dX3_removeLast_15 : decode cX3_removeLast 15 = .ok (.isub, 1) := by decide +kernel
theorem dX3_removeLast_16 : decode cX3_removeLast 16 = .ok (.putfield 15, 3) := by decide +kernel
theorem dX3_removeLast_19 : decode cX3_removeLast 19 = .ok (.iconst 1, 1) := by decide +kernel
theorem dX3_removeLast_20 : decode cX3_removeLast 20 = .ok (.ireturn, 1) := by decide +kernel
theorem dX5_take_0 : decode cX5_take 0 = .ok (.aload_n 0, 1) := by decide +kernel
theorem dX5_take_1 : decode cX5_take 1 = .ok (.getfield 37, 3) := by decide +kernel
theorem dX5_take_4 : decode cX5_take 4 = .ok (.invokevirtual 131, 3) := by decide +kernel
theorem dX5_take_7 : decode cX5_take 7 = .ok (.ireturn, 1) := by decide +kernel
theorem dX3_intAt_0 : decode cX3_intAt 0 = .ok (.iload_n 1, 1) := by decide +kernel
theorem dX3_intAt_1 : decode cX3_intAt 1 = .ok (.ifCond .lt 20, 3) := by decide +kernel
theorem dX3_intAt_4 : decode cX3_intAt 4 = .ok (.iload_n 1, 1) := by decide +kernel
theorem dX3_intAt_5 : decode cX3_intAt 5 = .ok (.aload_n 0, 1) := by decide +kernel
theorem dX3_intAt_6 : decode cX3_intAt 6 = .ok (.getfield 15, 3) := by decide +kernel
theorem dX3_intAt_9 : decode cX3_intAt 9 = .ok (.if_icmp .ge 12, 3) := by decide +kernel
theorem dX3_intAt_12 : decode cX3_intAt 12 = .ok (.aload_n 0, 1) := by decide +kernel
theorem dX3_intAt_13 : decode cX3_intAt 13 = .ok (.getfield 9, 3) := by decide +kernel
theorem dX3_intAt_16 : decode cX3_intAt 16 = .ok (.iload_n 1, 1) := by decide +kernel
theorem dX3_intAt_17 : decode cX3_intAt 17 = .ok (.iaload, 1) := by decide +kernel
theorem dX3_intAt_18 : decode cX3_intAt 18 = .ok (.goto 4, 3) := by decide +kernel
theorem dX3_intAt_21 : decode cX3_intAt 21 = .ok (.iconst 0, 1) := by decide +kernel
theorem dX3_intAt_22 : decode cX3_intAt 22 = .ok (.ireturn, 1) := by decide +kernel
theorem dX5_pad_0 : decode cX5_pad 0 = .ok (.aload_n 0, 1) := by decide +kernel
theorem dX5_pad_1 : decode cX5_pad 1 = .ok (.getfield 37, 3) := by decide +kernel
theorem dX5_pad_4 : decode cX5_pad 4 = .ok (.iload_n 1, 1) := by decide +kernel
theorem dX5_pad_5 : decode cX5_pad 5 = .ok (.invokevirtual 134, 3) := by decide +kernel
theorem dX5_pad_8 : decode cX5_pad 8 = .ok (.ireturn, 1) := by decide +kernel
theorem dX3_inclusionLength_0 : decode cX3_inclusionLength 0 = .ok (.iconst 0, 1) := by decide +kernel
theorem dX3_inclusionLength_1 : decode cX3_inclusionLength 1 = .ok (.istore_n 2, 1) := by decide +kernel
theorem dX3_inclusionLength_2 : decode cX3_inclusionLength 2 = .ok (.iload_n 1, 1) := by decide +kernel
theorem dX3_inclusionLength_3 : decode cX3_inclusionLength 3 = .ok (.iconst 1, 1) := by decide +kernel
theorem dX3_inclusionLength_4 : decode cX3_inclusionLength 4 = .ok (.if_icmp .le 38, 3) := by decide +kernel
theorem dX3_inclusionLength_7 : decode cX3_inclusionLength 7 = .ok (.iload_n 2, 1) := by decide +kernel
theorem dX3_inclusionLength_8 : decode cX3_inclusionLength 8 = .ok (.bipush 16, 2) := by decide +kernel
theorem dX3_inclusionLength_10 : decode cX3_inclusionLength 10 = .ok (.if_icmp .ge 32, 3) := by decide +kernel
theorem dX3_inclusionLength_13 : decode cX3_inclusionLength 13 = .ok (.iload_n 1, 1) := by decide +kernel
theorem dX3_inclusionLength_14 : decode cX3_inclusionLength 14 = .ok (.invokestatic 44, 3) := by decide +kernel
theorem dX3_inclusionLength_17 : decode cX3_inclusionLength 17 = .ok (.istore_n 3, 1) := by decide +kernel
theorem dX3_inclusionLength_18 : decode cX3_inclusionLength 18 = .ok (.iload_n 0, 1) := by decide +kernel
theorem dX3_inclusionLength_19 : decode cX3_inclusionLength 19 = .ok (.iload_n 3, 1) := by decide +kernel
theorem dX3_inclusionLength_20 : decode cX3_inclusionLength 20 = .ok (.if_icmp .ge 8, 3) := by decide +kernel
theorem dX3_inclusionLength_23 : decode cX3_inclusionLength 23 = .ok (.iload_n 3, 1) := by decide +kernel
theorem dX3_inclusionLength_24 : decode cX3_inclusionLength 24 = .ok (.istore_n 1, 1) := by decide +kernel
theorem dX3_inclusionLength_25 : decode cX3_inclusionLength 25 = .ok (.goto 11, 3) := by decide +kernel
theorem dX3_inclusionLength_28 : decode cX3_inclusionLength 28 = .ok (.iload_n 0, 1) := by decide +kernel
theorem dX3_inclusionLength_29 : decode cX3_inclusionLength 29 = .ok (.iload_n 3, 1) := by decide +kernel
theorem dX3_inclusionLength_30 : decode cX3_inclusionLength 30 = .ok (.isub, 1) := by decide +kernel
theorem dX3_inclusionLength_31 : decode cX3_inclusionLength 31 = .ok (.istore_n 0, 1) := by decide +kernel
theorem dX3_inclusionLength_32 : decode cX3_inclusionLength 32 = .ok (.iload_n 1, 1) := by decide +kernel
theorem dX3_inclusionLength_33 : decode cX3_inclusionLength 33 = .ok (.iload_n 3, 1) := by decide +kernel
theorem dX3_inclusionLength_34 : decode cX3_inclusionLength 34 = .ok (.isub, 1) := by decide +kernel
theorem dX3_inclusionLength_35 : decode cX3_inclusionLength 35 = .ok (.istore_n 1, 1) := by decide +kernel
theorem dX3_inclusionLength_36 : decode cX3_inclusionLength 36 = .ok (.iinc 2 1, 3) := by decide +kernel
theorem dX3_inclusionLength_39 : decode cX3_inclusionLength 39 = .ok (.goto (-37), 3) := by decide +kernel
theorem dX3_inclusionLength_42 : decode cX3_inclusionLength 42 = .ok (.iload_n 2, 1) := by decide +kernel
theorem dX3_inclusionLength_43 : decode cX3_inclusionLength 43 = .ok (.ireturn, 1) := by decide +kernel
theorem dX3_shownAbove_0 : decode cX3_shownAbove 0 = .ok (.iload_n 3, 1) := by decide +kernel
theorem dX3_shownAbove_1 : decode cX3_shownAbove 1 = .ok (.iconst 1, 1) := by decide +kernel
theorem dX3_shownAbove_2 : decode cX3_shownAbove 2 = .ok (.if_icmp .le 8, 3) := by decide +kernel
theorem dX3_shownAbove_5 : decode cX3_shownAbove 5 = .ok (.iload 4, 2) := by decide +kernel
theorem dX3_shownAbove_7 : decode cX3_shownAbove 7 = .ok (.ifCond .gt 5, 3) := by decide +kernel
theorem dX3_shownAbove_10 : decode cX3_shownAbove 10 = .ok (.iload_n 1, 1) := by decide +kernel
theorem dX3_shownAbove_11 : decode cX3_shownAbove 11 = .ok (.ireturn, 1) := by decide +kernel
theorem dX3_shownAbove_12 : decode cX3_shownAbove 12 = .ok (.iload_n 3, 1) := by decide +kernel
theorem dX3_shownAbove_13 : decode cX3_shownAbove 13 = .ok (.invokestatic 44, 3) := by decide +kernel
theorem dX3_shownAbove_16 : decode cX3_shownAbove 16 = .ok (.istore 5, 2) := by decide +kernel
theorem dX3_shownAbove_18 : decode cX3_shownAbove 18 = .ok (.aload_n 0, 1) := by decide +kernel
theorem dX3_shownAbove_19 : decode cX3_shownAbove 19 = .ok (.iload 4, 2) := by decide +kernel
theorem dX3_shownAbove_21 : decode cX3_shownAbove 21 = .ok (.iconst 1, 1) := by decide +kernel
theorem dX3_shownAbove_22 : decode cX3_shownAbove 22 = .ok (.isub, 1) := by decide +kernel
theorem dX3_shownAbove_23 : decode cX3_shownAbove 23 = .ok (.invokevirtual 34, 3) := by decide +kernel
theorem dX3_shownAbove_26 : decode cX3_shownAbove 26 = .ok (.istore 6, 2) := by decide +kernel
theorem dX3_shownAbove_28 : decode cX3_shownAbove 28 = .ok (.iload_n 2, 1) := by decide +kernel
theorem dX3_shownAbove_29 : decode cX3_shownAbove 29 = .ok (.iload 5, 2) := by decide +kernel
theorem dX3_shownAbove_31 : decode cX3_shownAbove 31 = .ok (.if_icmp .ge 21, 3) := by decide +kernel
theorem dX3_shownAbove_34 : decode cX3_shownAbove 34 = .ok (.aload_n 0, 1) := by decide +kernel
theorem dX3_shownAbove_35 : decode cX3_shownAbove 35 = .ok (.iload_n 1, 1) := by decide +kernel
theorem dX3_shownAbove_36 : decode cX3_shownAbove 36 = .ok (.iload_n 2, 1) := by decide +kernel
theorem dX3_shownAbove_37 : decode cX3_shownAbove 37 = .ok (.iload 5, 2) := by decide +kernel
theorem dX3_shownAbove_39 : decode cX3_shownAbove 39 = .ok (.iload 4, 2) := by decide +kernel
theorem dX3_shownAbove_41 : decode cX3_shownAbove 41 = .ok (.iconst 1, 1) := by decide +kernel
theorem dX3_shownAbove_42 : decode cX3_shownAbove 42 = .ok (.isub, 1) := by decide +kernel
theorem dX3_shownAbove_43 : decode cX3_shownAbove 43 = .ok (.invokestatic 23, 3) := by decide +kernel
theorem dX3_shownAbove_46 : decode cX3_shownAbove 46 = .ok (.iload 6, 2) := by decide +kernel
theorem dX3_shownAbove_48 : decode cX3_shownAbove 48 = .ok (.invokestatic 47, 3) := by decide +kernel
theorem dX3_shownAbove_51 : decode cX3_shownAbove 51 = .ok (.ireturn, 1) := by decide +kernel
theorem dX3_shownAbove_52 : decode cX3_shownAbove 52 = .ok (.iload 6, 2) := by decide +kernel
theorem dX3_shownAbove_54 : decode cX3_shownAbove 54 = .ok (.aload_n 0, 1) := by decide +kernel
theorem dX3_shownAbove_55 : decode cX3_shownAbove 55 = .ok (.iload_n 1, 1) := by decide +kernel
theorem dX3_shownAbove_56 : decode cX3_shownAbove 56 = .ok (.iload_n 2, 1) := by decide +kernel
theorem dX3_shownAbove_57 : decode cX3_shownAbove 57 = .ok (.iload 5, 2) := by decide +kernel
theorem dX3_shownAbove_59 : decode cX3_shownAbove 59 = .ok (.isub, 1) := by decide +kernel
theorem dX3_shownAbove_60 : decode cX3_shownAbove 60 = .ok (.iload_n 3, 1) := by decide +kernel
theorem dX3_shownAbove_61 : decode cX3_shownAbove 61 = .ok (.iload 5, 2) := by decide +kernel
theorem dX3_shownAbove_63 : decode cX3_shownAbove 63 = .ok (.isub, 1) := by decide +kernel
theorem dX3_shownAbove_64 : decode cX3_shownAbove 64 = .ok (.iload 4, 2) := by decide +kernel
theorem dX3_shownAbove_66 : decode cX3_shownAbove 66 = .ok (.iconst 1, 1) := by decide +kernel
theorem dX3_shownAbove_67 : decode cX3_shownAbove 67 = .ok (.isub, 1) := by decide +kernel
theorem dX3_shownAbove_68 : decode cX3_shownAbove 68 = .ok (.invokestatic 23, 3) := by decide +kernel
theorem dX3_shownAbove_71 : decode cX3_shownAbove 71 = .ok (.invokestatic 47, 3) := by decide +kernel
theorem dX3_shownAbove_74 : decode cX3_shownAbove 74 = .ok (.ireturn, 1) := by decide +kernel
theorem dX3_showsInclusion_0 : decode cX3_showsInclusion 0 = .ok (.aload_n 0, 1) := by decide +kernel
theorem dX3_showsInclusion_1 : decode cX3_showsInclusion 1 = .ok (.getfield 15, 3) := by decide +kernel
theorem dX3_showsInclusion_4 : decode cX3_showsInclusion 4 = .ok (.iload_n 2, 1) := by decide +kernel
theorem dX3_showsInclusion_5 : decode cX3_showsInclusion 5 = .ok (.iload_n 3, 1) := by decide +kernel
theorem dX3_showsInclusion_6 : decode cX3_showsInclusion 6 = .ok (.invokestatic 19, 3) := by decide +kernel
theorem dX3_showsInclusion_9 : decode cX3_showsInclusion 9 = .ok (.if_icmp .ne 23, 3) := by decide +kernel
theorem dX3_showsInclusion_12 : decode cX3_showsInclusion 12 = .ok (.aload_n 0, 1) := by decide +kernel
theorem dX3_showsInclusion_13 : decode cX3_showsInclusion 13 = .ok (.iload_n 1, 1) := by decide +kernel
theorem dX3_showsInclusion_14 : decode cX3_showsInclusion 14 = .ok (.iload_n 2, 1) := by decide +kernel
theorem dX3_showsInclusion_15 : decode cX3_showsInclusion 15 = .ok (.iload_n 3, 1) := by decide +kernel
theorem dX3_showsInclusion_16 : decode cX3_showsInclusion 16 = .ok (.aload_n 0, 1) := by decide +kernel
theorem dX3_showsInclusion_17 : decode cX3_showsInclusion 17 = .ok (.getfield 15, 3) := by decide +kernel
theorem dX3_showsInclusion_20 : decode cX3_showsInclusion 20 = .ok (.invokestatic 23, 3) := by decide +kernel
theorem dX3_showsInclusion_23 : decode cX3_showsInclusion 23 = .ok (.iload 4, 2) := by decide +kernel
theorem dX3_showsInclusion_25 : decode cX3_showsInclusion 25 = .ok (.if_icmp .ne 7, 3) := by decide +kernel
theorem dX3_showsInclusion_28 : decode cX3_showsInclusion 28 = .ok (.iconst 1, 1) := by decide +kernel
theorem dX3_showsInclusion_29 : decode cX3_showsInclusion 29 = .ok (.goto 4, 3) := by decide +kernel
theorem dX3_showsInclusion_32 : decode cX3_showsInclusion 32 = .ok (.iconst 0, 1) := by decide +kernel
theorem dX3_showsInclusion_33 : decode cX3_showsInclusion 33 = .ok (.ireturn, 1) := by decide +kernel
theorem dX5_included_0 : decode cX5_included 0 = .ok (.iload_n 3, 1) := by decide +kernel
theorem dX5_included_1 : decode cX5_included 1 = .ok (.iconst 1, 1) := by decide +kernel
theorem dX5_included_2 : decode cX5_included 2 = .ok (.if_icmp .lt 38, 3) := by decide +kernel
theorem dX5_included_5 : decode cX5_included 5 = .ok (.iload_n 3, 1) := by decide +kernel
theorem dX5_included_6 : decode cX5_included 6 = .ok (.sipush 1000, 3) := by decide +kernel
theorem dX5_included_9 : decode cX5_included 9 = .ok (.if_icmp .gt 31, 3) := by decide +kernel
theorem dX5_included_12 : decode cX5_included 12 = .ok (.iload_n 2, 1) := by decide +kernel
theorem dX5_included_13 : decode cX5_included 13 = .ok (.ifCond .lt 27, 3) := by decide +kernel
theorem dX5_included_16 : decode cX5_included 16 = .ok (.iload_n 2, 1) := by decide +kernel
theorem dX5_included_17 : decode cX5_included 17 = .ok (.iload_n 3, 1) := by decide +kernel
theorem dX5_included_18 : decode cX5_included 18 = .ok (.if_icmp .ge 22, 3) := by decide +kernel
theorem dX5_included_21 : decode cX5_included 21 = .ok (.aload_n 0, 1) := by decide +kernel
theorem dX5_included_22 : decode cX5_included 22 = .ok (.getfield 37, 3) := by decide +kernel
theorem dX5_included_25 : decode cX5_included 25 = .ok (.iload_n 1, 1) := by decide +kernel
theorem dX5_included_26 : decode cX5_included 26 = .ok (.iload_n 2, 1) := by decide +kernel
theorem dX5_included_27 : decode cX5_included 27 = .ok (.iload_n 3, 1) := by decide +kernel
theorem dX5_included_28 : decode cX5_included 28 = .ok (.iload 4, 2) := by decide +kernel
theorem dX5_included_30 : decode cX5_included 30 = .ok (.invokevirtual 137, 3) := by decide +kernel
theorem dX5_included_33 : decode cX5_included 33 = .ok (.ifCond .eq 7, 3) := by decide +kernel
theorem dX5_included_36 : decode cX5_included 36 = .ok (.iconst 1, 1) := by decide +kernel
theorem dX5_included_37 : decode cX5_included 37 = .ok (.goto 4, 3) := by decide +kernel
theorem dX5_included_40 : decode cX5_included 40 = .ok (.iconst 0, 1) := by decide +kernel
theorem dX5_included_41 : decode cX5_included 41 = .ok (.ireturn, 1) := by decide +kernel
theorem dX3_consistencySteps_0 : decode cX3_consistencySteps 0 = .ok (.iconst 0, 1) := by decide +kernel
theorem dX3_consistencySteps_1 : decode cX3_consistencySteps 1 = .ok (.istore_n 2, 1) := by decide +kernel
theorem dX3_consistencySteps_2 : decode cX3_consistencySteps 2 = .ok (.iload_n 0, 1) := by decide +kernel
theorem dX3_consistencySteps_3 : decode cX3_consistencySteps 3 = .ok (.iload_n 1, 1) := by decide +kernel
theorem dX3_consistencySteps_4 : decode cX3_consistencySteps 4 = .ok (.if_icmp .eq 38, 3) := by decide +kernel
theorem dX3_consistencySteps_7 : decode cX3_consistencySteps 7 = .ok (.iload_n 2, 1) := by decide +kernel
theorem dX3_consistencySteps_8 : decode cX3_consistencySteps 8 = .ok (.bipush 16, 2) := by decide +kernel
theorem dX3_consistencySteps_10 : decode cX3_consistencySteps 10 = .ok (.if_icmp .ge 32, 3) := by decide +kernel
theorem dX3_consistencySteps_13 : decode cX3_consistencySteps 13 = .ok (.iload_n 1, 1) := by decide +kernel
theorem dX3_consistencySteps_14 : decode cX3_consistencySteps 14 = .ok (.invokestatic 44, 3) := by decide +kernel
theorem dX3_consistencySteps_17 : decode cX3_consistencySteps 17 = .ok (.istore_n 3, 1) := by decide +kernel
theorem dX3_consistencySteps_18 : decode cX3_consistencySteps 18 = .ok (.iload_n 0, 1) := by decide +kernel
theorem dX3_consistencySteps_19 : decode cX3_consistencySteps 19 = .ok (.iload_n 3, 1) := by decide +kernel
theorem dX3_consistencySteps_20 : decode cX3_consistencySteps 20 = .ok (.if_icmp .gt 8, 3) := by decide +kernel
theorem dX3_consistencySteps_23 : decode cX3_consistencySteps 23 = .ok (.iload_n 3, 1) := by decide +kernel
theorem dX3_consistencySteps_24 : decode cX3_consistencySteps 24 = .ok (.istore_n 1, 1) := by decide +kernel
theorem dX3_consistencySteps_25 : decode cX3_consistencySteps 25 = .ok (.goto 11, 3) := by decide +kernel
theorem dX3_consistencySteps_28 : decode cX3_consistencySteps 28 = .ok (.iload_n 0, 1) := by decide +kernel
theorem dX3_consistencySteps_29 : decode cX3_consistencySteps 29 = .ok (.iload_n 3, 1) := by decide +kernel
theorem dX3_consistencySteps_30 : decode cX3_consistencySteps 30 = .ok (.isub, 1) := by decide +kernel
theorem dX3_consistencySteps_31 : decode cX3_consistencySteps 31 = .ok (.istore_n 0, 1) := by decide +kernel
theorem dX3_consistencySteps_32 : decode cX3_consistencySteps 32 = .ok (.iload_n 1, 1) := by decide +kernel
theorem dX3_consistencySteps_33 : decode cX3_consistencySteps 33 = .ok (.iload_n 3, 1) := by decide +kernel
theorem dX3_consistencySteps_34 : decode cX3_consistencySteps 34 = .ok (.isub, 1) := by decide +kernel
theorem dX3_consistencySteps_35 : decode cX3_consistencySteps 35 = .ok (.istore_n 1, 1) := by decide +kernel
theorem dX3_consistencySteps_36 : decode cX3_consistencySteps 36 = .ok (.iinc 2 1, 3) := by decide +kernel
theorem dX3_consistencySteps_39 : decode cX3_consistencySteps 39 = .ok (.goto (-37), 3) := by decide +kernel
theorem dX3_consistencySteps_42 : decode cX3_consistencySteps 42 = .ok (.iload_n 2, 1) := by decide +kernel
theorem dX3_consistencySteps_43 : decode cX3_consistencySteps 43 = .ok (.ireturn, 1) := by decide +kernel
theorem dX3_isOwn_0 : decode cX3_isOwn 0 = .ok (.iconst 0, 1) := by decide +kernel
theorem dX3_isOwn_1 : decode cX3_isOwn 1 = .ok (.istore_n 2, 1) := by decide +kernel
theorem dX3_isOwn_2 : decode cX3_isOwn 2 = .ok (.iload_n 2, 1) := by decide +kernel
theorem dX3_isOwn_3 : decode cX3_isOwn 3 = .ok (.bipush 10, 2) := by decide +kernel
theorem dX3_isOwn_5 : decode cX3_isOwn 5 = .ok (.if_icmp .ge 26, 3) := by decide +kernel
theorem dX3_isOwn_8 : decode cX3_isOwn 8 = .ok (.iload_n 0, 1) := by decide +kernel
theorem dX3_isOwn_9 : decode cX3_isOwn 9 = .ok (.iload_n 1, 1) := by decide +kernel
theorem dX3_isOwn_10 : decode cX3_isOwn 10 = .ok (.if_icmp .eq 21, 3) := by decide +kernel
theorem dX3_isOwn_13 : decode cX3_isOwn 13 = .ok (.iload_n 1, 1) := by decide +kernel
theorem dX3_isOwn_14 : decode cX3_isOwn 14 = .ok (.invokestatic 44, 3) := by decide +kernel
theorem dX3_isOwn_17 : decode cX3_isOwn 17 = .ok (.istore_n 1, 1) := by decide +kernel
theorem dX3_isOwn_18 : decode cX3_isOwn 18 = .ok (.iload_n 0, 1) := by decide +kernel
theorem dX3_isOwn_19 : decode cX3_isOwn 19 = .ok (.iload_n 1, 1) := by decide +kernel
theorem dX3_isOwn_20 : decode cX3_isOwn 20 = .ok (.if_icmp .le 5, 3) := by decide +kernel
theorem dX3_isOwn_23 : decode cX3_isOwn 23 = .ok (.iconst 0, 1) := by decide +kernel
theorem dX3_isOwn_24 : decode cX3_isOwn 24 = .ok (.ireturn, 1) := by decide +kernel
theorem dX3_isOwn_25 : decode cX3_isOwn 25 = .ok (.iinc 2 1, 3) := by decide +kernel
theorem dX3_isOwn_28 : decode cX3_isOwn 28 = .ok (.goto (-26), 3) := by decide +kernel
theorem dX3_isOwn_31 : decode cX3_isOwn 31 = .ok (.iconst 1, 1) := by decide +kernel
theorem dX3_isOwn_32 : decode cX3_isOwn 32 = .ok (.ireturn, 1) := by decide +kernel
theorem dX3_shownOld_0 : decode cX3_shownOld 0 = .ok (.iload_n 2, 1) := by decide +kernel
theorem dX3_shownOld_1 : decode cX3_shownOld 1 = .ok (.iload_n 3, 1) := by decide +kernel
theorem dX3_shownOld_2 : decode cX3_shownOld 2 = .ok (.if_icmp .eq 8, 3) := by decide +kernel
theorem dX3_shownOld_5 : decode cX3_shownOld 5 = .ok (.iload 4, 2) := by decide +kernel
theorem dX3_shownOld_7 : decode cX3_shownOld 7 = .ok (.ifCond .gt 5, 3) := by decide +kernel
theorem dX3_shownOld_10 : decode cX3_shownOld 10 = .ok (.iload_n 1, 1) := by decide +kernel
theorem dX3_shownOld_11 : decode cX3_shownOld 11 = .ok (.ireturn, 1) := by decide +kernel
theorem dX3_shownOld_12 : decode cX3_shownOld 12 = .ok (.iload_n 3, 1) := by decide +kernel
theorem dX3_shownOld_13 : decode cX3_shownOld 13 = .ok (.invokestatic 44, 3) := by decide +kernel
theorem dX3_shownOld_16 : decode cX3_shownOld 16 = .ok (.istore 5, 2) := by decide +kernel
theorem dX3_shownOld_18 : decode cX3_shownOld 18 = .ok (.iload_n 2, 1) := by decide +kernel
theorem dX3_shownOld_19 : decode cX3_shownOld 19 = .ok (.iload 5, 2) := by decide +kernel
theorem dX3_shownOld_21 : decode cX3_shownOld 21 = .ok (.if_icmp .gt 16, 3) := by decide +kernel
theorem dX3_shownOld_24 : decode cX3_shownOld 24 = .ok (.aload_n 0, 1) := by decide +kernel
theorem dX3_shownOld_25 : decode cX3_shownOld 25 = .ok (.iload_n 1, 1) := by decide +kernel
theorem dX3_shownOld_26 : decode cX3_shownOld 26 = .ok (.iload_n 2, 1) := by decide +kernel
theorem dX3_shownOld_27 : decode cX3_shownOld 27 = .ok (.iload 5, 2) := by decide +kernel
theorem dX3_shownOld_29 : decode cX3_shownOld 29 = .ok (.iload 4, 2) := by decide +kernel
theorem dX3_shownOld_31 : decode cX3_shownOld 31 = .ok (.iconst 1, 1) := by decide +kernel
theorem dX3_shownOld_32 : decode cX3_shownOld 32 = .ok (.isub, 1) := by decide +kernel
theorem dX3_shownOld_33 : decode cX3_shownOld 33 = .ok (.invokestatic 38, 3) := by decide +kernel
theorem dX3_shownOld_36 : decode cX3_shownOld 36 = .ok (.ireturn, 1) := by decide +kernel
theorem dX3_shownOld_37 : decode cX3_shownOld 37 = .ok (.aload_n 0, 1) := by decide +kernel
theorem dX3_shownOld_38 : decode cX3_shownOld 38 = .ok (.iload 4, 2) := by decide +kernel
theorem dX3_shownOld_40 : decode cX3_shownOld 40 = .ok (.iconst 1, 1) := by decide +kernel
theorem dX3_shownOld_41 : decode cX3_shownOld 41 = .ok (.isub, 1) := by decide +kernel
theorem dX3_shownOld_42 : decode cX3_shownOld 42 = .ok (.invokevirtual 34, 3) := by decide +kernel
theorem dX3_shownOld_45 : decode cX3_shownOld 45 = .ok (.aload_n 0, 1) := by decide +kernel
theorem dX3_shownOld_46 : decode cX3_shownOld 46 = .ok (.iload_n 1, 1) := by decide +kernel
theorem dX3_shownOld_47 : decode cX3_shownOld 47 = .ok (.iload_n 2, 1) := by decide +kernel
theorem dX3_shownOld_48 : decode cX3_shownOld 48 = .ok (.iload 5, 2) := by decide +kernel
theorem dX3_shownOld_50 : decode cX3_shownOld 50 = .ok (.isub, 1) := by decide +kernel
theorem dX3_shownOld_51 : decode cX3_shownOld 51 = .ok (.iload_n 3, 1) := by decide +kernel
theorem dX3_shownOld_52 : decode cX3_shownOld 52 = .ok (.iload 5, 2) := by decide +kernel
theorem dX3_shownOld_54 : decode cX3_shownOld 54 = .ok (.isub, 1) := by decide +kernel
theorem dX3_shownOld_55 : decode cX3_shownOld 55 = .ok (.iload 4, 2) := by decide +kernel
theorem dX3_shownOld_57 : decode cX3_shownOld 57 = .ok (.iconst 1, 1) := by decide +kernel
theorem dX3_shownOld_58 : decode cX3_shownOld 58 = .ok (.isub, 1) := by decide +kernel
theorem dX3_shownOld_59 : decode cX3_shownOld 59 = .ok (.invokestatic 38, 3) := by decide +kernel
theorem dX3_shownOld_62 : decode cX3_shownOld 62 = .ok (.invokestatic 47, 3) := by decide +kernel
theorem dX3_shownOld_65 : decode cX3_shownOld 65 = .ok (.ireturn, 1) := by decide +kernel
theorem dX3_shownNew_0 : decode cX3_shownNew 0 = .ok (.iload_n 2, 1) := by decide +kernel
theorem dX3_shownNew_1 : decode cX3_shownNew 1 = .ok (.iload_n 3, 1) := by decide +kernel
theorem dX3_shownNew_2 : decode cX3_shownNew 2 = .ok (.if_icmp .eq 8, 3) := by decide +kernel
theorem dX3_shownNew_5 : decode cX3_shownNew 5 = .ok (.iload 4, 2) := by decide +kernel
theorem dX3_shownNew_7 : decode cX3_shownNew 7 = .ok (.ifCond .gt 5, 3) := by decide +kernel
theorem dX3_shownNew_10 : decode cX3_shownNew 10 = .ok (.iload_n 1, 1) := by decide +kernel
theorem dX3_shownNew_11 : decode cX3_shownNew 11 = .ok (.ireturn, 1) := by decide +kernel
theorem dX3_shownNew_12 : decode cX3_shownNew 12 = .ok (.iload_n 3, 1) := by decide +kernel
theorem dX3_shownNew_13 : decode cX3_shownNew 13 = .ok (.invokestatic 44, 3) := by decide +kernel
theorem dX3_shownNew_16 : decode cX3_shownNew 16 = .ok (.istore 5, 2) := by decide +kernel
theorem dX3_shownNew_18 : decode cX3_shownNew 18 = .ok (.aload_n 0, 1) := by decide +kernel
theorem dX3_shownNew_19 : decode cX3_shownNew 19 = .ok (.iload 4, 2) := by decide +kernel
theorem dX3_shownNew_21 : decode cX3_shownNew 21 = .ok (.iconst 1, 1) := by decide +kernel
theorem dX3_shownNew_22 : decode cX3_shownNew 22 = .ok (.isub, 1) := by decide +kernel
theorem dX3_shownNew_23 : decode cX3_shownNew 23 = .ok (.invokevirtual 34, 3) := by decide +kernel
theorem dX3_shownNew_26 : decode cX3_shownNew 26 = .ok (.istore 6, 2) := by decide +kernel
theorem dX3_shownNew_28 : decode cX3_shownNew 28 = .ok (.iload_n 2, 1) := by decide +kernel
theorem dX3_shownNew_29 : decode cX3_shownNew 29 = .ok (.iload 5, 2) := by decide +kernel
theorem dX3_shownNew_31 : decode cX3_shownNew 31 = .ok (.if_icmp .gt 21, 3) := by decide +kernel
theorem dX3_shownNew_34 : decode cX3_shownNew 34 = .ok (.aload_n 0, 1) := by decide +kernel
theorem dX3_shownNew_35 : decode cX3_shownNew 35 = .ok (.iload_n 1, 1) := by decide +kernel
theorem dX3_shownNew_36 : decode cX3_shownNew 36 = .ok (.iload_n 2, 1) := by decide +kernel
theorem dX3_shownNew_37 : decode cX3_shownNew 37 = .ok (.iload 5, 2) := by decide +kernel
theorem dX3_shownNew_39 : decode cX3_shownNew 39 = .ok (.iload 4, 2) := by decide +kernel
theorem dX3_shownNew_41 : decode cX3_shownNew 41 = .ok (.iconst 1, 1) := by decide +kernel
theorem dX3_shownNew_42 : decode cX3_shownNew 42 = .ok (.isub, 1) := by decide +kernel
theorem dX3_shownNew_43 : decode cX3_shownNew 43 = .ok (.invokestatic 41, 3) := by decide +kernel
theorem dX3_shownNew_46 : decode cX3_shownNew 46 = .ok (.iload 6, 2) := by decide +kernel
theorem dX3_shownNew_48 : decode cX3_shownNew 48 = .ok (.invokestatic 47, 3) := by decide +kernel
theorem dX3_shownNew_51 : decode cX3_shownNew 51 = .ok (.ireturn, 1) := by decide +kernel
theorem dX3_shownNew_52 : decode cX3_shownNew 52 = .ok (.iload 6, 2) := by decide +kernel
theorem dX3_shownNew_54 : decode cX3_shownNew 54 = .ok (.aload_n 0, 1) := by decide +kernel
theorem dX3_shownNew_55 : decode cX3_shownNew 55 = .ok (.iload_n 1, 1) := by decide +kernel
theorem dX3_shownNew_56 : decode cX3_shownNew 56 = .ok (.iload_n 2, 1) := by decide +kernel
theorem dX3_shownNew_57 : decode cX3_shownNew 57 = .ok (.iload 5, 2) := by decide +kernel
theorem dX3_shownNew_59 : decode cX3_shownNew 59 = .ok (.isub, 1) := by decide +kernel
theorem dX3_shownNew_60 : decode cX3_shownNew 60 = .ok (.iload_n 3, 1) := by decide +kernel
theorem dX3_shownNew_61 : decode cX3_shownNew 61 = .ok (.iload 5, 2) := by decide +kernel
theorem dX3_shownNew_63 : decode cX3_shownNew 63 = .ok (.isub, 1) := by decide +kernel
theorem dX3_shownNew_64 : decode cX3_shownNew 64 = .ok (.iload 4, 2) := by decide +kernel
theorem dX3_shownNew_66 : decode cX3_shownNew 66 = .ok (.iconst 1, 1) := by decide +kernel
theorem dX3_shownNew_67 : decode cX3_shownNew 67 = .ok (.isub, 1) := by decide +kernel
theorem dX3_shownNew_68 : decode cX3_shownNew 68 = .ok (.invokestatic 41, 3) := by decide +kernel
theorem dX3_shownNew_71 : decode cX3_shownNew 71 = .ok (.invokestatic 47, 3) := by decide +kernel
theorem dX3_shownNew_74 : decode cX3_shownNew 74 = .ok (.ireturn, 1) := by decide +kernel
theorem dX3_showsConsistency_0 : decode cX3_showsConsistency 0 = .ok (.iload_n 2, 1) := by decide +kernel
theorem dX3_showsConsistency_1 : decode cX3_showsConsistency 1 = .ok (.iload 4, 2) := by decide +kernel
theorem dX3_showsConsistency_3 : decode cX3_showsConsistency 3 = .ok (.invokestatic 27, 3) := by decide +kernel
theorem dX3_showsConsistency_6 : decode cX3_showsConsistency 6 = .ok (.istore 5, 2) := by decide +kernel
theorem dX3_showsConsistency_8 : decode cX3_showsConsistency 8 = .ok (.iload_n 2, 1) := by decide +kernel
theorem dX3_showsConsistency_9 : decode cX3_showsConsistency 9 = .ok (.iload 4, 2) := by decide +kernel
theorem dX3_showsConsistency_11 : decode cX3_showsConsistency 11 = .ok (.invokestatic 30, 3) := by decide +kernel
theorem dX3_showsConsistency_14 : decode cX3_showsConsistency 14 = .ok (.istore 6, 2) := by decide +kernel
theorem dX3_showsConsistency_16 : decode cX3_showsConsistency 16 = .ok (.aload_n 0, 1) := by decide +kernel
theorem dX3_showsConsistency_17 : decode cX3_showsConsistency 17 = .ok (.getfield 15, 3) := by decide +kernel
theorem dX3_showsConsistency_20 : decode cX3_showsConsistency 20 = .ok (.iload 6, 2) := by decide +kernel
theorem dX3_showsConsistency_22 : decode cX3_showsConsistency 22 = .ok (.ifCond .eq 8, 3) := by decide +kernel
theorem dX3_showsConsistency_25 : decode cX3_showsConsistency 25 = .ok (.iload 5, 2) := by decide +kernel
theorem dX3_showsConsistency_27 : decode cX3_showsConsistency 27 = .ok (.goto 7, 3) := by decide +kernel
theorem dX3_showsConsistency_30 : decode cX3_showsConsistency 30 = .ok (.iload 5, 2) := by decide +kernel
theorem dX3_showsConsistency_32 : decode cX3_showsConsistency 32 = .ok (.iconst 1, 1) := by decide +kernel
theorem dX3_showsConsistency_33 : decode cX3_showsConsistency 33 = .ok (.iadd, 1) := by decide +kernel
theorem dX3_showsConsistency_34 : decode cX3_showsConsistency 34 = .ok (.if_icmp .eq 5, 3) := by decide +kernel
theorem dX3_showsConsistency_37 : decode cX3_showsConsistency 37 = .ok (.iconst 0, 1) := by decide +kernel
theorem dX3_showsConsistency_38 : decode cX3_showsConsistency 38 = .ok (.ireturn, 1) := by decide +kernel
theorem dX3_showsConsistency_39 : decode cX3_showsConsistency 39 = .ok (.iload 6, 2) := by decide +kernel
theorem dX3_showsConsistency_41 : decode cX3_showsConsistency 41 = .ok (.ifCond .eq 7, 3) := by decide +kernel
theorem dX3_showsConsistency_44 : decode cX3_showsConsistency 44 = .ok (.iload_n 1, 1) := by decide +kernel
theorem dX3_showsConsistency_45 : decode cX3_showsConsistency 45 = .ok (.goto 8, 3) := by decide +kernel
theorem dX3_showsConsistency_48 : decode cX3_showsConsistency 48 = .ok (.aload_n 0, 1) := by decide +kernel
theorem dX3_showsConsistency_49 : decode cX3_showsConsistency 49 = .ok (.iconst 0, 1) := by decide +kernel
theorem dX3_showsConsistency_50 : decode cX3_showsConsistency 50 = .ok (.invokevirtual 34, 3) := by decide +kernel
theorem dX3_showsConsistency_53 : decode cX3_showsConsistency 53 = .ok (.istore 7, 2) := by decide +kernel
theorem dX3_showsConsistency_55 : decode cX3_showsConsistency 55 = .ok (.aload_n 0, 1) := by decide +kernel
theorem dX3_showsConsistency_56 : decode cX3_showsConsistency 56 = .ok (.iload 7, 2) := by decide +kernel
theorem dX3_showsConsistency_58 : decode cX3_showsConsistency 58 = .ok (.iload_n 2, 1) := by decide +kernel
theorem dX3_showsConsistency_59 : decode cX3_showsConsistency 59 = .ok (.iload 4, 2) := by decide +kernel
theorem dX3_showsConsistency_61 : decode cX3_showsConsistency 61 = .ok (.aload_n 0, 1) := by decide +kernel
theorem dX3_showsConsistency_62 : decode cX3_showsConsistency 62 = .ok (.getfield 15, 3) := by decide +kernel
theorem dX3_showsConsistency_65 : decode cX3_showsConsistency 65 = .ok (.invokestatic 38, 3) := by decide +kernel
theorem dX3_showsConsistency_68 : decode cX3_showsConsistency 68 = .ok (.iload_n 1, 1) := by decide +kernel
theorem dX3_showsConsistency_69 : decode cX3_showsConsistency 69 = .ok (.if_icmp .ne 24, 3) := by decide +kernel
theorem dX3_showsConsistency_72 : decode cX3_showsConsistency 72 = .ok (.aload_n 0, 1) := by decide +kernel
theorem dX3_showsConsistency_73 : decode cX3_showsConsistency 73 = .ok (.iload 7, 2) := by decide +kernel
theorem dX3_showsConsistency_75 : decode cX3_showsConsistency 75 = .ok (.iload_n 2, 1) := by decide +kernel
theorem dX3_showsConsistency_76 : decode cX3_showsConsistency 76 = .ok (.iload 4, 2) := by decide +kernel
theorem dX3_showsConsistency_78 : decode cX3_showsConsistency 78 = .ok (.aload_n 0, 1) := by decide +kernel
theorem dX3_showsConsistency_79 : decode cX3_showsConsistency 79 = .ok (.getfield 15, 3) := by decide +kernel
theorem dX3_showsConsistency_82 : decode cX3_showsConsistency 82 = .ok (.invokestatic 41, 3) := by decide +kernel
theorem dX3_showsConsistency_85 : decode cX3_showsConsistency 85 = .ok (.iload_n 3, 1) := by decide +kernel
theorem dX3_showsConsistency_86 : decode cX3_showsConsistency 86 = .ok (.if_icmp .ne 7, 3) := by decide +kernel
theorem dX3_showsConsistency_89 : decode cX3_showsConsistency 89 = .ok (.iconst 1, 1) := by decide +kernel
theorem dX3_showsConsistency_90 : decode cX3_showsConsistency 90 = .ok (.goto 4, 3) := by decide +kernel
theorem dX3_showsConsistency_93 : decode cX3_showsConsistency 93 = .ok (.iconst 0, 1) := by decide +kernel
theorem dX3_showsConsistency_94 : decode cX3_showsConsistency 94 = .ok (.ireturn, 1) := by decide +kernel
theorem dX5_consistent_0 : decode cX5_consistent 0 = .ok (.iload 4, 2) := by decide +kernel
theorem dX5_consistent_2 : decode cX5_consistent 2 = .ok (.iconst 1, 1) := by decide +kernel
theorem dX5_consistent_3 : decode cX5_consistent 3 = .ok (.if_icmp .lt 41, 3) := by decide +kernel
theorem dX5_consistent_6 : decode cX5_consistent 6 = .ok (.iload 4, 2) := by decide +kernel
theorem dX5_consistent_8 : decode cX5_consistent 8 = .ok (.sipush 1000, 3) := by decide +kernel
theorem dX5_consistent_11 : decode cX5_consistent 11 = .ok (.if_icmp .gt 33, 3) := by decide +kernel
theorem dX5_consistent_14 : decode cX5_consistent 14 = .ok (.iload_n 2, 1) := by decide +kernel
theorem dX5_consistent_15 : decode cX5_consistent 15 = .ok (.iconst 1, 1) := by decide +kernel
theorem dX5_consistent_16 : decode cX5_consistent 16 = .ok (.if_icmp .lt 28, 3) := by decide +kernel
theorem dX5_consistent_19 : decode cX5_consistent 19 = .ok (.iload_n 2, 1) := by decide +kernel
theorem dX5_consistent_20 : decode cX5_consistent 20 = .ok (.iload 4, 2) := by decide +kernel
theorem dX5_consistent_22 : decode cX5_consistent 22 = .ok (.if_icmp .gt 22, 3) := by decide +kernel
theorem dX5_consistent_25 : decode cX5_consistent 25 = .ok (.aload_n 0, 1) := by decide +kernel
theorem dX5_consistent_26 : decode cX5_consistent 26 = .ok (.getfield 37, 3) := by decide +kernel
theorem dX5_consistent_29 : decode cX5_consistent 29 = .ok (.iload_n 1, 1) := by decide +kernel
theorem dX5_consistent_30 : decode cX5_consistent 30 = .ok (.iload_n 2, 1) := by decide +kernel
theorem dX5_consistent_31 : decode cX5_consistent 31 = .ok (.iload_n 3, 1) := by decide +kernel
theorem dX5_consistent_32 : decode cX5_consistent 32 = .ok (.iload 4, 2) := by decide +kernel
theorem dX5_consistent_34 : decode cX5_consistent 34 = .ok (.invokevirtual 141, 3) := by decide +kernel
theorem dX5_consistent_37 : decode cX5_consistent 37 = .ok (.ifCond .eq 7, 3) := by decide +kernel
theorem dX5_consistent_40 : decode cX5_consistent 40 = .ok (.iconst 1, 1) := by decide +kernel
theorem dX5_consistent_41 : decode cX5_consistent 41 = .ok (.goto 4, 3) := by decide +kernel
theorem dX5_consistent_44 : decode cX5_consistent 44 = .ok (.iconst 0, 1) := by decide +kernel
theorem dX5_consistent_45 : decode cX5_consistent 45 = .ok (.ireturn, 1) := by decide +kernel
theorem dX5_cell_0 : decode cX5_cell 0 = .ok (.aload_n 0, 1) := by decide +kernel
theorem dX5_cell_1 : decode cX5_cell 1 = .ok (.getfield 30, 3) := by decide +kernel
theorem dX5_cell_4 : decode cX5_cell 4 = .ok (.iload_n 1, 1) := by decide +kernel
theorem dX5_cell_5 : decode cX5_cell 5 = .ok (.invokevirtual 144, 3) := by decide +kernel
theorem dX5_cell_8 : decode cX5_cell 8 = .ok (.ireturn, 1) := by decide +kernel
theorem dX0_writesDone_0 : decode cX0_writesDone 0 = .ok (.aload_n 0, 1) := by decide +kernel
theorem dX0_writesDone_1 : decode cX0_writesDone 1 = .ok (.getfield 19, 3) := by decide +kernel
theorem dX0_writesDone_4 : decode cX0_writesDone 4 = .ok (.ireturn, 1) := by decide +kernel
theorem dX5_writes_0 : decode cX5_writes 0 = .ok (.aload_n 0, 1) := by decide +kernel
theorem dX5_writes_1 : decode cX5_writes 1 = .ok (.getfield 30, 3) := by decide +kernel
theorem dX5_writes_4 : decode cX5_writes 4 = .ok (.invokevirtual 147, 3) := by decide +kernel
theorem dX5_writes_7 : decode cX5_writes 7 = .ok (.ireturn, 1) := by decide +kernel
end
section
def hw_l0 : List Cond := [.methodLink RX1 3 objectInit, .instanceMethod objectInit, .code objectInit ⟨#[0xb1]⟩ 1 none, .arrayClass .int, .fieldLink RX1 9 "SealedLedger$Draft" "accounts" "[I", .fieldLink RX1 15 "SealedLedger$Draft" "amounts" "[I", .code yX1_init cX1_init 1 none, .methodLink RX2 3 objectInit, .fieldLink RX2 9 "SealedLedger$Log" "cells" "[I", .fieldLink RX2 15 "SealedLedger$Log" "starts" "[I", .fieldLink RX2 18 "SealedLedger$Log" "leaves" "[I", .code yX2_init cX2_init 1 none, .methodLink RX0 3 objectInit, .fieldLink RX0 9 "SealedLedger$Disk" "cells" "[I", .code yX0_init cX0_init 1 none, .methodLink RX3 3 objectInit, .fieldLink RX3 9 "SealedLedger$Pad" "ints" "[I", .code yX3_init cX3_init 1 none, .methodLink RX5 3 objectInit, .fieldLink RX5 9 "SealedLedger" "limits" "[I", .classLink RX5 13 RX1, .instantiable RX1 3, .initialized RX1, .methodLink RX5 15 yX1_init, .instanceMethod yX1_init, .fieldLink RX5 16 "SealedLedger" "draft" "LSealedLedger$Draft;", .classLink RX5 20 RX2, .instantiable RX2 7, .initialized RX2, .methodLink RX5 22 yX2_init, .instanceMethod yX2_init, .fieldLink RX5 23 "SealedLedger" "log" "LSealedLedger$Log;"]
def hw_l1 : List Cond := [.classLink RX5 27 RX0, .instantiable RX0 3, .initialized RX0, .methodLink RX5 29 yX0_init, .instanceMethod yX0_init, .fieldLink RX5 30 "SealedLedger" "disk" "LSealedLedger$Disk;", .classLink RX5 34 RX3, .instantiable RX3 2, .initialized RX3, .methodLink RX5 36 yX3_init, .instanceMethod yX3_init, .fieldLink RX5 37 "SealedLedger" "proof" "LSealedLedger$Pad;", .fieldLink RX5 41 "SealedLedger" "running" "Z", .code yX5_init cX5_init 1 none, .code yX5_isAccount cX5_isAccount 1 (some .boolean), .methodLink RX5 45 yX5_isAccount, .static yX5_isAccount, .initialized RX5, .constant RX5 49 (99999 : Int32), .code yX5_limit cX5_limit 3 (some .boolean), .code yX5_isAmount cX5_isAmount 1 (some .boolean), .fieldLink RX1 18 "SealedLedger$Draft" "count" "I", .code yX1_add cX1_add 3 (some .boolean), .methodLink RX5 50 yX5_isAmount, .static yX5_isAmount, .selects RX1 yX1_add yX1_add, .methodLink RX5 53 yX1_add, .instanceMethod yX1_add, .code yX5_leg cX5_leg 3 (some .boolean), .code yX1_clear cX1_clear 1 none, .selects RX1 yX1_clear yX1_clear, .methodLink RX5 57 yX1_clear]
def hw_l2 : List Cond := [.instanceMethod yX1_clear, .code yX5_drop cX5_drop 1 none, .code yX1_isEven cX1_isEven 3 (some .boolean), .fieldLink RX2 21 "SealedLedger$Log" "count" "I", .code yX2_firstWith cX2_firstWith 3 (some .int), .code yX1_size cX1_size 1 (some .int), .code yX1_accountAt cX1_accountAt 2 (some .int), .code yX2_size cX2_size 1 (some .int), .code yX2_accountCell cX2_accountCell 2 (some .int), .code yX2_amountCell cX2_amountCell 2 (some .int), .methodLink RX2 53 yX2_accountCell, .static yX2_accountCell, .methodLink RX2 60 yX2_amountCell, .static yX2_amountCell, .code yX2_totalAt cX2_totalAt 6 (some .int), .methodLink RX2 93 Lib.Math.min.name, .static Lib.Math.min.name, .initialized "java/lang/Math", .code Lib.Math.min.name Lib.Math.min.code 2 (some .int), .methodLink RX2 98 Lib.Math.max.name, .static Lib.Math.max.name, .code Lib.Math.max.name Lib.Math.max.code 2 (some .int), .selects RX2 yX2_totalAt yX2_totalAt, .methodLink RX2 101 yX2_totalAt, .instanceMethod yX2_totalAt, .code yX2_total cX2_total 8 (some .int), .code yX1_change cX1_change 4 (some .int), .selects RX1 yX1_size yX1_size, .methodLink RX5 157 yX1_size, .instanceMethod yX1_size, .selects RX1 yX1_accountAt yX1_accountAt, .methodLink RX5 158 yX1_accountAt]
def hw_l3 : List Cond := [.instanceMethod yX1_accountAt, .selects RX2 yX2_size yX2_size, .methodLink RX5 99 yX2_size, .instanceMethod yX2_size, .selects RX2 yX2_total yX2_total, .methodLink RX5 105 yX2_total, .instanceMethod yX2_total, .selects RX1 yX1_change yX1_change, .methodLink RX5 161 yX1_change, .instanceMethod yX1_change, .code yX5_isPoor cX5_isPoor 4 (some .boolean), .code yX5_entryCells cX5_entryCells 1 (some .int), .code yX1_amountAt cX1_amountAt 2 (some .int), .static yX5_entryCells, .code yX2_sealCell cX2_sealCell 2 (some .int), .fieldLink RX2 28 "SealedLedger$Log" "end" "I", .code yX2_lastSeal cX2_lastSeal 1 (some .int), .constant RX5 172 (16777619 : Int32), .constant RX5 173 (739982445 : Int32), .code yX5_mix cX5_mix 4 (some .int), .static yX5_mix, .code yX2_leafFrom cX2_leafFrom 4 (some .int), .selects RX2 yX2_leafFrom yX2_leafFrom, .methodLink RX2 72 yX2_leafFrom, .instanceMethod yX2_leafFrom, .code yX2_acceptNext cX2_acceptNext 1 none, .methodLink RX2 44 yX1_size, .selects RX2 yX2_sealCell yX2_sealCell, .methodLink RX2 66 yX2_sealCell, .instanceMethod yX2_sealCell, .selects RX2 yX2_lastSeal yX2_lastSeal, .methodLink RX2 69 yX2_lastSeal]
def hw_l4 : List Cond := [.instanceMethod yX2_lastSeal, .selects RX2 yX2_acceptNext yX2_acceptNext, .methodLink RX2 78 yX2_acceptNext, .instanceMethod yX2_acceptNext, .methodLink RX2 57 yX1_accountAt, .selects RX1 yX1_amountAt yX1_amountAt, .methodLink RX2 63 yX1_amountAt, .instanceMethod yX1_amountAt, .code yX2_append cX2_append 5 (some .boolean), .selects RX5 yX5_isPoor yX5_isPoor, .methodLink RX5 150 yX5_isPoor, .instanceMethod yX5_isPoor, .selects RX2 yX2_append yX2_append, .methodLink RX5 153 yX2_append, .instanceMethod yX2_append, .code yX5_commitNew cX5_commitNew 2 (some .int), .code yX2_hasLegsOf cX2_hasLegsOf 5 (some .boolean), .selects RX1 yX1_isEven yX1_isEven, .methodLink RX5 60 yX1_isEven, .instanceMethod yX1_isEven, .selects RX2 yX2_firstWith yX2_firstWith, .methodLink RX5 64 yX2_firstWith, .instanceMethod yX2_firstWith, .selects RX2 yX2_hasLegsOf yX2_hasLegsOf, .methodLink RX5 71 yX2_hasLegsOf, .instanceMethod yX2_hasLegsOf, .selects RX5 yX5_commitNew yX5_commitNew, .methodLink RX5 68 yX5_commitNew, .instanceMethod yX5_commitNew, .code yX5_commit cX5_commit 3 (some .int), .code yX2_blockOf cX2_blockOf 1 (some .int), .fieldLink RX2 35 "SealedLedger$Log" "syncedEnd" "I"]
def hw_l5 : List Cond := [.methodLink RX2 31 yX2_blockOf, .static yX2_blockOf, .code yX2_syncedBlock cX2_syncedBlock 1 (some .int), .code yX2_endBlock cX2_endBlock 1 (some .int), .code yX2_cellAt cX2_cellAt 2 (some .int), .fieldLink RX0 15 "SealedLedger$Disk" "failing" "I", .fieldLink RX0 19 "SealedLedger$Disk" "done" "I", .selects RX2 yX2_cellAt yX2_cellAt, .methodLink RX0 22 yX2_cellAt, .instanceMethod yX2_cellAt, .code yX0_write cX0_write 5 (some .boolean), .fieldLink RX2 25 "SealedLedger$Log" "syncedCount" "I", .code yX2_markSynced cX2_markSynced 1 none, .code yX2_clearBehindEnd cX2_clearBehindEnd 2 none, .selects RX2 yX2_markSynced yX2_markSynced, .methodLink RX2 38 yX2_markSynced, .instanceMethod yX2_markSynced, .selects RX2 yX2_clearBehindEnd yX2_clearBehindEnd, .methodLink RX2 41 yX2_clearBehindEnd, .instanceMethod yX2_clearBehindEnd, .code yX2_clear cX2_clear 1 none, .selects RX2 yX2_clear yX2_clear, .methodLink RX5 171 yX2_clear, .instanceMethod yX2_clear, .code yX5_losePower cX5_losePower 1 none, .selects RX0 yX0_write yX0_write, .methodLink RX5 164 yX0_write, .instanceMethod yX0_write, .selects RX5 yX5_losePower yX5_losePower, .methodLink RX5 168 yX5_losePower, .instanceMethod yX5_losePower, .code yX5_writeBlock cX5_writeBlock 2 (some .boolean)]
def hw_l6 : List Cond := [.selects RX2 yX2_syncedBlock yX2_syncedBlock, .methodLink RX5 75 yX2_syncedBlock, .instanceMethod yX2_syncedBlock, .selects RX2 yX2_endBlock yX2_endBlock, .methodLink RX5 79 yX2_endBlock, .instanceMethod yX2_endBlock, .methodLink RX5 85 yX2_markSynced, .selects RX5 yX5_writeBlock yX5_writeBlock, .methodLink RX5 82 yX5_writeBlock, .instanceMethod yX5_writeBlock, .code yX5_sync cX5_sync 4 (some .int), .code yX0_failAt cX0_failAt 2 none, .selects RX0 yX0_failAt yX0_failAt, .methodLink RX5 88 yX0_failAt, .instanceMethod yX0_failAt, .code yX5_fail cX5_fail 2 (some .boolean), .code yX0_cellAt cX0_cellAt 2 (some .int), .code yX2_nextFits cX2_nextFits 1 (some .boolean), .code yX2_nextLegsAreSound cX2_nextLegsAreSound 4 (some .boolean), .selects RX2 yX2_nextFits yX2_nextFits, .methodLink RX2 105 yX2_nextFits, .instanceMethod yX2_nextFits, .selects RX2 yX2_nextLegsAreSound yX2_nextLegsAreSound, .methodLink RX2 108 yX2_nextLegsAreSound, .instanceMethod yX2_nextLegsAreSound, .code yX2_nextIsSound cX2_nextIsSound 1 (some .boolean), .methodLink RX2 81 yX2_clear, .selects RX0 yX0_cellAt yX0_cellAt, .methodLink RX2 84 yX0_cellAt, .instanceMethod yX0_cellAt, .selects RX2 yX2_nextIsSound yX2_nextIsSound, .methodLink RX2 89 yX2_nextIsSound]
def hw_l7 : List Cond := [.instanceMethod yX2_nextIsSound, .code yX2_load cX2_load 3 none, .code yX2_endsInBlock cX2_endsInBlock 1 (some .boolean), .selects RX2 yX2_load yX2_load, .methodLink RX5 92 yX2_load, .instanceMethod yX2_load, .selects RX2 yX2_endsInBlock yX2_endsInBlock, .methodLink RX5 96 yX2_endsInBlock, .instanceMethod yX2_endsInBlock, .code yX5_recover cX5_recover 1 (some .int), .code yX5_on cX5_on 1 (some .boolean), .code yX5_entries cX5_entries 1 (some .int), .code yX2_syncedSize cX2_syncedSize 1 (some .int), .selects RX2 yX2_syncedSize yX2_syncedSize, .methodLink RX5 102 yX2_syncedSize, .instanceMethod yX2_syncedSize, .code yX5_synced cX5_synced 1 (some .int), .code yX5_balance cX5_balance 3 (some .int), .code yX5_statement cX5_statement 5 (some .int), .code yX5_find cX5_find 2 (some .int), .code yX2_leafOf cX2_leafOf 2 (some .int), .selects RX2 yX2_leafOf yX2_leafOf, .methodLink RX5 109 yX2_leafOf, .instanceMethod yX2_leafOf, .code yX5_leaf cX5_leaf 2 (some .int), .code yX5_split cX5_split 3 (some .int), .methodLink RX5 174 yX5_mix, .code yX5_node cX5_node 2 (some .int), .methodLink RX4 27 yX2_leafOf, .static yX5_split, .code yX4_hash cX4_hash 5 (some .int), .methodLink RX4 13 yX4_hash]
def hw_l8 : List Cond := [.static yX4_hash, .initialized RX4, .static yX5_node, .code yX4_headOf cX4_headOf 2 (some .int), .methodLink RX5 112 yX4_headOf, .static yX4_headOf, .code yX5_head cX5_head 2 (some .int), .fieldLink RX3 15 "SealedLedger$Pad" "count" "I", .code yX3_clear cX3_clear 1 none, .code yX3_add cX3_add 2 (some .boolean), .code yX4_inclusion cX4_inclusion 7 none, .methodLink RX4 19 yX4_inclusion, .static yX4_inclusion, .selects RX3 yX3_add yX3_add, .methodLink RX4 39 yX3_add, .instanceMethod yX3_add, .code yX4_addInclusion cX4_addInclusion 4 none, .code yX3_length cX3_length 1 (some .int), .selects RX3 yX3_clear yX3_clear, .methodLink RX5 118 yX3_clear, .instanceMethod yX3_clear, .methodLink RX5 119 yX4_addInclusion, .static yX4_addInclusion, .selects RX3 yX3_length yX3_length, .methodLink RX5 123 yX3_length, .instanceMethod yX3_length, .code yX5_prove cX5_prove 3 (some .int), .code yX4_consistency cX4_consistency 8 none, .methodLink RX4 23 yX4_consistency, .static yX4_consistency, .code yX4_addConsistency cX4_addConsistency 4 none, .methodLink RX5 126 yX4_addConsistency]
def hw_l9 : List Cond := [.static yX4_addConsistency, .code yX5_extend cX5_extend 3 (some .int), .methodLink RX5 129 yX3_add, .code yX5_put cX5_put 2 (some .boolean), .code yX3_removeLast cX3_removeLast 1 (some .boolean), .selects RX3 yX3_removeLast yX3_removeLast, .methodLink RX5 131 yX3_removeLast, .instanceMethod yX3_removeLast, .code yX5_take cX5_take 1 (some .boolean), .code yX3_intAt cX3_intAt 2 (some .int), .selects RX3 yX3_intAt yX3_intAt, .methodLink RX5 134 yX3_intAt, .instanceMethod yX3_intAt, .code yX5_pad cX5_pad 2 (some .int), .code yX3_inclusionLength cX3_inclusionLength 4 (some .int), .methodLink RX3 34 yX3_intAt, .code yX3_shownAbove cX3_shownAbove 7 (some .int), .methodLink RX3 23 yX3_shownAbove, .static yX3_shownAbove, .methodLink RX3 19 yX3_inclusionLength, .static yX3_inclusionLength, .code yX3_showsInclusion cX3_showsInclusion 5 (some .boolean), .selects RX3 yX3_showsInclusion yX3_showsInclusion, .methodLink RX5 137 yX3_showsInclusion, .instanceMethod yX3_showsInclusion, .code yX5_included cX5_included 5 (some .boolean), .code yX3_consistencySteps cX3_consistencySteps 4 (some .int), .code yX3_isOwn cX3_isOwn 3 (some .boolean), .code yX3_shownOld cX3_shownOld 6 (some .int), .methodLink RX3 38 yX3_shownOld, .static yX3_shownOld, .code yX3_shownNew cX3_shownNew 7 (some .int)]
def hw_l10 : List Cond := [.methodLink RX3 41 yX3_shownNew, .static yX3_shownNew, .methodLink RX3 27 yX3_consistencySteps, .static yX3_consistencySteps, .methodLink RX3 30 yX3_isOwn, .static yX3_isOwn, .code yX3_showsConsistency cX3_showsConsistency 8 (some .boolean), .selects RX3 yX3_showsConsistency yX3_showsConsistency, .methodLink RX5 141 yX3_showsConsistency, .instanceMethod yX3_showsConsistency, .code yX5_consistent cX5_consistent 5 (some .boolean), .methodLink RX5 144 yX0_cellAt, .code yX5_cell cX5_cell 2 (some .int), .code yX0_writesDone cX0_writesDone 1 (some .int), .selects RX0 yX0_writesDone yX0_writesDone, .methodLink RX5 147 yX0_writesDone, .instanceMethod yX0_writesDone, .code yX5_writes cX5_writes 1 (some .int)]
def hw_all : List Cond := hw_l0 ++ (hw_l1 ++ (hw_l2 ++ (hw_l3 ++ (hw_l4 ++ (hw_l5 ++ (hw_l6 ++ (hw_l7 ++ (hw_l8 ++ (hw_l9 ++ (hw_l10 ++ (u_ws RX0 TX0 3 ++ (u_ws RX1 TX1 3 ++ (u_ws RX2 TX2 7 ++ (u_ws RX3 TX3 2 ++ (u_ws RX5 TX5 6 ++ (u_ws RX6 TX6 22))))))))))))))))
theorem hw_i0 {w : Cond} (h : w ∈ hw_l0) : w ∈ hw_all := List.mem_append_left _ h
theorem hw_i1 {w : Cond} (h : w ∈ hw_l1) : w ∈ hw_all := List.mem_append_right _ (List.mem_append_left _ h)
theorem hw_i2 {w : Cond} (h : w ∈ hw_l2) : w ∈ hw_all := List.mem_append_right _ (List.mem_append_right _ (List.mem_append_left _ h))
theorem hw_i3 {w : Cond} (h : w ∈ hw_l3) : w ∈ hw_all := List.mem_append_right _ (List.mem_append_right _ (List.mem_append_right _ (List.mem_append_left _ h)))
theorem hw_i4 {w : Cond} (h : w ∈ hw_l4) : w ∈ hw_all := List.mem_append_right _ (List.mem_append_right _ (List.mem_append_right _ (List.mem_append_right _ (List.mem_append_left _ h))))
theorem hw_i5 {w : Cond} (h : w ∈ hw_l5) : w ∈ hw_all := List.mem_append_right _ (List.mem_append_right _ (List.mem_append_right _ (List.mem_append_right _ (List.mem_append_right _ (List.mem_append_left _ h)))))
theorem hw_i6 {w : Cond} (h : w ∈ hw_l6) : w ∈ hw_all := List.mem_append_right _ (List.mem_append_right _ (List.mem_append_right _ (List.mem_append_right _ (List.mem_append_right _ (List.mem_append_right _ (List.mem_append_left _ h))))))
theorem hw_i7 {w : Cond} (h : w ∈ hw_l7) : w ∈ hw_all := List.mem_append_right _ (List.mem_append_right _ (List.mem_append_right _ (List.mem_append_right _ (List.mem_append_right _ (List.mem_append_right _ (List.mem_append_right _ (List.mem_append_left _ h)))))))
theorem hw_i8 {w : Cond} (h : w ∈ hw_l8) : w ∈ hw_all := List.mem_append_right _ (List.mem_append_right _ (List.mem_append_right _ (List.mem_append_right _ (List.mem_append_right _ (List.mem_append_right _ (List.mem_append_right _ (List.mem_append_right _ (List.mem_append_left _ h))))))))
theorem hw_i9 {w : Cond} (h : w ∈ hw_l9) : w ∈ hw_all := List.mem_append_right _ (List.mem_append_right _ (List.mem_append_right _ (List.mem_append_right _ (List.mem_append_right _ (List.mem_append_right _ (List.mem_append_right _ (List.mem_append_right _ (List.mem_append_right _ (List.mem_append_left _ h)))))))))
theorem hw_i10 {w : Cond} (h : w ∈ hw_l10) : w ∈ hw_all := List.mem_append_right _ (List.mem_append_right _ (List.mem_append_right _ (List.mem_append_right _ (List.mem_append_right _ (List.mem_append_right _ (List.mem_append_right _ (List.mem_append_right _ (List.mem_append_right _ (List.mem_append_right _ (List.mem_append_left _ h))))))))))
theorem in_X0 : ∀ w ∈ u_ws RX0 TX0 3, w ∈ hw_all := fun w h => List.mem_append_right _ (List.mem_append_right _ (List.mem_append_right _ (List.mem_append_right _ (List.mem_append_right _ (List.mem_append_right _ (List.mem_append_right _ (List.mem_append_right _ (List.mem_append_right _ (List.mem_append_right _ (List.mem_append_right _ (List.mem_append_left _ h)))))))))))
theorem in_X1 : ∀ w ∈ u_ws RX1 TX1 3, w ∈ hw_all := fun w h => List.mem_append_right _ (List.mem_append_right _ (List.mem_append_right _ (List.mem_append_right _ (List.mem_append_right _ (List.mem_append_right _ (List.mem_append_right _ (List.mem_append_right _ (List.mem_append_right _ (List.mem_append_right _ (List.mem_append_right _ (List.mem_append_right _ (List.mem_append_left _ h))))))))))))
theorem in_X2 : ∀ w ∈ u_ws RX2 TX2 7, w ∈ hw_all := fun w h => List.mem_append_right _ (List.mem_append_right _ (List.mem_append_right _ (List.mem_append_right _ (List.mem_append_right _ (List.mem_append_right _ (List.mem_append_right _ (List.mem_append_right _ (List.mem_append_right _ (List.mem_append_right _ (List.mem_append_right _ (List.mem_append_right _ (List.mem_append_right _ (List.mem_append_left _ h)))))))))))))
theorem in_X3 : ∀ w ∈ u_ws RX3 TX3 2, w ∈ hw_all := fun w h => List.mem_append_right _ (List.mem_append_right _ (List.mem_append_right _ (List.mem_append_right _ (List.mem_append_right _ (List.mem_append_right _ (List.mem_append_right _ (List.mem_append_right _ (List.mem_append_right _ (List.mem_append_right _ (List.mem_append_right _ (List.mem_append_right _ (List.mem_append_right _ (List.mem_append_right _ (List.mem_append_left _ h))))))))))))))
theorem in_X5 : ∀ w ∈ u_ws RX5 TX5 6, w ∈ hw_all := fun w h => List.mem_append_right _ (List.mem_append_right _ (List.mem_append_right _ (List.mem_append_right _ (List.mem_append_right _ (List.mem_append_right _ (List.mem_append_right _ (List.mem_append_right _ (List.mem_append_right _ (List.mem_append_right _ (List.mem_append_right _ (List.mem_append_right _ (List.mem_append_right _ (List.mem_append_right _ (List.mem_append_right _ (List.mem_append_left _ h)))))))))))))))
theorem in_X6 : ∀ w ∈ u_ws RX6 TX6 22, w ∈ hw_all := fun w h => List.mem_append_right _ (List.mem_append_right _ (List.mem_append_right _ (List.mem_append_right _ (List.mem_append_right _ (List.mem_append_right _ (List.mem_append_right _ (List.mem_append_right _ (List.mem_append_right _ (List.mem_append_right _ (List.mem_append_right _ (List.mem_append_right _ (List.mem_append_right _ (List.mem_append_right _ (List.mem_append_right _ (List.mem_append_right _ (h))))))))))))))))
theorem mw_0 : (.methodLink RX1 3 objectInit : Cond) ∈ hw_all := hw_i0 (List.mem_of_getElem? (i := 0) rfl)
theorem mw_1 : (.instanceMethod objectInit : Cond) ∈ hw_all := hw_i0 (List.mem_of_getElem? (i := 1) rfl)
theorem mw_2 : (.code objectInit ⟨#[0xb1]⟩ 1 none : Cond) ∈ hw_all := hw_i0 (List.mem_of_getElem? (i := 2) rfl)
theorem mw_3 : (.arrayClass .int : Cond) ∈ hw_all := hw_i0 (List.mem_of_getElem? (i := 3) rfl)
theorem mw_4 : (.fieldLink RX1 9 "SealedLedger$Draft" "accounts" "[I" : Cond) ∈ hw_all := hw_i0 (List.mem_of_getElem? (i := 4) rfl)
theorem mw_5 : (.fieldLink RX1 15 "SealedLedger$Draft" "amounts" "[I" : Cond) ∈ hw_all := hw_i0 (List.mem_of_getElem? (i := 5) rfl)
theorem mw_6 : (.code yX1_init cX1_init 1 none : Cond) ∈ hw_all := hw_i0 (List.mem_of_getElem? (i := 6) rfl)
theorem mw_7 : (.methodLink RX2 3 objectInit : Cond) ∈ hw_all := hw_i0 (List.mem_of_getElem? (i := 7) rfl)
theorem mw_8 : (.fieldLink RX2 9 "SealedLedger$Log" "cells" "[I" : Cond) ∈ hw_all := hw_i0 (List.mem_of_getElem? (i := 8) rfl)
theorem mw_9 : (.fieldLink RX2 15 "SealedLedger$Log" "starts" "[I" : Cond) ∈ hw_all := hw_i0 (List.mem_of_getElem? (i := 9) rfl)
theorem mw_10 : (.fieldLink RX2 18 "SealedLedger$Log" "leaves" "[I" : Cond) ∈ hw_all := hw_i0 (List.mem_of_getElem? (i := 10) rfl)
theorem mw_11 : (.code yX2_init cX2_init 1 none : Cond) ∈ hw_all := hw_i0 (List.mem_of_getElem? (i := 11) rfl)
theorem mw_12 : (.methodLink RX0 3 objectInit : Cond) ∈ hw_all := hw_i0 (List.mem_of_getElem? (i := 12) rfl)
theorem mw_13 : (.fieldLink RX0 9 "SealedLedger$Disk" "cells" "[I" : Cond) ∈ hw_all := hw_i0 (List.mem_of_getElem? (i := 13) rfl)
theorem mw_14 : (.code yX0_init cX0_init 1 none : Cond) ∈ hw_all := hw_i0 (List.mem_of_getElem? (i := 14) rfl)
theorem mw_15 : (.methodLink RX3 3 objectInit : Cond) ∈ hw_all := hw_i0 (List.mem_of_getElem? (i := 15) rfl)
theorem mw_16 : (.fieldLink RX3 9 "SealedLedger$Pad" "ints" "[I" : Cond) ∈ hw_all := hw_i0 (List.mem_of_getElem? (i := 16) rfl)
theorem mw_17 : (.code yX3_init cX3_init 1 none : Cond) ∈ hw_all := hw_i0 (List.mem_of_getElem? (i := 17) rfl)
theorem mw_18 : (.methodLink RX5 3 objectInit : Cond) ∈ hw_all := hw_i0 (List.mem_of_getElem? (i := 18) rfl)
theorem mw_19 : (.fieldLink RX5 9 "SealedLedger" "limits" "[I" : Cond) ∈ hw_all := hw_i0 (List.mem_of_getElem? (i := 19) rfl)
theorem mw_20 : (.classLink RX5 13 RX1 : Cond) ∈ hw_all := hw_i0 (List.mem_of_getElem? (i := 20) rfl)
theorem mw_21 : (.instantiable RX1 3 : Cond) ∈ hw_all := hw_i0 (List.mem_of_getElem? (i := 21) rfl)
theorem mw_22 : (.initialized RX1 : Cond) ∈ hw_all := hw_i0 (List.mem_of_getElem? (i := 22) rfl)
theorem mw_23 : (.methodLink RX5 15 yX1_init : Cond) ∈ hw_all := hw_i0 (List.mem_of_getElem? (i := 23) rfl)
theorem mw_24 : (.instanceMethod yX1_init : Cond) ∈ hw_all := hw_i0 (List.mem_of_getElem? (i := 24) rfl)
theorem mw_25 : (.fieldLink RX5 16 "SealedLedger" "draft" "LSealedLedger$Draft;" : Cond) ∈ hw_all := hw_i0 (List.mem_of_getElem? (i := 25) rfl)
theorem mw_26 : (.classLink RX5 20 RX2 : Cond) ∈ hw_all := hw_i0 (List.mem_of_getElem? (i := 26) rfl)
theorem mw_27 : (.instantiable RX2 7 : Cond) ∈ hw_all := hw_i0 (List.mem_of_getElem? (i := 27) rfl)
theorem mw_28 : (.initialized RX2 : Cond) ∈ hw_all := hw_i0 (List.mem_of_getElem? (i := 28) rfl)
theorem mw_29 : (.methodLink RX5 22 yX2_init : Cond) ∈ hw_all := hw_i0 (List.mem_of_getElem? (i := 29) rfl)
theorem mw_30 : (.instanceMethod yX2_init : Cond) ∈ hw_all := hw_i0 (List.mem_of_getElem? (i := 30) rfl)
theorem mw_31 : (.fieldLink RX5 23 "SealedLedger" "log" "LSealedLedger$Log;" : Cond) ∈ hw_all := hw_i0 (List.mem_of_getElem? (i := 31) rfl)
theorem mw_32 : (.classLink RX5 27 RX0 : Cond) ∈ hw_all := hw_i1 (List.mem_of_getElem? (i := 0) rfl)
theorem mw_33 : (.instantiable RX0 3 : Cond) ∈ hw_all := hw_i1 (List.mem_of_getElem? (i := 1) rfl)
theorem mw_34 : (.initialized RX0 : Cond) ∈ hw_all := hw_i1 (List.mem_of_getElem? (i := 2) rfl)
theorem mw_35 : (.methodLink RX5 29 yX0_init : Cond) ∈ hw_all := hw_i1 (List.mem_of_getElem? (i := 3) rfl)
theorem mw_36 : (.instanceMethod yX0_init : Cond) ∈ hw_all := hw_i1 (List.mem_of_getElem? (i := 4) rfl)
theorem mw_37 : (.fieldLink RX5 30 "SealedLedger" "disk" "LSealedLedger$Disk;" : Cond) ∈ hw_all := hw_i1 (List.mem_of_getElem? (i := 5) rfl)
theorem mw_38 : (.classLink RX5 34 RX3 : Cond) ∈ hw_all := hw_i1 (List.mem_of_getElem? (i := 6) rfl)
theorem mw_39 : (.instantiable RX3 2 : Cond) ∈ hw_all := hw_i1 (List.mem_of_getElem? (i := 7) rfl)
theorem mw_40 : (.initialized RX3 : Cond) ∈ hw_all := hw_i1 (List.mem_of_getElem? (i := 8) rfl)
theorem mw_41 : (.methodLink RX5 36 yX3_init : Cond) ∈ hw_all := hw_i1 (List.mem_of_getElem? (i := 9) rfl)
theorem mw_42 : (.instanceMethod yX3_init : Cond) ∈ hw_all := hw_i1 (List.mem_of_getElem? (i := 10) rfl)
theorem mw_43 : (.fieldLink RX5 37 "SealedLedger" "proof" "LSealedLedger$Pad;" : Cond) ∈ hw_all := hw_i1 (List.mem_of_getElem? (i := 11) rfl)
theorem mw_44 : (.fieldLink RX5 41 "SealedLedger" "running" "Z" : Cond) ∈ hw_all := hw_i1 (List.mem_of_getElem? (i := 12) rfl)
theorem mw_45 : (.code yX5_init cX5_init 1 none : Cond) ∈ hw_all := hw_i1 (List.mem_of_getElem? (i := 13) rfl)
theorem mw_46 : (.code yX5_isAccount cX5_isAccount 1 (some .boolean) : Cond) ∈ hw_all := hw_i1 (List.mem_of_getElem? (i := 14) rfl)
theorem mw_47 : (.methodLink RX5 45 yX5_isAccount : Cond) ∈ hw_all := hw_i1 (List.mem_of_getElem? (i := 15) rfl)
theorem mw_48 : (.static yX5_isAccount : Cond) ∈ hw_all := hw_i1 (List.mem_of_getElem? (i := 16) rfl)
theorem mw_49 : (.initialized RX5 : Cond) ∈ hw_all := hw_i1 (List.mem_of_getElem? (i := 17) rfl)
theorem mw_50 : (.constant RX5 49 (99999 : Int32) : Cond) ∈ hw_all := hw_i1 (List.mem_of_getElem? (i := 18) rfl)
theorem mw_51 : (.code yX5_limit cX5_limit 3 (some .boolean) : Cond) ∈ hw_all := hw_i1 (List.mem_of_getElem? (i := 19) rfl)
theorem mw_52 : (.code yX5_isAmount cX5_isAmount 1 (some .boolean) : Cond) ∈ hw_all := hw_i1 (List.mem_of_getElem? (i := 20) rfl)
theorem mw_53 : (.fieldLink RX1 18 "SealedLedger$Draft" "count" "I" : Cond) ∈ hw_all := hw_i1 (List.mem_of_getElem? (i := 21) rfl)
theorem mw_54 : (.code yX1_add cX1_add 3 (some .boolean) : Cond) ∈ hw_all := hw_i1 (List.mem_of_getElem? (i := 22) rfl)
theorem mw_55 : (.methodLink RX5 50 yX5_isAmount : Cond) ∈ hw_all := hw_i1 (List.mem_of_getElem? (i := 23) rfl)
theorem mw_56 : (.static yX5_isAmount : Cond) ∈ hw_all := hw_i1 (List.mem_of_getElem? (i := 24) rfl)
theorem mw_57 : (.selects RX1 yX1_add yX1_add : Cond) ∈ hw_all := hw_i1 (List.mem_of_getElem? (i := 25) rfl)
theorem mw_58 : (.methodLink RX5 53 yX1_add : Cond) ∈ hw_all := hw_i1 (List.mem_of_getElem? (i := 26) rfl)
theorem mw_59 : (.instanceMethod yX1_add : Cond) ∈ hw_all := hw_i1 (List.mem_of_getElem? (i := 27) rfl)
theorem mw_60 : (.code yX5_leg cX5_leg 3 (some .boolean) : Cond) ∈ hw_all := hw_i1 (List.mem_of_getElem? (i := 28) rfl)
theorem mw_61 : (.code yX1_clear cX1_clear 1 none : Cond) ∈ hw_all := hw_i1 (List.mem_of_getElem? (i := 29) rfl)
theorem mw_62 : (.selects RX1 yX1_clear yX1_clear : Cond) ∈ hw_all := hw_i1 (List.mem_of_getElem? (i := 30) rfl)
theorem mw_63 : (.methodLink RX5 57 yX1_clear : Cond) ∈ hw_all := hw_i1 (List.mem_of_getElem? (i := 31) rfl)
theorem mw_64 : (.instanceMethod yX1_clear : Cond) ∈ hw_all := hw_i2 (List.mem_of_getElem? (i := 0) rfl)
theorem mw_65 : (.code yX5_drop cX5_drop 1 none : Cond) ∈ hw_all := hw_i2 (List.mem_of_getElem? (i := 1) rfl)
theorem mw_66 : (.code yX1_isEven cX1_isEven 3 (some .boolean) : Cond) ∈ hw_all := hw_i2 (List.mem_of_getElem? (i := 2) rfl)
theorem mw_67 : (.fieldLink RX2 21 "SealedLedger$Log" "count" "I" : Cond) ∈ hw_all := hw_i2 (List.mem_of_getElem? (i := 3) rfl)
theorem mw_68 : (.code yX2_firstWith cX2_firstWith 3 (some .int) : Cond) ∈ hw_all := hw_i2 (List.mem_of_getElem? (i := 4) rfl)
theorem mw_69 : (.code yX1_size cX1_size 1 (some .int) : Cond) ∈ hw_all := hw_i2 (List.mem_of_getElem? (i := 5) rfl)
theorem mw_70 : (.code yX1_accountAt cX1_accountAt 2 (some .int) : Cond) ∈ hw_all := hw_i2 (List.mem_of_getElem? (i := 6) rfl)
theorem mw_71 : (.code yX2_size cX2_size 1 (some .int) : Cond) ∈ hw_all := hw_i2 (List.mem_of_getElem? (i := 7) rfl)
theorem mw_72 : (.code yX2_accountCell cX2_accountCell 2 (some .int) : Cond) ∈ hw_all := hw_i2 (List.mem_of_getElem? (i := 8) rfl)
theorem mw_73 : (.code yX2_amountCell cX2_amountCell 2 (some .int) : Cond) ∈ hw_all := hw_i2 (List.mem_of_getElem? (i := 9) rfl)
theorem mw_74 : (.methodLink RX2 53 yX2_accountCell : Cond) ∈ hw_all := hw_i2 (List.mem_of_getElem? (i := 10) rfl)
theorem mw_75 : (.static yX2_accountCell : Cond) ∈ hw_all := hw_i2 (List.mem_of_getElem? (i := 11) rfl)
theorem mw_76 : (.methodLink RX2 60 yX2_amountCell : Cond) ∈ hw_all := hw_i2 (List.mem_of_getElem? (i := 12) rfl)
theorem mw_77 : (.static yX2_amountCell : Cond) ∈ hw_all := hw_i2 (List.mem_of_getElem? (i := 13) rfl)
theorem mw_78 : (.code yX2_totalAt cX2_totalAt 6 (some .int) : Cond) ∈ hw_all := hw_i2 (List.mem_of_getElem? (i := 14) rfl)
theorem mw_79 : (.methodLink RX2 93 Lib.Math.min.name : Cond) ∈ hw_all := hw_i2 (List.mem_of_getElem? (i := 15) rfl)
theorem mw_80 : (.static Lib.Math.min.name : Cond) ∈ hw_all := hw_i2 (List.mem_of_getElem? (i := 16) rfl)
theorem mw_81 : (.initialized "java/lang/Math" : Cond) ∈ hw_all := hw_i2 (List.mem_of_getElem? (i := 17) rfl)
theorem mw_82 : (.code Lib.Math.min.name Lib.Math.min.code 2 (some .int) : Cond) ∈ hw_all := hw_i2 (List.mem_of_getElem? (i := 18) rfl)
theorem mw_83 : (.methodLink RX2 98 Lib.Math.max.name : Cond) ∈ hw_all := hw_i2 (List.mem_of_getElem? (i := 19) rfl)
theorem mw_84 : (.static Lib.Math.max.name : Cond) ∈ hw_all := hw_i2 (List.mem_of_getElem? (i := 20) rfl)
theorem mw_85 : (.code Lib.Math.max.name Lib.Math.max.code 2 (some .int) : Cond) ∈ hw_all := hw_i2 (List.mem_of_getElem? (i := 21) rfl)
theorem mw_86 : (.selects RX2 yX2_totalAt yX2_totalAt : Cond) ∈ hw_all := hw_i2 (List.mem_of_getElem? (i := 22) rfl)
theorem mw_87 : (.methodLink RX2 101 yX2_totalAt : Cond) ∈ hw_all := hw_i2 (List.mem_of_getElem? (i := 23) rfl)
theorem mw_88 : (.instanceMethod yX2_totalAt : Cond) ∈ hw_all := hw_i2 (List.mem_of_getElem? (i := 24) rfl)
theorem mw_89 : (.code yX2_total cX2_total 8 (some .int) : Cond) ∈ hw_all := hw_i2 (List.mem_of_getElem? (i := 25) rfl)
theorem mw_90 : (.code yX1_change cX1_change 4 (some .int) : Cond) ∈ hw_all := hw_i2 (List.mem_of_getElem? (i := 26) rfl)
theorem mw_91 : (.selects RX1 yX1_size yX1_size : Cond) ∈ hw_all := hw_i2 (List.mem_of_getElem? (i := 27) rfl)
theorem mw_92 : (.methodLink RX5 157 yX1_size : Cond) ∈ hw_all := hw_i2 (List.mem_of_getElem? (i := 28) rfl)
theorem mw_93 : (.instanceMethod yX1_size : Cond) ∈ hw_all := hw_i2 (List.mem_of_getElem? (i := 29) rfl)
theorem mw_94 : (.selects RX1 yX1_accountAt yX1_accountAt : Cond) ∈ hw_all := hw_i2 (List.mem_of_getElem? (i := 30) rfl)
theorem mw_95 : (.methodLink RX5 158 yX1_accountAt : Cond) ∈ hw_all := hw_i2 (List.mem_of_getElem? (i := 31) rfl)
theorem mw_96 : (.instanceMethod yX1_accountAt : Cond) ∈ hw_all := hw_i3 (List.mem_of_getElem? (i := 0) rfl)
theorem mw_97 : (.selects RX2 yX2_size yX2_size : Cond) ∈ hw_all := hw_i3 (List.mem_of_getElem? (i := 1) rfl)
theorem mw_98 : (.methodLink RX5 99 yX2_size : Cond) ∈ hw_all := hw_i3 (List.mem_of_getElem? (i := 2) rfl)
theorem mw_99 : (.instanceMethod yX2_size : Cond) ∈ hw_all := hw_i3 (List.mem_of_getElem? (i := 3) rfl)
theorem mw_100 : (.selects RX2 yX2_total yX2_total : Cond) ∈ hw_all := hw_i3 (List.mem_of_getElem? (i := 4) rfl)
theorem mw_101 : (.methodLink RX5 105 yX2_total : Cond) ∈ hw_all := hw_i3 (List.mem_of_getElem? (i := 5) rfl)
theorem mw_102 : (.instanceMethod yX2_total : Cond) ∈ hw_all := hw_i3 (List.mem_of_getElem? (i := 6) rfl)
theorem mw_103 : (.selects RX1 yX1_change yX1_change : Cond) ∈ hw_all := hw_i3 (List.mem_of_getElem? (i := 7) rfl)
theorem mw_104 : (.methodLink RX5 161 yX1_change : Cond) ∈ hw_all := hw_i3 (List.mem_of_getElem? (i := 8) rfl)
theorem mw_105 : (.instanceMethod yX1_change : Cond) ∈ hw_all := hw_i3 (List.mem_of_getElem? (i := 9) rfl)
theorem mw_106 : (.code yX5_isPoor cX5_isPoor 4 (some .boolean) : Cond) ∈ hw_all := hw_i3 (List.mem_of_getElem? (i := 10) rfl)
theorem mw_107 : (.code yX5_entryCells cX5_entryCells 1 (some .int) : Cond) ∈ hw_all := hw_i3 (List.mem_of_getElem? (i := 11) rfl)
theorem mw_108 : (.code yX1_amountAt cX1_amountAt 2 (some .int) : Cond) ∈ hw_all := hw_i3 (List.mem_of_getElem? (i := 12) rfl)
theorem mw_109 : (.static yX5_entryCells : Cond) ∈ hw_all := hw_i3 (List.mem_of_getElem? (i := 13) rfl)
theorem mw_110 : (.code yX2_sealCell cX2_sealCell 2 (some .int) : Cond) ∈ hw_all := hw_i3 (List.mem_of_getElem? (i := 14) rfl)
theorem mw_111 : (.fieldLink RX2 28 "SealedLedger$Log" "end" "I" : Cond) ∈ hw_all := hw_i3 (List.mem_of_getElem? (i := 15) rfl)
theorem mw_112 : (.code yX2_lastSeal cX2_lastSeal 1 (some .int) : Cond) ∈ hw_all := hw_i3 (List.mem_of_getElem? (i := 16) rfl)
theorem mw_113 : (.constant RX5 172 (16777619 : Int32) : Cond) ∈ hw_all := hw_i3 (List.mem_of_getElem? (i := 17) rfl)
theorem mw_114 : (.constant RX5 173 (739982445 : Int32) : Cond) ∈ hw_all := hw_i3 (List.mem_of_getElem? (i := 18) rfl)
theorem mw_115 : (.code yX5_mix cX5_mix 4 (some .int) : Cond) ∈ hw_all := hw_i3 (List.mem_of_getElem? (i := 19) rfl)
theorem mw_116 : (.static yX5_mix : Cond) ∈ hw_all := hw_i3 (List.mem_of_getElem? (i := 20) rfl)
theorem mw_117 : (.code yX2_leafFrom cX2_leafFrom 4 (some .int) : Cond) ∈ hw_all := hw_i3 (List.mem_of_getElem? (i := 21) rfl)
theorem mw_118 : (.selects RX2 yX2_leafFrom yX2_leafFrom : Cond) ∈ hw_all := hw_i3 (List.mem_of_getElem? (i := 22) rfl)
theorem mw_119 : (.methodLink RX2 72 yX2_leafFrom : Cond) ∈ hw_all := hw_i3 (List.mem_of_getElem? (i := 23) rfl)
theorem mw_120 : (.instanceMethod yX2_leafFrom : Cond) ∈ hw_all := hw_i3 (List.mem_of_getElem? (i := 24) rfl)
theorem mw_121 : (.code yX2_acceptNext cX2_acceptNext 1 none : Cond) ∈ hw_all := hw_i3 (List.mem_of_getElem? (i := 25) rfl)
theorem mw_122 : (.methodLink RX2 44 yX1_size : Cond) ∈ hw_all := hw_i3 (List.mem_of_getElem? (i := 26) rfl)
theorem mw_123 : (.selects RX2 yX2_sealCell yX2_sealCell : Cond) ∈ hw_all := hw_i3 (List.mem_of_getElem? (i := 27) rfl)
theorem mw_124 : (.methodLink RX2 66 yX2_sealCell : Cond) ∈ hw_all := hw_i3 (List.mem_of_getElem? (i := 28) rfl)
theorem mw_125 : (.instanceMethod yX2_sealCell : Cond) ∈ hw_all := hw_i3 (List.mem_of_getElem? (i := 29) rfl)
theorem mw_126 : (.selects RX2 yX2_lastSeal yX2_lastSeal : Cond) ∈ hw_all := hw_i3 (List.mem_of_getElem? (i := 30) rfl)
theorem mw_127 : (.methodLink RX2 69 yX2_lastSeal : Cond) ∈ hw_all := hw_i3 (List.mem_of_getElem? (i := 31) rfl)
theorem mw_128 : (.instanceMethod yX2_lastSeal : Cond) ∈ hw_all := hw_i4 (List.mem_of_getElem? (i := 0) rfl)
theorem mw_129 : (.selects RX2 yX2_acceptNext yX2_acceptNext : Cond) ∈ hw_all := hw_i4 (List.mem_of_getElem? (i := 1) rfl)
theorem mw_130 : (.methodLink RX2 78 yX2_acceptNext : Cond) ∈ hw_all := hw_i4 (List.mem_of_getElem? (i := 2) rfl)
theorem mw_131 : (.instanceMethod yX2_acceptNext : Cond) ∈ hw_all := hw_i4 (List.mem_of_getElem? (i := 3) rfl)
theorem mw_132 : (.methodLink RX2 57 yX1_accountAt : Cond) ∈ hw_all := hw_i4 (List.mem_of_getElem? (i := 4) rfl)
theorem mw_133 : (.selects RX1 yX1_amountAt yX1_amountAt : Cond) ∈ hw_all := hw_i4 (List.mem_of_getElem? (i := 5) rfl)
theorem mw_134 : (.methodLink RX2 63 yX1_amountAt : Cond) ∈ hw_all := hw_i4 (List.mem_of_getElem? (i := 6) rfl)
theorem mw_135 : (.instanceMethod yX1_amountAt : Cond) ∈ hw_all := hw_i4 (List.mem_of_getElem? (i := 7) rfl)
theorem mw_136 : (.code yX2_append cX2_append 5 (some .boolean) : Cond) ∈ hw_all := hw_i4 (List.mem_of_getElem? (i := 8) rfl)
theorem mw_137 : (.selects RX5 yX5_isPoor yX5_isPoor : Cond) ∈ hw_all := hw_i4 (List.mem_of_getElem? (i := 9) rfl)
theorem mw_138 : (.methodLink RX5 150 yX5_isPoor : Cond) ∈ hw_all := hw_i4 (List.mem_of_getElem? (i := 10) rfl)
theorem mw_139 : (.instanceMethod yX5_isPoor : Cond) ∈ hw_all := hw_i4 (List.mem_of_getElem? (i := 11) rfl)
theorem mw_140 : (.selects RX2 yX2_append yX2_append : Cond) ∈ hw_all := hw_i4 (List.mem_of_getElem? (i := 12) rfl)
theorem mw_141 : (.methodLink RX5 153 yX2_append : Cond) ∈ hw_all := hw_i4 (List.mem_of_getElem? (i := 13) rfl)
theorem mw_142 : (.instanceMethod yX2_append : Cond) ∈ hw_all := hw_i4 (List.mem_of_getElem? (i := 14) rfl)
theorem mw_143 : (.code yX5_commitNew cX5_commitNew 2 (some .int) : Cond) ∈ hw_all := hw_i4 (List.mem_of_getElem? (i := 15) rfl)
theorem mw_144 : (.code yX2_hasLegsOf cX2_hasLegsOf 5 (some .boolean) : Cond) ∈ hw_all := hw_i4 (List.mem_of_getElem? (i := 16) rfl)
theorem mw_145 : (.selects RX1 yX1_isEven yX1_isEven : Cond) ∈ hw_all := hw_i4 (List.mem_of_getElem? (i := 17) rfl)
theorem mw_146 : (.methodLink RX5 60 yX1_isEven : Cond) ∈ hw_all := hw_i4 (List.mem_of_getElem? (i := 18) rfl)
theorem mw_147 : (.instanceMethod yX1_isEven : Cond) ∈ hw_all := hw_i4 (List.mem_of_getElem? (i := 19) rfl)
theorem mw_148 : (.selects RX2 yX2_firstWith yX2_firstWith : Cond) ∈ hw_all := hw_i4 (List.mem_of_getElem? (i := 20) rfl)
theorem mw_149 : (.methodLink RX5 64 yX2_firstWith : Cond) ∈ hw_all := hw_i4 (List.mem_of_getElem? (i := 21) rfl)
theorem mw_150 : (.instanceMethod yX2_firstWith : Cond) ∈ hw_all := hw_i4 (List.mem_of_getElem? (i := 22) rfl)
theorem mw_151 : (.selects RX2 yX2_hasLegsOf yX2_hasLegsOf : Cond) ∈ hw_all := hw_i4 (List.mem_of_getElem? (i := 23) rfl)
theorem mw_152 : (.methodLink RX5 71 yX2_hasLegsOf : Cond) ∈ hw_all := hw_i4 (List.mem_of_getElem? (i := 24) rfl)
theorem mw_153 : (.instanceMethod yX2_hasLegsOf : Cond) ∈ hw_all := hw_i4 (List.mem_of_getElem? (i := 25) rfl)
theorem mw_154 : (.selects RX5 yX5_commitNew yX5_commitNew : Cond) ∈ hw_all := hw_i4 (List.mem_of_getElem? (i := 26) rfl)
theorem mw_155 : (.methodLink RX5 68 yX5_commitNew : Cond) ∈ hw_all := hw_i4 (List.mem_of_getElem? (i := 27) rfl)
theorem mw_156 : (.instanceMethod yX5_commitNew : Cond) ∈ hw_all := hw_i4 (List.mem_of_getElem? (i := 28) rfl)
theorem mw_157 : (.code yX5_commit cX5_commit 3 (some .int) : Cond) ∈ hw_all := hw_i4 (List.mem_of_getElem? (i := 29) rfl)
theorem mw_158 : (.code yX2_blockOf cX2_blockOf 1 (some .int) : Cond) ∈ hw_all := hw_i4 (List.mem_of_getElem? (i := 30) rfl)
theorem mw_159 : (.fieldLink RX2 35 "SealedLedger$Log" "syncedEnd" "I" : Cond) ∈ hw_all := hw_i4 (List.mem_of_getElem? (i := 31) rfl)
theorem mw_160 : (.methodLink RX2 31 yX2_blockOf : Cond) ∈ hw_all := hw_i5 (List.mem_of_getElem? (i := 0) rfl)
theorem mw_161 : (.static yX2_blockOf : Cond) ∈ hw_all := hw_i5 (List.mem_of_getElem? (i := 1) rfl)
theorem mw_162 : (.code yX2_syncedBlock cX2_syncedBlock 1 (some .int) : Cond) ∈ hw_all := hw_i5 (List.mem_of_getElem? (i := 2) rfl)
theorem mw_163 : (.code yX2_endBlock cX2_endBlock 1 (some .int) : Cond) ∈ hw_all := hw_i5 (List.mem_of_getElem? (i := 3) rfl)
theorem mw_164 : (.code yX2_cellAt cX2_cellAt 2 (some .int) : Cond) ∈ hw_all := hw_i5 (List.mem_of_getElem? (i := 4) rfl)
theorem mw_165 : (.fieldLink RX0 15 "SealedLedger$Disk" "failing" "I" : Cond) ∈ hw_all := hw_i5 (List.mem_of_getElem? (i := 5) rfl)
theorem mw_166 : (.fieldLink RX0 19 "SealedLedger$Disk" "done" "I" : Cond) ∈ hw_all := hw_i5 (List.mem_of_getElem? (i := 6) rfl)
theorem mw_167 : (.selects RX2 yX2_cellAt yX2_cellAt : Cond) ∈ hw_all := hw_i5 (List.mem_of_getElem? (i := 7) rfl)
theorem mw_168 : (.methodLink RX0 22 yX2_cellAt : Cond) ∈ hw_all := hw_i5 (List.mem_of_getElem? (i := 8) rfl)
theorem mw_169 : (.instanceMethod yX2_cellAt : Cond) ∈ hw_all := hw_i5 (List.mem_of_getElem? (i := 9) rfl)
theorem mw_170 : (.code yX0_write cX0_write 5 (some .boolean) : Cond) ∈ hw_all := hw_i5 (List.mem_of_getElem? (i := 10) rfl)
theorem mw_171 : (.fieldLink RX2 25 "SealedLedger$Log" "syncedCount" "I" : Cond) ∈ hw_all := hw_i5 (List.mem_of_getElem? (i := 11) rfl)
theorem mw_172 : (.code yX2_markSynced cX2_markSynced 1 none : Cond) ∈ hw_all := hw_i5 (List.mem_of_getElem? (i := 12) rfl)
theorem mw_173 : (.code yX2_clearBehindEnd cX2_clearBehindEnd 2 none : Cond) ∈ hw_all := hw_i5 (List.mem_of_getElem? (i := 13) rfl)
theorem mw_174 : (.selects RX2 yX2_markSynced yX2_markSynced : Cond) ∈ hw_all := hw_i5 (List.mem_of_getElem? (i := 14) rfl)
theorem mw_175 : (.methodLink RX2 38 yX2_markSynced : Cond) ∈ hw_all := hw_i5 (List.mem_of_getElem? (i := 15) rfl)
theorem mw_176 : (.instanceMethod yX2_markSynced : Cond) ∈ hw_all := hw_i5 (List.mem_of_getElem? (i := 16) rfl)
theorem mw_177 : (.selects RX2 yX2_clearBehindEnd yX2_clearBehindEnd : Cond) ∈ hw_all := hw_i5 (List.mem_of_getElem? (i := 17) rfl)
theorem mw_178 : (.methodLink RX2 41 yX2_clearBehindEnd : Cond) ∈ hw_all := hw_i5 (List.mem_of_getElem? (i := 18) rfl)
theorem mw_179 : (.instanceMethod yX2_clearBehindEnd : Cond) ∈ hw_all := hw_i5 (List.mem_of_getElem? (i := 19) rfl)
theorem mw_180 : (.code yX2_clear cX2_clear 1 none : Cond) ∈ hw_all := hw_i5 (List.mem_of_getElem? (i := 20) rfl)
theorem mw_181 : (.selects RX2 yX2_clear yX2_clear : Cond) ∈ hw_all := hw_i5 (List.mem_of_getElem? (i := 21) rfl)
theorem mw_182 : (.methodLink RX5 171 yX2_clear : Cond) ∈ hw_all := hw_i5 (List.mem_of_getElem? (i := 22) rfl)
theorem mw_183 : (.instanceMethod yX2_clear : Cond) ∈ hw_all := hw_i5 (List.mem_of_getElem? (i := 23) rfl)
theorem mw_184 : (.code yX5_losePower cX5_losePower 1 none : Cond) ∈ hw_all := hw_i5 (List.mem_of_getElem? (i := 24) rfl)
theorem mw_185 : (.selects RX0 yX0_write yX0_write : Cond) ∈ hw_all := hw_i5 (List.mem_of_getElem? (i := 25) rfl)
theorem mw_186 : (.methodLink RX5 164 yX0_write : Cond) ∈ hw_all := hw_i5 (List.mem_of_getElem? (i := 26) rfl)
theorem mw_187 : (.instanceMethod yX0_write : Cond) ∈ hw_all := hw_i5 (List.mem_of_getElem? (i := 27) rfl)
theorem mw_188 : (.selects RX5 yX5_losePower yX5_losePower : Cond) ∈ hw_all := hw_i5 (List.mem_of_getElem? (i := 28) rfl)
theorem mw_189 : (.methodLink RX5 168 yX5_losePower : Cond) ∈ hw_all := hw_i5 (List.mem_of_getElem? (i := 29) rfl)
theorem mw_190 : (.instanceMethod yX5_losePower : Cond) ∈ hw_all := hw_i5 (List.mem_of_getElem? (i := 30) rfl)
theorem mw_191 : (.code yX5_writeBlock cX5_writeBlock 2 (some .boolean) : Cond) ∈ hw_all := hw_i5 (List.mem_of_getElem? (i := 31) rfl)
theorem mw_192 : (.selects RX2 yX2_syncedBlock yX2_syncedBlock : Cond) ∈ hw_all := hw_i6 (List.mem_of_getElem? (i := 0) rfl)
theorem mw_193 : (.methodLink RX5 75 yX2_syncedBlock : Cond) ∈ hw_all := hw_i6 (List.mem_of_getElem? (i := 1) rfl)
theorem mw_194 : (.instanceMethod yX2_syncedBlock : Cond) ∈ hw_all := hw_i6 (List.mem_of_getElem? (i := 2) rfl)
theorem mw_195 : (.selects RX2 yX2_endBlock yX2_endBlock : Cond) ∈ hw_all := hw_i6 (List.mem_of_getElem? (i := 3) rfl)
theorem mw_196 : (.methodLink RX5 79 yX2_endBlock : Cond) ∈ hw_all := hw_i6 (List.mem_of_getElem? (i := 4) rfl)
theorem mw_197 : (.instanceMethod yX2_endBlock : Cond) ∈ hw_all := hw_i6 (List.mem_of_getElem? (i := 5) rfl)
theorem mw_198 : (.methodLink RX5 85 yX2_markSynced : Cond) ∈ hw_all := hw_i6 (List.mem_of_getElem? (i := 6) rfl)
theorem mw_199 : (.selects RX5 yX5_writeBlock yX5_writeBlock : Cond) ∈ hw_all := hw_i6 (List.mem_of_getElem? (i := 7) rfl)
theorem mw_200 : (.methodLink RX5 82 yX5_writeBlock : Cond) ∈ hw_all := hw_i6 (List.mem_of_getElem? (i := 8) rfl)
theorem mw_201 : (.instanceMethod yX5_writeBlock : Cond) ∈ hw_all := hw_i6 (List.mem_of_getElem? (i := 9) rfl)
theorem mw_202 : (.code yX5_sync cX5_sync 4 (some .int) : Cond) ∈ hw_all := hw_i6 (List.mem_of_getElem? (i := 10) rfl)
theorem mw_203 : (.code yX0_failAt cX0_failAt 2 none : Cond) ∈ hw_all := hw_i6 (List.mem_of_getElem? (i := 11) rfl)
theorem mw_204 : (.selects RX0 yX0_failAt yX0_failAt : Cond) ∈ hw_all := hw_i6 (List.mem_of_getElem? (i := 12) rfl)
theorem mw_205 : (.methodLink RX5 88 yX0_failAt : Cond) ∈ hw_all := hw_i6 (List.mem_of_getElem? (i := 13) rfl)
theorem mw_206 : (.instanceMethod yX0_failAt : Cond) ∈ hw_all := hw_i6 (List.mem_of_getElem? (i := 14) rfl)
theorem mw_207 : (.code yX5_fail cX5_fail 2 (some .boolean) : Cond) ∈ hw_all := hw_i6 (List.mem_of_getElem? (i := 15) rfl)
theorem mw_208 : (.code yX0_cellAt cX0_cellAt 2 (some .int) : Cond) ∈ hw_all := hw_i6 (List.mem_of_getElem? (i := 16) rfl)
theorem mw_209 : (.code yX2_nextFits cX2_nextFits 1 (some .boolean) : Cond) ∈ hw_all := hw_i6 (List.mem_of_getElem? (i := 17) rfl)
theorem mw_210 : (.code yX2_nextLegsAreSound cX2_nextLegsAreSound 4 (some .boolean) : Cond) ∈ hw_all := hw_i6 (List.mem_of_getElem? (i := 18) rfl)
theorem mw_211 : (.selects RX2 yX2_nextFits yX2_nextFits : Cond) ∈ hw_all := hw_i6 (List.mem_of_getElem? (i := 19) rfl)
theorem mw_212 : (.methodLink RX2 105 yX2_nextFits : Cond) ∈ hw_all := hw_i6 (List.mem_of_getElem? (i := 20) rfl)
theorem mw_213 : (.instanceMethod yX2_nextFits : Cond) ∈ hw_all := hw_i6 (List.mem_of_getElem? (i := 21) rfl)
theorem mw_214 : (.selects RX2 yX2_nextLegsAreSound yX2_nextLegsAreSound : Cond) ∈ hw_all := hw_i6 (List.mem_of_getElem? (i := 22) rfl)
theorem mw_215 : (.methodLink RX2 108 yX2_nextLegsAreSound : Cond) ∈ hw_all := hw_i6 (List.mem_of_getElem? (i := 23) rfl)
theorem mw_216 : (.instanceMethod yX2_nextLegsAreSound : Cond) ∈ hw_all := hw_i6 (List.mem_of_getElem? (i := 24) rfl)
theorem mw_217 : (.code yX2_nextIsSound cX2_nextIsSound 1 (some .boolean) : Cond) ∈ hw_all := hw_i6 (List.mem_of_getElem? (i := 25) rfl)
theorem mw_218 : (.methodLink RX2 81 yX2_clear : Cond) ∈ hw_all := hw_i6 (List.mem_of_getElem? (i := 26) rfl)
theorem mw_219 : (.selects RX0 yX0_cellAt yX0_cellAt : Cond) ∈ hw_all := hw_i6 (List.mem_of_getElem? (i := 27) rfl)
theorem mw_220 : (.methodLink RX2 84 yX0_cellAt : Cond) ∈ hw_all := hw_i6 (List.mem_of_getElem? (i := 28) rfl)
theorem mw_221 : (.instanceMethod yX0_cellAt : Cond) ∈ hw_all := hw_i6 (List.mem_of_getElem? (i := 29) rfl)
theorem mw_222 : (.selects RX2 yX2_nextIsSound yX2_nextIsSound : Cond) ∈ hw_all := hw_i6 (List.mem_of_getElem? (i := 30) rfl)
theorem mw_223 : (.methodLink RX2 89 yX2_nextIsSound : Cond) ∈ hw_all := hw_i6 (List.mem_of_getElem? (i := 31) rfl)
theorem mw_224 : (.instanceMethod yX2_nextIsSound : Cond) ∈ hw_all := hw_i7 (List.mem_of_getElem? (i := 0) rfl)
theorem mw_225 : (.code yX2_load cX2_load 3 none : Cond) ∈ hw_all := hw_i7 (List.mem_of_getElem? (i := 1) rfl)
theorem mw_226 : (.code yX2_endsInBlock cX2_endsInBlock 1 (some .boolean) : Cond) ∈ hw_all := hw_i7 (List.mem_of_getElem? (i := 2) rfl)
theorem mw_227 : (.selects RX2 yX2_load yX2_load : Cond) ∈ hw_all := hw_i7 (List.mem_of_getElem? (i := 3) rfl)
theorem mw_228 : (.methodLink RX5 92 yX2_load : Cond) ∈ hw_all := hw_i7 (List.mem_of_getElem? (i := 4) rfl)
theorem mw_229 : (.instanceMethod yX2_load : Cond) ∈ hw_all := hw_i7 (List.mem_of_getElem? (i := 5) rfl)
theorem mw_230 : (.selects RX2 yX2_endsInBlock yX2_endsInBlock : Cond) ∈ hw_all := hw_i7 (List.mem_of_getElem? (i := 6) rfl)
theorem mw_231 : (.methodLink RX5 96 yX2_endsInBlock : Cond) ∈ hw_all := hw_i7 (List.mem_of_getElem? (i := 7) rfl)
theorem mw_232 : (.instanceMethod yX2_endsInBlock : Cond) ∈ hw_all := hw_i7 (List.mem_of_getElem? (i := 8) rfl)
theorem mw_233 : (.code yX5_recover cX5_recover 1 (some .int) : Cond) ∈ hw_all := hw_i7 (List.mem_of_getElem? (i := 9) rfl)
theorem mw_234 : (.code yX5_on cX5_on 1 (some .boolean) : Cond) ∈ hw_all := hw_i7 (List.mem_of_getElem? (i := 10) rfl)
theorem mw_235 : (.code yX5_entries cX5_entries 1 (some .int) : Cond) ∈ hw_all := hw_i7 (List.mem_of_getElem? (i := 11) rfl)
theorem mw_236 : (.code yX2_syncedSize cX2_syncedSize 1 (some .int) : Cond) ∈ hw_all := hw_i7 (List.mem_of_getElem? (i := 12) rfl)
theorem mw_237 : (.selects RX2 yX2_syncedSize yX2_syncedSize : Cond) ∈ hw_all := hw_i7 (List.mem_of_getElem? (i := 13) rfl)
theorem mw_238 : (.methodLink RX5 102 yX2_syncedSize : Cond) ∈ hw_all := hw_i7 (List.mem_of_getElem? (i := 14) rfl)
theorem mw_239 : (.instanceMethod yX2_syncedSize : Cond) ∈ hw_all := hw_i7 (List.mem_of_getElem? (i := 15) rfl)
theorem mw_240 : (.code yX5_synced cX5_synced 1 (some .int) : Cond) ∈ hw_all := hw_i7 (List.mem_of_getElem? (i := 16) rfl)
theorem mw_241 : (.code yX5_balance cX5_balance 3 (some .int) : Cond) ∈ hw_all := hw_i7 (List.mem_of_getElem? (i := 17) rfl)
theorem mw_242 : (.code yX5_statement cX5_statement 5 (some .int) : Cond) ∈ hw_all := hw_i7 (List.mem_of_getElem? (i := 18) rfl)
theorem mw_243 : (.code yX5_find cX5_find 2 (some .int) : Cond) ∈ hw_all := hw_i7 (List.mem_of_getElem? (i := 19) rfl)
theorem mw_244 : (.code yX2_leafOf cX2_leafOf 2 (some .int) : Cond) ∈ hw_all := hw_i7 (List.mem_of_getElem? (i := 20) rfl)
theorem mw_245 : (.selects RX2 yX2_leafOf yX2_leafOf : Cond) ∈ hw_all := hw_i7 (List.mem_of_getElem? (i := 21) rfl)
theorem mw_246 : (.methodLink RX5 109 yX2_leafOf : Cond) ∈ hw_all := hw_i7 (List.mem_of_getElem? (i := 22) rfl)
theorem mw_247 : (.instanceMethod yX2_leafOf : Cond) ∈ hw_all := hw_i7 (List.mem_of_getElem? (i := 23) rfl)
theorem mw_248 : (.code yX5_leaf cX5_leaf 2 (some .int) : Cond) ∈ hw_all := hw_i7 (List.mem_of_getElem? (i := 24) rfl)
theorem mw_249 : (.code yX5_split cX5_split 3 (some .int) : Cond) ∈ hw_all := hw_i7 (List.mem_of_getElem? (i := 25) rfl)
theorem mw_250 : (.methodLink RX5 174 yX5_mix : Cond) ∈ hw_all := hw_i7 (List.mem_of_getElem? (i := 26) rfl)
theorem mw_251 : (.code yX5_node cX5_node 2 (some .int) : Cond) ∈ hw_all := hw_i7 (List.mem_of_getElem? (i := 27) rfl)
theorem mw_252 : (.methodLink RX4 27 yX2_leafOf : Cond) ∈ hw_all := hw_i7 (List.mem_of_getElem? (i := 28) rfl)
theorem mw_253 : (.static yX5_split : Cond) ∈ hw_all := hw_i7 (List.mem_of_getElem? (i := 29) rfl)
theorem mw_254 : (.code yX4_hash cX4_hash 5 (some .int) : Cond) ∈ hw_all := hw_i7 (List.mem_of_getElem? (i := 30) rfl)
theorem mw_255 : (.methodLink RX4 13 yX4_hash : Cond) ∈ hw_all := hw_i7 (List.mem_of_getElem? (i := 31) rfl)
theorem mw_256 : (.static yX4_hash : Cond) ∈ hw_all := hw_i8 (List.mem_of_getElem? (i := 0) rfl)
theorem mw_257 : (.initialized RX4 : Cond) ∈ hw_all := hw_i8 (List.mem_of_getElem? (i := 1) rfl)
theorem mw_258 : (.static yX5_node : Cond) ∈ hw_all := hw_i8 (List.mem_of_getElem? (i := 2) rfl)
theorem mw_259 : (.code yX4_headOf cX4_headOf 2 (some .int) : Cond) ∈ hw_all := hw_i8 (List.mem_of_getElem? (i := 3) rfl)
theorem mw_260 : (.methodLink RX5 112 yX4_headOf : Cond) ∈ hw_all := hw_i8 (List.mem_of_getElem? (i := 4) rfl)
theorem mw_261 : (.static yX4_headOf : Cond) ∈ hw_all := hw_i8 (List.mem_of_getElem? (i := 5) rfl)
theorem mw_262 : (.code yX5_head cX5_head 2 (some .int) : Cond) ∈ hw_all := hw_i8 (List.mem_of_getElem? (i := 6) rfl)
theorem mw_263 : (.fieldLink RX3 15 "SealedLedger$Pad" "count" "I" : Cond) ∈ hw_all := hw_i8 (List.mem_of_getElem? (i := 7) rfl)
theorem mw_264 : (.code yX3_clear cX3_clear 1 none : Cond) ∈ hw_all := hw_i8 (List.mem_of_getElem? (i := 8) rfl)
theorem mw_265 : (.code yX3_add cX3_add 2 (some .boolean) : Cond) ∈ hw_all := hw_i8 (List.mem_of_getElem? (i := 9) rfl)
theorem mw_266 : (.code yX4_inclusion cX4_inclusion 7 none : Cond) ∈ hw_all := hw_i8 (List.mem_of_getElem? (i := 10) rfl)
theorem mw_267 : (.methodLink RX4 19 yX4_inclusion : Cond) ∈ hw_all := hw_i8 (List.mem_of_getElem? (i := 11) rfl)
theorem mw_268 : (.static yX4_inclusion : Cond) ∈ hw_all := hw_i8 (List.mem_of_getElem? (i := 12) rfl)
theorem mw_269 : (.selects RX3 yX3_add yX3_add : Cond) ∈ hw_all := hw_i8 (List.mem_of_getElem? (i := 13) rfl)
theorem mw_270 : (.methodLink RX4 39 yX3_add : Cond) ∈ hw_all := hw_i8 (List.mem_of_getElem? (i := 14) rfl)
theorem mw_271 : (.instanceMethod yX3_add : Cond) ∈ hw_all := hw_i8 (List.mem_of_getElem? (i := 15) rfl)
theorem mw_272 : (.code yX4_addInclusion cX4_addInclusion 4 none : Cond) ∈ hw_all := hw_i8 (List.mem_of_getElem? (i := 16) rfl)
theorem mw_273 : (.code yX3_length cX3_length 1 (some .int) : Cond) ∈ hw_all := hw_i8 (List.mem_of_getElem? (i := 17) rfl)
theorem mw_274 : (.selects RX3 yX3_clear yX3_clear : Cond) ∈ hw_all := hw_i8 (List.mem_of_getElem? (i := 18) rfl)
theorem mw_275 : (.methodLink RX5 118 yX3_clear : Cond) ∈ hw_all := hw_i8 (List.mem_of_getElem? (i := 19) rfl)
theorem mw_276 : (.instanceMethod yX3_clear : Cond) ∈ hw_all := hw_i8 (List.mem_of_getElem? (i := 20) rfl)
theorem mw_277 : (.methodLink RX5 119 yX4_addInclusion : Cond) ∈ hw_all := hw_i8 (List.mem_of_getElem? (i := 21) rfl)
theorem mw_278 : (.static yX4_addInclusion : Cond) ∈ hw_all := hw_i8 (List.mem_of_getElem? (i := 22) rfl)
theorem mw_279 : (.selects RX3 yX3_length yX3_length : Cond) ∈ hw_all := hw_i8 (List.mem_of_getElem? (i := 23) rfl)
theorem mw_280 : (.methodLink RX5 123 yX3_length : Cond) ∈ hw_all := hw_i8 (List.mem_of_getElem? (i := 24) rfl)
theorem mw_281 : (.instanceMethod yX3_length : Cond) ∈ hw_all := hw_i8 (List.mem_of_getElem? (i := 25) rfl)
theorem mw_282 : (.code yX5_prove cX5_prove 3 (some .int) : Cond) ∈ hw_all := hw_i8 (List.mem_of_getElem? (i := 26) rfl)
theorem mw_283 : (.code yX4_consistency cX4_consistency 8 none : Cond) ∈ hw_all := hw_i8 (List.mem_of_getElem? (i := 27) rfl)
theorem mw_284 : (.methodLink RX4 23 yX4_consistency : Cond) ∈ hw_all := hw_i8 (List.mem_of_getElem? (i := 28) rfl)
theorem mw_285 : (.static yX4_consistency : Cond) ∈ hw_all := hw_i8 (List.mem_of_getElem? (i := 29) rfl)
theorem mw_286 : (.code yX4_addConsistency cX4_addConsistency 4 none : Cond) ∈ hw_all := hw_i8 (List.mem_of_getElem? (i := 30) rfl)
theorem mw_287 : (.methodLink RX5 126 yX4_addConsistency : Cond) ∈ hw_all := hw_i8 (List.mem_of_getElem? (i := 31) rfl)
theorem mw_288 : (.static yX4_addConsistency : Cond) ∈ hw_all := hw_i9 (List.mem_of_getElem? (i := 0) rfl)
theorem mw_289 : (.code yX5_extend cX5_extend 3 (some .int) : Cond) ∈ hw_all := hw_i9 (List.mem_of_getElem? (i := 1) rfl)
theorem mw_290 : (.methodLink RX5 129 yX3_add : Cond) ∈ hw_all := hw_i9 (List.mem_of_getElem? (i := 2) rfl)
theorem mw_291 : (.code yX5_put cX5_put 2 (some .boolean) : Cond) ∈ hw_all := hw_i9 (List.mem_of_getElem? (i := 3) rfl)
theorem mw_292 : (.code yX3_removeLast cX3_removeLast 1 (some .boolean) : Cond) ∈ hw_all := hw_i9 (List.mem_of_getElem? (i := 4) rfl)
theorem mw_293 : (.selects RX3 yX3_removeLast yX3_removeLast : Cond) ∈ hw_all := hw_i9 (List.mem_of_getElem? (i := 5) rfl)
theorem mw_294 : (.methodLink RX5 131 yX3_removeLast : Cond) ∈ hw_all := hw_i9 (List.mem_of_getElem? (i := 6) rfl)
theorem mw_295 : (.instanceMethod yX3_removeLast : Cond) ∈ hw_all := hw_i9 (List.mem_of_getElem? (i := 7) rfl)
theorem mw_296 : (.code yX5_take cX5_take 1 (some .boolean) : Cond) ∈ hw_all := hw_i9 (List.mem_of_getElem? (i := 8) rfl)
theorem mw_297 : (.code yX3_intAt cX3_intAt 2 (some .int) : Cond) ∈ hw_all := hw_i9 (List.mem_of_getElem? (i := 9) rfl)
theorem mw_298 : (.selects RX3 yX3_intAt yX3_intAt : Cond) ∈ hw_all := hw_i9 (List.mem_of_getElem? (i := 10) rfl)
theorem mw_299 : (.methodLink RX5 134 yX3_intAt : Cond) ∈ hw_all := hw_i9 (List.mem_of_getElem? (i := 11) rfl)
theorem mw_300 : (.instanceMethod yX3_intAt : Cond) ∈ hw_all := hw_i9 (List.mem_of_getElem? (i := 12) rfl)
theorem mw_301 : (.code yX5_pad cX5_pad 2 (some .int) : Cond) ∈ hw_all := hw_i9 (List.mem_of_getElem? (i := 13) rfl)
theorem mw_302 : (.code yX3_inclusionLength cX3_inclusionLength 4 (some .int) : Cond) ∈ hw_all := hw_i9 (List.mem_of_getElem? (i := 14) rfl)
theorem mw_303 : (.methodLink RX3 34 yX3_intAt : Cond) ∈ hw_all := hw_i9 (List.mem_of_getElem? (i := 15) rfl)
theorem mw_304 : (.code yX3_shownAbove cX3_shownAbove 7 (some .int) : Cond) ∈ hw_all := hw_i9 (List.mem_of_getElem? (i := 16) rfl)
theorem mw_305 : (.methodLink RX3 23 yX3_shownAbove : Cond) ∈ hw_all := hw_i9 (List.mem_of_getElem? (i := 17) rfl)
theorem mw_306 : (.static yX3_shownAbove : Cond) ∈ hw_all := hw_i9 (List.mem_of_getElem? (i := 18) rfl)
theorem mw_307 : (.methodLink RX3 19 yX3_inclusionLength : Cond) ∈ hw_all := hw_i9 (List.mem_of_getElem? (i := 19) rfl)
theorem mw_308 : (.static yX3_inclusionLength : Cond) ∈ hw_all := hw_i9 (List.mem_of_getElem? (i := 20) rfl)
theorem mw_309 : (.code yX3_showsInclusion cX3_showsInclusion 5 (some .boolean) : Cond) ∈ hw_all := hw_i9 (List.mem_of_getElem? (i := 21) rfl)
theorem mw_310 : (.selects RX3 yX3_showsInclusion yX3_showsInclusion : Cond) ∈ hw_all := hw_i9 (List.mem_of_getElem? (i := 22) rfl)
theorem mw_311 : (.methodLink RX5 137 yX3_showsInclusion : Cond) ∈ hw_all := hw_i9 (List.mem_of_getElem? (i := 23) rfl)
theorem mw_312 : (.instanceMethod yX3_showsInclusion : Cond) ∈ hw_all := hw_i9 (List.mem_of_getElem? (i := 24) rfl)
theorem mw_313 : (.code yX5_included cX5_included 5 (some .boolean) : Cond) ∈ hw_all := hw_i9 (List.mem_of_getElem? (i := 25) rfl)
theorem mw_314 : (.code yX3_consistencySteps cX3_consistencySteps 4 (some .int) : Cond) ∈ hw_all := hw_i9 (List.mem_of_getElem? (i := 26) rfl)
theorem mw_315 : (.code yX3_isOwn cX3_isOwn 3 (some .boolean) : Cond) ∈ hw_all := hw_i9 (List.mem_of_getElem? (i := 27) rfl)
theorem mw_316 : (.code yX3_shownOld cX3_shownOld 6 (some .int) : Cond) ∈ hw_all := hw_i9 (List.mem_of_getElem? (i := 28) rfl)
theorem mw_317 : (.methodLink RX3 38 yX3_shownOld : Cond) ∈ hw_all := hw_i9 (List.mem_of_getElem? (i := 29) rfl)
theorem mw_318 : (.static yX3_shownOld : Cond) ∈ hw_all := hw_i9 (List.mem_of_getElem? (i := 30) rfl)
theorem mw_319 : (.code yX3_shownNew cX3_shownNew 7 (some .int) : Cond) ∈ hw_all := hw_i9 (List.mem_of_getElem? (i := 31) rfl)
theorem mw_320 : (.methodLink RX3 41 yX3_shownNew : Cond) ∈ hw_all := hw_i10 (List.mem_of_getElem? (i := 0) rfl)
theorem mw_321 : (.static yX3_shownNew : Cond) ∈ hw_all := hw_i10 (List.mem_of_getElem? (i := 1) rfl)
theorem mw_322 : (.methodLink RX3 27 yX3_consistencySteps : Cond) ∈ hw_all := hw_i10 (List.mem_of_getElem? (i := 2) rfl)
theorem mw_323 : (.static yX3_consistencySteps : Cond) ∈ hw_all := hw_i10 (List.mem_of_getElem? (i := 3) rfl)
theorem mw_324 : (.methodLink RX3 30 yX3_isOwn : Cond) ∈ hw_all := hw_i10 (List.mem_of_getElem? (i := 4) rfl)
theorem mw_325 : (.static yX3_isOwn : Cond) ∈ hw_all := hw_i10 (List.mem_of_getElem? (i := 5) rfl)
theorem mw_326 : (.code yX3_showsConsistency cX3_showsConsistency 8 (some .boolean) : Cond) ∈ hw_all := hw_i10 (List.mem_of_getElem? (i := 6) rfl)
theorem mw_327 : (.selects RX3 yX3_showsConsistency yX3_showsConsistency : Cond) ∈ hw_all := hw_i10 (List.mem_of_getElem? (i := 7) rfl)
theorem mw_328 : (.methodLink RX5 141 yX3_showsConsistency : Cond) ∈ hw_all := hw_i10 (List.mem_of_getElem? (i := 8) rfl)
theorem mw_329 : (.instanceMethod yX3_showsConsistency : Cond) ∈ hw_all := hw_i10 (List.mem_of_getElem? (i := 9) rfl)
theorem mw_330 : (.code yX5_consistent cX5_consistent 5 (some .boolean) : Cond) ∈ hw_all := hw_i10 (List.mem_of_getElem? (i := 10) rfl)
theorem mw_331 : (.methodLink RX5 144 yX0_cellAt : Cond) ∈ hw_all := hw_i10 (List.mem_of_getElem? (i := 11) rfl)
theorem mw_332 : (.code yX5_cell cX5_cell 2 (some .int) : Cond) ∈ hw_all := hw_i10 (List.mem_of_getElem? (i := 12) rfl)
theorem mw_333 : (.code yX0_writesDone cX0_writesDone 1 (some .int) : Cond) ∈ hw_all := hw_i10 (List.mem_of_getElem? (i := 13) rfl)
theorem mw_334 : (.selects RX0 yX0_writesDone yX0_writesDone : Cond) ∈ hw_all := hw_i10 (List.mem_of_getElem? (i := 14) rfl)
theorem mw_335 : (.methodLink RX5 147 yX0_writesDone : Cond) ∈ hw_all := hw_i10 (List.mem_of_getElem? (i := 15) rfl)
theorem mw_336 : (.instanceMethod yX0_writesDone : Cond) ∈ hw_all := hw_i10 (List.mem_of_getElem? (i := 16) rfl)
theorem mw_337 : (.code yX5_writes cX5_writes 1 (some .int) : Cond) ∈ hw_all := hw_i10 (List.mem_of_getElem? (i := 17) rfl)
theorem hw_goodb : hw_all.all goodWord = true := by decide +kernel
theorem hw_good : ∀ w ∈ hw_all, (w.onTables && w.keeps) = true ∨ ∃ ty, w = .arrayClass ty := fun w h => good_of_word (List.all_eq_true.mp hw_goodb w h)
def hw_nest : List (String × Nat × MethodName × String) := [(RX2, 50, yX5_entryCells, "SealedLedger"), (RX2, 75, yX5_mix, "SealedLedger"), (RX2, 111, yX5_isAccount, "SealedLedger"), (RX2, 115, yX5_isAmount, "SealedLedger"), (RX4, 33, yX5_split, "SealedLedger"), (RX4, 36, yX5_node, "SealedLedger"), (RX4, 9, yX5_mix, "SealedLedger"), (RX3, 44, yX5_split, "SealedLedger"), (RX3, 47, yX5_node, "SealedLedger")]
theorem mn_0 : ((RX2, 50, yX5_entryCells, "SealedLedger") : String × Nat × MethodName × String) ∈ hw_nest := List.mem_of_getElem? (i := 0) rfl
theorem mn_1 : ((RX2, 75, yX5_mix, "SealedLedger") : String × Nat × MethodName × String) ∈ hw_nest := List.mem_of_getElem? (i := 1) rfl
theorem mn_2 : ((RX2, 111, yX5_isAccount, "SealedLedger") : String × Nat × MethodName × String) ∈ hw_nest := List.mem_of_getElem? (i := 2) rfl
theorem mn_3 : ((RX2, 115, yX5_isAmount, "SealedLedger") : String × Nat × MethodName × String) ∈ hw_nest := List.mem_of_getElem? (i := 3) rfl
theorem mn_4 : ((RX4, 33, yX5_split, "SealedLedger") : String × Nat × MethodName × String) ∈ hw_nest := List.mem_of_getElem? (i := 4) rfl
theorem mn_5 : ((RX4, 36, yX5_node, "SealedLedger") : String × Nat × MethodName × String) ∈ hw_nest := List.mem_of_getElem? (i := 5) rfl
theorem mn_6 : ((RX4, 9, yX5_mix, "SealedLedger") : String × Nat × MethodName × String) ∈ hw_nest := List.mem_of_getElem? (i := 6) rfl
theorem mn_7 : ((RX3, 44, yX5_split, "SealedLedger") : String × Nat × MethodName × String) ∈ hw_nest := List.mem_of_getElem? (i := 7) rfl
theorem mn_8 : ((RX3, 47, yX5_node, "SealedLedger") : String × Nat × MethodName × String) ∈ hw_nest := List.mem_of_getElem? (i := 8) rfl
abbrev wX5_init : List Cond := .code yX5_init cX5_init 1 none :: hw_all
abbrev wX5_limit : List Cond := .code yX5_limit cX5_limit 3 (some .boolean) :: hw_all
abbrev wX5_leg : List Cond := .code yX5_leg cX5_leg 3 (some .boolean) :: hw_all
abbrev wX5_drop : List Cond := .code yX5_drop cX5_drop 1 none :: hw_all
abbrev wX5_commit : List Cond := .code yX5_commit cX5_commit 3 (some .int) :: hw_all
abbrev wX5_sync : List Cond := .code yX5_sync cX5_sync 4 (some .int) :: hw_all
abbrev wX5_fail : List Cond := .code yX5_fail cX5_fail 2 (some .boolean) :: hw_all
abbrev wX5_recover : List Cond := .code yX5_recover cX5_recover 1 (some .int) :: hw_all
abbrev wX5_on : List Cond := .code yX5_on cX5_on 1 (some .boolean) :: hw_all
abbrev wX5_entries : List Cond := .code yX5_entries cX5_entries 1 (some .int) :: hw_all
abbrev wX5_synced : List Cond := .code yX5_synced cX5_synced 1 (some .int) :: hw_all
abbrev wX5_balance : List Cond := .code yX5_balance cX5_balance 3 (some .int) :: hw_all
abbrev wX5_statement : List Cond := .code yX5_statement cX5_statement 5 (some .int) :: hw_all
abbrev wX5_find : List Cond := .code yX5_find cX5_find 2 (some .int) :: hw_all
abbrev wX5_leaf : List Cond := .code yX5_leaf cX5_leaf 2 (some .int) :: hw_all
abbrev wX5_head : List Cond := .code yX5_head cX5_head 2 (some .int) :: hw_all
abbrev wX5_prove : List Cond := .code yX5_prove cX5_prove 3 (some .int) :: hw_all
abbrev wX5_extend : List Cond := .code yX5_extend cX5_extend 3 (some .int) :: hw_all
abbrev wX5_put : List Cond := .code yX5_put cX5_put 2 (some .boolean) :: hw_all
abbrev wX5_take : List Cond := .code yX5_take cX5_take 1 (some .boolean) :: hw_all
abbrev wX5_pad : List Cond := .code yX5_pad cX5_pad 2 (some .int) :: hw_all
abbrev wX5_included : List Cond := .code yX5_included cX5_included 5 (some .boolean) :: hw_all
abbrev wX5_consistent : List Cond := .code yX5_consistent cX5_consistent 5 (some .boolean) :: hw_all
abbrev wX5_cell : List Cond := .code yX5_cell cX5_cell 2 (some .int) :: hw_all
abbrev wX5_writes : List Cond := .code yX5_writes cX5_writes 1 (some .int) :: hw_all
abbrev wX5_commitNew : List Cond := .code yX5_commitNew cX5_commitNew 2 (some .int) :: hw_all
abbrev wX5_isPoor : List Cond := .code yX5_isPoor cX5_isPoor 4 (some .boolean) :: hw_all
abbrev wX5_writeBlock : List Cond := .code yX5_writeBlock cX5_writeBlock 2 (some .boolean) :: hw_all
abbrev wX5_losePower : List Cond := .code yX5_losePower cX5_losePower 1 none :: hw_all
abbrev wX5_isAccount : List Cond := .code yX5_isAccount cX5_isAccount 1 (some .boolean) :: hw_all
abbrev wX5_isAmount : List Cond := .code yX5_isAmount cX5_isAmount 1 (some .boolean) :: hw_all
abbrev wX5_entryCells : List Cond := .code yX5_entryCells cX5_entryCells 1 (some .int) :: hw_all
abbrev wX5_mix : List Cond := .code yX5_mix cX5_mix 4 (some .int) :: hw_all
abbrev wX5_node : List Cond := .code yX5_node cX5_node 2 (some .int) :: hw_all
abbrev wX5_split : List Cond := .code yX5_split cX5_split 3 (some .int) :: hw_all
abbrev wX0_init : List Cond := .code yX0_init cX0_init 1 none :: hw_all
abbrev wX0_failAt : List Cond := .code yX0_failAt cX0_failAt 2 none :: hw_all
abbrev wX0_writesDone : List Cond := .code yX0_writesDone cX0_writesDone 1 (some .int) :: hw_all
abbrev wX0_cellAt : List Cond := .code yX0_cellAt cX0_cellAt 2 (some .int) :: hw_all
abbrev wX0_write : List Cond := .code yX0_write cX0_write 5 (some .boolean) :: hw_all
abbrev wX1_init : List Cond := .code yX1_init cX1_init 1 none :: hw_all
abbrev wX1_add : List Cond := .code yX1_add cX1_add 3 (some .boolean) :: hw_all
abbrev wX1_clear : List Cond := .code yX1_clear cX1_clear 1 none :: hw_all
abbrev wX1_size : List Cond := .code yX1_size cX1_size 1 (some .int) :: hw_all
abbrev wX1_accountAt : List Cond := .code yX1_accountAt cX1_accountAt 2 (some .int) :: hw_all
abbrev wX1_amountAt : List Cond := .code yX1_amountAt cX1_amountAt 2 (some .int) :: hw_all
abbrev wX1_isEven : List Cond := .code yX1_isEven cX1_isEven 3 (some .boolean) :: hw_all
abbrev wX1_change : List Cond := .code yX1_change cX1_change 4 (some .int) :: hw_all
abbrev wX2_init : List Cond := .code yX2_init cX2_init 1 none :: hw_all
abbrev wX2_size : List Cond := .code yX2_size cX2_size 1 (some .int) :: hw_all
abbrev wX2_syncedSize : List Cond := .code yX2_syncedSize cX2_syncedSize 1 (some .int) :: hw_all
abbrev wX2_cellAt : List Cond := .code yX2_cellAt cX2_cellAt 2 (some .int) :: hw_all
abbrev wX2_leafOf : List Cond := .code yX2_leafOf cX2_leafOf 2 (some .int) :: hw_all
abbrev wX2_endsInBlock : List Cond := .code yX2_endsInBlock cX2_endsInBlock 1 (some .boolean) :: hw_all
abbrev wX2_endBlock : List Cond := .code yX2_endBlock cX2_endBlock 1 (some .int) :: hw_all
abbrev wX2_syncedBlock : List Cond := .code yX2_syncedBlock cX2_syncedBlock 1 (some .int) :: hw_all
abbrev wX2_markSynced : List Cond := .code yX2_markSynced cX2_markSynced 1 none :: hw_all
abbrev wX2_clear : List Cond := .code yX2_clear cX2_clear 1 none :: hw_all
abbrev wX2_append : List Cond := .code yX2_append cX2_append 5 (some .boolean) :: hw_all
abbrev wX2_load : List Cond := .code yX2_load cX2_load 3 none :: hw_all
abbrev wX2_firstWith : List Cond := .code yX2_firstWith cX2_firstWith 3 (some .int) :: hw_all
abbrev wX2_hasLegsOf : List Cond := .code yX2_hasLegsOf cX2_hasLegsOf 5 (some .boolean) :: hw_all
abbrev wX2_total : List Cond := .code yX2_total cX2_total 8 (some .int) :: hw_all
abbrev wX2_totalAt : List Cond := .code yX2_totalAt cX2_totalAt 6 (some .int) :: hw_all
abbrev wX2_acceptNext : List Cond := .code yX2_acceptNext cX2_acceptNext 1 none :: hw_all
abbrev wX2_nextIsSound : List Cond := .code yX2_nextIsSound cX2_nextIsSound 1 (some .boolean) :: hw_all
abbrev wX2_nextFits : List Cond := .code yX2_nextFits cX2_nextFits 1 (some .boolean) :: hw_all
abbrev wX2_nextLegsAreSound : List Cond := .code yX2_nextLegsAreSound cX2_nextLegsAreSound 4 (some .boolean) :: hw_all
abbrev wX2_leafFrom : List Cond := .code yX2_leafFrom cX2_leafFrom 4 (some .int) :: hw_all
abbrev wX2_lastSeal : List Cond := .code yX2_lastSeal cX2_lastSeal 1 (some .int) :: hw_all
abbrev wX2_clearBehindEnd : List Cond := .code yX2_clearBehindEnd cX2_clearBehindEnd 2 none :: hw_all
abbrev wX2_sealCell : List Cond := .code yX2_sealCell cX2_sealCell 2 (some .int) :: hw_all
abbrev wX2_accountCell : List Cond := .code yX2_accountCell cX2_accountCell 2 (some .int) :: hw_all
abbrev wX2_amountCell : List Cond := .code yX2_amountCell cX2_amountCell 2 (some .int) :: hw_all
abbrev wX2_blockOf : List Cond := .code yX2_blockOf cX2_blockOf 1 (some .int) :: hw_all
abbrev wX3_init : List Cond := .code yX3_init cX3_init 1 none :: hw_all
abbrev wX3_clear : List Cond := .code yX3_clear cX3_clear 1 none :: hw_all
abbrev wX3_length : List Cond := .code yX3_length cX3_length 1 (some .int) :: hw_all
abbrev wX3_intAt : List Cond := .code yX3_intAt cX3_intAt 2 (some .int) :: hw_all
abbrev wX3_add : List Cond := .code yX3_add cX3_add 2 (some .boolean) :: hw_all
abbrev wX3_removeLast : List Cond := .code yX3_removeLast cX3_removeLast 1 (some .boolean) :: hw_all
abbrev wX3_showsInclusion : List Cond := .code yX3_showsInclusion cX3_showsInclusion 5 (some .boolean) :: hw_all
abbrev wX3_showsConsistency : List Cond := .code yX3_showsConsistency cX3_showsConsistency 8 (some .boolean) :: hw_all
abbrev wX3_shownAbove : List Cond := .code yX3_shownAbove cX3_shownAbove 7 (some .int) :: hw_all
abbrev wX3_shownOld : List Cond := .code yX3_shownOld cX3_shownOld 6 (some .int) :: hw_all
abbrev wX3_shownNew : List Cond := .code yX3_shownNew cX3_shownNew 7 (some .int) :: hw_all
abbrev wX3_inclusionLength : List Cond := .code yX3_inclusionLength cX3_inclusionLength 4 (some .int) :: hw_all
abbrev wX3_consistencySteps : List Cond := .code yX3_consistencySteps cX3_consistencySteps 4 (some .int) :: hw_all
abbrev wX3_isOwn : List Cond := .code yX3_isOwn cX3_isOwn 3 (some .boolean) :: hw_all
abbrev wX4_headOf : List Cond := .code yX4_headOf cX4_headOf 2 (some .int) :: hw_all
abbrev wX4_addInclusion : List Cond := .code yX4_addInclusion cX4_addInclusion 4 none :: hw_all
abbrev wX4_addConsistency : List Cond := .code yX4_addConsistency cX4_addConsistency 4 none :: hw_all
abbrev wX4_hash : List Cond := .code yX4_hash cX4_hash 5 (some .int) :: hw_all
abbrev wX4_inclusion : List Cond := .code yX4_inclusion cX4_inclusion 7 none :: hw_all
abbrev wX4_consistency : List Cond := .code yX4_consistency cX4_consistency 8 none :: hw_all
end
section
section HW1
def hw_rd (n : Nat) (f : Nat → Int32) (i : Int32) : Option Int32 := if i < 0 ∨ n ≤ i.toNatClampNeg then none else some (f i.toNatClampNeg)
def hw_wr (n : Nat) (f : Nat → Int32) (i x : Int32) : Option (Nat → Int32) := if i < 0 ∨ n ≤ i.toNatClampNeg then none else some (upd f i.toNatClampNeg x)
def hw_wz (n : Nat) (f : Nat → Int32) (i x : Int32) : Option (Nat → Int32) := if i < 0 ∨ n ≤ i.toNatClampNeg then none else some (upd f i.toNatClampNeg (x &&& 1))
def hw_z (v : Int32) : Option Int32 := if v = 0 ∨ v = 1 then some v else none
def hw_ushr (x y : Int32) : Int32 := (x.toUInt32 >>> (y.toUInt32 &&& Int32.toUInt32 31)).toInt32
def hw_min (x y : Int32) : Int32 := if y < x then y else x
def hw_max (x y : Int32) : Int32 := if x < y then y else x
theorem hw_rd_some {n : Nat} {f : Nat → Int32} {i v : Int32} (h : hw_rd n f i = some v) : vp_in i n ∧ f i.toNatClampNeg = v := by
  unfold hw_rd at h
  by_cases hc : i < 0 ∨ n ≤ i.toNatClampNeg
  · rw [if_pos hc] at h; cases h
  · rw [if_neg hc] at h; exact ⟨hc, Option.some.inj h⟩
theorem hw_wr_some {n : Nat} {f g : Nat → Int32} {i x : Int32} (h : hw_wr n f i x = some g) : vp_in i n ∧ upd f i.toNatClampNeg x = g := by
  unfold hw_wr at h
  by_cases hc : i < 0 ∨ n ≤ i.toNatClampNeg
  · rw [if_pos hc] at h; cases h
  · rw [if_neg hc] at h; exact ⟨hc, Option.some.inj h⟩
theorem hw_wz_some {n : Nat} {f g : Nat → Int32} {i x : Int32} (h : hw_wz n f i x = some g) : vp_in i n ∧ upd f i.toNatClampNeg (vp_nar .boolean x) = g := by
  unfold hw_wz at h
  by_cases hc : i < 0 ∨ n ≤ i.toNatClampNeg
  · rw [if_pos hc] at h; cases h
  · rw [if_neg hc] at h; exact ⟨hc, Option.some.inj h⟩
theorem hw_z_some {v w : Int32} (h : hw_z v = some w) : v = w ∧ narrow .boolean (.int v) = .int v := by
  unfold hw_z at h
  by_cases hc : v = 0 ∨ v = 1
  · rw [if_pos hc] at h
    refine ⟨Option.some.inj h, ?_⟩
    rcases hc with rfl | rfl <;> rfl
  · rw [if_neg hc] at h; cases h
theorem hw_bind {α β : Type} {o : Option α} {k : α → Option β} {b : β} (h : o.bind k = some b) : ∃ a, o = some a ∧ k a = some b := by
  cases o with
  | none => cases h
  | some a => exact ⟨a, rfl, h⟩
def hw_NE (U : State) : Prop := ∀ q ∈ hw_nest, va_Nw (.methodLinkNest q.1 q.2.1 q.2.2.1 q.2.2.2) U
theorem hw_NE.warm {s U : State} (hW : s.WarmedH U.vm) (h : hw_NE s) : hw_NE U := fun q hq => va_Nw.warmM hW (h q hq)
theorem hw_NE.same {s U : State} (hv : s.vm = U.vm) (h : hw_NE s) : hw_NE U := fun q hq => va_Nw.same rfl hv (h q hq)
abbrev hw_pre (D : va_G) (cl : List vw_C) (cA cZ : ClassId) (sz : Nat) (av : List Value) (ws : va_W) : Array Value → State → Prop := va_Pc av (fun U => U.heap.size = sz ∧ va_P D cl ws U.heap ∧ va_K D cl [(cA, .int), (cZ, .boolean)] U ∧ va_D (fun _ => True) ws ∧ hw_NE U)
def hw_Q (D : va_G) (cl : List vw_C) (A : Nat → Prop) (w1 : va_W) (r : Option Value) : Array Value → State → Outcome → State → Prop := fun _ st oc t => oc = .returned r ∧ va_P D cl w1 t.heap ∧ va_D A w1 ∧ va_F A st t
def hw_C (l : Launch) (y : MethodName) (wy : List Cond) (rm : Room) (D : va_G) (cl : List vw_C) (cA cZ : ClassId) (av : List Value) (wc w1 : va_W) (r : Option Value) : Prop := ∀ sz : Nat, Met l y wy rm (hw_pre D cl cA cZ sz av wc) (hw_Q D cl (va_A wc sz) w1 r) 0 0 (va_A wc sz)
def hw_QN (D : va_G) (cl : List vw_C) (A : Nat → Prop) (w1 : (Nat → Nat) → va_W) (r : Option Value) : Array Value → State → Outcome → State → Prop := fun _ st oc t => oc = .returned r ∧ (∃ u : Nat → Nat, va_P D cl (w1 u) t.heap ∧ va_D A (w1 u)) ∧ va_F A st t
def hw_N (l : Launch) (y : MethodName) (wy : List Cond) (rm : Room) (D : va_G) (cl : List vw_C) (cA cZ : ClassId) (av : List Value) (wc : va_W) (w1 : (Nat → Nat) → va_W) (r : Option Value) (mc ms : Nat) : Prop := ∀ sz : Nat, Met l y wy rm (hw_pre D cl cA cZ sz av wc) (hw_QN D cl (va_A wc sz) w1 r) mc ms (va_A wc sz)
def hw_Z (below : List Frame) (args : Array Value) (s : State) (D : va_G) (cl : List vw_C) (A : Nat → Prop) (w1 : va_W) (r : Option Value) : State → Prop := MQ below (hw_Q D cl A w1 r) args s 0 0 A
def hw_ZN (below : List Frame) (args : Array Value) (s : State) (D : va_G) (cl : List vw_C) (A : Nat → Prop) (w1 : (Nat → Nat) → va_W) (r : Option Value) (mc ms : Nat) : State → Prop := MQ below (hw_QN D cl A w1 r) args s mc ms A
end HW1
section HWG
theorem hw_gC {y : MethodName} {bytes : ByteArray} {maxL : Nat} {ret : Option FieldType} (h5 : Cond.code y bytes maxL ret ∈ hw_all) : GoodIn hw_all (Cond.code y bytes maxL ret :: hw_all) := by
  intro w hw
  rcases List.mem_cons.mp hw with rfl | h
  · exact ⟨h5, hw_good _ h5⟩
  · exact ⟨h, hw_good _ h⟩
theorem hw_gS {own : String} {idx : Nat} {y : MethodName} {bytes : ByteArray} {maxL : Nat} {ret : Option FieldType} (h1 : Cond.methodLink own idx y ∈ hw_all) (h2 : Cond.static y ∈ hw_all) (h3 : Cond.initialized own ∈ hw_all) (h5 : Cond.code y bytes maxL ret ∈ hw_all) : GoodIn hw_all (wsS own idx y (Cond.code y bytes maxL ret :: hw_all)) := by
  intro w hw
  rcases List.mem_append.mp hw with h | h
  · have hm : w ∈ hw_all := by
      rcases List.mem_cons.mp h with rfl | h
      · exact h1
      rcases List.mem_cons.mp h with rfl | h
      · exact h2
      rcases List.mem_cons.mp h with rfl | h
      · exact h3
      cases h
    exact ⟨hm, hw_good _ hm⟩
  · exact hw_gC h5 w h
theorem hw_gA {own : String} {idx : Nat} {y : MethodName} {bytes : ByteArray} {maxL : Nat} {ret : Option FieldType} (h1 : Cond.methodLink own idx y ∈ hw_all) (h2 : Cond.static y ∈ hw_all) (h3 : Cond.initialized y.cls ∈ hw_all) (h5 : Cond.code y bytes maxL ret ∈ hw_all) : GoodIn hw_all (va_wsS own idx y (Cond.code y bytes maxL ret :: hw_all)) := by
  intro w hw
  rcases List.mem_append.mp hw with h | h
  · have hm : w ∈ hw_all := by
      rcases List.mem_cons.mp h with rfl | h
      · exact h1
      rcases List.mem_cons.mp h with rfl | h
      · exact h2
      rcases List.mem_cons.mp h with rfl | h
      · exact h3
      cases h
    exact ⟨hm, hw_good _ hm⟩
  · exact hw_gC h5 w h
theorem hw_gV {own C : String} {idx : Nat} {y : MethodName} {bytes : ByteArray} {maxL : Nat} {ret : Option FieldType} (h1 : Cond.methodLink own idx y ∈ hw_all) (h2 : Cond.instanceMethod y ∈ hw_all) (h3 : Cond.selects C y y ∈ hw_all) (h4 : Cond.initialized C ∈ hw_all) (h5 : Cond.code y bytes maxL ret ∈ hw_all) : GoodIn hw_all (wsV own idx C y (Cond.code y bytes maxL ret :: hw_all)) := by
  intro w hw
  rcases List.mem_append.mp hw with h | h
  · have hm : w ∈ hw_all := by
      rcases List.mem_cons.mp h with rfl | h
      · exact h1
      rcases List.mem_cons.mp h with rfl | h
      · exact h2
      rcases List.mem_cons.mp h with rfl | h
      · exact h3
      rcases List.mem_cons.mp h with rfl | h
      · exact h4
      cases h
    exact ⟨hm, hw_good _ hm⟩
  · exact hw_gC h5 w h
end HWG
section HW2
variable {l : Launch} {y : MethodName} {w : List Cond} {rm : Room} {D : va_G} {cl : List vw_C} {cA cZ : ClassId} {av : List Value} {ws : va_W} {r : Option Value} {cc : ByteArray} {maxL : Nat} {ret : Option FieldType}
theorem hw_of {w1 : va_W} (hy : plainName y.cls = true) (hw : w = Cond.code y cc maxL ret :: hw_all) (hav : (lg_sl av).length ≤ maxL)
    (body : ∀ (p : Program) (e : Env) (s : State) (m : MethodId) (args : Array Value) (below : List Frame) (meth : Method) (c : Code) (A : Nat → Prop) (ls : Array Slot), p.tables.exec = Jvm.exec → c.code = cc → meth.sig.returnType = ret → meth.locks = false → c.maxLocals = maxL → s.vm.findClass y.cls = some m.cls → (∀ x ∈ hw_all, x.before args s = true) → (∀ q, s.heap.size ≤ q → A q) → va_K D cl [(cA, .int), (cZ, .boolean)] s → hw_NE s → va_P D cl ws s.heap → va_D A ws → va_S A s.heap s.heap [] → lv_has ls maxL (lv_args 0 av) →
      W p l e rm s m args below meth c s.heap [] 0 0 (hw_Z below args s D cl A w1 r) (F0 m 0 ls [])) :
    hw_C l y w rm D cl cA cZ av ws w1 r := by
  intro sz
  refine Met.ofW (cc := cc) (maxL := maxL) (ret := ret) hy hw ?_
  intro p e s m args below meth c s₁ B hml hv
  obtain ⟨rfl, hsz, hP, hK, hD0, hE⟩ := hv
  subst hsz
  have hl := lv_entry av (n := maxL) hav
  rw [lg_entry_eq]
  exact body p e s m _ below meth c (va_A ws s.heap.size) _ B.exec B.bytes B.returns B.notSynchronized hml (findClass_of_methodNamed B.named) (fun x hx => atoms_spec (ws := w) B.pre x (hw ▸ List.mem_cons_of_mem _ hx)) (fun q h => Or.inr h) hK hE hP hD0.self va_S.rf hl
theorem hw_ofN {w1 : (Nat → Nat) → va_W} {mc ms : Nat} (hy : plainName y.cls = true) (hw : w = Cond.code y cc maxL ret :: hw_all) (hav : (lg_sl av).length ≤ maxL)
    (body : ∀ (p : Program) (e : Env) (s : State) (m : MethodId) (args : Array Value) (below : List Frame) (meth : Method) (c : Code) (A : Nat → Prop) (ls : Array Slot), p.tables.exec = Jvm.exec → c.code = cc → meth.sig.returnType = ret → meth.locks = false → c.maxLocals = maxL → s.vm.findClass y.cls = some m.cls → meth.name = y.name → (∀ x ∈ hw_all, x.before args s = true) → (∀ q, s.heap.size ≤ q → A q) → va_K D cl [(cA, .int), (cZ, .boolean)] s → hw_NE s → va_P D cl ws s.heap → va_D A ws → va_S A s.heap s.heap [] → lv_has ls maxL (lv_args 0 av) →
      W p l e rm s m args below meth c s.heap [] 0 0 (hw_ZN below args s D cl A w1 r mc ms) (F0 m 0 ls [])) :
    hw_N l y w rm D cl cA cZ av ws w1 r mc ms := by
  intro sz
  refine Met.ofW (cc := cc) (maxL := maxL) (ret := ret) hy hw ?_
  intro p e s m args below meth c s₁ B hml hv
  obtain ⟨rfl, hsz, hP, hK, hD0, hE⟩ := hv
  subst hsz
  have hl := lv_entry av (n := maxL) hav
  rw [lg_entry_eq]
  exact body p e s m _ below meth c (va_A ws s.heap.size) _ B.exec B.bytes B.returns B.notSynchronized hml (findClass_of_methodNamed B.named) (name_of_methodNamed B.named B.method).1 (fun x hx => atoms_spec (ws := w) B.pre x (hw ▸ List.mem_cons_of_mem _ hx)) (fun q h => Or.inr h) hK hE hP hD0.self va_S.rf hl
end HW2
section HW3
variable {p : Program} {l : Launch} {e : Env} {R : Room} {s : State} {m : MethodId} {args : Array Value} {below : List Frame} {meth : Method} {c : Code} {H : Heap} {locs : List Loc} {cells slots : Nat} {Q : State → Prop}
variable {cc : ByteArray} {pc : Nat} {ls : Array Slot} {rest st0 : List Value} {D : va_G} {cl : List vw_C} {cA cZ : ClassId} {A : Nat → Prop} {ws wc wr w1 : va_W} {a : Array Value} {r : Option Value} {a0 : Nat}
theorem hw_ri {v : Int32} (hx : p.tables.exec = Jvm.exec) (hb : c.code = cc) (hr : meth.sig.returnType = some .int) (hlocks : meth.locks = false) (hP : va_P D cl w1 H) (hD : va_D A w1) (hS : va_S A s.heap H locs) (hdg : decode cc pc = .ok (.ireturn, 1)) : W p l e R s m args below meth c H locs 0 0 (hw_Z below args s D cl A w1 (some (.int v))) (F0 m pc ls [.int v]) :=
  W.iret hx hb hr (fun t ht hW => ⟨rfl, by rw [ht]; exact hP, hD, hS.F ht⟩) hS.2.2 hdg hlocks
theorem hw_rz {v : Int32} (hx : p.tables.exec = Jvm.exec) (hb : c.code = cc) (hr : meth.sig.returnType = some .boolean) (hlocks : meth.locks = false) (hn : narrow .boolean (.int v) = .int v) (hP : va_P D cl w1 H) (hD : va_D A w1) (hS : va_S A s.heap H locs) (hdg : decode cc pc = .ok (.ireturn, 1)) : W p l e R s m args below meth c H locs 0 0 (hw_Z below args s D cl A w1 (some (.int v))) (F0 m pc ls [.int v]) :=
  W.zret hx hb hr hn (fun t ht hW => ⟨rfl, by rw [ht]; exact hP, hD, hS.F ht⟩) hS.2.2 hdg hlocks
theorem hw_rv (hx : p.tables.exec = Jvm.exec) (hb : c.code = cc) (hr : meth.sig.returnType = none) (hlocks : meth.locks = false) (hP : va_P D cl w1 H) (hD : va_D A w1) (hS : va_S A s.heap H locs) (hdg : decode cc pc = .ok (.return_, 1)) : W p l e R s m args below meth c H locs 0 0 (hw_Z below args s D cl A w1 none) (F0 m pc ls []) :=
  W.vret hx hb hr (fun t ht hW => ⟨rfl, by rw [ht]; exact hP, hD, hS.F ht⟩) hS.2.2 hdg hlocks
theorem hw_rvN {w1 : (Nat → Nat) → va_W} {mc ms : Nat} (u : Nat → Nat) (hx : p.tables.exec = Jvm.exec) (hb : c.code = cc) (hr : meth.sig.returnType = none) (hlocks : meth.locks = false) (hP : va_P D cl (w1 u) H) (hD : va_D A (w1 u)) (hS : va_S A s.heap H locs) (hdg : decode cc pc = .ok (.return_, 1)) : W p l e R s m args below meth c H locs mc ms (hw_ZN below args s D cl A w1 none mc ms) (F0 m pc ls []) :=
  W.vret hx hb hr (fun t ht hW => ⟨rfl, ⟨u, by rw [ht]; exact hP, hD⟩, hS.F ht⟩) hS.2.2 hdg hlocks
theorem hw_iald (hx : p.tables.exec = Jvm.exec) (hb : c.code = cc) (hK : va_K D cl [(cA, .int), (cZ, .boolean)] s) (hP : va_P D cl ws H) (q0 : Nat) {n : Nat} {f : Nat → Int32} (ha : ws[q0]? = some (a0, .inl (cA, n, .inl f))) {i v : Int32} (hv : hw_rd n f i = some v) (hdg : decode cc pc = .ok (.iaload, 1)) (kk : W p l e R s m args below meth c H locs cells slots Q (F0 m (pc + 1) ls (.int v :: rest))) : W p l e R s m args below meth c H locs cells slots Q (F0 m pc ls (.int i :: .ref a0 :: rest)) := by
  obtain ⟨h1, rfl⟩ := hw_rd_some hv
  exact va_iald hx hb hK hP q0 0 ha rfl h1 hdg kk
theorem hw_iast {H0 : Heap} (hx : p.tables.exec = Jvm.exec) (hb : c.code = cc) (hK : va_K D cl [(cA, .int), (cZ, .boolean)] s) (hP : va_P D cl ws H) (hD : va_D A ws) (hS : va_S A H0 H locs) (q0 : Nat) {n : Nat} {f g : Nat → Int32} (ha : ws[q0]? = some (a0, .inl (cA, n, .inl f))) {i x : Int32} (hv : hw_wr n f i x = some g) (hdg : decode cc pc = .ok (.iastore, 1)) (kk : ∀ (H1 : Heap) (locs1 : List Loc), va_P D cl (ws.set q0 (a0, .inl (cA, n, .inl g))) H1 → va_D A (ws.set q0 (a0, .inl (cA, n, .inl g))) → va_S A H0 H1 locs1 → W p l e R s m args below meth c H1 locs1 cells slots Q (F0 m (pc + 1) ls rest)) : W p l e R s m args below meth c H locs cells slots Q (F0 m pc ls (.int x :: .int i :: .ref a0 :: rest)) := by
  obtain ⟨h1, rfl⟩ := hw_wr_some hv
  exact va_iast hx hb hK hP hD hS q0 0 ha rfl h1 hdg kk
theorem hw_newa {H0 : Heap} (hx : p.tables.exec = Jvm.exec) (hb : c.code = cc) {atype : ArrayType} (harr : (Cond.arrayClass (newarray.typeOf atype)).before args s = true) (hty : newarray.typeOf atype = .int) (hK : va_K D cl [(cA, .int), (cZ, .boolean)] s) (hP : va_P D cl ws H) (hD : va_D A ws) (hS : va_S A H0 H locs) (hA : ∀ q, H0.size ≤ q → A q) {n : Int32} (N : Nat) (hn : ¬ n < 0) (hN : n.toNatClampNeg = N) (hbytes : N * componentBytes .int ≤ 536870912) (hcells : cells + 1 ≤ R.cells) (hslots : slots + N ≤ R.slots) (hdg : decode cc pc = .ok (.newarray atype, 2)) (kk : ∀ (q : Nat) (H1 : Heap), va_P D cl (ws ++ [(q, .inl (cA, N, .inl (fun _ => 0)))]) H1 → va_D A (ws ++ [(q, .inl (cA, N, .inl (fun _ => 0)))]) → va_S A H0 H1 locs → W p l e R s m args below meth c H1 locs (cells + 1) (slots + N) Q (F0 m (pc + 2) ls (.ref q :: rest))) : W p l e R s m args below meth c H locs cells slots Q (F0 m pc ls (.int n :: rest)) := by
  refine va_newa (a0 := (N, .inl (fun _ => 0))) hx hb harr hty hK hP hD hS hA (fun _ => rfl) hn hN hbytes hcells hslots hdg (fun q cB H1 hK1 hP1 hD1 hS1 => ?_)
  have h1 := (hK1.2 0 (cA, .int) rfl).2
  have h2 := (hK1.2 2 (cB, .int) rfl).2
  have h3 : some cA = some cB := h1.symm.trans h2
  cases h3
  exact kk q H1 hP1 hD1 hS1
theorem hw_zald (hx : p.tables.exec = Jvm.exec) (hb : c.code = cc) (hK : va_K D cl [(cA, .int), (cZ, .boolean)] s) (hP : va_P D cl ws H) (q0 : Nat) {n : Nat} {f : Nat → Int32} (ha : ws[q0]? = some (a0, .inl (cZ, n, .inl f))) {i v : Int32} (hv : hw_rd n f i = some v) (hdg : decode cc pc = .ok (.baload, 1)) (kk : W p l e R s m args below meth c H locs cells slots Q (F0 m (pc + 1) ls (.int v :: rest))) : W p l e R s m args below meth c H locs cells slots Q (F0 m pc ls (.int i :: .ref a0 :: rest)) := by
  obtain ⟨h1, rfl⟩ := hw_rd_some hv
  exact va_zald hx hb hK hP q0 1 ha rfl h1 hdg kk
theorem hw_zast {H0 : Heap} (hx : p.tables.exec = Jvm.exec) (hb : c.code = cc) (hK : va_K D cl [(cA, .int), (cZ, .boolean)] s) (hP : va_P D cl ws H) (hD : va_D A ws) (hS : va_S A H0 H locs) (q0 : Nat) {n : Nat} {f g : Nat → Int32} (ha : ws[q0]? = some (a0, .inl (cZ, n, .inl f))) {i x : Int32} (hv : hw_wz n f i x = some g) (hdg : decode cc pc = .ok (.bastore, 1)) (kk : ∀ (H1 : Heap) (locs1 : List Loc), va_P D cl (ws.set q0 (a0, .inl (cZ, n, .inl g))) H1 → va_D A (ws.set q0 (a0, .inl (cZ, n, .inl g))) → va_S A H0 H1 locs1 → W p l e R s m args below meth c H1 locs1 cells slots Q (F0 m (pc + 1) ls rest)) : W p l e R s m args below meth c H locs cells slots Q (F0 m pc ls (.int x :: .int i :: .ref a0 :: rest)) := by
  obtain ⟨h1, rfl⟩ := hw_wz_some hv
  exact va_zast hx hb hK hP hD hS q0 1 ha rfl h1 hdg kk
theorem hw_newz {H0 : Heap} (hx : p.tables.exec = Jvm.exec) (hb : c.code = cc) {atype : ArrayType} (harr : (Cond.arrayClass (newarray.typeOf atype)).before args s = true) (hty : newarray.typeOf atype = .boolean) (hK : va_K D cl [(cA, .int), (cZ, .boolean)] s) (hP : va_P D cl ws H) (hD : va_D A ws) (hS : va_S A H0 H locs) (hA : ∀ q, H0.size ≤ q → A q) {n : Int32} (N : Nat) (hn : ¬ n < 0) (hN : n.toNatClampNeg = N) (hbytes : N * componentBytes .boolean ≤ 536870912) (hcells : cells + 1 ≤ R.cells) (hslots : slots + N ≤ R.slots) (hdg : decode cc pc = .ok (.newarray atype, 2)) (kk : ∀ (q : Nat) (H1 : Heap), va_P D cl (ws ++ [(q, .inl (cZ, N, .inl (fun _ => 0)))]) H1 → va_D A (ws ++ [(q, .inl (cZ, N, .inl (fun _ => 0)))]) → va_S A H0 H1 locs → W p l e R s m args below meth c H1 locs (cells + 1) (slots + N) Q (F0 m (pc + 2) ls (.ref q :: rest))) : W p l e R s m args below meth c H locs cells slots Q (F0 m pc ls (.int n :: rest)) := by
  refine va_newa (a0 := (N, .inl (fun _ => 0))) hx hb harr hty hK hP hD hS hA (fun _ => rfl) hn hN hbytes hcells hslots hdg (fun q cB H1 hK1 hP1 hD1 hS1 => ?_)
  have h1 := (hK1.2 1 (cZ, .boolean) rfl).2
  have h2 := (hK1.2 2 (cB, .boolean) rfl).2
  have h3 : some cZ = some cB := h1.symm.trans h2
  cases h3
  exact kk q H1 hP1 hD1 hS1
theorem hw_mmin (hx : p.tables.exec = Jvm.exec) (hb : c.code = cc) (hml : c.maxLocals = ls.size) {own : String} {index : Nat} (hown : s.vm.findClass own = some m.cls) (hlink : (Cond.methodLink own index Lib.Math.min.name).before args s = true) (hstat : (Cond.static Lib.Math.min.name).before args s = true) (hini : (Cond.initialized "java/lang/Math").before args s = true) (hcode : (Cond.code Lib.Math.min.name Lib.Math.min.code 2 (some .int)).before args s = true) (hframes : 1 ≤ R.frames) (hlocals : (rest.map fun v => v.category).sum + 13 ≤ R.locals) (hc : cells ≤ R.cells) (hs : slots ≤ R.slots) {x y : Int32} (hdg : decode cc pc = .ok (.invokestatic index, 3)) (kk : W p l e R s m args below meth c H locs cells slots Q (F0 m (pc + 3) ls (.int (hw_min x y) :: rest))) : W p l e R s m args below meth c H locs cells slots Q (F0 m pc ls (.int y :: .int x :: rest)) :=
  va_mmin hx hb hml hown hlink hstat hini hcode hframes hlocals hc hs hdg kk
theorem hw_mmax (hx : p.tables.exec = Jvm.exec) (hb : c.code = cc) (hml : c.maxLocals = ls.size) {own : String} {index : Nat} (hown : s.vm.findClass own = some m.cls) (hlink : (Cond.methodLink own index Lib.Math.max.name).before args s = true) (hstat : (Cond.static Lib.Math.max.name).before args s = true) (hini : (Cond.initialized "java/lang/Math").before args s = true) (hcode : (Cond.code Lib.Math.max.name Lib.Math.max.code 2 (some .int)).before args s = true) (hframes : 1 ≤ R.frames) (hlocals : (rest.map fun v => v.category).sum + 13 ≤ R.locals) (hc : cells ≤ R.cells) (hs : slots ≤ R.slots) {x y : Int32} (hdg : decode cc pc = .ok (.invokestatic index, 3)) (kk : W p l e R s m args below meth c H locs cells slots Q (F0 m (pc + 3) ls (.int (hw_max x y) :: rest))) : W p l e R s m args below meth c H locs cells slots Q (F0 m pc ls (.int y :: .int x :: rest)) :=
  va_mmax hx hb hml hown hlink hstat hini hcode hframes hlocals hc hs hdg kk
theorem hw_iushr (hx : p.tables.exec = Jvm.exec) (hb : c.code = cc) {x y : Int32} (hdg : decode cc pc = .ok (.iushr, 1)) (k : W p l e R s m args below meth c H locs cells slots Q (F0 m (pc + 1) ls (.int (hw_ushr x y) :: rest))) : W p l e R s m args below meth c H locs cells slots Q (F0 m pc ls (.int y :: .int x :: rest)) :=
  lv_iushr hx hb hdg rfl k
variable {β : Type} {f1 f2 : Option β} {res : β} {off : Int} {tgt : Nat}
theorem hi_icmp_eq (hx : p.tables.exec = Jvm.exec) (hb : c.code = cc) {x y : Int32} (hdg : decode cc pc = .ok (.if_icmp .eq off, 3)) (ht : (pc : Int) + off = (tgt : Int)) (hf : (if x = y then f1 else f2) = some res) (kt : x = y → f1 = some res → W p l e R s m args below meth c H locs cells slots Q (F0 m tgt ls rest)) (kf : ¬ x = y → f2 = some res → W p l e R s m args below meth c H locs cells slots Q (F0 m (pc + 3) ls rest)) : W p l e R s m args below meth c H locs cells slots Q (F0 m pc ls (.int y :: .int x :: rest)) := lv_icmp_eq hx hb hdg ht (fun hc => kt hc ((if_pos hc).symm.trans hf)) (fun hc => kf hc ((if_neg hc).symm.trans hf))
theorem hi_icmp_ne (hx : p.tables.exec = Jvm.exec) (hb : c.code = cc) {x y : Int32} (hdg : decode cc pc = .ok (.if_icmp .ne off, 3)) (ht : (pc : Int) + off = (tgt : Int)) (hf : (if x = y then f2 else f1) = some res) (kt : ¬ x = y → f1 = some res → W p l e R s m args below meth c H locs cells slots Q (F0 m tgt ls rest)) (kf : x = y → f2 = some res → W p l e R s m args below meth c H locs cells slots Q (F0 m (pc + 3) ls rest)) : W p l e R s m args below meth c H locs cells slots Q (F0 m pc ls (.int y :: .int x :: rest)) := lv_icmp_ne hx hb hdg ht (fun hc => kt hc ((if_neg hc).symm.trans hf)) (fun hc => kf hc ((if_pos hc).symm.trans hf))
theorem hi_icmp_lt (hx : p.tables.exec = Jvm.exec) (hb : c.code = cc) {x y : Int32} (hdg : decode cc pc = .ok (.if_icmp .lt off, 3)) (ht : (pc : Int) + off = (tgt : Int)) (hf : (if x < y then f1 else f2) = some res) (kt : x < y → f1 = some res → W p l e R s m args below meth c H locs cells slots Q (F0 m tgt ls rest)) (kf : ¬ x < y → f2 = some res → W p l e R s m args below meth c H locs cells slots Q (F0 m (pc + 3) ls rest)) : W p l e R s m args below meth c H locs cells slots Q (F0 m pc ls (.int y :: .int x :: rest)) := lv_icmp_lt hx hb hdg ht (fun hc => kt hc ((if_pos hc).symm.trans hf)) (fun hc => kf hc ((if_neg hc).symm.trans hf))
theorem hi_icmp_ge (hx : p.tables.exec = Jvm.exec) (hb : c.code = cc) {x y : Int32} (hdg : decode cc pc = .ok (.if_icmp .ge off, 3)) (ht : (pc : Int) + off = (tgt : Int)) (hf : (if y ≤ x then f1 else f2) = some res) (kt : y ≤ x → f1 = some res → W p l e R s m args below meth c H locs cells slots Q (F0 m tgt ls rest)) (kf : ¬ y ≤ x → f2 = some res → W p l e R s m args below meth c H locs cells slots Q (F0 m (pc + 3) ls rest)) : W p l e R s m args below meth c H locs cells slots Q (F0 m pc ls (.int y :: .int x :: rest)) := lv_icmp_ge hx hb hdg ht (fun hc => kt hc ((if_pos hc).symm.trans hf)) (fun hc => kf hc ((if_neg hc).symm.trans hf))
theorem hi_icmp_gt (hx : p.tables.exec = Jvm.exec) (hb : c.code = cc) {x y : Int32} (hdg : decode cc pc = .ok (.if_icmp .gt off, 3)) (ht : (pc : Int) + off = (tgt : Int)) (hf : (if y < x then f1 else f2) = some res) (kt : y < x → f1 = some res → W p l e R s m args below meth c H locs cells slots Q (F0 m tgt ls rest)) (kf : ¬ y < x → f2 = some res → W p l e R s m args below meth c H locs cells slots Q (F0 m (pc + 3) ls rest)) : W p l e R s m args below meth c H locs cells slots Q (F0 m pc ls (.int y :: .int x :: rest)) := lv_icmp_gt hx hb hdg ht (fun hc => kt hc ((if_pos hc).symm.trans hf)) (fun hc => kf hc ((if_neg hc).symm.trans hf))
theorem hi_icmp_le (hx : p.tables.exec = Jvm.exec) (hb : c.code = cc) {x y : Int32} (hdg : decode cc pc = .ok (.if_icmp .le off, 3)) (ht : (pc : Int) + off = (tgt : Int)) (hf : (if x ≤ y then f1 else f2) = some res) (kt : x ≤ y → f1 = some res → W p l e R s m args below meth c H locs cells slots Q (F0 m tgt ls rest)) (kf : ¬ x ≤ y → f2 = some res → W p l e R s m args below meth c H locs cells slots Q (F0 m (pc + 3) ls rest)) : W p l e R s m args below meth c H locs cells slots Q (F0 m pc ls (.int y :: .int x :: rest)) := lv_icmp_le hx hb hdg ht (fun hc => kt hc ((if_pos hc).symm.trans hf)) (fun hc => kf hc ((if_neg hc).symm.trans hf))
theorem hi_if_eq (hx : p.tables.exec = Jvm.exec) (hb : c.code = cc) {x : Int32} (hdg : decode cc pc = .ok (.ifCond .eq off, 3)) (ht : (pc : Int) + off = (tgt : Int)) (hf : (if x = 0 then f1 else f2) = some res) (kt : x = 0 → f1 = some res → W p l e R s m args below meth c H locs cells slots Q (F0 m tgt ls rest)) (kf : ¬ x = 0 → f2 = some res → W p l e R s m args below meth c H locs cells slots Q (F0 m (pc + 3) ls rest)) : W p l e R s m args below meth c H locs cells slots Q (F0 m pc ls (.int x :: rest)) := lv_if_eq hx hb hdg ht (fun hc => kt hc ((if_pos hc).symm.trans hf)) (fun hc => kf hc ((if_neg hc).symm.trans hf))
theorem hi_if_ne (hx : p.tables.exec = Jvm.exec) (hb : c.code = cc) {x : Int32} (hdg : decode cc pc = .ok (.ifCond .ne off, 3)) (ht : (pc : Int) + off = (tgt : Int)) (hf : (if x = 0 then f2 else f1) = some res) (kt : ¬ x = 0 → f1 = some res → W p l e R s m args below meth c H locs cells slots Q (F0 m tgt ls rest)) (kf : x = 0 → f2 = some res → W p l e R s m args below meth c H locs cells slots Q (F0 m (pc + 3) ls rest)) : W p l e R s m args below meth c H locs cells slots Q (F0 m pc ls (.int x :: rest)) := lv_if_ne hx hb hdg ht (fun hc => kt hc ((if_neg hc).symm.trans hf)) (fun hc => kf hc ((if_pos hc).symm.trans hf))
theorem hi_if_lt (hx : p.tables.exec = Jvm.exec) (hb : c.code = cc) {x : Int32} (hdg : decode cc pc = .ok (.ifCond .lt off, 3)) (ht : (pc : Int) + off = (tgt : Int)) (hf : (if x < 0 then f1 else f2) = some res) (kt : x < 0 → f1 = some res → W p l e R s m args below meth c H locs cells slots Q (F0 m tgt ls rest)) (kf : ¬ x < 0 → f2 = some res → W p l e R s m args below meth c H locs cells slots Q (F0 m (pc + 3) ls rest)) : W p l e R s m args below meth c H locs cells slots Q (F0 m pc ls (.int x :: rest)) := lv_if_lt hx hb hdg ht (fun hc => kt hc ((if_pos hc).symm.trans hf)) (fun hc => kf hc ((if_neg hc).symm.trans hf))
theorem hi_if_ge (hx : p.tables.exec = Jvm.exec) (hb : c.code = cc) {x : Int32} (hdg : decode cc pc = .ok (.ifCond .ge off, 3)) (ht : (pc : Int) + off = (tgt : Int)) (hf : (if 0 ≤ x then f1 else f2) = some res) (kt : 0 ≤ x → f1 = some res → W p l e R s m args below meth c H locs cells slots Q (F0 m tgt ls rest)) (kf : ¬ 0 ≤ x → f2 = some res → W p l e R s m args below meth c H locs cells slots Q (F0 m (pc + 3) ls rest)) : W p l e R s m args below meth c H locs cells slots Q (F0 m pc ls (.int x :: rest)) := lv_if_ge hx hb hdg ht (fun hc => kt hc ((if_pos hc).symm.trans hf)) (fun hc => kf hc ((if_neg hc).symm.trans hf))
theorem hi_if_gt (hx : p.tables.exec = Jvm.exec) (hb : c.code = cc) {x : Int32} (hdg : decode cc pc = .ok (.ifCond .gt off, 3)) (ht : (pc : Int) + off = (tgt : Int)) (hf : (if 0 < x then f1 else f2) = some res) (kt : 0 < x → f1 = some res → W p l e R s m args below meth c H locs cells slots Q (F0 m tgt ls rest)) (kf : ¬ 0 < x → f2 = some res → W p l e R s m args below meth c H locs cells slots Q (F0 m (pc + 3) ls rest)) : W p l e R s m args below meth c H locs cells slots Q (F0 m pc ls (.int x :: rest)) := lv_if_gt hx hb hdg ht (fun hc => kt hc ((if_pos hc).symm.trans hf)) (fun hc => kf hc ((if_neg hc).symm.trans hf))
theorem hi_if_le (hx : p.tables.exec = Jvm.exec) (hb : c.code = cc) {x : Int32} (hdg : decode cc pc = .ok (.ifCond .le off, 3)) (ht : (pc : Int) + off = (tgt : Int)) (hf : (if x ≤ 0 then f1 else f2) = some res) (kt : x ≤ 0 → f1 = some res → W p l e R s m args below meth c H locs cells slots Q (F0 m tgt ls rest)) (kf : ¬ x ≤ 0 → f2 = some res → W p l e R s m args below meth c H locs cells slots Q (F0 m (pc + 3) ls rest)) : W p l e R s m args below meth c H locs cells slots Q (F0 m pc ls (.int x :: rest)) := lv_if_le hx hb hdg ht (fun hc => kt hc ((if_pos hc).symm.trans hf)) (fun hc => kf hc ((if_neg hc).symm.trans hf))
end HW3
section HW4
variable {p : Program} {l : Launch} {e : Env} {R : Room} {s : State} {m : MethodId} {args : Array Value} {below : List Frame} {meth : Method} {c : Code} {H : Heap} {locs : List Loc} {cells slots : Nat} {Q : State → Prop}
variable {cc : ByteArray} {pc : Nat} {ls : Array Slot} {rest st0 : List Value} {D : va_G} {cl : List vw_C} {cA cZ : ClassId} {A : Nat → Prop} {ws wc wr w1 : va_W} {a : Array Value} {r : Option Value} {H0 : Heap}
theorem hw_go (hr : va_Run p l e R s m args below meth c H locs cells slots 0 0 (F0 m pc ls st0) rest (hw_Q D cl (va_A wc H.size) w1 r a) (va_A wc H.size)) (isC isR : List Nat) (hC : isC.map (fun i => ws[i]?) = wc.map some) (hR : isR.map (fun i => ws[i]?) = wr.map some) (hn : va_nd isR = true) (hdis : ∀ i ∈ isR, i ∉ isC) (hP : va_P D cl ws H) (hD : va_D A ws) (hS : va_S A H0 H locs) (hA : ∀ q, H0.size ≤ q → A q)
    (kk : ∀ (H1 : Heap) (locs1 : List Loc), va_P D cl (wr ++ w1) H1 → va_D A (wr ++ w1) → va_S A H0 H1 locs1 → W p l e R s m args below meth c H1 locs1 cells slots Q (F0 m (pc + 3) ls (r.toList ++ rest))) : W p l e R s m args below meth c H locs cells slots Q (F0 m pc ls st0) := by
  have hF := va_free hD hS hA isC hC
  intro T hT X
  obtain ⟨v, st₀, t, T', L, h0, X', hL, e1, e2, ⟨hv, hP1, hD1, hz, hk⟩, st⟩ := hr T hT X
  cases hv
  rw [h0] at hz hk
  have hk1 : ∀ q : Nat, q < H.size → ¬ va_A wc H.size q → T'.heap[q]? = H[q]? := fun q h1 h2 => by rw [e1]; exact hk q h1 h2
  have hz1 : H.size ≤ T'.heap.size := by rw [e1]; exact hz
  obtain ⟨hP2, hD2⟩ := va_join (wr := wr) (w1 := w1) hP hD isC isR hC hR hn hdis hk1 hF (by rw [e1]; exact hP1) hD1
  obtain ⟨t2, a1, b1⟩ := kk T'.heap (locs ++ L) hP2 hD2 ⟨Nat.le_trans hS.1 hz1, fun q h1 h2 => by
      rw [hk1 q (Nat.lt_of_lt_of_le h1 hS.1) (fun z => h2 (hF q z))]; exact hS.2.1 q h1 h2, fun q hq => by
      rcases List.mem_append.mp hq with h | h
      · exact hS.2.2 q h
      · exact hF _ (hL q h)⟩ T' rfl X'
  exact ⟨t2, st t2 a1, b1⟩
theorem hw_goN {w1 : (Nat → Nat) → va_W} {mc ms : Nat} (hr : va_Run p l e R s m args below meth c H locs cells slots mc ms (F0 m pc ls st0) rest (hw_QN D cl (va_A wc H.size) w1 r a) (va_A wc H.size)) (isC isR : List Nat) (hC : isC.map (fun i => ws[i]?) = wc.map some) (hR : isR.map (fun i => ws[i]?) = wr.map some) (hn : va_nd isR = true) (hdis : ∀ i ∈ isR, i ∉ isC) (hP : va_P D cl ws H) (hD : va_D A ws) (hS : va_S A H0 H locs) (hA : ∀ q, H0.size ≤ q → A q)
    (kk : ∀ (u : Nat → Nat) (H1 : Heap) (locs1 : List Loc), va_P D cl (wr ++ w1 u) H1 → va_D A (wr ++ w1 u) → va_S A H0 H1 locs1 → W p l e R s m args below meth c H1 locs1 (cells + mc) (slots + ms) Q (F0 m (pc + 3) ls (r.toList ++ rest))) : W p l e R s m args below meth c H locs cells slots Q (F0 m pc ls st0) := by
  have hF := va_free hD hS hA isC hC
  intro T hT X
  obtain ⟨v, st₀, t, T', L, h0, X', hL, e1, e2, ⟨hv, ⟨u, hP1, hD1⟩, hz, hk⟩, st⟩ := hr T hT X
  cases hv
  rw [h0] at hz hk
  have hk1 : ∀ q : Nat, q < H.size → ¬ va_A wc H.size q → T'.heap[q]? = H[q]? := fun q h1 h2 => by rw [e1]; exact hk q h1 h2
  have hz1 : H.size ≤ T'.heap.size := by rw [e1]; exact hz
  obtain ⟨hP2, hD2⟩ := va_join (wr := wr) (w1 := w1 u) hP hD isC isR hC hR hn hdis hk1 hF (by rw [e1]; exact hP1) hD1
  obtain ⟨t2, a1, b1⟩ := kk u T'.heap (locs ++ L) hP2 hD2 ⟨Nat.le_trans hS.1 hz1, fun q h1 h2 => by
      rw [hk1 q (Nat.lt_of_lt_of_le h1 hS.1) (fun z => h2 (hF q z))]; exact hS.2.1 q h1 h2, fun q hq => by
      rcases List.mem_append.mp hq with h | h
      · exact hS.2.2 q h
      · exact hF _ (hL q h)⟩ T' rfl X'
  exact ⟨t2, st t2 a1, b1⟩
theorem hw_preS {As : List Value} (isC : List Nat) (hnC : va_nd isC = true) (hC : isC.map (fun i => ws[i]?) = wc.map some) (hK : va_K D cl [(cA, .int), (cZ, .boolean)] s) (hE : hw_NE s) (hP : va_P D cl ws H) (hD : va_D A ws) : PreS s H (hw_pre D cl cA cZ H.size As wc) As := by
  have hPc : va_P D cl wc H := by
    intro k q hk
    have h1 : (wc.map some)[k]? = some (some q) := by rw [List.getElem?_map, hk]; rfl
    rw [← hC, List.getElem?_map] at h1
    cases h2 : isC[k]? with
    | none => rw [h2] at h1; cases h1
    | some i =>
      rw [h2] at h1
      exact hP i q (Option.some.inj h1)
  refine ⟨fun a U g mk q => ?_, fun U hU hW => ⟨rfl, by rw [hU], by rw [hU]; exact hPc, va_K.moved hW.alike hK, (hD.sub isC hnC hC).weaken (fun _ _ _ _ => trivial), hE.warm hW⟩⟩
  obtain ⟨q0, q1, qP, qK, qD, qE⟩ := q
  exact ⟨q0, q1, qP, va_K.moved (u := U) (U := U.calling g mk a) (Vm.Alike.refl U.vm) qK, qD, hw_NE.same (s := U) (U := U.calling g mk a) rfl qE⟩
variable {Ts : List Cond} {own host : String} {nL index maxL n : Nat} {y : MethodName} {bytes : ByteArray} {ret : Option FieldType} {wy : List Cond} {rm : Room} {As : List Value} {b : Nat}
theorem hw_goS (S : CallFix p m c cc nL s args Ts own) (hM : hw_C l y wy rm D cl cA cZ As wc w1 r) (cw : CallB R s args own index y bytes maxL ret wy rm 0 0 n ∧ (Cond.static y).before args s = true) (isC isR : List Nat) (hC : isC.map (fun i => ws[i]?) = wc.map some) (hR : isR.map (fun i => ws[i]?) = wr.map some) (hnC : va_nd isC = true) (hnR : va_nd isR = true) (hdis : ∀ i ∈ isR, i ∉ isC) (hK : va_K D cl [(cA, .int), (cZ, .boolean)] s) (hE : hw_NE s) (hP : va_P D cl ws H) (hD : va_D A ws) (hS : va_S A H0 H locs) (hA : ∀ q, H0.size ≤ q → A q) (hsize : ls.size = nL) (hn : As.length = n) (hst : st0 = As.reverse ++ rest) (hW : (rest.map fun v => v.category).sum ≤ 8) (hdg : decode cc pc = .ok (.invokestatic index, 3)) (hf : cells ≤ R.cells ∧ slots ≤ R.slots)
    (kk : ∀ (H1 : Heap) (locs1 : List Loc), va_P D cl (wr ++ w1) H1 → va_D A (wr ++ w1) → va_S A H0 H1 locs1 → W p l e R s m args below meth c H1 locs1 cells slots Q (F0 m (pc + 3) ls (r.toList ++ rest))) : W p l e R s m args below meth c H locs cells slots Q (F0 m pc ls st0) :=
  hw_go (va_runS S (hM H.size) cw (hw_preS isC hnC hC hK hE hP hD) rfl hn hsize hst (lv_room hW) hdg hf) isC isR hC hR hnR hdis hP hD hS hA kk
theorem hw_goSN (S : CallFix p m c cc nL s args Ts own) (hM : hw_C l y wy rm D cl cA cZ As wc w1 r) (cw : va_CN R s args own index y host bytes maxL ret wy rm 0 0 n ∧ (Cond.static y).before args s = true ∧ True) (isC isR : List Nat) (hC : isC.map (fun i => ws[i]?) = wc.map some) (hR : isR.map (fun i => ws[i]?) = wr.map some) (hnC : va_nd isC = true) (hnR : va_nd isR = true) (hdis : ∀ i ∈ isR, i ∉ isC) (hK : va_K D cl [(cA, .int), (cZ, .boolean)] s) (hE : hw_NE s) (hP : va_P D cl ws H) (hD : va_D A ws) (hS : va_S A H0 H locs) (hA : ∀ q, H0.size ≤ q → A q) (hsize : ls.size = nL) (hn : As.length = n) (hst : st0 = As.reverse ++ rest) (hW : (rest.map fun v => v.category).sum ≤ 8) (hdg : decode cc pc = .ok (.invokestatic index, 3)) (hf : cells ≤ R.cells ∧ slots ≤ R.slots)
    (kk : ∀ (H1 : Heap) (locs1 : List Loc), va_P D cl (wr ++ w1) H1 → va_D A (wr ++ w1) → va_S A H0 H1 locs1 → W p l e R s m args below meth c H1 locs1 cells slots Q (F0 m (pc + 3) ls (r.toList ++ rest))) : W p l e R s m args below meth c H locs cells slots Q (F0 m pc ls st0) :=
  hw_go (va_runSN S (hM H.size) cw (hw_preS isC hnC hC hK hE hP hD) rfl hn hsize hst (lv_room hW) hdg hf) isC isR hC hR hnR hdis hP hD hS hA kk
theorem hw_goV {C : String} {T : u_T} {N ci : Nat} {fs : List Value} (S : CallFix p m c cc nL s args Ts own) (hM : hw_C l y wy rm D cl cA cZ (.ref b :: As) wc w1 r) (cw : CallW R s args own C index y bytes maxL ret wy rm 0 0 n) (q0 : Nat) (hc : cl[ci]? = some (C, T, N)) (he : ws[q0]? = some (b, .inr (ci, fs))) (isC isR : List Nat) (hC : isC.map (fun i => ws[i]?) = wc.map some) (hR : isR.map (fun i => ws[i]?) = wr.map some) (hnC : va_nd isC = true) (hnR : va_nd isR = true) (hdis : ∀ i ∈ isR, i ∉ isC) (hK : va_K D cl [(cA, .int), (cZ, .boolean)] s) (hE : hw_NE s) (hP : va_P D cl ws H) (hD : va_D A ws) (hS : va_S A H0 H locs) (hA : ∀ q, H0.size ≤ q → A q) (hsize : ls.size = nL) (hn : As.length = n) (hst : st0 = As.reverse ++ .ref b :: rest) (hW : (rest.map fun v => v.category).sum ≤ 8) (hdg : decode cc pc = .ok (.invokevirtual index, 3)) (hf : cells ≤ R.cells ∧ slots ≤ R.slots)
    (kk : ∀ (H1 : Heap) (locs1 : List Loc), va_P D cl (wr ++ w1) H1 → va_D A (wr ++ w1) → va_S A H0 H1 locs1 → W p l e R s m args below meth c H1 locs1 cells slots Q (F0 m (pc + 3) ls (r.toList ++ rest))) : W p l e R s m args below meth c H locs cells slots Q (F0 m pc ls st0) :=
  hw_go (va_runV S (hM H.size) cw ⟨(hw_preS isC hnC hC hK hE hP hD).1, va_recv hK hP hc he, (hw_preS isC hnC hC hK hE hP hD).2⟩ rfl hn hsize hst (lv_room hW) hdg hf) isC isR hC hR hnR hdis hP hD hS hA kk
theorem hw_goVN {C : String} {T : u_T} {N ci : Nat} {fs : List Value} (S : CallFix p m c cc nL s args Ts own) (hM : hw_C l y wy rm D cl cA cZ (.ref b :: As) wc w1 r) (cw : va_CN R s args own index y host bytes maxL ret wy rm 0 0 n ∧ (Cond.instanceMethod y).before args s = true ∧ (Cond.selects C y y).before args s = true) (q0 : Nat) (hc : cl[ci]? = some (C, T, N)) (he : ws[q0]? = some (b, .inr (ci, fs))) (isC isR : List Nat) (hC : isC.map (fun i => ws[i]?) = wc.map some) (hR : isR.map (fun i => ws[i]?) = wr.map some) (hnC : va_nd isC = true) (hnR : va_nd isR = true) (hdis : ∀ i ∈ isR, i ∉ isC) (hK : va_K D cl [(cA, .int), (cZ, .boolean)] s) (hE : hw_NE s) (hP : va_P D cl ws H) (hD : va_D A ws) (hS : va_S A H0 H locs) (hA : ∀ q, H0.size ≤ q → A q) (hsize : ls.size = nL) (hn : As.length = n) (hst : st0 = As.reverse ++ .ref b :: rest) (hW : (rest.map fun v => v.category).sum ≤ 8) (hdg : decode cc pc = .ok (.invokevirtual index, 3)) (hf : cells ≤ R.cells ∧ slots ≤ R.slots)
    (kk : ∀ (H1 : Heap) (locs1 : List Loc), va_P D cl (wr ++ w1) H1 → va_D A (wr ++ w1) → va_S A H0 H1 locs1 → W p l e R s m args below meth c H1 locs1 cells slots Q (F0 m (pc + 3) ls (r.toList ++ rest))) : W p l e R s m args below meth c H locs cells slots Q (F0 m pc ls st0) :=
  hw_go (va_runVN S (hM H.size) cw ⟨(hw_preS isC hnC hC hK hE hP hD).1, va_recv hK hP hc he, (hw_preS isC hnC hC hK hE hP hD).2⟩ rfl hn hsize hst (lv_room hW) hdg hf) isC isR hC hR hnR hdis hP hD hS hA kk
theorem hw_goI {w1 : (Nat → Nat) → va_W} {mc ms : Nat} (S : CallFix p m c cc nL s args Ts own) (hM : hw_N l y wy rm D cl cA cZ (.ref b :: As) wc w1 r mc ms) (cw : CallB R s args own index y bytes maxL none wy rm mc ms n ∧ y.name = "<init>" ∧ (Cond.instanceMethod y).before args s = true) (isC isR : List Nat) (hC : isC.map (fun i => ws[i]?) = wc.map some) (hR : isR.map (fun i => ws[i]?) = wr.map some) (hnC : va_nd isC = true) (hnR : va_nd isR = true) (hdis : ∀ i ∈ isR, i ∉ isC) (hK : va_K D cl [(cA, .int), (cZ, .boolean)] s) (hE : hw_NE s) (hP : va_P D cl ws H) (hD : va_D A ws) (hS : va_S A H0 H locs) (hA : ∀ q, H0.size ≤ q → A q) (hsize : ls.size = nL) (hn : As.length = n) (hst : st0 = As.reverse ++ .ref b :: rest) (hW : (rest.map fun v => v.category).sum ≤ 8) (hdg : decode cc pc = .ok (.invokespecial index, 3)) (hf : cells + mc ≤ R.cells ∧ slots + ms ≤ R.slots)
    (kk : ∀ (u : Nat → Nat) (H1 : Heap) (locs1 : List Loc), va_P D cl (wr ++ w1 u) H1 → va_D A (wr ++ w1 u) → va_S A H0 H1 locs1 → W p l e R s m args below meth c H1 locs1 (cells + mc) (slots + ms) Q (F0 m (pc + 3) ls (r.toList ++ rest))) : W p l e R s m args below meth c H locs cells slots Q (F0 m pc ls st0) :=
  hw_goN (va_runI S (hM H.size) cw (hw_preS isC hnC hC hK hE hP hD) rfl hn hsize hst (lv_room hW) hdg hf) isC isR hC hR hnR hdis hP hD hS hA kk
end HW4
theorem ne_0 {U : State} (h : hw_NE U) : va_Nw (.methodLinkNest RX2 50 yX5_entryCells "SealedLedger") U := h (RX2, 50, yX5_entryCells, "SealedLedger") mn_0
theorem ne_1 {U : State} (h : hw_NE U) : va_Nw (.methodLinkNest RX2 75 yX5_mix "SealedLedger") U := h (RX2, 75, yX5_mix, "SealedLedger") mn_1
theorem ne_2 {U : State} (h : hw_NE U) : va_Nw (.methodLinkNest RX2 111 yX5_isAccount "SealedLedger") U := h (RX2, 111, yX5_isAccount, "SealedLedger") mn_2
theorem ne_3 {U : State} (h : hw_NE U) : va_Nw (.methodLinkNest RX2 115 yX5_isAmount "SealedLedger") U := h (RX2, 115, yX5_isAmount, "SealedLedger") mn_3
theorem ne_4 {U : State} (h : hw_NE U) : va_Nw (.methodLinkNest RX4 33 yX5_split "SealedLedger") U := h (RX4, 33, yX5_split, "SealedLedger") mn_4
theorem ne_5 {U : State} (h : hw_NE U) : va_Nw (.methodLinkNest RX4 36 yX5_node "SealedLedger") U := h (RX4, 36, yX5_node, "SealedLedger") mn_5
theorem ne_6 {U : State} (h : hw_NE U) : va_Nw (.methodLinkNest RX4 9 yX5_mix "SealedLedger") U := h (RX4, 9, yX5_mix, "SealedLedger") mn_6
theorem ne_7 {U : State} (h : hw_NE U) : va_Nw (.methodLinkNest RX3 44 yX5_split "SealedLedger") U := h (RX3, 44, yX5_split, "SealedLedger") mn_7
theorem ne_8 {U : State} (h : hw_NE U) : va_Nw (.methodLinkNest RX3 47 yX5_node "SealedLedger") U := h (RX3, 47, yX5_node, "SealedLedger") mn_8
theorem ks_X5_15 : GoodIn hw_all wX1_init := hw_gC mw_6
theorem ks_X5_22 : GoodIn hw_all wX2_init := hw_gC mw_11
theorem ks_X5_29 : GoodIn hw_all wX0_init := hw_gC mw_14
theorem ks_X5_36 : GoodIn hw_all wX3_init := hw_gC mw_17
theorem ks_X5_45 : GoodIn hw_all (wsS RX5 45 yX5_isAccount wX5_isAccount) := hw_gS mw_47 mw_48 mw_49 mw_46
theorem ks_X5_50 : GoodIn hw_all (wsS RX5 50 yX5_isAmount wX5_isAmount) := hw_gS mw_55 mw_56 mw_49 mw_52
theorem ks_X5_53 : GoodIn hw_all (wsV RX5 53 RX1 yX1_add wX1_add) := hw_gV mw_58 mw_59 mw_57 mw_22 mw_54
theorem ks_X5_57 : GoodIn hw_all (wsV RX5 57 RX1 yX1_clear wX1_clear) := hw_gV mw_63 mw_64 mw_62 mw_22 mw_61
theorem ks_X2_53 : GoodIn hw_all (wsS RX2 53 yX2_accountCell wX2_accountCell) := hw_gS mw_74 mw_75 mw_28 mw_72
theorem ks_X2_60 : GoodIn hw_all (wsS RX2 60 yX2_amountCell wX2_amountCell) := hw_gS mw_76 mw_77 mw_28 mw_73
theorem ks_X2_101 : GoodIn hw_all (wsV RX2 101 RX2 yX2_totalAt wX2_totalAt) := hw_gV mw_87 mw_88 mw_86 mw_28 mw_78
theorem ks_X5_157 : GoodIn hw_all (wsV RX5 157 RX1 yX1_size wX1_size) := hw_gV mw_92 mw_93 mw_91 mw_22 mw_69
theorem ks_X5_158 : GoodIn hw_all (wsV RX5 158 RX1 yX1_accountAt wX1_accountAt) := hw_gV mw_95 mw_96 mw_94 mw_22 mw_70
theorem ks_X5_99 : GoodIn hw_all (wsV RX5 99 RX2 yX2_size wX2_size) := hw_gV mw_98 mw_99 mw_97 mw_28 mw_71
theorem ks_X5_105 : GoodIn hw_all (wsV RX5 105 RX2 yX2_total wX2_total) := hw_gV mw_101 mw_102 mw_100 mw_28 mw_89
theorem ks_X5_161 : GoodIn hw_all (wsV RX5 161 RX1 yX1_change wX1_change) := hw_gV mw_104 mw_105 mw_103 mw_22 mw_90
theorem ks_X2_50 : GoodIn hw_all wX5_entryCells := hw_gC mw_107
theorem ks_X2_75 : GoodIn hw_all wX5_mix := hw_gC mw_115
theorem ks_X2_72 : GoodIn hw_all (wsV RX2 72 RX2 yX2_leafFrom wX2_leafFrom) := hw_gV mw_119 mw_120 mw_118 mw_28 mw_117
theorem ks_X2_44 : GoodIn hw_all (wsV RX2 44 RX1 yX1_size wX1_size) := hw_gV mw_122 mw_93 mw_91 mw_22 mw_69
theorem ks_X2_66 : GoodIn hw_all (wsV RX2 66 RX2 yX2_sealCell wX2_sealCell) := hw_gV mw_124 mw_125 mw_123 mw_28 mw_110
theorem ks_X2_69 : GoodIn hw_all (wsV RX2 69 RX2 yX2_lastSeal wX2_lastSeal) := hw_gV mw_127 mw_128 mw_126 mw_28 mw_112
theorem ks_X2_78 : GoodIn hw_all (wsV RX2 78 RX2 yX2_acceptNext wX2_acceptNext) := hw_gV mw_130 mw_131 mw_129 mw_28 mw_121
theorem ks_X2_57 : GoodIn hw_all (wsV RX2 57 RX1 yX1_accountAt wX1_accountAt) := hw_gV mw_132 mw_96 mw_94 mw_22 mw_70
theorem ks_X2_63 : GoodIn hw_all (wsV RX2 63 RX1 yX1_amountAt wX1_amountAt) := hw_gV mw_134 mw_135 mw_133 mw_22 mw_108
theorem ks_X5_150 : GoodIn hw_all (wsV RX5 150 RX5 yX5_isPoor wX5_isPoor) := hw_gV mw_138 mw_139 mw_137 mw_49 mw_106
theorem ks_X5_153 : GoodIn hw_all (wsV RX5 153 RX2 yX2_append wX2_append) := hw_gV mw_141 mw_142 mw_140 mw_28 mw_136
theorem ks_X5_60 : GoodIn hw_all (wsV RX5 60 RX1 yX1_isEven wX1_isEven) := hw_gV mw_146 mw_147 mw_145 mw_22 mw_66
theorem ks_X5_64 : GoodIn hw_all (wsV RX5 64 RX2 yX2_firstWith wX2_firstWith) := hw_gV mw_149 mw_150 mw_148 mw_28 mw_68
theorem ks_X5_71 : GoodIn hw_all (wsV RX5 71 RX2 yX2_hasLegsOf wX2_hasLegsOf) := hw_gV mw_152 mw_153 mw_151 mw_28 mw_144
theorem ks_X5_68 : GoodIn hw_all (wsV RX5 68 RX5 yX5_commitNew wX5_commitNew) := hw_gV mw_155 mw_156 mw_154 mw_49 mw_143
theorem ks_X2_31 : GoodIn hw_all (wsS RX2 31 yX2_blockOf wX2_blockOf) := hw_gS mw_160 mw_161 mw_28 mw_158
theorem ks_X0_22 : GoodIn hw_all (wsV RX0 22 RX2 yX2_cellAt wX2_cellAt) := hw_gV mw_168 mw_169 mw_167 mw_28 mw_164
theorem ks_X2_38 : GoodIn hw_all (wsV RX2 38 RX2 yX2_markSynced wX2_markSynced) := hw_gV mw_175 mw_176 mw_174 mw_28 mw_172
theorem ks_X2_41 : GoodIn hw_all (wsV RX2 41 RX2 yX2_clearBehindEnd wX2_clearBehindEnd) := hw_gV mw_178 mw_179 mw_177 mw_28 mw_173
theorem ks_X5_171 : GoodIn hw_all (wsV RX5 171 RX2 yX2_clear wX2_clear) := hw_gV mw_182 mw_183 mw_181 mw_28 mw_180
theorem ks_X5_164 : GoodIn hw_all (wsV RX5 164 RX0 yX0_write wX0_write) := hw_gV mw_186 mw_187 mw_185 mw_34 mw_170
theorem ks_X5_168 : GoodIn hw_all (wsV RX5 168 RX5 yX5_losePower wX5_losePower) := hw_gV mw_189 mw_190 mw_188 mw_49 mw_184
theorem ks_X5_75 : GoodIn hw_all (wsV RX5 75 RX2 yX2_syncedBlock wX2_syncedBlock) := hw_gV mw_193 mw_194 mw_192 mw_28 mw_162
theorem ks_X5_79 : GoodIn hw_all (wsV RX5 79 RX2 yX2_endBlock wX2_endBlock) := hw_gV mw_196 mw_197 mw_195 mw_28 mw_163
theorem ks_X5_85 : GoodIn hw_all (wsV RX5 85 RX2 yX2_markSynced wX2_markSynced) := hw_gV mw_198 mw_176 mw_174 mw_28 mw_172
theorem ks_X5_82 : GoodIn hw_all (wsV RX5 82 RX5 yX5_writeBlock wX5_writeBlock) := hw_gV mw_200 mw_201 mw_199 mw_49 mw_191
theorem ks_X5_88 : GoodIn hw_all (wsV RX5 88 RX0 yX0_failAt wX0_failAt) := hw_gV mw_205 mw_206 mw_204 mw_34 mw_203
theorem ks_X2_111 : GoodIn hw_all wX5_isAccount := hw_gC mw_46
theorem ks_X2_115 : GoodIn hw_all wX5_isAmount := hw_gC mw_52
theorem ks_X2_105 : GoodIn hw_all (wsV RX2 105 RX2 yX2_nextFits wX2_nextFits) := hw_gV mw_212 mw_213 mw_211 mw_28 mw_209
theorem ks_X2_108 : GoodIn hw_all (wsV RX2 108 RX2 yX2_nextLegsAreSound wX2_nextLegsAreSound) := hw_gV mw_215 mw_216 mw_214 mw_28 mw_210
theorem ks_X2_81 : GoodIn hw_all (wsV RX2 81 RX2 yX2_clear wX2_clear) := hw_gV mw_218 mw_183 mw_181 mw_28 mw_180
theorem ks_X2_84 : GoodIn hw_all (wsV RX2 84 RX0 yX0_cellAt wX0_cellAt) := hw_gV mw_220 mw_221 mw_219 mw_34 mw_208
theorem ks_X2_89 : GoodIn hw_all (wsV RX2 89 RX2 yX2_nextIsSound wX2_nextIsSound) := hw_gV mw_223 mw_224 mw_222 mw_28 mw_217
theorem ks_X5_92 : GoodIn hw_all (wsV RX5 92 RX2 yX2_load wX2_load) := hw_gV mw_228 mw_229 mw_227 mw_28 mw_225
theorem ks_X5_96 : GoodIn hw_all (wsV RX5 96 RX2 yX2_endsInBlock wX2_endsInBlock) := hw_gV mw_231 mw_232 mw_230 mw_28 mw_226
theorem ks_X5_102 : GoodIn hw_all (wsV RX5 102 RX2 yX2_syncedSize wX2_syncedSize) := hw_gV mw_238 mw_239 mw_237 mw_28 mw_236
theorem ks_X5_109 : GoodIn hw_all (wsV RX5 109 RX2 yX2_leafOf wX2_leafOf) := hw_gV mw_246 mw_247 mw_245 mw_28 mw_244
theorem ks_X5_174 : GoodIn hw_all (wsS RX5 174 yX5_mix wX5_mix) := hw_gS mw_250 mw_116 mw_49 mw_115
theorem ks_X4_27 : GoodIn hw_all (wsV RX4 27 RX2 yX2_leafOf wX2_leafOf) := hw_gV mw_252 mw_247 mw_245 mw_28 mw_244
theorem ks_X4_33 : GoodIn hw_all wX5_split := hw_gC mw_249
theorem ks_X4_13 : GoodIn hw_all (wsS RX4 13 yX4_hash wX4_hash) := hw_gS mw_255 mw_256 mw_257 mw_254
theorem ks_X4_36 : GoodIn hw_all wX5_node := hw_gC mw_251
theorem ks_X4_9 : GoodIn hw_all wX5_mix := hw_gC mw_115
theorem ks_X5_112 : GoodIn hw_all (va_wsS RX5 112 yX4_headOf wX4_headOf) := hw_gA mw_260 mw_261 mw_257 mw_259
theorem ks_X4_19 : GoodIn hw_all (wsS RX4 19 yX4_inclusion wX4_inclusion) := hw_gS mw_267 mw_268 mw_257 mw_266
theorem ks_X4_39 : GoodIn hw_all (wsV RX4 39 RX3 yX3_add wX3_add) := hw_gV mw_270 mw_271 mw_269 mw_40 mw_265
theorem ks_X5_118 : GoodIn hw_all (wsV RX5 118 RX3 yX3_clear wX3_clear) := hw_gV mw_275 mw_276 mw_274 mw_40 mw_264
theorem ks_X5_119 : GoodIn hw_all (va_wsS RX5 119 yX4_addInclusion wX4_addInclusion) := hw_gA mw_277 mw_278 mw_257 mw_272
theorem ks_X5_123 : GoodIn hw_all (wsV RX5 123 RX3 yX3_length wX3_length) := hw_gV mw_280 mw_281 mw_279 mw_40 mw_273
theorem ks_X4_23 : GoodIn hw_all (wsS RX4 23 yX4_consistency wX4_consistency) := hw_gS mw_284 mw_285 mw_257 mw_283
theorem ks_X5_126 : GoodIn hw_all (va_wsS RX5 126 yX4_addConsistency wX4_addConsistency) := hw_gA mw_287 mw_288 mw_257 mw_286
theorem ks_X5_129 : GoodIn hw_all (wsV RX5 129 RX3 yX3_add wX3_add) := hw_gV mw_290 mw_271 mw_269 mw_40 mw_265
theorem ks_X5_131 : GoodIn hw_all (wsV RX5 131 RX3 yX3_removeLast wX3_removeLast) := hw_gV mw_294 mw_295 mw_293 mw_40 mw_292
theorem ks_X5_134 : GoodIn hw_all (wsV RX5 134 RX3 yX3_intAt wX3_intAt) := hw_gV mw_299 mw_300 mw_298 mw_40 mw_297
theorem ks_X3_44 : GoodIn hw_all wX5_split := hw_gC mw_249
theorem ks_X3_34 : GoodIn hw_all (wsV RX3 34 RX3 yX3_intAt wX3_intAt) := hw_gV mw_303 mw_300 mw_298 mw_40 mw_297
theorem ks_X3_23 : GoodIn hw_all (wsS RX3 23 yX3_shownAbove wX3_shownAbove) := hw_gS mw_305 mw_306 mw_40 mw_304
theorem ks_X3_47 : GoodIn hw_all wX5_node := hw_gC mw_251
theorem ks_X3_19 : GoodIn hw_all (wsS RX3 19 yX3_inclusionLength wX3_inclusionLength) := hw_gS mw_307 mw_308 mw_40 mw_302
theorem ks_X5_137 : GoodIn hw_all (wsV RX5 137 RX3 yX3_showsInclusion wX3_showsInclusion) := hw_gV mw_311 mw_312 mw_310 mw_40 mw_309
theorem ks_X3_38 : GoodIn hw_all (wsS RX3 38 yX3_shownOld wX3_shownOld) := hw_gS mw_317 mw_318 mw_40 mw_316
theorem ks_X3_41 : GoodIn hw_all (wsS RX3 41 yX3_shownNew wX3_shownNew) := hw_gS mw_320 mw_321 mw_40 mw_319
theorem ks_X3_27 : GoodIn hw_all (wsS RX3 27 yX3_consistencySteps wX3_consistencySteps) := hw_gS mw_322 mw_323 mw_40 mw_314
theorem ks_X3_30 : GoodIn hw_all (wsS RX3 30 yX3_isOwn wX3_isOwn) := hw_gS mw_324 mw_325 mw_40 mw_315
theorem ks_X5_141 : GoodIn hw_all (wsV RX5 141 RX3 yX3_showsConsistency wX3_showsConsistency) := hw_gV mw_328 mw_329 mw_327 mw_40 mw_326
theorem ks_X5_144 : GoodIn hw_all (wsV RX5 144 RX0 yX0_cellAt wX0_cellAt) := hw_gV mw_331 mw_221 mw_219 mw_34 mw_208
theorem ks_X5_147 : GoodIn hw_all (wsV RX5 147 RX0 yX0_writesDone wX0_writesDone) := hw_gV mw_335 mw_336 mw_334 mw_34 mw_333
end
section
def fSl_isAccount (k0 : Int32) : Option (Int32) := if k0 < 0 then (some (0 : Int32)) else (if (8 : Int32) ≤ k0 then (some (0 : Int32)) else (some (1 : Int32)))
def fSl_limit (g0_limits : Nat → Int32) (k1 : Int32) (k2 : Int32) : Option (Int32 × (Nat → Int32)) := (fSl_isAccount k1).bind fun v1 => if v1 = 0 then (some ((0 : Int32), g0_limits)) else (if k2 < 0 then (some ((0 : Int32), g0_limits)) else (if k2 ≤ (99999 : Int32) then ((hw_wr 8 g0_limits k1 k2).bind fun u3 => some ((1 : Int32), u3)) else (some ((0 : Int32), g0_limits))))
def fSl_isAmount (k0 : Int32) : Option (Int32) := if k0 < (-9999 : Int32) then (some (0 : Int32)) else (if (9999 : Int32) < k0 then (some (0 : Int32)) else (some (1 : Int32)))
def fDr_add (x0_count : Int32) (g0_accounts : Nat → Int32) (g0_amounts : Nat → Int32) (k1 : Int32) (k2 : Int32) : Option (Int32 × Int32 × (Nat → Int32) × (Nat → Int32)) := if x0_count < (4 : Int32) then ((hw_wr 4 g0_accounts x0_count k1).bind fun u1 => (hw_wr 4 g0_amounts x0_count k2).bind fun u3 => some ((1 : Int32), x0_count + (1 : Int32), u1, u3)) else (some ((0 : Int32), x0_count, g0_accounts, g0_amounts))
def fSl_leg (x0_running : Int32) (x0_draft_count : Int32) (g0_draft_accounts : Nat → Int32) (g0_draft_amounts : Nat → Int32) (k1 : Int32) (k2 : Int32) : Option (Int32 × Int32 × (Nat → Int32) × (Nat → Int32)) := if x0_running = 0 then (some ((0 : Int32), x0_draft_count, g0_draft_accounts, g0_draft_amounts)) else ((fSl_isAccount k1).bind fun v1 => if v1 = 0 then (some ((0 : Int32), x0_draft_count, g0_draft_accounts, g0_draft_amounts)) else ((fSl_isAmount k2).bind fun v3 => if v3 = 0 then (some ((0 : Int32), x0_draft_count, g0_draft_accounts, g0_draft_amounts)) else ((fDr_add x0_draft_count g0_draft_accounts g0_draft_amounts k1 k2).bind fun x => match x with | (v5, u6, u7, u8) => if v5 = 0 then (some ((0 : Int32), u6, u7, u8)) else (some ((1 : Int32), u6, u7, u8)))))
def fDr_clear (x0_count : Int32) : Option (Int32) := some (0 : Int32)
def fSl_drop (x0_draft_count : Int32) : Option (Int32) := (fDr_clear x0_draft_count).bind fun u1 => some u1
def fDr_isEven_L4 (x0_count : Int32) (g0_amounts : Nat → Int32) : Nat → Int32 → Int32 → Option (Int32)
  | 0, _, _ => none
  | n + 1, k1, k2 => if x0_count ≤ k2 then (if x0_count < (2 : Int32) then (some (0 : Int32)) else (if k1 = 0 then (some (1 : Int32)) else (some (0 : Int32)))) else ((hw_rd 4 g0_amounts k2).bind fun v1 => fDr_isEven_L4 x0_count g0_amounts n (k1 + v1) (k2 + (1 : Int32)))
def fDr_isEven (x0_count : Int32) (g0_amounts : Nat → Int32) : Option (Int32) := fDr_isEven_L4 x0_count g0_amounts 600 (0 : Int32) (0 : Int32)
def fLg_firstWith_L2 (x0_count : Int32) (g0_cells : Nat → Int32) (g0_starts : Nat → Int32) (k1 : Int32) : Nat → Int32 → Option (Int32)
  | 0, _ => none
  | n + 1, k2 => if x0_count ≤ k2 then (some (-1 : Int32)) else ((hw_rd 73 g0_starts k2).bind fun v1 => (hw_rd 512 g0_cells (v1 + (1 : Int32))).bind fun v3 => if v3 = k1 then (some k2) else (fLg_firstWith_L2 x0_count g0_cells g0_starts k1 n (k2 + (1 : Int32))))
def fLg_firstWith (x0_count : Int32) (g0_cells : Nat → Int32) (g0_starts : Nat → Int32) (k1 : Int32) : Option (Int32) := fLg_firstWith_L2 x0_count g0_cells g0_starts k1 600 (0 : Int32)
def fDr_size (x0_count : Int32) : Option (Int32) := some x0_count
def fDr_accountAt (x0_count : Int32) (g0_accounts : Nat → Int32) (k1 : Int32) : Option (Int32) := if k1 < 0 then (some (0 : Int32)) else (if x0_count ≤ k1 then (some (0 : Int32)) else ((hw_rd 4 g0_accounts k1).bind fun v1 => some v1))
def fLg_size (x0_count : Int32) : Option (Int32) := some x0_count
def fLg_accountCell (k0 : Int32) (k1 : Int32) : Option (Int32) := some ((k0 + (2 : Int32)) + ((2 : Int32) * k1))
def fLg_amountCell (k0 : Int32) (k1 : Int32) : Option (Int32) := some ((k0 + (3 : Int32)) + ((2 : Int32) * k1))
def fLg_totalAt_L6 (g0_cells : Nat → Int32) (k1 : Int32) (k2 : Int32) (k3 : Int32) : Nat → Int32 → Int32 → Option (Int32)
  | 0, _, _ => none
  | n + 1, k4, k5 => (hw_rd 512 g0_cells k1).bind fun v1 => if v1 ≤ k5 then (some k4) else ((fLg_accountCell k1 k5).bind fun v3 => (hw_rd 512 g0_cells v3).bind fun v5 => if v5 = k2 then (if k3 = 0 then (fLg_totalAt_L6 g0_cells k1 k2 k3 n (k4 + (1 : Int32)) (k5 + (1 : Int32))) else ((fLg_amountCell k1 k5).bind fun v7 => (hw_rd 512 g0_cells v7).bind fun v9 => fLg_totalAt_L6 g0_cells k1 k2 k3 n (k4 + v9) (k5 + (1 : Int32)))) else (fLg_totalAt_L6 g0_cells k1 k2 k3 n k4 (k5 + (1 : Int32))))
def fLg_totalAt (g0_cells : Nat → Int32) (k1 : Int32) (k2 : Int32) (k3 : Int32) : Option (Int32) := fLg_totalAt_L6 g0_cells k1 k2 k3 600 (0 : Int32) (0 : Int32)
def fLg_total_L20 (x0_count : Int32) (g0_cells : Nat → Int32) (g0_starts : Nat → Int32) (k1 : Int32) (k4 : Int32) (k6 : Int32) : Nat → Int32 → Int32 → Option (Int32)
  | 0, _, _ => none
  | n + 1, k5, k7 => if k6 ≤ k7 then (some k5) else ((hw_rd 73 g0_starts k7).bind fun v1 => (fLg_totalAt g0_cells v1 k1 k4).bind fun v3 => fLg_total_L20 x0_count g0_cells g0_starts k1 k4 k6 n (k5 + v3) (k7 + (1 : Int32)))
def fLg_total (x0_count : Int32) (g0_cells : Nat → Int32) (g0_starts : Nat → Int32) (k1 : Int32) (k2 : Int32) (k3 : Int32) (k4 : Int32) : Option (Int32) := fLg_total_L20 x0_count g0_cells g0_starts k1 k4 (hw_min k3 x0_count) 600 (0 : Int32) (hw_max k2 (0 : Int32))
def fDr_change_L4 (x0_count : Int32) (g0_accounts : Nat → Int32) (g0_amounts : Nat → Int32) (k1 : Int32) : Nat → Int32 → Int32 → Option (Int32)
  | 0, _, _ => none
  | n + 1, k2, k3 => if x0_count ≤ k3 then (some k2) else ((hw_rd 4 g0_accounts k3).bind fun v1 => if v1 = k1 then ((hw_rd 4 g0_amounts k3).bind fun v3 => fDr_change_L4 x0_count g0_accounts g0_amounts k1 n (k2 + v3) (k3 + (1 : Int32))) else (fDr_change_L4 x0_count g0_accounts g0_amounts k1 n k2 (k3 + (1 : Int32))))
def fDr_change (x0_count : Int32) (g0_accounts : Nat → Int32) (g0_amounts : Nat → Int32) (k1 : Int32) : Option (Int32) := fDr_change_L4 x0_count g0_accounts g0_amounts k1 600 (0 : Int32) (0 : Int32)
def fSl_isPoor_L2 (g0_limits : Nat → Int32) (x0_draft_count : Int32) (g0_draft_accounts : Nat → Int32) (g0_draft_amounts : Nat → Int32) (x0_log_count : Int32) (g0_log_cells : Nat → Int32) (g0_log_starts : Nat → Int32) : Nat → Int32 → Option (Int32)
  | 0, _ => none
  | n + 1, k1 => (fDr_size x0_draft_count).bind fun v1 => if v1 ≤ k1 then (some (0 : Int32)) else ((fDr_accountAt x0_draft_count g0_draft_accounts k1).bind fun v3 => (fLg_size x0_log_count).bind fun v5 => (fLg_total x0_log_count g0_log_cells g0_log_starts v3 (0 : Int32) v5 (1 : Int32)).bind fun v7 => (fDr_change x0_draft_count g0_draft_accounts g0_draft_amounts v3).bind fun v9 => (hw_rd 8 g0_limits v3).bind fun v11 => if (-v11) ≤ (v7 + v9) then (fSl_isPoor_L2 g0_limits x0_draft_count g0_draft_accounts g0_draft_amounts x0_log_count g0_log_cells g0_log_starts n (k1 + (1 : Int32))) else (some (1 : Int32)))
def fSl_isPoor (g0_limits : Nat → Int32) (x0_draft_count : Int32) (g0_draft_accounts : Nat → Int32) (g0_draft_amounts : Nat → Int32) (x0_log_count : Int32) (g0_log_cells : Nat → Int32) (g0_log_starts : Nat → Int32) : Option (Int32) := fSl_isPoor_L2 g0_limits x0_draft_count g0_draft_accounts g0_draft_amounts x0_log_count g0_log_cells g0_log_starts 600 (0 : Int32)
def fSl_entryCells (k0 : Int32) : Option (Int32) := some ((3 : Int32) + ((2 : Int32) * k0))
def fDr_amountAt (x0_count : Int32) (g0_amounts : Nat → Int32) (k1 : Int32) : Option (Int32) := if k1 < 0 then (some (0 : Int32)) else (if x0_count ≤ k1 then (some (0 : Int32)) else ((hw_rd 4 g0_amounts k1).bind fun v1 => some v1))
def fLg_sealCell (g0_cells : Nat → Int32) (k1 : Int32) : Option (Int32) := (hw_rd 512 g0_cells k1).bind fun v1 => (fSl_entryCells v1).bind fun v3 => some ((k1 + v3) - (1 : Int32))
def fLg_lastSeal (x0_end : Int32) (g0_cells : Nat → Int32) : Option (Int32) := if x0_end ≤ 0 then (some (0 : Int32)) else ((hw_rd 512 g0_cells (x0_end - (1 : Int32))).bind fun v1 => some v1)
def fSl_mix (k0 : Int32) (k1 : Int32) : Option (Int32) := some (((((k0 * (16777619 : Int32)) + k1) ^^^ (hw_ushr ((k0 * (16777619 : Int32)) + k1) (15 : Int32))) * (739982445 : Int32)) ^^^ (hw_ushr ((((k0 * (16777619 : Int32)) + k1) ^^^ (hw_ushr ((k0 * (16777619 : Int32)) + k1) (15 : Int32))) * (739982445 : Int32)) (12 : Int32)))
def fLg_leafFrom_L15 (g0_cells : Nat → Int32) (k1 : Int32) : Nat → Int32 → Int32 → Option (Int32)
  | 0, _, _ => none
  | n + 1, k2, k3 => (hw_rd 512 g0_cells k1).bind fun v5 => if v5 ≤ k3 then (some k2) else ((fLg_amountCell k1 k3).bind fun v7 => (hw_rd 512 g0_cells v7).bind fun v9 => (fLg_accountCell k1 k3).bind fun v11 => (hw_rd 512 g0_cells v11).bind fun v13 => (fSl_mix k2 (((16 : Int32) * v9) + v13)).bind fun v15 => fLg_leafFrom_L15 g0_cells k1 n v15 (k3 + (1 : Int32)))
def fLg_leafFrom (g0_cells : Nat → Int32) (k1 : Int32) : Option (Int32) := (hw_rd 512 g0_cells (k1 + (1 : Int32))).bind fun v1 => (fSl_mix (0 : Int32) v1).bind fun v3 => fLg_leafFrom_L15 g0_cells k1 600 v3 (0 : Int32)
def fLg_acceptNext (x0_count : Int32) (x0_end : Int32) (g0_cells : Nat → Int32) (g0_starts : Nat → Int32) (g0_leaves : Nat → Int32) : Option (Int32 × Int32 × (Nat → Int32) × (Nat → Int32)) := (hw_wr 73 g0_starts x0_count x0_end).bind fun u1 => (fLg_leafFrom g0_cells x0_end).bind fun v3 => (hw_wr 73 g0_leaves x0_count v3).bind fun u5 => (hw_rd 512 g0_cells x0_end).bind fun v7 => (fSl_entryCells v7).bind fun v9 => some (x0_count + (1 : Int32), x0_end + v9, u1, u5)
def fLg_append_L56 (x2_count : Int32) (g2_accounts : Nat → Int32) (g2_amounts : Nat → Int32) (k3 : Int32) : Nat → Int32 → Int32 → Int32 → (Nat → Int32) → (Nat → Int32) → (Nat → Int32) → Option (Int32 × Int32 × Int32 × (Nat → Int32) × (Nat → Int32) × (Nat → Int32))
  | 0, _, _, _, _, _, _ => none
  | n + 1, k4, x0_count, x0_end, g0_cells, g0_starts, g0_leaves => if k3 ≤ k4 then ((fLg_sealCell g0_cells x0_end).bind fun v9 => (fLg_lastSeal x0_end g0_cells).bind fun v11 => (fLg_leafFrom g0_cells x0_end).bind fun v13 => (fSl_mix v11 v13).bind fun v15 => (hw_wr 512 g0_cells v9 v15).bind fun u17 => (fLg_acceptNext x0_count x0_end u17 g0_starts g0_leaves).bind fun x => match x with | (u19, u20, u21, u22) => some ((1 : Int32), u19, u20, u17, u21, u22)) else ((fLg_accountCell x0_end k4).bind fun v24 => (fDr_accountAt x2_count g2_accounts k4).bind fun v26 => (hw_wr 512 g0_cells v24 v26).bind fun u28 => (fLg_amountCell x0_end k4).bind fun v30 => (fDr_amountAt x2_count g2_amounts k4).bind fun v32 => (hw_wr 512 u28 v30 v32).bind fun u34 => fLg_append_L56 x2_count g2_accounts g2_amounts k3 n (k4 + (1 : Int32)) x0_count x0_end u34 g0_starts g0_leaves)
def fLg_append (x0_count : Int32) (x0_end : Int32) (g0_cells : Nat → Int32) (g0_starts : Nat → Int32) (g0_leaves : Nat → Int32) (x2_count : Int32) (g2_accounts : Nat → Int32) (g2_amounts : Nat → Int32) (k1 : Int32) : Option (Int32 × Int32 × Int32 × (Nat → Int32) × (Nat → Int32) × (Nat → Int32)) := (fDr_size x2_count).bind fun v1 => if (73 : Int32) ≤ x0_count then (some ((0 : Int32), x0_count, x0_end, g0_cells, g0_starts, g0_leaves)) else ((fSl_entryCells v1).bind fun v3 => if (x0_end + v3) ≤ (512 : Int32) then ((hw_wr 512 g0_cells x0_end v1).bind fun u5 => (hw_wr 512 u5 (x0_end + (1 : Int32)) k1).bind fun u7 => fLg_append_L56 x2_count g2_accounts g2_amounts v1 600 (0 : Int32) x0_count x0_end u7 g0_starts g0_leaves) else (some ((0 : Int32), x0_count, x0_end, g0_cells, g0_starts, g0_leaves)))
def fSl_commitNew (g0_limits : Nat → Int32) (x0_draft_count : Int32) (g0_draft_accounts : Nat → Int32) (g0_draft_amounts : Nat → Int32) (x0_log_count : Int32) (x0_log_end : Int32) (g0_log_cells : Nat → Int32) (g0_log_starts : Nat → Int32) (g0_log_leaves : Nat → Int32) (k1 : Int32) : Option (Int32 × Int32 × Int32 × Int32 × (Nat → Int32) × (Nat → Int32) × (Nat → Int32)) := (fSl_isPoor g0_limits x0_draft_count g0_draft_accounts g0_draft_amounts x0_log_count g0_log_cells g0_log_starts).bind fun v1 => if v1 = 0 then ((fLg_append x0_log_count x0_log_end g0_log_cells g0_log_starts g0_log_leaves x0_draft_count g0_draft_accounts g0_draft_amounts k1).bind fun x => match x with | (v3, u4, u5, u6, u7, u8) => if v3 = 0 then (some ((-6 : Int32), x0_draft_count, u4, u5, u6, u7, u8)) else ((fDr_clear x0_draft_count).bind fun u10 => (fLg_size u4).bind fun v12 => some (v12 - (1 : Int32), u10, u4, u5, u6, u7, u8))) else (some ((-5 : Int32), x0_draft_count, x0_log_count, x0_log_end, g0_log_cells, g0_log_starts, g0_log_leaves))
def fLg_hasLegsOf_L42 (x0_count : Int32) (g0_cells : Nat → Int32) (g0_starts : Nat → Int32) (x1_count : Int32) (g1_accounts : Nat → Int32) (g1_amounts : Nat → Int32) (k3 : Int32) : Nat → Int32 → Option (Int32)
  | 0, _ => none
  | n + 1, k4 => (fDr_size x1_count).bind fun v9 => if v9 ≤ k4 then (some (1 : Int32)) else ((fLg_accountCell k3 k4).bind fun v11 => (hw_rd 512 g0_cells v11).bind fun v13 => (fDr_accountAt x1_count g1_accounts k4).bind fun v15 => if v13 = v15 then ((fLg_amountCell k3 k4).bind fun v17 => (hw_rd 512 g0_cells v17).bind fun v19 => (fDr_amountAt x1_count g1_amounts k4).bind fun v21 => if v19 = v21 then (fLg_hasLegsOf_L42 x0_count g0_cells g0_starts x1_count g1_accounts g1_amounts k3 n (k4 + (1 : Int32))) else (some (0 : Int32))) else (some (0 : Int32)))
def fLg_hasLegsOf (x0_count : Int32) (g0_cells : Nat → Int32) (g0_starts : Nat → Int32) (x1_count : Int32) (g1_accounts : Nat → Int32) (g1_amounts : Nat → Int32) (k2 : Int32) : Option (Int32) := if k2 < 0 then (some (0 : Int32)) else (if x0_count ≤ k2 then (some (0 : Int32)) else ((hw_rd 73 g0_starts k2).bind fun v1 => (hw_rd 512 g0_cells v1).bind fun v3 => (fDr_size x1_count).bind fun v5 => if v3 = v5 then ((hw_rd 73 g0_starts k2).bind fun v7 => fLg_hasLegsOf_L42 x0_count g0_cells g0_starts x1_count g1_accounts g1_amounts v7 600 (0 : Int32)) else (some (0 : Int32))))
def fSl_commit (x0_running : Int32) (g0_limits : Nat → Int32) (x0_draft_count : Int32) (g0_draft_accounts : Nat → Int32) (g0_draft_amounts : Nat → Int32) (x0_log_count : Int32) (x0_log_end : Int32) (g0_log_cells : Nat → Int32) (g0_log_starts : Nat → Int32) (g0_log_leaves : Nat → Int32) (k1 : Int32) : Option (Int32 × Int32 × Int32 × Int32 × (Nat → Int32) × (Nat → Int32) × (Nat → Int32)) := if x0_running = 0 then (some ((-2 : Int32), x0_draft_count, x0_log_count, x0_log_end, g0_log_cells, g0_log_starts, g0_log_leaves)) else ((fDr_isEven x0_draft_count g0_draft_amounts).bind fun v1 => if v1 = 0 then (some ((-3 : Int32), x0_draft_count, x0_log_count, x0_log_end, g0_log_cells, g0_log_starts, g0_log_leaves)) else ((fLg_firstWith x0_log_count g0_log_cells g0_log_starts k1).bind fun v3 => if v3 = (-1 : Int32) then ((fSl_commitNew g0_limits x0_draft_count g0_draft_accounts g0_draft_amounts x0_log_count x0_log_end g0_log_cells g0_log_starts g0_log_leaves k1).bind fun x => match x with | (v9, u10, u11, u12, u13, u14, u15) => some (v9, u10, u11, u12, u13, u14, u15)) else ((fLg_hasLegsOf x0_log_count g0_log_cells g0_log_starts x0_draft_count g0_draft_accounts g0_draft_amounts v3).bind fun v5 => if v5 = 0 then (some ((-4 : Int32), x0_draft_count, x0_log_count, x0_log_end, g0_log_cells, g0_log_starts, g0_log_leaves)) else ((fDr_clear x0_draft_count).bind fun u7 => some (v3, u7, x0_log_count, x0_log_end, g0_log_cells, g0_log_starts, g0_log_leaves)))))
def fLg_blockOf (k0 : Int32) : Option (Int32) := some (hw_min (k0 / (8 : Int32)) (63 : Int32))
def fLg_syncedBlock (x0_syncedEnd : Int32) : Option (Int32) := (fLg_blockOf x0_syncedEnd).bind fun v1 => some v1
def fLg_endBlock (x0_end : Int32) : Option (Int32) := (fLg_blockOf x0_end).bind fun v1 => some v1
def fLg_cellAt (g0_cells : Nat → Int32) (k1 : Int32) : Option (Int32) := if k1 < 0 then (some (0 : Int32)) else (if (512 : Int32) ≤ k1 then (some (0 : Int32)) else ((hw_rd 512 g0_cells k1).bind fun v1 => some v1))
def fDk_write_L34 (g1_cells : Nat → Int32) (k3 : Int32) : Nat → Int32 → Int32 → Int32 → (Nat → Int32) → Option (Int32 × Int32 × Int32 × (Nat → Int32))
  | 0, _, _, _, _ => none
  | n + 1, k4, x0_done, x0_failing, g0_cells => if (k3 + (8 : Int32)) ≤ k4 then (some ((1 : Int32), x0_done + (1 : Int32), x0_failing, g0_cells)) else ((fLg_cellAt g1_cells k4).bind fun v1 => (hw_wr 512 g0_cells k4 v1).bind fun u3 => fDk_write_L34 g1_cells k3 n (k4 + (1 : Int32)) x0_done x0_failing u3)
def fDk_write (x0_done : Int32) (x0_failing : Int32) (g0_cells : Nat → Int32) (g1_cells : Nat → Int32) (k2 : Int32) : Option (Int32 × Int32 × Int32 × (Nat → Int32)) := if x0_failing ≤ 0 then (fDk_write_L34 g1_cells (k2 * (8 : Int32)) 600 (k2 * (8 : Int32)) x0_done x0_failing g0_cells) else (if (x0_failing - (1 : Int32)) = 0 then (some ((0 : Int32), x0_done, x0_failing - (1 : Int32), g0_cells)) else (fDk_write_L34 g1_cells (k2 * (8 : Int32)) 600 (k2 * (8 : Int32)) x0_done (x0_failing - (1 : Int32)) g0_cells))
def fLg_markSynced (x0_count : Int32) (x0_end : Int32) (x0_syncedCount : Int32) (x0_syncedEnd : Int32) : Option (Int32 × Int32) := some (x0_count, x0_end)
def fLg_clearBehindEnd_L5 (x0_end : Int32) : Nat → Int32 → (Nat → Int32) → Option ((Nat → Int32))
  | 0, _, _ => none
  | n + 1, k1, g0_cells => if (512 : Int32) ≤ k1 then (some g0_cells) else ((hw_wr 512 g0_cells k1 (0 : Int32)).bind fun u1 => fLg_clearBehindEnd_L5 x0_end n (k1 + (1 : Int32)) u1)
def fLg_clearBehindEnd (x0_end : Int32) (g0_cells : Nat → Int32) : Option ((Nat → Int32)) := fLg_clearBehindEnd_L5 x0_end 600 x0_end g0_cells
def fLg_clear (x0_count : Int32) (x0_end : Int32) (x0_syncedCount : Int32) (x0_syncedEnd : Int32) (g0_cells : Nat → Int32) : Option (Int32 × Int32 × Int32 × Int32 × (Nat → Int32)) := (fLg_markSynced (0 : Int32) (0 : Int32) x0_syncedCount x0_syncedEnd).bind fun x => match x with | (u1, u2) => (fLg_clearBehindEnd (0 : Int32) g0_cells).bind fun u4 => some ((0 : Int32), (0 : Int32), u1, u2, u4)
def fSl_losePower (x0_running : Int32) (x0_draft_count : Int32) (x0_log_count : Int32) (x0_log_end : Int32) (x0_log_syncedCount : Int32) (x0_log_syncedEnd : Int32) (g0_log_cells : Nat → Int32) : Option (Int32 × Int32 × Int32 × Int32 × Int32 × Int32 × (Nat → Int32)) := (fLg_clear x0_log_count x0_log_end x0_log_syncedCount x0_log_syncedEnd g0_log_cells).bind fun x => match x with | (u1, u2, u3, u4, u5) => (fDr_clear x0_draft_count).bind fun u7 => some ((0 : Int32), u7, u1, u2, u3, u4, u5)
def fSl_writeBlock (x0_running : Int32) (x0_draft_count : Int32) (x0_log_count : Int32) (x0_log_end : Int32) (x0_log_syncedCount : Int32) (x0_log_syncedEnd : Int32) (g0_log_cells : Nat → Int32) (x0_disk_done : Int32) (x0_disk_failing : Int32) (g0_disk_cells : Nat → Int32) (k1 : Int32) : Option (Int32 × Int32 × Int32 × Int32 × Int32 × Int32 × Int32 × (Nat → Int32) × Int32 × Int32 × (Nat → Int32)) := (fDk_write x0_disk_done x0_disk_failing g0_disk_cells g0_log_cells k1).bind fun x => match x with | (v1, u2, u3, u4) => if v1 = 0 then ((fSl_losePower x0_running x0_draft_count x0_log_count x0_log_end x0_log_syncedCount x0_log_syncedEnd g0_log_cells).bind fun x => match x with | (u6, u7, u8, u9, u10, u11, u12) => some ((0 : Int32), u6, u7, u8, u9, u10, u11, u12, u2, u3, u4)) else (some ((1 : Int32), x0_running, x0_draft_count, x0_log_count, x0_log_end, x0_log_syncedCount, x0_log_syncedEnd, g0_log_cells, u2, u3, u4))
def fSl_sync_L28 (k1 : Int32) (k2 : Int32) : Nat → Int32 → Int32 → Int32 → Int32 → Int32 → Int32 → Int32 → (Nat → Int32) → Int32 → Int32 → (Nat → Int32) → Option (Int32 × Int32 × Int32 × Int32 × Int32 × Int32 × Int32 × (Nat → Int32) × Int32 × Int32 × (Nat → Int32))
  | 0, _, _, _, _, _, _, _, _, _, _, _ => none
  | n + 1, k3, x0_running, x0_draft_count, x0_log_count, x0_log_end, x0_log_syncedCount, x0_log_syncedEnd, g0_log_cells, x0_disk_done, x0_disk_failing, g0_disk_cells => if k2 < k3 then ((fLg_markSynced x0_log_count x0_log_end x0_log_syncedCount x0_log_syncedEnd).bind fun x => match x with | (u5, u6) => some ((k2 - k1) + (1 : Int32), x0_running, x0_draft_count, x0_log_count, x0_log_end, u5, u6, g0_log_cells, x0_disk_done, x0_disk_failing, g0_disk_cells)) else ((fSl_writeBlock x0_running x0_draft_count x0_log_count x0_log_end x0_log_syncedCount x0_log_syncedEnd g0_log_cells x0_disk_done x0_disk_failing g0_disk_cells k3).bind fun x => match x with | (v8, u9, u10, u11, u12, u13, u14, u15, u16, u17, u18) => if v8 = 0 then (some ((-2 : Int32), u9, u10, u11, u12, u13, u14, u15, u16, u17, u18)) else (fSl_sync_L28 k1 k2 n (k3 + (1 : Int32)) u9 u10 u11 u12 u13 u14 u15 u16 u17 u18))
def fSl_sync (x0_running : Int32) (x0_draft_count : Int32) (x0_log_count : Int32) (x0_log_end : Int32) (x0_log_syncedCount : Int32) (x0_log_syncedEnd : Int32) (g0_log_cells : Nat → Int32) (x0_disk_done : Int32) (x0_disk_failing : Int32) (g0_disk_cells : Nat → Int32) : Option (Int32 × Int32 × Int32 × Int32 × Int32 × Int32 × Int32 × (Nat → Int32) × Int32 × Int32 × (Nat → Int32)) := if x0_running = 0 then (some ((-2 : Int32), x0_running, x0_draft_count, x0_log_count, x0_log_end, x0_log_syncedCount, x0_log_syncedEnd, g0_log_cells, x0_disk_done, x0_disk_failing, g0_disk_cells)) else ((fLg_syncedBlock x0_log_syncedEnd).bind fun v1 => (fLg_endBlock x0_log_end).bind fun v3 => fSl_sync_L28 v1 v3 600 v1 x0_running x0_draft_count x0_log_count x0_log_end x0_log_syncedCount x0_log_syncedEnd g0_log_cells x0_disk_done x0_disk_failing g0_disk_cells)
def fDk_failAt (x0_failing : Int32) (k1 : Int32) : Option (Int32) := some k1
def fSl_fail (x0_disk_failing : Int32) (k1 : Int32) : Option (Int32 × Int32) := if k1 < 0 then (some ((0 : Int32), x0_disk_failing)) else (if k1 ≤ (40 : Int32) then ((fDk_failAt x0_disk_failing k1).bind fun u1 => some ((1 : Int32), u1)) else (some ((0 : Int32), x0_disk_failing)))
def fDk_cellAt (g0_cells : Nat → Int32) (k1 : Int32) : Option (Int32) := if k1 < 0 then (some (0 : Int32)) else (if (512 : Int32) ≤ k1 then (some (0 : Int32)) else ((hw_rd 512 g0_cells k1).bind fun v1 => some v1))
def fLg_nextFits (x0_end : Int32) (g0_cells : Nat → Int32) : Option (Int32) := if (512 : Int32) ≤ x0_end then (some (0 : Int32)) else ((hw_rd 512 g0_cells x0_end).bind fun v1 => if v1 < (2 : Int32) then (some (0 : Int32)) else ((hw_rd 512 g0_cells x0_end).bind fun v3 => if (4 : Int32) < v3 then (some (0 : Int32)) else ((hw_rd 512 g0_cells x0_end).bind fun v5 => (fSl_entryCells v5).bind fun v7 => if (512 : Int32) < (x0_end + v7) then (some (0 : Int32)) else (some (1 : Int32)))))
def fLg_nextLegsAreSound_L4 (x0_end : Int32) (g0_cells : Nat → Int32) : Nat → Int32 → Int32 → Option (Int32)
  | 0, _, _ => none
  | n + 1, k1, k2 => (hw_rd 512 g0_cells x0_end).bind fun v1 => if v1 ≤ k2 then (if k1 = 0 then (some (1 : Int32)) else (some (0 : Int32))) else ((fLg_amountCell x0_end k2).bind fun v3 => (hw_rd 512 g0_cells v3).bind fun v5 => (fLg_accountCell x0_end k2).bind fun v7 => (hw_rd 512 g0_cells v7).bind fun v9 => (fSl_isAccount v9).bind fun v11 => if v11 = 0 then (some (0 : Int32)) else ((fSl_isAmount v5).bind fun v13 => if v13 = 0 then (some (0 : Int32)) else (fLg_nextLegsAreSound_L4 x0_end g0_cells n (k1 + v5) (k2 + (1 : Int32)))))
def fLg_nextLegsAreSound (x0_end : Int32) (g0_cells : Nat → Int32) : Option (Int32) := fLg_nextLegsAreSound_L4 x0_end g0_cells 600 (0 : Int32) (0 : Int32)
def fLg_nextIsSound (x0_end : Int32) (g0_cells : Nat → Int32) : Option (Int32) := (fLg_nextFits x0_end g0_cells).bind fun v1 => if v1 = 0 then (some (0 : Int32)) else ((fLg_nextLegsAreSound x0_end g0_cells).bind fun v3 => if v3 = 0 then (some (0 : Int32)) else ((fLg_sealCell g0_cells x0_end).bind fun v5 => (hw_rd 512 g0_cells v5).bind fun v7 => (fLg_lastSeal x0_end g0_cells).bind fun v9 => (fLg_leafFrom g0_cells x0_end).bind fun v11 => (fSl_mix v9 v11).bind fun v13 => if v7 = v13 then (some (1 : Int32)) else (some (0 : Int32))))
def fLg_load_L32 (g1_cells : Nat → Int32) : Nat → Int32 → Int32 → Int32 → Int32 → Int32 → (Nat → Int32) → (Nat → Int32) → (Nat → Int32) → Option (Int32 × Int32 × Int32 × Int32 × (Nat → Int32) × (Nat → Int32) × (Nat → Int32))
  | 0, _, _, _, _, _, _, _, _ => none
  | n + 1, k2, x0_count, x0_end, x0_syncedCount, x0_syncedEnd, g0_cells, g0_starts, g0_leaves => if (73 : Int32) ≤ k2 then ((fLg_markSynced x0_count x0_end x0_syncedCount x0_syncedEnd).bind fun x => match x with | (u11, u12) => (fLg_clearBehindEnd x0_end g0_cells).bind fun u14 => some (x0_count, x0_end, u11, u12, u14, g0_starts, g0_leaves)) else ((fLg_nextIsSound x0_end g0_cells).bind fun v16 => if v16 = 0 then ((fLg_markSynced x0_count x0_end x0_syncedCount x0_syncedEnd).bind fun x => match x with | (u18, u19) => (fLg_clearBehindEnd x0_end g0_cells).bind fun u21 => some (x0_count, x0_end, u18, u19, u21, g0_starts, g0_leaves)) else ((fLg_acceptNext x0_count x0_end g0_cells g0_starts g0_leaves).bind fun x => match x with | (u23, u24, u25, u26) => fLg_load_L32 g1_cells n (k2 + (1 : Int32)) u23 u24 x0_syncedCount x0_syncedEnd g0_cells u25 u26))
def fLg_load_L6 (g1_cells : Nat → Int32) : Nat → Int32 → Int32 → Int32 → Int32 → Int32 → (Nat → Int32) → (Nat → Int32) → (Nat → Int32) → Option (Int32 × Int32 × Int32 × Int32 × (Nat → Int32) × (Nat → Int32) × (Nat → Int32))
  | 0, _, _, _, _, _, _, _, _ => none
  | n + 1, k2, x0_count, x0_end, x0_syncedCount, x0_syncedEnd, g0_cells, g0_starts, g0_leaves => if (512 : Int32) ≤ k2 then (fLg_load_L32 g1_cells 600 (0 : Int32) x0_count x0_end x0_syncedCount x0_syncedEnd g0_cells g0_starts g0_leaves) else ((fDk_cellAt g1_cells k2).bind fun v7 => (hw_wr 512 g0_cells k2 v7).bind fun u9 => fLg_load_L6 g1_cells n (k2 + (1 : Int32)) x0_count x0_end x0_syncedCount x0_syncedEnd u9 g0_starts g0_leaves)
def fLg_load (x0_count : Int32) (x0_end : Int32) (x0_syncedCount : Int32) (x0_syncedEnd : Int32) (g0_cells : Nat → Int32) (g0_starts : Nat → Int32) (g0_leaves : Nat → Int32) (g1_cells : Nat → Int32) : Option (Int32 × Int32 × Int32 × Int32 × (Nat → Int32) × (Nat → Int32) × (Nat → Int32)) := (fLg_clear x0_count x0_end x0_syncedCount x0_syncedEnd g0_cells).bind fun x => match x with | (u1, u2, u3, u4, u5) => fLg_load_L6 g1_cells 600 (0 : Int32) u1 u2 u3 u4 u5 g0_starts g0_leaves
def fLg_endsInBlock (x0_end : Int32) : Option (Int32) := if (512 : Int32) ≤ x0_end then (some (0 : Int32)) else (some (1 : Int32))
def fSl_recover (x0_running : Int32) (x0_draft_count : Int32) (x0_log_count : Int32) (x0_log_end : Int32) (x0_log_syncedCount : Int32) (x0_log_syncedEnd : Int32) (g0_log_cells : Nat → Int32) (g0_log_starts : Nat → Int32) (g0_log_leaves : Nat → Int32) (x0_disk_done : Int32) (x0_disk_failing : Int32) (g0_disk_cells : Nat → Int32) : Option (Int32 × Int32 × Int32 × Int32 × Int32 × Int32 × Int32 × (Nat → Int32) × (Nat → Int32) × (Nat → Int32) × Int32 × Int32 × (Nat → Int32)) := if x0_running = 0 then ((fLg_load x0_log_count x0_log_end x0_log_syncedCount x0_log_syncedEnd g0_log_cells g0_log_starts g0_log_leaves g0_disk_cells).bind fun x => match x with | (u1, u2, u3, u4, u5, u6, u7) => (fLg_endsInBlock u2).bind fun v9 => if v9 = 0 then ((fLg_size u1).bind fun v11 => some (v11, (1 : Int32), x0_draft_count, u1, u2, u3, u4, u5, u6, u7, x0_disk_done, x0_disk_failing, g0_disk_cells)) else ((fLg_endBlock u2).bind fun v13 => (fSl_writeBlock (1 : Int32) x0_draft_count u1 u2 u3 u4 u5 x0_disk_done x0_disk_failing g0_disk_cells v13).bind fun x => match x with | (v15, u16, u17, u18, u19, u20, u21, u22, u23, u24, u25) => if v15 = 0 then (some ((-2 : Int32), u16, u17, u18, u19, u20, u21, u22, u6, u7, u23, u24, u25)) else ((fLg_size u18).bind fun v27 => some (v27, u16, u17, u18, u19, u20, u21, u22, u6, u7, u23, u24, u25)))) else (some ((-1 : Int32), x0_running, x0_draft_count, x0_log_count, x0_log_end, x0_log_syncedCount, x0_log_syncedEnd, g0_log_cells, g0_log_starts, g0_log_leaves, x0_disk_done, x0_disk_failing, g0_disk_cells))
def fSl_on (x0_running : Int32) : Option (Int32) := (hw_z x0_running).bind fun v2 => some x0_running
def fSl_entries (x0_log_count : Int32) : Option (Int32) := (fLg_size x0_log_count).bind fun v1 => some v1
def fLg_syncedSize (x0_syncedCount : Int32) : Option (Int32) := some x0_syncedCount
def fSl_synced (x0_log_syncedCount : Int32) : Option (Int32) := (fLg_syncedSize x0_log_syncedCount).bind fun v1 => some v1
def fSl_balance (x0_log_count : Int32) (g0_log_cells : Nat → Int32) (g0_log_starts : Nat → Int32) (k1 : Int32) (k2 : Int32) : Option (Int32) := (fSl_isAccount k1).bind fun v1 => if v1 = 0 then (some (0 : Int32)) else (if k2 < 0 then (some (0 : Int32)) else ((fLg_size x0_log_count).bind fun v3 => if k2 ≤ v3 then ((fLg_total x0_log_count g0_log_cells g0_log_starts k1 (0 : Int32) k2 (1 : Int32)).bind fun v5 => some v5) else (some (0 : Int32))))
def fSl_statement (x0_log_count : Int32) (g0_log_cells : Nat → Int32) (g0_log_starts : Nat → Int32) (k1 : Int32) (k2 : Int32) (k3 : Int32) (k4 : Int32) : Option (Int32) := (fSl_isAccount k1).bind fun v1 => if v1 = 0 then (some (0 : Int32)) else ((fLg_total x0_log_count g0_log_cells g0_log_starts k1 k2 k3 k4).bind fun v3 => some v3)
def fSl_find (x0_log_count : Int32) (g0_log_cells : Nat → Int32) (g0_log_starts : Nat → Int32) (k1 : Int32) : Option (Int32) := (fLg_firstWith x0_log_count g0_log_cells g0_log_starts k1).bind fun v1 => some v1
def fLg_leafOf (x0_count : Int32) (g0_leaves : Nat → Int32) (k1 : Int32) : Option (Int32) := if k1 < 0 then (some (0 : Int32)) else (if x0_count ≤ k1 then (some (0 : Int32)) else ((hw_rd 73 g0_leaves k1).bind fun v1 => some v1))
def fSl_leaf (x0_log_count : Int32) (g0_log_leaves : Nat → Int32) (k1 : Int32) : Option (Int32) := (fLg_leafOf x0_log_count g0_log_leaves k1).bind fun v1 => some v1
def fSl_split_L4 (k0 : Int32) : Nat → Int32 → Int32 → Option (Int32)
  | 0, _, _ => none
  | n + 1, k1, k2 => if (10 : Int32) ≤ k2 then (some k1) else (if k0 ≤ ((2 : Int32) * k1) then (some k1) else (fSl_split_L4 k0 n ((2 : Int32) * k1) (k2 + (1 : Int32))))
def fSl_split (k0 : Int32) : Option (Int32) := fSl_split_L4 k0 600 (1 : Int32) (0 : Int32)
def fSl_node (k0 : Int32) (k1 : Int32) : Option (Int32) := (fSl_mix (1 : Int32) k0).bind fun v1 => (fSl_mix v1 k1).bind fun v3 => some v3
def fTr_hash (x0_count : Int32) (g0_leaves : Nat → Int32) : Nat → Int32 → Int32 → Int32 → Option (Int32)
  | 0, _, _, _ => none
  | d + 1, k1, k2, k3 => if k2 ≤ (1 : Int32) then ((fLg_leafOf x0_count g0_leaves k1).bind fun v1 => some v1) else (if 0 < k3 then ((fSl_split k2).bind fun v3 => (fTr_hash x0_count g0_leaves d k1 v3 (k3 - (1 : Int32))).bind fun v5 => (fTr_hash x0_count g0_leaves d (k1 + v3) (k2 - v3) (k3 - (1 : Int32))).bind fun v7 => (fSl_node v5 v7).bind fun v9 => some v9) else ((fLg_leafOf x0_count g0_leaves k1).bind fun v11 => some v11))
def fTr_headOf (x0_count : Int32) (g0_leaves : Nat → Int32) (k1 : Int32) : Option (Int32) := if k1 = 0 then ((fSl_mix (2 : Int32) (0 : Int32)).bind fun v3 => some v3) else ((fTr_hash x0_count g0_leaves 12 (0 : Int32) k1 (10 : Int32)).bind fun v1 => some v1)
def fSl_head (x0_log_count : Int32) (x0_log_syncedCount : Int32) (g0_log_leaves : Nat → Int32) (k1 : Int32) : Option (Int32) := if k1 < 0 then (some (0 : Int32)) else ((fLg_syncedSize x0_log_syncedCount).bind fun v1 => if k1 ≤ v1 then ((fTr_headOf x0_log_count g0_log_leaves k1).bind fun v3 => some v3) else (some (0 : Int32)))
def fPd_clear (x0_count : Int32) : Option (Int32) := some (0 : Int32)
def fPd_add (x0_count : Int32) (g0_ints : Nat → Int32) (k1 : Int32) : Option (Int32 × Int32 × (Nat → Int32)) := if x0_count < (16 : Int32) then ((hw_wr 16 g0_ints x0_count k1).bind fun u1 => some ((1 : Int32), x0_count + (1 : Int32), u1)) else (some ((0 : Int32), x0_count, g0_ints))
def fTr_inclusion (x0_count : Int32) (g0_leaves : Nat → Int32) : Nat → Int32 → Int32 → Int32 → Int32 → Int32 → (Nat → Int32) → Option (Int32 × (Nat → Int32))
  | 0, _, _, _, _, _, _ => none
  | d + 1, k2, k3, k4, k5, x1_count, g1_ints => if k4 ≤ (1 : Int32) then (some (x1_count, g1_ints)) else (if 0 < k5 then ((fSl_split k4).bind fun v1 => if v1 ≤ k2 then ((fTr_inclusion x0_count g0_leaves d (k2 - v1) (k3 + v1) (k4 - v1) (k5 - (1 : Int32)) x1_count g1_ints).bind fun x => match x with | (u3, u4) => (fTr_hash x0_count g0_leaves 12 k3 v1 (k5 - (1 : Int32))).bind fun v6 => (fPd_add u3 u4 v6).bind fun x => match x with | (v8, u9, u10) => some (u9, u10)) else ((fTr_inclusion x0_count g0_leaves d k2 k3 v1 (k5 - (1 : Int32)) x1_count g1_ints).bind fun x => match x with | (u12, u13) => (fTr_hash x0_count g0_leaves 12 (k3 + v1) (k4 - v1) (k5 - (1 : Int32))).bind fun v15 => (fPd_add u12 u13 v15).bind fun x => match x with | (v17, u18, u19) => some (u18, u19))) else (some (x1_count, g1_ints)))
def fTr_addInclusion (x0_count : Int32) (g0_leaves : Nat → Int32) (x1_count : Int32) (g1_ints : Nat → Int32) (k2 : Int32) (k3 : Int32) : Option (Int32 × (Nat → Int32)) := (fTr_inclusion x0_count g0_leaves 12 k2 (0 : Int32) k3 (10 : Int32) x1_count g1_ints).bind fun x => match x with | (u1, u2) => some (u1, u2)
def fPd_length (x0_count : Int32) : Option (Int32) := some x0_count
def fSl_prove (x0_log_count : Int32) (x0_log_syncedCount : Int32) (g0_log_leaves : Nat → Int32) (x0_proof_count : Int32) (g0_proof_ints : Nat → Int32) (k1 : Int32) (k2 : Int32) : Option (Int32 × Int32 × (Nat → Int32)) := (fLg_syncedSize x0_log_syncedCount).bind fun v1 => if v1 < k2 then (some ((-1 : Int32), x0_proof_count, g0_proof_ints)) else (if k1 < 0 then (some ((-1 : Int32), x0_proof_count, g0_proof_ints)) else (if k1 < k2 then ((fPd_clear x0_proof_count).bind fun u3 => (fTr_addInclusion x0_log_count g0_log_leaves u3 g0_proof_ints k1 k2).bind fun x => match x with | (u5, u6) => (fPd_length u5).bind fun v8 => some (v8, u5, u6)) else (some ((-1 : Int32), x0_proof_count, g0_proof_ints))))
def fTr_consistency (x0_count : Int32) (g0_leaves : Nat → Int32) : Nat → Int32 → Int32 → Int32 → Int32 → Int32 → Int32 → (Nat → Int32) → Option (Int32 × (Nat → Int32))
  | 0, _, _, _, _, _, _, _ => none
  | d + 1, k2, k3, k4, k5, k6, x1_count, g1_ints => if k2 = k4 then (if k5 = 0 then ((fTr_hash x0_count g0_leaves 12 k3 k4 k6).bind fun v1 => (fPd_add x1_count g1_ints v1).bind fun x => match x with | (v3, u4, u5) => some (u4, u5)) else (some (x1_count, g1_ints))) else (if 0 < k6 then ((fSl_split k4).bind fun v7 => if v7 < k2 then ((fTr_consistency x0_count g0_leaves d (k2 - v7) (k3 + v7) (k4 - v7) (0 : Int32) (k6 - (1 : Int32)) x1_count g1_ints).bind fun x => match x with | (u9, u10) => (fTr_hash x0_count g0_leaves 12 k3 v7 (k6 - (1 : Int32))).bind fun v12 => (fPd_add u9 u10 v12).bind fun x => match x with | (v14, u15, u16) => some (u15, u16)) else ((fTr_consistency x0_count g0_leaves d k2 k3 v7 k5 (k6 - (1 : Int32)) x1_count g1_ints).bind fun x => match x with | (u18, u19) => (fTr_hash x0_count g0_leaves 12 (k3 + v7) (k4 - v7) (k6 - (1 : Int32))).bind fun v21 => (fPd_add u18 u19 v21).bind fun x => match x with | (v23, u24, u25) => some (u24, u25))) else (if k5 = 0 then ((fTr_hash x0_count g0_leaves 12 k3 k4 k6).bind fun v27 => (fPd_add x1_count g1_ints v27).bind fun x => match x with | (v29, u30, u31) => some (u30, u31)) else (some (x1_count, g1_ints))))
def fTr_addConsistency (x0_count : Int32) (g0_leaves : Nat → Int32) (x1_count : Int32) (g1_ints : Nat → Int32) (k2 : Int32) (k3 : Int32) : Option (Int32 × (Nat → Int32)) := (fTr_consistency x0_count g0_leaves 12 k2 (0 : Int32) k3 (1 : Int32) (10 : Int32) x1_count g1_ints).bind fun x => match x with | (u1, u2) => some (u1, u2)
def fSl_extend (x0_log_count : Int32) (x0_log_syncedCount : Int32) (g0_log_leaves : Nat → Int32) (x0_proof_count : Int32) (g0_proof_ints : Nat → Int32) (k1 : Int32) (k2 : Int32) : Option (Int32 × Int32 × (Nat → Int32)) := (fLg_syncedSize x0_log_syncedCount).bind fun v1 => if v1 < k2 then (some ((-1 : Int32), x0_proof_count, g0_proof_ints)) else (if k1 < (1 : Int32) then (some ((-1 : Int32), x0_proof_count, g0_proof_ints)) else (if k1 ≤ k2 then ((fPd_clear x0_proof_count).bind fun u3 => (fTr_addConsistency x0_log_count g0_log_leaves u3 g0_proof_ints k1 k2).bind fun x => match x with | (u5, u6) => (fPd_length u5).bind fun v8 => some (v8, u5, u6)) else (some ((-1 : Int32), x0_proof_count, g0_proof_ints))))
def fSl_put (x0_proof_count : Int32) (g0_proof_ints : Nat → Int32) (k1 : Int32) : Option (Int32 × Int32 × (Nat → Int32)) := (fPd_add x0_proof_count g0_proof_ints k1).bind fun x => match x with | (v1, u2, u3) => (hw_z v1).bind fun v6 => some (v1, u2, u3)
def fPd_removeLast (x0_count : Int32) : Option (Int32 × Int32) := if 0 < x0_count then (some ((1 : Int32), x0_count - (1 : Int32))) else (some ((0 : Int32), x0_count))
def fSl_take (x0_proof_count : Int32) : Option (Int32 × Int32) := (fPd_removeLast x0_proof_count).bind fun x => match x with | (v1, u2) => (hw_z v1).bind fun v5 => some (v1, u2)
def fPd_intAt (x0_count : Int32) (g0_ints : Nat → Int32) (k1 : Int32) : Option (Int32) := if k1 < 0 then (some (0 : Int32)) else (if x0_count ≤ k1 then (some (0 : Int32)) else ((hw_rd 16 g0_ints k1).bind fun v1 => some v1))
def fSl_pad (x0_proof_count : Int32) (g0_proof_ints : Nat → Int32) (k1 : Int32) : Option (Int32) := (fPd_intAt x0_proof_count g0_proof_ints k1).bind fun v1 => some v1
def fPd_inclusionLength_L2 : Nat → Int32 → Int32 → Int32 → Option (Int32)
  | 0, _, _, _ => none
  | n + 1, k0, k1, k2 => if k1 ≤ (1 : Int32) then (some k2) else (if (16 : Int32) ≤ k2 then (some k2) else ((fSl_split k1).bind fun v1 => if v1 ≤ k0 then (fPd_inclusionLength_L2 n (k0 - v1) (k1 - v1) (k2 + (1 : Int32))) else (fPd_inclusionLength_L2 n k0 v1 (k2 + (1 : Int32)))))
def fPd_inclusionLength (k0 : Int32) (k1 : Int32) : Option (Int32) := fPd_inclusionLength_L2 600 k0 k1 (0 : Int32)
def fPd_shownAbove (x0_count : Int32) (g0_ints : Nat → Int32) : Nat → Int32 → Int32 → Int32 → Int32 → Option (Int32)
  | 0, _, _, _, _ => none
  | d + 1, k1, k2, k3, k4 => if k3 ≤ (1 : Int32) then (some k1) else (if 0 < k4 then ((fSl_split k3).bind fun v1 => (fPd_intAt x0_count g0_ints (k4 - (1 : Int32))).bind fun v3 => if v1 ≤ k2 then ((fPd_shownAbove x0_count g0_ints d k1 (k2 - v1) (k3 - v1) (k4 - (1 : Int32))).bind fun v5 => (fSl_node v3 v5).bind fun v7 => some v7) else ((fPd_shownAbove x0_count g0_ints d k1 k2 v1 (k4 - (1 : Int32))).bind fun v9 => (fSl_node v9 v3).bind fun v11 => some v11)) else (some k1))
def fPd_showsInclusion (x0_count : Int32) (g0_ints : Nat → Int32) (k1 : Int32) (k2 : Int32) (k3 : Int32) (k4 : Int32) : Option (Int32) := (fPd_inclusionLength k2 k3).bind fun v1 => if x0_count = v1 then ((fPd_shownAbove x0_count g0_ints 18 k1 k2 k3 x0_count).bind fun v3 => if v3 = k4 then (some (1 : Int32)) else (some (0 : Int32))) else (some (0 : Int32))
def fSl_included (x0_proof_count : Int32) (g0_proof_ints : Nat → Int32) (k1 : Int32) (k2 : Int32) (k3 : Int32) (k4 : Int32) : Option (Int32) := if k3 < (1 : Int32) then (some (0 : Int32)) else (if (1000 : Int32) < k3 then (some (0 : Int32)) else (if k2 < 0 then (some (0 : Int32)) else (if k3 ≤ k2 then (some (0 : Int32)) else ((fPd_showsInclusion x0_proof_count g0_proof_ints k1 k2 k3 k4).bind fun v1 => if v1 = 0 then (some (0 : Int32)) else (some (1 : Int32))))))
def fPd_consistencySteps_L2 : Nat → Int32 → Int32 → Int32 → Option (Int32)
  | 0, _, _, _ => none
  | n + 1, k0, k1, k2 => if k0 = k1 then (some k2) else (if (16 : Int32) ≤ k2 then (some k2) else ((fSl_split k1).bind fun v1 => if v1 < k0 then (fPd_consistencySteps_L2 n (k0 - v1) (k1 - v1) (k2 + (1 : Int32))) else (fPd_consistencySteps_L2 n k0 v1 (k2 + (1 : Int32)))))
def fPd_consistencySteps (k0 : Int32) (k1 : Int32) : Option (Int32) := fPd_consistencySteps_L2 600 k0 k1 (0 : Int32)
def fPd_isOwn_L2 (k0 : Int32) : Nat → Int32 → Int32 → Option (Int32)
  | 0, _, _ => none
  | n + 1, k1, k2 => if (10 : Int32) ≤ k2 then (some (1 : Int32)) else (if k0 = k1 then (some (1 : Int32)) else ((fSl_split k1).bind fun v1 => if k0 ≤ v1 then (fPd_isOwn_L2 k0 n v1 (k2 + (1 : Int32))) else (some (0 : Int32))))
def fPd_isOwn (k0 : Int32) (k1 : Int32) : Option (Int32) := fPd_isOwn_L2 k0 600 k1 (0 : Int32)
def fPd_shownOld (x0_count : Int32) (g0_ints : Nat → Int32) : Nat → Int32 → Int32 → Int32 → Int32 → Option (Int32)
  | 0, _, _, _, _ => none
  | d + 1, k1, k2, k3, k4 => if k2 = k3 then (some k1) else (if 0 < k4 then ((fSl_split k3).bind fun v1 => if v1 < k2 then ((fPd_intAt x0_count g0_ints (k4 - (1 : Int32))).bind fun v3 => (fPd_shownOld x0_count g0_ints d k1 (k2 - v1) (k3 - v1) (k4 - (1 : Int32))).bind fun v5 => (fSl_node v3 v5).bind fun v7 => some v7) else ((fPd_shownOld x0_count g0_ints d k1 k2 v1 (k4 - (1 : Int32))).bind fun v9 => some v9)) else (some k1))
def fPd_shownNew (x0_count : Int32) (g0_ints : Nat → Int32) : Nat → Int32 → Int32 → Int32 → Int32 → Option (Int32)
  | 0, _, _, _, _ => none
  | d + 1, k1, k2, k3, k4 => if k2 = k3 then (some k1) else (if 0 < k4 then ((fSl_split k3).bind fun v1 => (fPd_intAt x0_count g0_ints (k4 - (1 : Int32))).bind fun v3 => if v1 < k2 then ((fPd_shownNew x0_count g0_ints d k1 (k2 - v1) (k3 - v1) (k4 - (1 : Int32))).bind fun v5 => (fSl_node v3 v5).bind fun v7 => some v7) else ((fPd_shownNew x0_count g0_ints d k1 k2 v1 (k4 - (1 : Int32))).bind fun v9 => (fSl_node v9 v3).bind fun v11 => some v11)) else (some k1))
def fPd_showsConsistency (x0_count : Int32) (g0_ints : Nat → Int32) (k1 : Int32) (k2 : Int32) (k3 : Int32) (k4 : Int32) : Option (Int32) := (fPd_consistencySteps k2 k4).bind fun v1 => (fPd_isOwn k2 k4).bind fun v3 => if v3 = 0 then (if x0_count = (v1 + (1 : Int32)) then (if v3 = 0 then ((fPd_intAt x0_count g0_ints (0 : Int32)).bind fun v5 => (fPd_shownOld x0_count g0_ints 18 v5 k2 k4 x0_count).bind fun v7 => if v7 = k1 then ((fPd_shownNew x0_count g0_ints 18 v5 k2 k4 x0_count).bind fun v9 => if v9 = k3 then (some (1 : Int32)) else (some (0 : Int32))) else (some (0 : Int32))) else ((fPd_shownOld x0_count g0_ints 18 k1 k2 k4 x0_count).bind fun v11 => if v11 = k1 then ((fPd_shownNew x0_count g0_ints 18 k1 k2 k4 x0_count).bind fun v13 => if v13 = k3 then (some (1 : Int32)) else (some (0 : Int32))) else (some (0 : Int32)))) else (some (0 : Int32))) else (if x0_count = v1 then (if v3 = 0 then ((fPd_intAt x0_count g0_ints (0 : Int32)).bind fun v15 => (fPd_shownOld x0_count g0_ints 18 v15 k2 k4 x0_count).bind fun v17 => if v17 = k1 then ((fPd_shownNew x0_count g0_ints 18 v15 k2 k4 x0_count).bind fun v19 => if v19 = k3 then (some (1 : Int32)) else (some (0 : Int32))) else (some (0 : Int32))) else ((fPd_shownOld x0_count g0_ints 18 k1 k2 k4 x0_count).bind fun v21 => if v21 = k1 then ((fPd_shownNew x0_count g0_ints 18 k1 k2 k4 x0_count).bind fun v23 => if v23 = k3 then (some (1 : Int32)) else (some (0 : Int32))) else (some (0 : Int32)))) else (some (0 : Int32)))
def fSl_consistent (x0_proof_count : Int32) (g0_proof_ints : Nat → Int32) (k1 : Int32) (k2 : Int32) (k3 : Int32) (k4 : Int32) : Option (Int32) := if k4 < (1 : Int32) then (some (0 : Int32)) else (if (1000 : Int32) < k4 then (some (0 : Int32)) else (if k2 < (1 : Int32) then (some (0 : Int32)) else (if k4 < k2 then (some (0 : Int32)) else ((fPd_showsConsistency x0_proof_count g0_proof_ints k1 k2 k3 k4).bind fun v1 => if v1 = 0 then (some (0 : Int32)) else (some (1 : Int32))))))
def fSl_cell (g0_disk_cells : Nat → Int32) (k1 : Int32) : Option (Int32) := (fDk_cellAt g0_disk_cells k1).bind fun v1 => some v1
def fDk_writesDone (x0_done : Int32) : Option (Int32) := some x0_done
def fSl_writes (x0_disk_done : Int32) : Option (Int32) := (fDk_writesDone x0_disk_done).bind fun v1 => some v1
end
section
theorem pu_rd {n i : Nat} {f : Nat → Int32} (h : i < n) (hn : n < 2 ^ 31) : hw_rd n f (nI i) = some (f i) := by
  unfold hw_rd
  rw [if_neg (nI_in h hn), nI_clamp (by omega)]
theorem pu_wr {n i : Nat} {f : Nat → Int32} {x : Int32} (h : i < n) (hn : n < 2 ^ 31) : hw_wr n f (nI i) x = some (upd f i x) := by
  unfold hw_wr
  rw [if_neg (nI_in h hn), nI_clamp (by omega)]
theorem pu_bs {α β : Type} (a : α) (f : α → Option β) : (some a).bind f = f a := rfl
theorem pu_z0 : hw_z 0 = some 0 := rfl
theorem pu_z1 : hw_z 1 = some 1 := rfl
theorem pu_n0 : (0 : Int32) = nI 0 := rfl
theorem pu_n1 : (1 : Int32) = nI 1 := rfl
theorem pu_n2 : (2 : Int32) = nI 2 := rfl
theorem pu_n3 : (3 : Int32) = nI 3 := rfl
theorem pu_n4 : (4 : Int32) = nI 4 := rfl
theorem pu_n8 : (8 : Int32) = nI 8 := rfl
theorem pu_n10 : (10 : Int32) = nI 10 := rfl
theorem pu_n16 : (16 : Int32) = nI 16 := rfl
theorem pu_n40 : (40 : Int32) = nI 40 := rfl
theorem pu_n63 : (63 : Int32) = nI 63 := rfl
theorem pu_n73 : (73 : Int32) = nI 73 := rfl
theorem pu_n512 : (512 : Int32) = nI 512 := rfl
theorem pu_n1000 : (1000 : Int32) = nI 1000 := rfl
theorem pu_us {f : Nat → Int32} {k : Nat} {x : Int32} : upd f k x k = x := by simp [upd]
theorem pu_un {f : Nat → Int32} {k j : Nat} {x : Int32} (h : j ≠ k) : upd f k x j = f j := by simp [upd, h]
def sp_mix (k0 k1 : Int32) : Int32 := ((((k0 * (16777619 : Int32)) + k1) ^^^ (hw_ushr ((k0 * (16777619 : Int32)) + k1) (15 : Int32))) * (739982445 : Int32)) ^^^ (hw_ushr ((((k0 * (16777619 : Int32)) + k1) ^^^ (hw_ushr ((k0 * (16777619 : Int32)) + k1) (15 : Int32))) * (739982445 : Int32)) (12 : Int32))
def sp_node (l r : Int32) : Int32 := sp_mix (sp_mix 1 l) r
abbrev sp_Leg : Type := Int32 × Int32
abbrev sp_Ent : Type := Int32 × List sp_Leg
def sp_sz (e : sp_Ent) : Nat := 3 + 2 * e.2.length
def sp_szs : List sp_Ent → Nat
  | [] => 0
  | e :: es => sp_sz e + sp_szs es
def sp_flat : List sp_Leg → List Int32
  | [] => []
  | g :: r => g.1 :: g.2 :: sp_flat r
def sp_leafL : Int32 → List sp_Leg → Int32
  | h, [] => h
  | h, g :: r => sp_leafL (sp_mix h (16 * g.2 + g.1)) r
def sp_leaf (e : sp_Ent) : Int32 := sp_leafL (sp_mix 0 e.1) e.2
def sp_encE (s : Int32) (e : sp_Ent) : List Int32 := nI e.2.length :: e.1 :: (sp_flat e.2 ++ [sp_mix s (sp_leaf e)])
def sp_enc : Int32 → List sp_Ent → List Int32
  | _, [] => []
  | s, e :: es => sp_encE s e ++ sp_enc (sp_mix s (sp_leaf e)) es
def sp_seal : Int32 → List sp_Ent → Int32
  | s, [] => s
  | s, e :: es => sp_seal (sp_mix s (sp_leaf e)) es
def sp_img (es : List sp_Ent) (k : Nat) : Int32 := (sp_enc 0 es)[k]?.getD 0
theorem sp_flat_len (l : List sp_Leg) : (sp_flat l).length = 2 * l.length := by
  induction l with
  | nil => rfl
  | cons g r ih => simp only [sp_flat, List.length_cons, ih]; omega
theorem sp_encE_len (s : Int32) (e : sp_Ent) : (sp_encE s e).length = sp_sz e := by
  simp only [sp_encE, List.length_cons, List.length_append, sp_flat_len, List.length_nil, sp_sz]; omega
theorem sp_enc_len (s : Int32) (es : List sp_Ent) : (sp_enc s es).length = sp_szs es := by
  induction es generalizing s with
  | nil => rfl
  | cons e es ih => simp only [sp_enc, List.length_append, sp_encE_len, ih, sp_szs]
theorem sp_enc_app (s : Int32) (a b : List sp_Ent) : sp_enc s (a ++ b) = sp_enc s a ++ sp_enc (sp_seal s a) b := by
  induction a generalizing s with
  | nil => rfl
  | cons e a ih => simp only [List.cons_append, sp_enc, sp_seal, ih, List.append_assoc]
theorem sp_szs_app (a b : List sp_Ent) : sp_szs (a ++ b) = sp_szs a + sp_szs b := by
  induction a with
  | nil => simp [sp_szs]
  | cons e a ih => simp only [List.cons_append, sp_szs, ih]; omega
theorem sp_seal_app (s : Int32) (a b : List sp_Ent) : sp_seal s (a ++ b) = sp_seal (sp_seal s a) b := by
  induction a generalizing s with
  | nil => rfl
  | cons e a ih => simp only [List.cons_append, sp_seal, ih]
theorem sp_flat_at (l : List sp_Leg) (j : Nat) (g : sp_Leg) (h : l[j]? = some g) : (sp_flat l)[2 * j]? = some g.1 ∧ (sp_flat l)[2 * j + 1]? = some g.2 := by
  induction l generalizing j with
  | nil => simp at h
  | cons a r ih =>
    cases j with
    | zero => simp only [List.getElem?_cons_zero, Option.some.injEq] at h; subst h; exact ⟨rfl, rfl⟩
    | succ j =>
      simp only [List.getElem?_cons_succ] at h
      obtain ⟨h1, h2⟩ := ih j h
      refine ⟨?_, ?_⟩
      · rw [show 2 * (j + 1) = 2 * j + 1 + 1 by omega]; simp only [sp_flat, List.getElem?_cons_succ]; exact h1
      · rw [show 2 * (j + 1) + 1 = 2 * j + 1 + 1 + 1 by omega]; simp only [sp_flat, List.getElem?_cons_succ]; exact h2
def sp_At (c : Nat → Int32) (st : Nat) (e : sp_Ent) : Prop := c st = nI e.2.length ∧ c (st + 1) = e.1 ∧ ∀ (j : Nat) (g : sp_Leg), e.2[j]? = some g → c (st + 2 + 2 * j) = g.1 ∧ c (st + 3 + 2 * j) = g.2
theorem sp_img_at (a b : List sp_Ent) (e : sp_Ent) (t : Nat) (ht : t < sp_sz e) : sp_img (a ++ e :: b) (sp_szs a + t) = (sp_encE (sp_seal 0 a) e)[t]?.getD 0 := by
  unfold sp_img
  rw [sp_enc_app, List.getElem?_append_right (by rw [sp_enc_len]; omega), sp_enc_len, Nat.add_sub_cancel_left, sp_enc, List.getElem?_append_left (by rw [sp_encE_len]; exact ht)]
theorem sp_encE_leg (s : Int32) (e : sp_Ent) (j : Nat) (g : sp_Leg) (h : e.2[j]? = some g) : (sp_encE s e)[2 + 2 * j]? = some g.1 ∧ (sp_encE s e)[3 + 2 * j]? = some g.2 := by
  have hj : j < e.2.length := (List.getElem?_eq_some_iff.mp h).1
  obtain ⟨h1, h2⟩ := sp_flat_at e.2 j g h
  refine ⟨?_, ?_⟩
  · rw [show 2 + 2 * j = 2 * j + 1 + 1 by omega]
    simp only [sp_encE, List.getElem?_cons_succ]
    rw [List.getElem?_append_left (by rw [sp_flat_len]; omega)]; exact h1
  · rw [show 3 + 2 * j = 2 * j + 1 + 1 + 1 by omega]
    simp only [sp_encE, List.getElem?_cons_succ]
    rw [List.getElem?_append_left (by rw [sp_flat_len]; omega)]; exact h2
theorem sp_encE_seal (s : Int32) (e : sp_Ent) : (sp_encE s e)[2 + 2 * e.2.length]? = some (sp_mix s (sp_leaf e)) := by
  rw [show 2 + 2 * e.2.length = 2 * e.2.length + 1 + 1 by omega]
  simp only [sp_encE, List.getElem?_cons_succ]
  rw [List.getElem?_append_right (by rw [sp_flat_len]; omega), sp_flat_len, Nat.sub_self]; rfl
theorem sp_img_At (a b : List sp_Ent) (e : sp_Ent) : sp_At (sp_img (a ++ e :: b)) (sp_szs a) e := by
  refine ⟨?_, ?_, fun j g h => ?_⟩
  · have := sp_img_at a b e 0 (by unfold sp_sz; omega)
    rw [Nat.add_zero] at this; rw [this]; rfl
  · rw [sp_img_at a b e 1 (by unfold sp_sz; omega)]; rfl
  · have hj : j < e.2.length := (List.getElem?_eq_some_iff.mp h).1
    obtain ⟨h1, h2⟩ := sp_encE_leg (sp_seal 0 a) e j g h
    rw [Nat.add_assoc, Nat.add_assoc, sp_img_at a b e (2 + 2 * j) (by unfold sp_sz; omega), sp_img_at a b e (3 + 2 * j) (by unfold sp_sz; omega), h1, h2]
    exact ⟨rfl, rfl⟩
theorem sp_img_seal (a b : List sp_Ent) (e : sp_Ent) : sp_img (a ++ e :: b) (sp_szs a + (2 + 2 * e.2.length)) = sp_mix (sp_seal 0 a) (sp_leaf e) := by
  rw [sp_img_at a b e _ (by unfold sp_sz; omega), sp_encE_seal]; rfl
theorem sp_img_out (es : List sp_Ent) (k : Nat) (h : sp_szs es ≤ k) : sp_img es k = 0 := by
  unfold sp_img
  rw [List.getElem?_eq_none (by rw [sp_enc_len]; exact h)]; rfl
theorem sp_At.congr {c d : Nat → Int32} {st : Nat} {e : sp_Ent} (h : sp_At c st e) (hc : ∀ k, st ≤ k → k < st + sp_sz e → d k = c k) : sp_At d st e := by
  unfold sp_sz at hc
  refine ⟨by rw [hc st (by omega) (by omega)]; exact h.1, by rw [hc (st + 1) (by omega) (by omega)]; exact h.2.1, fun j g hg => ?_⟩
  have hj : j < e.2.length := (List.getElem?_eq_some_iff.mp hg).1
  rw [hc (st + 2 + 2 * j) (by omega) (by omega), hc (st + 3 + 2 * j) (by omega) (by omega)]
  exact h.2.2 j g hg
def sp_acc (a : Int32) : Prop := ¬ a < 0 ∧ ¬ (8 : Int32) ≤ a
def sp_amt (m : Int32) : Prop := ¬ m < (-9999 : Int32) ∧ ¬ (9999 : Int32) < m
def sp_sum : Int32 → List sp_Leg → Int32
  | t, [] => t
  | t, g :: r => sp_sum (t + g.2) r
def sp_okE (e : sp_Ent) : Prop := 2 ≤ e.2.length ∧ e.2.length ≤ 4 ∧ (∀ g ∈ e.2, sp_acc g.1 ∧ sp_amt g.2) ∧ sp_sum 0 e.2 = 0
def sp_ok (es : List sp_Ent) : Prop := ∀ e ∈ es, sp_okE e
theorem sp_len (es : List sp_Ent) (h : sp_ok es) : 7 * es.length ≤ sp_szs es := by
  induction es with
  | nil => simp [sp_szs]
  | cons e es ih =>
    have h1 := ih (fun x hx => h x (List.mem_cons_of_mem _ hx))
    have h2 := (h e List.mem_cons_self).1
    simp only [List.length_cons, sp_szs, sp_sz]; omega
end
section
theorem pu_split {α : Type} {l : List α} {i : Nat} {e : α} (h : l[i]? = some e) : l = l.take i ++ e :: l.drop (i + 1) := by
  obtain ⟨hlt, rfl⟩ := List.getElem?_eq_some_iff.mp h
  rw [← List.drop_eq_getElem_cons hlt, List.take_append_drop]
theorem pu_dropc {α : Type} {l : List α} {i : Nat} (h : i < l.length) : ∃ e, l[i]? = some e ∧ l.drop i = e :: l.drop (i + 1) := by
  exact ⟨l[i], List.getElem?_eq_getElem h, List.drop_eq_getElem_cons h⟩
theorem pu_mix (a b : Int32) : fSl_mix a b = some (sp_mix a b) := rfl
theorem pu_node (a b : Int32) : fSl_node a b = some (sp_node a b) := rfl
theorem pu_acc (a : Int32) (h : sp_acc a) : fSl_isAccount a = some 1 := by
  unfold fSl_isAccount; rw [if_neg h.1, if_neg h.2]
theorem pu_acc0 (a : Int32) (h : ¬ sp_acc a) : fSl_isAccount a = some 0 := by
  unfold fSl_isAccount
  by_cases h1 : a < 0
  · rw [if_pos h1]
  · rw [if_neg h1]
    by_cases h2 : (8 : Int32) ≤ a
    · rw [if_pos h2]
    · exact absurd ⟨h1, h2⟩ h
theorem pu_amt (a : Int32) (h : sp_amt a) : fSl_isAmount a = some 1 := by
  unfold fSl_isAmount; rw [if_neg h.1, if_neg h.2]
theorem pu_amt0 (a : Int32) (h : ¬ sp_amt a) : fSl_isAmount a = some 0 := by
  unfold fSl_isAmount
  by_cases h1 : a < (-9999 : Int32)
  · rw [if_pos h1]
  · rw [if_neg h1]
    by_cases h2 : (9999 : Int32) < a
    · rw [if_pos h2]
    · exact absurd ⟨h1, h2⟩ h
theorem sp_acc_nI {a : Int32} (h : sp_acc a) : ∃ j : Nat, j < 8 ∧ a = nI j := by
  obtain ⟨j, hj, rfl⟩ := nI_of h.1
  refine ⟨j, ?_, rfl⟩
  have := h.2
  rw [pu_n8, nI_leI (by omega) hj] at this
  omega
theorem pu_ec (n : Nat) : fSl_entryCells (nI n) = some (nI (3 + 2 * n)) := by
  unfold fSl_entryCells
  rw [pu_n3, pu_n2, pk_mul, nI_add]
theorem pu_acell (st j : Nat) : fLg_accountCell (nI st) (nI j) = some (nI (st + 2 + 2 * j)) := by
  unfold fLg_accountCell
  rw [pu_n2, pk_mul, nI_add, nI_add]
theorem pu_mcell (st j : Nat) : fLg_amountCell (nI st) (nI j) = some (nI (st + 3 + 2 * j)) := by
  unfold fLg_amountCell
  rw [pu_n2, pu_n3, pk_mul, nI_add, nI_add]
theorem pu_leafL {c : Nat → Int32} {st : Nat} {e : sp_Ent} (hA : sp_At c st e) (hs : st + sp_sz e ≤ 512) : ∀ (n j : Nat) (h : Int32), j ≤ e.2.length → e.2.length - j < n → fLg_leafFrom_L15 c (nI st) n h (nI j) = some (sp_leafL h (e.2.drop j)) := by
  unfold sp_sz at hs
  intro n
  induction n with
  | zero => intro j h h1 h2; omega
  | succ n ih =>
    intro j h h1 h2
    rw [fLg_leafFrom_L15, pu_rd (by omega) (by decide), pu_bs, hA.1]
    by_cases hj : j = e.2.length
    · rw [if_pos (nI_le (by omega) (by omega)), hj, List.drop_length]; rfl
    · rw [if_neg (nI_ge (by omega) (by omega))]
      obtain ⟨g, hg, hd⟩ := pu_dropc (l := e.2) (i := j) (by omega)
      rw [pu_mcell, pu_bs, pu_rd (by omega) (by decide), pu_bs, pu_acell, pu_bs, pu_rd (by omega) (by decide), pu_bs, pu_mix, pu_bs, (hA.2.2 j g hg).1, (hA.2.2 j g hg).2, nI_1, ih (j + 1) _ (by omega) (by omega), hd]; rfl
theorem pu_leaf {c : Nat → Int32} {st : Nat} {e : sp_Ent} (hA : sp_At c st e) (hs : st + sp_sz e ≤ 512) (hl : e.2.length ≤ 4) : fLg_leafFrom c (nI st) = some (sp_leaf e) := by
  have hs' := hs
  unfold sp_sz at hs'
  unfold fLg_leafFrom
  rw [nI_1, pu_rd (by omega) (by decide), pu_bs, pu_mix, pu_bs, hA.2.1, pu_n0, pu_leafL hA hs 600 0 _ (by omega) (by omega)]; rfl
def sp_cnt (a sm : Int32) : Int32 → List sp_Leg → Int32
  | t, [] => t
  | t, g :: r => sp_cnt a sm (if g.1 = a then (if sm = 0 then t + 1 else t + g.2) else t) r
theorem pu_cntL {c : Nat → Int32} {st : Nat} {e : sp_Ent} (hA : sp_At c st e) (hs : st + sp_sz e ≤ 512) (a sm : Int32) : ∀ (n j : Nat) (t : Int32), j ≤ e.2.length → e.2.length - j < n → fLg_totalAt_L6 c (nI st) a sm n t (nI j) = some (sp_cnt a sm t (e.2.drop j)) := by
  unfold sp_sz at hs
  intro n
  induction n with
  | zero => intro j h h1 h2; omega
  | succ n ih =>
    intro j t h1 h2
    rw [fLg_totalAt_L6, pu_rd (by omega) (by decide), pu_bs, hA.1]
    by_cases hj : j = e.2.length
    · rw [if_pos (nI_le (by omega) (by omega)), hj, List.drop_length]; rfl
    · rw [if_neg (nI_ge (by omega) (by omega))]
      obtain ⟨g, hg, hd⟩ := pu_dropc (l := e.2) (i := j) (by omega)
      rw [pu_acell, pu_bs, pu_rd (by omega) (by decide), pu_bs, (hA.2.2 j g hg).1, hd, sp_cnt]
      by_cases h3 : g.1 = a
      · rw [if_pos h3, if_pos h3]
        by_cases h4 : sm = 0
        · rw [if_pos h4, if_pos h4, nI_1, ih (j + 1) _ (by omega) (by omega)]
        · rw [if_neg h4, if_neg h4, pu_mcell, pu_bs, pu_rd (by omega) (by decide), pu_bs, (hA.2.2 j g hg).2, nI_1, ih (j + 1) _ (by omega) (by omega)]
      · rw [if_neg h3, if_neg h3, nI_1, ih (j + 1) _ (by omega) (by omega)]
theorem pu_cnt {c : Nat → Int32} {st : Nat} {e : sp_Ent} (hA : sp_At c st e) (hs : st + sp_sz e ≤ 512) (hl : e.2.length ≤ 4) (a sm : Int32) : fLg_totalAt c (nI st) a sm = some (sp_cnt a sm 0 e.2) := by
  unfold fLg_totalAt
  have := pu_cntL hA hs a sm 600 0 0 (by omega) (by omega)
  rw [List.drop_zero] at this
  exact this
theorem pu_scell {c : Nat → Int32} {st : Nat} {e : sp_Ent} (hA : c st = nI e.2.length) (hs : st + sp_sz e ≤ 512) : fLg_sealCell c (nI st) = some (nI (st + (2 + 2 * e.2.length))) := by
  unfold sp_sz at hs
  unfold fLg_sealCell
  rw [pu_rd (by omega) (by decide), pu_bs, hA, pu_ec, pu_bs, pu_n1, nI_add, pk_sub (by omega)]
  exact congrArg (fun x => some (nI x)) (by omega)
def sp_RL (cells starts leaves : Nat → Int32) (count end_ sc se : Int32) (es : List sp_Ent) (syn : Nat) : Prop :=
  sp_ok es ∧ sp_szs es ≤ 512 ∧ syn ≤ es.length ∧ count = nI es.length ∧ end_ = nI (sp_szs es) ∧ sc = nI syn ∧ se = nI (sp_szs (es.take syn)) ∧ (∀ k, k < 512 → cells k = sp_img es k) ∧ (∀ i, i < es.length → starts i = nI (sp_szs (es.take i))) ∧ ∀ i e, es[i]? = some e → leaves i = sp_leaf e
theorem pu_take {es : List sp_Ent} {i : Nat} {e : sp_Ent} (h : es[i]? = some e) : sp_szs (es.take i) + sp_sz e + sp_szs (es.drop (i + 1)) = sp_szs es := by
  have h1 := congrArg sp_szs (pu_split h)
  rw [sp_szs_app, sp_szs] at h1
  omega
theorem pu_AtI {c : Nat → Int32} {es : List sp_Ent} (hc : ∀ k, k < 512 → c k = sp_img es k) (hz : sp_szs es ≤ 512) {i : Nat} {e : sp_Ent} (h : es[i]? = some e) : sp_At c (sp_szs (es.take i)) e ∧ sp_szs (es.take i) + sp_sz e ≤ 512 := by
  have h2 := pu_take h
  refine ⟨?_, by omega⟩
  have h1 := sp_img_At (es.take i) (es.drop (i + 1)) e
  rw [← pu_split h] at h1
  exact h1.congr (fun k _ hk => hc k (by omega))
def sp_find (key : Int32) : Nat → List sp_Ent → Int32
  | _, [] => -1
  | i, e :: r => if e.1 = key then nI i else sp_find key (i + 1) r
theorem pu_findL {c st lv : Nat → Int32} {es : List sp_Ent} {syn : Nat} {ct en sc se : Int32} (h : sp_RL c st lv ct en sc se es syn) (key : Int32) : ∀ (n i : Nat), i ≤ es.length → es.length - i < n → fLg_firstWith_L2 ct c st key n (nI i) = some (sp_find key i (es.drop i)) := by
  obtain ⟨hok, hz, hsy, rfl, rfl, rfl, rfl, hc, hst, hlf⟩ := h
  have h73 := sp_len es hok
  intro n
  induction n with
  | zero => intro i h1 h2; omega
  | succ n ih =>
    intro i h1 h2
    rw [fLg_firstWith_L2]
    by_cases hi : i = es.length
    · rw [if_pos (nI_le (by omega) (by omega)), hi, List.drop_length]; rfl
    · rw [if_neg (nI_ge (by omega) (by omega))]
      obtain ⟨e, he, hd⟩ := pu_dropc (l := es) (i := i) (by omega)
      obtain ⟨hA, hA2⟩ := pu_AtI hc hz he
      unfold sp_sz at hA2
      rw [pu_rd (by omega) (by decide), pu_bs, hst i (by omega), nI_1, pu_rd (by omega) (by decide), pu_bs, hA.2.1, hd, sp_find]
      by_cases h3 : e.1 = key
      · rw [if_pos h3, if_pos h3]
      · rw [if_neg h3, if_neg h3, nI_1, ih (i + 1) (by omega) (by omega)]
theorem pu_find {c st lv : Nat → Int32} {es : List sp_Ent} {syn : Nat} {ct en sc se : Int32} (h : sp_RL c st lv ct en sc se es syn) (key : Int32) : fLg_firstWith ct c st key = some (sp_find key 0 es) := by
  have h73 := sp_len es h.1
  have hz := h.2.1
  unfold fLg_firstWith
  have := pu_findL h key 600 0 (by omega) (by omega)
  rw [List.drop_zero] at this
  exact this
def sp_tot (a sm : Int32) : Int32 → List sp_Ent → Int32
  | t, [] => t
  | t, e :: r => sp_tot a sm (t + sp_cnt a sm 0 e.2) r
theorem pu_totL {c st lv : Nat → Int32} {es : List sp_Ent} {syn : Nat} {ct en sc se : Int32} (h : sp_RL c st lv ct en sc se es syn) (a sm : Int32) (hi : Nat) (hh : hi ≤ es.length) : ∀ (n i : Nat) (t : Int32), i ≤ hi → hi - i < n → fLg_total_L20 ct c st a sm (nI hi) n t (nI i) = some (sp_tot a sm t ((es.take hi).drop i)) := by
  obtain ⟨hok, hz, hsy, rfl, rfl, rfl, rfl, hc, hst, hlf⟩ := h
  have h73 := sp_len es hok
  have hl : (es.take hi).length = hi := by rw [List.length_take]; omega
  intro n
  induction n with
  | zero => intro i t h1 h2; omega
  | succ n ih =>
    intro i t h1 h2
    rw [fLg_total_L20]
    by_cases hi2 : i = hi
    · rw [if_pos (nI_le (by omega) (by omega)), List.drop_eq_nil_of_le (by omega)]; rfl
    · rw [if_neg (nI_ge (by omega) (by omega))]
      obtain ⟨e, he, hd⟩ := pu_dropc (l := es.take hi) (i := i) (by omega)
      have he2 : es[i]? = some e := by rw [List.getElem?_take] at he; simpa [show i < hi by omega] using he
      obtain ⟨hA, hA2⟩ := pu_AtI hc hz he2
      have hm : e ∈ es := List.mem_of_getElem? he2
      rw [pu_rd (by omega) (by decide), pu_bs, hst i (by omega), pu_cnt hA hA2 (hok e hm).2.1, pu_bs, nI_1, ih (i + 1) _ (by omega) (by omega), hd, sp_tot]
def sp_row (es : List sp_Ent) (from_ to_ : Int32) : List sp_Ent := (es.take (hw_min to_ (nI es.length)).toNatClampNeg).drop (hw_max from_ 0).toNatClampNeg
theorem pu_max0 (x : Int32) : ∃ j : Nat, j < 2 ^ 31 ∧ hw_max x 0 = nI j := by
  unfold hw_max
  by_cases h : x < 0
  · rw [if_pos h]; exact ⟨0, by decide, rfl⟩
  · rw [if_neg h]; exact nI_of h
theorem pu_total {c st lv : Nat → Int32} {es : List sp_Ent} {syn : Nat} {ct en sc se : Int32} (h : sp_RL c st lv ct en sc se es syn) (a fr to_ sm : Int32) : fLg_total ct c st a fr to_ sm = some (sp_tot a sm 0 (sp_row es fr to_)) := by
  have h73 := sp_len es h.1
  have hz := h.2.1
  have hct := h.2.2.2.1
  obtain ⟨j, hj, ej⟩ := pu_max0 fr
  unfold fLg_total sp_row
  rw [ej, hct, nI_clamp hj]
  by_cases hn : hw_min to_ (nI es.length) < 0
  · rw [fLg_total_L20, if_pos]
    · have : (hw_min to_ (nI es.length)).toNatClampNeg = 0 := by
        have h1 := Int32.lt_iff_toInt_lt.mp hn
        have h0 : (0 : Int32).toInt = 0 := by decide
        show (hw_min to_ (nI es.length)).toInt.toNat = 0
        omega
      rw [this]; simp [sp_tot]
    · have h1 := Int32.lt_iff_toInt_lt.mp hn
      have h0 : (0 : Int32).toInt = 0 := by decide
      rw [Int32.le_iff_toInt_le, nI_toInt hj]
      omega
  · obtain ⟨k, hk, ek⟩ := nI_of hn
    have hk2 : k ≤ es.length := by
      have : hw_min to_ (nI es.length) ≤ nI es.length := by
        unfold hw_min
        by_cases hq : nI es.length < to_
        · rw [if_pos hq]; exact nI_le (by omega) (by omega)
        · rw [if_neg hq]
          rw [Int32.lt_iff_toInt_lt] at hq
          rw [Int32.le_iff_toInt_le]; omega
      rw [ek, nI_leI hk (by omega)] at this
      exact this
    rw [ek, nI_clamp hk]
    by_cases hjk : j ≤ k
    · exact pu_totL (hct ▸ h) a sm k hk2 600 j 0 hjk (by omega)
    · rw [fLg_total_L20, if_pos (nI_le (by omega) (by omega)), List.drop_eq_nil_of_le (by rw [List.length_take]; omega)]; rfl
theorem pu_leafOf {c st lv : Nat → Int32} {es : List sp_Ent} {syn : Nat} {ct en sc se : Int32} (h : sp_RL c st lv ct en sc se es syn) (i : Nat) (e : sp_Ent) (he : es[i]? = some e) : fLg_leafOf ct lv (nI i) = some (sp_leaf e) := by
  have h73 := sp_len es h.1
  have hz := h.2.1
  have hi : i < es.length := (List.getElem?_eq_some_iff.mp he).1
  unfold fLg_leafOf
  rw [if_neg (nI_pos (by omega)), h.2.2.2.1, if_neg (nI_ge hi (by omega)), pu_rd (by omega) (by decide), pu_bs, h.2.2.2.2.2.2.2.2.2 i e he]
theorem pu_leafOf0 {c st lv : Nat → Int32} {es : List sp_Ent} {syn : Nat} {ct en sc se : Int32} (h : sp_RL c st lv ct en sc se es syn) (k : Int32) (hk : k < 0 ∨ nI es.length ≤ k) : fLg_leafOf ct lv k = some 0 := by
  unfold fLg_leafOf
  rw [h.2.2.2.1]
  by_cases h0 : k < 0
  · rw [if_pos h0]
  · rw [if_neg h0, if_pos (hk.resolve_left h0)]
end
section
theorem pu_snoc {α : Type} : ∀ l : List α, l = [] ∨ ∃ a e, l = a ++ [e] := by
  intro l
  induction l with
  | nil => exact Or.inl rfl
  | cons x r ih =>
    rcases ih with rfl | ⟨a, e, rfl⟩
    · exact Or.inr ⟨[], x, rfl⟩
    · exact Or.inr ⟨x :: a, e, rfl⟩
def sp_RD (acc amt : Nat → Int32) (cnt : Int32) (dr : List sp_Leg) : Prop := cnt = nI dr.length ∧ dr.length ≤ 4 ∧ (∀ j g, dr[j]? = some g → acc j = g.1 ∧ amt j = g.2) ∧ ∀ g ∈ dr, sp_acc g.1 ∧ sp_amt g.2
theorem pu_evenL {acc amt : Nat → Int32} {cnt : Int32} {dr : List sp_Leg} (h : sp_RD acc amt cnt dr) : ∀ (n j : Nat) (t : Int32), j ≤ dr.length → dr.length - j < n → fDr_isEven_L4 cnt amt n t (nI j) = some (if dr.length < 2 then 0 else if sp_sum t (dr.drop j) = 0 then 1 else 0) := by
  obtain ⟨rfl, h4, hd, -⟩ := h
  intro n
  induction n with
  | zero => intro j t h1 h2; omega
  | succ n ih =>
    intro j t h1 h2
    rw [fDr_isEven_L4]
    by_cases hj : j = dr.length
    · rw [if_pos (nI_le (by omega) (by omega)), hj, List.drop_length]
      by_cases h2 : dr.length < 2
      · rw [if_pos (show nI dr.length < 2 from nI_lt (b := 2) h2 (by decide)), if_pos h2]
      · rw [if_neg (show ¬ nI dr.length < 2 from nI_nlt (b := 2) (by omega) (by omega)), if_neg h2, show sp_sum t [] = t from rfl]
        by_cases h3 : t = 0
        · rw [if_pos h3, if_pos h3]
        · rw [if_neg h3, if_neg h3]
    · rw [if_neg (nI_ge (by omega) (by omega))]
      obtain ⟨g, hg, hdr⟩ := pu_dropc (l := dr) (i := j) (by omega)
      rw [pu_rd (by omega) (by decide), pu_bs, (hd j g hg).2, nI_1, ih (j + 1) _ (by omega) (by omega), hdr, sp_sum]
theorem pu_even {acc amt : Nat → Int32} {cnt : Int32} {dr : List sp_Leg} (h : sp_RD acc amt cnt dr) : fDr_isEven cnt amt = some (if dr.length < 2 then 0 else if sp_sum 0 dr = 0 then 1 else 0) := by
  have h4 := h.2.1
  unfold fDr_isEven
  have := pu_evenL h 600 0 0 (by omega) (by omega)
  rw [List.drop_zero] at this
  exact this
def sp_chg (a : Int32) : Int32 → List sp_Leg → Int32
  | t, [] => t
  | t, g :: r => sp_chg a (if g.1 = a then t + g.2 else t) r
theorem pu_chgL {acc amt : Nat → Int32} {cnt : Int32} {dr : List sp_Leg} (h : sp_RD acc amt cnt dr) (a : Int32) : ∀ (n j : Nat) (t : Int32), j ≤ dr.length → dr.length - j < n → fDr_change_L4 cnt acc amt a n t (nI j) = some (sp_chg a t (dr.drop j)) := by
  obtain ⟨rfl, h4, hd, -⟩ := h
  intro n
  induction n with
  | zero => intro j t h1 h2; omega
  | succ n ih =>
    intro j t h1 h2
    rw [fDr_change_L4]
    by_cases hj : j = dr.length
    · rw [if_pos (nI_le (by omega) (by omega)), hj, List.drop_length]; rfl
    · rw [if_neg (nI_ge (by omega) (by omega))]
      obtain ⟨g, hg, hdr⟩ := pu_dropc (l := dr) (i := j) (by omega)
      rw [pu_rd (by omega) (by decide), pu_bs, (hd j g hg).1, hdr, sp_chg]
      by_cases h3 : g.1 = a
      · rw [if_pos h3, if_pos h3, pu_rd (by omega) (by decide), pu_bs, (hd j g hg).2, nI_1, ih (j + 1) _ (by omega) (by omega)]
      · rw [if_neg h3, if_neg h3, nI_1, ih (j + 1) _ (by omega) (by omega)]
theorem pu_chg {acc amt : Nat → Int32} {cnt : Int32} {dr : List sp_Leg} (h : sp_RD acc amt cnt dr) (a : Int32) : fDr_change cnt acc amt a = some (sp_chg a 0 dr) := by
  have h4 := h.2.1
  unfold fDr_change
  have := pu_chgL h a 600 0 0 (by omega) (by omega)
  rw [List.drop_zero] at this
  exact this
theorem pu_accAt {acc amt : Nat → Int32} {cnt : Int32} {dr : List sp_Leg} (h : sp_RD acc amt cnt dr) {j : Nat} {g : sp_Leg} (hg : dr[j]? = some g) : fDr_accountAt cnt acc (nI j) = some g.1 := by
  obtain ⟨rfl, h4, hd, -⟩ := h
  have hj : j < dr.length := (List.getElem?_eq_some_iff.mp hg).1
  unfold fDr_accountAt
  rw [if_neg (nI_pos (by omega)), if_neg (nI_ge hj (by omega)), pu_rd (by omega) (by decide), pu_bs, (hd j g hg).1]
theorem pu_amtAt {acc amt : Nat → Int32} {cnt : Int32} {dr : List sp_Leg} (h : sp_RD acc amt cnt dr) {j : Nat} {g : sp_Leg} (hg : dr[j]? = some g) : fDr_amountAt cnt amt (nI j) = some g.2 := by
  obtain ⟨rfl, h4, hd, -⟩ := h
  have hj : j < dr.length := (List.getElem?_eq_some_iff.mp hg).1
  unfold fDr_amountAt
  rw [if_neg (nI_pos (by omega)), if_neg (nI_ge hj (by omega)), pu_rd (by omega) (by decide), pu_bs, (hd j g hg).2]
def sp_poor (lim : Nat → Int32) (es : List sp_Ent) (dr : List sp_Leg) : List sp_Leg → Int32
  | [] => 0
  | g :: r => if -(lim g.1.toNatClampNeg) ≤ sp_tot g.1 1 0 es + sp_chg g.1 0 dr then sp_poor lim es dr r else 1
theorem sp_row_all (es : List sp_Ent) (h : es.length < 2 ^ 31) : sp_row es 0 (nI es.length) = es := by
  unfold sp_row
  have h1 : hw_min (nI es.length) (nI es.length) = nI es.length := by unfold hw_min; rw [if_neg (nI_nlt (by omega) h)]
  have h2 : hw_max 0 0 = 0 := rfl
  rw [h1, nI_clamp h, h2, List.take_length]; rfl
theorem pu_poorL {lim c st lv acc amt : Nat → Int32} {es : List sp_Ent} {dr : List sp_Leg} {syn : Nat} {ct en sc se cnt : Int32} (h : sp_RL c st lv ct en sc se es syn) (hd : sp_RD acc amt cnt dr) : ∀ (n j : Nat), j ≤ dr.length → dr.length - j < n → fSl_isPoor_L2 lim cnt acc amt ct c st n (nI j) = some (sp_poor lim es dr (dr.drop j)) := by
  have h4 := hd.2.1
  have hct := h.2.2.2.1
  have h73 := sp_len es h.1
  have hz := h.2.1
  intro n
  induction n with
  | zero => intro j h1 h2; omega
  | succ n ih =>
    intro j h1 h2
    rw [fSl_isPoor_L2, show fDr_size cnt = some cnt from rfl, pu_bs, hd.1]
    by_cases hj : j = dr.length
    · rw [if_pos (nI_le (by omega) (by omega)), hj, List.drop_length]; rfl
    · rw [if_neg (nI_ge (by omega) (by omega)), ← hd.1]
      obtain ⟨g, hg, hdr⟩ := pu_dropc (l := dr) (i := j) (by omega)
      have hm : g ∈ dr := List.mem_of_getElem? hg
      obtain ⟨k, hk, ek⟩ := sp_acc_nI (hd.2.2.2 g hm).1
      have hrd : hw_rd 8 lim g.1 = some (lim g.1.toNatClampNeg) := by rw [ek, pu_rd hk (by decide), nI_clamp (by omega)]
      rw [pu_accAt hd hg, pu_bs, show fLg_size ct = some ct from rfl, pu_bs, pu_total h, pu_bs, pu_chg hd, pu_bs, hrd, pu_bs, hct, sp_row_all es (by omega), hdr, sp_poor, ← hct, nI_1]
      by_cases h3 : -(lim g.1.toNatClampNeg) ≤ sp_tot g.1 1 0 es + sp_chg g.1 0 dr
      · rw [if_pos h3, if_pos h3, ih (j + 1) (by omega) (by omega)]
      · rw [if_neg h3, if_neg h3]
theorem pu_poor {lim c st lv acc amt : Nat → Int32} {es : List sp_Ent} {dr : List sp_Leg} {syn : Nat} {ct en sc se cnt : Int32} (h : sp_RL c st lv ct en sc se es syn) (hd : sp_RD acc amt cnt dr) : fSl_isPoor lim cnt acc amt ct c st = some (sp_poor lim es dr dr) := by
  have h4 := hd.2.1
  unfold fSl_isPoor
  have := pu_poorL (lim := lim) h hd 600 0 (by omega) (by omega)
  rw [List.drop_zero] at this
  exact this
theorem pu_legsL {c st acc amt : Nat → Int32} {e : sp_Ent} {dr : List sp_Leg} {s0 : Nat} {ct cnt : Int32} (hA : sp_At c s0 e) (hs : s0 + sp_sz e ≤ 512) (hd : sp_RD acc amt cnt dr) (hlen : e.2.length = dr.length) : ∀ (n j : Nat), j ≤ dr.length → dr.length - j < n → fLg_hasLegsOf_L42 ct c st cnt acc amt (nI s0) n (nI j) = some (if e.2.drop j = dr.drop j then 1 else 0) := by
  unfold sp_sz at hs
  have h4 := hd.2.1
  intro n
  induction n with
  | zero => intro j h1 h2; omega
  | succ n ih =>
    intro j h1 h2
    rw [fLg_hasLegsOf_L42, show fDr_size cnt = some cnt from rfl, pu_bs, hd.1]
    by_cases hj : j = dr.length
    · rw [if_pos (nI_le (by omega) (by omega)), List.drop_eq_nil_of_le (by omega), List.drop_eq_nil_of_le (by omega), if_pos rfl]
    · rw [if_neg (nI_ge (by omega) (by omega)), ← hd.1]
      obtain ⟨g, hg, hdr⟩ := pu_dropc (l := dr) (i := j) (by omega)
      obtain ⟨f, hf, hfr⟩ := pu_dropc (l := e.2) (i := j) (by omega)
      rw [pu_acell, pu_bs, pu_rd (by omega) (by decide), pu_bs, pu_accAt hd hg, pu_bs, (hA.2.2 j f hf).1, hdr, hfr]
      by_cases h3 : f.1 = g.1
      · rw [if_pos h3, pu_mcell, pu_bs, pu_rd (by omega) (by decide), pu_bs, pu_amtAt hd hg, pu_bs, (hA.2.2 j f hf).2]
        by_cases h5 : f.2 = g.2
        · rw [if_pos h5, nI_1, ih (j + 1) (by omega) (by omega)]
          have hfg : f = g := Prod.ext h3 h5
          subst hfg
          by_cases h6 : e.2.drop (j + 1) = dr.drop (j + 1)
          · rw [if_pos h6, if_pos (by rw [h6])]
          · rw [if_neg h6, if_neg (fun q => h6 (List.cons.inj q).2)]
        · rw [if_neg h5, if_neg (fun q => h5 (by rw [(List.cons.inj q).1]))]
      · rw [if_neg h3, if_neg (fun q => h3 (by rw [(List.cons.inj q).1]))]
theorem pu_legs {c st lv acc amt : Nat → Int32} {es : List sp_Ent} {dr : List sp_Leg} {syn i : Nat} {ct en sc se cnt : Int32} {e : sp_Ent} (h : sp_RL c st lv ct en sc se es syn) (hd : sp_RD acc amt cnt dr) (he : es[i]? = some e) : fLg_hasLegsOf ct c st cnt acc amt (nI i) = some (if e.2 = dr then 1 else 0) := by
  have h4 := hd.2.1
  have hct := h.2.2.2.1
  have h73 := sp_len es h.1
  have hz := h.2.1
  have hi : i < es.length := (List.getElem?_eq_some_iff.mp he).1
  obtain ⟨hA, hA2⟩ := pu_AtI h.2.2.2.2.2.2.2.1 hz he
  have hst := h.2.2.2.2.2.2.2.2.1 i hi
  have hA3 := hA2
  unfold sp_sz at hA3
  have hel := (h.1 e (List.mem_of_getElem? he)).2.1
  unfold fLg_hasLegsOf
  rw [if_neg (nI_pos (by omega)), hct, if_neg (nI_ge hi (by omega)), ← hct, pu_rd (by omega) (by decide), pu_bs, hst, pu_rd (by omega) (by decide), pu_bs, show fDr_size cnt = some cnt from rfl, pu_bs, hA.1]
  by_cases h3 : e.2.length = dr.length
  · rw [hd.1, if_pos (by rw [h3]), ← hd.1, pu_bs]
    have := pu_legsL (st := st) (ct := ct) hA hA2 hd h3 600 0 (by omega) (by omega)
    rw [List.drop_zero, List.drop_zero] at this
    exact this
  · rw [hd.1, if_neg (by rw [nI_eq (by omega) (by omega)]; exact h3), if_neg (fun q => h3 (by rw [q]))]
end
section
theorem pu_seal {c : Nat → Int32} {es : List sp_Ent} (hc : ∀ k, k < sp_szs es → c k = sp_img es k) (hz : sp_szs es ≤ 512) : fLg_lastSeal (nI (sp_szs es)) c = some (sp_seal 0 es) := by
  unfold fLg_lastSeal
  rcases pu_snoc es with rfl | ⟨a, e, rfl⟩
  · rw [if_pos (by decide)]; rfl
  · have h1 : sp_szs (a ++ [e]) = sp_szs a + sp_sz e := by rw [sp_szs_app]; simp [sp_szs]
    have h2 : 0 < sp_szs (a ++ [e]) := by rw [h1]; unfold sp_sz; omega
    rw [if_neg (nI_nle h2 (by omega)), pu_n1, pk_sub (by omega), pu_rd (by omega) (by decide), pu_bs, hc _ (by omega)]
    have h3 : sp_szs (a ++ [e]) - 1 = sp_szs a + (2 + 2 * e.2.length) := by rw [h1]; unfold sp_sz; omega
    rw [h3, sp_img_seal, sp_seal_app]; rfl
theorem pu_AtEnc {c : Nat → Int32} {st : Nat} {e : sp_Ent} {s : Int32} (hA : sp_At c st e) (hs : c (st + (2 + 2 * e.2.length)) = sp_mix s (sp_leaf e)) : ∀ t, t < sp_sz e → c (st + t) = (sp_encE s e)[t]?.getD 0 := by
  intro t ht
  unfold sp_sz at ht
  by_cases h0 : t = 0
  · subst h0; rw [Nat.add_zero, hA.1]; rfl
  by_cases h1 : t = 1
  · subst h1; rw [hA.2.1]; rfl
  by_cases h2 : t = 2 + 2 * e.2.length
  · subst h2; rw [hs, sp_encE_seal]; rfl
  · have hj : (t - 2) / 2 < e.2.length := by omega
    obtain ⟨g, hg, -⟩ := pu_dropc (l := e.2) (i := (t - 2) / 2) hj
    obtain ⟨e1, e2⟩ := sp_encE_leg s e _ g hg
    obtain ⟨a1, a2⟩ := hA.2.2 _ g hg
    by_cases h3 : t = 2 + 2 * ((t - 2) / 2)
    · rw [← h3] at e1
      rw [e1]
      rw [show st + t = st + 2 + 2 * ((t - 2) / 2) by omega, a1]; rfl
    · have h4 : t = 3 + 2 * ((t - 2) / 2) := by omega
      rw [← h4] at e2
      rw [e2]
      rw [show st + t = st + 3 + 2 * ((t - 2) / 2) by omega, a2]; rfl
theorem sp_img_snoc (es : List sp_Ent) (e : sp_Ent) (k : Nat) : sp_img (es ++ [e]) k = if k < sp_szs es then sp_img es k else (sp_encE (sp_seal 0 es) e)[k - sp_szs es]?.getD 0 := by
  unfold sp_img
  rw [sp_enc_app]
  by_cases h : k < sp_szs es
  · rw [if_pos h, List.getElem?_append_left (by rw [sp_enc_len]; exact h)]
  · rw [if_neg h, List.getElem?_append_right (by rw [sp_enc_len]; omega), sp_enc_len]
    simp only [sp_enc, List.append_nil]
theorem pu_imgSnoc {c : Nat → Int32} {es : List sp_Ent} {e : sp_Ent} (hc : ∀ k, k < sp_szs es → c k = sp_img es k) (hA : sp_At c (sp_szs es) e) (hs : c (sp_szs es + (2 + 2 * e.2.length)) = sp_mix (sp_seal 0 es) (sp_leaf e)) : ∀ k, k < sp_szs es + sp_sz e → c k = sp_img (es ++ [e]) k := by
  intro k hk
  rw [sp_img_snoc]
  by_cases h : k < sp_szs es
  · rw [if_pos h]; exact hc k h
  · rw [if_neg h]
    have := pu_AtEnc hA hs (k - sp_szs es) (by omega)
    rw [show sp_szs es + (k - sp_szs es) = k by omega] at this
    exact this
theorem pu_okSnoc {es : List sp_Ent} {e : sp_Ent} (h : sp_ok es) (he : sp_okE e) : sp_ok (es ++ [e]) := by
  intro x hx
  rcases List.mem_append.mp hx with hx | hx
  · exact h x hx
  · rw [List.mem_singleton] at hx; rw [hx]; exact he
theorem pu_accept {c st lv : Nat → Int32} {es : List sp_Ent} {e : sp_Ent} (hA : sp_At c (sp_szs es) e) (hz : sp_szs es + sp_sz e ≤ 512) (hok : sp_ok es) (he : sp_okE e) : fLg_acceptNext (nI es.length) (nI (sp_szs es)) c st lv = some (nI (es.length + 1), nI (sp_szs es + sp_sz e), upd st es.length (nI (sp_szs es)), upd lv es.length (sp_leaf e)) := by
  have h73 := sp_len es hok
  have hz2 := hz
  unfold sp_sz at hz2
  have h2 := he.1
  unfold fLg_acceptNext
  rw [pu_wr (by omega) (by decide), pu_bs, pu_leaf hA hz he.2.1, pu_bs, pu_wr (by omega) (by decide), pu_bs, pu_rd (by omega) (by decide), pu_bs, hA.1, pu_ec, pu_bs, nI_1, nI_add]
  rfl
theorem pu_takeS (es : List sp_Ent) (e : sp_Ent) (i : Nat) (h : i ≤ es.length) : (es ++ [e]).take i = es.take i := by
  rw [List.take_append_of_le_length h]
theorem pu_RLsnoc {c st lv : Nat → Int32} {es : List sp_Ent} {e : sp_Ent} {syn : Nat} (hok : sp_ok es) (he : sp_okE e) (hz : sp_szs es + sp_sz e ≤ 512) (hsy : syn ≤ es.length) (hc : ∀ k, k < 512 → c k = sp_img (es ++ [e]) k) (hst : ∀ i, i < es.length → st i = nI (sp_szs (es.take i))) (hlf : ∀ i x, es[i]? = some x → lv i = sp_leaf x) :
    sp_RL c (upd st es.length (nI (sp_szs es))) (upd lv es.length (sp_leaf e)) (nI (es.length + 1)) (nI (sp_szs es + sp_sz e)) (nI syn) (nI (sp_szs (es.take syn))) (es ++ [e]) syn := by
  have h1 : sp_szs (es ++ [e]) = sp_szs es + sp_sz e := by rw [sp_szs_app]; simp [sp_szs]
  refine ⟨pu_okSnoc hok he, by rw [h1]; exact hz, by rw [List.length_append]; omega, by rw [List.length_append]; rfl, by rw [h1], rfl, by rw [pu_takeS _ _ _ hsy], hc, fun i hi => ?_, fun i x hx => ?_⟩
  · rw [List.length_append, List.length_singleton] at hi
    by_cases h2 : i = es.length
    · rw [h2, pu_us, List.take_append_of_le_length (by omega), List.take_length]
    · rw [pu_un h2, pu_takeS _ _ _ (by omega)]; exact hst i (by omega)
  · by_cases h2 : i = es.length
    · rw [h2, List.getElem?_append_right (by omega), Nat.sub_self] at hx
      simp only [List.getElem?_cons_zero, Option.some.injEq] at hx
      rw [h2, pu_us, hx]
    · have hi : i < (es ++ [e]).length := (List.getElem?_eq_some_iff.mp hx).1
      rw [List.length_append, List.length_singleton] at hi
      rw [List.getElem?_append_left (by omega)] at hx
      rw [pu_un h2]; exact hlf i x hx
def sp_wl : (Nat → Int32) → Nat → List sp_Leg → (Nat → Int32)
  | c, _, [] => c
  | c, p, g :: r => sp_wl (upd (upd c p g.1) (p + 1) g.2) (p + 2) r
theorem sp_wl_lo (l : List sp_Leg) : ∀ (c : Nat → Int32) (p k : Nat), k < p ∨ p + 2 * l.length ≤ k → sp_wl c p l k = c k := by
  induction l with
  | nil => intro c p k _; rfl
  | cons g r ih =>
    intro c p k h
    simp only [List.length_cons] at h
    rw [sp_wl, ih _ _ _ (by omega), pu_un (by omega), pu_un (by omega)]
theorem sp_wl_at (l : List sp_Leg) : ∀ (c : Nat → Int32) (p j : Nat) (g : sp_Leg), l[j]? = some g → sp_wl c p l (p + 2 * j) = g.1 ∧ sp_wl c p l (p + 1 + 2 * j) = g.2 := by
  induction l with
  | nil => intro c p j g h; simp at h
  | cons a r ih =>
    intro c p j g h
    cases j with
    | zero =>
      simp only [List.getElem?_cons_zero, Option.some.injEq] at h
      subst h
      rw [sp_wl, sp_wl_lo r _ _ _ (by omega), sp_wl_lo r _ _ _ (by omega)]
      refine ⟨?_, ?_⟩
      · rw [pu_un (by omega)]; simp [upd]
      · simp [upd]
    | succ j =>
      simp only [List.getElem?_cons_succ] at h
      obtain ⟨h1, h2⟩ := ih (upd (upd c p a.1) (p + 1) a.2) (p + 2) j g h
      rw [sp_wl]
      rw [show p + 2 * (j + 1) = p + 2 + 2 * j by omega, show p + 1 + 2 * (j + 1) = p + 2 + 1 + 2 * j by omega]
      exact ⟨h1, h2⟩
theorem pu_appL {acc amt st lv : Nat → Int32} {cnt : Int32} {dr : List sp_Leg} {es : List sp_Ent} {key : Int32} (hd : sp_RD acc amt cnt dr) (hok : sp_ok es) (he : sp_okE (key, dr)) (hz : sp_szs es + sp_sz (key, dr) ≤ 512) : ∀ (n j : Nat) (c : Nat → Int32), j ≤ dr.length → dr.length - j < n → (∀ k, k < sp_szs es → c k = sp_img es k) → c (sp_szs es) = nI dr.length → c (sp_szs es + 1) = key → (∀ i g, i < j → dr[i]? = some g → c (sp_szs es + 2 + 2 * i) = g.1 ∧ c (sp_szs es + 3 + 2 * i) = g.2) →
    fLg_append_L56 cnt acc amt (nI dr.length) n (nI j) (nI es.length) (nI (sp_szs es)) c st lv = some (1, nI (es.length + 1), nI (sp_szs es + sp_sz (key, dr)), upd (sp_wl c (sp_szs es + 2 + 2 * j) (dr.drop j)) (sp_szs es + (2 + 2 * dr.length)) (sp_mix (sp_seal 0 es) (sp_leaf (key, dr))), upd st es.length (nI (sp_szs es)), upd lv es.length (sp_leaf (key, dr))) := by
  have h4 := hd.2.1
  have hz2 : sp_szs es + (3 + 2 * dr.length) ≤ 512 := hz
  intro n
  induction n with
  | zero => intro j c h1 h2; omega
  | succ n ih =>
    intro j c h1 h2 hc c0 c1 hl
    rw [fLg_append_L56]
    by_cases hj : j = dr.length
    · rw [if_pos (nI_le (by omega) (by omega))]
      have hA : sp_At c (sp_szs es) (key, dr) := ⟨c0, c1, fun i g hg => hl i g (by have hi : i < dr.length := (List.getElem?_eq_some_iff.mp hg).1; omega) hg⟩
      rw [pu_scell (e := (key, dr)) c0 hz, pu_bs, pu_seal hc (by omega), pu_bs, pu_leaf hA hz h4, pu_bs, pu_mix, pu_bs, pu_wr (by show sp_szs es + (2 + 2 * dr.length) < 512; omega) (by decide), pu_bs]
      have hA2 : sp_At (upd c (sp_szs es + (2 + 2 * dr.length)) (sp_mix (sp_seal 0 es) (sp_leaf (key, dr)))) (sp_szs es) (key, dr) := by
        refine ⟨?_, ?_, fun i g hg => ?_⟩
        · rw [pu_un (by omega)]; exact c0
        · rw [pu_un (by omega)]; exact c1
        · have hi := (List.getElem?_eq_some_iff.mp hg).1
          have hi2 : i < dr.length := hi
          rw [pu_un (by omega), pu_un (by omega)]; exact hA.2.2 i g hg
      rw [pu_accept hA2 hz hok he, pu_bs, hj, List.drop_length]
      rfl
    · rw [if_neg (nI_ge (by omega) (by omega))]
      obtain ⟨g, hg, hdr⟩ := pu_dropc (l := dr) (i := j) (by omega)
      rw [pu_acell, pu_bs, pu_accAt hd hg, pu_bs, pu_wr (by omega) (by decide), pu_bs, pu_mcell, pu_bs, pu_amtAt hd hg, pu_bs, pu_wr (by omega) (by decide), pu_bs, nI_1]
      rw [ih (j + 1) _ (by omega) (by omega) ?_ ?_ ?_ ?_, hdr, sp_wl]
      · rw [show sp_szs es + 2 + 2 * j + 1 = sp_szs es + 3 + 2 * j by omega, show sp_szs es + 2 + 2 * j + 2 = sp_szs es + 2 + 2 * (j + 1) by omega]
      · intro k hk; rw [pu_un (by omega), pu_un (by omega)]; exact hc k hk
      · rw [pu_un (by omega), pu_un (by omega)]; exact c0
      · rw [pu_un (by omega), pu_un (by omega)]; exact c1
      · intro i x hi hx
        by_cases hij : i = j
        · subst hij
          rw [hg] at hx
          cases hx
          refine ⟨?_, ?_⟩
          · rw [pu_un (by omega)]; simp [upd]
          · simp [upd]
        · rw [pu_un (by omega), pu_un (by omega), pu_un (by omega), pu_un (by omega)]; exact hl i x (by omega) hx
theorem pu_append {c st lv acc amt : Nat → Int32} {es : List sp_Ent} {dr : List sp_Leg} {syn : Nat} {ct en sc se cnt key : Int32} (h : sp_RL c st lv ct en sc se es syn) (hd : sp_RD acc amt cnt dr) (h2 : 2 ≤ dr.length) (hs : sp_sum 0 dr = 0) (hz : sp_szs es + (3 + 2 * dr.length) ≤ 512) : ∃ ct' en' c' st' lv', fLg_append ct en c st lv cnt acc amt key = some (1, ct', en', c', st', lv') ∧ ct' = nI (es.length + 1) ∧ sp_RL c' st' lv' ct' en' sc se (es ++ [(key, dr)]) syn := by
  obtain ⟨hok, hz0, hsy, rfl, rfl, rfl, rfl, hc, hst, hlf⟩ := h
  have h4 := hd.2.1
  have h73 := sp_len es hok
  have he : sp_okE (key, dr) := ⟨h2, h4, hd.2.2.2, hs⟩
  have hL := pu_appL (st := st) (lv := lv) hd hok he hz 600 0 (upd (upd c (sp_szs es) (nI dr.length)) (sp_szs es + 1) key) (by omega) (by omega) (fun k hk => by rw [pu_un (by omega), pu_un (by omega)]; exact hc k (by omega)) (by rw [pu_un (by omega)]; simp [upd]) (by simp [upd]) (fun i g hi _ => by omega)
  have heq : fLg_append (nI es.length) (nI (sp_szs es)) c st lv cnt acc amt key = some (1, nI (es.length + 1), nI (sp_szs es + sp_sz (key, dr)), upd (sp_wl (upd (upd c (sp_szs es) (nI dr.length)) (sp_szs es + 1) key) (sp_szs es + 2 + 2 * 0) (dr.drop 0)) (sp_szs es + (2 + 2 * dr.length)) (sp_mix (sp_seal 0 es) (sp_leaf (key, dr))), upd st es.length (nI (sp_szs es)), upd lv es.length (sp_leaf (key, dr))) := by
    rw [← hL]
    unfold fLg_append
    rw [show fDr_size cnt = some cnt from rfl, pu_bs, if_neg (show ¬ (73 : Int32) ≤ nI es.length from nI_ge (b := 73) (by omega) (by decide)), hd.1, pu_ec, pu_bs, nI_add, if_pos (show nI (sp_szs es + (3 + 2 * dr.length)) ≤ 512 from nI_le (b := 512) hz (by decide)), pu_wr (by omega) (by decide), pu_bs, nI_1, pu_wr (by omega) (by decide), pu_bs]
    rfl
  have hz3 : sp_sz (key, dr) = 3 + 2 * dr.length := rfl
  have hA : sp_At (upd (sp_wl (upd (upd c (sp_szs es) (nI dr.length)) (sp_szs es + 1) key) (sp_szs es + 2 + 2 * 0) (dr.drop 0)) (sp_szs es + (2 + 2 * dr.length)) (sp_mix (sp_seal 0 es) (sp_leaf (key, dr)))) (sp_szs es) (key, dr) := by
    refine ⟨?_, ?_, fun i g hg => ?_⟩
    · rw [pu_un (by omega), sp_wl_lo _ _ _ _ (by omega), pu_un (by omega)]; simp [upd]
    · rw [pu_un (by omega), sp_wl_lo _ _ _ _ (by omega)]; simp [upd]
    · have hi2 : i < dr.length := (List.getElem?_eq_some_iff.mp hg).1
      obtain ⟨a1, a2⟩ := sp_wl_at (dr.drop 0) (upd (upd c (sp_szs es) (nI dr.length)) (sp_szs es + 1) key) (sp_szs es + 2 + 2 * 0) i g hg
      rw [pu_un (by omega), pu_un (by omega)]
      exact ⟨a1, by rw [show sp_szs es + 3 + 2 * i = sp_szs es + 2 + 2 * 0 + 1 + 2 * i by omega]; exact a2⟩
  have hs2 : upd (sp_wl (upd (upd c (sp_szs es) (nI dr.length)) (sp_szs es + 1) key) (sp_szs es + 2 + 2 * 0) (dr.drop 0)) (sp_szs es + (2 + 2 * dr.length)) (sp_mix (sp_seal 0 es) (sp_leaf (key, dr))) (sp_szs es + (2 + 2 * dr.length)) = sp_mix (sp_seal 0 es) (sp_leaf (key, dr)) := pu_us
  refine ⟨_, _, _, _, _, heq, rfl, pu_RLsnoc hok he hz hsy (fun k hk => ?_) hst hlf⟩
  by_cases hk2 : k < sp_szs es + sp_sz (key, dr)
  · refine pu_imgSnoc (fun q hq => ?_) hA hs2 k hk2
    rw [pu_un (by omega), sp_wl_lo _ _ _ _ (by omega), pu_un (by omega), pu_un (by omega)]; exact hc q (by omega)
  · rw [pu_un (by omega), sp_wl_lo _ _ _ _ (by rw [List.drop_zero]; omega), pu_un (by omega), pu_un (by omega), hc k hk, sp_img_out es k (by omega), sp_img_out _ k (by rw [sp_szs_app]; simp only [sp_szs]; omega)]
theorem pu_append0 {c st lv acc amt : Nat → Int32} {es : List sp_Ent} {dr : List sp_Leg} {syn : Nat} {ct en sc se cnt key : Int32} (h : sp_RL c st lv ct en sc se es syn) (hd : sp_RD acc amt cnt dr) (hz : ¬ sp_szs es + (3 + 2 * dr.length) ≤ 512) : fLg_append ct en c st lv cnt acc amt key = some (0, ct, en, c, st, lv) := by
  obtain ⟨hok, hz0, hsy, rfl, rfl, rfl, rfl, hc, hst, hlf⟩ := h
  have h4 := hd.2.1
  have h73 := sp_len es hok
  unfold fLg_append
  rw [show fDr_size cnt = some cnt from rfl, pu_bs]
  by_cases h3 : (73 : Int32) ≤ nI es.length
  · rw [if_pos h3]
  · rw [if_neg h3, hd.1, pu_ec, pu_bs, nI_add, if_neg (show ¬ nI (sp_szs es + (3 + 2 * dr.length)) ≤ 512 from nI_ge (a := 512) (by omega) (by omega))]
end
section
def sp_clr (k : Nat) (c : Nat → Int32) : Nat → Int32 := fun i => if k ≤ i ∧ i < 512 then 0 else c i
def sp_cpy (k : Nat) (d c : Nat → Int32) : Nat → Int32 := fun i => if k ≤ i ∧ i < 512 then d i else c i
theorem sp_clr_end (c : Nat → Int32) : sp_clr 512 c = c := by
  funext i; unfold sp_clr; rw [if_neg (by omega)]
theorem sp_cpy_end (d c : Nat → Int32) : sp_cpy 512 d c = c := by
  funext i; unfold sp_cpy; rw [if_neg (by omega)]
theorem sp_clr_step (k : Nat) (c : Nat → Int32) (h : k < 512) : sp_clr (k + 1) (upd c k 0) = sp_clr k c := by
  funext i; unfold sp_clr upd
  by_cases h1 : i = k
  · rw [if_neg (by omega), if_pos h1, if_pos (by omega)]
  · by_cases h2 : k + 1 ≤ i ∧ i < 512
    · rw [if_pos h2, if_pos (by omega)]
    · rw [if_neg h2, if_neg h1, if_neg (by omega)]
theorem sp_cpy_step (k : Nat) (d c : Nat → Int32) (h : k < 512) : sp_cpy (k + 1) d (upd c k (d k)) = sp_cpy k d c := by
  funext i; unfold sp_cpy upd
  by_cases h1 : i = k
  · rw [if_neg (by omega), if_pos h1, if_pos (by omega), h1]
  · by_cases h2 : k + 1 ≤ i ∧ i < 512
    · rw [if_pos h2, if_pos (by omega)]
    · rw [if_neg h2, if_neg h1, if_neg (by omega)]
theorem pu_clrL (en : Int32) : ∀ (n k : Nat) (c : Nat → Int32), k ≤ 512 → 512 - k < n → fLg_clearBehindEnd_L5 en n (nI k) c = some (sp_clr k c) := by
  intro n
  induction n with
  | zero => intro k c h1 h2; omega
  | succ n ih =>
    intro k c h1 h2
    rw [fLg_clearBehindEnd_L5]
    by_cases hk : k = 512
    · rw [if_pos (show (512 : Int32) ≤ nI k from nI_le (a := 512) (by omega) (by omega)), hk, sp_clr_end]
    · rw [if_neg (show ¬ (512 : Int32) ≤ nI k from nI_ge (b := 512) (by omega) (by decide)), pu_wr (by omega) (by decide), pu_bs, nI_1, ih (k + 1) _ (by omega) (by omega), sp_clr_step k c (by omega)]
theorem pu_clrE (k : Nat) (c : Nat → Int32) (h : k ≤ 512) : fLg_clearBehindEnd (nI k) c = some (sp_clr k c) := by
  unfold fLg_clearBehindEnd
  exact pu_clrL _ 600 k c h (by omega)
theorem pu_clear (ct en sc se : Int32) (c : Nat → Int32) : fLg_clear ct en sc se c = some (0, 0, 0, 0, sp_clr 0 c) := by
  unfold fLg_clear
  rw [show fLg_markSynced 0 0 sc se = some (0, 0) from rfl, pu_bs]
  have := pu_clrE 0 c (by omega)
  rw [← pu_n0] at this
  rw [this]
  rfl
theorem pu_RL0 (c st lv : Nat → Int32) : sp_RL (sp_clr 0 c) st lv 0 0 0 0 [] 0 := by
  refine ⟨fun e he => (by cases he), by simp [sp_szs], by simp, rfl, rfl, rfl, rfl, fun k hk => ?_, fun i hi => (by cases hi), fun i e he => (by simp at he)⟩
  rw [sp_img_out [] k (by simp [sp_szs])]
  unfold sp_clr; rw [if_pos (by omega)]
def sp_rdL (c : Nat → Int32) : Nat → Nat → List sp_Leg
  | _, 0 => []
  | p, n + 1 => (c p, c (p + 1)) :: sp_rdL c (p + 2) n
def sp_rdE (c : Nat → Int32) (st : Nat) : sp_Ent := (c (st + 1), sp_rdL c (st + 2) (c st).toNatClampNeg)
theorem sp_rdL_len (c : Nat → Int32) : ∀ (n p : Nat), (sp_rdL c p n).length = n := by
  intro n
  induction n with
  | zero => intro p; rfl
  | succ n ih => intro p; rw [sp_rdL, List.length_cons, ih]
theorem sp_rdL_at (c : Nat → Int32) : ∀ (n p j : Nat), j < n → (sp_rdL c p n)[j]? = some (c (p + 2 * j), c (p + 1 + 2 * j)) := by
  intro n
  induction n with
  | zero => intro p j h; omega
  | succ n ih =>
    intro p j h
    cases j with
    | zero => rw [sp_rdL, List.getElem?_cons_zero]; rfl
    | succ j =>
      rw [sp_rdL, List.getElem?_cons_succ, ih (p + 2) j (by omega), show p + 2 + 2 * j = p + 2 * (j + 1) by omega, show p + 2 + 1 + 2 * j = p + 1 + 2 * (j + 1) by omega]
theorem sp_rdE_At (c : Nat → Int32) (st : Nat) (h : ¬ c st < 0) : sp_At c st (sp_rdE c st) := by
  obtain ⟨j, hj, ej⟩ := nI_of h
  refine ⟨?_, rfl, fun i g hg => ?_⟩
  · show c st = nI (sp_rdL c (st + 2) (c st).toNatClampNeg).length
    rw [sp_rdL_len, ej, nI_clamp hj]
  · have hi : i < (sp_rdL c (st + 2) (c st).toNatClampNeg).length := (List.getElem?_eq_some_iff.mp hg).1
    rw [sp_rdL_len] at hi
    have h1 := sp_rdL_at c _ (st + 2) i hi
    have h2 : (sp_rdL c (st + 2) (c st).toNatClampNeg)[i]? = some g := hg
    rw [h2] at h1
    cases h1
    exact ⟨rfl, by rw [show st + 3 + 2 * i = st + 2 + 1 + 2 * i by omega]⟩
def sp_snd : Int32 → List sp_Leg → Int32
  | t, [] => if t = 0 then 1 else 0
  | t, g :: r => if g.1 < 0 then 0 else if (8 : Int32) ≤ g.1 then 0 else if g.2 < (-9999 : Int32) then 0 else if (9999 : Int32) < g.2 then 0 else sp_snd (t + g.2) r
theorem pu_sndL {c : Nat → Int32} {st : Nat} {e : sp_Ent} (hA : sp_At c st e) (hs : st + sp_sz e ≤ 512) : ∀ (n j : Nat) (t : Int32), j ≤ e.2.length → e.2.length - j < n → fLg_nextLegsAreSound_L4 (nI st) c n t (nI j) = some (sp_snd t (e.2.drop j)) := by
  unfold sp_sz at hs
  intro n
  induction n with
  | zero => intro j h h1 h2; omega
  | succ n ih =>
    intro j t h1 h2
    rw [fLg_nextLegsAreSound_L4, pu_rd (by omega) (by decide), pu_bs, hA.1]
    by_cases hj : j = e.2.length
    · rw [if_pos (nI_le (by omega) (by omega)), hj, List.drop_length, sp_snd]
      by_cases h3 : t = 0
      · rw [if_pos h3, if_pos h3]
      · rw [if_neg h3, if_neg h3]
    · rw [if_neg (nI_ge (by omega) (by omega))]
      obtain ⟨g, hg, hd⟩ := pu_dropc (l := e.2) (i := j) (by omega)
      rw [pu_mcell, pu_bs, pu_rd (by omega) (by decide), pu_bs, pu_acell, pu_bs, pu_rd (by omega) (by decide), pu_bs, (hA.2.2 j g hg).1, (hA.2.2 j g hg).2, hd, sp_snd]
      by_cases h3 : g.1 < 0
      · rw [pu_acc0 _ (fun q => q.1 h3), pu_bs, if_pos rfl, if_pos h3]
      · rw [if_neg h3]
        by_cases h4 : (8 : Int32) ≤ g.1
        · rw [pu_acc0 _ (fun q => q.2 h4), pu_bs, if_pos rfl, if_pos h4]
        · rw [pu_acc _ ⟨h3, h4⟩, pu_bs, if_neg (by decide), if_neg h4]
          by_cases h5 : g.2 < (-9999 : Int32)
          · rw [pu_amt0 _ (fun q => q.1 h5), pu_bs, if_pos rfl, if_pos h5]
          · rw [if_neg h5]
            by_cases h6 : (9999 : Int32) < g.2
            · rw [pu_amt0 _ (fun q => q.2 h6), pu_bs, if_pos rfl, if_pos h6]
            · rw [pu_amt _ ⟨h5, h6⟩, pu_bs, if_neg (by decide), if_neg h6, nI_1, ih (j + 1) _ (by omega) (by omega)]
theorem sp_snd_spec : ∀ (l : List sp_Leg) (t : Int32), sp_snd t l ≠ 0 → (∀ g ∈ l, sp_acc g.1 ∧ sp_amt g.2) ∧ sp_sum t l = 0 := by
  intro l
  induction l with
  | nil =>
    intro t h
    rw [sp_snd] at h
    by_cases h3 : t = 0
    · exact ⟨fun g hg => (by cases hg), h3⟩
    · rw [if_neg h3] at h; exact absurd rfl h
  | cons g r ih =>
    intro t h
    rw [sp_snd] at h
    by_cases h3 : g.1 < 0
    · rw [if_pos h3] at h; exact absurd rfl h
    rw [if_neg h3] at h
    by_cases h4 : (8 : Int32) ≤ g.1
    · rw [if_pos h4] at h; exact absurd rfl h
    rw [if_neg h4] at h
    by_cases h5 : g.2 < (-9999 : Int32)
    · rw [if_pos h5] at h; exact absurd rfl h
    rw [if_neg h5] at h
    by_cases h6 : (9999 : Int32) < g.2
    · rw [if_pos h6] at h; exact absurd rfl h
    rw [if_neg h6] at h
    obtain ⟨a1, a2⟩ := ih _ h
    refine ⟨fun x hx => ?_, a2⟩
    rcases List.mem_cons.mp hx with rfl | hx
    · exact ⟨⟨h3, h4⟩, ⟨h5, h6⟩⟩
    · exact a1 x hx
def sp_chk (c : Nat → Int32) (st : Nat) (s : Int32) : Int32 :=
  if 512 ≤ st then 0 else if c st < 2 then 0 else if (4 : Int32) < c st then 0 else if 512 < st + sp_sz (sp_rdE c st) then 0 else if sp_snd 0 (sp_rdE c st).2 = 0 then 0 else if c (st + (2 + 2 * (sp_rdE c st).2.length)) = sp_mix s (sp_leaf (sp_rdE c st)) then 1 else 0
def sp_parse : Nat → (Nat → Int32) → Nat → Int32 → List sp_Ent
  | 0, _, _, _ => []
  | n + 1, c, st, s => if sp_chk c st s = 0 then [] else sp_rdE c st :: sp_parse n c (st + sp_sz (sp_rdE c st)) (sp_mix s (sp_leaf (sp_rdE c st)))
theorem sp_chk_spec {c : Nat → Int32} {st : Nat} {s : Int32} (h : sp_chk c st s ≠ 0) : sp_okE (sp_rdE c st) ∧ sp_At c st (sp_rdE c st) ∧ st + sp_sz (sp_rdE c st) ≤ 512 ∧ c (st + (2 + 2 * (sp_rdE c st).2.length)) = sp_mix s (sp_leaf (sp_rdE c st)) := by
  unfold sp_chk at h
  by_cases h1 : 512 ≤ st
  · rw [if_pos h1] at h; exact absurd rfl h
  rw [if_neg h1] at h
  by_cases h2 : c st < 2
  · rw [if_pos h2] at h; exact absurd rfl h
  rw [if_neg h2] at h
  by_cases h3 : (4 : Int32) < c st
  · rw [if_pos h3] at h; exact absurd rfl h
  rw [if_neg h3] at h
  by_cases h4 : 512 < st + sp_sz (sp_rdE c st)
  · rw [if_pos h4] at h; exact absurd rfl h
  rw [if_neg h4] at h
  by_cases h5 : sp_snd 0 (sp_rdE c st).2 = 0
  · rw [if_pos h5] at h; exact absurd rfl h
  rw [if_neg h5] at h
  by_cases h6 : c (st + (2 + 2 * (sp_rdE c st).2.length)) = sp_mix s (sp_leaf (sp_rdE c st))
  · obtain ⟨b1, b2⟩ := sp_snd_spec _ _ h5
    rw [Int32.lt_iff_toInt_lt] at h2 h3
    have e2 : (2 : Int32).toInt = 2 := by decide
    have e4 : (4 : Int32).toInt = 4 := by decide
    have hn : (sp_rdE c st).2.length = (c st).toInt.toNat := sp_rdL_len _ _ _
    refine ⟨⟨by omega, by omega, b1, b2⟩, sp_rdE_At c st ?_, by omega, h6⟩
    rw [Int32.lt_iff_toInt_lt]
    have e0 : (0 : Int32).toInt = 0 := by decide
    omega
  · rw [if_neg h6] at h; exact absurd rfl h
theorem pu_nextSound {c : Nat → Int32} {es : List sp_Ent} (hc : ∀ k, k < sp_szs es → c k = sp_img es k) (hz : sp_szs es ≤ 512) : fLg_nextIsSound (nI (sp_szs es)) c = some (sp_chk c (sp_szs es) (sp_seal 0 es)) := by
  unfold fLg_nextIsSound fLg_nextFits sp_chk
  by_cases h1 : 512 ≤ sp_szs es
  · rw [if_pos (show (512 : Int32) ≤ nI (sp_szs es) from nI_le (a := 512) h1 (by omega)), if_pos h1, pu_bs, if_pos rfl]
  rw [if_neg (show ¬ (512 : Int32) ≤ nI (sp_szs es) from nI_ge (b := 512) (by omega) (by decide)), if_neg h1, pu_rd (by omega) (by decide), pu_bs]
  by_cases h2 : c (sp_szs es) < 2
  · rw [if_pos h2, if_pos h2, pu_bs, if_pos rfl]
  rw [if_neg h2, if_neg h2, pu_bs]
  by_cases h3 : (4 : Int32) < c (sp_szs es)
  · rw [if_pos h3, if_pos h3, pu_bs, if_pos rfl]
  rw [if_neg h3, if_neg h3, pu_bs]
  have hn0 : ¬ c (sp_szs es) < 0 := by
    rw [Int32.lt_iff_toInt_lt] at h2 ⊢
    have e2 : (2 : Int32).toInt = 2 := by decide
    have e0 : (0 : Int32).toInt = 0 := by decide
    omega
  have hA := sp_rdE_At c (sp_szs es) hn0
  have hlen : (sp_rdE c (sp_szs es)).2.length ≤ 4 := by
    rw [Int32.lt_iff_toInt_lt] at h3
    have e4 : (4 : Int32).toInt = 4 := by decide
    have hn : (sp_rdE c (sp_szs es)).2.length = (c (sp_szs es)).toInt.toNat := sp_rdL_len _ _ _
    omega
  have hsz : sp_sz (sp_rdE c (sp_szs es)) = 3 + 2 * (sp_rdE c (sp_szs es)).2.length := rfl
  rw [hA.1, pu_ec, pu_bs, nI_add, ← hsz]
  by_cases h4 : 512 < sp_szs es + sp_sz (sp_rdE c (sp_szs es))
  · rw [if_pos (show (512 : Int32) < nI (sp_szs es + sp_sz (sp_rdE c (sp_szs es))) from nI_lt (a := 512) h4 (by omega)), if_pos h4, pu_bs, if_pos rfl]
  rw [if_neg (show ¬ (512 : Int32) < nI (sp_szs es + sp_sz (sp_rdE c (sp_szs es))) from nI_nlt (a := 512) (by omega) (by decide)), if_neg h4, pu_bs, if_neg (by decide)]
  have h5 : fLg_nextLegsAreSound (nI (sp_szs es)) c = some (sp_snd 0 (sp_rdE c (sp_szs es)).2) := by
    unfold fLg_nextLegsAreSound
    have := pu_sndL hA (by omega) 600 0 0 (by omega) (by omega)
    rw [List.drop_zero] at this
    exact this
  rw [h5, pu_bs]
  by_cases h6 : sp_snd 0 (sp_rdE c (sp_szs es)).2 = 0
  · rw [if_pos h6, if_pos h6]
  rw [if_neg h6, if_neg h6, pu_scell hA.1 (by omega), pu_bs, pu_rd (by omega) (by decide), pu_bs, pu_seal hc hz, pu_bs, pu_leaf hA (by omega) hlen, pu_bs, pu_mix, pu_bs]
  by_cases h7 : c (sp_szs es + (2 + 2 * (sp_rdE c (sp_szs es)).2.length)) = sp_mix (sp_seal 0 es) (sp_leaf (sp_rdE c (sp_szs es)))
  · rw [if_pos h7, if_pos h7]
  · rw [if_neg h7, if_neg h7]
end
section
theorem pu_cellAt (d : Nat → Int32) (k : Nat) (h : k < 512) : fDk_cellAt d (nI k) = some (d k) := by
  unfold fDk_cellAt
  rw [if_neg (nI_pos (by omega)), if_neg (show ¬ (512 : Int32) ≤ nI k from nI_ge h (by decide)), pu_rd h (by decide), pu_bs]
theorem pu_lcellAt (d : Nat → Int32) (k : Nat) (h : k < 512) : fLg_cellAt d (nI k) = some (d k) := by
  unfold fLg_cellAt
  rw [if_neg (nI_pos (by omega)), if_neg (show ¬ (512 : Int32) ≤ nI k from nI_ge h (by decide)), pu_rd h (by decide), pu_bs]
theorem pu_cpyL (d : Nat → Int32) (ct en sc se : Int32) (st lv : Nat → Int32) : ∀ (n k : Nat) (c : Nat → Int32), k ≤ 512 → 512 - k < n → fLg_load_L6 d n (nI k) ct en sc se c st lv = fLg_load_L32 d 600 0 ct en sc se (sp_cpy k d c) st lv := by
  intro n
  induction n with
  | zero => intro k c h1 h2; omega
  | succ n ih =>
    intro k c h1 h2
    rw [fLg_load_L6]
    by_cases hk : k = 512
    · rw [if_pos (show (512 : Int32) ≤ nI k from nI_le (a := 512) (by omega) (by omega)), hk, sp_cpy_end]
    · rw [if_neg (show ¬ (512 : Int32) ≤ nI k from nI_ge (b := 512) (by omega) (by decide)), pu_cellAt d k (by omega), pu_bs, pu_wr (by omega) (by decide), pu_bs, nI_1, ih (k + 1) _ (by omega) (by omega), sp_cpy_step k d c (by omega)]
theorem pu_RLall {c st lv : Nat → Int32} {es : List sp_Ent} (hok : sp_ok es) (hz : sp_szs es ≤ 512) (hc : ∀ k, k < sp_szs es → c k = sp_img es k) (hst : ∀ i, i < es.length → st i = nI (sp_szs (es.take i))) (hlf : ∀ i x, es[i]? = some x → lv i = sp_leaf x) : sp_RL (sp_clr (sp_szs es) c) st lv (nI es.length) (nI (sp_szs es)) (nI es.length) (nI (sp_szs es)) es es.length := by
  refine ⟨hok, hz, Nat.le_refl _, rfl, rfl, rfl, by rw [List.take_length], fun k hk => ?_, hst, hlf⟩
  unfold sp_clr
  by_cases h : k < sp_szs es
  · rw [if_neg (by omega)]; exact hc k h
  · rw [if_pos (by omega), sp_img_out es k (by omega)]
theorem pu_loadL (d c : Nat → Int32) (sc se : Int32) : ∀ (n : Nat) (es : List sp_Ent) (st lv : Nat → Int32), sp_ok es → sp_szs es ≤ 512 → 73 - es.length < n → (∀ k, k < sp_szs es → c k = sp_img es k) → (∀ i, i < es.length → st i = nI (sp_szs (es.take i))) → (∀ i x, es[i]? = some x → lv i = sp_leaf x) →
    ∃ (E : List sp_Ent) (st' lv' : Nat → Int32), E = es ++ sp_parse (73 - es.length) c (sp_szs es) (sp_seal 0 es) ∧ fLg_load_L32 d n (nI es.length) (nI es.length) (nI (sp_szs es)) sc se c st lv = some (nI E.length, nI (sp_szs E), nI E.length, nI (sp_szs E), sp_clr (sp_szs E) c, st', lv') ∧ sp_RL (sp_clr (sp_szs E) c) st' lv' (nI E.length) (nI (sp_szs E)) (nI E.length) (nI (sp_szs E)) E E.length := by
  intro n
  induction n with
  | zero => intro es st lv h1 h2 h3; omega
  | succ n ih =>
    intro es st lv hok hz hn hc hst hlf
    have h73 := sp_len es hok
    rw [fLg_load_L32]
    have hend := pu_RLall hok hz hc hst hlf
    by_cases h1 : es.length = 73
    · refine ⟨es, st, lv, ?_, ?_, hend⟩
      · rw [h1]; simp [sp_parse]
      · rw [if_pos (show (73 : Int32) ≤ nI es.length from nI_le (a := 73) (by omega) (by omega)), show fLg_markSynced (nI es.length) (nI (sp_szs es)) sc se = some (nI es.length, nI (sp_szs es)) from rfl, pu_bs, pu_clrE _ _ hz]; rfl
    · rw [if_neg (show ¬ (73 : Int32) ≤ nI es.length from nI_ge (b := 73) (by omega) (by decide)), pu_nextSound hc hz, pu_bs]
      obtain ⟨q, hq⟩ : ∃ q, 73 - es.length = q + 1 := ⟨73 - es.length - 1, by omega⟩
      by_cases h2 : sp_chk c (sp_szs es) (sp_seal 0 es) = 0
      · refine ⟨es, st, lv, ?_, ?_, hend⟩
        · rw [hq, sp_parse, if_pos h2, List.append_nil]
        · rw [if_pos h2, show fLg_markSynced (nI es.length) (nI (sp_szs es)) sc se = some (nI es.length, nI (sp_szs es)) from rfl, pu_bs, pu_clrE _ _ hz]; rfl
      · obtain ⟨he, hA, hz2, hs⟩ := sp_chk_spec h2
        rw [if_neg h2, pu_accept hA hz2 hok he, pu_bs, nI_1]
        have hs1 : sp_szs (es ++ [sp_rdE c (sp_szs es)]) = sp_szs es + sp_sz (sp_rdE c (sp_szs es)) := by rw [sp_szs_app]; simp [sp_szs]
        have hs2 : sp_seal 0 (es ++ [sp_rdE c (sp_szs es)]) = sp_mix (sp_seal 0 es) (sp_leaf (sp_rdE c (sp_szs es))) := by rw [sp_seal_app]; rfl
        have hs3 : (es ++ [sp_rdE c (sp_szs es)]).length = es.length + 1 := by rw [List.length_append]; rfl
        obtain ⟨E, st', lv', hE, hL, hR⟩ := ih (es ++ [sp_rdE c (sp_szs es)]) (upd st es.length (nI (sp_szs es))) (upd lv es.length (sp_leaf (sp_rdE c (sp_szs es)))) (pu_okSnoc hok he) (by omega) (by omega) (by rw [hs1]; exact pu_imgSnoc hc hA hs) (fun i hi => by
            rw [hs3] at hi
            by_cases h5 : i = es.length
            · rw [h5, pu_us, List.take_append_of_le_length (by omega), List.take_length]
            · rw [pu_un h5, pu_takeS _ _ _ (by omega)]; exact hst i (by omega)) (fun i x hx => by
            by_cases h5 : i = es.length
            · rw [h5, List.getElem?_append_right (by omega), Nat.sub_self] at hx
              simp only [List.getElem?_cons_zero, Option.some.injEq] at hx
              rw [h5, pu_us, hx]
            · have hi : i < (es ++ [sp_rdE c (sp_szs es)]).length := (List.getElem?_eq_some_iff.mp hx).1
              rw [hs3] at hi
              rw [List.getElem?_append_left (by omega)] at hx
              rw [pu_un h5]; exact hlf i x hx)
        refine ⟨E, st', lv', ?_, ?_, hR⟩
        · rw [hE, hs1, hs2, hs3, hq, sp_parse, if_neg h2, List.append_assoc, show 73 - (es.length + 1) = q by omega]; rfl
        · rw [← hs3, ← hs1]; exact hL
theorem sp_rdL_congr (c d : Nat → Int32) : ∀ (n p : Nat), (∀ k, k < p + 2 * n → c k = d k) → sp_rdL c p n = sp_rdL d p n := by
  intro n
  induction n with
  | zero => intro p h; rfl
  | succ n ih =>
    intro p h
    rw [sp_rdL, sp_rdL, h p (by omega), h (p + 1) (by omega), ih (p + 2) (fun k hk => h k (by omega))]
theorem sp_chk_congr (c d : Nat → Int32) (st : Nat) (s : Int32) (h : ∀ k, k < 512 → c k = d k) : sp_chk c st s = sp_chk d st s ∧ (sp_chk c st s ≠ 0 → sp_rdE c st = sp_rdE d st) := by
  by_cases h1 : 512 ≤ st
  · unfold sp_chk
    rw [if_pos h1, if_pos h1]
    exact ⟨rfl, fun q => absurd rfl q⟩
  · have e0 : c st = d st := h st (by omega)
    by_cases h2 : c st < 2
    · unfold sp_chk
      rw [if_neg h1, if_neg h1, if_pos h2, if_pos (e0 ▸ h2)]
      exact ⟨rfl, fun q => absurd rfl q⟩
    have h2' : ¬ d st < 2 := by rw [← e0]; exact h2
    by_cases h3 : (4 : Int32) < c st
    · have h3' : (4 : Int32) < d st := by rw [← e0]; exact h3
      unfold sp_chk
      rw [if_neg h1, if_neg h1, if_neg h2, if_neg h2', if_pos h3, if_pos h3']
      exact ⟨rfl, fun q => absurd rfl q⟩
    have h3' : ¬ (4 : Int32) < d st := by rw [← e0]; exact h3
    have hl1 : (sp_rdE c st).2.length = (c st).toNatClampNeg := sp_rdL_len _ _ _
    have hl2 : (sp_rdE d st).2.length = (d st).toNatClampNeg := sp_rdL_len _ _ _
    have hsz : sp_sz (sp_rdE c st) = sp_sz (sp_rdE d st) := by unfold sp_sz; rw [hl1, hl2, e0]
    by_cases h4 : 512 < st + sp_sz (sp_rdE c st)
    · have h4' : 512 < st + sp_sz (sp_rdE d st) := by rw [← hsz]; exact h4
      unfold sp_chk
      rw [if_neg h1, if_neg h1, if_neg h2, if_neg h2', if_neg h3, if_neg h3', if_pos h4, if_pos h4']
      exact ⟨rfl, fun q => absurd rfl q⟩
    · have hn : st + (3 + 2 * (c st).toNatClampNeg) ≤ 512 := by
        unfold sp_sz at h4; rw [hl1] at h4; omega
      have hE : sp_rdE c st = sp_rdE d st := by
        unfold sp_rdE
        rw [h (st + 1) (by omega), sp_rdL_congr c d _ (st + 2) (fun k hk => h k (by omega)), e0]
      refine ⟨?_, fun _ => hE⟩
      unfold sp_chk
      rw [e0, hE, h (st + (2 + 2 * (sp_rdE d st).2.length)) (by rw [hl2, ← e0]; omega)]
theorem sp_parse_congr : ∀ (n : Nat) (c d : Nat → Int32) (st : Nat) (s : Int32), (∀ k, k < 512 → c k = d k) → sp_parse n c st s = sp_parse n d st s := by
  intro n
  induction n with
  | zero => intro c d st s h; rfl
  | succ n ih =>
    intro c d st s h
    obtain ⟨h1, h2⟩ := sp_chk_congr c d st s h
    rw [sp_parse, sp_parse, ← h1]
    by_cases h3 : sp_chk c st s = 0
    · rw [if_pos h3, if_pos h3]
    · rw [if_neg h3, if_neg h3, h2 h3, ih c d _ _ h]
theorem pu_load (ct en sc se : Int32) (c st lv d : Nat → Int32) : ∃ (c' st' lv' : Nat → Int32) (E : List sp_Ent), E = sp_parse 73 d 0 0 ∧ fLg_load ct en sc se c st lv d = some (nI E.length, nI (sp_szs E), nI E.length, nI (sp_szs E), c', st', lv') ∧ sp_RL c' st' lv' (nI E.length) (nI (sp_szs E)) (nI E.length) (nI (sp_szs E)) E E.length := by
  obtain ⟨E, st', lv', hE, hL, hR⟩ := pu_loadL d (sp_cpy 0 d (sp_clr 0 c)) 0 0 600 [] st lv (fun e he => (by cases he)) (by simp [sp_szs]) (by decide) (fun k hk => absurd hk (Nat.not_lt_zero k)) (fun i hi => absurd hi (Nat.not_lt_zero i)) (fun i x hx => by simp at hx)
  refine ⟨_, st', lv', E, ?_, ?_, hR⟩
  · rw [hE, List.nil_append]
    exact sp_parse_congr 73 _ _ 0 0 (fun k hk => by unfold sp_cpy; rw [if_pos (by omega)])
  · unfold fLg_load
    rw [pu_clear, pu_bs]
    show fLg_load_L6 d 600 0 0 0 0 0 (sp_clr 0 c) st lv = _
    have h6 := pu_cpyL d 0 0 0 0 st lv 600 0 (sp_clr 0 c) (by omega) (by omega)
    rw [← pu_n0] at h6
    rw [h6]
    exact hL
def sp_blk (d l : Nat → Int32) (b : Nat) : Nat → Int32 := fun i => if 8 * b ≤ i ∧ i < 8 * b + 8 then l i else d i
theorem pu_wrL (l : Nat → Int32) (b : Nat) (hb : b < 64) (dn fl : Int32) : ∀ (n k : Nat) (d : Nat → Int32), 8 * b ≤ k → k ≤ 8 * b + 8 → 8 * b + 8 - k < n → fDk_write_L34 l (nI (8 * b)) n (nI k) dn fl d = some (1, dn + 1, fl, fun i => if k ≤ i ∧ i < 8 * b + 8 then l i else d i) := by
  intro n
  induction n with
  | zero => intro k d h0 h1 h2; omega
  | succ n ih =>
    intro k d h0 h1 h2
    rw [fDk_write_L34, pu_n8, nI_add]
    by_cases hk : k = 8 * b + 8
    · rw [if_pos (nI_le (by omega) (by omega))]
      refine congrArg some (congrArg (Prod.mk _) (congrArg (Prod.mk _) (congrArg (Prod.mk _) ?_)))
      funext i; rw [if_neg (by omega)]
    · rw [if_neg (nI_ge (by omega) (by omega)), pu_lcellAt l k (by omega), pu_bs, pu_wr (by omega) (by decide), pu_bs, nI_1, ih (k + 1) _ (by omega) (by omega) (by omega)]
      refine congrArg some (congrArg (Prod.mk _) (congrArg (Prod.mk _) (congrArg (Prod.mk _) ?_)))
      funext i
      unfold upd
      by_cases h5 : i = k
      · rw [if_neg (by omega), if_pos h5, if_pos (by omega), h5]
      · by_cases h6 : k + 1 ≤ i ∧ i < 8 * b + 8
        · rw [if_pos h6, if_pos (by omega)]
        · rw [if_neg h6, if_neg h5, if_neg (by omega)]
theorem pu_write (l d : Nat → Int32) (b fl : Nat) (hb : b < 64) (hf : fl ≤ 40) (dn : Int32) : fDk_write dn (nI fl) d l (nI b) = if fl = 1 then some (0, dn, 0, d) else some (1, dn + 1, nI (fl - 1), sp_blk d l b) := by
  have hL := fun fl' => pu_wrL l b hb dn fl' 600 (8 * b) d (by omega) (by omega) (by omega)
  have hb8 : nI b * (8 : Int32) = nI (8 * b) := by rw [pu_n8, pk_mul, Nat.mul_comm]
  unfold fDk_write
  rw [hb8]
  by_cases h0 : fl = 0
  · subst h0
    rw [if_pos (by decide), if_neg (by decide), hL]; rfl
  · rw [if_neg (nI_nle (by omega) (by omega)), pu_n1, pk_sub (by omega)]
    by_cases h1 : fl = 1
    · subst h1
      rw [if_pos (show nI (1 - 1) = 0 from rfl), if_pos rfl]; rfl
    · rw [if_neg (nI_ne0 (by omega) (by omega)), if_neg h1, hL]; rfl
end
section
def sp_kL (n : Nat) : Nat → Nat → Nat
  | 0, k => k
  | f + 1, k => if n ≤ 2 * k then k else sp_kL n f (2 * k)
def sp_k (n : Nat) : Nat := sp_kL n 10 1
theorem sp_kL_spec (n : Nat) : ∀ (f k : Nat), (k = 1 ∨ k < n) → n ≤ 2 ^ (f + 1) * k → 1 ≤ k → 2 ≤ n → 1 ≤ sp_kL n f k ∧ sp_kL n f k < n ∧ n ≤ 2 * sp_kL n f k := by
  intro f
  induction f with
  | zero =>
    intro k h1 h2 h3 h4
    rw [sp_kL]
    refine ⟨h3, by omega, ?_⟩
    simpa using h2
  | succ f ih =>
    intro k h1 h2 h3 h4
    rw [sp_kL]
    by_cases h : n ≤ 2 * k
    · rw [if_pos h]; exact ⟨h3, by omega, h⟩
    · rw [if_neg h]
      refine ih (2 * k) (by omega) ?_ (by omega) h4
      rw [Nat.pow_succ, Nat.mul_assoc] at h2
      exact h2
theorem sp_k_spec {n : Nat} (h2 : 2 ≤ n) (h : n ≤ 2048) : 1 ≤ sp_k n ∧ sp_k n < n ∧ n ≤ 2 * sp_k n := sp_kL_spec n 10 1 (Or.inl rfl) (by simpa using h) (by omega) h2
theorem sp_kL_pow (n : Nat) : ∀ (f i : Nat), ∃ j : Nat, sp_kL n f (2 ^ i) = 2 ^ j := by
  intro f
  induction f with
  | zero => intro i; exact ⟨i, rfl⟩
  | succ f ih =>
    intro i
    rw [sp_kL]
    by_cases h : n ≤ 2 * 2 ^ i
    · rw [if_pos h]; exact ⟨i, rfl⟩
    · rw [if_neg h, show 2 * 2 ^ i = 2 ^ (i + 1) by rw [Nat.pow_succ]; omega]; exact ih (i + 1)
theorem sp_k_le {n d : Nat} (h2 : 2 ≤ n) (h : n ≤ 2048) (hd : n ≤ 2 ^ (d + 1)) : sp_k n ≤ 2 ^ d ∧ n - sp_k n ≤ 2 ^ d := by
  obtain ⟨h3, h4, h5⟩ := sp_k_spec h2 h
  obtain ⟨j, hj⟩ := sp_kL_pow n 10 0
  have hj' : sp_k n = 2 ^ j := hj
  have : sp_k n ≤ 2 ^ d := by
    rw [hj'] at h4 ⊢
    have h6 : 2 ^ j < 2 ^ (d + 1) := by omega
    have h7 : j < d + 1 := (Nat.pow_lt_pow_iff_right (by decide)).mp h6
    exact Nat.pow_le_pow_right (by decide) (by omega)
  exact ⟨this, by omega⟩
theorem pu_splitL (n : Nat) (hn : n < 2 ^ 30) : ∀ (q v k : Nat), v ≤ 10 → 10 - v < q → k ≤ 2 ^ v → fSl_split_L4 (nI n) q (nI k) (nI v) = some (nI (sp_kL n (10 - v) k)) := by
  intro q
  induction q with
  | zero => intro v k h1 h2; omega
  | succ q ih =>
    intro v k h1 h2 h3
    rw [fSl_split_L4]
    by_cases hv : v = 10
    · rw [if_pos (show (10 : Int32) ≤ nI v from nI_le (a := 10) (by omega) (by omega)), hv]; rfl
    · have hp : 2 ^ v ≤ 2 ^ 9 := Nat.pow_le_pow_right (by decide) (by omega)
      have hp2 : (2 : Nat) ^ 9 = 512 := by decide
      rw [if_neg (show ¬ (10 : Int32) ≤ nI v from nI_ge (b := 10) (by omega) (by decide)), pu_n2, pk_mul]
      obtain ⟨w, hw⟩ : ∃ w, 10 - v = w + 1 := ⟨10 - v - 1, by omega⟩
      rw [hw, sp_kL]
      by_cases h4 : n ≤ 2 * k
      · rw [if_pos (nI_le h4 (by omega)), if_pos h4]
      · rw [if_neg (nI_ge (by omega) (by omega)), if_neg h4, nI_1, ih (v + 1) (2 * k) (by omega) (by omega) (by rw [Nat.pow_succ]; omega), show 10 - (v + 1) = w by omega]
theorem pu_spl (n : Nat) (hn : n < 2 ^ 30) : fSl_split (nI n) = some (nI (sp_k n)) := by
  unfold fSl_split
  exact pu_splitL n hn 600 0 1 (by omega) (by omega) (by decide)
def sp_h (lf : Nat → Int32) : Nat → Nat → Nat → Int32
  | 0, f, _ => lf f
  | d + 1, f, n => if n ≤ 1 then lf f else sp_node (sp_h lf d f (sp_k n)) (sp_h lf d (f + sp_k n) (n - sp_k n))
theorem sp_h_dep (lf : Nat → Int32) : ∀ (d f n : Nat), n ≤ 2 ^ d → n ≤ 2048 → sp_h lf (d + 1) f n = sp_h lf d f n := by
  intro d
  induction d with
  | zero => intro f n h h2; simp only [sp_h]; rw [if_pos (by simpa using h)]
  | succ d ih =>
    intro f n h h2
    rw [sp_h]
    by_cases h1 : n ≤ 1
    · rw [if_pos h1, sp_h, if_pos h1]
    · obtain ⟨a, b⟩ := sp_k_le (by omega) h2 h
      obtain ⟨c1, c2, c3⟩ := sp_k_spec (by omega) h2
      rw [if_neg h1, ih f _ a (by omega), ih _ _ b (by omega), sp_h, if_neg h1]
def sp_lf (es : List sp_Ent) (i : Nat) : Int32 := match es[i]? with
  | some e => sp_leaf e
  | none => 0
theorem pu_leafOfN {c st lv : Nat → Int32} {es : List sp_Ent} {syn : Nat} {ct en sc se : Int32} (h : sp_RL c st lv ct en sc se es syn) (i : Nat) (hi : i < 2 ^ 31) : fLg_leafOf ct lv (nI i) = some (sp_lf es i) := by
  unfold sp_lf
  cases he : es[i]? with
  | some e => exact pu_leafOf h i e he
  | none =>
    have h1 : es.length ≤ i := List.getElem?_eq_none_iff.mp he
    exact pu_leafOf0 h _ (Or.inr (nI_le h1 hi))
theorem pu_hash {c st lv : Nat → Int32} {es : List sp_Ent} {syn : Nat} {ct en sc se : Int32} (h : sp_RL c st lv ct en sc se es syn) : ∀ (q d f n : Nat), d < q → n ≤ 2 ^ d → n ≤ 2048 → d ≤ 20 → f + n ≤ 2 ^ 20 → fTr_hash ct lv q (nI f) (nI n) (nI d) = some (sp_h (sp_lf es) d f n) := by
  intro q
  induction q with
  | zero => intro d f n h1; omega
  | succ q ih =>
    intro d f n h1 h2 h3 h4 h5
    rw [fTr_hash]
    by_cases hn : n ≤ 1
    · rw [if_pos (show nI n ≤ 1 from nI_le (b := 1) hn (by decide)), pu_leafOfN h f (by omega), pu_bs]
      cases d with
      | zero => rfl
      | succ d => rw [sp_h, if_pos hn]
    · rw [if_neg (show ¬ nI n ≤ 1 from nI_ge (a := 1) (by omega) (by omega))]
      cases d with
      | zero => simp at h2; omega
      | succ d =>
        obtain ⟨a, b⟩ := sp_k_le (by omega) h3 h2
        obtain ⟨c1, c2, c3⟩ := sp_k_spec (by omega) h3
        rw [if_pos (show 0 < nI (d + 1) from nI_lt (a := 0) (by omega) (by omega)), pu_spl n (by omega), pu_bs, nI_pred, ih d f _ (by omega) a (by omega) (by omega) (by omega), pu_bs, nI_add, pk_sub (by omega), ih d _ _ (by omega) b (by omega) (by omega) (by omega), pu_bs, pu_node, pu_bs, sp_h, if_neg hn]
def sp_RP (ints : Nat → Int32) (cnt : Int32) (pd : List Int32) : Prop := cnt = nI pd.length ∧ pd.length ≤ 16 ∧ ∀ j x, pd[j]? = some x → ints j = x
theorem pu_padd {ints : Nat → Int32} {cnt : Int32} {pd : List Int32} (h : sp_RP ints cnt pd) (hl : pd.length < 16) (x : Int32) : fPd_add cnt ints x = some (1, nI (pd.length + 1), upd ints pd.length x) ∧ sp_RP (upd ints pd.length x) (nI (pd.length + 1)) (pd ++ [x]) := by
  obtain ⟨rfl, h16, hp⟩ := h
  refine ⟨?_, by rw [List.length_append]; rfl, by rw [List.length_append, List.length_singleton]; omega, fun j y hj => ?_⟩
  · unfold fPd_add
    rw [if_pos (show nI pd.length < 16 from nI_lt (b := 16) hl (by decide)), pu_wr (by omega) (by decide), pu_bs, nI_1]
  · by_cases h5 : j = pd.length
    · rw [h5, List.getElem?_append_right (by omega), Nat.sub_self] at hj
      simp only [List.getElem?_cons_zero, Option.some.injEq] at hj
      rw [h5, pu_us, hj]
    · have hi : j < (pd ++ [x]).length := (List.getElem?_eq_some_iff.mp hj).1
      rw [List.length_append, List.length_singleton] at hi
      rw [List.getElem?_append_left (by omega)] at hj
      rw [pu_un h5]; exact hp j y hj
theorem pu_padd0 {ints : Nat → Int32} {cnt : Int32} {pd : List Int32} (h : sp_RP ints cnt pd) (hl : ¬ pd.length < 16) (x : Int32) : fPd_add cnt ints x = some (0, cnt, ints) := by
  obtain ⟨rfl, h16, hp⟩ := h
  unfold fPd_add
  rw [if_neg (show ¬ nI pd.length < 16 from nI_nlt (b := 16) (by omega) (by omega))]
theorem pu_intAt {ints : Nat → Int32} {cnt : Int32} {pd : List Int32} (h : sp_RP ints cnt pd) (j : Nat) (hj : j < 2 ^ 31) : fPd_intAt cnt ints (nI j) = some (pd[j]?.getD 0) := by
  obtain ⟨rfl, h16, hp⟩ := h
  unfold fPd_intAt
  rw [if_neg (nI_pos hj)]
  by_cases h1 : j < pd.length
  · rw [if_neg (nI_ge h1 (by omega)), pu_rd (by omega) (by decide), pu_bs]
    rw [List.getElem?_eq_getElem h1, hp j _ (List.getElem?_eq_getElem h1)]; rfl
  · rw [if_pos (nI_le (by omega) hj), List.getElem?_eq_none (by omega)]; rfl
def sp_inc (lf : Nat → Int32) : Nat → Nat → Nat → Nat → List Int32
  | 0, _, _, _ => []
  | d + 1, i, f, n => if n ≤ 1 then [] else if sp_k n ≤ i then sp_inc lf d (i - sp_k n) (f + sp_k n) (n - sp_k n) ++ [sp_h lf d f (sp_k n)] else sp_inc lf d i f (sp_k n) ++ [sp_h lf d (f + sp_k n) (n - sp_k n)]
theorem sp_inc_len (lf : Nat → Int32) : ∀ (d i f n : Nat), (sp_inc lf d i f n).length ≤ d := by
  intro d
  induction d with
  | zero => intro i f n; simp [sp_inc]
  | succ d ih =>
    intro i f n
    rw [sp_inc]
    by_cases h1 : n ≤ 1
    · rw [if_pos h1]; simp
    · rw [if_neg h1]
      by_cases h2 : sp_k n ≤ i
      · rw [if_pos h2, List.length_append]; have := ih (i - sp_k n) (f + sp_k n) (n - sp_k n); simp only [List.length_singleton]; omega
      · rw [if_neg h2, List.length_append]; have := ih i f (sp_k n); simp only [List.length_singleton]; omega
theorem pu_inc {c st lv : Nat → Int32} {es : List sp_Ent} {syn : Nat} {ct en sc se : Int32} (h : sp_RL c st lv ct en sc se es syn) : ∀ (q d i f n : Nat) (ints : Nat → Int32) (cnt : Int32) (pd : List Int32), d < q → d ≤ 10 → n ≤ 2 ^ d → n ≤ 2048 → f + n ≤ 2 ^ 20 → i < 2 ^ 20 → sp_RP ints cnt pd → pd.length + d ≤ 16 → ∃ ints' cnt', fTr_inclusion ct lv q (nI i) (nI f) (nI n) (nI d) cnt ints = some (cnt', ints') ∧ sp_RP ints' cnt' (pd ++ sp_inc (sp_lf es) d i f n) := by
  intro q
  induction q with
  | zero => intro d i f n ints cnt pd h1; omega
  | succ q ih =>
    intro d i f n ints cnt pd h1 h2 h3 h4 h5 h6 hP hl
    rw [fTr_inclusion]
    by_cases hn : n ≤ 1
    · rw [if_pos (show nI n ≤ 1 from nI_le (b := 1) hn (by decide))]
      refine ⟨_, _, rfl, ?_⟩
      cases d with
      | zero => simpa [sp_inc] using hP
      | succ d => rw [sp_inc, if_pos hn, List.append_nil]; exact hP
    · rw [if_neg (show ¬ nI n ≤ 1 from nI_ge (a := 1) (by omega) (by omega))]
      cases d with
      | zero => simp at h3; omega
      | succ d =>
        obtain ⟨a, b⟩ := sp_k_le (by omega) h4 h3
        obtain ⟨c1, c2, c3⟩ := sp_k_spec (by omega) h4
        rw [if_pos (show 0 < nI (d + 1) from nI_lt (a := 0) (by omega) (by omega)), pu_spl n (by omega), pu_bs, nI_pred, sp_inc, if_neg hn]
        by_cases h7 : sp_k n ≤ i
        · rw [if_pos (nI_le h7 (by omega)), if_pos h7, pk_sub h7, nI_add, pk_sub (by omega)]
          obtain ⟨ints1, cnt1, e1, r1⟩ := ih d (i - sp_k n) (f + sp_k n) (n - sp_k n) ints cnt pd (by omega) (by omega) b (by omega) (by omega) (by omega) hP (by omega)
          have hlen := sp_inc_len (sp_lf es) d (i - sp_k n) (f + sp_k n) (n - sp_k n)
          obtain ⟨e2, r2⟩ := pu_padd r1 (by rw [List.length_append]; omega) (sp_h (sp_lf es) d f (sp_k n))
          rw [List.append_assoc] at r2
          refine ⟨_, _, ?_, r2⟩
          · rw [e1, pu_bs]
            show ((fTr_hash ct lv 12 (nI f) (nI (sp_k n)) (nI d)).bind _) = _
            rw [pu_hash h 12 d f (sp_k n) (by omega) a (by omega) (by omega) (by omega), pu_bs, e2]; rfl
        · rw [if_neg (nI_ge (by omega) (by omega)), if_neg h7, nI_add, pk_sub (by omega)]
          obtain ⟨ints1, cnt1, e1, r1⟩ := ih d i f (sp_k n) ints cnt pd (by omega) (by omega) a (by omega) (by omega) (by omega) hP (by omega)
          have hlen := sp_inc_len (sp_lf es) d i f (sp_k n)
          obtain ⟨e2, r2⟩ := pu_padd r1 (by rw [List.length_append]; omega) (sp_h (sp_lf es) d (f + sp_k n) (n - sp_k n))
          rw [List.append_assoc] at r2
          refine ⟨_, _, ?_, r2⟩
          · rw [e1, pu_bs]
            show ((fTr_hash ct lv 12 (nI (f + sp_k n)) (nI (n - sp_k n)) (nI d)).bind _) = _
            rw [pu_hash h 12 d (f + sp_k n) (n - sp_k n) (by omega) b (by omega) (by omega) (by omega), pu_bs, e2]; rfl
end
section
def sp_con (lf : Nat → Int32) : Nat → Nat → Nat → Nat → Int32 → List Int32
  | 0, _, f, n, own => if own = 0 then [sp_h lf 0 f n] else []
  | d + 1, m, f, n, own => if m = n then (if own = 0 then [sp_h lf (d + 1) f n] else []) else if sp_k n < m then sp_con lf d (m - sp_k n) (f + sp_k n) (n - sp_k n) 0 ++ [sp_h lf d f (sp_k n)] else sp_con lf d m f (sp_k n) own ++ [sp_h lf d (f + sp_k n) (n - sp_k n)]
theorem sp_con_len (lf : Nat → Int32) : ∀ (d m f n : Nat) (own : Int32), (sp_con lf d m f n own).length ≤ d + 1 := by
  intro d
  induction d with
  | zero =>
    intro m f n own
    rw [sp_con]
    by_cases h1 : own = 0
    · rw [if_pos h1]; simp
    · rw [if_neg h1]; simp
  | succ d ih =>
    intro m f n own
    rw [sp_con]
    by_cases h1 : m = n
    · rw [if_pos h1]
      by_cases h2 : own = 0
      · rw [if_pos h2]; simp
      · rw [if_neg h2]; simp
    · rw [if_neg h1]
      by_cases h2 : sp_k n < m
      · rw [if_pos h2, List.length_append]; have := ih (m - sp_k n) (f + sp_k n) (n - sp_k n) 0; simp only [List.length_singleton]; omega
      · rw [if_neg h2, List.length_append]; have := ih m f (sp_k n) own; simp only [List.length_singleton]; omega
theorem pu_con {c st lv : Nat → Int32} {es : List sp_Ent} {syn : Nat} {ct en sc se : Int32} (h : sp_RL c st lv ct en sc se es syn) : ∀ (q d m f n : Nat) (own : Int32) (ints : Nat → Int32) (cnt : Int32) (pd : List Int32), d < q → d ≤ 10 → n ≤ 2 ^ d → n ≤ 2048 → f + n ≤ 2 ^ 20 → 1 ≤ m → m ≤ n → sp_RP ints cnt pd → pd.length + d + 1 ≤ 16 → ∃ ints' cnt', fTr_consistency ct lv q (nI m) (nI f) (nI n) own (nI d) cnt ints = some (cnt', ints') ∧ sp_RP ints' cnt' (pd ++ sp_con (sp_lf es) d m f n own) := by
  intro q
  induction q with
  | zero => intro d m f n own ints cnt pd h1; omega
  | succ q ih =>
    intro d m f n own ints cnt pd h1 h2 h3 h4 h5 h6 h6' hP hl
    rw [fTr_consistency]
    by_cases hmn : m = n
    · rw [if_pos (by rw [hmn])]
      by_cases ho : own = 0
      · rw [if_pos ho, pu_hash h 12 d f n (by omega) h3 h4 (by omega) h5, pu_bs]
        obtain ⟨e2, r2⟩ := pu_padd hP (by omega) (sp_h (sp_lf es) d f n)
        refine ⟨upd ints pd.length (sp_h (sp_lf es) d f n), nI (pd.length + 1), by rw [e2]; rfl, ?_⟩
        cases d with
        | zero => rw [sp_con, if_pos ho]; exact r2
        | succ d => rw [sp_con, if_pos hmn, if_pos ho]; exact r2
      · rw [if_neg ho]
        refine ⟨_, _, rfl, ?_⟩
        cases d with
        | zero => rw [sp_con, if_neg ho, List.append_nil]; exact hP
        | succ d => rw [sp_con, if_pos hmn, if_neg ho, List.append_nil]; exact hP
    · rw [if_neg (by rw [nI_eq (by omega) (by omega)]; exact hmn)]
      cases d with
      | zero => simp at h3; omega
      | succ d =>
        obtain ⟨a, b⟩ := sp_k_le (by omega) h4 h3
        obtain ⟨c1, c2, c3⟩ := sp_k_spec (by omega) h4
        rw [if_pos (show 0 < nI (d + 1) from nI_lt (a := 0) (by omega) (by omega)), pu_spl n (by omega), pu_bs, nI_pred, sp_con, if_neg hmn]
        by_cases h7 : sp_k n < m
        · rw [if_pos (nI_lt h7 (by omega)), if_pos h7, pk_sub (by omega), nI_add, pk_sub (by omega)]
          obtain ⟨ints1, cnt1, e1, r1⟩ := ih d (m - sp_k n) (f + sp_k n) (n - sp_k n) 0 ints cnt pd (by omega) (by omega) b (by omega) (by omega) (by omega) (by omega) hP (by omega)
          have hlen := sp_con_len (sp_lf es) d (m - sp_k n) (f + sp_k n) (n - sp_k n) 0
          obtain ⟨e2, r2⟩ := pu_padd r1 (by rw [List.length_append]; omega) (sp_h (sp_lf es) d f (sp_k n))
          rw [List.append_assoc] at r2
          refine ⟨_, _, ?_, r2⟩
          · rw [e1, pu_bs]
            show ((fTr_hash ct lv 12 (nI f) (nI (sp_k n)) (nI d)).bind _) = _
            rw [pu_hash h 12 d f (sp_k n) (by omega) a (by omega) (by omega) (by omega), pu_bs, e2]; rfl
        · rw [if_neg (nI_nlt (by omega) (by omega)), if_neg h7, nI_add, pk_sub (by omega)]
          obtain ⟨ints1, cnt1, e1, r1⟩ := ih d m f (sp_k n) own ints cnt pd (by omega) (by omega) a (by omega) (by omega) h6 (by omega) hP (by omega)
          have hlen := sp_con_len (sp_lf es) d m f (sp_k n) own
          obtain ⟨e2, r2⟩ := pu_padd r1 (by rw [List.length_append]; omega) (sp_h (sp_lf es) d (f + sp_k n) (n - sp_k n))
          rw [List.append_assoc] at r2
          refine ⟨_, _, ?_, r2⟩
          · rw [e1, pu_bs]
            show ((fTr_hash ct lv 12 (nI (f + sp_k n)) (nI (n - sp_k n)) (nI d)).bind _) = _
            rw [pu_hash h 12 d (f + sp_k n) (n - sp_k n) (by omega) b (by omega) (by omega) (by omega), pu_bs, e2]; rfl
def sp_il : Nat → Nat → Nat → Nat
  | 0, _, _ => 0
  | d + 1, i, n => if n ≤ 1 then 0 else 1 + (if sp_k n ≤ i then sp_il d (i - sp_k n) (n - sp_k n) else sp_il d i (sp_k n))
theorem sp_il_le : ∀ (d i n : Nat), sp_il d i n ≤ d := by
  intro d
  induction d with
  | zero => intro i n; simp [sp_il]
  | succ d ih =>
    intro i n
    rw [sp_il]
    by_cases h1 : n ≤ 1
    · rw [if_pos h1]; omega
    · rw [if_neg h1]
      by_cases h2 : sp_k n ≤ i
      · rw [if_pos h2]; have := ih (i - sp_k n) (n - sp_k n); omega
      · rw [if_neg h2]; have := ih i (sp_k n); omega
theorem pu_ilL : ∀ (q d i n v : Nat), d < q → n ≤ 2 ^ d → n ≤ 2048 → i < 2 ^ 20 → v + d ≤ 15 → fPd_inclusionLength_L2 q (nI i) (nI n) (nI v) = some (nI (v + sp_il d i n)) := by
  intro q
  induction q with
  | zero => intro d i n v h1; omega
  | succ q ih =>
    intro d i n v h1 h2 h3 h4 h5
    rw [fPd_inclusionLength_L2]
    by_cases hn : n ≤ 1
    · rw [if_pos (show nI n ≤ 1 from nI_le (b := 1) hn (by decide))]
      cases d with
      | zero => rfl
      | succ d => rw [sp_il, if_pos hn]; rfl
    · rw [if_neg (show ¬ nI n ≤ 1 from nI_ge (a := 1) (by omega) (by omega)), if_neg (show ¬ (16 : Int32) ≤ nI v from nI_ge (b := 16) (by omega) (by decide)), pu_spl n (by omega), pu_bs]
      cases d with
      | zero => simp at h2; omega
      | succ d =>
        obtain ⟨a, b⟩ := sp_k_le (by omega) h3 h2
        obtain ⟨c1, c2, c3⟩ := sp_k_spec (by omega) h3
        rw [sp_il, if_neg hn, nI_1]
        by_cases h7 : sp_k n ≤ i
        · rw [if_pos (nI_le h7 (by omega)), if_pos h7, pk_sub h7, pk_sub (by omega), ih d _ _ (v + 1) (by omega) b (by omega) (by omega) (by omega), Nat.add_assoc]
        · rw [if_neg (nI_ge (by omega) (by omega)), if_neg h7, ih d _ _ (v + 1) (by omega) a (by omega) (by omega) (by omega), Nat.add_assoc]
theorem pu_il {d i n : Nat} (h2 : n ≤ 2 ^ d) (h3 : n ≤ 2048) (h4 : i < 2 ^ 20) (h5 : d ≤ 15) : fPd_inclusionLength (nI i) (nI n) = some (nI (sp_il d i n)) := by
  unfold fPd_inclusionLength
  have := pu_ilL 600 d i n 0 (by omega) h2 h3 h4 (by omega)
  rw [Nat.zero_add] at this
  exact this
def sp_sh (leaf : Int32) : Nat → Nat → Nat → List Int32 → Option Int32
  | 0, _, _, [] => some leaf
  | 0, _, _, _ :: _ => none
  | _ + 1, _, n, [] => if n ≤ 1 then some leaf else none
  | d + 1, i, n, z :: r => if n ≤ 1 then none else if sp_k n ≤ i then (sp_sh leaf d (i - sp_k n) (n - sp_k n) r).bind (fun h => some (sp_node z h)) else (sp_sh leaf d i (sp_k n) r).bind (fun h => some (sp_node h z))
theorem sp_sh_len (leaf : Int32) : ∀ (d i n : Nat) (l : List Int32), l.length ≠ sp_il d i n → sp_sh leaf d i n l = none := by
  intro d
  induction d with
  | zero =>
    intro i n l h
    cases l with
    | nil => exact absurd rfl h
    | cons z r => rfl
  | succ d ih =>
    intro i n l h
    rw [sp_il] at h
    cases l with
    | nil =>
      rw [sp_sh]
      by_cases hn : n ≤ 1
      · rw [if_pos hn] at h; exact absurd rfl h
      · rw [if_neg hn]
    | cons z r =>
      rw [sp_sh]
      by_cases hn : n ≤ 1
      · rw [if_pos hn]
      · rw [if_neg hn] at h
        rw [if_neg hn]
        simp only [List.length_cons] at h
        by_cases h7 : sp_k n ≤ i
        · rw [if_pos h7] at h
          rw [if_pos h7, ih _ _ r (by omega)]; rfl
        · rw [if_neg h7] at h
          rw [if_neg h7, ih _ _ r (by omega)]; rfl
theorem pu_above {ints : Nat → Int32} {cnt : Int32} {pd : List Int32} (hP : sp_RP ints cnt pd) (leaf : Int32) : ∀ (q d i n u : Nat), d < q → n ≤ 2 ^ d → n ≤ 2048 → i < 2 ^ 20 → u = sp_il d i n → u ≤ pd.length → ∃ v, fPd_shownAbove cnt ints q leaf (nI i) (nI n) (nI u) = some v ∧ sp_sh leaf d i n (pd.take u).reverse = some v := by
  intro q
  induction q with
  | zero => intro d i n u h1; omega
  | succ q ih =>
    intro d i n u h1 h2 h3 h4 h5 h6
    have h16 := hP.2.1
    rw [fPd_shownAbove]
    by_cases hn : n ≤ 1
    · refine ⟨leaf, by rw [if_pos (show nI n ≤ 1 from nI_le (b := 1) hn (by decide))], ?_⟩
      cases d with
      | zero =>
        have hu : u = 0 := h5
        rw [hu]; rfl
      | succ d =>
        rw [sp_il, if_pos hn] at h5
        rw [h5]
        show sp_sh leaf (d + 1) i n [] = some leaf
        rw [sp_sh, if_pos hn]
    · rw [if_neg (show ¬ nI n ≤ 1 from nI_ge (a := 1) (by omega) (by omega))]
      cases d with
      | zero => simp at h2; omega
      | succ d =>
        obtain ⟨a, b⟩ := sp_k_le (by omega) h3 h2
        obtain ⟨c1, c2, c3⟩ := sp_k_spec (by omega) h3
        rw [sp_il, if_neg hn] at h5
        obtain ⟨w, hw⟩ : ∃ w, u = w + 1 := ⟨u - 1, by omega⟩
        subst hw
        have htk : (pd.take (w + 1)).reverse = pd[w]?.getD 0 :: (pd.take w).reverse := by
          rw [List.take_succ, List.getElem?_eq_getElem (by omega)]; simp
        rw [if_pos (show 0 < nI (w + 1) from nI_lt (a := 0) (by omega) (by omega)), pu_spl n (by omega), pu_bs, nI_pred, pu_intAt hP w (by omega), pu_bs, htk, sp_sh, if_neg hn]
        by_cases h7 : sp_k n ≤ i
        · rw [if_pos h7] at h5
          obtain ⟨v, e1, e2⟩ := ih d (i - sp_k n) (n - sp_k n) w (by omega) b (by omega) (by omega) (by omega) (by omega)
          refine ⟨sp_node (pd[w]?.getD 0) v, ?_, by rw [if_pos h7, e2, pu_bs]⟩
          · rw [if_pos (nI_le h7 (by omega)), pk_sub h7, pk_sub (by omega), e1, pu_bs, pu_node, pu_bs]
        · rw [if_neg h7] at h5
          obtain ⟨v, e1, e2⟩ := ih d i (sp_k n) w (by omega) a (by omega) (by omega) (by omega) (by omega)
          refine ⟨sp_node v (pd[w]?.getD 0), ?_, by rw [if_neg h7, e2, pu_bs]⟩
          · rw [if_neg (nI_ge (by omega) (by omega)), e1, pu_bs, pu_node, pu_bs]
theorem pu_showsInc {ints : Nat → Int32} {cnt : Int32} {pd : List Int32} (hP : sp_RP ints cnt pd) (leaf head : Int32) {i n : Nat} (h3 : n ≤ 1000) (h4 : i < n) : fPd_showsInclusion cnt ints leaf (nI i) (nI n) head = some (if sp_sh leaf 10 i n pd.reverse = some head then 1 else 0) := by
  have h16 := hP.2.1
  have hil := sp_il_le 10 i n
  unfold fPd_showsInclusion
  rw [pu_il (d := 10) (by omega) (by omega) (by omega) (by decide), pu_bs]
  by_cases h5 : pd.length = sp_il 10 i n
  · rw [if_pos (by rw [hP.1, h5])]
    obtain ⟨v, e1, e2⟩ := pu_above hP leaf 18 10 i n pd.length (by omega) (by omega) (by omega) (by omega) h5 (by omega)
    rw [List.take_length] at e2
    rw [← hP.1] at e1
    rw [e1, pu_bs, e2]
    by_cases h6 : v = head
    · rw [if_pos h6, if_pos (by rw [h6])]
    · rw [if_neg h6, if_neg (fun q => h6 (Option.some.inj q))]
  · rw [if_neg (by rw [hP.1, nI_eq (by omega) (by omega)]; exact h5), sp_sh_len leaf 10 i n _ (by rw [List.length_reverse]; exact h5), if_neg (by simp)]
end

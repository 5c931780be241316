def hw_l0 : List Cond := [.methodLink RX1 3 objectInit, .instanceMethod objectInit, .code objectInit ⟨#[0xb1]⟩ 1 none, .arrayClass .int, .fieldLink RX1 9 "SealedLedger$Draft" "accounts" "[I", .fieldLink RX1 15 "SealedLedger$Draft" "amounts" "[I", .code yX1_init cX1_init 1 none, .methodLink RX2 3 objectInit, .fieldLink RX2 9 "SealedLedger$Log" "cells" "[I", .fieldLink RX2 15 "SealedLedger$Log" "starts" "[I", .fieldLink RX2 18 "SealedLedger$Log" "leaves" "[I", .code yX2_init cX2_init 1 none, .methodLink RX0 3 objectInit, .fieldLink RX0 9 "SealedLedger$Disk" "cells" "[I", .code yX0_init cX0_init 1 none, .methodLink RX3 3 objectInit, .fieldLink RX3 9 "SealedLedger$Pad" "ints" "[I", .code yX3_init cX3_init 1 none, .methodLink RX5 3 objectInit, .fieldLink RX5 9 "SealedLedger" "limits" "[I", .classLink RX5 13 RX1, .instantiable RX1 3, .initialized RX1, .methodLink RX5 15 yX1_init, .instanceMethod yX1_init, .fieldLink RX5 16 "SealedLedger" "draft" "LSealedLedger$Draft;", .classLink RX5 20 RX2, .instantiable RX2 7, .initialized RX2, .methodLink RX5 22 yX2_init, .instanceMethod yX2_init, .fieldLink RX5 23 "SealedLedger" "log" "LSealedLedger$Log;"]
def hw_l1 : List Cond := [.classLink RX5 27 RX0, .instantiable RX0 3, .initialized RX0, .methodLink RX5 29 yX0_init, .instanceMethod yX0_init, .fieldLink RX5 30 "SealedLedger" "disk" "LSealedLedger$Disk;", .classLink RX5 34 RX3, .instantiable RX3 2, .initialized RX3, .methodLink RX5 36 yX3_init, .instanceMethod yX3_init, .fieldLink RX5 37 "SealedLedger" "proof" "LSealedLedger$Pad;", .fieldLink RX5 41 "SealedLedger" "running" "Z", .code yX5_init cX5_init 1 none, .code yX5_isAccount cX5_isAccount 1 (some .boolean), .methodLink RX5 45 yX5_isAccount, .static yX5_isAccount, .initialized RX5, .constant RX5 49 (99999 : Int32), .code yX5_limit cX5_limit 3 (some .boolean), .code yX5_isAmount cX5_isAmount 1 (some .boolean), .fieldLink RX1 18 "SealedLedger$Draft" "count" "I", .code yX1_add cX1_add 3 (some .boolean), .methodLink RX5 50 yX5_isAmount, .static yX5_isAmount, .selects RX1 yX1_add yX1_add, .methodLink RX5 53 yX1_add, .instanceMethod yX1_add, .code yX5_leg cX5_leg 3 (some .boolean), .code yX1_clear cX1_clear 1 none, .selects RX1 yX1_clear yX1_clear, .methodLink RX5 57 yX1_clear]
def hw_l2 : List Cond := [.instanceMethod yX1_clear, .code yX5_drop cX5_drop 1 none, .code yX1_isEven cX1_isEven 3 (some .boolean), .fieldLink RX2 21 "SealedLedger$Log" "count" "I", .code yX2_firstWith cX2_firstWith 3 (some .int), .code yX1_size cX1_size 1 (some .int), .code yX1_accountAt cX1_accountAt 2 (some .int), .code yX2_size cX2_size 1 (some .int), .code yX2_accountCell cX2_accountCell 2 (some .int), .code yX2_amountCell cX2_amountCell 2 (some .int), .methodLink RX2 53 yX2_accountCell, .static yX2_accountCell, .methodLink RX2 60 yX2_amountCell, .static yX2_amountCell, .code yX2_totalAt cX2_totalAt 6 (some .int), .methodLink RX2 93 Lib.Math.min.name, .static Lib.Math.min.name, .initialized "java/lang/Math", .code Lib.Math.min.name Lib.Math.min.code 2 (some .int), .methodLink RX2 98 Lib.Math.max.name, .static Lib.Math.max.name, .code Lib.Math.max.name Lib.Math.max.code 2 (some .int), .selects RX2 yX2_totalAt yX2_totalAt, .methodLink RX2 101 yX2_totalAt, .instanceMethod yX2_totalAt, .code yX2_total cX2_total 8 (some .int), .code yX1_change cX1_change 4 (some .int), .selects RX1 yX1_size yX1_size, .methodLink RX5 157 yX1_size, .instanceMethod yX1_size, .selects RX1 yX1_accountAt yX1_accountAt, .methodLink RX5 158 yX1_accountAt]
def hw_l3 : List Cond := [.instanceMethod yX1_accountAt, .selects RX2 yX2_size yX2_size, .methodLink RX5 99 yX2_size, .instanceMethod yX2_size, .selects RX2 yX2_total yX2_total, .methodLink RX5 105 yX2_total, .instanceMethod yX2_total, .selects RX1 yX1_change yX1_change, .methodLink RX5 161 yX1_change, .instanceMethod yX1_change, .code yX5_isPoor cX5_isPoor 4 (some .boolean), .code yX5_entryCells cX5_entryCells 1 (some .int), .code yX1_amountAt cX1_amountAt 2 (some .int), .static yX5_entryCells, .code yX2_sealCell cX2_sealCell 2 (some .int), .fieldLink RX2 28 "SealedLedger$Log" "end" "I", .code yX2_lastSeal cX2_lastSeal 1 (some .int), .constant RX5 172 (16777619 : Int32), .constant RX5 173 (739982445 : Int32), .code yX5_mix cX5_mix 4 (some .int), .static yX5_mix, .code yX2_leafFrom cX2_leafFrom 4 (some .int), .selects RX2 yX2_leafFrom yX2_leafFrom, .methodLink RX2 72 yX2_leafFrom, .instanceMethod yX2_leafFrom, .code yX2_acceptNext cX2_acceptNext 1 none, .methodLink RX2 44 yX1_size, .selects RX2 yX2_sealCell yX2_sealCell, .methodLink RX2 66 yX2_sealCell, .instanceMethod yX2_sealCell, .selects RX2 yX2_lastSeal yX2_lastSeal, .methodLink RX2 69 yX2_lastSeal]
def hw_l4 : List Cond := [.instanceMethod yX2_lastSeal, .selects RX2 yX2_acceptNext yX2_acceptNext, .methodLink RX2 78 yX2_acceptNext, .instanceMethod yX2_acceptNext, .methodLink RX2 57 yX1_accountAt, .selects RX1 yX1_amountAt yX1_amountAt, .methodLink RX2 63 yX1_amountAt, .instanceMethod yX1_amountAt, .code yX2_append cX2_append 5 (some .boolean), .selects RX5 yX5_isPoor yX5_isPoor, .methodLink RX5 150 yX5_isPoor, .instanceMethod yX5_isPoor, .selects RX2 yX2_append yX2_append, .methodLink RX5 153 yX2_append, .instanceMethod yX2_append, .code yX5_commitNew cX5_commitNew 2 (some .int), .code yX2_hasLegsOf cX2_hasLegsOf 5 (some .boolean), .selects RX1 yX1_isEven yX1_isEven, .methodLink RX5 60 yX1_isEven, .instanceMethod yX1_isEven, .selects RX2 yX2_firstWith yX2_firstWith, .methodLink RX5 64 yX2_firstWith, .instanceMethod yX2_firstWith, .selects RX2 yX2_hasLegsOf yX2_hasLegsOf, .methodLink RX5 71 yX2_hasLegsOf, .instanceMethod yX2_hasLegsOf, .selects RX5 yX5_commitNew yX5_commitNew, .methodLink RX5 68 yX5_commitNew, .instanceMethod yX5_commitNew, .code yX5_commit cX5_commit 3 (some .int), .code yX2_blockOf cX2_blockOf 1 (some .int), .fieldLink RX2 35 "SealedLedger$Log" "syncedEnd" "I"]
def hw_l5 : List Cond := [.methodLink RX2 31 yX2_blockOf, .static yX2_blockOf, .code yX2_syncedBlock cX2_syncedBlock 1 (some .int), .code yX2_endBlock cX2_endBlock 1 (some .int), .code yX2_cellAt cX2_cellAt 2 (some .int), .fieldLink RX0 15 "SealedLedger$Disk" "failing" "I", .fieldLink RX0 19 "SealedLedger$Disk" "done" "I", .selects RX2 yX2_cellAt yX2_cellAt, .methodLink RX0 22 yX2_cellAt, .instanceMethod yX2_cellAt, .code yX0_write cX0_write 5 (some .boolean), .fieldLink RX2 25 "SealedLedger$Log" "syncedCount" "I", .code yX2_markSynced cX2_markSynced 1 none, .code yX2_clearBehindEnd cX2_clearBehindEnd 2 none, .selects RX2 yX2_markSynced yX2_markSynced, .methodLink RX2 38 yX2_markSynced, .instanceMethod yX2_markSynced, .selects RX2 yX2_clearBehindEnd yX2_clearBehindEnd, .methodLink RX2 41 yX2_clearBehindEnd, .instanceMethod yX2_clearBehindEnd, .code yX2_clear cX2_clear 1 none, .selects RX2 yX2_clear yX2_clear, .methodLink RX5 171 yX2_clear, .instanceMethod yX2_clear, .code yX5_losePower cX5_losePower 1 none, .selects RX0 yX0_write yX0_write, .methodLink RX5 164 yX0_write, .instanceMethod yX0_write, .selects RX5 yX5_losePower yX5_losePower, .methodLink RX5 168 yX5_losePower, .instanceMethod yX5_losePower, .code yX5_writeBlock cX5_writeBlock 2 (some .boolean)]
def hw_l6 : List Cond := [.selects RX2 yX2_syncedBlock yX2_syncedBlock, .methodLink RX5 75 yX2_syncedBlock, .instanceMethod yX2_syncedBlock, .selects RX2 yX2_endBlock yX2_endBlock, .methodLink RX5 79 yX2_endBlock, .instanceMethod yX2_endBlock, .methodLink RX5 85 yX2_markSynced, .selects RX5 yX5_writeBlock yX5_writeBlock, .methodLink RX5 82 yX5_writeBlock, .instanceMethod yX5_writeBlock, .code yX5_sync cX5_sync 4 (some .int), .code yX0_failAt cX0_failAt 2 none, .selects RX0 yX0_failAt yX0_failAt, .methodLink RX5 88 yX0_failAt, .instanceMethod yX0_failAt, .code yX5_fail cX5_fail 2 (some .boolean), .code yX0_cellAt cX0_cellAt 2 (some .int), .code yX2_nextFits cX2_nextFits 1 (some .boolean), .code yX2_nextLegsAreSound cX2_nextLegsAreSound 4 (some .boolean), .selects RX2 yX2_nextFits yX2_nextFits, .methodLink RX2 105 yX2_nextFits, .instanceMethod yX2_nextFits, .selects RX2 yX2_nextLegsAreSound yX2_nextLegsAreSound, .methodLink RX2 108 yX2_nextLegsAreSound, .instanceMethod yX2_nextLegsAreSound, .code yX2_nextIsSound cX2_nextIsSound 1 (some .boolean), .methodLink RX2 81 yX2_clear, .selects RX0 yX0_cellAt yX0_cellAt, .methodLink RX2 84 yX0_cellAt, .instanceMethod yX0_cellAt, .selects RX2 yX2_nextIsSound yX2_nextIsSound, .methodLink RX2 89 yX2_nextIsSound]
def hw_l7 : List Cond := [.instanceMethod yX2_nextIsSound, .code yX2_load cX2_load 3 none, .code yX2_endsInBlock cX2_endsInBlock 1 (some .boolean), .selects RX2 yX2_load yX2_load, .methodLink RX5 92 yX2_load, .instanceMethod yX2_load, .selects RX2 yX2_endsInBlock yX2_endsInBlock, .methodLink RX5 96 yX2_endsInBlock, .instanceMethod yX2_endsInBlock, .code yX5_recover cX5_recover 1 (some .int), .code yX5_on cX5_on 1 (some .boolean), .code yX5_entries cX5_entries 1 (some .int), .code yX2_syncedSize cX2_syncedSize 1 (some .int), .selects RX2 yX2_syncedSize yX2_syncedSize, .methodLink RX5 102 yX2_syncedSize, .instanceMethod yX2_syncedSize, .code yX5_synced cX5_synced 1 (some .int), .code yX5_balance cX5_balance 3 (some .int), .code yX5_statement cX5_statement 5 (some .int), .code yX5_find cX5_find 2 (some .int), .code yX2_leafOf cX2_leafOf 2 (some .int), .selects RX2 yX2_leafOf yX2_leafOf, .methodLink RX5 109 yX2_leafOf, .instanceMethod yX2_leafOf, .code yX5_leaf cX5_leaf 2 (some .int), .code yX5_split cX5_split 3 (some .int), .methodLink RX5 174 yX5_mix, .code yX5_node cX5_node 2 (some .int), .methodLink RX4 27 yX2_leafOf, .static yX5_split, .code yX4_hash cX4_hash 5 (some .int), .methodLink RX4 13 yX4_hash]
def hw_l8 : List Cond := [.static yX4_hash, .initialized RX4, .static yX5_node, .code yX4_headOf cX4_headOf 2 (some .int), .methodLink RX5 112 yX4_headOf, .static yX4_headOf, .code yX5_head cX5_head 2 (some .int), .fieldLink RX3 15 "SealedLedger$Pad" "count" "I", .code yX3_clear cX3_clear 1 none, .code yX3_add cX3_add 2 (some .boolean), .code yX4_inclusion cX4_inclusion 7 none, .methodLink RX4 19 yX4_inclusion, .static yX4_inclusion, .selects RX3 yX3_add yX3_add, .methodLink RX4 39 yX3_add, .instanceMethod yX3_add, .code yX4_addInclusion cX4_addInclusion 4 none, .code yX3_length cX3_length 1 (some .int), .selects RX3 yX3_clear yX3_clear, .methodLink RX5 118 yX3_clear, .instanceMethod yX3_clear, .methodLink RX5 119 yX4_addInclusion, .static yX4_addInclusion, .selects RX3 yX3_length yX3_length, .methodLink RX5 123 yX3_length, .instanceMethod yX3_length, .code yX5_prove cX5_prove 3 (some .int), .code yX4_consistency cX4_consistency 8 none, .methodLink RX4 23 yX4_consistency, .static yX4_consistency, .code yX4_addConsistency cX4_addConsistency 4 none, .methodLink RX5 126 yX4_addConsistency]
def hw_l9 : List Cond := [.static yX4_addConsistency, .code yX5_extend cX5_extend 3 (some .int), .methodLink RX5 129 yX3_add, .code yX5_put cX5_put 2 (some .boolean), .code yX3_removeLast cX3_removeLast 1 (some .boolean), .selects RX3 yX3_removeLast yX3_removeLast, .methodLink RX5 131 yX3_removeLast, .instanceMethod yX3_removeLast, .code yX5_take cX5_take 1 (some .boolean), .code yX3_intAt cX3_intAt 2 (some .int), .selects RX3 yX3_intAt yX3_intAt, .methodLink RX5 134 yX3_intAt, .instanceMethod yX3_intAt, .code yX5_pad cX5_pad 2 (some .int), .code yX3_inclusionLength cX3_inclusionLength 4 (some .int), .methodLink RX3 34 yX3_intAt, .code yX3_shownAbove cX3_shownAbove 7 (some .int), .methodLink RX3 23 yX3_shownAbove, .static yX3_shownAbove, .methodLink RX3 19 yX3_inclusionLength, .static yX3_inclusionLength, .code yX3_showsInclusion cX3_showsInclusion 5 (some .boolean), .selects RX3 yX3_showsInclusion yX3_showsInclusion, .methodLink RX5 137 yX3_showsInclusion, .instanceMethod yX3_showsInclusion, .code yX5_included cX5_included 5 (some .boolean), .code yX3_consistencySteps cX3_consistencySteps 4 (some .int), .code yX3_isOwn cX3_isOwn 3 (some .boolean), .code yX3_shownOld cX3_shownOld 6 (some .int), .methodLink RX3 38 yX3_shownOld, .static yX3_shownOld, .code yX3_shownNew cX3_shownNew 7 (some .int)]
def hw_l10 : List Cond := [.methodLink RX3 41 yX3_shownNew, .static yX3_shownNew, .methodLink RX3 27 yX3_consistencySteps, .static yX3_consistencySteps, .methodLink RX3 30 yX3_isOwn, .static yX3_isOwn, .code yX3_showsConsistency cX3_showsConsistency 8 (some .boolean), .selects RX3 yX3_showsConsistency yX3_showsConsistency, .methodLink RX5 141 yX3_showsConsistency, .instanceMethod yX3_showsConsistency, .code yX5_consistent cX5_consistent 5 (some .boolean), .methodLink RX5 144 yX0_cellAt, .code yX5_cell cX5_cell 2 (some .int), .code yX0_writesDone cX0_writesDone 1 (some .int), .selects RX0 yX0_writesDone yX0_writesDone, .methodLink RX5 147 yX0_writesDone, .instanceMethod yX0_writesDone, .code yX5_writes cX5_writes 1 (some .int), .methodLink RX6 1 objectInit, .fieldLink RX6 7 "SealedLedgerModel" "keys" "[I", .fieldLink RX6 13 "SealedLedgerModel" "legs" "[I", .fieldLink RX6 16 "SealedLedgerModel" "account" "[I", .fieldLink RX6 19 "SealedLedgerModel" "amount" "[I", .fieldLink RX6 22 "SealedLedgerModel" "seals" "[I", .fieldLink RX6 25 "SealedLedgerModel" "ends" "[I", .fieldLink RX6 28 "SealedLedgerModel" "draftAccount" "[I", .fieldLink RX6 31 "SealedLedgerModel" "draftAmount" "[I", .fieldLink RX6 34 "SealedLedgerModel" "limits" "[I", .fieldLink RX6 37 "SealedLedgerModel" "disk" "[I", .fieldLink RX6 40 "SealedLedgerModel" "pad" "[I", .fieldLink RX6 43 "SealedLedgerModel" "stack" "[I", .arrayClass .boolean]
def hw_l11 : List Cond := [.fieldLink RX6 46 "SealedLedgerModel" "firsts" "[Z", .fieldLink RX6 50 "SealedLedgerModel" "others" "[I", .code yX6_init cX6_init 1 none, .constant RX6 53 (16777619 : Int32), .constant RX6 54 (739982445 : Int32), .code yX6_mix cX6_mix 4 (some .int), .methodLink RX6 55 yX6_mix, .static yX6_mix, .initialized RX6, .code yX6_node cX6_node 2 (some .int), .code yX6_isAccount cX6_isAccount 1 (some .boolean), .methodLink RX6 59 yX6_isAccount, .static yX6_isAccount, .constant RX6 63 (99999 : Int32), .code yX6_limit cX6_limit 3 (some .boolean), .fieldLink RX6 64 "SealedLedgerModel" "off" "Z", .fieldLink RX6 68 "SealedLedgerModel" "draft" "I", .code yX6_leg cX6_leg 3 (some .boolean), .code yX6_drop cX6_drop 1 none, .code yX6_leafOf cX6_leafOf 4 (some .int), .selects RX6 yX6_leafOf yX6_leafOf, .methodLink RX6 72 yX6_leafOf, .instanceMethod yX6_leafOf, .code yX6_sealOf cX6_sealOf 2 (some .int), .code yX6_sameLegs cX6_sameLegs 4 (some .boolean), .code yX6_total cX6_total 3 (some .int), .fieldLink RX6 76 "SealedLedgerModel" "count" "I", .code yX6_statement cX6_statement 8 (some .int), .selects RX6 yX6_statement yX6_statement, .methodLink RX6 120 yX6_statement, .instanceMethod yX6_statement, .code yX6_balance cX6_balance 3 (some .int)]
def hw_l12 : List Cond := [.selects RX6 yX6_balance yX6_balance, .methodLink RX6 79 yX6_balance, .instanceMethod yX6_balance, .code yX6_poor cX6_poor 5 (some .boolean), .code yX6_find cX6_find 3 (some .int), .selects RX6 yX6_find yX6_find, .methodLink RX6 82 yX6_find, .instanceMethod yX6_find, .selects RX6 yX6_total yX6_total, .methodLink RX6 88 yX6_total, .instanceMethod yX6_total, .selects RX6 yX6_poor yX6_poor, .methodLink RX6 92 yX6_poor, .instanceMethod yX6_poor, .selects RX6 yX6_sameLegs yX6_sameLegs, .methodLink RX6 85 yX6_sameLegs, .instanceMethod yX6_sameLegs, .selects RX6 yX6_sealOf yX6_sealOf, .methodLink RX6 96 yX6_sealOf, .instanceMethod yX6_sealOf, .code yX6_commit cX6_commit 4 (some .int), .code yX6_logged cX6_logged 5 (some .int), .fieldLink RX6 99 "SealedLedgerModel" "failing" "I", .fieldLink RX6 102 "SealedLedgerModel" "synced" "I", .fieldLink RX6 108 "SealedLedgerModel" "written" "I", .selects RX6 yX6_logged yX6_logged, .methodLink RX6 105 yX6_logged, .instanceMethod yX6_logged, .code yX6_write cX6_write 3 (some .boolean), .fieldLink RX6 111 "SealedLedgerModel" "syncedEnd" "I", .selects RX6 yX6_write yX6_write, .methodLink RX6 114 yX6_write]
def hw_l13 : List Cond := [.instanceMethod yX6_write, .code yX6_sync cX6_sync 4 (some .int), .code yX6_fail cX6_fail 2 (some .boolean), .code yX6_sound cX6_sound 8 (some .boolean), .selects RX6 yX6_sound yX6_sound, .methodLink RX6 117 yX6_sound, .instanceMethod yX6_sound, .code yX6_recover cX6_recover 1 (some .int), .code yX6_on cX6_on 1 (some .boolean), .code yX6_entries cX6_entries 1 (some .int), .code yX6_synced cX6_synced 1 (some .int), .code yX6_leaf cX6_leaf 2 (some .int), .methodLink RX6 124 yX6_node, .static yX6_node, .code yX6_hash cX6_hash 7 (some .int), .selects RX6 yX6_hash yX6_hash, .methodLink RX6 127 yX6_hash, .instanceMethod yX6_hash, .code yX6_head cX6_head 2 (some .int), .code yX6_part cX6_part 2 (some .int), .fieldLink RX6 130 "SealedLedgerModel" "padded" "I", .code yX6_lay cX6_lay 2 none, .methodLink RX6 133 yX6_part, .static yX6_part, .selects RX6 yX6_lay yX6_lay, .methodLink RX6 136 yX6_lay, .instanceMethod yX6_lay, .code yX6_prove cX6_prove 9 (some .int), .code yX6_extend cX6_extend 10 (some .int), .code yX6_put cX6_put 2 (some .boolean), .code yX6_take cX6_take 1 (some .boolean), .code yX6_pad cX6_pad 2 (some .int)]
def hw_l14 : List Cond := [.code yX6_included cX6_included 10 (some .boolean), .code yX6_consistent cX6_consistent 14 (some .boolean), .code yX6_cell cX6_cell 2 (some .int), .code yX6_writes cX6_writes 1 (some .int)]
def hw_all : List Cond := hw_l0 ++ (hw_l1 ++ (hw_l2 ++ (hw_l3 ++ (hw_l4 ++ (hw_l5 ++ (hw_l6 ++ (hw_l7 ++ (hw_l8 ++ (hw_l9 ++ (hw_l10 ++ (hw_l11 ++ (hw_l12 ++ (hw_l13 ++ (hw_l14 ++ (u_ws RX0 TX0 3 ++ (u_ws RX1 TX1 3 ++ (u_ws RX2 TX2 7 ++ (u_ws RX3 TX3 2 ++ (u_ws RX5 TX5 6 ++ (u_ws RX6 TX6 22))))))))))))))))))))
theorem hw_i0 {w : Cond} (h : w ∈ hw_l0) : w ∈ hw_all := List.mem_append_left _ h
theorem hw_i1 {w : Cond} (h : w ∈ hw_l1) : w ∈ hw_all := List.mem_append_right _ (List.mem_append_left _ h)
theorem hw_i2 {w : Cond} (h : w ∈ hw_l2) : w ∈ hw_all := List.mem_append_right _ (List.mem_append_right _ (List.mem_append_left _ h))
theorem hw_i3 {w : Cond} (h : w ∈ hw_l3) : w ∈ hw_all := List.mem_append_right _ (List.mem_append_right _ (List.mem_append_right _ (List.mem_append_left _ h)))
theorem hw_i4 {w : Cond} (h : w ∈ hw_l4) : w ∈ hw_all := List.mem_append_right _ (List.mem_append_right _ (List.mem_append_right _ (List.mem_append_right _ (List.mem_append_left _ h))))
theorem hw_i5 {w : Cond} (h : w ∈ hw_l5) : w ∈ hw_all := List.mem_append_right _ (List.mem_append_right _ (List.mem_append_right _ (List.mem_append_right _ (List.mem_append_right _ (List.mem_append_left _ h)))))
theorem hw_i6 {w : Cond} (h : w ∈ hw_l6) : w ∈ hw_all := List.mem_append_right _ (List.mem_append_right _ (List.mem_append_right _ (List.mem_append_right _ (List.mem_append_right _ (List.mem_append_right _ (List.mem_append_left _ h))))))
theorem hw_i7 {w : Cond} (h : w ∈ hw_l7) : w ∈ hw_all := List.mem_append_right _ (List.mem_append_right _ (List.mem_append_right _ (List.mem_append_right _ (List.mem_append_right _ (List.mem_append_right _ (List.mem_append_right _ (List.mem_append_left _ h)))))))
theorem hw_i8 {w : Cond} (h : w ∈ hw_l8) : w ∈ hw_all := List.mem_append_right _ (List.mem_append_right _ (List.mem_append_right _ (List.mem_append_right _ (List.mem_append_right _ (List.mem_append_right _ (List.mem_append_right _ (List.mem_append_right _ (List.mem_append_left _ h))))))))
theorem hw_i9 {w : Cond} (h : w ∈ hw_l9) : w ∈ hw_all := List.mem_append_right _ (List.mem_append_right _ (List.mem_append_right _ (List.mem_append_right _ (List.mem_append_right _ (List.mem_append_right _ (List.mem_append_right _ (List.mem_append_right _ (List.mem_append_right _ (List.mem_append_left _ h)))))))))
theorem hw_i10 {w : Cond} (h : w ∈ hw_l10) : w ∈ hw_all := List.mem_append_right _ (List.mem_append_right _ (List.mem_append_right _ (List.mem_append_right _ (List.mem_append_right _ (List.mem_append_right _ (List.mem_append_right _ (List.mem_append_right _ (List.mem_append_right _ (List.mem_append_right _ (List.mem_append_left _ h))))))))))
theorem hw_i11 {w : Cond} (h : w ∈ hw_l11) : w ∈ hw_all := List.mem_append_right _ (List.mem_append_right _ (List.mem_append_right _ (List.mem_append_right _ (List.mem_append_right _ (List.mem_append_right _ (List.mem_append_right _ (List.mem_append_right _ (List.mem_append_right _ (List.mem_append_right _ (List.mem_append_right _ (List.mem_append_left _ h)))))))))))
theorem hw_i12 {w : Cond} (h : w ∈ hw_l12) : w ∈ hw_all := List.mem_append_right _ (List.mem_append_right _ (List.mem_append_right _ (List.mem_append_right _ (List.mem_append_right _ (List.mem_append_right _ (List.mem_append_right _ (List.mem_append_right _ (List.mem_append_right _ (List.mem_append_right _ (List.mem_append_right _ (List.mem_append_right _ (List.mem_append_left _ h))))))))))))
theorem hw_i13 {w : Cond} (h : w ∈ hw_l13) : w ∈ hw_all := List.mem_append_right _ (List.mem_append_right _ (List.mem_append_right _ (List.mem_append_right _ (List.mem_append_right _ (List.mem_append_right _ (List.mem_append_right _ (List.mem_append_right _ (List.mem_append_right _ (List.mem_append_right _ (List.mem_append_right _ (List.mem_append_right _ (List.mem_append_right _ (List.mem_append_left _ h)))))))))))))
theorem hw_i14 {w : Cond} (h : w ∈ hw_l14) : w ∈ hw_all := List.mem_append_right _ (List.mem_append_right _ (List.mem_append_right _ (List.mem_append_right _ (List.mem_append_right _ (List.mem_append_right _ (List.mem_append_right _ (List.mem_append_right _ (List.mem_append_right _ (List.mem_append_right _ (List.mem_append_right _ (List.mem_append_right _ (List.mem_append_right _ (List.mem_append_right _ (List.mem_append_left _ h))))))))))))))
theorem in_X0 : ∀ w ∈ u_ws RX0 TX0 3, w ∈ hw_all := fun w h => List.mem_append_right _ (List.mem_append_right _ (List.mem_append_right _ (List.mem_append_right _ (List.mem_append_right _ (List.mem_append_right _ (List.mem_append_right _ (List.mem_append_right _ (List.mem_append_right _ (List.mem_append_right _ (List.mem_append_right _ (List.mem_append_right _ (List.mem_append_right _ (List.mem_append_right _ (List.mem_append_right _ (List.mem_append_left _ h)))))))))))))))
theorem in_X1 : ∀ w ∈ u_ws RX1 TX1 3, w ∈ hw_all := fun w h => List.mem_append_right _ (List.mem_append_right _ (List.mem_append_right _ (List.mem_append_right _ (List.mem_append_right _ (List.mem_append_right _ (List.mem_append_right _ (List.mem_append_right _ (List.mem_append_right _ (List.mem_append_right _ (List.mem_append_right _ (List.mem_append_right _ (List.mem_append_right _ (List.mem_append_right _ (List.mem_append_right _ (List.mem_append_right _ (List.mem_append_left _ h))))))))))))))))
theorem in_X2 : ∀ w ∈ u_ws RX2 TX2 7, w ∈ hw_all := fun w h => List.mem_append_right _ (List.mem_append_right _ (List.mem_append_right _ (List.mem_append_right _ (List.mem_append_right _ (List.mem_append_right _ (List.mem_append_right _ (List.mem_append_right _ (List.mem_append_right _ (List.mem_append_right _ (List.mem_append_right _ (List.mem_append_right _ (List.mem_append_right _ (List.mem_append_right _ (List.mem_append_right _ (List.mem_append_right _ (List.mem_append_right _ (List.mem_append_left _ h)))))))))))))))))
theorem in_X3 : ∀ w ∈ u_ws RX3 TX3 2, w ∈ hw_all := fun w h => List.mem_append_right _ (List.mem_append_right _ (List.mem_append_right _ (List.mem_append_right _ (List.mem_append_right _ (List.mem_append_right _ (List.mem_append_right _ (List.mem_append_right _ (List.mem_append_right _ (List.mem_append_right _ (List.mem_append_right _ (List.mem_append_right _ (List.mem_append_right _ (List.mem_append_right _ (List.mem_append_right _ (List.mem_append_right _ (List.mem_append_right _ (List.mem_append_right _ (List.mem_append_left _ h))))))))))))))))))
theorem in_X5 : ∀ w ∈ u_ws RX5 TX5 6, w ∈ hw_all := fun w h => List.mem_append_right _ (List.mem_append_right _ (List.mem_append_right _ (List.mem_append_right _ (List.mem_append_right _ (List.mem_append_right _ (List.mem_append_right _ (List.mem_append_right _ (List.mem_append_right _ (List.mem_append_right _ (List.mem_append_right _ (List.mem_append_right _ (List.mem_append_right _ (List.mem_append_right _ (List.mem_append_right _ (List.mem_append_right _ (List.mem_append_right _ (List.mem_append_right _ (List.mem_append_right _ (List.mem_append_left _ h)))))))))))))))))))
theorem in_X6 : ∀ w ∈ u_ws RX6 TX6 22, w ∈ hw_all := fun w h => List.mem_append_right _ (List.mem_append_right _ (List.mem_append_right _ (List.mem_append_right _ (List.mem_append_right _ (List.mem_append_right _ (List.mem_append_right _ (List.mem_append_right _ (List.mem_append_right _ (List.mem_append_right _ (List.mem_append_right _ (List.mem_append_right _ (List.mem_append_right _ (List.mem_append_right _ (List.mem_append_right _ (List.mem_append_right _ (List.mem_append_right _ (List.mem_append_right _ (List.mem_append_right _ (List.mem_append_right _ (h))))))))))))))))))))
theorem mw_0 : (.methodLink RX1 3 objectInit : Cond) ∈ hw_all := hw_i0 (List.mem_of_getElem? (i := 0) rfl)
theorem mw_1 : (.instanceMethod objectInit : Cond) ∈ hw_all := hw_i0 (List.mem_of_getElem? (i := 1) rfl)
theorem mw_2 : (.code objectInit ⟨#[0xb1]⟩ 1 none : Cond) ∈ hw_all := hw_i0 (List.mem_of_getElem? (i := 2) rfl)
theorem mw_3 : (.arrayClass .int : Cond) ∈ hw_all := hw_i0 (List.mem_of_getElem? (i := 3) rfl)
theorem mw_4 : (.fieldLink RX1 9 "SealedLedger$Draft" "accounts" "[I" : Cond) ∈ hw_all := hw_i0 (List.mem_of_getElem? (i := 4) rfl)
theorem mw_5 : (.fieldLink RX1 15 "SealedLedger$Draft" "amounts" "[I" : Cond) ∈ hw_all := hw_i0 (List.mem_of_getElem? (i := 5) rfl)
theorem mw_6 : (.code yX1_init cX1_init 1 none : Cond) ∈ hw_all := hw_i0 (List.mem_of_getElem? (i := 6) rfl)
theorem mw_7 : (.methodLink RX2 3 objectInit : Cond) ∈ hw_all := hw_i0 (List.mem_of_getElem? (i := 7) rfl)
theorem mw_8 : (.fieldLink RX2 9 "SealedLedger$Log" "cells" "[I" : Cond) ∈ hw_all := hw_i0 (List.mem_of_getElem? (i := 8) rfl)
theorem mw_9 : (.fieldLink RX2 15 "SealedLedger$Log" "starts" "[I" : Cond) ∈ hw_all := hw_i0 (List.mem_of_getElem? (i := 9) rfl)
theorem mw_10 : (.fieldLink RX2 18 "SealedLedger$Log" "leaves" "[I" : Cond) ∈ hw_all := hw_i0 (List.mem_of_getElem? (i := 10) rfl)
theorem mw_11 : (.code yX2_init cX2_init 1 none : Cond) ∈ hw_all := hw_i0 (List.mem_of_getElem? (i := 11) rfl)
theorem mw_12 : (.methodLink RX0 3 objectInit : Cond) ∈ hw_all := hw_i0 (List.mem_of_getElem? (i := 12) rfl)
theorem mw_13 : (.fieldLink RX0 9 "SealedLedger$Disk" "cells" "[I" : Cond) ∈ hw_all := hw_i0 (List.mem_of_getElem? (i := 13) rfl)
theorem mw_14 : (.code yX0_init cX0_init 1 none : Cond) ∈ hw_all := hw_i0 (List.mem_of_getElem? (i := 14) rfl)
theorem mw_15 : (.methodLink RX3 3 objectInit : Cond) ∈ hw_all := hw_i0 (List.mem_of_getElem? (i := 15) rfl)
theorem mw_16 : (.fieldLink RX3 9 "SealedLedger$Pad" "ints" "[I" : Cond) ∈ hw_all := hw_i0 (List.mem_of_getElem? (i := 16) rfl)
theorem mw_17 : (.code yX3_init cX3_init 1 none : Cond) ∈ hw_all := hw_i0 (List.mem_of_getElem? (i := 17) rfl)
theorem mw_18 : (.methodLink RX5 3 objectInit : Cond) ∈ hw_all := hw_i0 (List.mem_of_getElem? (i := 18) rfl)
theorem mw_19 : (.fieldLink RX5 9 "SealedLedger" "limits" "[I" : Cond) ∈ hw_all := hw_i0 (List.mem_of_getElem? (i := 19) rfl)
theorem mw_20 : (.classLink RX5 13 RX1 : Cond) ∈ hw_all := hw_i0 (List.mem_of_getElem? (i := 20) rfl)
theorem mw_21 : (.instantiable RX1 3 : Cond) ∈ hw_all := hw_i0 (List.mem_of_getElem? (i := 21) rfl)
theorem mw_22 : (.initialized RX1 : Cond) ∈ hw_all := hw_i0 (List.mem_of_getElem? (i := 22) rfl)
theorem mw_23 : (.methodLink RX5 15 yX1_init : Cond) ∈ hw_all := hw_i0 (List.mem_of_getElem? (i := 23) rfl)
theorem mw_24 : (.instanceMethod yX1_init : Cond) ∈ hw_all := hw_i0 (List.mem_of_getElem? (i := 24) rfl)
theorem mw_25 : (.fieldLink RX5 16 "SealedLedger" "draft" "LSealedLedger$Draft;" : Cond) ∈ hw_all := hw_i0 (List.mem_of_getElem? (i := 25) rfl)
theorem mw_26 : (.classLink RX5 20 RX2 : Cond) ∈ hw_all := hw_i0 (List.mem_of_getElem? (i := 26) rfl)
theorem mw_27 : (.instantiable RX2 7 : Cond) ∈ hw_all := hw_i0 (List.mem_of_getElem? (i := 27) rfl)
theorem mw_28 : (.initialized RX2 : Cond) ∈ hw_all := hw_i0 (List.mem_of_getElem? (i := 28) rfl)
theorem mw_29 : (.methodLink RX5 22 yX2_init : Cond) ∈ hw_all := hw_i0 (List.mem_of_getElem? (i := 29) rfl)
theorem mw_30 : (.instanceMethod yX2_init : Cond) ∈ hw_all := hw_i0 (List.mem_of_getElem? (i := 30) rfl)
theorem mw_31 : (.fieldLink RX5 23 "SealedLedger" "log" "LSealedLedger$Log;" : Cond) ∈ hw_all := hw_i0 (List.mem_of_getElem? (i := 31) rfl)
theorem mw_32 : (.classLink RX5 27 RX0 : Cond) ∈ hw_all := hw_i1 (List.mem_of_getElem? (i := 0) rfl)
theorem mw_33 : (.instantiable RX0 3 : Cond) ∈ hw_all := hw_i1 (List.mem_of_getElem? (i := 1) rfl)
theorem mw_34 : (.initialized RX0 : Cond) ∈ hw_all := hw_i1 (List.mem_of_getElem? (i := 2) rfl)
theorem mw_35 : (.methodLink RX5 29 yX0_init : Cond) ∈ hw_all := hw_i1 (List.mem_of_getElem? (i := 3) rfl)
theorem mw_36 : (.instanceMethod yX0_init : Cond) ∈ hw_all := hw_i1 (List.mem_of_getElem? (i := 4) rfl)
theorem mw_37 : (.fieldLink RX5 30 "SealedLedger" "disk" "LSealedLedger$Disk;" : Cond) ∈ hw_all := hw_i1 (List.mem_of_getElem? (i := 5) rfl)
theorem mw_38 : (.classLink RX5 34 RX3 : Cond) ∈ hw_all := hw_i1 (List.mem_of_getElem? (i := 6) rfl)
theorem mw_39 : (.instantiable RX3 2 : Cond) ∈ hw_all := hw_i1 (List.mem_of_getElem? (i := 7) rfl)
theorem mw_40 : (.initialized RX3 : Cond) ∈ hw_all := hw_i1 (List.mem_of_getElem? (i := 8) rfl)
theorem mw_41 : (.methodLink RX5 36 yX3_init : Cond) ∈ hw_all := hw_i1 (List.mem_of_getElem? (i := 9) rfl)
theorem mw_42 : (.instanceMethod yX3_init : Cond) ∈ hw_all := hw_i1 (List.mem_of_getElem? (i := 10) rfl)
theorem mw_43 : (.fieldLink RX5 37 "SealedLedger" "proof" "LSealedLedger$Pad;" : Cond) ∈ hw_all := hw_i1 (List.mem_of_getElem? (i := 11) rfl)
theorem mw_44 : (.fieldLink RX5 41 "SealedLedger" "running" "Z" : Cond) ∈ hw_all := hw_i1 (List.mem_of_getElem? (i := 12) rfl)
theorem mw_45 : (.code yX5_init cX5_init 1 none : Cond) ∈ hw_all := hw_i1 (List.mem_of_getElem? (i := 13) rfl)
theorem mw_46 : (.code yX5_isAccount cX5_isAccount 1 (some .boolean) : Cond) ∈ hw_all := hw_i1 (List.mem_of_getElem? (i := 14) rfl)
theorem mw_47 : (.methodLink RX5 45 yX5_isAccount : Cond) ∈ hw_all := hw_i1 (List.mem_of_getElem? (i := 15) rfl)
theorem mw_48 : (.static yX5_isAccount : Cond) ∈ hw_all := hw_i1 (List.mem_of_getElem? (i := 16) rfl)
theorem mw_49 : (.initialized RX5 : Cond) ∈ hw_all := hw_i1 (List.mem_of_getElem? (i := 17) rfl)
theorem mw_50 : (.constant RX5 49 (99999 : Int32) : Cond) ∈ hw_all := hw_i1 (List.mem_of_getElem? (i := 18) rfl)
theorem mw_51 : (.code yX5_limit cX5_limit 3 (some .boolean) : Cond) ∈ hw_all := hw_i1 (List.mem_of_getElem? (i := 19) rfl)
theorem mw_52 : (.code yX5_isAmount cX5_isAmount 1 (some .boolean) : Cond) ∈ hw_all := hw_i1 (List.mem_of_getElem? (i := 20) rfl)
theorem mw_53 : (.fieldLink RX1 18 "SealedLedger$Draft" "count" "I" : Cond) ∈ hw_all := hw_i1 (List.mem_of_getElem? (i := 21) rfl)
theorem mw_54 : (.code yX1_add cX1_add 3 (some .boolean) : Cond) ∈ hw_all := hw_i1 (List.mem_of_getElem? (i := 22) rfl)
theorem mw_55 : (.methodLink RX5 50 yX5_isAmount : Cond) ∈ hw_all := hw_i1 (List.mem_of_getElem? (i := 23) rfl)
theorem mw_56 : (.static yX5_isAmount : Cond) ∈ hw_all := hw_i1 (List.mem_of_getElem? (i := 24) rfl)
theorem mw_57 : (.selects RX1 yX1_add yX1_add : Cond) ∈ hw_all := hw_i1 (List.mem_of_getElem? (i := 25) rfl)
theorem mw_58 : (.methodLink RX5 53 yX1_add : Cond) ∈ hw_all := hw_i1 (List.mem_of_getElem? (i := 26) rfl)
theorem mw_59 : (.instanceMethod yX1_add : Cond) ∈ hw_all := hw_i1 (List.mem_of_getElem? (i := 27) rfl)
theorem mw_60 : (.code yX5_leg cX5_leg 3 (some .boolean) : Cond) ∈ hw_all := hw_i1 (List.mem_of_getElem? (i := 28) rfl)
theorem mw_61 : (.code yX1_clear cX1_clear 1 none : Cond) ∈ hw_all := hw_i1 (List.mem_of_getElem? (i := 29) rfl)
theorem mw_62 : (.selects RX1 yX1_clear yX1_clear : Cond) ∈ hw_all := hw_i1 (List.mem_of_getElem? (i := 30) rfl)
theorem mw_63 : (.methodLink RX5 57 yX1_clear : Cond) ∈ hw_all := hw_i1 (List.mem_of_getElem? (i := 31) rfl)
theorem mw_64 : (.instanceMethod yX1_clear : Cond) ∈ hw_all := hw_i2 (List.mem_of_getElem? (i := 0) rfl)
theorem mw_65 : (.code yX5_drop cX5_drop 1 none : Cond) ∈ hw_all := hw_i2 (List.mem_of_getElem? (i := 1) rfl)
theorem mw_66 : (.code yX1_isEven cX1_isEven 3 (some .boolean) : Cond) ∈ hw_all := hw_i2 (List.mem_of_getElem? (i := 2) rfl)
theorem mw_67 : (.fieldLink RX2 21 "SealedLedger$Log" "count" "I" : Cond) ∈ hw_all := hw_i2 (List.mem_of_getElem? (i := 3) rfl)
theorem mw_68 : (.code yX2_firstWith cX2_firstWith 3 (some .int) : Cond) ∈ hw_all := hw_i2 (List.mem_of_getElem? (i := 4) rfl)
theorem mw_69 : (.code yX1_size cX1_size 1 (some .int) : Cond) ∈ hw_all := hw_i2 (List.mem_of_getElem? (i := 5) rfl)
theorem mw_70 : (.code yX1_accountAt cX1_accountAt 2 (some .int) : Cond) ∈ hw_all := hw_i2 (List.mem_of_getElem? (i := 6) rfl)
theorem mw_71 : (.code yX2_size cX2_size 1 (some .int) : Cond) ∈ hw_all := hw_i2 (List.mem_of_getElem? (i := 7) rfl)
theorem mw_72 : (.code yX2_accountCell cX2_accountCell 2 (some .int) : Cond) ∈ hw_all := hw_i2 (List.mem_of_getElem? (i := 8) rfl)
theorem mw_73 : (.code yX2_amountCell cX2_amountCell 2 (some .int) : Cond) ∈ hw_all := hw_i2 (List.mem_of_getElem? (i := 9) rfl)
theorem mw_74 : (.methodLink RX2 53 yX2_accountCell : Cond) ∈ hw_all := hw_i2 (List.mem_of_getElem? (i := 10) rfl)
theorem mw_75 : (.static yX2_accountCell : Cond) ∈ hw_all := hw_i2 (List.mem_of_getElem? (i := 11) rfl)
theorem mw_76 : (.methodLink RX2 60 yX2_amountCell : Cond) ∈ hw_all := hw_i2 (List.mem_of_getElem? (i := 12) rfl)
theorem mw_77 : (.static yX2_amountCell : Cond) ∈ hw_all := hw_i2 (List.mem_of_getElem? (i := 13) rfl)
theorem mw_78 : (.code yX2_totalAt cX2_totalAt 6 (some .int) : Cond) ∈ hw_all := hw_i2 (List.mem_of_getElem? (i := 14) rfl)
theorem mw_79 : (.methodLink RX2 93 Lib.Math.min.name : Cond) ∈ hw_all := hw_i2 (List.mem_of_getElem? (i := 15) rfl)
theorem mw_80 : (.static Lib.Math.min.name : Cond) ∈ hw_all := hw_i2 (List.mem_of_getElem? (i := 16) rfl)
theorem mw_81 : (.initialized "java/lang/Math" : Cond) ∈ hw_all := hw_i2 (List.mem_of_getElem? (i := 17) rfl)
theorem mw_82 : (.code Lib.Math.min.name Lib.Math.min.code 2 (some .int) : Cond) ∈ hw_all := hw_i2 (List.mem_of_getElem? (i := 18) rfl)
theorem mw_83 : (.methodLink RX2 98 Lib.Math.max.name : Cond) ∈ hw_all := hw_i2 (List.mem_of_getElem? (i := 19) rfl)
theorem mw_84 : (.static Lib.Math.max.name : Cond) ∈ hw_all := hw_i2 (List.mem_of_getElem? (i := 20) rfl)
theorem mw_85 : (.code Lib.Math.max.name Lib.Math.max.code 2 (some .int) : Cond) ∈ hw_all := hw_i2 (List.mem_of_getElem? (i := 21) rfl)
theorem mw_86 : (.selects RX2 yX2_totalAt yX2_totalAt : Cond) ∈ hw_all := hw_i2 (List.mem_of_getElem? (i := 22) rfl)
theorem mw_87 : (.methodLink RX2 101 yX2_totalAt : Cond) ∈ hw_all := hw_i2 (List.mem_of_getElem? (i := 23) rfl)
theorem mw_88 : (.instanceMethod yX2_totalAt : Cond) ∈ hw_all := hw_i2 (List.mem_of_getElem? (i := 24) rfl)
theorem mw_89 : (.code yX2_total cX2_total 8 (some .int) : Cond) ∈ hw_all := hw_i2 (List.mem_of_getElem? (i := 25) rfl)
theorem mw_90 : (.code yX1_change cX1_change 4 (some .int) : Cond) ∈ hw_all := hw_i2 (List.mem_of_getElem? (i := 26) rfl)
theorem mw_91 : (.selects RX1 yX1_size yX1_size : Cond) ∈ hw_all := hw_i2 (List.mem_of_getElem? (i := 27) rfl)
theorem mw_92 : (.methodLink RX5 157 yX1_size : Cond) ∈ hw_all := hw_i2 (List.mem_of_getElem? (i := 28) rfl)
theorem mw_93 : (.instanceMethod yX1_size : Cond) ∈ hw_all := hw_i2 (List.mem_of_getElem? (i := 29) rfl)
theorem mw_94 : (.selects RX1 yX1_accountAt yX1_accountAt : Cond) ∈ hw_all := hw_i2 (List.mem_of_getElem? (i := 30) rfl)
theorem mw_95 : (.methodLink RX5 158 yX1_accountAt : Cond) ∈ hw_all := hw_i2 (List.mem_of_getElem? (i := 31) rfl)
theorem mw_96 : (.instanceMethod yX1_accountAt : Cond) ∈ hw_all := hw_i3 (List.mem_of_getElem? (i := 0) rfl)
theorem mw_97 : (.selects RX2 yX2_size yX2_size : Cond) ∈ hw_all := hw_i3 (List.mem_of_getElem? (i := 1) rfl)
theorem mw_98 : (.methodLink RX5 99 yX2_size : Cond) ∈ hw_all := hw_i3 (List.mem_of_getElem? (i := 2) rfl)
theorem mw_99 : (.instanceMethod yX2_size : Cond) ∈ hw_all := hw_i3 (List.mem_of_getElem? (i := 3) rfl)
theorem mw_100 : (.selects RX2 yX2_total yX2_total : Cond) ∈ hw_all := hw_i3 (List.mem_of_getElem? (i := 4) rfl)
theorem mw_101 : (.methodLink RX5 105 yX2_total : Cond) ∈ hw_all := hw_i3 (List.mem_of_getElem? (i := 5) rfl)
theorem mw_102 : (.instanceMethod yX2_total : Cond) ∈ hw_all := hw_i3 (List.mem_of_getElem? (i := 6) rfl)
theorem mw_103 : (.selects RX1 yX1_change yX1_change : Cond) ∈ hw_all := hw_i3 (List.mem_of_getElem? (i := 7) rfl)
theorem mw_104 : (.methodLink RX5 161 yX1_change : Cond) ∈ hw_all := hw_i3 (List.mem_of_getElem? (i := 8) rfl)
theorem mw_105 : (.instanceMethod yX1_change : Cond) ∈ hw_all := hw_i3 (List.mem_of_getElem? (i := 9) rfl)
theorem mw_106 : (.code yX5_isPoor cX5_isPoor 4 (some .boolean) : Cond) ∈ hw_all := hw_i3 (List.mem_of_getElem? (i := 10) rfl)
theorem mw_107 : (.code yX5_entryCells cX5_entryCells 1 (some .int) : Cond) ∈ hw_all := hw_i3 (List.mem_of_getElem? (i := 11) rfl)
theorem mw_108 : (.code yX1_amountAt cX1_amountAt 2 (some .int) : Cond) ∈ hw_all := hw_i3 (List.mem_of_getElem? (i := 12) rfl)
theorem mw_109 : (.static yX5_entryCells : Cond) ∈ hw_all := hw_i3 (List.mem_of_getElem? (i := 13) rfl)
theorem mw_110 : (.code yX2_sealCell cX2_sealCell 2 (some .int) : Cond) ∈ hw_all := hw_i3 (List.mem_of_getElem? (i := 14) rfl)
theorem mw_111 : (.fieldLink RX2 28 "SealedLedger$Log" "end" "I" : Cond) ∈ hw_all := hw_i3 (List.mem_of_getElem? (i := 15) rfl)
theorem mw_112 : (.code yX2_lastSeal cX2_lastSeal 1 (some .int) : Cond) ∈ hw_all := hw_i3 (List.mem_of_getElem? (i := 16) rfl)
theorem mw_113 : (.constant RX5 172 (16777619 : Int32) : Cond) ∈ hw_all := hw_i3 (List.mem_of_getElem? (i := 17) rfl)
theorem mw_114 : (.constant RX5 173 (739982445 : Int32) : Cond) ∈ hw_all := hw_i3 (List.mem_of_getElem? (i := 18) rfl)
theorem mw_115 : (.code yX5_mix cX5_mix 4 (some .int) : Cond) ∈ hw_all := hw_i3 (List.mem_of_getElem? (i := 19) rfl)
theorem mw_116 : (.static yX5_mix : Cond) ∈ hw_all := hw_i3 (List.mem_of_getElem? (i := 20) rfl)
theorem mw_117 : (.code yX2_leafFrom cX2_leafFrom 4 (some .int) : Cond) ∈ hw_all := hw_i3 (List.mem_of_getElem? (i := 21) rfl)
theorem mw_118 : (.selects RX2 yX2_leafFrom yX2_leafFrom : Cond) ∈ hw_all := hw_i3 (List.mem_of_getElem? (i := 22) rfl)
theorem mw_119 : (.methodLink RX2 72 yX2_leafFrom : Cond) ∈ hw_all := hw_i3 (List.mem_of_getElem? (i := 23) rfl)
theorem mw_120 : (.instanceMethod yX2_leafFrom : Cond) ∈ hw_all := hw_i3 (List.mem_of_getElem? (i := 24) rfl)
theorem mw_121 : (.code yX2_acceptNext cX2_acceptNext 1 none : Cond) ∈ hw_all := hw_i3 (List.mem_of_getElem? (i := 25) rfl)
theorem mw_122 : (.methodLink RX2 44 yX1_size : Cond) ∈ hw_all := hw_i3 (List.mem_of_getElem? (i := 26) rfl)
theorem mw_123 : (.selects RX2 yX2_sealCell yX2_sealCell : Cond) ∈ hw_all := hw_i3 (List.mem_of_getElem? (i := 27) rfl)
theorem mw_124 : (.methodLink RX2 66 yX2_sealCell : Cond) ∈ hw_all := hw_i3 (List.mem_of_getElem? (i := 28) rfl)
theorem mw_125 : (.instanceMethod yX2_sealCell : Cond) ∈ hw_all := hw_i3 (List.mem_of_getElem? (i := 29) rfl)
theorem mw_126 : (.selects RX2 yX2_lastSeal yX2_lastSeal : Cond) ∈ hw_all := hw_i3 (List.mem_of_getElem? (i := 30) rfl)
theorem mw_127 : (.methodLink RX2 69 yX2_lastSeal : Cond) ∈ hw_all := hw_i3 (List.mem_of_getElem? (i := 31) rfl)
theorem mw_128 : (.instanceMethod yX2_lastSeal : Cond) ∈ hw_all := hw_i4 (List.mem_of_getElem? (i := 0) rfl)
theorem mw_129 : (.selects RX2 yX2_acceptNext yX2_acceptNext : Cond) ∈ hw_all := hw_i4 (List.mem_of_getElem? (i := 1) rfl)
theorem mw_130 : (.methodLink RX2 78 yX2_acceptNext : Cond) ∈ hw_all := hw_i4 (List.mem_of_getElem? (i := 2) rfl)
theorem mw_131 : (.instanceMethod yX2_acceptNext : Cond) ∈ hw_all := hw_i4 (List.mem_of_getElem? (i := 3) rfl)
theorem mw_132 : (.methodLink RX2 57 yX1_accountAt : Cond) ∈ hw_all := hw_i4 (List.mem_of_getElem? (i := 4) rfl)
theorem mw_133 : (.selects RX1 yX1_amountAt yX1_amountAt : Cond) ∈ hw_all := hw_i4 (List.mem_of_getElem? (i := 5) rfl)
theorem mw_134 : (.methodLink RX2 63 yX1_amountAt : Cond) ∈ hw_all := hw_i4 (List.mem_of_getElem? (i := 6) rfl)
theorem mw_135 : (.instanceMethod yX1_amountAt : Cond) ∈ hw_all := hw_i4 (List.mem_of_getElem? (i := 7) rfl)
theorem mw_136 : (.code yX2_append cX2_append 5 (some .boolean) : Cond) ∈ hw_all := hw_i4 (List.mem_of_getElem? (i := 8) rfl)
theorem mw_137 : (.selects RX5 yX5_isPoor yX5_isPoor : Cond) ∈ hw_all := hw_i4 (List.mem_of_getElem? (i := 9) rfl)
theorem mw_138 : (.methodLink RX5 150 yX5_isPoor : Cond) ∈ hw_all := hw_i4 (List.mem_of_getElem? (i := 10) rfl)
theorem mw_139 : (.instanceMethod yX5_isPoor : Cond) ∈ hw_all := hw_i4 (List.mem_of_getElem? (i := 11) rfl)
theorem mw_140 : (.selects RX2 yX2_append yX2_append : Cond) ∈ hw_all := hw_i4 (List.mem_of_getElem? (i := 12) rfl)
theorem mw_141 : (.methodLink RX5 153 yX2_append : Cond) ∈ hw_all := hw_i4 (List.mem_of_getElem? (i := 13) rfl)
theorem mw_142 : (.instanceMethod yX2_append : Cond) ∈ hw_all := hw_i4 (List.mem_of_getElem? (i := 14) rfl)
theorem mw_143 : (.code yX5_commitNew cX5_commitNew 2 (some .int) : Cond) ∈ hw_all := hw_i4 (List.mem_of_getElem? (i := 15) rfl)
theorem mw_144 : (.code yX2_hasLegsOf cX2_hasLegsOf 5 (some .boolean) : Cond) ∈ hw_all := hw_i4 (List.mem_of_getElem? (i := 16) rfl)
theorem mw_145 : (.selects RX1 yX1_isEven yX1_isEven : Cond) ∈ hw_all := hw_i4 (List.mem_of_getElem? (i := 17) rfl)
theorem mw_146 : (.methodLink RX5 60 yX1_isEven : Cond) ∈ hw_all := hw_i4 (List.mem_of_getElem? (i := 18) rfl)
theorem mw_147 : (.instanceMethod yX1_isEven : Cond) ∈ hw_all := hw_i4 (List.mem_of_getElem? (i := 19) rfl)
theorem mw_148 : (.selects RX2 yX2_firstWith yX2_firstWith : Cond) ∈ hw_all := hw_i4 (List.mem_of_getElem? (i := 20) rfl)
theorem mw_149 : (.methodLink RX5 64 yX2_firstWith : Cond) ∈ hw_all := hw_i4 (List.mem_of_getElem? (i := 21) rfl)
theorem mw_150 : (.instanceMethod yX2_firstWith : Cond) ∈ hw_all := hw_i4 (List.mem_of_getElem? (i := 22) rfl)
theorem mw_151 : (.selects RX2 yX2_hasLegsOf yX2_hasLegsOf : Cond) ∈ hw_all := hw_i4 (List.mem_of_getElem? (i := 23) rfl)
theorem mw_152 : (.methodLink RX5 71 yX2_hasLegsOf : Cond) ∈ hw_all := hw_i4 (List.mem_of_getElem? (i := 24) rfl)
theorem mw_153 : (.instanceMethod yX2_hasLegsOf : Cond) ∈ hw_all := hw_i4 (List.mem_of_getElem? (i := 25) rfl)
theorem mw_154 : (.selects RX5 yX5_commitNew yX5_commitNew : Cond) ∈ hw_all := hw_i4 (List.mem_of_getElem? (i := 26) rfl)
theorem mw_155 : (.methodLink RX5 68 yX5_commitNew : Cond) ∈ hw_all := hw_i4 (List.mem_of_getElem? (i := 27) rfl)
theorem mw_156 : (.instanceMethod yX5_commitNew : Cond) ∈ hw_all := hw_i4 (List.mem_of_getElem? (i := 28) rfl)
theorem mw_157 : (.code yX5_commit cX5_commit 3 (some .int) : Cond) ∈ hw_all := hw_i4 (List.mem_of_getElem? (i := 29) rfl)
theorem mw_158 : (.code yX2_blockOf cX2_blockOf 1 (some .int) : Cond) ∈ hw_all := hw_i4 (List.mem_of_getElem? (i := 30) rfl)
theorem mw_159 : (.fieldLink RX2 35 "SealedLedger$Log" "syncedEnd" "I" : Cond) ∈ hw_all := hw_i4 (List.mem_of_getElem? (i := 31) rfl)
theorem mw_160 : (.methodLink RX2 31 yX2_blockOf : Cond) ∈ hw_all := hw_i5 (List.mem_of_getElem? (i := 0) rfl)
theorem mw_161 : (.static yX2_blockOf : Cond) ∈ hw_all := hw_i5 (List.mem_of_getElem? (i := 1) rfl)
theorem mw_162 : (.code yX2_syncedBlock cX2_syncedBlock 1 (some .int) : Cond) ∈ hw_all := hw_i5 (List.mem_of_getElem? (i := 2) rfl)
theorem mw_163 : (.code yX2_endBlock cX2_endBlock 1 (some .int) : Cond) ∈ hw_all := hw_i5 (List.mem_of_getElem? (i := 3) rfl)
theorem mw_164 : (.code yX2_cellAt cX2_cellAt 2 (some .int) : Cond) ∈ hw_all := hw_i5 (List.mem_of_getElem? (i := 4) rfl)
theorem mw_165 : (.fieldLink RX0 15 "SealedLedger$Disk" "failing" "I" : Cond) ∈ hw_all := hw_i5 (List.mem_of_getElem? (i := 5) rfl)
theorem mw_166 : (.fieldLink RX0 19 "SealedLedger$Disk" "done" "I" : Cond) ∈ hw_all := hw_i5 (List.mem_of_getElem? (i := 6) rfl)
theorem mw_167 : (.selects RX2 yX2_cellAt yX2_cellAt : Cond) ∈ hw_all := hw_i5 (List.mem_of_getElem? (i := 7) rfl)
theorem mw_168 : (.methodLink RX0 22 yX2_cellAt : Cond) ∈ hw_all := hw_i5 (List.mem_of_getElem? (i := 8) rfl)
theorem mw_169 : (.instanceMethod yX2_cellAt : Cond) ∈ hw_all := hw_i5 (List.mem_of_getElem? (i := 9) rfl)
theorem mw_170 : (.code yX0_write cX0_write 5 (some .boolean) : Cond) ∈ hw_all := hw_i5 (List.mem_of_getElem? (i := 10) rfl)
theorem mw_171 : (.fieldLink RX2 25 "SealedLedger$Log" "syncedCount" "I" : Cond) ∈ hw_all := hw_i5 (List.mem_of_getElem? (i := 11) rfl)
theorem mw_172 : (.code yX2_markSynced cX2_markSynced 1 none : Cond) ∈ hw_all := hw_i5 (List.mem_of_getElem? (i := 12) rfl)
theorem mw_173 : (.code yX2_clearBehindEnd cX2_clearBehindEnd 2 none : Cond) ∈ hw_all := hw_i5 (List.mem_of_getElem? (i := 13) rfl)
theorem mw_174 : (.selects RX2 yX2_markSynced yX2_markSynced : Cond) ∈ hw_all := hw_i5 (List.mem_of_getElem? (i := 14) rfl)
theorem mw_175 : (.methodLink RX2 38 yX2_markSynced : Cond) ∈ hw_all := hw_i5 (List.mem_of_getElem? (i := 15) rfl)
theorem mw_176 : (.instanceMethod yX2_markSynced : Cond) ∈ hw_all := hw_i5 (List.mem_of_getElem? (i := 16) rfl)
theorem mw_177 : (.selects RX2 yX2_clearBehindEnd yX2_clearBehindEnd : Cond) ∈ hw_all := hw_i5 (List.mem_of_getElem? (i := 17) rfl)
theorem mw_178 : (.methodLink RX2 41 yX2_clearBehindEnd : Cond) ∈ hw_all := hw_i5 (List.mem_of_getElem? (i := 18) rfl)
theorem mw_179 : (.instanceMethod yX2_clearBehindEnd : Cond) ∈ hw_all := hw_i5 (List.mem_of_getElem? (i := 19) rfl)
theorem mw_180 : (.code yX2_clear cX2_clear 1 none : Cond) ∈ hw_all := hw_i5 (List.mem_of_getElem? (i := 20) rfl)
theorem mw_181 : (.selects RX2 yX2_clear yX2_clear : Cond) ∈ hw_all := hw_i5 (List.mem_of_getElem? (i := 21) rfl)
theorem mw_182 : (.methodLink RX5 171 yX2_clear : Cond) ∈ hw_all := hw_i5 (List.mem_of_getElem? (i := 22) rfl)
theorem mw_183 : (.instanceMethod yX2_clear : Cond) ∈ hw_all := hw_i5 (List.mem_of_getElem? (i := 23) rfl)
theorem mw_184 : (.code yX5_losePower cX5_losePower 1 none : Cond) ∈ hw_all := hw_i5 (List.mem_of_getElem? (i := 24) rfl)
theorem mw_185 : (.selects RX0 yX0_write yX0_write : Cond) ∈ hw_all := hw_i5 (List.mem_of_getElem? (i := 25) rfl)
theorem mw_186 : (.methodLink RX5 164 yX0_write : Cond) ∈ hw_all := hw_i5 (List.mem_of_getElem? (i := 26) rfl)
theorem mw_187 : (.instanceMethod yX0_write : Cond) ∈ hw_all := hw_i5 (List.mem_of_getElem? (i := 27) rfl)
theorem mw_188 : (.selects RX5 yX5_losePower yX5_losePower : Cond) ∈ hw_all := hw_i5 (List.mem_of_getElem? (i := 28) rfl)
theorem mw_189 : (.methodLink RX5 168 yX5_losePower : Cond) ∈ hw_all := hw_i5 (List.mem_of_getElem? (i := 29) rfl)
theorem mw_190 : (.instanceMethod yX5_losePower : Cond) ∈ hw_all := hw_i5 (List.mem_of_getElem? (i := 30) rfl)
theorem mw_191 : (.code yX5_writeBlock cX5_writeBlock 2 (some .boolean) : Cond) ∈ hw_all := hw_i5 (List.mem_of_getElem? (i := 31) rfl)
theorem mw_192 : (.selects RX2 yX2_syncedBlock yX2_syncedBlock : Cond) ∈ hw_all := hw_i6 (List.mem_of_getElem? (i := 0) rfl)
theorem mw_193 : (.methodLink RX5 75 yX2_syncedBlock : Cond) ∈ hw_all := hw_i6 (List.mem_of_getElem? (i := 1) rfl)
theorem mw_194 : (.instanceMethod yX2_syncedBlock : Cond) ∈ hw_all := hw_i6 (List.mem_of_getElem? (i := 2) rfl)
theorem mw_195 : (.selects RX2 yX2_endBlock yX2_endBlock : Cond) ∈ hw_all := hw_i6 (List.mem_of_getElem? (i := 3) rfl)
theorem mw_196 : (.methodLink RX5 79 yX2_endBlock : Cond) ∈ hw_all := hw_i6 (List.mem_of_getElem? (i := 4) rfl)
theorem mw_197 : (.instanceMethod yX2_endBlock : Cond) ∈ hw_all := hw_i6 (List.mem_of_getElem? (i := 5) rfl)
theorem mw_198 : (.methodLink RX5 85 yX2_markSynced : Cond) ∈ hw_all := hw_i6 (List.mem_of_getElem? (i := 6) rfl)
theorem mw_199 : (.selects RX5 yX5_writeBlock yX5_writeBlock : Cond) ∈ hw_all := hw_i6 (List.mem_of_getElem? (i := 7) rfl)
theorem mw_200 : (.methodLink RX5 82 yX5_writeBlock : Cond) ∈ hw_all := hw_i6 (List.mem_of_getElem? (i := 8) rfl)
theorem mw_201 : (.instanceMethod yX5_writeBlock : Cond) ∈ hw_all := hw_i6 (List.mem_of_getElem? (i := 9) rfl)
theorem mw_202 : (.code yX5_sync cX5_sync 4 (some .int) : Cond) ∈ hw_all := hw_i6 (List.mem_of_getElem? (i := 10) rfl)
theorem mw_203 : (.code yX0_failAt cX0_failAt 2 none : Cond) ∈ hw_all := hw_i6 (List.mem_of_getElem? (i := 11) rfl)
theorem mw_204 : (.selects RX0 yX0_failAt yX0_failAt : Cond) ∈ hw_all := hw_i6 (List.mem_of_getElem? (i := 12) rfl)
theorem mw_205 : (.methodLink RX5 88 yX0_failAt : Cond) ∈ hw_all := hw_i6 (List.mem_of_getElem? (i := 13) rfl)
theorem mw_206 : (.instanceMethod yX0_failAt : Cond) ∈ hw_all := hw_i6 (List.mem_of_getElem? (i := 14) rfl)
theorem mw_207 : (.code yX5_fail cX5_fail 2 (some .boolean) : Cond) ∈ hw_all := hw_i6 (List.mem_of_getElem? (i := 15) rfl)
theorem mw_208 : (.code yX0_cellAt cX0_cellAt 2 (some .int) : Cond) ∈ hw_all := hw_i6 (List.mem_of_getElem? (i := 16) rfl)
theorem mw_209 : (.code yX2_nextFits cX2_nextFits 1 (some .boolean) : Cond) ∈ hw_all := hw_i6 (List.mem_of_getElem? (i := 17) rfl)
theorem mw_210 : (.code yX2_nextLegsAreSound cX2_nextLegsAreSound 4 (some .boolean) : Cond) ∈ hw_all := hw_i6 (List.mem_of_getElem? (i := 18) rfl)
theorem mw_211 : (.selects RX2 yX2_nextFits yX2_nextFits : Cond) ∈ hw_all := hw_i6 (List.mem_of_getElem? (i := 19) rfl)
theorem mw_212 : (.methodLink RX2 105 yX2_nextFits : Cond) ∈ hw_all := hw_i6 (List.mem_of_getElem? (i := 20) rfl)
theorem mw_213 : (.instanceMethod yX2_nextFits : Cond) ∈ hw_all := hw_i6 (List.mem_of_getElem? (i := 21) rfl)
theorem mw_214 : (.selects RX2 yX2_nextLegsAreSound yX2_nextLegsAreSound : Cond) ∈ hw_all := hw_i6 (List.mem_of_getElem? (i := 22) rfl)
theorem mw_215 : (.methodLink RX2 108 yX2_nextLegsAreSound : Cond) ∈ hw_all := hw_i6 (List.mem_of_getElem? (i := 23) rfl)
theorem mw_216 : (.instanceMethod yX2_nextLegsAreSound : Cond) ∈ hw_all := hw_i6 (List.mem_of_getElem? (i := 24) rfl)
theorem mw_217 : (.code yX2_nextIsSound cX2_nextIsSound 1 (some .boolean) : Cond) ∈ hw_all := hw_i6 (List.mem_of_getElem? (i := 25) rfl)
theorem mw_218 : (.methodLink RX2 81 yX2_clear : Cond) ∈ hw_all := hw_i6 (List.mem_of_getElem? (i := 26) rfl)
theorem mw_219 : (.selects RX0 yX0_cellAt yX0_cellAt : Cond) ∈ hw_all := hw_i6 (List.mem_of_getElem? (i := 27) rfl)
theorem mw_220 : (.methodLink RX2 84 yX0_cellAt : Cond) ∈ hw_all := hw_i6 (List.mem_of_getElem? (i := 28) rfl)
theorem mw_221 : (.instanceMethod yX0_cellAt : Cond) ∈ hw_all := hw_i6 (List.mem_of_getElem? (i := 29) rfl)
theorem mw_222 : (.selects RX2 yX2_nextIsSound yX2_nextIsSound : Cond) ∈ hw_all := hw_i6 (List.mem_of_getElem? (i := 30) rfl)
theorem mw_223 : (.methodLink RX2 89 yX2_nextIsSound : Cond) ∈ hw_all := hw_i6 (List.mem_of_getElem? (i := 31) rfl)
theorem mw_224 : (.instanceMethod yX2_nextIsSound : Cond) ∈ hw_all := hw_i7 (List.mem_of_getElem? (i := 0) rfl)
theorem mw_225 : (.code yX2_load cX2_load 3 none : Cond) ∈ hw_all := hw_i7 (List.mem_of_getElem? (i := 1) rfl)
theorem mw_226 : (.code yX2_endsInBlock cX2_endsInBlock 1 (some .boolean) : Cond) ∈ hw_all := hw_i7 (List.mem_of_getElem? (i := 2) rfl)
theorem mw_227 : (.selects RX2 yX2_load yX2_load : Cond) ∈ hw_all := hw_i7 (List.mem_of_getElem? (i := 3) rfl)
theorem mw_228 : (.methodLink RX5 92 yX2_load : Cond) ∈ hw_all := hw_i7 (List.mem_of_getElem? (i := 4) rfl)
theorem mw_229 : (.instanceMethod yX2_load : Cond) ∈ hw_all := hw_i7 (List.mem_of_getElem? (i := 5) rfl)
theorem mw_230 : (.selects RX2 yX2_endsInBlock yX2_endsInBlock : Cond) ∈ hw_all := hw_i7 (List.mem_of_getElem? (i := 6) rfl)
theorem mw_231 : (.methodLink RX5 96 yX2_endsInBlock : Cond) ∈ hw_all := hw_i7 (List.mem_of_getElem? (i := 7) rfl)
theorem mw_232 : (.instanceMethod yX2_endsInBlock : Cond) ∈ hw_all := hw_i7 (List.mem_of_getElem? (i := 8) rfl)
theorem mw_233 : (.code yX5_recover cX5_recover 1 (some .int) : Cond) ∈ hw_all := hw_i7 (List.mem_of_getElem? (i := 9) rfl)
theorem mw_234 : (.code yX5_on cX5_on 1 (some .boolean) : Cond) ∈ hw_all := hw_i7 (List.mem_of_getElem? (i := 10) rfl)
theorem mw_235 : (.code yX5_entries cX5_entries 1 (some .int) : Cond) ∈ hw_all := hw_i7 (List.mem_of_getElem? (i := 11) rfl)
theorem mw_236 : (.code yX2_syncedSize cX2_syncedSize 1 (some .int) : Cond) ∈ hw_all := hw_i7 (List.mem_of_getElem? (i := 12) rfl)
theorem mw_237 : (.selects RX2 yX2_syncedSize yX2_syncedSize : Cond) ∈ hw_all := hw_i7 (List.mem_of_getElem? (i := 13) rfl)
theorem mw_238 : (.methodLink RX5 102 yX2_syncedSize : Cond) ∈ hw_all := hw_i7 (List.mem_of_getElem? (i := 14) rfl)
theorem mw_239 : (.instanceMethod yX2_syncedSize : Cond) ∈ hw_all := hw_i7 (List.mem_of_getElem? (i := 15) rfl)
theorem mw_240 : (.code yX5_synced cX5_synced 1 (some .int) : Cond) ∈ hw_all := hw_i7 (List.mem_of_getElem? (i := 16) rfl)
theorem mw_241 : (.code yX5_balance cX5_balance 3 (some .int) : Cond) ∈ hw_all := hw_i7 (List.mem_of_getElem? (i := 17) rfl)
theorem mw_242 : (.code yX5_statement cX5_statement 5 (some .int) : Cond) ∈ hw_all := hw_i7 (List.mem_of_getElem? (i := 18) rfl)
theorem mw_243 : (.code yX5_find cX5_find 2 (some .int) : Cond) ∈ hw_all := hw_i7 (List.mem_of_getElem? (i := 19) rfl)
theorem mw_244 : (.code yX2_leafOf cX2_leafOf 2 (some .int) : Cond) ∈ hw_all := hw_i7 (List.mem_of_getElem? (i := 20) rfl)
theorem mw_245 : (.selects RX2 yX2_leafOf yX2_leafOf : Cond) ∈ hw_all := hw_i7 (List.mem_of_getElem? (i := 21) rfl)
theorem mw_246 : (.methodLink RX5 109 yX2_leafOf : Cond) ∈ hw_all := hw_i7 (List.mem_of_getElem? (i := 22) rfl)
theorem mw_247 : (.instanceMethod yX2_leafOf : Cond) ∈ hw_all := hw_i7 (List.mem_of_getElem? (i := 23) rfl)
theorem mw_248 : (.code yX5_leaf cX5_leaf 2 (some .int) : Cond) ∈ hw_all := hw_i7 (List.mem_of_getElem? (i := 24) rfl)
theorem mw_249 : (.code yX5_split cX5_split 3 (some .int) : Cond) ∈ hw_all := hw_i7 (List.mem_of_getElem? (i := 25) rfl)
theorem mw_250 : (.methodLink RX5 174 yX5_mix : Cond) ∈ hw_all := hw_i7 (List.mem_of_getElem? (i := 26) rfl)
theorem mw_251 : (.code yX5_node cX5_node 2 (some .int) : Cond) ∈ hw_all := hw_i7 (List.mem_of_getElem? (i := 27) rfl)
theorem mw_252 : (.methodLink RX4 27 yX2_leafOf : Cond) ∈ hw_all := hw_i7 (List.mem_of_getElem? (i := 28) rfl)
theorem mw_253 : (.static yX5_split : Cond) ∈ hw_all := hw_i7 (List.mem_of_getElem? (i := 29) rfl)
theorem mw_254 : (.code yX4_hash cX4_hash 5 (some .int) : Cond) ∈ hw_all := hw_i7 (List.mem_of_getElem? (i := 30) rfl)
theorem mw_255 : (.methodLink RX4 13 yX4_hash : Cond) ∈ hw_all := hw_i7 (List.mem_of_getElem? (i := 31) rfl)
theorem mw_256 : (.static yX4_hash : Cond) ∈ hw_all := hw_i8 (List.mem_of_getElem? (i := 0) rfl)
theorem mw_257 : (.initialized RX4 : Cond) ∈ hw_all := hw_i8 (List.mem_of_getElem? (i := 1) rfl)
theorem mw_258 : (.static yX5_node : Cond) ∈ hw_all := hw_i8 (List.mem_of_getElem? (i := 2) rfl)
theorem mw_259 : (.code yX4_headOf cX4_headOf 2 (some .int) : Cond) ∈ hw_all := hw_i8 (List.mem_of_getElem? (i := 3) rfl)
theorem mw_260 : (.methodLink RX5 112 yX4_headOf : Cond) ∈ hw_all := hw_i8 (List.mem_of_getElem? (i := 4) rfl)
theorem mw_261 : (.static yX4_headOf : Cond) ∈ hw_all := hw_i8 (List.mem_of_getElem? (i := 5) rfl)
theorem mw_262 : (.code yX5_head cX5_head 2 (some .int) : Cond) ∈ hw_all := hw_i8 (List.mem_of_getElem? (i := 6) rfl)
theorem mw_263 : (.fieldLink RX3 15 "SealedLedger$Pad" "count" "I" : Cond) ∈ hw_all := hw_i8 (List.mem_of_getElem? (i := 7) rfl)
theorem mw_264 : (.code yX3_clear cX3_clear 1 none : Cond) ∈ hw_all := hw_i8 (List.mem_of_getElem? (i := 8) rfl)
theorem mw_265 : (.code yX3_add cX3_add 2 (some .boolean) : Cond) ∈ hw_all := hw_i8 (List.mem_of_getElem? (i := 9) rfl)
theorem mw_266 : (.code yX4_inclusion cX4_inclusion 7 none : Cond) ∈ hw_all := hw_i8 (List.mem_of_getElem? (i := 10) rfl)
theorem mw_267 : (.methodLink RX4 19 yX4_inclusion : Cond) ∈ hw_all := hw_i8 (List.mem_of_getElem? (i := 11) rfl)
theorem mw_268 : (.static yX4_inclusion : Cond) ∈ hw_all := hw_i8 (List.mem_of_getElem? (i := 12) rfl)
theorem mw_269 : (.selects RX3 yX3_add yX3_add : Cond) ∈ hw_all := hw_i8 (List.mem_of_getElem? (i := 13) rfl)
theorem mw_270 : (.methodLink RX4 39 yX3_add : Cond) ∈ hw_all := hw_i8 (List.mem_of_getElem? (i := 14) rfl)
theorem mw_271 : (.instanceMethod yX3_add : Cond) ∈ hw_all := hw_i8 (List.mem_of_getElem? (i := 15) rfl)
theorem mw_272 : (.code yX4_addInclusion cX4_addInclusion 4 none : Cond) ∈ hw_all := hw_i8 (List.mem_of_getElem? (i := 16) rfl)
theorem mw_273 : (.code yX3_length cX3_length 1 (some .int) : Cond) ∈ hw_all := hw_i8 (List.mem_of_getElem? (i := 17) rfl)
theorem mw_274 : (.selects RX3 yX3_clear yX3_clear : Cond) ∈ hw_all := hw_i8 (List.mem_of_getElem? (i := 18) rfl)
theorem mw_275 : (.methodLink RX5 118 yX3_clear : Cond) ∈ hw_all := hw_i8 (List.mem_of_getElem? (i := 19) rfl)
theorem mw_276 : (.instanceMethod yX3_clear : Cond) ∈ hw_all := hw_i8 (List.mem_of_getElem? (i := 20) rfl)
theorem mw_277 : (.methodLink RX5 119 yX4_addInclusion : Cond) ∈ hw_all := hw_i8 (List.mem_of_getElem? (i := 21) rfl)
theorem mw_278 : (.static yX4_addInclusion : Cond) ∈ hw_all := hw_i8 (List.mem_of_getElem? (i := 22) rfl)
theorem mw_279 : (.selects RX3 yX3_length yX3_length : Cond) ∈ hw_all := hw_i8 (List.mem_of_getElem? (i := 23) rfl)
theorem mw_280 : (.methodLink RX5 123 yX3_length : Cond) ∈ hw_all := hw_i8 (List.mem_of_getElem? (i := 24) rfl)
theorem mw_281 : (.instanceMethod yX3_length : Cond) ∈ hw_all := hw_i8 (List.mem_of_getElem? (i := 25) rfl)
theorem mw_282 : (.code yX5_prove cX5_prove 3 (some .int) : Cond) ∈ hw_all := hw_i8 (List.mem_of_getElem? (i := 26) rfl)
theorem mw_283 : (.code yX4_consistency cX4_consistency 8 none : Cond) ∈ hw_all := hw_i8 (List.mem_of_getElem? (i := 27) rfl)
theorem mw_284 : (.methodLink RX4 23 yX4_consistency : Cond) ∈ hw_all := hw_i8 (List.mem_of_getElem? (i := 28) rfl)
theorem mw_285 : (.static yX4_consistency : Cond) ∈ hw_all := hw_i8 (List.mem_of_getElem? (i := 29) rfl)
theorem mw_286 : (.code yX4_addConsistency cX4_addConsistency 4 none : Cond) ∈ hw_all := hw_i8 (List.mem_of_getElem? (i := 30) rfl)
theorem mw_287 : (.methodLink RX5 126 yX4_addConsistency : Cond) ∈ hw_all := hw_i8 (List.mem_of_getElem? (i := 31) rfl)
theorem mw_288 : (.static yX4_addConsistency : Cond) ∈ hw_all := hw_i9 (List.mem_of_getElem? (i := 0) rfl)
theorem mw_289 : (.code yX5_extend cX5_extend 3 (some .int) : Cond) ∈ hw_all := hw_i9 (List.mem_of_getElem? (i := 1) rfl)
theorem mw_290 : (.methodLink RX5 129 yX3_add : Cond) ∈ hw_all := hw_i9 (List.mem_of_getElem? (i := 2) rfl)
theorem mw_291 : (.code yX5_put cX5_put 2 (some .boolean) : Cond) ∈ hw_all := hw_i9 (List.mem_of_getElem? (i := 3) rfl)
theorem mw_292 : (.code yX3_removeLast cX3_removeLast 1 (some .boolean) : Cond) ∈ hw_all := hw_i9 (List.mem_of_getElem? (i := 4) rfl)
theorem mw_293 : (.selects RX3 yX3_removeLast yX3_removeLast : Cond) ∈ hw_all := hw_i9 (List.mem_of_getElem? (i := 5) rfl)
theorem mw_294 : (.methodLink RX5 131 yX3_removeLast : Cond) ∈ hw_all := hw_i9 (List.mem_of_getElem? (i := 6) rfl)
theorem mw_295 : (.instanceMethod yX3_removeLast : Cond) ∈ hw_all := hw_i9 (List.mem_of_getElem? (i := 7) rfl)
theorem mw_296 : (.code yX5_take cX5_take 1 (some .boolean) : Cond) ∈ hw_all := hw_i9 (List.mem_of_getElem? (i := 8) rfl)
theorem mw_297 : (.code yX3_intAt cX3_intAt 2 (some .int) : Cond) ∈ hw_all := hw_i9 (List.mem_of_getElem? (i := 9) rfl)
theorem mw_298 : (.selects RX3 yX3_intAt yX3_intAt : Cond) ∈ hw_all := hw_i9 (List.mem_of_getElem? (i := 10) rfl)
theorem mw_299 : (.methodLink RX5 134 yX3_intAt : Cond) ∈ hw_all := hw_i9 (List.mem_of_getElem? (i := 11) rfl)
theorem mw_300 : (.instanceMethod yX3_intAt : Cond) ∈ hw_all := hw_i9 (List.mem_of_getElem? (i := 12) rfl)
theorem mw_301 : (.code yX5_pad cX5_pad 2 (some .int) : Cond) ∈ hw_all := hw_i9 (List.mem_of_getElem? (i := 13) rfl)
theorem mw_302 : (.code yX3_inclusionLength cX3_inclusionLength 4 (some .int) : Cond) ∈ hw_all := hw_i9 (List.mem_of_getElem? (i := 14) rfl)
theorem mw_303 : (.methodLink RX3 34 yX3_intAt : Cond) ∈ hw_all := hw_i9 (List.mem_of_getElem? (i := 15) rfl)
theorem mw_304 : (.code yX3_shownAbove cX3_shownAbove 7 (some .int) : Cond) ∈ hw_all := hw_i9 (List.mem_of_getElem? (i := 16) rfl)
theorem mw_305 : (.methodLink RX3 23 yX3_shownAbove : Cond) ∈ hw_all := hw_i9 (List.mem_of_getElem? (i := 17) rfl)
theorem mw_306 : (.static yX3_shownAbove : Cond) ∈ hw_all := hw_i9 (List.mem_of_getElem? (i := 18) rfl)
theorem mw_307 : (.methodLink RX3 19 yX3_inclusionLength : Cond) ∈ hw_all := hw_i9 (List.mem_of_getElem? (i := 19) rfl)
theorem mw_308 : (.static yX3_inclusionLength : Cond) ∈ hw_all := hw_i9 (List.mem_of_getElem? (i := 20) rfl)
theorem mw_309 : (.code yX3_showsInclusion cX3_showsInclusion 5 (some .boolean) : Cond) ∈ hw_all := hw_i9 (List.mem_of_getElem? (i := 21) rfl)
theorem mw_310 : (.selects RX3 yX3_showsInclusion yX3_showsInclusion : Cond) ∈ hw_all := hw_i9 (List.mem_of_getElem? (i := 22) rfl)
theorem mw_311 : (.methodLink RX5 137 yX3_showsInclusion : Cond) ∈ hw_all := hw_i9 (List.mem_of_getElem? (i := 23) rfl)
theorem mw_312 : (.instanceMethod yX3_showsInclusion : Cond) ∈ hw_all := hw_i9 (List.mem_of_getElem? (i := 24) rfl)
theorem mw_313 : (.code yX5_included cX5_included 5 (some .boolean) : Cond) ∈ hw_all := hw_i9 (List.mem_of_getElem? (i := 25) rfl)
theorem mw_314 : (.code yX3_consistencySteps cX3_consistencySteps 4 (some .int) : Cond) ∈ hw_all := hw_i9 (List.mem_of_getElem? (i := 26) rfl)
theorem mw_315 : (.code yX3_isOwn cX3_isOwn 3 (some .boolean) : Cond) ∈ hw_all := hw_i9 (List.mem_of_getElem? (i := 27) rfl)
theorem mw_316 : (.code yX3_shownOld cX3_shownOld 6 (some .int) : Cond) ∈ hw_all := hw_i9 (List.mem_of_getElem? (i := 28) rfl)
theorem mw_317 : (.methodLink RX3 38 yX3_shownOld : Cond) ∈ hw_all := hw_i9 (List.mem_of_getElem? (i := 29) rfl)
theorem mw_318 : (.static yX3_shownOld : Cond) ∈ hw_all := hw_i9 (List.mem_of_getElem? (i := 30) rfl)
theorem mw_319 : (.code yX3_shownNew cX3_shownNew 7 (some .int) : Cond) ∈ hw_all := hw_i9 (List.mem_of_getElem? (i := 31) rfl)
theorem mw_320 : (.methodLink RX3 41 yX3_shownNew : Cond) ∈ hw_all := hw_i10 (List.mem_of_getElem? (i := 0) rfl)
theorem mw_321 : (.static yX3_shownNew : Cond) ∈ hw_all := hw_i10 (List.mem_of_getElem? (i := 1) rfl)
theorem mw_322 : (.methodLink RX3 27 yX3_consistencySteps : Cond) ∈ hw_all := hw_i10 (List.mem_of_getElem? (i := 2) rfl)
theorem mw_323 : (.static yX3_consistencySteps : Cond) ∈ hw_all := hw_i10 (List.mem_of_getElem? (i := 3) rfl)
theorem mw_324 : (.methodLink RX3 30 yX3_isOwn : Cond) ∈ hw_all := hw_i10 (List.mem_of_getElem? (i := 4) rfl)
theorem mw_325 : (.static yX3_isOwn : Cond) ∈ hw_all := hw_i10 (List.mem_of_getElem? (i := 5) rfl)
theorem mw_326 : (.code yX3_showsConsistency cX3_showsConsistency 8 (some .boolean) : Cond) ∈ hw_all := hw_i10 (List.mem_of_getElem? (i := 6) rfl)
theorem mw_327 : (.selects RX3 yX3_showsConsistency yX3_showsConsistency : Cond) ∈ hw_all := hw_i10 (List.mem_of_getElem? (i := 7) rfl)
theorem mw_328 : (.methodLink RX5 141 yX3_showsConsistency : Cond) ∈ hw_all := hw_i10 (List.mem_of_getElem? (i := 8) rfl)
theorem mw_329 : (.instanceMethod yX3_showsConsistency : Cond) ∈ hw_all := hw_i10 (List.mem_of_getElem? (i := 9) rfl)
theorem mw_330 : (.code yX5_consistent cX5_consistent 5 (some .boolean) : Cond) ∈ hw_all := hw_i10 (List.mem_of_getElem? (i := 10) rfl)
theorem mw_331 : (.methodLink RX5 144 yX0_cellAt : Cond) ∈ hw_all := hw_i10 (List.mem_of_getElem? (i := 11) rfl)
theorem mw_332 : (.code yX5_cell cX5_cell 2 (some .int) : Cond) ∈ hw_all := hw_i10 (List.mem_of_getElem? (i := 12) rfl)
theorem mw_333 : (.code yX0_writesDone cX0_writesDone 1 (some .int) : Cond) ∈ hw_all := hw_i10 (List.mem_of_getElem? (i := 13) rfl)
theorem mw_334 : (.selects RX0 yX0_writesDone yX0_writesDone : Cond) ∈ hw_all := hw_i10 (List.mem_of_getElem? (i := 14) rfl)
theorem mw_335 : (.methodLink RX5 147 yX0_writesDone : Cond) ∈ hw_all := hw_i10 (List.mem_of_getElem? (i := 15) rfl)
theorem mw_336 : (.instanceMethod yX0_writesDone : Cond) ∈ hw_all := hw_i10 (List.mem_of_getElem? (i := 16) rfl)
theorem mw_337 : (.code yX5_writes cX5_writes 1 (some .int) : Cond) ∈ hw_all := hw_i10 (List.mem_of_getElem? (i := 17) rfl)
theorem mw_338 : (.methodLink RX6 1 objectInit : Cond) ∈ hw_all := hw_i10 (List.mem_of_getElem? (i := 18) rfl)
theorem mw_339 : (.fieldLink RX6 7 "SealedLedgerModel" "keys" "[I" : Cond) ∈ hw_all := hw_i10 (List.mem_of_getElem? (i := 19) rfl)
theorem mw_340 : (.fieldLink RX6 13 "SealedLedgerModel" "legs" "[I" : Cond) ∈ hw_all := hw_i10 (List.mem_of_getElem? (i := 20) rfl)
theorem mw_341 : (.fieldLink RX6 16 "SealedLedgerModel" "account" "[I" : Cond) ∈ hw_all := hw_i10 (List.mem_of_getElem? (i := 21) rfl)
theorem mw_342 : (.fieldLink RX6 19 "SealedLedgerModel" "amount" "[I" : Cond) ∈ hw_all := hw_i10 (List.mem_of_getElem? (i := 22) rfl)
theorem mw_343 : (.fieldLink RX6 22 "SealedLedgerModel" "seals" "[I" : Cond) ∈ hw_all := hw_i10 (List.mem_of_getElem? (i := 23) rfl)
theorem mw_344 : (.fieldLink RX6 25 "SealedLedgerModel" "ends" "[I" : Cond) ∈ hw_all := hw_i10 (List.mem_of_getElem? (i := 24) rfl)
theorem mw_345 : (.fieldLink RX6 28 "SealedLedgerModel" "draftAccount" "[I" : Cond) ∈ hw_all := hw_i10 (List.mem_of_getElem? (i := 25) rfl)
theorem mw_346 : (.fieldLink RX6 31 "SealedLedgerModel" "draftAmount" "[I" : Cond) ∈ hw_all := hw_i10 (List.mem_of_getElem? (i := 26) rfl)
theorem mw_347 : (.fieldLink RX6 34 "SealedLedgerModel" "limits" "[I" : Cond) ∈ hw_all := hw_i10 (List.mem_of_getElem? (i := 27) rfl)
theorem mw_348 : (.fieldLink RX6 37 "SealedLedgerModel" "disk" "[I" : Cond) ∈ hw_all := hw_i10 (List.mem_of_getElem? (i := 28) rfl)
theorem mw_349 : (.fieldLink RX6 40 "SealedLedgerModel" "pad" "[I" : Cond) ∈ hw_all := hw_i10 (List.mem_of_getElem? (i := 29) rfl)
theorem mw_350 : (.fieldLink RX6 43 "SealedLedgerModel" "stack" "[I" : Cond) ∈ hw_all := hw_i10 (List.mem_of_getElem? (i := 30) rfl)
theorem mw_351 : (.arrayClass .boolean : Cond) ∈ hw_all := hw_i10 (List.mem_of_getElem? (i := 31) rfl)
theorem mw_352 : (.fieldLink RX6 46 "SealedLedgerModel" "firsts" "[Z" : Cond) ∈ hw_all := hw_i11 (List.mem_of_getElem? (i := 0) rfl)
theorem mw_353 : (.fieldLink RX6 50 "SealedLedgerModel" "others" "[I" : Cond) ∈ hw_all := hw_i11 (List.mem_of_getElem? (i := 1) rfl)
theorem mw_354 : (.code yX6_init cX6_init 1 none : Cond) ∈ hw_all := hw_i11 (List.mem_of_getElem? (i := 2) rfl)
theorem mw_355 : (.constant RX6 53 (16777619 : Int32) : Cond) ∈ hw_all := hw_i11 (List.mem_of_getElem? (i := 3) rfl)
theorem mw_356 : (.constant RX6 54 (739982445 : Int32) : Cond) ∈ hw_all := hw_i11 (List.mem_of_getElem? (i := 4) rfl)
theorem mw_357 : (.code yX6_mix cX6_mix 4 (some .int) : Cond) ∈ hw_all := hw_i11 (List.mem_of_getElem? (i := 5) rfl)
theorem mw_358 : (.methodLink RX6 55 yX6_mix : Cond) ∈ hw_all := hw_i11 (List.mem_of_getElem? (i := 6) rfl)
theorem mw_359 : (.static yX6_mix : Cond) ∈ hw_all := hw_i11 (List.mem_of_getElem? (i := 7) rfl)
theorem mw_360 : (.initialized RX6 : Cond) ∈ hw_all := hw_i11 (List.mem_of_getElem? (i := 8) rfl)
theorem mw_361 : (.code yX6_node cX6_node 2 (some .int) : Cond) ∈ hw_all := hw_i11 (List.mem_of_getElem? (i := 9) rfl)
theorem mw_362 : (.code yX6_isAccount cX6_isAccount 1 (some .boolean) : Cond) ∈ hw_all := hw_i11 (List.mem_of_getElem? (i := 10) rfl)
theorem mw_363 : (.methodLink RX6 59 yX6_isAccount : Cond) ∈ hw_all := hw_i11 (List.mem_of_getElem? (i := 11) rfl)
theorem mw_364 : (.static yX6_isAccount : Cond) ∈ hw_all := hw_i11 (List.mem_of_getElem? (i := 12) rfl)
theorem mw_365 : (.constant RX6 63 (99999 : Int32) : Cond) ∈ hw_all := hw_i11 (List.mem_of_getElem? (i := 13) rfl)
theorem mw_366 : (.code yX6_limit cX6_limit 3 (some .boolean) : Cond) ∈ hw_all := hw_i11 (List.mem_of_getElem? (i := 14) rfl)
theorem mw_367 : (.fieldLink RX6 64 "SealedLedgerModel" "off" "Z" : Cond) ∈ hw_all := hw_i11 (List.mem_of_getElem? (i := 15) rfl)
theorem mw_368 : (.fieldLink RX6 68 "SealedLedgerModel" "draft" "I" : Cond) ∈ hw_all := hw_i11 (List.mem_of_getElem? (i := 16) rfl)
theorem mw_369 : (.code yX6_leg cX6_leg 3 (some .boolean) : Cond) ∈ hw_all := hw_i11 (List.mem_of_getElem? (i := 17) rfl)
theorem mw_370 : (.code yX6_drop cX6_drop 1 none : Cond) ∈ hw_all := hw_i11 (List.mem_of_getElem? (i := 18) rfl)
theorem mw_371 : (.code yX6_leafOf cX6_leafOf 4 (some .int) : Cond) ∈ hw_all := hw_i11 (List.mem_of_getElem? (i := 19) rfl)
theorem mw_372 : (.selects RX6 yX6_leafOf yX6_leafOf : Cond) ∈ hw_all := hw_i11 (List.mem_of_getElem? (i := 20) rfl)
theorem mw_373 : (.methodLink RX6 72 yX6_leafOf : Cond) ∈ hw_all := hw_i11 (List.mem_of_getElem? (i := 21) rfl)
theorem mw_374 : (.instanceMethod yX6_leafOf : Cond) ∈ hw_all := hw_i11 (List.mem_of_getElem? (i := 22) rfl)
theorem mw_375 : (.code yX6_sealOf cX6_sealOf 2 (some .int) : Cond) ∈ hw_all := hw_i11 (List.mem_of_getElem? (i := 23) rfl)
theorem mw_376 : (.code yX6_sameLegs cX6_sameLegs 4 (some .boolean) : Cond) ∈ hw_all := hw_i11 (List.mem_of_getElem? (i := 24) rfl)
theorem mw_377 : (.code yX6_total cX6_total 3 (some .int) : Cond) ∈ hw_all := hw_i11 (List.mem_of_getElem? (i := 25) rfl)
theorem mw_378 : (.fieldLink RX6 76 "SealedLedgerModel" "count" "I" : Cond) ∈ hw_all := hw_i11 (List.mem_of_getElem? (i := 26) rfl)
theorem mw_379 : (.code yX6_statement cX6_statement 8 (some .int) : Cond) ∈ hw_all := hw_i11 (List.mem_of_getElem? (i := 27) rfl)
theorem mw_380 : (.selects RX6 yX6_statement yX6_statement : Cond) ∈ hw_all := hw_i11 (List.mem_of_getElem? (i := 28) rfl)
theorem mw_381 : (.methodLink RX6 120 yX6_statement : Cond) ∈ hw_all := hw_i11 (List.mem_of_getElem? (i := 29) rfl)
theorem mw_382 : (.instanceMethod yX6_statement : Cond) ∈ hw_all := hw_i11 (List.mem_of_getElem? (i := 30) rfl)
theorem mw_383 : (.code yX6_balance cX6_balance 3 (some .int) : Cond) ∈ hw_all := hw_i11 (List.mem_of_getElem? (i := 31) rfl)
theorem mw_384 : (.selects RX6 yX6_balance yX6_balance : Cond) ∈ hw_all := hw_i12 (List.mem_of_getElem? (i := 0) rfl)
theorem mw_385 : (.methodLink RX6 79 yX6_balance : Cond) ∈ hw_all := hw_i12 (List.mem_of_getElem? (i := 1) rfl)
theorem mw_386 : (.instanceMethod yX6_balance : Cond) ∈ hw_all := hw_i12 (List.mem_of_getElem? (i := 2) rfl)
theorem mw_387 : (.code yX6_poor cX6_poor 5 (some .boolean) : Cond) ∈ hw_all := hw_i12 (List.mem_of_getElem? (i := 3) rfl)
theorem mw_388 : (.code yX6_find cX6_find 3 (some .int) : Cond) ∈ hw_all := hw_i12 (List.mem_of_getElem? (i := 4) rfl)
theorem mw_389 : (.selects RX6 yX6_find yX6_find : Cond) ∈ hw_all := hw_i12 (List.mem_of_getElem? (i := 5) rfl)
theorem mw_390 : (.methodLink RX6 82 yX6_find : Cond) ∈ hw_all := hw_i12 (List.mem_of_getElem? (i := 6) rfl)
theorem mw_391 : (.instanceMethod yX6_find : Cond) ∈ hw_all := hw_i12 (List.mem_of_getElem? (i := 7) rfl)
theorem mw_392 : (.selects RX6 yX6_total yX6_total : Cond) ∈ hw_all := hw_i12 (List.mem_of_getElem? (i := 8) rfl)
theorem mw_393 : (.methodLink RX6 88 yX6_total : Cond) ∈ hw_all := hw_i12 (List.mem_of_getElem? (i := 9) rfl)
theorem mw_394 : (.instanceMethod yX6_total : Cond) ∈ hw_all := hw_i12 (List.mem_of_getElem? (i := 10) rfl)
theorem mw_395 : (.selects RX6 yX6_poor yX6_poor : Cond) ∈ hw_all := hw_i12 (List.mem_of_getElem? (i := 11) rfl)
theorem mw_396 : (.methodLink RX6 92 yX6_poor : Cond) ∈ hw_all := hw_i12 (List.mem_of_getElem? (i := 12) rfl)
theorem mw_397 : (.instanceMethod yX6_poor : Cond) ∈ hw_all := hw_i12 (List.mem_of_getElem? (i := 13) rfl)
theorem mw_398 : (.selects RX6 yX6_sameLegs yX6_sameLegs : Cond) ∈ hw_all := hw_i12 (List.mem_of_getElem? (i := 14) rfl)
theorem mw_399 : (.methodLink RX6 85 yX6_sameLegs : Cond) ∈ hw_all := hw_i12 (List.mem_of_getElem? (i := 15) rfl)
theorem mw_400 : (.instanceMethod yX6_sameLegs : Cond) ∈ hw_all := hw_i12 (List.mem_of_getElem? (i := 16) rfl)
theorem mw_401 : (.selects RX6 yX6_sealOf yX6_sealOf : Cond) ∈ hw_all := hw_i12 (List.mem_of_getElem? (i := 17) rfl)
theorem mw_402 : (.methodLink RX6 96 yX6_sealOf : Cond) ∈ hw_all := hw_i12 (List.mem_of_getElem? (i := 18) rfl)
theorem mw_403 : (.instanceMethod yX6_sealOf : Cond) ∈ hw_all := hw_i12 (List.mem_of_getElem? (i := 19) rfl)
theorem mw_404 : (.code yX6_commit cX6_commit 4 (some .int) : Cond) ∈ hw_all := hw_i12 (List.mem_of_getElem? (i := 20) rfl)
theorem mw_405 : (.code yX6_logged cX6_logged 5 (some .int) : Cond) ∈ hw_all := hw_i12 (List.mem_of_getElem? (i := 21) rfl)
theorem mw_406 : (.fieldLink RX6 99 "SealedLedgerModel" "failing" "I" : Cond) ∈ hw_all := hw_i12 (List.mem_of_getElem? (i := 22) rfl)
theorem mw_407 : (.fieldLink RX6 102 "SealedLedgerModel" "synced" "I" : Cond) ∈ hw_all := hw_i12 (List.mem_of_getElem? (i := 23) rfl)
theorem mw_408 : (.fieldLink RX6 108 "SealedLedgerModel" "written" "I" : Cond) ∈ hw_all := hw_i12 (List.mem_of_getElem? (i := 24) rfl)
theorem mw_409 : (.selects RX6 yX6_logged yX6_logged : Cond) ∈ hw_all := hw_i12 (List.mem_of_getElem? (i := 25) rfl)
theorem mw_410 : (.methodLink RX6 105 yX6_logged : Cond) ∈ hw_all := hw_i12 (List.mem_of_getElem? (i := 26) rfl)
theorem mw_411 : (.instanceMethod yX6_logged : Cond) ∈ hw_all := hw_i12 (List.mem_of_getElem? (i := 27) rfl)
theorem mw_412 : (.code yX6_write cX6_write 3 (some .boolean) : Cond) ∈ hw_all := hw_i12 (List.mem_of_getElem? (i := 28) rfl)
theorem mw_413 : (.fieldLink RX6 111 "SealedLedgerModel" "syncedEnd" "I" : Cond) ∈ hw_all := hw_i12 (List.mem_of_getElem? (i := 29) rfl)
theorem mw_414 : (.selects RX6 yX6_write yX6_write : Cond) ∈ hw_all := hw_i12 (List.mem_of_getElem? (i := 30) rfl)
theorem mw_415 : (.methodLink RX6 114 yX6_write : Cond) ∈ hw_all := hw_i12 (List.mem_of_getElem? (i := 31) rfl)
theorem mw_416 : (.instanceMethod yX6_write : Cond) ∈ hw_all := hw_i13 (List.mem_of_getElem? (i := 0) rfl)
theorem mw_417 : (.code yX6_sync cX6_sync 4 (some .int) : Cond) ∈ hw_all := hw_i13 (List.mem_of_getElem? (i := 1) rfl)
theorem mw_418 : (.code yX6_fail cX6_fail 2 (some .boolean) : Cond) ∈ hw_all := hw_i13 (List.mem_of_getElem? (i := 2) rfl)
theorem mw_419 : (.code yX6_sound cX6_sound 8 (some .boolean) : Cond) ∈ hw_all := hw_i13 (List.mem_of_getElem? (i := 3) rfl)
theorem mw_420 : (.selects RX6 yX6_sound yX6_sound : Cond) ∈ hw_all := hw_i13 (List.mem_of_getElem? (i := 4) rfl)
theorem mw_421 : (.methodLink RX6 117 yX6_sound : Cond) ∈ hw_all := hw_i13 (List.mem_of_getElem? (i := 5) rfl)
theorem mw_422 : (.instanceMethod yX6_sound : Cond) ∈ hw_all := hw_i13 (List.mem_of_getElem? (i := 6) rfl)
theorem mw_423 : (.code yX6_recover cX6_recover 1 (some .int) : Cond) ∈ hw_all := hw_i13 (List.mem_of_getElem? (i := 7) rfl)
theorem mw_424 : (.code yX6_on cX6_on 1 (some .boolean) : Cond) ∈ hw_all := hw_i13 (List.mem_of_getElem? (i := 8) rfl)
theorem mw_425 : (.code yX6_entries cX6_entries 1 (some .int) : Cond) ∈ hw_all := hw_i13 (List.mem_of_getElem? (i := 9) rfl)
theorem mw_426 : (.code yX6_synced cX6_synced 1 (some .int) : Cond) ∈ hw_all := hw_i13 (List.mem_of_getElem? (i := 10) rfl)
theorem mw_427 : (.code yX6_leaf cX6_leaf 2 (some .int) : Cond) ∈ hw_all := hw_i13 (List.mem_of_getElem? (i := 11) rfl)
theorem mw_428 : (.methodLink RX6 124 yX6_node : Cond) ∈ hw_all := hw_i13 (List.mem_of_getElem? (i := 12) rfl)
theorem mw_429 : (.static yX6_node : Cond) ∈ hw_all := hw_i13 (List.mem_of_getElem? (i := 13) rfl)
theorem mw_430 : (.code yX6_hash cX6_hash 7 (some .int) : Cond) ∈ hw_all := hw_i13 (List.mem_of_getElem? (i := 14) rfl)
theorem mw_431 : (.selects RX6 yX6_hash yX6_hash : Cond) ∈ hw_all := hw_i13 (List.mem_of_getElem? (i := 15) rfl)
theorem mw_432 : (.methodLink RX6 127 yX6_hash : Cond) ∈ hw_all := hw_i13 (List.mem_of_getElem? (i := 16) rfl)
theorem mw_433 : (.instanceMethod yX6_hash : Cond) ∈ hw_all := hw_i13 (List.mem_of_getElem? (i := 17) rfl)
theorem mw_434 : (.code yX6_head cX6_head 2 (some .int) : Cond) ∈ hw_all := hw_i13 (List.mem_of_getElem? (i := 18) rfl)
theorem mw_435 : (.code yX6_part cX6_part 2 (some .int) : Cond) ∈ hw_all := hw_i13 (List.mem_of_getElem? (i := 19) rfl)
theorem mw_436 : (.fieldLink RX6 130 "SealedLedgerModel" "padded" "I" : Cond) ∈ hw_all := hw_i13 (List.mem_of_getElem? (i := 20) rfl)
theorem mw_437 : (.code yX6_lay cX6_lay 2 none : Cond) ∈ hw_all := hw_i13 (List.mem_of_getElem? (i := 21) rfl)
theorem mw_438 : (.methodLink RX6 133 yX6_part : Cond) ∈ hw_all := hw_i13 (List.mem_of_getElem? (i := 22) rfl)
theorem mw_439 : (.static yX6_part : Cond) ∈ hw_all := hw_i13 (List.mem_of_getElem? (i := 23) rfl)
theorem mw_440 : (.selects RX6 yX6_lay yX6_lay : Cond) ∈ hw_all := hw_i13 (List.mem_of_getElem? (i := 24) rfl)
theorem mw_441 : (.methodLink RX6 136 yX6_lay : Cond) ∈ hw_all := hw_i13 (List.mem_of_getElem? (i := 25) rfl)
theorem mw_442 : (.instanceMethod yX6_lay : Cond) ∈ hw_all := hw_i13 (List.mem_of_getElem? (i := 26) rfl)
theorem mw_443 : (.code yX6_prove cX6_prove 9 (some .int) : Cond) ∈ hw_all := hw_i13 (List.mem_of_getElem? (i := 27) rfl)
theorem mw_444 : (.code yX6_extend cX6_extend 10 (some .int) : Cond) ∈ hw_all := hw_i13 (List.mem_of_getElem? (i := 28) rfl)
theorem mw_445 : (.code yX6_put cX6_put 2 (some .boolean) : Cond) ∈ hw_all := hw_i13 (List.mem_of_getElem? (i := 29) rfl)
theorem mw_446 : (.code yX6_take cX6_take 1 (some .boolean) : Cond) ∈ hw_all := hw_i13 (List.mem_of_getElem? (i := 30) rfl)
theorem mw_447 : (.code yX6_pad cX6_pad 2 (some .int) : Cond) ∈ hw_all := hw_i13 (List.mem_of_getElem? (i := 31) rfl)
theorem mw_448 : (.code yX6_included cX6_included 10 (some .boolean) : Cond) ∈ hw_all := hw_i14 (List.mem_of_getElem? (i := 0) rfl)
theorem mw_449 : (.code yX6_consistent cX6_consistent 14 (some .boolean) : Cond) ∈ hw_all := hw_i14 (List.mem_of_getElem? (i := 1) rfl)
theorem mw_450 : (.code yX6_cell cX6_cell 2 (some .int) : Cond) ∈ hw_all := hw_i14 (List.mem_of_getElem? (i := 2) rfl)
theorem mw_451 : (.code yX6_writes cX6_writes 1 (some .int) : Cond) ∈ hw_all := hw_i14 (List.mem_of_getElem? (i := 3) rfl)
theorem hw_goodb : hw_all.all goodWord = true := by decide +kernel
theorem hw_good : ∀ w ∈ hw_all, (w.onTables && w.keeps) = true ∨ ∃ ty, w = .arrayClass ty := fun w h => good_of_word (List.all_eq_true.mp hw_goodb w h)
def hw_nest : List (String × Nat × MethodName × String) := [(RX2, 50, yX5_entryCells, "SealedLedger"), (RX2, 75, yX5_mix, "SealedLedger"), (RX2, 111, yX5_isAccount, "SealedLedger"), (RX2, 115, yX5_isAmount, "SealedLedger"), (RX4, 33, yX5_split, "SealedLedger"), (RX4, 36, yX5_node, "SealedLedger"), (RX4, 9, yX5_mix, "SealedLedger"), (RX3, 44, yX5_split, "SealedLedger"), (RX3, 47, yX5_node, "SealedLedger")]
theorem mn_0 : ((RX2, 50, yX5_entryCells, "SealedLedger") : String × Nat × MethodName × String) ∈ hw_nest := List.mem_of_getElem? (i := 0) rfl
theorem mn_1 : ((RX2, 75, yX5_mix, "SealedLedger") : String × Nat × MethodName × String) ∈ hw_nest := List.mem_of_getElem? (i := 1) rfl
theorem mn_2 : ((RX2, 111, yX5_isAccount, "SealedLedger") : String × Nat × MethodName × String) ∈ hw_nest := List.mem_of_getElem? (i := 2) rfl
theorem mn_3 : ((RX2, 115, yX5_isAmount, "SealedLedger") : String × Nat × MethodName × String) ∈ hw_nest := List.mem_of_getElem? (i := 3) rfl
theorem mn_4 : ((RX4, 33, yX5_split, "SealedLedger") : String × Nat × MethodName × String) ∈ hw_nest := List.mem_of_getElem? (i := 4) rfl
theorem mn_5 : ((RX4, 36, yX5_node, "SealedLedger") : String × Nat × MethodName × String) ∈ hw_nest := List.mem_of_getElem? (i := 5) rfl
theorem mn_6 : ((RX4, 9, yX5_mix, "SealedLedger") : String × Nat × MethodName × String) ∈ hw_nest := List.mem_of_getElem? (i := 6) rfl
theorem mn_7 : ((RX3, 44, yX5_split, "SealedLedger") : String × Nat × MethodName × String) ∈ hw_nest := List.mem_of_getElem? (i := 7) rfl
theorem mn_8 : ((RX3, 47, yX5_node, "SealedLedger") : String × Nat × MethodName × String) ∈ hw_nest := List.mem_of_getElem? (i := 8) rfl
abbrev wX5_init : List Cond := .code yX5_init cX5_init 1 none :: hw_all
abbrev wX5_limit : List Cond := .code yX5_limit cX5_limit 3 (some .boolean) :: hw_all
abbrev wX5_leg : List Cond := .code yX5_leg cX5_leg 3 (some .boolean) :: hw_all
abbrev wX5_drop : List Cond := .code yX5_drop cX5_drop 1 none :: hw_all
abbrev wX5_commit : List Cond := .code yX5_commit cX5_commit 3 (some .int) :: hw_all
abbrev wX5_sync : List Cond := .code yX5_sync cX5_sync 4 (some .int) :: hw_all
abbrev wX5_fail : List Cond := .code yX5_fail cX5_fail 2 (some .boolean) :: hw_all
abbrev wX5_recover : List Cond := .code yX5_recover cX5_recover 1 (some .int) :: hw_all
abbrev wX5_on : List Cond := .code yX5_on cX5_on 1 (some .boolean) :: hw_all
abbrev wX5_entries : List Cond := .code yX5_entries cX5_entries 1 (some .int) :: hw_all
abbrev wX5_synced : List Cond := .code yX5_synced cX5_synced 1 (some .int) :: hw_all
abbrev wX5_balance : List Cond := .code yX5_balance cX5_balance 3 (some .int) :: hw_all
abbrev wX5_statement : List Cond := .code yX5_statement cX5_statement 5 (some .int) :: hw_all
abbrev wX5_find : List Cond := .code yX5_find cX5_find 2 (some .int) :: hw_all
abbrev wX5_leaf : List Cond := .code yX5_leaf cX5_leaf 2 (some .int) :: hw_all
abbrev wX5_head : List Cond := .code yX5_head cX5_head 2 (some .int) :: hw_all
abbrev wX5_prove : List Cond := .code yX5_prove cX5_prove 3 (some .int) :: hw_all
abbrev wX5_extend : List Cond := .code yX5_extend cX5_extend 3 (some .int) :: hw_all
abbrev wX5_put : List Cond := .code yX5_put cX5_put 2 (some .boolean) :: hw_all
abbrev wX5_take : List Cond := .code yX5_take cX5_take 1 (some .boolean) :: hw_all
abbrev wX5_pad : List Cond := .code yX5_pad cX5_pad 2 (some .int) :: hw_all
abbrev wX5_included : List Cond := .code yX5_included cX5_included 5 (some .boolean) :: hw_all
abbrev wX5_consistent : List Cond := .code yX5_consistent cX5_consistent 5 (some .boolean) :: hw_all
abbrev wX5_cell : List Cond := .code yX5_cell cX5_cell 2 (some .int) :: hw_all
abbrev wX5_writes : List Cond := .code yX5_writes cX5_writes 1 (some .int) :: hw_all
abbrev wX5_commitNew : List Cond := .code yX5_commitNew cX5_commitNew 2 (some .int) :: hw_all
abbrev wX5_isPoor : List Cond := .code yX5_isPoor cX5_isPoor 4 (some .boolean) :: hw_all
abbrev wX5_writeBlock : List Cond := .code yX5_writeBlock cX5_writeBlock 2 (some .boolean) :: hw_all
abbrev wX5_losePower : List Cond := .code yX5_losePower cX5_losePower 1 none :: hw_all
abbrev wX5_isAccount : List Cond := .code yX5_isAccount cX5_isAccount 1 (some .boolean) :: hw_all
abbrev wX5_isAmount : List Cond := .code yX5_isAmount cX5_isAmount 1 (some .boolean) :: hw_all
abbrev wX5_entryCells : List Cond := .code yX5_entryCells cX5_entryCells 1 (some .int) :: hw_all
abbrev wX5_mix : List Cond := .code yX5_mix cX5_mix 4 (some .int) :: hw_all
abbrev wX5_node : List Cond := .code yX5_node cX5_node 2 (some .int) :: hw_all
abbrev wX5_split : List Cond := .code yX5_split cX5_split 3 (some .int) :: hw_all
abbrev wX0_init : List Cond := .code yX0_init cX0_init 1 none :: hw_all
abbrev wX0_failAt : List Cond := .code yX0_failAt cX0_failAt 2 none :: hw_all
abbrev wX0_writesDone : List Cond := .code yX0_writesDone cX0_writesDone 1 (some .int) :: hw_all
abbrev wX0_cellAt : List Cond := .code yX0_cellAt cX0_cellAt 2 (some .int) :: hw_all
abbrev wX0_write : List Cond := .code yX0_write cX0_write 5 (some .boolean) :: hw_all
abbrev wX1_init : List Cond := .code yX1_init cX1_init 1 none :: hw_all
abbrev wX1_add : List Cond := .code yX1_add cX1_add 3 (some .boolean) :: hw_all
abbrev wX1_clear : List Cond := .code yX1_clear cX1_clear 1 none :: hw_all
abbrev wX1_size : List Cond := .code yX1_size cX1_size 1 (some .int) :: hw_all
abbrev wX1_accountAt : List Cond := .code yX1_accountAt cX1_accountAt 2 (some .int) :: hw_all
abbrev wX1_amountAt : List Cond := .code yX1_amountAt cX1_amountAt 2 (some .int) :: hw_all
abbrev wX1_isEven : List Cond := .code yX1_isEven cX1_isEven 3 (some .boolean) :: hw_all
abbrev wX1_change : List Cond := .code yX1_change cX1_change 4 (some .int) :: hw_all
abbrev wX2_init : List Cond := .code yX2_init cX2_init 1 none :: hw_all
abbrev wX2_size : List Cond := .code yX2_size cX2_size 1 (some .int) :: hw_all
abbrev wX2_syncedSize : List Cond := .code yX2_syncedSize cX2_syncedSize 1 (some .int) :: hw_all
abbrev wX2_cellAt : List Cond := .code yX2_cellAt cX2_cellAt 2 (some .int) :: hw_all
abbrev wX2_leafOf : List Cond := .code yX2_leafOf cX2_leafOf 2 (some .int) :: hw_all
abbrev wX2_endsInBlock : List Cond := .code yX2_endsInBlock cX2_endsInBlock 1 (some .boolean) :: hw_all
abbrev wX2_endBlock : List Cond := .code yX2_endBlock cX2_endBlock 1 (some .int) :: hw_all
abbrev wX2_syncedBlock : List Cond := .code yX2_syncedBlock cX2_syncedBlock 1 (some .int) :: hw_all
abbrev wX2_markSynced : List Cond := .code yX2_markSynced cX2_markSynced 1 none :: hw_all
abbrev wX2_clear : List Cond := .code yX2_clear cX2_clear 1 none :: hw_all
abbrev wX2_append : List Cond := .code yX2_append cX2_append 5 (some .boolean) :: hw_all
abbrev wX2_load : List Cond := .code yX2_load cX2_load 3 none :: hw_all
abbrev wX2_firstWith : List Cond := .code yX2_firstWith cX2_firstWith 3 (some .int) :: hw_all
abbrev wX2_hasLegsOf : List Cond := .code yX2_hasLegsOf cX2_hasLegsOf 5 (some .boolean) :: hw_all
abbrev wX2_total : List Cond := .code yX2_total cX2_total 8 (some .int) :: hw_all
abbrev wX2_totalAt : List Cond := .code yX2_totalAt cX2_totalAt 6 (some .int) :: hw_all
abbrev wX2_acceptNext : List Cond := .code yX2_acceptNext cX2_acceptNext 1 none :: hw_all
abbrev wX2_nextIsSound : List Cond := .code yX2_nextIsSound cX2_nextIsSound 1 (some .boolean) :: hw_all
abbrev wX2_nextFits : List Cond := .code yX2_nextFits cX2_nextFits 1 (some .boolean) :: hw_all
abbrev wX2_nextLegsAreSound : List Cond := .code yX2_nextLegsAreSound cX2_nextLegsAreSound 4 (some .boolean) :: hw_all
abbrev wX2_leafFrom : List Cond := .code yX2_leafFrom cX2_leafFrom 4 (some .int) :: hw_all
abbrev wX2_lastSeal : List Cond := .code yX2_lastSeal cX2_lastSeal 1 (some .int) :: hw_all
abbrev wX2_clearBehindEnd : List Cond := .code yX2_clearBehindEnd cX2_clearBehindEnd 2 none :: hw_all
abbrev wX2_sealCell : List Cond := .code yX2_sealCell cX2_sealCell 2 (some .int) :: hw_all
abbrev wX2_accountCell : List Cond := .code yX2_accountCell cX2_accountCell 2 (some .int) :: hw_all
abbrev wX2_amountCell : List Cond := .code yX2_amountCell cX2_amountCell 2 (some .int) :: hw_all
abbrev wX2_blockOf : List Cond := .code yX2_blockOf cX2_blockOf 1 (some .int) :: hw_all
abbrev wX3_init : List Cond := .code yX3_init cX3_init 1 none :: hw_all
abbrev wX3_clear : List Cond := .code yX3_clear cX3_clear 1 none :: hw_all
abbrev wX3_length : List Cond := .code yX3_length cX3_length 1 (some .int) :: hw_all
abbrev wX3_intAt : List Cond := .code yX3_intAt cX3_intAt 2 (some .int) :: hw_all
abbrev wX3_add : List Cond := .code yX3_add cX3_add 2 (some .boolean) :: hw_all
abbrev wX3_removeLast : List Cond := .code yX3_removeLast cX3_removeLast 1 (some .boolean) :: hw_all
abbrev wX3_showsInclusion : List Cond := .code yX3_showsInclusion cX3_showsInclusion 5 (some .boolean) :: hw_all
abbrev wX3_showsConsistency : List Cond := .code yX3_showsConsistency cX3_showsConsistency 8 (some .boolean) :: hw_all
abbrev wX3_shownAbove : List Cond := .code yX3_shownAbove cX3_shownAbove 7 (some .int) :: hw_all
abbrev wX3_shownOld : List Cond := .code yX3_shownOld cX3_shownOld 6 (some .int) :: hw_all
abbrev wX3_shownNew : List Cond := .code yX3_shownNew cX3_shownNew 7 (some .int) :: hw_all
abbrev wX3_inclusionLength : List Cond := .code yX3_inclusionLength cX3_inclusionLength 4 (some .int) :: hw_all
abbrev wX3_consistencySteps : List Cond := .code yX3_consistencySteps cX3_consistencySteps 4 (some .int) :: hw_all
abbrev wX3_isOwn : List Cond := .code yX3_isOwn cX3_isOwn 3 (some .boolean) :: hw_all
abbrev wX4_headOf : List Cond := .code yX4_headOf cX4_headOf 2 (some .int) :: hw_all
abbrev wX4_addInclusion : List Cond := .code yX4_addInclusion cX4_addInclusion 4 none :: hw_all
abbrev wX4_addConsistency : List Cond := .code yX4_addConsistency cX4_addConsistency 4 none :: hw_all
abbrev wX4_hash : List Cond := .code yX4_hash cX4_hash 5 (some .int) :: hw_all
abbrev wX4_inclusion : List Cond := .code yX4_inclusion cX4_inclusion 7 none :: hw_all
abbrev wX4_consistency : List Cond := .code yX4_consistency cX4_consistency 8 none :: hw_all
abbrev wX6_init : List Cond := .code yX6_init cX6_init 1 none :: hw_all
abbrev wX6_mix : List Cond := .code yX6_mix cX6_mix 4 (some .int) :: hw_all
abbrev wX6_node : List Cond := .code yX6_node cX6_node 2 (some .int) :: hw_all
abbrev wX6_isAccount : List Cond := .code yX6_isAccount cX6_isAccount 1 (some .boolean) :: hw_all
abbrev wX6_limit : List Cond := .code yX6_limit cX6_limit 3 (some .boolean) :: hw_all
abbrev wX6_leg : List Cond := .code yX6_leg cX6_leg 3 (some .boolean) :: hw_all
abbrev wX6_drop : List Cond := .code yX6_drop cX6_drop 1 none :: hw_all
abbrev wX6_leafOf : List Cond := .code yX6_leafOf cX6_leafOf 4 (some .int) :: hw_all
abbrev wX6_sealOf : List Cond := .code yX6_sealOf cX6_sealOf 2 (some .int) :: hw_all
abbrev wX6_sameLegs : List Cond := .code yX6_sameLegs cX6_sameLegs 4 (some .boolean) :: hw_all
abbrev wX6_total : List Cond := .code yX6_total cX6_total 3 (some .int) :: hw_all
abbrev wX6_poor : List Cond := .code yX6_poor cX6_poor 5 (some .boolean) :: hw_all
abbrev wX6_commit : List Cond := .code yX6_commit cX6_commit 4 (some .int) :: hw_all
abbrev wX6_logged : List Cond := .code yX6_logged cX6_logged 5 (some .int) :: hw_all
abbrev wX6_write : List Cond := .code yX6_write cX6_write 3 (some .boolean) :: hw_all
abbrev wX6_sync : List Cond := .code yX6_sync cX6_sync 4 (some .int) :: hw_all
abbrev wX6_fail : List Cond := .code yX6_fail cX6_fail 2 (some .boolean) :: hw_all
abbrev wX6_sound : List Cond := .code yX6_sound cX6_sound 8 (some .boolean) :: hw_all
abbrev wX6_recover : List Cond := .code yX6_recover cX6_recover 1 (some .int) :: hw_all
abbrev wX6_on : List Cond := .code yX6_on cX6_on 1 (some .boolean) :: hw_all
abbrev wX6_entries : List Cond := .code yX6_entries cX6_entries 1 (some .int) :: hw_all
abbrev wX6_synced : List Cond := .code yX6_synced cX6_synced 1 (some .int) :: hw_all
abbrev wX6_balance : List Cond := .code yX6_balance cX6_balance 3 (some .int) :: hw_all
abbrev wX6_statement : List Cond := .code yX6_statement cX6_statement 8 (some .int) :: hw_all
abbrev wX6_find : List Cond := .code yX6_find cX6_find 3 (some .int) :: hw_all
abbrev wX6_leaf : List Cond := .code yX6_leaf cX6_leaf 2 (some .int) :: hw_all
abbrev wX6_hash : List Cond := .code yX6_hash cX6_hash 7 (some .int) :: hw_all
abbrev wX6_head : List Cond := .code yX6_head cX6_head 2 (some .int) :: hw_all
abbrev wX6_part : List Cond := .code yX6_part cX6_part 2 (some .int) :: hw_all
abbrev wX6_lay : List Cond := .code yX6_lay cX6_lay 2 none :: hw_all
abbrev wX6_prove : List Cond := .code yX6_prove cX6_prove 9 (some .int) :: hw_all
abbrev wX6_extend : List Cond := .code yX6_extend cX6_extend 10 (some .int) :: hw_all
abbrev wX6_put : List Cond := .code yX6_put cX6_put 2 (some .boolean) :: hw_all
abbrev wX6_take : List Cond := .code yX6_take cX6_take 1 (some .boolean) :: hw_all
abbrev wX6_pad : List Cond := .code yX6_pad cX6_pad 2 (some .int) :: hw_all
abbrev wX6_included : List Cond := .code yX6_included cX6_included 10 (some .boolean) :: hw_all
abbrev wX6_consistent : List Cond := .code yX6_consistent cX6_consistent 14 (some .boolean) :: hw_all
abbrev wX6_cell : List Cond := .code yX6_cell cX6_cell 2 (some .int) :: hw_all
abbrev wX6_writes : List Cond := .code yX6_writes cX6_writes 1 (some .int) :: hw_all

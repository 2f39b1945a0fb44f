set_option maxRecDepth 100000 in
theorem ok_X6_takeOver : (cd_X6_takeOver).all (fun q => cm_oke 63 q.1 q.2) = true := by decide +kernel
set_option maxRecDepth 100000 in
theorem ok_X6_dropFiles : (cd_X6_dropFiles).all (fun q => cm_oke 64 q.1 q.2) = true := by decide +kernel
set_option maxRecDepth 100000 in
theorem ok_X6_settleChanges : (cd_X6_settleChanges).all (fun q => cm_oke 65 q.1 q.2) = true := by decide +kernel
set_option maxRecDepth 100000 in
theorem ok_X6_settle : (cd_X6_settle).all (fun q => cm_oke 66 q.1 q.2) = true := by decide +kernel
set_option maxRecDepth 100000 in
theorem ok_X6_mountMap : (cd_X6_mountMap).all (fun q => cm_oke 67 q.1 q.2) = true := by decide +kernel
set_option maxRecDepth 100000 in
theorem ok_X6_takeCells : (cd_X6_takeCells).all (fun q => cm_oke 68 q.1 q.2) = true := by decide +kernel
set_option maxRecDepth 100000 in
theorem ok_X6_putCell : (cd_X6_putCell).all (fun q => cm_oke 69 q.1 q.2) = true := by decide +kernel
set_option maxRecDepth 100000 in
theorem ok_X6_has : (cd_X6_has).all (fun q => cm_oke 70 q.1 q.2) = true := by decide +kernel
set_option maxRecDepth 100000 in
theorem ok_X6_blockOf : (cd_X6_blockOf).all (fun q => cm_oke 71 q.1 q.2) = true := by decide +kernel
set_option maxRecDepth 100000 in
theorem ok_X6_numberOf : (cd_X6_numberOf).all (fun q => cm_oke 72 q.1 q.2) = true := by decide +kernel
set_option maxRecDepth 100000 in
theorem ok_X6_entryOf : (cd_X6_entryOf).all (fun q => cm_oke 73 q.1 q.2) = true := by decide +kernel
set_option maxRecDepth 100000 in
theorem ok_X6_nameOf : (cd_X6_nameOf).all (fun q => cm_oke 74 q.1 q.2) = true := by decide +kernel
set_option maxRecDepth 100000 in
theorem ok_X6_freeVirtual : (cd_X6_freeVirtual).all (fun q => cm_oke 75 q.1 q.2) = true := by decide +kernel
set_option maxRecDepth 100000 in
theorem ok_X6_fileCount : (cd_X6_fileCount).all (fun q => cm_oke 76 q.1 q.2) = true := by decide +kernel
set_option maxRecDepth 100000 in
theorem ok_X6_changedCount : (cd_X6_changedCount).all (fun q => cm_oke 77 q.1 q.2) = true := by decide +kernel
set_option maxRecDepth 100000 in
theorem ok_X6_anyChanged : (cd_X6_anyChanged).all (fun q => cm_oke 78 q.1 q.2) = true := by decide +kernel
set_option maxRecDepth 100000 in
theorem ok_X6_newCells : (cd_X6_newCells).all (fun q => cm_oke 79 q.1 q.2) = true := by decide +kernel
set_option maxRecDepth 100000 in
theorem ok_X6_newCount : (cd_X6_newCount).all (fun q => cm_oke 80 q.1 q.2) = true := by decide +kernel
set_option maxRecDepth 100000 in
theorem ok_X6_contentCount : (cd_X6_contentCount).all (fun q => cm_oke 81 q.1 q.2) = true := by decide +kernel
set_option maxRecDepth 100000 in
theorem ok_X6_canSet : (cd_X6_canSet).all (fun q => cm_oke 82 q.1 q.2) = true := by decide +kernel
set_option maxRecDepth 100000 in
theorem ok_X6_setCell : (cd_X6_setCell).all (fun q => cm_oke 83 q.1 q.2) = true := by decide +kernel
set_option maxRecDepth 100000 in
theorem ok_X6_beginFile : (cd_X6_beginFile).all (fun q => cm_oke 84 q.1 q.2) = true := by decide +kernel
set_option maxRecDepth 100000 in
theorem ok_X6_eraseFile : (cd_X6_eraseFile).all (fun q => cm_oke 85 q.1 q.2) = true := by decide +kernel
set_option maxRecDepth 100000 in
theorem ok_X6_forget : (cd_X6_forget).all (fun q => cm_oke 86 q.1 q.2) = true := by decide +kernel
set_option maxRecDepth 100000 in
theorem ok_X6_canGoTo : (cd_X6_canGoTo).all (fun q => cm_oke 87 q.1 q.2) = true := by decide +kernel
set_option maxRecDepth 100000 in
theorem ok_X6_renameFile : (cd_X6_renameFile).all (fun q => cm_oke 88 q.1 q.2) = true := by decide +kernel
set_option maxRecDepth 100000 in
theorem ok_X6_copyFile : (cd_X6_copyFile).all (fun q => cm_oke 89 q.1 q.2) = true := by decide +kernel
set_option maxRecDepth 100000 in
theorem ok_X6_copyCells : (cd_X6_copyCells).all (fun q => cm_oke 90 q.1 q.2) = true := by decide +kernel
set_option maxRecDepth 100000 in
theorem ok_X6_isLike : (cd_X6_isLike).all (fun q => cm_oke 91 q.1 q.2) = true := by decide +kernel
set_option maxRecDepth 100000 in
theorem ok_X6_runs : (cd_X6_runs).all (fun q => cm_oke 92 q.1 q.2) = true := by decide +kernel
set_option maxRecDepth 100000 in
theorem ok_X6_farthest : (cd_X6_farthest).all (fun q => cm_oke 93 q.1 q.2) = true := by decide +kernel
set_option maxRecDepth 100000 in
theorem ok_X7_init : (cd_X7_init).all (fun q => cm_oke 94 q.1 q.2) = true := by decide +kernel
set_option maxRecDepth 100000 in
theorem ok_X7_begin : (cd_X7_begin).all (fun q => cm_oke 95 q.1 q.2) = true := by decide +kernel
set_option maxRecDepth 100000 in
theorem ok_X7_advance : (cd_X7_advance).all (fun q => cm_oke 96 q.1 q.2) = true := by decide +kernel
set_option maxRecDepth 100000 in
theorem ok_X7_endOfRow : (cd_X7_endOfRow).all (fun q => cm_oke 97 q.1 q.2) = true := by decide +kernel
set_option maxRecDepth 100000 in
theorem ok_X7_takeValue : (cd_X7_takeValue).all (fun q => cm_oke 98 q.1 q.2) = true := by decide +kernel

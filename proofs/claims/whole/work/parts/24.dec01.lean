set_option maxRecDepth 100000 in
theorem ok_X2_isGoodMap : (cd_X2_isGoodMap).all (fun q => cm_oke 31 q.1 q.2) = true := by decide +kernel
set_option maxRecDepth 100000 in
theorem ok_X2_lastGoodMap : (cd_X2_lastGoodMap).all (fun q => cm_oke 32 q.1 q.2) = true := by decide +kernel
set_option maxRecDepth 100000 in
theorem ok_X2_goodMaps : (cd_X2_goodMaps).all (fun q => cm_oke 33 q.1 q.2) = true := by decide +kernel
set_option maxRecDepth 100000 in
theorem ok_X2_mapAlong : (cd_X2_mapAlong).all (fun q => cm_oke 34 q.1 q.2) = true := by decide +kernel
set_option maxRecDepth 100000 in
theorem ok_X2_mapsAlong : (cd_X2_mapsAlong).all (fun q => cm_oke 35 q.1 q.2) = true := by decide +kernel
set_option maxRecDepth 100000 in
theorem ok_X2_entryBy : (cd_X2_entryBy).all (fun q => cm_oke 36 q.1 q.2) = true := by decide +kernel
set_option maxRecDepth 100000 in
theorem ok_X2_numberBy : (cd_X2_numberBy).all (fun q => cm_oke 37 q.1 q.2) = true := by decide +kernel
set_option maxRecDepth 100000 in
theorem ok_X2_tellAlike : (cd_X2_tellAlike).all (fun q => cm_oke 38 q.1 q.2) = true := by decide +kernel
set_option maxRecDepth 100000 in
theorem ok_X2_reach : (cd_X2_reach).all (fun q => cm_oke 39 q.1 q.2) = true := by decide +kernel
set_option maxRecDepth 100000 in
theorem ok_X2_reachBlock : (cd_X2_reachBlock).all (fun q => cm_oke 40 q.1 q.2) = true := by decide +kernel
set_option maxRecDepth 100000 in
theorem ok_X2_mapsReaching : (cd_X2_mapsReaching).all (fun q => cm_oke 41 q.1 q.2) = true := by decide +kernel
set_option maxRecDepth 100000 in
theorem ok_X2_deadBlocks : (cd_X2_deadBlocks).all (fun q => cm_oke 42 q.1 q.2) = true := by decide +kernel
set_option maxRecDepth 100000 in
theorem ok_X2_badBlocks : (cd_X2_badBlocks).all (fun q => cm_oke 43 q.1 q.2) = true := by decide +kernel
set_option maxRecDepth 100000 in
theorem ok_X3_init : (cd_X3_init).all (fun q => cm_oke 44 q.1 q.2) = true := by decide +kernel
set_option maxRecDepth 100000 in
theorem ok_X3_draw : (cd_X3_draw).all (fun q => cm_oke 45 q.1 q.2) = true := by decide +kernel
set_option maxRecDepth 100000 in
theorem ok_X4_init : (cd_X4_init).all (fun q => cm_oke 46 q.1 q.2) = true := by decide +kernel
set_option maxRecDepth 100000 in
theorem ok_X5_init : (cd_X5_init).all (fun q => cm_oke 47 q.1 q.2) = true := by decide +kernel
set_option maxRecDepth 100000 in
theorem ok_X5_readText : (cd_X5_readText).all (fun q => cm_oke 48 q.1 q.2) = true := by decide +kernel
set_option maxRecDepth 100000 in
theorem ok_X5_forgetAll : (cd_X5_forgetAll).all (fun q => cm_oke 49 q.1 q.2) = true := by decide +kernel
set_option maxRecDepth 100000 in
theorem ok_X5_readClause : (cd_X5_readClause).all (fun q => cm_oke 50 q.1 q.2) = true := by decide +kernel
set_option maxRecDepth 100000 in
theorem ok_X5_fail : (cd_X5_fail).all (fun q => cm_oke 51 q.1 q.2) = true := by decide +kernel
set_option maxRecDepth 100000 in
theorem ok_X5_readSemicolon : (cd_X5_readSemicolon).all (fun q => cm_oke 52 q.1 q.2) = true := by decide +kernel
set_option maxRecDepth 100000 in
theorem ok_X5_readDisc : (cd_X5_readDisc).all (fun q => cm_oke 53 q.1 q.2) = true := by decide +kernel
set_option maxRecDepth 100000 in
theorem ok_X5_readNumber : (cd_X5_readNumber).all (fun q => cm_oke 54 q.1 q.2) = true := by decide +kernel
set_option maxRecDepth 100000 in
theorem ok_X5_isFit : (cd_X5_isFit).all (fun q => cm_oke 55 q.1 q.2) = true := by decide +kernel
set_option maxRecDepth 100000 in
theorem ok_X5_readBad : (cd_X5_readBad).all (fun q => cm_oke 56 q.1 q.2) = true := by decide +kernel
set_option maxRecDepth 100000 in
theorem ok_X5_readBadBlock : (cd_X5_readBadBlock).all (fun q => cm_oke 57 q.1 q.2) = true := by decide +kernel
set_option maxRecDepth 100000 in
theorem ok_X5_readFile : (cd_X5_readFile).all (fun q => cm_oke 58 q.1 q.2) = true := by decide +kernel
set_option maxRecDepth 100000 in
theorem ok_X5_isTold : (cd_X5_isTold).all (fun q => cm_oke 59 q.1 q.2) = true := by decide +kernel
set_option maxRecDepth 100000 in
theorem ok_X5_readCell : (cd_X5_readCell).all (fun q => cm_oke 60 q.1 q.2) = true := by decide +kernel
set_option maxRecDepth 100000 in
theorem ok_X6_init : (cd_X6_init).all (fun q => cm_oke 61 q.1 q.2) = true := by decide +kernel
set_option maxRecDepth 100000 in
theorem ok_X6_takeFrom : (cd_X6_takeFrom).all (fun q => cm_oke 62 q.1 q.2) = true := by decide +kernel

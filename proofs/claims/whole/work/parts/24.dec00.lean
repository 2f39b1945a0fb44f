set_option maxRecDepth 100000 in
theorem ok_X0_init : (cd_X0_init).all (fun q => cm_oke 0 q.1 q.2) = true := by decide +kernel
set_option maxRecDepth 100000 in
theorem ok_X0_forget : (cd_X0_forget).all (fun q => cm_oke 1 q.1 q.2) = true := by decide +kernel
set_option maxRecDepth 100000 in
theorem ok_X0_keep : (cd_X0_keep).all (fun q => cm_oke 2 q.1 q.2) = true := by decide +kernel
set_option maxRecDepth 100000 in
theorem ok_X0_takeBack : (cd_X0_takeBack).all (fun q => cm_oke 3 q.1 q.2) = true := by decide +kernel
set_option maxRecDepth 100000 in
theorem ok_X0_takeFrom : (cd_X0_takeFrom).all (fun q => cm_oke 4 q.1 q.2) = true := by decide +kernel
set_option maxRecDepth 100000 in
theorem ok_X1_init : (cd_X1_init).all (fun q => cm_oke 5 q.1 q.2) = true := by decide +kernel
set_option maxRecDepth 100000 in
theorem ok_X1_plan : (cd_X1_plan).all (fun q => cm_oke 6 q.1 q.2) = true := by decide +kernel
set_option maxRecDepth 100000 in
theorem ok_X1_addFile : (cd_X1_addFile).all (fun q => cm_oke 7 q.1 q.2) = true := by decide +kernel
set_option maxRecDepth 100000 in
theorem ok_X1_add : (cd_X1_add).all (fun q => cm_oke 8 q.1 q.2) = true := by decide +kernel
set_option maxRecDepth 100000 in
theorem ok_X1_lay : (cd_X1_lay).all (fun q => cm_oke 9 q.1 q.2) = true := by decide +kernel
set_option maxRecDepth 100000 in
theorem ok_X1_placePacket : (cd_X1_placePacket).all (fun q => cm_oke 10 q.1 q.2) = true := by decide +kernel
set_option maxRecDepth 100000 in
theorem ok_X1_writeBlock : (cd_X1_writeBlock).all (fun q => cm_oke 11 q.1 q.2) = true := by decide +kernel
set_option maxRecDepth 100000 in
theorem ok_X1_writeEntry : (cd_X1_writeEntry).all (fun q => cm_oke 12 q.1 q.2) = true := by decide +kernel
set_option maxRecDepth 100000 in
theorem ok_X1_writeDirectory : (cd_X1_writeDirectory).all (fun q => cm_oke 13 q.1 q.2) = true := by decide +kernel
set_option maxRecDepth 100000 in
theorem ok_X1_writeMap : (cd_X1_writeMap).all (fun q => cm_oke 14 q.1 q.2) = true := by decide +kernel
set_option maxRecDepth 100000 in
theorem ok_X2_init : (cd_X2_init).all (fun q => cm_oke 15 q.1 q.2) = true := by decide +kernel
set_option maxRecDepth 100000 in
theorem ok_X2_takeOver : (cd_X2_takeOver).all (fun q => cm_oke 16 q.1 q.2) = true := by decide +kernel
set_option maxRecDepth 100000 in
theorem ok_X2_takeBlocks : (cd_X2_takeBlocks).all (fun q => cm_oke 17 q.1 q.2) = true := by decide +kernel
set_option maxRecDepth 100000 in
theorem ok_X2_isBlock : (cd_X2_isBlock).all (fun q => cm_oke 18 q.1 q.2) = true := by decide +kernel
set_option maxRecDepth 100000 in
theorem ok_X2_isFaulty : (cd_X2_isFaulty).all (fun q => cm_oke 19 q.1 q.2) = true := by decide +kernel
set_option maxRecDepth 100000 in
theorem ok_X2_hasFaulty : (cd_X2_hasFaulty).all (fun q => cm_oke 20 q.1 q.2) = true := by decide +kernel
set_option maxRecDepth 100000 in
theorem ok_X2_kindOf : (cd_X2_kindOf).all (fun q => cm_oke 21 q.1 q.2) = true := by decide +kernel
set_option maxRecDepth 100000 in
theorem ok_X2_lengthOf : (cd_X2_lengthOf).all (fun q => cm_oke 22 q.1 q.2) = true := by decide +kernel
set_option maxRecDepth 100000 in
theorem ok_X2_toldBy : (cd_X2_toldBy).all (fun q => cm_oke 23 q.1 q.2) = true := by decide +kernel
set_option maxRecDepth 100000 in
theorem ok_X2_write : (cd_X2_write).all (fun q => cm_oke 24 q.1 q.2) = true := by decide +kernel
set_option maxRecDepth 100000 in
theorem ok_X2_tell : (cd_X2_tell).all (fun q => cm_oke 25 q.1 q.2) = true := by decide +kernel
set_option maxRecDepth 100000 in
theorem ok_X2_packetsFor : (cd_X2_packetsFor).all (fun q => cm_oke 26 q.1 q.2) = true := by decide +kernel
set_option maxRecDepth 100000 in
theorem ok_X2_costOf : (cd_X2_costOf).all (fun q => cm_oke 27 q.1 q.2) = true := by decide +kernel
set_option maxRecDepth 100000 in
theorem ok_X2_hasRoomForPacket : (cd_X2_hasRoomForPacket).all (fun q => cm_oke 28 q.1 q.2) = true := by decide +kernel
set_option maxRecDepth 100000 in
theorem ok_X2_wouldSpare : (cd_X2_wouldSpare).all (fun q => cm_oke 29 q.1 q.2) = true := by decide +kernel
set_option maxRecDepth 100000 in
theorem ok_X2_foresee : (cd_X2_foresee).all (fun q => cm_oke 30 q.1 q.2) = true := by decide +kernel

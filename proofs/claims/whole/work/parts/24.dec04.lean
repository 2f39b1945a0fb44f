set_option maxRecDepth 100000 in
theorem ok_X8_sync : (cd_X8_sync).all (fun q => cm_oke 130 q.1 q.2) = true := by decide +kernel
set_option maxRecDepth 100000 in
theorem ok_X8_packetsNow : (cd_X8_packetsNow).all (fun q => cm_oke 131 q.1 q.2) = true := by decide +kernel
set_option maxRecDepth 100000 in
theorem ok_X8_canBegin : (cd_X8_canBegin).all (fun q => cm_oke 132 q.1 q.2) = true := by decide +kernel
set_option maxRecDepth 100000 in
theorem ok_X8_writeAll : (cd_X8_writeAll).all (fun q => cm_oke 133 q.1 q.2) = true := by decide +kernel
set_option maxRecDepth 100000 in
theorem ok_X8_mountLast : (cd_X8_mountLast).all (fun q => cm_oke 134 q.1 q.2) = true := by decide +kernel
set_option maxRecDepth 100000 in
theorem ok_X8_tear : (cd_X8_tear).all (fun q => cm_oke 135 q.1 q.2) = true := by decide +kernel
set_option maxRecDepth 100000 in
theorem ok_X8_canTear : (cd_X8_canTear).all (fun q => cm_oke 136 q.1 q.2) = true := by decide +kernel
set_option maxRecDepth 100000 in
theorem ok_X8_writeTorn : (cd_X8_writeTorn).all (fun q => cm_oke 137 q.1 q.2) = true := by decide +kernel
set_option maxRecDepth 100000 in
theorem ok_X8_close : (cd_X8_close).all (fun q => cm_oke 138 q.1 q.2) = true := by decide +kernel
set_option maxRecDepth 100000 in
theorem ok_X8_canClose : (cd_X8_canClose).all (fun q => cm_oke 139 q.1 q.2) = true := by decide +kernel
set_option maxRecDepth 100000 in
theorem ok_X8_closeSession : (cd_X8_closeSession).all (fun q => cm_oke 140 q.1 q.2) = true := by decide +kernel
set_option maxRecDepth 100000 in
theorem ok_X8_mount : (cd_X8_mount).all (fun q => cm_oke 141 q.1 q.2) = true := by decide +kernel
set_option maxRecDepth 100000 in
theorem ok_X8_undo : (cd_X8_undo).all (fun q => cm_oke 142 q.1 q.2) = true := by decide +kernel
set_option maxRecDepth 100000 in
theorem ok_X8_cost : (cd_X8_cost).all (fun q => cm_oke 143 q.1 q.2) = true := by decide +kernel
set_option maxRecDepth 100000 in
theorem ok_X8_apart : (cd_X8_apart).all (fun q => cm_oke 144 q.1 q.2) = true := by decide +kernel
set_option maxRecDepth 100000 in
theorem ok_X8_found : (cd_X8_found).all (fun q => cm_oke 145 q.1 q.2) = true := by decide +kernel
set_option maxRecDepth 100000 in
theorem ok_X8_left : (cd_X8_left).all (fun q => cm_oke 146 q.1 q.2) = true := by decide +kernel
set_option maxRecDepth 100000 in
theorem ok_X8_ends : (cd_X8_ends).all (fun q => cm_oke 147 q.1 q.2) = true := by decide +kernel
set_option maxRecDepth 100000 in
theorem ok_X8_endWith : (cd_X8_endWith).all (fun q => cm_oke 148 q.1 q.2) = true := by decide +kernel
set_option maxRecDepth 100000 in
theorem ok_X8_toPack : (cd_X8_toPack).all (fun q => cm_oke 149 q.1 q.2) = true := by decide +kernel
set_option maxRecDepth 100000 in
theorem ok_X8_blocksBy : (cd_X8_blocksBy).all (fun q => cm_oke 150 q.1 q.2) = true := by decide +kernel
set_option maxRecDepth 100000 in
theorem ok_X8_packetsBy : (cd_X8_packetsBy).all (fun q => cm_oke 151 q.1 q.2) = true := by decide +kernel
set_option maxRecDepth 100000 in
theorem ok_X8_guess : (cd_X8_guess).all (fun q => cm_oke 152 q.1 q.2) = true := by decide +kernel
set_option maxRecDepth 100000 in
theorem ok_X8_storms : (cd_X8_storms).all (fun q => cm_oke 153 q.1 q.2) = true := by decide +kernel
set_option maxRecDepth 100000 in
theorem ok_X8_power : (cd_X8_power).all (fun q => cm_oke 154 q.1 q.2) = true := by decide +kernel
set_option maxRecDepth 100000 in
theorem ok_X8_years : (cd_X8_years).all (fun q => cm_oke 155 q.1 q.2) = true := by decide +kernel
set_option maxRecDepth 100000 in
theorem ok_X8_liveYear : (cd_X8_liveYear).all (fun q => cm_oke 156 q.1 q.2) = true := by decide +kernel
set_option maxRecDepth 100000 in
theorem ok_X8_setDrawn : (cd_X8_setDrawn).all (fun q => cm_oke 157 q.1 q.2) = true := by decide +kernel
set_option maxRecDepth 100000 in
theorem ok_X8_image : (cd_X8_image).all (fun q => cm_oke 158 q.1 q.2) = true := by decide +kernel
set_option maxRecDepth 100000 in
theorem ok_X8_restore : (cd_X8_restore).all (fun q => cm_oke 159 q.1 q.2) = true := by decide +kernel

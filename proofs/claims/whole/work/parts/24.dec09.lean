set_option maxRecDepth 100000 in
theorem ok_X9_canClose : (cd_X9_canClose).all (fun q => cm_oke 254 q.1 q.2) = true := by decide +kernel
set_option maxRecDepth 100000 in
theorem ok_X9_closeNow : (cd_X9_closeNow).all (fun q => cm_oke 255 q.1 q.2) = true := by decide +kernel
set_option maxRecDepth 100000 in
theorem ok_X9_close : (cd_X9_close).all (fun q => cm_oke 256 q.1 q.2) = true := by decide +kernel
set_option maxRecDepth 100000 in
theorem ok_X9_mount : (cd_X9_mount).all (fun q => cm_oke 257 q.1 q.2) = true := by decide +kernel
set_option maxRecDepth 100000 in
theorem ok_X9_undo : (cd_X9_undo).all (fun q => cm_oke 258 q.1 q.2) = true := by decide +kernel
set_option maxRecDepth 100000 in
theorem ok_X9_costOf : (cd_X9_costOf).all (fun q => cm_oke 259 q.1 q.2) = true := by decide +kernel
set_option maxRecDepth 100000 in
theorem ok_X9_things : (cd_X9_things).all (fun q => cm_oke 260 q.1 q.2) = true := by decide +kernel
set_option maxRecDepth 100000 in
theorem ok_X9_cost : (cd_X9_cost).all (fun q => cm_oke 261 q.1 q.2) = true := by decide +kernel
set_option maxRecDepth 100000 in
theorem ok_X9_apart : (cd_X9_apart).all (fun q => cm_oke 262 q.1 q.2) = true := by decide +kernel
set_option maxRecDepth 100000 in
theorem ok_X9_found : (cd_X9_found).all (fun q => cm_oke 263 q.1 q.2) = true := by decide +kernel
set_option maxRecDepth 100000 in
theorem ok_X9_left : (cd_X9_left).all (fun q => cm_oke 264 q.1 q.2) = true := by decide +kernel
set_option maxRecDepth 100000 in
theorem ok_X9_endsNow : (cd_X9_endsNow).all (fun q => cm_oke 265 q.1 q.2) = true := by decide +kernel
set_option maxRecDepth 100000 in
theorem ok_X9_ends : (cd_X9_ends).all (fun q => cm_oke 266 q.1 q.2) = true := by decide +kernel
set_option maxRecDepth 100000 in
theorem ok_X9_toPack : (cd_X9_toPack).all (fun q => cm_oke 267 q.1 q.2) = true := by decide +kernel
set_option maxRecDepth 100000 in
theorem ok_X9_guess : (cd_X9_guess).all (fun q => cm_oke 268 q.1 q.2) = true := by decide +kernel
set_option maxRecDepth 100000 in
theorem ok_X9_powerOf : (cd_X9_powerOf).all (fun q => cm_oke 269 q.1 q.2) = true := by decide +kernel
set_option maxRecDepth 100000 in
theorem ok_X9_storms : (cd_X9_storms).all (fun q => cm_oke 270 q.1 q.2) = true := by decide +kernel
set_option maxRecDepth 100000 in
theorem ok_X9_draw : (cd_X9_draw).all (fun q => cm_oke 271 q.1 q.2) = true := by decide +kernel
set_option maxRecDepth 100000 in
theorem ok_X9_happen : (cd_X9_happen).all (fun q => cm_oke 272 q.1 q.2) = true := by decide +kernel
set_option maxRecDepth 100000 in
theorem ok_X9_years : (cd_X9_years).all (fun q => cm_oke 273 q.1 q.2) = true := by decide +kernel
set_option maxRecDepth 100000 in
theorem ok_X9_image : (cd_X9_image).all (fun q => cm_oke 274 q.1 q.2) = true := by decide +kernel
set_option maxRecDepth 100000 in
theorem ok_X9_restore : (cd_X9_restore).all (fun q => cm_oke 275 q.1 q.2) = true := by decide +kernel
set_option maxRecDepth 100000 in
theorem ok_L_disc : (cd_L_disc).all (fun q => cm_oke 276 q.1 q.2) = true := by decide +kernel
set_option maxRecDepth 100000 in
theorem ok_L_count : (cd_L_count).all (fun q => cm_oke 277 q.1 q.2) = true := by decide +kernel
set_option maxRecDepth 100000 in
theorem ok_L_block : (cd_L_block).all (fun q => cm_oke 278 q.1 q.2) = true := by decide +kernel

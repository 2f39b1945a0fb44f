set_option maxRecDepth 100000 in
theorem ok_X9_versions : (cd_X9_versions).all (fun q => cm_oke 232 q.1 q.2) = true := by decide +kernel
set_option maxRecDepth 100000 in
theorem ok_X9_since : (cd_X9_since).all (fun q => cm_oke 233 q.1 q.2) = true := by decide +kernel
set_option maxRecDepth 100000 in
theorem ok_X9_isAsInMind : (cd_X9_isAsInMind).all (fun q => cm_oke 234 q.1 q.2) = true := by decide +kernel
set_option maxRecDepth 100000 in
theorem ok_X9_alike : (cd_X9_alike).all (fun q => cm_oke 235 q.1 q.2) = true := by decide +kernel
set_option maxRecDepth 100000 in
theorem ok_X9_refuse : (cd_X9_refuse).all (fun q => cm_oke 236 q.1 q.2) = true := by decide +kernel
set_option maxRecDepth 100000 in
theorem ok_X9_copyTo : (cd_X9_copyTo).all (fun q => cm_oke 237 q.1 q.2) = true := by decide +kernel
set_option maxRecDepth 100000 in
theorem ok_X9_keep : (cd_X9_keep).all (fun q => cm_oke 238 q.1 q.2) = true := by decide +kernel
set_option maxRecDepth 100000 in
theorem ok_X9_freeVirtual : (cd_X9_freeVirtual).all (fun q => cm_oke 239 q.1 q.2) = true := by decide +kernel
set_option maxRecDepth 100000 in
theorem ok_X9_canSet : (cd_X9_canSet).all (fun q => cm_oke 240 q.1 q.2) = true := by decide +kernel
set_option maxRecDepth 100000 in
theorem ok_X9_beginFile : (cd_X9_beginFile).all (fun q => cm_oke 241 q.1 q.2) = true := by decide +kernel
set_option maxRecDepth 100000 in
theorem ok_X9_setNow : (cd_X9_setNow).all (fun q => cm_oke 242 q.1 q.2) = true := by decide +kernel
set_option maxRecDepth 100000 in
theorem ok_X9_set : (cd_X9_set).all (fun q => cm_oke 243 q.1 q.2) = true := by decide +kernel
set_option maxRecDepth 100000 in
theorem ok_X9_cut : (cd_X9_cut).all (fun q => cm_oke 244 q.1 q.2) = true := by decide +kernel
set_option maxRecDepth 100000 in
theorem ok_X9_eraseNow : (cd_X9_eraseNow).all (fun q => cm_oke 245 q.1 q.2) = true := by decide +kernel
set_option maxRecDepth 100000 in
theorem ok_X9_erase : (cd_X9_erase).all (fun q => cm_oke 246 q.1 q.2) = true := by decide +kernel
set_option maxRecDepth 100000 in
theorem ok_X9_canName : (cd_X9_canName).all (fun q => cm_oke 247 q.1 q.2) = true := by decide +kernel
set_option maxRecDepth 100000 in
theorem ok_X9_likeCells : (cd_X9_likeCells).all (fun q => cm_oke 248 q.1 q.2) = true := by decide +kernel
set_option maxRecDepth 100000 in
theorem ok_X9_rename : (cd_X9_rename).all (fun q => cm_oke 249 q.1 q.2) = true := by decide +kernel
set_option maxRecDepth 100000 in
theorem ok_X9_copy : (cd_X9_copy).all (fun q => cm_oke 250 q.1 q.2) = true := by decide +kernel
set_option maxRecDepth 100000 in
theorem ok_X9_revert : (cd_X9_revert).all (fun q => cm_oke 251 q.1 q.2) = true := by decide +kernel
set_option maxRecDepth 100000 in
theorem ok_X9_sync : (cd_X9_sync).all (fun q => cm_oke 252 q.1 q.2) = true := by decide +kernel
set_option maxRecDepth 100000 in
theorem ok_X9_tear : (cd_X9_tear).all (fun q => cm_oke 253 q.1 q.2) = true := by decide +kernel

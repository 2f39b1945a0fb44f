set_option maxRecDepth 100000 in
theorem ok_X9_writeAll : (cd_X9_writeAll).all (fun q => cm_oke 209 q.1 q.2) = true := by decide +kernel
set_option maxRecDepth 100000 in
theorem ok_X9_commit : (cd_X9_commit).all (fun q => cm_oke 210 q.1 q.2) = true := by decide +kernel
set_option maxRecDepth 100000 in
theorem ok_X9_syncNow : (cd_X9_syncNow).all (fun q => cm_oke 211 q.1 q.2) = true := by decide +kernel
set_option maxRecDepth 100000 in
theorem ok_X9_wouldWrite : (cd_X9_wouldWrite).all (fun q => cm_oke 212 q.1 q.2) = true := by decide +kernel
set_option maxRecDepth 100000 in
theorem ok_X9_tearNow : (cd_X9_tearNow).all (fun q => cm_oke 213 q.1 q.2) = true := by decide +kernel
set_option maxRecDepth 100000 in
theorem ok_X9_meet : (cd_X9_meet).all (fun q => cm_oke 214 q.1 q.2) = true := by decide +kernel
set_option maxRecDepth 100000 in
theorem ok_X9_goodMaps : (cd_X9_goodMaps).all (fun q => cm_oke 215 q.1 q.2) = true := by decide +kernel
set_option maxRecDepth 100000 in
theorem ok_X9_chain : (cd_X9_chain).all (fun q => cm_oke 216 q.1 q.2) = true := by decide +kernel
set_option maxRecDepth 100000 in
theorem ok_X9_dead : (cd_X9_dead).all (fun q => cm_oke 217 q.1 q.2) = true := by decide +kernel
set_option maxRecDepth 100000 in
theorem ok_X9_badMany : (cd_X9_badMany).all (fun q => cm_oke 218 q.1 q.2) = true := by decide +kernel
set_option maxRecDepth 100000 in
theorem ok_X9_count : (cd_X9_count).all (fun q => cm_oke 219 q.1 q.2) = true := by decide +kernel
set_option maxRecDepth 100000 in
theorem ok_X9_isBlock : (cd_X9_isBlock).all (fun q => cm_oke 220 q.1 q.2) = true := by decide +kernel
set_option maxRecDepth 100000 in
theorem ok_X9_block : (cd_X9_block).all (fun q => cm_oke 221 q.1 q.2) = true := by decide +kernel
set_option maxRecDepth 100000 in
theorem ok_X9_tells : (cd_X9_tells).all (fun q => cm_oke 222 q.1 q.2) = true := by decide +kernel
set_option maxRecDepth 100000 in
theorem ok_X9_isName : (cd_X9_isName).all (fun q => cm_oke 223 q.1 q.2) = true := by decide +kernel
set_option maxRecDepth 100000 in
theorem ok_X9_isFile : (cd_X9_isFile).all (fun q => cm_oke 224 q.1 q.2) = true := by decide +kernel
set_option maxRecDepth 100000 in
theorem ok_X9_file : (cd_X9_file).all (fun q => cm_oke 225 q.1 q.2) = true := by decide +kernel
set_option maxRecDepth 100000 in
theorem ok_X9_read : (cd_X9_read).all (fun q => cm_oke 226 q.1 q.2) = true := by decide +kernel
set_option maxRecDepth 100000 in
theorem ok_X9_whereOf : (cd_X9_whereOf).all (fun q => cm_oke 227 q.1 q.2) = true := by decide +kernel
set_option maxRecDepth 100000 in
theorem ok_X9_lie : (cd_X9_lie).all (fun q => cm_oke 228 q.1 q.2) = true := by decide +kernel
set_option maxRecDepth 100000 in
theorem ok_X9_mapBack : (cd_X9_mapBack).all (fun q => cm_oke 229 q.1 q.2) = true := by decide +kernel
set_option maxRecDepth 100000 in
theorem ok_X9_past : (cd_X9_past).all (fun q => cm_oke 230 q.1 q.2) = true := by decide +kernel
set_option maxRecDepth 100000 in
theorem ok_X9_areAlike : (cd_X9_areAlike).all (fun q => cm_oke 231 q.1 q.2) = true := by decide +kernel

set_option maxRecDepth 100000 in
theorem ok_X8_isName : (cd_X8_isName).all (fun q => cm_oke 160 q.1 q.2) = true := by decide +kernel
set_option maxRecDepth 100000 in
theorem ok_X9_init_p0 : (((cd_X9_init).drop 0).take 100).all (fun q => cm_oke 161 q.1 q.2) = true := by decide +kernel
set_option maxRecDepth 100000 in
theorem ok_X9_init_p1 : (((cd_X9_init).drop 100).take 100).all (fun q => cm_oke 161 q.1 q.2) = true := by decide +kernel
set_option maxRecDepth 100000 in
theorem ok_X9_init : (cd_X9_init).all (fun q => cm_oke 161 q.1 q.2) = true := cm_chunks [((cd_X9_init).drop 0).take 100, ((cd_X9_init).drop 100).take 100] rfl (by simp only [List.forall_mem_cons, List.not_mem_nil, false_implies, implies_true, and_true]; exact ⟨ok_X9_init_p0, ok_X9_init_p1⟩)
set_option maxRecDepth 100000 in
theorem ok_X9_thrown : (cd_X9_thrown).all (fun q => cm_oke 162 q.1 q.2) = true := by decide +kernel
set_option maxRecDepth 100000 in
theorem ok_X9_fail : (cd_X9_fail).all (fun q => cm_oke 163 q.1 q.2) = true := by decide +kernel
set_option maxRecDepth 100000 in
theorem ok_X9_isIn : (cd_X9_isIn).all (fun q => cm_oke 164 q.1 q.2) = true := by decide +kernel
set_option maxRecDepth 100000 in
theorem ok_X9_noFiles : (cd_X9_noFiles).all (fun q => cm_oke 165 q.1 q.2) = true := by decide +kernel
set_option maxRecDepth 100000 in
theorem ok_X9_layNothing : (cd_X9_layNothing).all (fun q => cm_oke 166 q.1 q.2) = true := by decide +kernel
set_option maxRecDepth 100000 in
theorem ok_X9_feed : (cd_X9_feed).all (fun q => cm_oke 167 q.1 q.2) = true := by decide +kernel
set_option maxRecDepth 100000 in
theorem ok_X9_byteAt : (cd_X9_byteAt).all (fun q => cm_oke 168 q.1 q.2) = true := by decide +kernel
set_option maxRecDepth 100000 in
theorem ok_X9_isLetter : (cd_X9_isLetter).all (fun q => cm_oke 169 q.1 q.2) = true := by decide +kernel
set_option maxRecDepth 100000 in
theorem ok_X9_isDigit : (cd_X9_isDigit).all (fun q => cm_oke 170 q.1 q.2) = true := by decide +kernel
set_option maxRecDepth 100000 in
theorem ok_X9_stepOn_p0 : (((cd_X9_stepOn).drop 0).take 100).all (fun q => cm_oke 171 q.1 q.2) = true := by decide +kernel
set_option maxRecDepth 100000 in
theorem ok_X9_stepOn_p1 : (((cd_X9_stepOn).drop 100).take 100).all (fun q => cm_oke 171 q.1 q.2) = true := by decide +kernel
set_option maxRecDepth 100000 in
theorem ok_X9_stepOn : (cd_X9_stepOn).all (fun q => cm_oke 171 q.1 q.2) = true := cm_chunks [((cd_X9_stepOn).drop 0).take 100, ((cd_X9_stepOn).drop 100).take 100] rfl (by simp only [List.forall_mem_cons, List.not_mem_nil, false_implies, implies_true, and_true]; exact ⟨ok_X9_stepOn_p0, ok_X9_stepOn_p1⟩)
set_option maxRecDepth 100000 in
theorem ok_X9_wrong : (cd_X9_wrong).all (fun q => cm_oke 172 q.1 q.2) = true := by decide +kernel
set_option maxRecDepth 100000 in
theorem ok_X9_is : (cd_X9_is).all (fun q => cm_oke 173 q.1 q.2) = true := by decide +kernel
set_option maxRecDepth 100000 in
theorem ok_X9_numberNow : (cd_X9_numberNow).all (fun q => cm_oke 174 q.1 q.2) = true := by decide +kernel
set_option maxRecDepth 100000 in
theorem ok_X9_readNumber : (cd_X9_readNumber).all (fun q => cm_oke 175 q.1 q.2) = true := by decide +kernel
set_option maxRecDepth 100000 in
theorem ok_X9_isNumberNext : (cd_X9_isNumberNext).all (fun q => cm_oke 176 q.1 q.2) = true := by decide +kernel
set_option maxRecDepth 100000 in
theorem ok_X9_readDisc : (cd_X9_readDisc).all (fun q => cm_oke 177 q.1 q.2) = true := by decide +kernel
set_option maxRecDepth 100000 in
theorem ok_X9_readBad : (cd_X9_readBad).all (fun q => cm_oke 178 q.1 q.2) = true := by decide +kernel
set_option maxRecDepth 100000 in
theorem ok_X9_readFile : (cd_X9_readFile).all (fun q => cm_oke 179 q.1 q.2) = true := by decide +kernel
set_option maxRecDepth 100000 in
theorem ok_X9_readClause : (cd_X9_readClause).all (fun q => cm_oke 180 q.1 q.2) = true := by decide +kernel
set_option maxRecDepth 100000 in
theorem ok_X9_disc_p0 : (((cd_X9_disc).drop 0).take 100).all (fun q => cm_oke 181 q.1 q.2) = true := by decide +kernel
set_option maxRecDepth 100000 in
theorem ok_X9_disc_p1 : (((cd_X9_disc).drop 100).take 100).all (fun q => cm_oke 181 q.1 q.2) = true := by decide +kernel
set_option maxRecDepth 100000 in
theorem ok_X9_disc : (cd_X9_disc).all (fun q => cm_oke 181 q.1 q.2) = true := cm_chunks [((cd_X9_disc).drop 0).take 100, ((cd_X9_disc).drop 100).take 100] rfl (by simp only [List.forall_mem_cons, List.not_mem_nil, false_implies, implies_true, and_true]; exact ⟨ok_X9_disc_p0, ok_X9_disc_p1⟩)

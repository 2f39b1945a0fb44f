set_option maxRecDepth 100000 in
theorem ok_X9_fault : (cd_X9_fault).all (fun q => cm_oke 182 q.1 q.2) = true := by decide +kernel
set_option maxRecDepth 100000 in
theorem ok_X9_isFaulty : (cd_X9_isFaulty).all (fun q => cm_oke 183 q.1 q.2) = true := by decide +kernel
set_option maxRecDepth 100000 in
theorem ok_X9_kindOf : (cd_X9_kindOf).all (fun q => cm_oke 184 q.1 q.2) = true := by decide +kernel
set_option maxRecDepth 100000 in
theorem ok_X9_tellsAt : (cd_X9_tellsAt).all (fun q => cm_oke 185 q.1 q.2) = true := by decide +kernel
set_option maxRecDepth 100000 in
theorem ok_X9_isGood : (cd_X9_isGood).all (fun q => cm_oke 186 q.1 q.2) = true := by decide +kernel
set_option maxRecDepth 100000 in
theorem ok_X9_lastGood : (cd_X9_lastGood).all (fun q => cm_oke 187 q.1 q.2) = true := by decide +kernel
set_option maxRecDepth 100000 in
theorem ok_X9_along : (cd_X9_along).all (fun q => cm_oke 188 q.1 q.2) = true := by decide +kernel
set_option maxRecDepth 100000 in
theorem ok_X9_entryBy : (cd_X9_entryBy).all (fun q => cm_oke 189 q.1 q.2) = true := by decide +kernel
set_option maxRecDepth 100000 in
theorem ok_X9_manyBy : (cd_X9_manyBy).all (fun q => cm_oke 190 q.1 q.2) = true := by decide +kernel
set_option maxRecDepth 100000 in
theorem ok_X9_cellBy : (cd_X9_cellBy).all (fun q => cm_oke 191 q.1 q.2) = true := by decide +kernel
set_option maxRecDepth 100000 in
theorem ok_X9_takeCells : (cd_X9_takeCells).all (fun q => cm_oke 192 q.1 q.2) = true := by decide +kernel
set_option maxRecDepth 100000 in
theorem ok_X9_mountMap : (cd_X9_mountMap).all (fun q => cm_oke 193 q.1 q.2) = true := by decide +kernel
set_option maxRecDepth 100000 in
theorem ok_X9_filesNow : (cd_X9_filesNow).all (fun q => cm_oke 194 q.1 q.2) = true := by decide +kernel
set_option maxRecDepth 100000 in
theorem ok_X9_changedFiles : (cd_X9_changedFiles).all (fun q => cm_oke 195 q.1 q.2) = true := by decide +kernel
set_option maxRecDepth 100000 in
theorem ok_X9_hasChanged : (cd_X9_hasChanged).all (fun q => cm_oke 196 q.1 q.2) = true := by decide +kernel
set_option maxRecDepth 100000 in
theorem ok_X9_newCells : (cd_X9_newCells).all (fun q => cm_oke 197 q.1 q.2) = true := by decide +kernel
set_option maxRecDepth 100000 in
theorem ok_X9_newAll : (cd_X9_newAll).all (fun q => cm_oke 198 q.1 q.2) = true := by decide +kernel
set_option maxRecDepth 100000 in
theorem ok_X9_content : (cd_X9_content).all (fun q => cm_oke 199 q.1 q.2) = true := by decide +kernel
set_option maxRecDepth 100000 in
theorem ok_X9_nameOf : (cd_X9_nameOf).all (fun q => cm_oke 200 q.1 q.2) = true := by decide +kernel
set_option maxRecDepth 100000 in
theorem ok_X9_up : (cd_X9_up).all (fun q => cm_oke 201 q.1 q.2) = true := by decide +kernel
set_option maxRecDepth 100000 in
theorem ok_X9_layContents : (cd_X9_layContents).all (fun q => cm_oke 202 q.1 q.2) = true := by decide +kernel
set_option maxRecDepth 100000 in
theorem ok_X9_placeOf : (cd_X9_placeOf).all (fun q => cm_oke 203 q.1 q.2) = true := by decide +kernel
set_option maxRecDepth 100000 in
theorem ok_X9_putBody_p0 : (((cd_X9_putBody).drop 0).take 100).all (fun q => cm_oke 204 q.1 q.2) = true := by decide +kernel
set_option maxRecDepth 100000 in
theorem ok_X9_putBody_p1 : (((cd_X9_putBody).drop 100).take 100).all (fun q => cm_oke 204 q.1 q.2) = true := by decide +kernel
set_option maxRecDepth 100000 in
theorem ok_X9_putBody_p2 : (((cd_X9_putBody).drop 200).take 100).all (fun q => cm_oke 204 q.1 q.2) = true := by decide +kernel
set_option maxRecDepth 100000 in
theorem ok_X9_putBody : (cd_X9_putBody).all (fun q => cm_oke 204 q.1 q.2) = true := cm_chunks [((cd_X9_putBody).drop 0).take 100, ((cd_X9_putBody).drop 100).take 100, ((cd_X9_putBody).drop 200).take 100] rfl (by simp only [List.forall_mem_cons, List.not_mem_nil, false_implies, implies_true, and_true]; exact ⟨ok_X9_putBody_p0, ok_X9_putBody_p1, ok_X9_putBody_p2⟩)
set_option maxRecDepth 100000 in
theorem ok_X9_canBegin : (cd_X9_canBegin).all (fun q => cm_oke 205 q.1 q.2) = true := by decide +kernel
set_option maxRecDepth 100000 in
theorem ok_X9_isTorn : (cd_X9_isTorn).all (fun q => cm_oke 206 q.1 q.2) = true := by decide +kernel
set_option maxRecDepth 100000 in
theorem ok_X9_putBlock : (cd_X9_putBlock).all (fun q => cm_oke 207 q.1 q.2) = true := by decide +kernel
set_option maxRecDepth 100000 in
theorem ok_X9_writePacket_p0 : (((cd_X9_writePacket).drop 0).take 100).all (fun q => cm_oke 208 q.1 q.2) = true := by decide +kernel
set_option maxRecDepth 100000 in
theorem ok_X9_writePacket_p1 : (((cd_X9_writePacket).drop 100).take 100).all (fun q => cm_oke 208 q.1 q.2) = true := by decide +kernel
set_option maxRecDepth 100000 in
theorem ok_X9_writePacket : (cd_X9_writePacket).all (fun q => cm_oke 208 q.1 q.2) = true := cm_chunks [((cd_X9_writePacket).drop 0).take 100, ((cd_X9_writePacket).drop 100).take 100] rfl (by simp only [List.forall_mem_cons, List.not_mem_nil, false_implies, implies_true, and_true]; exact ⟨ok_X9_writePacket_p0, ok_X9_writePacket_p1⟩)

set_option maxRecDepth 100000 in
theorem ok_X7_isWord : (cd_X7_isWord).all (fun q => cm_oke 99 q.1 q.2) = true := by decide +kernel
set_option maxRecDepth 100000 in
theorem ok_X8_init : (cd_X8_init).all (fun q => cm_oke 100 q.1 q.2) = true := by decide +kernel
set_option maxRecDepth 100000 in
theorem ok_X8_feed : (cd_X8_feed).all (fun q => cm_oke 101 q.1 q.2) = true := by decide +kernel
set_option maxRecDepth 100000 in
theorem ok_X8_feedNumber : (cd_X8_feedNumber).all (fun q => cm_oke 102 q.1 q.2) = true := by decide +kernel
set_option maxRecDepth 100000 in
theorem ok_X8_disc : (cd_X8_disc).all (fun q => cm_oke 103 q.1 q.2) = true := by decide +kernel
set_option maxRecDepth 100000 in
theorem ok_X8_beginAnew : (cd_X8_beginAnew).all (fun q => cm_oke 104 q.1 q.2) = true := by decide +kernel
set_option maxRecDepth 100000 in
theorem ok_X8_fault : (cd_X8_fault).all (fun q => cm_oke 105 q.1 q.2) = true := by decide +kernel
set_option maxRecDepth 100000 in
theorem ok_X8_count_p0 : (((cd_X8_count).drop 0).take 100).all (fun q => cm_oke 106 q.1 q.2) = true := by decide +kernel
set_option maxRecDepth 100000 in
theorem ok_X8_count_p1 : (((cd_X8_count).drop 100).take 100).all (fun q => cm_oke 106 q.1 q.2) = true := by decide +kernel
set_option maxRecDepth 100000 in
theorem ok_X8_count : (cd_X8_count).all (fun q => cm_oke 106 q.1 q.2) = true := cm_chunks [((cd_X8_count).drop 0).take 100, ((cd_X8_count).drop 100).take 100] rfl (by simp only [List.forall_mem_cons, List.not_mem_nil, false_implies, implies_true, and_true]; exact ⟨ok_X8_count_p0, ok_X8_count_p1⟩)
set_option maxRecDepth 100000 in
theorem ok_X8_block : (cd_X8_block).all (fun q => cm_oke 107 q.1 q.2) = true := by decide +kernel
set_option maxRecDepth 100000 in
theorem ok_X8_tells : (cd_X8_tells).all (fun q => cm_oke 108 q.1 q.2) = true := by decide +kernel
set_option maxRecDepth 100000 in
theorem ok_X8_checkBlock : (cd_X8_checkBlock).all (fun q => cm_oke 109 q.1 q.2) = true := by decide +kernel
set_option maxRecDepth 100000 in
theorem ok_X8_checkWhat : (cd_X8_checkWhat).all (fun q => cm_oke 110 q.1 q.2) = true := by decide +kernel
set_option maxRecDepth 100000 in
theorem ok_X8_file : (cd_X8_file).all (fun q => cm_oke 111 q.1 q.2) = true := by decide +kernel
set_option maxRecDepth 100000 in
theorem ok_X8_lie : (cd_X8_lie).all (fun q => cm_oke 112 q.1 q.2) = true := by decide +kernel
set_option maxRecDepth 100000 in
theorem ok_X8_read : (cd_X8_read).all (fun q => cm_oke 113 q.1 q.2) = true := by decide +kernel
set_option maxRecDepth 100000 in
theorem ok_X8_checkFile : (cd_X8_checkFile).all (fun q => cm_oke 114 q.1 q.2) = true := by decide +kernel
set_option maxRecDepth 100000 in
theorem ok_X8_past : (cd_X8_past).all (fun q => cm_oke 115 q.1 q.2) = true := by decide +kernel
set_option maxRecDepth 100000 in
theorem ok_X8_mapOrThrow : (cd_X8_mapOrThrow).all (fun q => cm_oke 116 q.1 q.2) = true := by decide +kernel
set_option maxRecDepth 100000 in
theorem ok_X8_checkName : (cd_X8_checkName).all (fun q => cm_oke 117 q.1 q.2) = true := by decide +kernel
set_option maxRecDepth 100000 in
theorem ok_X8_checkCell : (cd_X8_checkCell).all (fun q => cm_oke 118 q.1 q.2) = true := by decide +kernel
set_option maxRecDepth 100000 in
theorem ok_X8_versions : (cd_X8_versions).all (fun q => cm_oke 119 q.1 q.2) = true := by decide +kernel
set_option maxRecDepth 100000 in
theorem ok_X8_isLikeOneOf : (cd_X8_isLikeOneOf).all (fun q => cm_oke 120 q.1 q.2) = true := by decide +kernel
set_option maxRecDepth 100000 in
theorem ok_X8_since : (cd_X8_since).all (fun q => cm_oke 121 q.1 q.2) = true := by decide +kernel
set_option maxRecDepth 100000 in
theorem ok_X8_alike : (cd_X8_alike).all (fun q => cm_oke 122 q.1 q.2) = true := by decide +kernel
set_option maxRecDepth 100000 in
theorem ok_X8_set : (cd_X8_set).all (fun q => cm_oke 123 q.1 q.2) = true := by decide +kernel
set_option maxRecDepth 100000 in
theorem ok_X8_refuse : (cd_X8_refuse).all (fun q => cm_oke 124 q.1 q.2) = true := by decide +kernel
set_option maxRecDepth 100000 in
theorem ok_X8_cut : (cd_X8_cut).all (fun q => cm_oke 125 q.1 q.2) = true := by decide +kernel
set_option maxRecDepth 100000 in
theorem ok_X8_erase : (cd_X8_erase).all (fun q => cm_oke 126 q.1 q.2) = true := by decide +kernel
set_option maxRecDepth 100000 in
theorem ok_X8_rename : (cd_X8_rename).all (fun q => cm_oke 127 q.1 q.2) = true := by decide +kernel
set_option maxRecDepth 100000 in
theorem ok_X8_copy : (cd_X8_copy).all (fun q => cm_oke 128 q.1 q.2) = true := by decide +kernel
set_option maxRecDepth 100000 in
theorem ok_X8_revert : (cd_X8_revert).all (fun q => cm_oke 129 q.1 q.2) = true := by decide +kernel

set_option maxRecDepth 100000 in
theorem ok_L_tells : (cd_L_tells).all (fun q => cm_oke 279 q.1 q.2) = true := by decide +kernel
set_option maxRecDepth 100000 in
theorem ok_L_file : (cd_L_file).all (fun q => cm_oke 280 q.1 q.2) = true := by decide +kernel
set_option maxRecDepth 100000 in
theorem ok_L_lie : (cd_L_lie).all (fun q => cm_oke 281 q.1 q.2) = true := by decide +kernel
set_option maxRecDepth 100000 in
theorem ok_L_read : (cd_L_read).all (fun q => cm_oke 282 q.1 q.2) = true := by decide +kernel
set_option maxRecDepth 100000 in
theorem ok_L_past : (cd_L_past).all (fun q => cm_oke 283 q.1 q.2) = true := by decide +kernel
set_option maxRecDepth 100000 in
theorem ok_L_versions : (cd_L_versions).all (fun q => cm_oke 284 q.1 q.2) = true := by decide +kernel
set_option maxRecDepth 100000 in
theorem ok_L_since : (cd_L_since).all (fun q => cm_oke 285 q.1 q.2) = true := by decide +kernel
set_option maxRecDepth 100000 in
theorem ok_L_alike : (cd_L_alike).all (fun q => cm_oke 286 q.1 q.2) = true := by decide +kernel
set_option maxRecDepth 100000 in
theorem ok_L_cost : (cd_L_cost).all (fun q => cm_oke 287 q.1 q.2) = true := by decide +kernel
set_option maxRecDepth 100000 in
theorem ok_L_found : (cd_L_found).all (fun q => cm_oke 288 q.1 q.2) = true := by decide +kernel
set_option maxRecDepth 100000 in
theorem ok_L_toPack : (cd_L_toPack).all (fun q => cm_oke 289 q.1 q.2) = true := by decide +kernel
set_option maxRecDepth 100000 in
theorem ok_L_guess : (cd_L_guess).all (fun q => cm_oke 290 q.1 q.2) = true := by decide +kernel
set_option maxRecDepth 100000 in
theorem ok_L_storms : (cd_L_storms).all (fun q => cm_oke 291 q.1 q.2) = true := by decide +kernel
set_option maxRecDepth 100000 in
theorem ok_L_years : (cd_L_years).all (fun q => cm_oke 292 q.1 q.2) = true := by decide +kernel
set_option maxRecDepth 100000 in
theorem ok_L_law_p0 : (((cd_L_law).drop 0).take 100).all (fun q => cm_oke 293 q.1 q.2) = true := by decide +kernel
set_option maxRecDepth 100000 in
theorem ok_L_law_p1 : (((cd_L_law).drop 100).take 100).all (fun q => cm_oke 293 q.1 q.2) = true := by decide +kernel
set_option maxRecDepth 100000 in
theorem ok_L_law_p2 : (((cd_L_law).drop 200).take 100).all (fun q => cm_oke 293 q.1 q.2) = true := by decide +kernel
set_option maxRecDepth 100000 in
theorem ok_L_law_p3 : (((cd_L_law).drop 300).take 100).all (fun q => cm_oke 293 q.1 q.2) = true := by decide +kernel
set_option maxRecDepth 100000 in
theorem ok_L_law_p4 : (((cd_L_law).drop 400).take 100).all (fun q => cm_oke 293 q.1 q.2) = true := by decide +kernel
set_option maxRecDepth 100000 in
theorem ok_L_law_p5 : (((cd_L_law).drop 500).take 100).all (fun q => cm_oke 293 q.1 q.2) = true := by decide +kernel
set_option maxRecDepth 100000 in
theorem ok_L_law_p6 : (((cd_L_law).drop 600).take 100).all (fun q => cm_oke 293 q.1 q.2) = true := by decide +kernel
set_option maxRecDepth 100000 in
theorem ok_L_law_p7 : (((cd_L_law).drop 700).take 100).all (fun q => cm_oke 293 q.1 q.2) = true := by decide +kernel
set_option maxRecDepth 100000 in
theorem ok_L_law_p8 : (((cd_L_law).drop 800).take 100).all (fun q => cm_oke 293 q.1 q.2) = true := by decide +kernel
set_option maxRecDepth 100000 in
theorem ok_L_law_p9 : (((cd_L_law).drop 900).take 100).all (fun q => cm_oke 293 q.1 q.2) = true := by decide +kernel
set_option maxRecDepth 100000 in
theorem ok_L_law_p10 : (((cd_L_law).drop 1000).take 100).all (fun q => cm_oke 293 q.1 q.2) = true := by decide +kernel
set_option maxRecDepth 100000 in
theorem ok_L_law : (cd_L_law).all (fun q => cm_oke 293 q.1 q.2) = true := cm_chunks [((cd_L_law).drop 0).take 100, ((cd_L_law).drop 100).take 100, ((cd_L_law).drop 200).take 100, ((cd_L_law).drop 300).take 100, ((cd_L_law).drop 400).take 100, ((cd_L_law).drop 500).take 100, ((cd_L_law).drop 600).take 100, ((cd_L_law).drop 700).take 100, ((cd_L_law).drop 800).take 100, ((cd_L_law).drop 900).take 100, ((cd_L_law).drop 1000).take 100] rfl (by simp only [List.forall_mem_cons, List.not_mem_nil, false_implies, implies_true, and_true]; exact ⟨ok_L_law_p0, ok_L_law_p1, ok_L_law_p2, ok_L_law_p3, ok_L_law_p4, ok_L_law_p5, ok_L_law_p6, ok_L_law_p7, ok_L_law_p8, ok_L_law_p9, ok_L_law_p10⟩)

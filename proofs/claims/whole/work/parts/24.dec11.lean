set_option maxRecDepth 100000 in
theorem ok_J7_fill_53178 : (cd_J7_fill_53178).all (fun q => cm_oke 294 q.1 q.2) = true := by decide +kernel

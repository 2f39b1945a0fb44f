set_option maxRecDepth 100000 in
/-- methods with handlers are called by the law alone -/
theorem cm_hcall : ∀ y, y < 295 → y ≠ 293 → (cm_cd y).all (fun q => match q.2.2.2.1 == 0 with
  | true => (cm_hs q.2.2.2.2.1).isEmpty || !(match q.2.1 with
    | .invokestatic _ => true
    | _ => false)
  | false => true) = true := by decide +kernel
set_option maxRecDepth 100000 in
/-- no text comes by ldc_w -/
theorem cm_noldcw : ∀ y, y < 295 → (cm_cd y).all (fun q => match q.2.1 with
  | .ldc_w _ => !(q.2.2.2.1 == 1)
  | _ => true) = true := by decide +kernel

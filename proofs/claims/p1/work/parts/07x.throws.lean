/-! the words of a throw, among the tables -/
theorem d_ns_0 : decode prog_40_method_4_code 0 = .ok (.aload_n 0, 1) := by decide +kernel
theorem d_ns_1 : decode prog_40_method_4_code 1 = .ok (.aload_n 1, 1) := by decide +kernel
theorem d_ns_2 : decode prog_40_method_4_code 2 = .ok (.invokespecial 13, 3) := by decide +kernel
theorem d_ns_5 : decode prog_40_method_4_code 5 = .ok (.return_, 1) := by decide +kernel
theorem xa_185_a : ∀ w ∈ (vx_atS "Ballothall" 185 "java/lang/IllegalStateException" xnm).filter goodWord, w ∈ lw_tbl := by decide +kernel
theorem xa_185_b : ∀ w ∈ (vx_atS "Ballothall" 185 "java/lang/IllegalStateException" xnm).filter (fun w => !goodWord w), w ∈ lw_tbl ∧ nwB w = true := by decide +kernel
theorem xa_206_a : ∀ w ∈ ((xmAt "Ballothall" 206 "java/util/NoSuchElementException" 13 prog_40_method_4_code).filter vx_no).filter goodWord, w ∈ lw_tbl := by decide +kernel
theorem xa_206_b : ∀ w ∈ ((xmAt "Ballothall" 206 "java/util/NoSuchElementException" 13 prog_40_method_4_code).filter vx_no).filter (fun w => !goodWord w), w ∈ lw_tbl ∧ nwB w = true := by decide +kernel
theorem xa_310_a : ∀ w ∈ (vx_atS "Ballothall" 310 "java/lang/IllegalArgumentException" xnm).filter goodWord, w ∈ lw_tbl := by decide +kernel
theorem xa_310_b : ∀ w ∈ (vx_atS "Ballothall" 310 "java/lang/IllegalArgumentException" xnm).filter (fun w => !goodWord w), w ∈ lw_tbl ∧ nwB w = true := by decide +kernel
theorem xa_395_a : ∀ w ∈ (vx_atS "Ballothall" 395 "java/lang/IndexOutOfBoundsException" xnm).filter goodWord, w ∈ lw_tbl := by decide +kernel
theorem xa_395_b : ∀ w ∈ (vx_atS "Ballothall" 395 "java/lang/IndexOutOfBoundsException" xnm).filter (fun w => !goodWord w), w ∈ lw_tbl ∧ nwB w = true := by decide +kernel

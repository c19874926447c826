theorem lt62 {x : Int32} (h : ¬ 60 < x) : x < nI 62 := by
  have e1 : (60 : Int32).toInt = 60 := by decide +kernel
  have e2 : (nI 62).toInt = 62 := by decide +kernel
  rw [Int32.lt_iff_toInt_lt] at h ⊢
  omega

/-! the library's laws of numbers are used further down (66): named here, so that all parts are compiled once, over the whole library -/
theorem am_w00 : True := by
  have _h1 := @FP.Core.val64_ddiv
  have _h2 := @FP.Core.roundRatio_ne_nan
  trivial

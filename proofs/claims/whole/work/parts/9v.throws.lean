/-! ===== had, quarter, bill of the class, where they throw ===== -/
abbrev nNSE : String := "java/util/NoSuchElementException"
abbrev nSup : List String := ["java/lang/RuntimeException", "java/lang/Exception"]
abbrev XwL : List Cond := [.castable nNSE nNSE, .declares (Bundle.init0 "java/lang/RuntimeException"), .declares (Bundle.init0 "java/lang/Exception"), .declares (Bundle.init0 Bundle.tN)]
theorem xa_bad : ∀ w ∈ (vx_at0 RX11 138 nNSE nSup).filter (fun w => !goodWord w), w ∈ XwL := by decide +kernel
theorem xa_in : ∀ w ∈ (vx_at0 RX11 138 nNSE nSup).filter goodWord, w ∈ lw_tbl := by decide +kernel
theorem xa_ot : ∀ w ∈ Cond.classLink RX11 136 nNSE :: Cond.initialized nNSE :: vx_at0 RX11 138 nNSE nSup, vx_ot w = true := by decide +kernel

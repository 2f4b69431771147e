/-! row(i): the class throws, the law's own helper catches it -/
section ROWX
abbrev NSE : String := "java/util/NoSuchElementException"
abbrev nseN : List String := ["java/lang/RuntimeException", "java/lang/Exception"]
theorem zz_len0 : ((vx_atS RX8 251 NSE nseN).filter (fun w => !goodWord w)).length = 0 := by decide +kernel
theorem zz_len1 : ((vx_atS RX8 251 NSE nseN).filter (fun w => !goodWord w)).length = 1 := by decide +kernel
theorem zz_len2 : ((vx_atS RX8 251 NSE nseN).filter (fun w => !goodWord w)).length = 2 := by decide +kernel
theorem zz_c1 : ((vx_atS RX8 251 NSE nseN).filter (fun w => !goodWord w)) = [.castable NSE NSE] := by decide +kernel
theorem zz_g : goodWord (.castable NSE NSE) = true := by decide +kernel
end ROWX

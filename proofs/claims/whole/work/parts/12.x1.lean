def NSE : String := "java/util/NoSuchElementException"
def nsN : List String := ["java/lang/RuntimeException", "java/lang/Exception"]
set_option maxRecDepth 100000 in
theorem ns_good : (vx_at0 RX11 288 NSE nsN).all (fun w => vx_ot w && (!goodWord w || decide (w ∈ lw_tbl)) && (goodWord w || isDC w && decide (w ∈ lw_tbl))) = true := by decide +kernel

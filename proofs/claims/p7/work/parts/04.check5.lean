set_option maxRecDepth 100000 in
theorem ok_law : hx_okO hm_law = true := hq_okO (by decide +kernel)

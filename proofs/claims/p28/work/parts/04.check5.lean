set_option maxRecDepth 100000 in
theorem okl_0 : hx_okR hm_law 0 50 = true := by decide +kernel
set_option maxRecDepth 100000 in
theorem okl_1 : hx_okR hm_law 50 50 = true := by decide +kernel
set_option maxRecDepth 100000 in
theorem okl_2 : hx_okR hm_law 100 50 = true := by decide +kernel
set_option maxRecDepth 100000 in
theorem okl_3 : hx_okR hm_law 150 50 = true := by decide +kernel
set_option maxRecDepth 100000 in
theorem okl_4 : hx_okR hm_law 200 50 = true := by decide +kernel
set_option maxRecDepth 100000 in
theorem okl_5 : hx_okR hm_law 250 50 = true := by decide +kernel
set_option maxRecDepth 100000 in
theorem okl_6 : hx_okR hm_law 300 50 = true := by decide +kernel
set_option maxRecDepth 100000 in
theorem okl_7 : hx_okR hm_law 350 50 = true := by decide +kernel
set_option maxRecDepth 100000 in
theorem okl_8 : hx_okR hm_law 400 50 = true := by decide +kernel
set_option maxRecDepth 100000 in
theorem okl_9 : hx_okR hm_law 450 50 = true := by decide +kernel
set_option maxRecDepth 100000 in
theorem okl_10 : hx_okR hm_law 500 50 = true := by decide +kernel
set_option maxRecDepth 100000 in
theorem okl_11 : hx_okR hm_law 550 50 = true := by decide +kernel
set_option maxRecDepth 100000 in
theorem okl_12 : hx_okR hm_law 600 50 = true := by decide +kernel
set_option maxRecDepth 100000 in
theorem okl_13 : hx_okR hm_law 650 50 = true := by decide +kernel
set_option maxRecDepth 100000 in
theorem okl_14 : hx_okR hm_law 700 50 = true := by decide +kernel
set_option maxRecDepth 100000 in
theorem okl_15 : hx_okR hm_law 750 50 = true := by decide +kernel
set_option maxRecDepth 100000 in
theorem okl_16 : hx_okR hm_law 800 50 = true := by decide +kernel
set_option maxRecDepth 100000 in
theorem okl_17 : hx_okR hm_law 850 50 = true := by decide +kernel
set_option maxRecDepth 100000 in
theorem okl_18 : hx_okR hm_law 900 50 = true := by decide +kernel
set_option maxRecDepth 100000 in
theorem okl_19 : hx_okR hm_law 950 50 = true := by decide +kernel
theorem ok_law : hx_okO hm_law = true := hx_okO_of (by decide +kernel) [0, 50, 100, 150, 200, 250, 300, 350, 400, 450, 500, 550, 600, 650, 700, 750, 800, 850, 900, 950] (by decide +kernel) (fun a ha => by
  simp only [List.mem_cons, List.not_mem_nil, or_false] at ha
  rcases ha with rfl | rfl | rfl | rfl | rfl | rfl | rfl | rfl | rfl | rfl | rfl | rfl | rfl | rfl | rfl | rfl | rfl | rfl | rfl | rfl
  · exact okl_0
  · exact okl_1
  · exact okl_2
  · exact okl_3
  · exact okl_4
  · exact okl_5
  · exact okl_6
  · exact okl_7
  · exact okl_8
  · exact okl_9
  · exact okl_10
  · exact okl_11
  · exact okl_12
  · exact okl_13
  · exact okl_14
  · exact okl_15
  · exact okl_16
  · exact okl_17
  · exact okl_18
  · exact okl_19)

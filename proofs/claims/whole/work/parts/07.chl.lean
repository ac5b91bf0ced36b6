/-! By program: the law's listing is what the bytes say, in stretches. -/
def ab_chS (m : ab_Mt) (a n : Nat) : Bool := ((m.2.2.2.2.2.2.2.drop a).take n).all fun t => decide (decode m.2.2.1 t.1 = .ok (t.2.1, t.2.2.1)) && ab_c1 m.1 m.2.2.2.1 m.2.2.2.2.2.2.2 t
set_option maxRecDepth 100000 in
theorem cl_0 : ab_chS M_136 0 40 = true := by decide +kernel
set_option maxRecDepth 100000 in
theorem cl_40 : ab_chS M_136 40 40 = true := by decide +kernel
set_option maxRecDepth 100000 in
theorem cl_80 : ab_chS M_136 80 40 = true := by decide +kernel
set_option maxRecDepth 100000 in
theorem cl_120 : ab_chS M_136 120 40 = true := by decide +kernel
set_option maxRecDepth 100000 in
theorem cl_160 : ab_chS M_136 160 40 = true := by decide +kernel
set_option maxRecDepth 100000 in
theorem cl_200 : ab_chS M_136 200 40 = true := by decide +kernel
set_option maxRecDepth 100000 in
theorem cl_240 : ab_chS M_136 240 40 = true := by decide +kernel
set_option maxRecDepth 100000 in
theorem cl_280 : ab_chS M_136 280 40 = true := by decide +kernel
set_option maxRecDepth 100000 in
theorem cl_320 : ab_chS M_136 320 40 = true := by decide +kernel
set_option maxRecDepth 100000 in
theorem cl_360 : ab_chS M_136 360 40 = true := by decide +kernel
set_option maxRecDepth 100000 in
theorem cl_400 : ab_chS M_136 400 40 = true := by decide +kernel
set_option maxRecDepth 100000 in
theorem cl_440 : ab_chS M_136 440 40 = true := by decide +kernel
set_option maxRecDepth 100000 in
theorem cl_480 : ab_chS M_136 480 40 = true := by decide +kernel
set_option maxRecDepth 100000 in
theorem cl_c : ab_chain L_136 = true := by decide +kernel

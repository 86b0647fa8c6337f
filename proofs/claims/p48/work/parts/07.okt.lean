/-! the checks, decided -/
set_option maxRecDepth 1000000 in
theorem am_okt_0 : (List.range' 0 24).all am_okt = true := by decide +kernel
set_option maxRecDepth 1000000 in
theorem am_okt_1 : (List.range' 24 24).all am_okt = true := by decide +kernel
set_option maxRecDepth 1000000 in
theorem am_okt_2 : (List.range' 48 24).all am_okt = true := by decide +kernel
set_option maxRecDepth 1000000 in
theorem am_okt_3 : (List.range' 72 24).all am_okt = true := by decide +kernel
set_option maxRecDepth 1000000 in
theorem am_okt_4 : (List.range' 96 24).all am_okt = true := by decide +kernel
set_option maxRecDepth 1000000 in
theorem am_okt_5 : (List.range' 120 24).all am_okt = true := by decide +kernel
set_option maxRecDepth 1000000 in
theorem am_okt_6 : (List.range' 144 24).all am_okt = true := by decide +kernel
set_option maxRecDepth 1000000 in
theorem am_okt_7 : (List.range' 168 24).all am_okt = true := by decide +kernel
set_option maxRecDepth 1000000 in
theorem am_okt_8 : (List.range' 192 24).all am_okt = true := by decide +kernel
set_option maxRecDepth 1000000 in
theorem am_okt_9 : (List.range' 216 24).all am_okt = true := by decide +kernel
set_option maxRecDepth 1000000 in
theorem am_okt_10 : (List.range' 240 24).all am_okt = true := by decide +kernel
set_option maxRecDepth 1000000 in
theorem am_okt_11 : (List.range' 264 24).all am_okt = true := by decide +kernel
set_option maxRecDepth 1000000 in
theorem am_okt_12 : (List.range' 288 4).all am_okt = true := by decide +kernel

/-! ===== THE BLOCKS STAND IN THE BYTES ===== -/
set_option maxRecDepth 100000 in
theorem mC0 : ((List.range 5).all fun k => mCk (0 + k)) = true := by decide +kernel
set_option maxRecDepth 100000 in
theorem mC1 : ((List.range 5).all fun k => mCk (5 + k)) = true := by decide +kernel
set_option maxRecDepth 100000 in
theorem mC2 : ((List.range 5).all fun k => mCk (10 + k)) = true := by decide +kernel
set_option maxRecDepth 100000 in
theorem mC3 : ((List.range 5).all fun k => mCk (15 + k)) = true := by decide +kernel
set_option maxRecDepth 100000 in
theorem mC4 : ((List.range 5).all fun k => mCk (20 + k)) = true := by decide +kernel
set_option maxRecDepth 100000 in
theorem mC5 : ((List.range 5).all fun k => mCk (25 + k)) = true := by decide +kernel
set_option maxRecDepth 100000 in
theorem mC6 : ((List.range 5).all fun k => mCk (30 + k)) = true := by decide +kernel
set_option maxRecDepth 100000 in
theorem mC7 : ((List.range 5).all fun k => mCk (35 + k)) = true := by decide +kernel
set_option maxRecDepth 100000 in
theorem mC8 : ((List.range 5).all fun k => mCk (40 + k)) = true := by decide +kernel
set_option maxRecDepth 100000 in
theorem mC9 : ((List.range 5).all fun k => mCk (45 + k)) = true := by decide +kernel
set_option maxRecDepth 100000 in
theorem mC10 : ((List.range 5).all fun k => mCk (50 + k)) = true := by decide +kernel
set_option maxRecDepth 100000 in
theorem mC11 : ((List.range 5).all fun k => mCk (55 + k)) = true := by decide +kernel
set_option maxRecDepth 100000 in
theorem mC12 : ((List.range 5).all fun k => mCk (60 + k)) = true := by decide +kernel
set_option maxRecDepth 100000 in
theorem mC13 : ((List.range 5).all fun k => mCk (65 + k)) = true := by decide +kernel
set_option maxRecDepth 100000 in
theorem mC14 : ((List.range 5).all fun k => mCk (70 + k)) = true := by decide +kernel
set_option maxRecDepth 100000 in
theorem mC15 : ((List.range 5).all fun k => mCk (75 + k)) = true := by decide +kernel
set_option maxRecDepth 100000 in
theorem mC16 : ((List.range 5).all fun k => mCk (80 + k)) = true := by decide +kernel
set_option maxRecDepth 100000 in
theorem mC17 : ((List.range 5).all fun k => mCk (85 + k)) = true := by decide +kernel
set_option maxRecDepth 100000 in
theorem mC18 : ((List.range 5).all fun k => mCk (90 + k)) = true := by decide +kernel
set_option maxRecDepth 100000 in
theorem mC19 : ((List.range 5).all fun k => mCk (95 + k)) = true := by decide +kernel
set_option maxRecDepth 100000 in
theorem mC20 : ((List.range 5).all fun k => mCk (100 + k)) = true := by decide +kernel
set_option maxRecDepth 100000 in
theorem mC21 : ((List.range 5).all fun k => mCk (105 + k)) = true := by decide +kernel
set_option maxRecDepth 100000 in
theorem mC22 : ((List.range 5).all fun k => mCk (110 + k)) = true := by decide +kernel
set_option maxRecDepth 100000 in
theorem mC23 : ((List.range 5).all fun k => mCk (115 + k)) = true := by decide +kernel
set_option maxRecDepth 100000 in
theorem mC24 : ((List.range 5).all fun k => mCk (120 + k)) = true := by decide +kernel
set_option maxRecDepth 100000 in
theorem mC25 : ((List.range 5).all fun k => mCk (125 + k)) = true := by decide +kernel
set_option maxRecDepth 100000 in
theorem mC26 : ((List.range 5).all fun k => mCk (130 + k)) = true := by decide +kernel
set_option maxRecDepth 100000 in
theorem mC27 : ((List.range 5).all fun k => mCk (135 + k)) = true := by decide +kernel
set_option maxRecDepth 100000 in
theorem mC28 : ((List.range 5).all fun k => mCk (140 + k)) = true := by decide +kernel
set_option maxRecDepth 100000 in
theorem mC29 : ((List.range 5).all fun k => mCk (145 + k)) = true := by decide +kernel
set_option maxRecDepth 100000 in
theorem mC30 : ((List.range 5).all fun k => mCk (150 + k)) = true := by decide +kernel
set_option maxRecDepth 100000 in
theorem mC31 : ((List.range 5).all fun k => mCk (155 + k)) = true := by decide +kernel
set_option maxRecDepth 100000 in
theorem mC32 : ((List.range 5).all fun k => mCk (160 + k)) = true := by decide +kernel
set_option maxRecDepth 100000 in
theorem mC33 : ((List.range 5).all fun k => mCk (165 + k)) = true := by decide +kernel
set_option maxRecDepth 100000 in
theorem mC34 : ((List.range 5).all fun k => mCk (170 + k)) = true := by decide +kernel
set_option maxRecDepth 100000 in
theorem mC35 : ((List.range 5).all fun k => mCk (175 + k)) = true := by decide +kernel
set_option maxRecDepth 100000 in
theorem mC36 : ((List.range 5).all fun k => mCk (180 + k)) = true := by decide +kernel
set_option maxRecDepth 100000 in
theorem mC37 : ((List.range 5).all fun k => mCk (185 + k)) = true := by decide +kernel
set_option maxRecDepth 100000 in
theorem mC38 : ((List.range 5).all fun k => mCk (190 + k)) = true := by decide +kernel
set_option maxRecDepth 100000 in
theorem mC39 : ((List.range 5).all fun k => mCk (195 + k)) = true := by decide +kernel
set_option maxRecDepth 100000 in
theorem mC40 : ((List.range 5).all fun k => mCk (200 + k)) = true := by decide +kernel
set_option maxRecDepth 100000 in
theorem mC41 : ((List.range 5).all fun k => mCk (205 + k)) = true := by decide +kernel
set_option maxRecDepth 100000 in
theorem mC42 : ((List.range 5).all fun k => mCk (210 + k)) = true := by decide +kernel
set_option maxRecDepth 100000 in
theorem mC43 : ((List.range 5).all fun k => mCk (215 + k)) = true := by decide +kernel
set_option maxRecDepth 100000 in
theorem mC44 : ((List.range 5).all fun k => mCk (220 + k)) = true := by decide +kernel
set_option maxRecDepth 100000 in
theorem mC45 : ((List.range 5).all fun k => mCk (225 + k)) = true := by decide +kernel
set_option maxRecDepth 100000 in
theorem mC46 : ((List.range 5).all fun k => mCk (230 + k)) = true := by decide +kernel
set_option maxRecDepth 100000 in
theorem mC47 : ((List.range 5).all fun k => mCk (235 + k)) = true := by decide +kernel
set_option maxRecDepth 100000 in
theorem mC48 : ((List.range 5).all fun k => mCk (240 + k)) = true := by decide +kernel
set_option maxRecDepth 100000 in
theorem mC49 : ((List.range 5).all fun k => mCk (245 + k)) = true := by decide +kernel
set_option maxRecDepth 100000 in
theorem mC50 : ((List.range 5).all fun k => mCk (250 + k)) = true := by decide +kernel
set_option maxRecDepth 100000 in
theorem mC51 : ((List.range 5).all fun k => mCk (255 + k)) = true := by decide +kernel
set_option maxRecDepth 100000 in
theorem mC52 : ((List.range 5).all fun k => mCk (260 + k)) = true := by decide +kernel
set_option maxRecDepth 100000 in
theorem mC53 : ((List.range 5).all fun k => mCk (265 + k)) = true := by decide +kernel
set_option maxRecDepth 100000 in
theorem mC54 : ((List.range 5).all fun k => mCk (270 + k)) = true := by decide +kernel
set_option maxRecDepth 100000 in
theorem mC55 : ((List.range 5).all fun k => mCk (275 + k)) = true := by decide +kernel
set_option maxRecDepth 100000 in
theorem mC56 : ((List.range 5).all fun k => mCk (280 + k)) = true := by decide +kernel
set_option maxRecDepth 100000 in
theorem mC57 : ((List.range 5).all fun k => mCk (285 + k)) = true := by decide +kernel
set_option maxRecDepth 100000 in
theorem mC58 : ((List.range 5).all fun k => mCk (290 + k)) = true := by decide +kernel
set_option maxRecDepth 100000 in
theorem mC59 : ((List.range 5).all fun k => mCk (295 + k)) = true := by decide +kernel
set_option maxRecDepth 100000 in
theorem mC60 : ((List.range 5).all fun k => mCk (300 + k)) = true := by decide +kernel
set_option maxRecDepth 100000 in
theorem mC61 : ((List.range 5).all fun k => mCk (305 + k)) = true := by decide +kernel
set_option maxRecDepth 100000 in
theorem mC62 : ((List.range 5).all fun k => mCk (310 + k)) = true := by decide +kernel
set_option maxRecDepth 100000 in
theorem mC63 : ((List.range 5).all fun k => mCk (315 + k)) = true := by decide +kernel
set_option maxRecDepth 100000 in
theorem mC64 : ((List.range 5).all fun k => mCk (320 + k)) = true := by decide +kernel
set_option maxRecDepth 100000 in
theorem mC65 : ((List.range 5).all fun k => mCk (325 + k)) = true := by decide +kernel
set_option maxRecDepth 100000 in
theorem mC66 : ((List.range 5).all fun k => mCk (330 + k)) = true := by decide +kernel
set_option maxRecDepth 100000 in
theorem mC67 : ((List.range 5).all fun k => mCk (335 + k)) = true := by decide +kernel
set_option maxRecDepth 100000 in
theorem mC68 : ((List.range 5).all fun k => mCk (340 + k)) = true := by decide +kernel
set_option maxRecDepth 100000 in
theorem mC69 : ((List.range 5).all fun k => mCk (345 + k)) = true := by decide +kernel
set_option maxRecDepth 100000 in
theorem mC70 : ((List.range 5).all fun k => mCk (350 + k)) = true := by decide +kernel
set_option maxRecDepth 100000 in
theorem mC71 : ((List.range 5).all fun k => mCk (355 + k)) = true := by decide +kernel
set_option maxRecDepth 100000 in
theorem mC72 : ((List.range 5).all fun k => mCk (360 + k)) = true := by decide +kernel
set_option maxRecDepth 100000 in
theorem mC73 : ((List.range 5).all fun k => mCk (365 + k)) = true := by decide +kernel
set_option maxRecDepth 100000 in
theorem mC74 : ((List.range 5).all fun k => mCk (370 + k)) = true := by decide +kernel
set_option maxRecDepth 100000 in
theorem mC75 : ((List.range 5).all fun k => mCk (375 + k)) = true := by decide +kernel
set_option maxRecDepth 100000 in
theorem mC76 : ((List.range 5).all fun k => mCk (380 + k)) = true := by decide +kernel
set_option maxRecDepth 100000 in
theorem mC77 : ((List.range 5).all fun k => mCk (385 + k)) = true := by decide +kernel
set_option maxRecDepth 100000 in
theorem mC78 : ((List.range 3).all fun k => mCk (390 + k)) = true := by decide +kernel
theorem mC_all : ∀ M, M < 393 → mCk M = true := by
  intro M h
  by_cases h0 : M < 5
  · have := List.all_eq_true.mp mC0 (M - 0) (List.mem_range.mpr (by omega))
    rwa [show 0 + (M - 0) = M by omega] at this
  by_cases h1 : M < 10
  · have := List.all_eq_true.mp mC1 (M - 5) (List.mem_range.mpr (by omega))
    rwa [show 5 + (M - 5) = M by omega] at this
  by_cases h2 : M < 15
  · have := List.all_eq_true.mp mC2 (M - 10) (List.mem_range.mpr (by omega))
    rwa [show 10 + (M - 10) = M by omega] at this
  by_cases h3 : M < 20
  · have := List.all_eq_true.mp mC3 (M - 15) (List.mem_range.mpr (by omega))
    rwa [show 15 + (M - 15) = M by omega] at this
  by_cases h4 : M < 25
  · have := List.all_eq_true.mp mC4 (M - 20) (List.mem_range.mpr (by omega))
    rwa [show 20 + (M - 20) = M by omega] at this
  by_cases h5 : M < 30
  · have := List.all_eq_true.mp mC5 (M - 25) (List.mem_range.mpr (by omega))
    rwa [show 25 + (M - 25) = M by omega] at this
  by_cases h6 : M < 35
  · have := List.all_eq_true.mp mC6 (M - 30) (List.mem_range.mpr (by omega))
    rwa [show 30 + (M - 30) = M by omega] at this
  by_cases h7 : M < 40
  · have := List.all_eq_true.mp mC7 (M - 35) (List.mem_range.mpr (by omega))
    rwa [show 35 + (M - 35) = M by omega] at this
  by_cases h8 : M < 45
  · have := List.all_eq_true.mp mC8 (M - 40) (List.mem_range.mpr (by omega))
    rwa [show 40 + (M - 40) = M by omega] at this
  by_cases h9 : M < 50
  · have := List.all_eq_true.mp mC9 (M - 45) (List.mem_range.mpr (by omega))
    rwa [show 45 + (M - 45) = M by omega] at this
  by_cases h10 : M < 55
  · have := List.all_eq_true.mp mC10 (M - 50) (List.mem_range.mpr (by omega))
    rwa [show 50 + (M - 50) = M by omega] at this
  by_cases h11 : M < 60
  · have := List.all_eq_true.mp mC11 (M - 55) (List.mem_range.mpr (by omega))
    rwa [show 55 + (M - 55) = M by omega] at this
  by_cases h12 : M < 65
  · have := List.all_eq_true.mp mC12 (M - 60) (List.mem_range.mpr (by omega))
    rwa [show 60 + (M - 60) = M by omega] at this
  by_cases h13 : M < 70
  · have := List.all_eq_true.mp mC13 (M - 65) (List.mem_range.mpr (by omega))
    rwa [show 65 + (M - 65) = M by omega] at this
  by_cases h14 : M < 75
  · have := List.all_eq_true.mp mC14 (M - 70) (List.mem_range.mpr (by omega))
    rwa [show 70 + (M - 70) = M by omega] at this
  by_cases h15 : M < 80
  · have := List.all_eq_true.mp mC15 (M - 75) (List.mem_range.mpr (by omega))
    rwa [show 75 + (M - 75) = M by omega] at this
  by_cases h16 : M < 85
  · have := List.all_eq_true.mp mC16 (M - 80) (List.mem_range.mpr (by omega))
    rwa [show 80 + (M - 80) = M by omega] at this
  by_cases h17 : M < 90
  · have := List.all_eq_true.mp mC17 (M - 85) (List.mem_range.mpr (by omega))
    rwa [show 85 + (M - 85) = M by omega] at this
  by_cases h18 : M < 95
  · have := List.all_eq_true.mp mC18 (M - 90) (List.mem_range.mpr (by omega))
    rwa [show 90 + (M - 90) = M by omega] at this
  by_cases h19 : M < 100
  · have := List.all_eq_true.mp mC19 (M - 95) (List.mem_range.mpr (by omega))
    rwa [show 95 + (M - 95) = M by omega] at this
  by_cases h20 : M < 105
  · have := List.all_eq_true.mp mC20 (M - 100) (List.mem_range.mpr (by omega))
    rwa [show 100 + (M - 100) = M by omega] at this
  by_cases h21 : M < 110
  · have := List.all_eq_true.mp mC21 (M - 105) (List.mem_range.mpr (by omega))
    rwa [show 105 + (M - 105) = M by omega] at this
  by_cases h22 : M < 115
  · have := List.all_eq_true.mp mC22 (M - 110) (List.mem_range.mpr (by omega))
    rwa [show 110 + (M - 110) = M by omega] at this
  by_cases h23 : M < 120
  · have := List.all_eq_true.mp mC23 (M - 115) (List.mem_range.mpr (by omega))
    rwa [show 115 + (M - 115) = M by omega] at this
  by_cases h24 : M < 125
  · have := List.all_eq_true.mp mC24 (M - 120) (List.mem_range.mpr (by omega))
    rwa [show 120 + (M - 120) = M by omega] at this
  by_cases h25 : M < 130
  · have := List.all_eq_true.mp mC25 (M - 125) (List.mem_range.mpr (by omega))
    rwa [show 125 + (M - 125) = M by omega] at this
  by_cases h26 : M < 135
  · have := List.all_eq_true.mp mC26 (M - 130) (List.mem_range.mpr (by omega))
    rwa [show 130 + (M - 130) = M by omega] at this
  by_cases h27 : M < 140
  · have := List.all_eq_true.mp mC27 (M - 135) (List.mem_range.mpr (by omega))
    rwa [show 135 + (M - 135) = M by omega] at this
  by_cases h28 : M < 145
  · have := List.all_eq_true.mp mC28 (M - 140) (List.mem_range.mpr (by omega))
    rwa [show 140 + (M - 140) = M by omega] at this
  by_cases h29 : M < 150
  · have := List.all_eq_true.mp mC29 (M - 145) (List.mem_range.mpr (by omega))
    rwa [show 145 + (M - 145) = M by omega] at this
  by_cases h30 : M < 155
  · have := List.all_eq_true.mp mC30 (M - 150) (List.mem_range.mpr (by omega))
    rwa [show 150 + (M - 150) = M by omega] at this
  by_cases h31 : M < 160
  · have := List.all_eq_true.mp mC31 (M - 155) (List.mem_range.mpr (by omega))
    rwa [show 155 + (M - 155) = M by omega] at this
  by_cases h32 : M < 165
  · have := List.all_eq_true.mp mC32 (M - 160) (List.mem_range.mpr (by omega))
    rwa [show 160 + (M - 160) = M by omega] at this
  by_cases h33 : M < 170
  · have := List.all_eq_true.mp mC33 (M - 165) (List.mem_range.mpr (by omega))
    rwa [show 165 + (M - 165) = M by omega] at this
  by_cases h34 : M < 175
  · have := List.all_eq_true.mp mC34 (M - 170) (List.mem_range.mpr (by omega))
    rwa [show 170 + (M - 170) = M by omega] at this
  by_cases h35 : M < 180
  · have := List.all_eq_true.mp mC35 (M - 175) (List.mem_range.mpr (by omega))
    rwa [show 175 + (M - 175) = M by omega] at this
  by_cases h36 : M < 185
  · have := List.all_eq_true.mp mC36 (M - 180) (List.mem_range.mpr (by omega))
    rwa [show 180 + (M - 180) = M by omega] at this
  by_cases h37 : M < 190
  · have := List.all_eq_true.mp mC37 (M - 185) (List.mem_range.mpr (by omega))
    rwa [show 185 + (M - 185) = M by omega] at this
  by_cases h38 : M < 195
  · have := List.all_eq_true.mp mC38 (M - 190) (List.mem_range.mpr (by omega))
    rwa [show 190 + (M - 190) = M by omega] at this
  by_cases h39 : M < 200
  · have := List.all_eq_true.mp mC39 (M - 195) (List.mem_range.mpr (by omega))
    rwa [show 195 + (M - 195) = M by omega] at this
  by_cases h40 : M < 205
  · have := List.all_eq_true.mp mC40 (M - 200) (List.mem_range.mpr (by omega))
    rwa [show 200 + (M - 200) = M by omega] at this
  by_cases h41 : M < 210
  · have := List.all_eq_true.mp mC41 (M - 205) (List.mem_range.mpr (by omega))
    rwa [show 205 + (M - 205) = M by omega] at this
  by_cases h42 : M < 215
  · have := List.all_eq_true.mp mC42 (M - 210) (List.mem_range.mpr (by omega))
    rwa [show 210 + (M - 210) = M by omega] at this
  by_cases h43 : M < 220
  · have := List.all_eq_true.mp mC43 (M - 215) (List.mem_range.mpr (by omega))
    rwa [show 215 + (M - 215) = M by omega] at this
  by_cases h44 : M < 225
  · have := List.all_eq_true.mp mC44 (M - 220) (List.mem_range.mpr (by omega))
    rwa [show 220 + (M - 220) = M by omega] at this
  by_cases h45 : M < 230
  · have := List.all_eq_true.mp mC45 (M - 225) (List.mem_range.mpr (by omega))
    rwa [show 225 + (M - 225) = M by omega] at this
  by_cases h46 : M < 235
  · have := List.all_eq_true.mp mC46 (M - 230) (List.mem_range.mpr (by omega))
    rwa [show 230 + (M - 230) = M by omega] at this
  by_cases h47 : M < 240
  · have := List.all_eq_true.mp mC47 (M - 235) (List.mem_range.mpr (by omega))
    rwa [show 235 + (M - 235) = M by omega] at this
  by_cases h48 : M < 245
  · have := List.all_eq_true.mp mC48 (M - 240) (List.mem_range.mpr (by omega))
    rwa [show 240 + (M - 240) = M by omega] at this
  by_cases h49 : M < 250
  · have := List.all_eq_true.mp mC49 (M - 245) (List.mem_range.mpr (by omega))
    rwa [show 245 + (M - 245) = M by omega] at this
  by_cases h50 : M < 255
  · have := List.all_eq_true.mp mC50 (M - 250) (List.mem_range.mpr (by omega))
    rwa [show 250 + (M - 250) = M by omega] at this
  by_cases h51 : M < 260
  · have := List.all_eq_true.mp mC51 (M - 255) (List.mem_range.mpr (by omega))
    rwa [show 255 + (M - 255) = M by omega] at this
  by_cases h52 : M < 265
  · have := List.all_eq_true.mp mC52 (M - 260) (List.mem_range.mpr (by omega))
    rwa [show 260 + (M - 260) = M by omega] at this
  by_cases h53 : M < 270
  · have := List.all_eq_true.mp mC53 (M - 265) (List.mem_range.mpr (by omega))
    rwa [show 265 + (M - 265) = M by omega] at this
  by_cases h54 : M < 275
  · have := List.all_eq_true.mp mC54 (M - 270) (List.mem_range.mpr (by omega))
    rwa [show 270 + (M - 270) = M by omega] at this
  by_cases h55 : M < 280
  · have := List.all_eq_true.mp mC55 (M - 275) (List.mem_range.mpr (by omega))
    rwa [show 275 + (M - 275) = M by omega] at this
  by_cases h56 : M < 285
  · have := List.all_eq_true.mp mC56 (M - 280) (List.mem_range.mpr (by omega))
    rwa [show 280 + (M - 280) = M by omega] at this
  by_cases h57 : M < 290
  · have := List.all_eq_true.mp mC57 (M - 285) (List.mem_range.mpr (by omega))
    rwa [show 285 + (M - 285) = M by omega] at this
  by_cases h58 : M < 295
  · have := List.all_eq_true.mp mC58 (M - 290) (List.mem_range.mpr (by omega))
    rwa [show 290 + (M - 290) = M by omega] at this
  by_cases h59 : M < 300
  · have := List.all_eq_true.mp mC59 (M - 295) (List.mem_range.mpr (by omega))
    rwa [show 295 + (M - 295) = M by omega] at this
  by_cases h60 : M < 305
  · have := List.all_eq_true.mp mC60 (M - 300) (List.mem_range.mpr (by omega))
    rwa [show 300 + (M - 300) = M by omega] at this
  by_cases h61 : M < 310
  · have := List.all_eq_true.mp mC61 (M - 305) (List.mem_range.mpr (by omega))
    rwa [show 305 + (M - 305) = M by omega] at this
  by_cases h62 : M < 315
  · have := List.all_eq_true.mp mC62 (M - 310) (List.mem_range.mpr (by omega))
    rwa [show 310 + (M - 310) = M by omega] at this
  by_cases h63 : M < 320
  · have := List.all_eq_true.mp mC63 (M - 315) (List.mem_range.mpr (by omega))
    rwa [show 315 + (M - 315) = M by omega] at this
  by_cases h64 : M < 325
  · have := List.all_eq_true.mp mC64 (M - 320) (List.mem_range.mpr (by omega))
    rwa [show 320 + (M - 320) = M by omega] at this
  by_cases h65 : M < 330
  · have := List.all_eq_true.mp mC65 (M - 325) (List.mem_range.mpr (by omega))
    rwa [show 325 + (M - 325) = M by omega] at this
  by_cases h66 : M < 335
  · have := List.all_eq_true.mp mC66 (M - 330) (List.mem_range.mpr (by omega))
    rwa [show 330 + (M - 330) = M by omega] at this
  by_cases h67 : M < 340
  · have := List.all_eq_true.mp mC67 (M - 335) (List.mem_range.mpr (by omega))
    rwa [show 335 + (M - 335) = M by omega] at this
  by_cases h68 : M < 345
  · have := List.all_eq_true.mp mC68 (M - 340) (List.mem_range.mpr (by omega))
    rwa [show 340 + (M - 340) = M by omega] at this
  by_cases h69 : M < 350
  · have := List.all_eq_true.mp mC69 (M - 345) (List.mem_range.mpr (by omega))
    rwa [show 345 + (M - 345) = M by omega] at this
  by_cases h70 : M < 355
  · have := List.all_eq_true.mp mC70 (M - 350) (List.mem_range.mpr (by omega))
    rwa [show 350 + (M - 350) = M by omega] at this
  by_cases h71 : M < 360
  · have := List.all_eq_true.mp mC71 (M - 355) (List.mem_range.mpr (by omega))
    rwa [show 355 + (M - 355) = M by omega] at this
  by_cases h72 : M < 365
  · have := List.all_eq_true.mp mC72 (M - 360) (List.mem_range.mpr (by omega))
    rwa [show 360 + (M - 360) = M by omega] at this
  by_cases h73 : M < 370
  · have := List.all_eq_true.mp mC73 (M - 365) (List.mem_range.mpr (by omega))
    rwa [show 365 + (M - 365) = M by omega] at this
  by_cases h74 : M < 375
  · have := List.all_eq_true.mp mC74 (M - 370) (List.mem_range.mpr (by omega))
    rwa [show 370 + (M - 370) = M by omega] at this
  by_cases h75 : M < 380
  · have := List.all_eq_true.mp mC75 (M - 375) (List.mem_range.mpr (by omega))
    rwa [show 375 + (M - 375) = M by omega] at this
  by_cases h76 : M < 385
  · have := List.all_eq_true.mp mC76 (M - 380) (List.mem_range.mpr (by omega))
    rwa [show 380 + (M - 380) = M by omega] at this
  by_cases h77 : M < 390
  · have := List.all_eq_true.mp mC77 (M - 385) (List.mem_range.mpr (by omega))
    rwa [show 385 + (M - 385) = M by omega] at this
  by_cases h78 : M < 393
  · have := List.all_eq_true.mp mC78 (M - 390) (List.mem_range.mpr (by omega))
    rwa [show 390 + (M - 390) = M by omega] at this
  omega

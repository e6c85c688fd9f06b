/-! ===== every instruction of every method, held against its code (written by wip/gen/gen_ck2.py) ===== -/
noncomputable def am_ckc (y j : Nat) : Bool := match am_nth am_CT (y / 16) with
  | some l => (match am_nth l (y % 16) with
    | some k => (match am_nth k j with
      | some c => c.all (am_chk y)
      | none => true)
    | none => true)
  | none => true
set_option maxRecDepth 100000 in
theorem am_ckg_0 : [0, 1].all am_ck = true := by decide +kernel
set_option maxRecDepth 100000 in
theorem am_ckg_1 : [2, 3].all am_ck = true := by decide +kernel
set_option maxRecDepth 100000 in
theorem am_ckg_2 : [4, 5].all am_ck = true := by decide +kernel
set_option maxRecDepth 100000 in
theorem am_ckg_3 : [6, 7, 8, 9].all am_ck = true := by decide +kernel
set_option maxRecDepth 100000 in
theorem am_ckg_4 : [10, 11, 12].all am_ck = true := by decide +kernel
set_option maxRecDepth 100000 in
theorem am_ckg_5 : [13, 14].all am_ck = true := by decide +kernel
set_option maxRecDepth 100000 in
theorem am_ckg_6 : [15, 16, 17, 18, 19].all am_ck = true := by decide +kernel
set_option maxRecDepth 100000 in
theorem am_ckg_7 : [20, 21, 22, 23, 24].all am_ck = true := by decide +kernel
set_option maxRecDepth 100000 in
theorem am_ckg_8 : [25, 26].all am_ck = true := by decide +kernel
set_option maxRecDepth 100000 in
theorem am_ckg_9 : [27, 28, 29, 30, 31, 32].all am_ck = true := by decide +kernel
set_option maxRecDepth 100000 in
theorem am_ckg_10 : [33, 34, 35, 36].all am_ck = true := by decide +kernel
set_option maxRecDepth 100000 in
theorem am_ckg_11 : [37, 38, 39, 40, 41].all am_ck = true := by decide +kernel
set_option maxRecDepth 100000 in
theorem am_ckg_12 : [42, 43, 44, 45, 46, 47, 48, 49, 50, 51, 52].all am_ck = true := by decide +kernel
set_option maxRecDepth 100000 in
theorem am_ckg_13 : [53, 54, 55].all am_ck = true := by decide +kernel
set_option maxRecDepth 100000 in
theorem am_ckg_14 : [56, 57, 58, 59].all am_ck = true := by decide +kernel
set_option maxRecDepth 100000 in
theorem am_ckg_15 : [60, 61].all am_ck = true := by decide +kernel
set_option maxRecDepth 100000 in
theorem am_ckg_16 : [62, 63, 64, 65].all am_ck = true := by decide +kernel
set_option maxRecDepth 100000 in
theorem am_ckg_17 : [66, 67, 68].all am_ck = true := by decide +kernel
set_option maxRecDepth 100000 in
theorem am_ckg_18 : [69, 70, 71, 72].all am_ck = true := by decide +kernel
set_option maxRecDepth 100000 in
theorem am_ckg_19 : [73, 74, 75].all am_ck = true := by decide +kernel
set_option maxRecDepth 100000 in
theorem am_ckg_20 : [76, 77, 78, 79, 80, 81].all am_ck = true := by decide +kernel
set_option maxRecDepth 100000 in
theorem am_ckg_21 : [82, 83].all am_ck = true := by decide +kernel
set_option maxRecDepth 100000 in
theorem am_ckg_22 : [84, 85, 86].all am_ck = true := by decide +kernel
set_option maxRecDepth 100000 in
theorem am_ckg_23 : [87, 88, 89, 90, 91, 92, 93].all am_ck = true := by decide +kernel
set_option maxRecDepth 100000 in
theorem am_ckg_24 : [94, 95].all am_ck = true := by decide +kernel
set_option maxRecDepth 100000 in
theorem am_ckg_25 : [96, 97, 98].all am_ck = true := by decide +kernel
set_option maxRecDepth 100000 in
theorem am_ckg_26 : [99, 100, 101, 102, 103, 104, 105, 106, 107, 108].all am_ck = true := by decide +kernel
set_option maxRecDepth 100000 in
theorem am_ckg_27 : [109, 110, 111].all am_ck = true := by decide +kernel
set_option maxRecDepth 100000 in
theorem am_ckg_28 : [112, 113, 114, 115, 116].all am_ck = true := by decide +kernel
set_option maxRecDepth 100000 in
theorem am_ckg_29 : [117, 118, 119].all am_ck = true := by decide +kernel
set_option maxRecDepth 100000 in
theorem am_ckg_30 : [120, 121].all am_ck = true := by decide +kernel
set_option maxRecDepth 100000 in
theorem am_ckg_31 : [122].all am_ck = true := by decide +kernel
set_option maxRecDepth 100000 in
theorem am_ckg_32 : [123, 124, 125, 126, 127, 128, 129, 130, 131, 132, 133, 134].all am_ck = true := by decide +kernel
set_option maxRecDepth 100000 in
theorem am_ckg_33 : [135, 136, 137, 138, 139, 140, 141, 142].all am_ck = true := by decide +kernel
set_option maxRecDepth 100000 in
theorem am_ckg_34 : [143, 144].all am_ck = true := by decide +kernel
set_option maxRecDepth 100000 in
theorem am_ckg_35 : [145].all am_ck = true := by decide +kernel
set_option maxRecDepth 100000 in
theorem am_ckg_36 : [146].all am_ck = true := by decide +kernel
set_option maxRecDepth 100000 in
theorem am_ckg_37 : [147, 148, 149].all am_ck = true := by decide +kernel
set_option maxRecDepth 100000 in
theorem am_ckg_38 : [150].all am_ck = true := by decide +kernel
set_option maxRecDepth 100000 in
theorem am_ckg_39 : [151].all am_ck = true := by decide +kernel
set_option maxRecDepth 100000 in
theorem am_ckg_40 : [152, 153, 154, 155, 156].all am_ck = true := by decide +kernel
set_option maxRecDepth 100000 in
theorem am_ckg_41 : [157, 158, 159, 160, 161].all am_ck = true := by decide +kernel
set_option maxRecDepth 100000 in
theorem am_ckg_42 : [162, 163, 164, 165, 166, 167, 168].all am_ck = true := by decide +kernel
set_option maxRecDepth 100000 in
theorem am_ckg_43 : [169, 170].all am_ck = true := by decide +kernel
set_option maxRecDepth 100000 in
theorem am_ckg_44 : [171, 172, 173].all am_ck = true := by decide +kernel
set_option maxRecDepth 100000 in
theorem am_ckg_45 : [174, 175].all am_ck = true := by decide +kernel
set_option maxRecDepth 100000 in
theorem am_ckg_46 : [176, 177, 178, 179].all am_ck = true := by decide +kernel
set_option maxRecDepth 100000 in
theorem am_ckg_47 : [180, 181, 182].all am_ck = true := by decide +kernel
set_option maxRecDepth 100000 in
theorem am_ckg_48 : [183, 184, 185].all am_ck = true := by decide +kernel
set_option maxRecDepth 100000 in
theorem am_ckg_49 : [186, 187].all am_ck = true := by decide +kernel
set_option maxRecDepth 100000 in
theorem am_ckg_50 : [188, 189, 190, 191, 192].all am_ck = true := by decide +kernel
set_option maxRecDepth 100000 in
theorem am_ckg_51 : [193, 194, 195, 196].all am_ck = true := by decide +kernel
set_option maxRecDepth 100000 in
theorem am_ckg_52 : [197].all am_ck = true := by decide +kernel
set_option maxRecDepth 100000 in
theorem am_ckg_53 : [198].all am_ck = true := by decide +kernel
set_option maxRecDepth 100000 in
theorem am_ckg_54 : [199, 200].all am_ck = true := by decide +kernel
set_option maxRecDepth 100000 in
theorem am_ckg_55 : [201, 202, 203, 204].all am_ck = true := by decide +kernel
set_option maxRecDepth 100000 in
theorem am_ckg_56 : [205, 206, 207, 208].all am_ck = true := by decide +kernel
set_option maxRecDepth 100000 in
theorem am_ckg_57 : [209, 210, 211, 212, 213].all am_ck = true := by decide +kernel
set_option maxRecDepth 100000 in
theorem am_ckg_58 : [214].all am_ck = true := by decide +kernel
set_option maxRecDepth 100000 in
theorem am_ckg_59 : [215].all am_ck = true := by decide +kernel
set_option maxRecDepth 100000 in
theorem am_ckg_60 : [216, 217, 218].all am_ck = true := by decide +kernel
set_option maxRecDepth 100000 in
theorem am_ckg_61 : [219, 220, 221].all am_ck = true := by decide +kernel
set_option maxRecDepth 100000 in
theorem am_ckg_62 : [222, 223, 224, 225, 226, 227, 228].all am_ck = true := by decide +kernel
set_option maxRecDepth 100000 in
theorem am_ckg_63 : [229, 231, 232, 233, 234, 235, 236, 237, 238].all am_ck = true := by decide +kernel
set_option maxRecDepth 100000 in
theorem am_ckl_0 : [0, 1, 2, 3].all (am_ckc 230) = true := by decide +kernel
set_option maxRecDepth 100000 in
theorem am_ckl_4 : [4, 5, 6, 7].all (am_ckc 230) = true := by decide +kernel
set_option maxRecDepth 100000 in
theorem am_ckl_8 : [8, 9, 10, 11].all (am_ckc 230) = true := by decide +kernel
set_option maxRecDepth 100000 in
theorem am_ckl_12 : [12, 13, 14, 15].all (am_ckc 230) = true := by decide +kernel
set_option maxRecDepth 100000 in
theorem am_ckl_16 : [16, 17, 18, 19].all (am_ckc 230) = true := by decide +kernel
set_option maxRecDepth 100000 in
theorem am_ckl_20 : [20, 21, 22, 23].all (am_ckc 230) = true := by decide +kernel
set_option maxRecDepth 100000 in
theorem am_ckl_24 : [24, 25, 26, 27].all (am_ckc 230) = true := by decide +kernel
set_option maxRecDepth 100000 in
theorem am_ckl_28 : [28, 29, 30, 31].all (am_ckc 230) = true := by decide +kernel
set_option maxRecDepth 100000 in
theorem am_ckl_32 : [32, 33, 34, 35].all (am_ckc 230) = true := by decide +kernel
set_option maxRecDepth 100000 in
theorem am_ckl_36 : [36, 37, 38, 39].all (am_ckc 230) = true := by decide +kernel
set_option maxRecDepth 100000 in
theorem am_ckl_40 : [40, 41, 42, 43].all (am_ckc 230) = true := by decide +kernel
set_option maxRecDepth 100000 in
theorem am_ckl_44 : [44, 45, 46, 47].all (am_ckc 230) = true := by decide +kernel
set_option maxRecDepth 100000 in
theorem am_ckl_48 : [48, 49, 50, 51].all (am_ckc 230) = true := by decide +kernel
set_option maxRecDepth 100000 in
theorem am_ckl_52 : [52, 53, 54].all (am_ckc 230) = true := by decide +kernel

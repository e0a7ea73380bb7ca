set_option maxRecDepth 100000 in
theorem x_k60 : x_l60.all (x_dokb prog_1_method_60_code) = true := by decide +kernel
set_option maxRecDepth 100000 in
theorem x_k61 : x_l61.all (x_dokb prog_1_method_61_code) = true := by decide +kernel
set_option maxRecDepth 100000 in
theorem x_k62 : x_l62.all (x_dokb prog_1_method_14_code) = true := by decide +kernel
set_option maxRecDepth 100000 in
theorem x_k63 : x_l63.all (x_dokb prog_1_method_62_code) = true := by decide +kernel
set_option maxRecDepth 100000 in
theorem x_k64 : x_l64.all (x_dokb prog_1_method_15_code) = true := by decide +kernel
set_option maxRecDepth 100000 in
theorem x_k65 : x_l65.all (x_dokb prog_1_method_28_code) = true := by decide +kernel
set_option maxRecDepth 100000 in
theorem x_k66 : x_l66.all (x_dokb prog_1_method_16_code) = true := by decide +kernel
set_option maxRecDepth 100000 in
theorem x_k67 : x_l67.all (x_dokb prog_1_method_17_code) = true := by decide +kernel
set_option maxRecDepth 100000 in
theorem x_k68 : x_l68.all (x_dokb prog_1_method_49_code) = true := by decide +kernel
set_option maxRecDepth 100000 in
theorem x_k69 : x_l69.all (x_dokb prog_1_method_18_code) = true := by decide +kernel
set_option maxRecDepth 100000 in
theorem x_k70 : x_l70.all (x_dokb prog_1_method_19_code) = true := by decide +kernel
set_option maxRecDepth 100000 in
theorem x_k71 : x_l71.all (x_dokb prog_1_method_37_code) = true := by decide +kernel
set_option maxRecDepth 100000 in
theorem x_k72 : x_l72.all (x_dokb prog_1_method_38_code) = true := by decide +kernel
set_option maxRecDepth 100000 in
theorem x_k73 : x_l73.all (x_dokb prog_1_method_20_code) = true := by decide +kernel
set_option maxRecDepth 100000 in
theorem x_k74 : x_l74.all (x_dokb prog_1_method_48_code) = true := by decide +kernel
set_option maxRecDepth 100000 in
theorem x_k75 : x_l75.all (x_dokb prog_1_method_21_code) = true := by decide +kernel
set_option maxRecDepth 100000 in
theorem x_k76 : x_l76.all (x_dokb prog_14_method_1_code) = true := by decide +kernel
set_option maxRecDepth 100000 in
theorem x_k77 : x_l77.all (x_dokb prog_14_method_2_code) = true := by decide +kernel
set_option maxRecDepth 100000 in
theorem x_k78 : x_l78.all (x_dokb prog_14_method_3_code) = true := by decide +kernel
set_option maxRecDepth 100000 in
theorem x_k79 : x_l79.all (x_dokb prog_14_method_4_code) = true := by decide +kernel
set_option maxRecDepth 100000 in
theorem x_k80 : x_l80.all (x_dokb prog_14_method_19_code) = true := by decide +kernel
set_option maxRecDepth 100000 in
theorem x_k81 : x_l81.all (x_dokb prog_14_method_6_code) = true := by decide +kernel
set_option maxRecDepth 100000 in
theorem x_k82 : x_l82.all (x_dokb prog_14_method_8_code) = true := by decide +kernel
set_option maxRecDepth 100000 in
theorem x_k83 : x_l83.all (x_dokb prog_14_method_7_code) = true := by decide +kernel
set_option maxRecDepth 100000 in
theorem x_k84 : x_l84.all (x_dokb prog_14_method_9_code) = true := by decide +kernel
set_option maxRecDepth 100000 in
theorem x_k85 : x_l85.all (x_dokb prog_14_method_5_code) = true := by decide +kernel
set_option maxRecDepth 100000 in
theorem x_k86 : x_l86.all (x_dokb prog_14_method_13_code) = true := by decide +kernel
set_option maxRecDepth 100000 in
theorem x_k87 : x_l87.all (x_dokb prog_14_method_10_code) = true := by decide +kernel
set_option maxRecDepth 100000 in
theorem x_k88 : x_l88.all (x_dokb prog_14_method_20_code) = true := by decide +kernel
set_option maxRecDepth 100000 in
theorem x_k89 : x_l89.all (x_dokb prog_14_method_21_code) = true := by decide +kernel
set_option maxRecDepth 100000 in
theorem x_k90 : x_l90.all (x_dokb prog_14_method_22_code) = true := by decide +kernel
set_option maxRecDepth 100000 in
theorem x_k91 : x_l91.all (x_dokb prog_14_method_17_code) = true := by decide +kernel
set_option maxRecDepth 100000 in
theorem x_k92 : x_l92.all (x_dokb prog_14_method_18_code) = true := by decide +kernel
set_option maxRecDepth 100000 in
theorem x_k93 : x_l93.all (x_dokb prog_14_method_11_code) = true := by decide +kernel
set_option maxRecDepth 100000 in
theorem x_k94 : x_l94.all (x_dokb prog_14_method_23_code) = true := by decide +kernel
set_option maxRecDepth 100000 in
theorem x_k95 : x_l95.all (x_dokb prog_14_method_24_code) = true := by decide +kernel
set_option maxRecDepth 100000 in
theorem x_k96 : x_l96.all (x_dokb prog_14_method_25_code) = true := by decide +kernel
set_option maxRecDepth 100000 in
theorem x_k97 : x_l97.all (x_dokb prog_14_method_28_code) = true := by decide +kernel
set_option maxRecDepth 100000 in
theorem x_k98 : x_l98.all (x_dokb prog_14_method_14_code) = true := by decide +kernel
set_option maxRecDepth 100000 in
theorem x_k99 : x_l99.all (x_dokb prog_14_method_26_code) = true := by decide +kernel

/-- an entry of a code list is what the decoder says -/
def x_dokb (b : ByteArray) (q : Nat × Instr) : Bool := match decode b q.1 with
  | .ok (i, n) => decide (i = q.2) && (match x_len q.2 with
    | some k => n == k
    | none => true)
  | .error _ => false
set_option maxRecDepth 100000 in
theorem x_k0 : x_l0.all (x_dokb prog_1_method_1_code) = true := by decide +kernel
set_option maxRecDepth 100000 in
theorem x_k1 : x_l1.all (x_dokb prog_11_method_1_code) = true := by decide +kernel
set_option maxRecDepth 100000 in
theorem x_k2 : x_l2.all (x_dokb prog_9_method_1_code) = true := by decide +kernel
set_option maxRecDepth 100000 in
theorem x_k3 : x_l3.all (x_dokb prog_10_method_1_code) = true := by decide +kernel
set_option maxRecDepth 100000 in
theorem x_k4 : x_l4.all (x_dokb prog_6_method_1_code) = true := by decide +kernel
set_option maxRecDepth 100000 in
theorem x_k5 : x_l5.all (x_dokb prog_1_method_50_code) = true := by decide +kernel
set_option maxRecDepth 100000 in
theorem x_k6 : x_l6.all (x_dokb prog_1_method_55_code) = true := by decide +kernel
set_option maxRecDepth 100000 in
theorem x_k7 : x_l7.all (x_dokb prog_1_method_54_code) = true := by decide +kernel
set_option maxRecDepth 100000 in
theorem x_k8 : x_l8.all (x_dokb prog_3_method_1_code) = true := by decide +kernel
set_option maxRecDepth 100000 in
theorem x_k9 : x_l9.all (x_dokb prog_1_method_33_code) = true := by decide +kernel
set_option maxRecDepth 100000 in
theorem x_k10 : x_l10.all (x_dokb prog_12_method_1_code) = true := by decide +kernel
set_option maxRecDepth 100000 in
theorem x_k11 : x_l11.all (x_dokb prog_1_method_2_code) = true := by decide +kernel
set_option maxRecDepth 100000 in
theorem x_k12 : x_l12.all (x_dokb prog_1_method_47_code) = true := by decide +kernel
set_option maxRecDepth 100000 in
theorem x_k13 : x_l13.all (x_dokb prog_1_method_24_code) = true := by decide +kernel
set_option maxRecDepth 100000 in
theorem x_k14 : x_l14.all (x_dokb prog_1_method_22_code) = true := by decide +kernel
set_option maxRecDepth 100000 in
theorem x_k15 : x_l15.all (x_dokb prog_1_method_23_code) = true := by decide +kernel
set_option maxRecDepth 100000 in
theorem x_k16 : x_l16.all (x_dokb prog_1_method_30_code) = true := by decide +kernel
set_option maxRecDepth 100000 in
theorem x_k17 : x_l17.all (x_dokb prog_1_method_35_code) = true := by decide +kernel
set_option maxRecDepth 100000 in
theorem x_k18 : x_l18.all (x_dokb prog_1_method_31_code) = true := by decide +kernel
set_option maxRecDepth 100000 in
theorem x_k19 : x_l19.all (x_dokb prog_1_method_32_code) = true := by decide +kernel
set_option maxRecDepth 100000 in
theorem x_k20 : x_l20.all (x_dokb prog_5_method_1_code) = true := by decide +kernel
set_option maxRecDepth 100000 in
theorem x_k21 : x_l21.all (x_dokb prog_2_method_1_code) = true := by decide +kernel
set_option maxRecDepth 100000 in
theorem x_k22 : x_l22.all (x_dokb prog_8_method_1_code) = true := by decide +kernel
set_option maxRecDepth 100000 in
theorem x_k23 : x_l23.all (x_dokb prog_7_method_1_code) = true := by decide +kernel
set_option maxRecDepth 100000 in
theorem x_k24 : x_l24.all (x_dokb prog_4_method_1_code) = true := by decide +kernel
set_option maxRecDepth 100000 in
theorem x_k25 : x_l25.all (x_dokb prog_1_method_3_code) = true := by decide +kernel
set_option maxRecDepth 100000 in
theorem x_k26 : x_l26.all (x_dokb prog_1_method_4_code) = true := by decide +kernel
set_option maxRecDepth 100000 in
theorem x_k27 : x_l27.all (x_dokb prog_1_method_5_code) = true := by decide +kernel
set_option maxRecDepth 100000 in
theorem x_k28 : x_l28.all (x_dokb prog_1_method_39_code) = true := by decide +kernel
set_option maxRecDepth 100000 in
theorem x_k29 : x_l29.all (x_dokb prog_1_method_40_code) = true := by decide +kernel
set_option maxRecDepth 100000 in
theorem x_k30 : x_l30.all (x_dokb prog_1_method_64_code) = true := by decide +kernel
set_option maxRecDepth 100000 in
theorem x_k31 : x_l31.all (x_dokb prog_1_method_36_code) = true := by decide +kernel
set_option maxRecDepth 100000 in
theorem x_k32 : x_l32.all (x_dokb prog_1_method_41_code) = true := by decide +kernel
set_option maxRecDepth 100000 in
theorem x_k33 : x_l33.all (x_dokb prog_1_method_42_code) = true := by decide +kernel
set_option maxRecDepth 100000 in
theorem x_k34 : x_l34.all (x_dokb prog_1_method_46_code) = true := by decide +kernel
set_option maxRecDepth 100000 in
theorem x_k35 : x_l35.all (x_dokb prog_1_method_51_code) = true := by decide +kernel
set_option maxRecDepth 100000 in
theorem x_k36 : x_l36.all (x_dokb prog_1_method_43_code) = true := by decide +kernel
set_option maxRecDepth 100000 in
theorem x_k37 : x_l37.all (x_dokb prog_1_method_44_code) = true := by decide +kernel
set_option maxRecDepth 100000 in
theorem x_k38 : x_l38.all (x_dokb prog_1_method_63_code) = true := by decide +kernel
set_option maxRecDepth 100000 in
theorem x_k39 : x_l39.all (x_dokb prog_1_method_45_code) = true := by decide +kernel
set_option maxRecDepth 100000 in
theorem x_k40 : x_l40.all (x_dokb prog_1_method_6_code) = true := by decide +kernel
set_option maxRecDepth 100000 in
theorem x_k41 : x_l41.all (x_dokb prog_1_method_34_code) = true := by decide +kernel
set_option maxRecDepth 100000 in
theorem x_k42 : x_l42.all (x_dokb prog_1_method_7_code) = true := by decide +kernel
set_option maxRecDepth 100000 in
theorem x_k43 : x_l43.all (x_dokb prog_1_method_25_code) = true := by decide +kernel
set_option maxRecDepth 100000 in
theorem x_k44 : x_l44.all (x_dokb prog_1_method_26_code) = true := by decide +kernel
set_option maxRecDepth 100000 in
theorem x_k45 : x_l45.all (x_dokb prog_1_method_27_code) = true := by decide +kernel
set_option maxRecDepth 100000 in
theorem x_k46 : x_l46.all (x_dokb prog_1_method_53_code) = true := by decide +kernel
set_option maxRecDepth 100000 in
theorem x_k47 : x_l47.all (x_dokb prog_1_method_8_code) = true := by decide +kernel
set_option maxRecDepth 100000 in
theorem x_k48 : x_l48.all (x_dokb prog_1_method_9_code) = true := by decide +kernel
set_option maxRecDepth 100000 in
theorem x_k49 : x_l49.all (x_dokb prog_1_method_56_code) = true := by decide +kernel
set_option maxRecDepth 100000 in
theorem x_k50 : x_l50.all (x_dokb prog_1_method_52_code) = true := by decide +kernel
set_option maxRecDepth 100000 in
theorem x_k51 : x_l51.all (x_dokb prog_1_method_57_code) = true := by decide +kernel
set_option maxRecDepth 100000 in
theorem x_k52 : x_l52.all (x_dokb prog_1_method_58_code) = true := by decide +kernel
set_option maxRecDepth 100000 in
theorem x_k53 : x_l53.all (x_dokb prog_1_method_10_code) = true := by decide +kernel
set_option maxRecDepth 100000 in
theorem x_k54 : x_l54.all (x_dokb prog_1_method_11_code) = true := by decide +kernel
set_option maxRecDepth 100000 in
theorem x_k55 : x_l55.all (x_dokb prog_1_method_59_code) = true := by decide +kernel
set_option maxRecDepth 100000 in
theorem x_k56 : x_l56.all (x_dokb prog_6_method_2_code) = true := by decide +kernel
set_option maxRecDepth 100000 in
theorem x_k57 : x_l57.all (x_dokb prog_1_method_12_code) = true := by decide +kernel
set_option maxRecDepth 100000 in
theorem x_k58 : x_l58.all (x_dokb prog_1_method_13_code) = true := by decide +kernel
set_option maxRecDepth 100000 in
theorem x_k59 : x_l59.all (x_dokb prog_1_method_29_code) = true := by decide +kernel

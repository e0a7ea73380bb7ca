set_option maxRecDepth 100000 in
theorem x_k100 : x_l100.all (x_dokb prog_14_method_27_code) = true := by decide +kernel
set_option maxRecDepth 100000 in
theorem x_k101 : x_l101.all (x_dokb prog_14_method_29_code) = true := by decide +kernel
set_option maxRecDepth 100000 in
theorem x_k102 : x_l102.all (x_dokb prog_14_method_32_code) = true := by decide +kernel
set_option maxRecDepth 100000 in
theorem x_k103 : x_l103.all (x_dokb prog_14_method_30_code) = true := by decide +kernel
set_option maxRecDepth 100000 in
theorem x_k104 : x_l104.all (x_dokb prog_14_method_31_code) = true := by decide +kernel
set_option maxRecDepth 100000 in
theorem x_k105 : x_l105.all (x_dokb prog_14_method_33_code) = true := by decide +kernel
set_option maxRecDepth 100000 in
theorem x_k106 : x_l106.all (x_dokb prog_14_method_34_code) = true := by decide +kernel
set_option maxRecDepth 100000 in
theorem x_k107 : x_l107.all (x_dokb prog_14_method_15_code) = true := by decide +kernel
set_option maxRecDepth 100000 in
theorem x_k108 : x_l108.all (x_dokb prog_14_method_12_code) = true := by decide +kernel
set_option maxRecDepth 100000 in
theorem x_k109 : x_l109.all (x_dokb prog_14_method_16_code) = true := by decide +kernel
set_option maxRecDepth 100000 in
theorem x_k110 : x_l110.all (x_dokb prog_14_method_36_code) = true := by decide +kernel
set_option maxRecDepth 100000 in
theorem x_k111 : x_l111.all (x_dokb prog_14_method_35_code) = true := by decide +kernel
set_option maxRecDepth 100000 in
theorem x_k112 : x_l112.all (x_dokb prog_14_method_37_code) = true := by decide +kernel
set_option maxRecDepth 100000 in
theorem x_k113 : x_l113.all (x_dokb prog_14_method_38_code) = true := by decide +kernel
set_option maxRecDepth 100000 in
theorem x_k114 : x_l114.all (x_dokb prog_14_method_39_code) = true := by decide +kernel
set_option maxRecDepth 100000 in
theorem x_k115 : x_l115.all (x_dokb prog_14_method_40_code) = true := by decide +kernel
set_option maxRecDepth 100000 in
theorem x_k116 : x_l116.all (x_dokb prog_14_method_41_code) = true := by decide +kernel
set_option maxRecDepth 100000 in
theorem x_k117 : x_l117.all (x_dokb prog_14_method_42_code) = true := by decide +kernel
set_option maxRecDepth 100000 in
theorem x_k118 : x_l118.all (x_dokb prog_14_method_43_code) = true := by decide +kernel
set_option maxRecDepth 100000 in
theorem x_k119_0 : x_l119_0.all (x_dokb code) = true := by decide +kernel
set_option maxRecDepth 100000 in
theorem x_k119_1 : x_l119_1.all (x_dokb code) = true := by decide +kernel
set_option maxRecDepth 100000 in
theorem x_k119_2 : x_l119_2.all (x_dokb code) = true := by decide +kernel
set_option maxRecDepth 100000 in
theorem x_k119_3 : x_l119_3.all (x_dokb code) = true := by decide +kernel
set_option maxRecDepth 100000 in
theorem x_k119_4 : x_l119_4.all (x_dokb code) = true := by decide +kernel
set_option maxRecDepth 100000 in
theorem x_k119_5 : x_l119_5.all (x_dokb code) = true := by decide +kernel
set_option maxRecDepth 100000 in
theorem x_k119_6 : x_l119_6.all (x_dokb code) = true := by decide +kernel
set_option maxRecDepth 100000 in
theorem x_k119_7 : x_l119_7.all (x_dokb code) = true := by decide +kernel
set_option maxRecDepth 100000 in
theorem x_k119_8 : x_l119_8.all (x_dokb code) = true := by decide +kernel
set_option maxRecDepth 100000 in
theorem x_k119_9 : x_l119_9.all (x_dokb code) = true := by decide +kernel
set_option maxRecDepth 100000 in
theorem x_k119_10 : x_l119_10.all (x_dokb code) = true := by decide +kernel
set_option maxRecDepth 100000 in
theorem x_k119_11 : x_l119_11.all (x_dokb code) = true := by decide +kernel
set_option maxRecDepth 100000 in
theorem x_k119_12 : x_l119_12.all (x_dokb code) = true := by decide +kernel
set_option maxRecDepth 100000 in
theorem x_k119_13 : x_l119_13.all (x_dokb code) = true := by decide +kernel
set_option maxRecDepth 100000 in
theorem x_k119_14 : x_l119_14.all (x_dokb code) = true := by decide +kernel
set_option maxRecDepth 100000 in
theorem x_k119_15 : x_l119_15.all (x_dokb code) = true := by decide +kernel
theorem x_k119 : x_l119.all (x_dokb code) = true := by
  unfold x_l119
  simp only [List.all_append, x_k119_0, x_k119_1, x_k119_2, x_k119_3, x_k119_4, x_k119_5, x_k119_6, x_k119_7, x_k119_8, x_k119_9, x_k119_10, x_k119_11, x_k119_12, x_k119_13, x_k119_14, x_k119_15, Bool.and_self]
theorem x_ct_all (i : Nat) (h : i < 120) : (x_cl.getD i []).all (x_dokb (xm_b i)) = true := match i, h with
  | 0, _ => x_k0
  | 1, _ => x_k1
  | 2, _ => x_k2
  | 3, _ => x_k3
  | 4, _ => x_k4
  | 5, _ => x_k5
  | 6, _ => x_k6
  | 7, _ => x_k7
  | 8, _ => x_k8
  | 9, _ => x_k9
  | 10, _ => x_k10
  | 11, _ => x_k11
  | 12, _ => x_k12
  | 13, _ => x_k13
  | 14, _ => x_k14
  | 15, _ => x_k15
  | 16, _ => x_k16
  | 17, _ => x_k17
  | 18, _ => x_k18
  | 19, _ => x_k19
  | 20, _ => x_k20
  | 21, _ => x_k21
  | 22, _ => x_k22
  | 23, _ => x_k23
  | 24, _ => x_k24
  | 25, _ => x_k25
  | 26, _ => x_k26
  | 27, _ => x_k27
  | 28, _ => x_k28
  | 29, _ => x_k29
  | 30, _ => x_k30
  | 31, _ => x_k31
  | 32, _ => x_k32
  | 33, _ => x_k33
  | 34, _ => x_k34
  | 35, _ => x_k35
  | 36, _ => x_k36
  | 37, _ => x_k37
  | 38, _ => x_k38
  | 39, _ => x_k39
  | 40, _ => x_k40
  | 41, _ => x_k41
  | 42, _ => x_k42
  | 43, _ => x_k43
  | 44, _ => x_k44
  | 45, _ => x_k45
  | 46, _ => x_k46
  | 47, _ => x_k47
  | 48, _ => x_k48
  | 49, _ => x_k49
  | 50, _ => x_k50
  | 51, _ => x_k51
  | 52, _ => x_k52
  | 53, _ => x_k53
  | 54, _ => x_k54
  | 55, _ => x_k55
  | 56, _ => x_k56
  | 57, _ => x_k57
  | 58, _ => x_k58
  | 59, _ => x_k59
  | 60, _ => x_k60
  | 61, _ => x_k61
  | 62, _ => x_k62
  | 63, _ => x_k63
  | 64, _ => x_k64
  | 65, _ => x_k65
  | 66, _ => x_k66
  | 67, _ => x_k67
  | 68, _ => x_k68
  | 69, _ => x_k69
  | 70, _ => x_k70
  | 71, _ => x_k71
  | 72, _ => x_k72
  | 73, _ => x_k73
  | 74, _ => x_k74
  | 75, _ => x_k75
  | 76, _ => x_k76
  | 77, _ => x_k77
  | 78, _ => x_k78
  | 79, _ => x_k79
  | 80, _ => x_k80
  | 81, _ => x_k81
  | 82, _ => x_k82
  | 83, _ => x_k83
  | 84, _ => x_k84
  | 85, _ => x_k85
  | 86, _ => x_k86
  | 87, _ => x_k87
  | 88, _ => x_k88
  | 89, _ => x_k89
  | 90, _ => x_k90
  | 91, _ => x_k91
  | 92, _ => x_k92
  | 93, _ => x_k93
  | 94, _ => x_k94
  | 95, _ => x_k95
  | 96, _ => x_k96
  | 97, _ => x_k97
  | 98, _ => x_k98
  | 99, _ => x_k99
  | 100, _ => x_k100
  | 101, _ => x_k101
  | 102, _ => x_k102
  | 103, _ => x_k103
  | 104, _ => x_k104
  | 105, _ => x_k105
  | 106, _ => x_k106
  | 107, _ => x_k107
  | 108, _ => x_k108
  | 109, _ => x_k109
  | 110, _ => x_k110
  | 111, _ => x_k111
  | 112, _ => x_k112
  | 113, _ => x_k113
  | 114, _ => x_k114
  | 115, _ => x_k115
  | 116, _ => x_k116
  | 117, _ => x_k117
  | 118, _ => x_k118
  | 119, _ => x_k119
  | n + 120, h => absurd h (by omega)
theorem x_ct_ok {mi pc : Nat} {ins : Instr} (h : x_ct mi pc = some ins) : ∃ n, decode (xm_b mi) pc = .ok (ins, n) ∧ ∀ k, x_len ins = some k → n = k := by
  have hm : (pc, ins) ∈ x_cl.getD mi [] := x_lookup h
  have hlt : mi < 120 := by
    refine Nat.not_le.mp fun hge => ?_
    have he : x_cl.getD mi [] = [] := by
      rw [List.getD_eq_getElem?_getD, List.getElem?_eq_none (by show x_cl.length ≤ mi; exact hge)]; rfl
    rw [he] at hm
    cases hm
  have h2 := List.all_eq_true.mp (x_ct_all mi hlt) _ hm
  unfold x_dokb at h2
  split at h2
  next i n hd =>
    simp only [Bool.and_eq_true, decide_eq_true_eq] at h2
    obtain ⟨rfl, h3⟩ := h2
    refine ⟨n, hd, fun k hk => ?_⟩
    rw [hk] at h3
    simpa using h3
  next => cases h2

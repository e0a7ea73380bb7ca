section WR
variable {P : xP} {lo : List (Option Value)} {st r : List Value} {w : xH} {Q : Option Value → xH → Prop} {mo : Nat} {S : xS} {x y : Int32} {a : Nat} {z : Int} {v1 v2 : Value}
-- 76 M_init
theorem wM_init_0 : WP P 76 0 lo st w Q ↔ x_ga lo[0]? (fun v => WP P 76 1 lo (v :: st) w Q) := W_aload_n rfl rfl rfl
theorem wM_init_1 (hr : r.length ≤ 8) (hc2 : r.all x_cat1 = true) : WP P 76 1 lo (.ref a :: r) w Q ↔ WP P 76 4 lo r w Q := W_objinit rfl rfl hr hc2 (by decide) (by decide) rfl
theorem wM_init_4 : WP P 76 4 lo st w Q ↔ x_ga lo[0]? (fun v => WP P 76 5 lo (v :: st) w Q) := W_aload_n rfl rfl rfl
theorem wM_init_5 : WP P 76 5 lo st w Q ↔ WP P 76 8 lo (.int (xi 128) :: st) w Q := W_sipush rfl rfl (by decide)
theorem wM_init_8 (h0 : 0 ≤ z) (h1 : z ≤ 1000) : WP P 76 8 lo (.int (xi z) :: r) w Q ↔ WP P 76 10 lo (.ref (x_sz w) :: r) (x_new w 20 z.toNat (fun _ => .int 0)) Q := W_newai rfl h0 h1 rfl
theorem wM_init_10 : WP P 76 10 lo (v1 :: .ref a :: r) w Q ↔ ((x_has w a [11] ∧ x_fit 2 v1 = true) ∧ WP P 76 13 lo r (x_put w a 0 v1) Q) := W_put rfl rfl (by decide) rfl
theorem wM_init_13 : WP P 76 13 lo st w Q ↔ x_ga lo[0]? (fun v => WP P 76 14 lo (v :: st) w Q) := W_aload_n rfl rfl rfl
theorem wM_init_14 : WP P 76 14 lo st w Q ↔ WP P 76 17 lo (.int (xi 128) :: st) w Q := W_sipush rfl rfl (by decide)
theorem wM_init_17 (h0 : 0 ≤ z) (h1 : z ≤ 1000) : WP P 76 17 lo (.int (xi z) :: r) w Q ↔ WP P 76 19 lo (.ref (x_sz w) :: r) (x_new w 20 z.toNat (fun _ => .int 0)) Q := W_newai rfl h0 h1 rfl
theorem wM_init_19 : WP P 76 19 lo (v1 :: .ref a :: r) w Q ↔ ((x_has w a [11] ∧ x_fit 2 v1 = true) ∧ WP P 76 22 lo r (x_put w a 1 v1) Q) := W_put rfl rfl (by decide) rfl
theorem wM_init_22 : WP P 76 22 lo st w Q ↔ x_ga lo[0]? (fun v => WP P 76 23 lo (v :: st) w Q) := W_aload_n rfl rfl rfl
theorem wM_init_23 : WP P 76 23 lo st w Q ↔ WP P 76 26 lo (.int (xi 128) :: st) w Q := W_sipush rfl rfl (by decide)
theorem wM_init_26 (h0 : 0 ≤ z) (h1 : z ≤ 1000) : WP P 76 26 lo (.int (xi z) :: r) w Q ↔ WP P 76 28 lo (.ref (x_sz w) :: r) (x_new w 20 z.toNat (fun _ => .int 0)) Q := W_newai rfl h0 h1 rfl
theorem wM_init_28 : WP P 76 28 lo (v1 :: .ref a :: r) w Q ↔ ((x_has w a [11] ∧ x_fit 2 v1 = true) ∧ WP P 76 31 lo r (x_put w a 2 v1) Q) := W_put rfl rfl (by decide) rfl
theorem wM_init_31 : WP P 76 31 lo st w Q ↔ x_ga lo[0]? (fun v => WP P 76 32 lo (v :: st) w Q) := W_aload_n rfl rfl rfl
theorem wM_init_32 : WP P 76 32 lo st w Q ↔ WP P 76 35 lo (.int (xi 128) :: st) w Q := W_sipush rfl rfl (by decide)
theorem wM_init_35 (h0 : 0 ≤ z) (h1 : z ≤ 1000) : WP P 76 35 lo (.int (xi z) :: r) w Q ↔ WP P 76 37 lo (.ref (x_sz w) :: r) (x_new w 20 z.toNat (fun _ => .int 0)) Q := W_newai rfl h0 h1 rfl
theorem wM_init_37 : WP P 76 37 lo (v1 :: .ref a :: r) w Q ↔ ((x_has w a [11] ∧ x_fit 2 v1 = true) ∧ WP P 76 40 lo r (x_put w a 3 v1) Q) := W_put rfl rfl (by decide) rfl
theorem wM_init_40 : WP P 76 40 lo st w Q ↔ x_ga lo[0]? (fun v => WP P 76 41 lo (v :: st) w Q) := W_aload_n rfl rfl rfl
theorem wM_init_41 : WP P 76 41 lo st w Q ↔ WP P 76 44 lo (.int (xi 128) :: st) w Q := W_sipush rfl rfl (by decide)
theorem wM_init_44 (h0 : 0 ≤ z) (h1 : z ≤ 1000) : WP P 76 44 lo (.int (xi z) :: r) w Q ↔ WP P 76 46 lo (.ref (x_sz w) :: r) (x_new w 20 z.toNat (fun _ => .int 0)) Q := W_newai rfl h0 h1 rfl
theorem wM_init_46 : WP P 76 46 lo (v1 :: .ref a :: r) w Q ↔ ((x_has w a [11] ∧ x_fit 2 v1 = true) ∧ WP P 76 49 lo r (x_put w a 4 v1) Q) := W_put rfl rfl (by decide) rfl
theorem wM_init_49 : WP P 76 49 lo st w Q ↔ x_ga lo[0]? (fun v => WP P 76 50 lo (v :: st) w Q) := W_aload_n rfl rfl rfl
theorem wM_init_50 : WP P 76 50 lo st w Q ↔ WP P 76 53 lo (.int (xi 128) :: st) w Q := W_sipush rfl rfl (by decide)
theorem wM_init_53 (h0 : 0 ≤ z) (h1 : z ≤ 1000) : WP P 76 53 lo (.int (xi z) :: r) w Q ↔ WP P 76 55 lo (.ref (x_sz w) :: r) (x_new w 20 z.toNat (fun _ => .int 0)) Q := W_newai rfl h0 h1 rfl
theorem wM_init_55 : WP P 76 55 lo (v1 :: .ref a :: r) w Q ↔ ((x_has w a [11] ∧ x_fit 2 v1 = true) ∧ WP P 76 58 lo r (x_put w a 5 v1) Q) := W_put rfl rfl (by decide) rfl
theorem wM_init_58 : WP P 76 58 lo st w Q ↔ x_ga lo[0]? (fun v => WP P 76 59 lo (v :: st) w Q) := W_aload_n rfl rfl rfl
theorem wM_init_59 : WP P 76 59 lo st w Q ↔ WP P 76 62 lo (.int (xi 128) :: st) w Q := W_sipush rfl rfl (by decide)
theorem wM_init_62 (h0 : 0 ≤ z) (h1 : z ≤ 1000) : WP P 76 62 lo (.int (xi z) :: r) w Q ↔ WP P 76 64 lo (.ref (x_sz w) :: r) (x_new w 20 z.toNat (fun _ => .int 0)) Q := W_newai rfl h0 h1 rfl
theorem wM_init_64 : WP P 76 64 lo (v1 :: .ref a :: r) w Q ↔ ((x_has w a [11] ∧ x_fit 2 v1 = true) ∧ WP P 76 67 lo r (x_put w a 6 v1) Q) := W_put rfl rfl (by decide) rfl
theorem wM_init_67 : WP P 76 67 lo st w Q ↔ x_ga lo[0]? (fun v => WP P 76 68 lo (v :: st) w Q) := W_aload_n rfl rfl rfl
theorem wM_init_68 : WP P 76 68 lo st w Q ↔ WP P 76 71 lo (.int (xi 128) :: st) w Q := W_sipush rfl rfl (by decide)
theorem wM_init_71 (h0 : 0 ≤ z) (h1 : z ≤ 1000) : WP P 76 71 lo (.int (xi z) :: r) w Q ↔ WP P 76 73 lo (.ref (x_sz w) :: r) (x_new w 20 z.toNat (fun _ => .int 0)) Q := W_newai rfl h0 h1 rfl
theorem wM_init_73 : WP P 76 73 lo (v1 :: .ref a :: r) w Q ↔ ((x_has w a [11] ∧ x_fit 2 v1 = true) ∧ WP P 76 76 lo r (x_put w a 7 v1) Q) := W_put rfl rfl (by decide) rfl
theorem wM_init_76 : WP P 76 76 lo st w Q ↔ x_ga lo[0]? (fun v => WP P 76 77 lo (v :: st) w Q) := W_aload_n rfl rfl rfl
theorem wM_init_77 : WP P 76 77 lo st w Q ↔ WP P 76 80 lo (.int (xi 128) :: st) w Q := W_sipush rfl rfl (by decide)
theorem wM_init_80 (h0 : 0 ≤ z) (h1 : z ≤ 1000) : WP P 76 80 lo (.int (xi z) :: r) w Q ↔ WP P 76 82 lo (.ref (x_sz w) :: r) (x_new w 20 z.toNat (fun _ => .int 0)) Q := W_newai rfl h0 h1 rfl
theorem wM_init_82 : WP P 76 82 lo (v1 :: .ref a :: r) w Q ↔ ((x_has w a [11] ∧ x_fit 2 v1 = true) ∧ WP P 76 85 lo r (x_put w a 8 v1) Q) := W_put rfl rfl (by decide) rfl
theorem wM_init_85 : WP P 76 85 lo st w Q ↔ x_ga lo[0]? (fun v => WP P 76 86 lo (v :: st) w Q) := W_aload_n rfl rfl rfl
theorem wM_init_86 : WP P 76 86 lo st w Q ↔ WP P 76 89 lo (.int (xi 128) :: st) w Q := W_sipush rfl rfl (by decide)
theorem wM_init_89 (h0 : 0 ≤ z) (h1 : z ≤ 1000) : WP P 76 89 lo (.int (xi z) :: r) w Q ↔ WP P 76 91 lo (.ref (x_sz w) :: r) (x_new w 21 z.toNat (fun _ => .int 0)) Q := W_newab rfl h0 h1 rfl
theorem wM_init_91 : WP P 76 91 lo (v1 :: .ref a :: r) w Q ↔ ((x_has w a [11] ∧ x_fit 2 v1 = true) ∧ WP P 76 94 lo r (x_put w a 9 v1) Q) := W_put rfl rfl (by decide) rfl
theorem wM_init_94 : WP P 76 94 lo st w Q ↔ x_ga lo[0]? (fun v => WP P 76 95 lo (v :: st) w Q) := W_aload_n rfl rfl rfl
theorem wM_init_95 : WP P 76 95 lo st w Q ↔ WP P 76 97 lo (.int (xi 16) :: st) w Q := W_bipush rfl rfl (by decide)
theorem wM_init_97 (h0 : 0 ≤ z) (h1 : z ≤ 1000) : WP P 76 97 lo (.int (xi z) :: r) w Q ↔ WP P 76 99 lo (.ref (x_sz w) :: r) (x_new w 20 z.toNat (fun _ => .int 0)) Q := W_newai rfl h0 h1 rfl
theorem wM_init_99 : WP P 76 99 lo (v1 :: .ref a :: r) w Q ↔ ((x_has w a [11] ∧ x_fit 2 v1 = true) ∧ WP P 76 102 lo r (x_put w a 10 v1) Q) := W_put rfl rfl (by decide) rfl
theorem wM_init_102 : WP P 76 102 lo st w Q ↔ x_ga lo[0]? (fun v => WP P 76 103 lo (v :: st) w Q) := W_aload_n rfl rfl rfl
theorem wM_init_103 : WP P 76 103 lo st w Q ↔ WP P 76 105 lo (.int (xi 16) :: st) w Q := W_bipush rfl rfl (by decide)
theorem wM_init_105 (h0 : 0 ≤ z) (h1 : z ≤ 1000) : WP P 76 105 lo (.int (xi z) :: r) w Q ↔ WP P 76 107 lo (.ref (x_sz w) :: r) (x_new w 20 z.toNat (fun _ => .int 0)) Q := W_newai rfl h0 h1 rfl
theorem wM_init_107 : WP P 76 107 lo (v1 :: .ref a :: r) w Q ↔ ((x_has w a [11] ∧ x_fit 2 v1 = true) ∧ WP P 76 110 lo r (x_put w a 11 v1) Q) := W_put rfl rfl (by decide) rfl
theorem wM_init_110 : WP P 76 110 lo st w Q ↔ x_ga lo[0]? (fun v => WP P 76 111 lo (v :: st) w Q) := W_aload_n rfl rfl rfl
theorem wM_init_111 : WP P 76 111 lo st w Q ↔ WP P 76 113 lo (.int (xi 16) :: st) w Q := W_bipush rfl rfl (by decide)
theorem wM_init_113 (h0 : 0 ≤ z) (h1 : z ≤ 1000) : WP P 76 113 lo (.int (xi z) :: r) w Q ↔ WP P 76 115 lo (.ref (x_sz w) :: r) (x_new w 20 z.toNat (fun _ => .int 0)) Q := W_newai rfl h0 h1 rfl
theorem wM_init_115 : WP P 76 115 lo (v1 :: .ref a :: r) w Q ↔ ((x_has w a [11] ∧ x_fit 2 v1 = true) ∧ WP P 76 118 lo r (x_put w a 12 v1) Q) := W_put rfl rfl (by decide) rfl
theorem wM_init_118 : WP P 76 118 lo st w Q ↔ x_ga lo[0]? (fun v => WP P 76 119 lo (v :: st) w Q) := W_aload_n rfl rfl rfl
theorem wM_init_119 : WP P 76 119 lo st w Q ↔ WP P 76 121 lo (.int (xi 16) :: st) w Q := W_bipush rfl rfl (by decide)
theorem wM_init_121 (h0 : 0 ≤ z) (h1 : z ≤ 1000) : WP P 76 121 lo (.int (xi z) :: r) w Q ↔ WP P 76 123 lo (.ref (x_sz w) :: r) (x_new w 20 z.toNat (fun _ => .int 0)) Q := W_newai rfl h0 h1 rfl
theorem wM_init_123 : WP P 76 123 lo (v1 :: .ref a :: r) w Q ↔ ((x_has w a [11] ∧ x_fit 2 v1 = true) ∧ WP P 76 126 lo r (x_put w a 13 v1) Q) := W_put rfl rfl (by decide) rfl
theorem wM_init_126 : WP P 76 126 lo st w Q ↔ x_ga lo[0]? (fun v => WP P 76 127 lo (v :: st) w Q) := W_aload_n rfl rfl rfl
theorem wM_init_127 : WP P 76 127 lo st w Q ↔ WP P 76 129 lo (.int (xi 16) :: st) w Q := W_bipush rfl rfl (by decide)
theorem wM_init_129 (h0 : 0 ≤ z) (h1 : z ≤ 1000) : WP P 76 129 lo (.int (xi z) :: r) w Q ↔ WP P 76 131 lo (.ref (x_sz w) :: r) (x_new w 20 z.toNat (fun _ => .int 0)) Q := W_newai rfl h0 h1 rfl
theorem wM_init_131 : WP P 76 131 lo (v1 :: .ref a :: r) w Q ↔ ((x_has w a [11] ∧ x_fit 2 v1 = true) ∧ WP P 76 134 lo r (x_put w a 14 v1) Q) := W_put rfl rfl (by decide) rfl
theorem wM_init_134 : WP P 76 134 lo st w Q ↔ x_ga lo[0]? (fun v => WP P 76 135 lo (v :: st) w Q) := W_aload_n rfl rfl rfl
theorem wM_init_135 : WP P 76 135 lo st w Q ↔ WP P 76 137 lo (.int (xi 16) :: st) w Q := W_bipush rfl rfl (by decide)
theorem wM_init_137 (h0 : 0 ≤ z) (h1 : z ≤ 1000) : WP P 76 137 lo (.int (xi z) :: r) w Q ↔ WP P 76 139 lo (.ref (x_sz w) :: r) (x_new w 20 z.toNat (fun _ => .int 0)) Q := W_newai rfl h0 h1 rfl
theorem wM_init_139 : WP P 76 139 lo (v1 :: .ref a :: r) w Q ↔ ((x_has w a [11] ∧ x_fit 2 v1 = true) ∧ WP P 76 142 lo r (x_put w a 15 v1) Q) := W_put rfl rfl (by decide) rfl
theorem wM_init_142 : WP P 76 142 lo st w Q ↔ x_ga lo[0]? (fun v => WP P 76 143 lo (v :: st) w Q) := W_aload_n rfl rfl rfl
theorem wM_init_143 : WP P 76 143 lo st w Q ↔ WP P 76 145 lo (.int (xi 16) :: st) w Q := W_bipush rfl rfl (by decide)
theorem wM_init_145 (h0 : 0 ≤ z) (h1 : z ≤ 1000) : WP P 76 145 lo (.int (xi z) :: r) w Q ↔ WP P 76 147 lo (.ref (x_sz w) :: r) (x_new w 20 z.toNat (fun _ => .int 0)) Q := W_newai rfl h0 h1 rfl
theorem wM_init_147 : WP P 76 147 lo (v1 :: .ref a :: r) w Q ↔ ((x_has w a [11] ∧ x_fit 2 v1 = true) ∧ WP P 76 150 lo r (x_put w a 16 v1) Q) := W_put rfl rfl (by decide) rfl
theorem wM_init_150 : WP P 76 150 lo st w Q ↔ x_ga lo[0]? (fun v => WP P 76 151 lo (v :: st) w Q) := W_aload_n rfl rfl rfl
theorem wM_init_151 : WP P 76 151 lo st w Q ↔ WP P 76 153 lo (.int (xi 16) :: st) w Q := W_bipush rfl rfl (by decide)
theorem wM_init_153 (h0 : 0 ≤ z) (h1 : z ≤ 1000) : WP P 76 153 lo (.int (xi z) :: r) w Q ↔ WP P 76 155 lo (.ref (x_sz w) :: r) (x_new w 20 z.toNat (fun _ => .int 0)) Q := W_newai rfl h0 h1 rfl
theorem wM_init_155 : WP P 76 155 lo (v1 :: .ref a :: r) w Q ↔ ((x_has w a [11] ∧ x_fit 2 v1 = true) ∧ WP P 76 158 lo r (x_put w a 17 v1) Q) := W_put rfl rfl (by decide) rfl
theorem wM_init_158 : WP P 76 158 lo st w Q ↔ x_ga lo[0]? (fun v => WP P 76 159 lo (v :: st) w Q) := W_aload_n rfl rfl rfl
theorem wM_init_159 : WP P 76 159 lo st w Q ↔ WP P 76 161 lo (.int (xi 16) :: st) w Q := W_bipush rfl rfl (by decide)
theorem wM_init_161 (h0 : 0 ≤ z) (h1 : z ≤ 1000) : WP P 76 161 lo (.int (xi z) :: r) w Q ↔ WP P 76 163 lo (.ref (x_sz w) :: r) (x_new w 20 z.toNat (fun _ => .int 0)) Q := W_newai rfl h0 h1 rfl
theorem wM_init_163 : WP P 76 163 lo (v1 :: .ref a :: r) w Q ↔ ((x_has w a [11] ∧ x_fit 2 v1 = true) ∧ WP P 76 166 lo r (x_put w a 18 v1) Q) := W_put rfl rfl (by decide) rfl
theorem wM_init_166 : WP P 76 166 lo st w Q ↔ x_ga lo[0]? (fun v => WP P 76 167 lo (v :: st) w Q) := W_aload_n rfl rfl rfl
theorem wM_init_167 : WP P 76 167 lo st w Q ↔ WP P 76 169 lo (.int (xi 16) :: st) w Q := W_bipush rfl rfl (by decide)
theorem wM_init_169 (h0 : 0 ≤ z) (h1 : z ≤ 1000) : WP P 76 169 lo (.int (xi z) :: r) w Q ↔ WP P 76 171 lo (.ref (x_sz w) :: r) (x_new w 20 z.toNat (fun _ => .int 0)) Q := W_newai rfl h0 h1 rfl
theorem wM_init_171 : WP P 76 171 lo (v1 :: .ref a :: r) w Q ↔ ((x_has w a [11] ∧ x_fit 2 v1 = true) ∧ WP P 76 174 lo r (x_put w a 19 v1) Q) := W_put rfl rfl (by decide) rfl
theorem wM_init_174 : WP P 76 174 lo st w Q ↔ x_ga lo[0]? (fun v => WP P 76 175 lo (v :: st) w Q) := W_aload_n rfl rfl rfl
theorem wM_init_175 : WP P 76 175 lo st w Q ↔ WP P 76 177 lo (.int (xi 16) :: st) w Q := W_bipush rfl rfl (by decide)
theorem wM_init_177 (h0 : 0 ≤ z) (h1 : z ≤ 1000) : WP P 76 177 lo (.int (xi z) :: r) w Q ↔ WP P 76 179 lo (.ref (x_sz w) :: r) (x_new w 20 z.toNat (fun _ => .int 0)) Q := W_newai rfl h0 h1 rfl
theorem wM_init_179 : WP P 76 179 lo (v1 :: .ref a :: r) w Q ↔ ((x_has w a [11] ∧ x_fit 2 v1 = true) ∧ WP P 76 182 lo r (x_put w a 20 v1) Q) := W_put rfl rfl (by decide) rfl
theorem wM_init_182 : WP P 76 182 lo st w Q ↔ x_ga lo[0]? (fun v => WP P 76 183 lo (v :: st) w Q) := W_aload_n rfl rfl rfl
theorem wM_init_183 : WP P 76 183 lo st w Q ↔ WP P 76 185 lo (.int (xi 16) :: st) w Q := W_bipush rfl rfl (by decide)
theorem wM_init_185 (h0 : 0 ≤ z) (h1 : z ≤ 1000) : WP P 76 185 lo (.int (xi z) :: r) w Q ↔ WP P 76 187 lo (.ref (x_sz w) :: r) (x_new w 20 z.toNat (fun _ => .int 0)) Q := W_newai rfl h0 h1 rfl
theorem wM_init_187 : WP P 76 187 lo (v1 :: .ref a :: r) w Q ↔ ((x_has w a [11] ∧ x_fit 2 v1 = true) ∧ WP P 76 190 lo r (x_put w a 21 v1) Q) := W_put rfl rfl (by decide) rfl
theorem wM_init_190 : WP P 76 190 lo st w Q ↔ x_ga lo[0]? (fun v => WP P 76 191 lo (v :: st) w Q) := W_aload_n rfl rfl rfl
theorem wM_init_191 : WP P 76 191 lo st w Q ↔ WP P 76 193 lo (.int (xi 16) :: st) w Q := W_bipush rfl rfl (by decide)
theorem wM_init_193 (h0 : 0 ≤ z) (h1 : z ≤ 1000) : WP P 76 193 lo (.int (xi z) :: r) w Q ↔ WP P 76 195 lo (.ref (x_sz w) :: r) (x_new w 20 z.toNat (fun _ => .int 0)) Q := W_newai rfl h0 h1 rfl
theorem wM_init_195 : WP P 76 195 lo (v1 :: .ref a :: r) w Q ↔ ((x_has w a [11] ∧ x_fit 2 v1 = true) ∧ WP P 76 198 lo r (x_put w a 22 v1) Q) := W_put rfl rfl (by decide) rfl
theorem wM_init_198 : WP P 76 198 lo st w Q ↔ x_ga lo[0]? (fun v => WP P 76 199 lo (v :: st) w Q) := W_aload_n rfl rfl rfl
theorem wM_init_199 : WP P 76 199 lo st w Q ↔ WP P 76 201 lo (.int (xi 16) :: st) w Q := W_bipush rfl rfl (by decide)
theorem wM_init_201 (h0 : 0 ≤ z) (h1 : z ≤ 1000) : WP P 76 201 lo (.int (xi z) :: r) w Q ↔ WP P 76 203 lo (.ref (x_sz w) :: r) (x_new w 21 z.toNat (fun _ => .int 0)) Q := W_newab rfl h0 h1 rfl
theorem wM_init_203 : WP P 76 203 lo (v1 :: .ref a :: r) w Q ↔ ((x_has w a [11] ∧ x_fit 2 v1 = true) ∧ WP P 76 206 lo r (x_put w a 23 v1) Q) := W_put rfl rfl (by decide) rfl
theorem wM_init_206 : WP P 76 206 lo st w Q ↔ x_ga lo[0]? (fun v => WP P 76 207 lo (v :: st) w Q) := W_aload_n rfl rfl rfl
theorem wM_init_207 : WP P 76 207 lo st w Q ↔ WP P 76 209 lo (.int (xi 64) :: st) w Q := W_bipush rfl rfl (by decide)
theorem wM_init_209 (h0 : 0 ≤ z) (h1 : z ≤ 1000) : WP P 76 209 lo (.int (xi z) :: r) w Q ↔ WP P 76 211 lo (.ref (x_sz w) :: r) (x_new w 20 z.toNat (fun _ => .int 0)) Q := W_newai rfl h0 h1 rfl
theorem wM_init_211 : WP P 76 211 lo (v1 :: .ref a :: r) w Q ↔ ((x_has w a [11] ∧ x_fit 2 v1 = true) ∧ WP P 76 214 lo r (x_put w a 24 v1) Q) := W_put rfl rfl (by decide) rfl
theorem wM_init_214 : WP P 76 214 lo st w Q ↔ x_ga lo[0]? (fun v => WP P 76 215 lo (v :: st) w Q) := W_aload_n rfl rfl rfl
theorem wM_init_215 : WP P 76 215 lo st w Q ↔ WP P 76 217 lo (.int (xi 32) :: st) w Q := W_bipush rfl rfl (by decide)
theorem wM_init_217 (h0 : 0 ≤ z) (h1 : z ≤ 1000) : WP P 76 217 lo (.int (xi z) :: r) w Q ↔ WP P 76 219 lo (.ref (x_sz w) :: r) (x_new w 20 z.toNat (fun _ => .int 0)) Q := W_newai rfl h0 h1 rfl
theorem wM_init_219 : WP P 76 219 lo (v1 :: .ref a :: r) w Q ↔ ((x_has w a [11] ∧ x_fit 2 v1 = true) ∧ WP P 76 222 lo r (x_put w a 25 v1) Q) := W_put rfl rfl (by decide) rfl
theorem wM_init_222 : WP P 76 222 lo st w Q ↔ x_ga lo[0]? (fun v => WP P 76 223 lo (v :: st) w Q) := W_aload_n rfl rfl rfl
theorem wM_init_223 : WP P 76 223 lo st w Q ↔ WP P 76 225 lo (.int (xi 32) :: st) w Q := W_bipush rfl rfl (by decide)
theorem wM_init_225 (h0 : 0 ≤ z) (h1 : z ≤ 1000) : WP P 76 225 lo (.int (xi z) :: r) w Q ↔ WP P 76 227 lo (.ref (x_sz w) :: r) (x_new w 20 z.toNat (fun _ => .int 0)) Q := W_newai rfl h0 h1 rfl
theorem wM_init_227 : WP P 76 227 lo (v1 :: .ref a :: r) w Q ↔ ((x_has w a [11] ∧ x_fit 2 v1 = true) ∧ WP P 76 230 lo r (x_put w a 26 v1) Q) := W_put rfl rfl (by decide) rfl
theorem wM_init_230 : WP P 76 230 lo st w Q ↔ x_ga lo[0]? (fun v => WP P 76 231 lo (v :: st) w Q) := W_aload_n rfl rfl rfl
theorem wM_init_231 : WP P 76 231 lo st w Q ↔ WP P 76 232 lo (.int (xi 4) :: st) w Q := W_iconst rfl rfl rfl
theorem wM_init_232 (h0 : 0 ≤ z) (h1 : z ≤ 1000) : WP P 76 232 lo (.int (xi z) :: r) w Q ↔ WP P 76 234 lo (.ref (x_sz w) :: r) (x_new w 20 z.toNat (fun _ => .int 0)) Q := W_newai rfl h0 h1 rfl
theorem wM_init_234 : WP P 76 234 lo (v1 :: .ref a :: r) w Q ↔ ((x_has w a [11] ∧ x_fit 2 v1 = true) ∧ WP P 76 237 lo r (x_put w a 27 v1) Q) := W_put rfl rfl (by decide) rfl
theorem wM_init_237 : WP P 76 237 lo st w Q ↔ WP P 76 238 lo (.int (xi 0) :: st) w Q := W_iconst rfl rfl rfl
theorem wM_init_238 : WP P 76 238 lo (.int x :: r) w Q ↔ (1 < lo.length ∧ WP P 76 239 (lo.set 1 (some (.int x))) r w Q) := W_istore_n rfl rfl rfl
theorem wM_init_239 : WP P 76 239 lo st w Q ↔ x_gi lo[1]? (fun x => WP P 76 240 lo (.int x :: st) w Q) := W_iload_n rfl rfl rfl
theorem wM_init_240 : WP P 76 240 lo st w Q ↔ WP P 76 243 lo (.int (xi 128) :: st) w Q := W_sipush rfl rfl (by decide)
theorem wM_init_243 : WP P 76 243 lo (.int y :: .int x :: r) w Q ↔ (if x < y then WP P 76 246 lo r w Q else WP P 76 259 lo r w Q) := W_ic_ge rfl rfl rfl
theorem wM_init_246 : WP P 76 246 lo st w Q ↔ x_ga lo[0]? (fun v => WP P 76 247 lo (v :: st) w Q) := W_aload_n rfl rfl rfl
theorem wM_init_247 : WP P 76 247 lo (.ref a :: r) w Q ↔ (x_has w a [11] ∧ WP P 76 250 lo (x_fd w a 0 :: r) w Q) := W_get rfl rfl rfl
theorem wM_init_250 : WP P 76 250 lo st w Q ↔ x_gi lo[1]? (fun x => WP P 76 251 lo (.int x :: st) w Q) := W_iload_n rfl rfl rfl
theorem wM_init_251 : WP P 76 251 lo st w Q ↔ WP P 76 252 lo (.int (xi (-1)) :: st) w Q := W_iconst rfl rfl rfl
theorem wM_init_252 {n : Nat} (h1 : x_tg w a = some (20, n)) (h2 : ¬ x < 0) (h3 : x.toNatClampNeg < n) : WP P 76 252 lo (.int y :: .int x :: .ref a :: r) w Q ↔ WP P 76 253 lo r (x_put w a x.toNatClampNeg (.int y)) Q := W_iast rfl h1 h2 h3 rfl
theorem wM_init_253 : WP P 76 253 lo st w Q ↔ x_gi lo[1]? (fun x => WP P 76 256 (lo.set 1 (some (.int (x + xi 1)))) st w Q) := W_iinc rfl rfl
theorem wM_init_256 : WP P 76 256 lo st w Q ↔ WP P 76 239 lo st w Q := W_goto rfl rfl
theorem wM_init_259 : WP P 76 259 lo st w Q ↔ WP P 76 260 lo (.int (xi 0) :: st) w Q := W_iconst rfl rfl rfl
theorem wM_init_260 : WP P 76 260 lo (.int x :: r) w Q ↔ (1 < lo.length ∧ WP P 76 261 (lo.set 1 (some (.int x))) r w Q) := W_istore_n rfl rfl rfl
theorem wM_init_261 : WP P 76 261 lo st w Q ↔ x_gi lo[1]? (fun x => WP P 76 262 lo (.int x :: st) w Q) := W_iload_n rfl rfl rfl
theorem wM_init_262 : WP P 76 262 lo st w Q ↔ WP P 76 263 lo (.int (xi 4) :: st) w Q := W_iconst rfl rfl rfl
theorem wM_init_263 : WP P 76 263 lo (.int y :: .int x :: r) w Q ↔ (if x < y then WP P 76 266 lo r w Q else WP P 76 279 lo r w Q) := W_ic_ge rfl rfl rfl
theorem wM_init_266 : WP P 76 266 lo st w Q ↔ x_ga lo[0]? (fun v => WP P 76 267 lo (v :: st) w Q) := W_aload_n rfl rfl rfl
theorem wM_init_267 : WP P 76 267 lo (.ref a :: r) w Q ↔ (x_has w a [11] ∧ WP P 76 270 lo (x_fd w a 27 :: r) w Q) := W_get rfl rfl rfl
theorem wM_init_270 : WP P 76 270 lo st w Q ↔ x_gi lo[1]? (fun x => WP P 76 271 lo (.int x :: st) w Q) := W_iload_n rfl rfl rfl
theorem wM_init_271 : WP P 76 271 lo st w Q ↔ WP P 76 272 lo (.int (xi (-1)) :: st) w Q := W_iconst rfl rfl rfl
theorem wM_init_272 {n : Nat} (h1 : x_tg w a = some (20, n)) (h2 : ¬ x < 0) (h3 : x.toNatClampNeg < n) : WP P 76 272 lo (.int y :: .int x :: .ref a :: r) w Q ↔ WP P 76 273 lo r (x_put w a x.toNatClampNeg (.int y)) Q := W_iast rfl h1 h2 h3 rfl
theorem wM_init_273 : WP P 76 273 lo st w Q ↔ x_gi lo[1]? (fun x => WP P 76 276 (lo.set 1 (some (.int (x + xi 1)))) st w Q) := W_iinc rfl rfl
theorem wM_init_276 : WP P 76 276 lo st w Q ↔ WP P 76 261 lo st w Q := W_goto rfl rfl
theorem wM_init_279 : WP P 76 279 lo st w Q ↔ x_ga lo[0]? (fun v => WP P 76 280 lo (v :: st) w Q) := W_aload_n rfl rfl rfl
theorem wM_init_280 : WP P 76 280 lo st w Q ↔ WP P 76 281 lo (.int (xi 0) :: st) w Q := W_iconst rfl rfl rfl
theorem wM_init_281 : WP P 76 281 lo st w Q ↔ WP P 76 282 lo (.int (xi 1) :: st) w Q := W_iconst rfl rfl rfl
theorem wM_init_282 : WP P 76 282 lo st w Q ↔ WP P 76 283 lo (.int (xi 0) :: st) w Q := W_iconst rfl rfl rfl
theorem wM_init_283 : WP P 76 283 lo st w Q ↔ WP P 76 284 lo (.int (xi 0) :: st) w Q := W_iconst rfl rfl rfl
theorem wM_init_284 : WP P 76 284 lo st w Q ↔ WP P 76 285 lo (.int (xi (-1)) :: st) w Q := W_iconst rfl rfl rfl
theorem wM_init_285 {u1 u2 u3 u4 u5 : Value} {b nb : Nat} (hb : x_tg w b = some (11, nb)) (hr : r.length ≤ 8) (hc : ([u1, u2, u3, u4, u5] : List Value).all x_cat1 = true) (hc2 : r.all x_cat1 = true) (k : WP P 77 0 [some (.ref b), some u1, some u2, some u3, some u4, some u5] [] w (fun v w1 => WP P 76 288 lo (v.toList ++ r) w1 Q)) : WP P 76 285 lo (u5 :: u4 :: u3 :: u2 :: u1 :: .ref b :: r) w Q := K_virt (as := [u1, u2, u3, u4, u5]) rfl rfl rfl rfl (by decide) (by decide) rfl hb hr hc hc2 k
theorem wM_init_288 : WP P 76 288 lo st w Q ↔ x_ga lo[0]? (fun v => WP P 76 289 lo (v :: st) w Q) := W_aload_n rfl rfl rfl
theorem wM_init_289 : WP P 76 289 lo st w Q ↔ WP P 76 290 lo (.int (xi 1) :: st) w Q := W_iconst rfl rfl rfl
theorem wM_init_290 : WP P 76 290 lo st w Q ↔ WP P 76 291 lo (.int (xi 2) :: st) w Q := W_iconst rfl rfl rfl
theorem wM_init_291 : WP P 76 291 lo st w Q ↔ WP P 76 293 lo (.int (xi 16) :: st) w Q := W_bipush rfl rfl (by decide)
theorem wM_init_293 : WP P 76 293 lo st w Q ↔ WP P 76 294 lo (.int (xi 0) :: st) w Q := W_iconst rfl rfl rfl
theorem wM_init_294 : WP P 76 294 lo st w Q ↔ WP P 76 295 lo (.int (xi (-1)) :: st) w Q := W_iconst rfl rfl rfl
theorem wM_init_295 {u1 u2 u3 u4 u5 : Value} {b nb : Nat} (hb : x_tg w b = some (11, nb)) (hr : r.length ≤ 8) (hc : ([u1, u2, u3, u4, u5] : List Value).all x_cat1 = true) (hc2 : r.all x_cat1 = true) (k : WP P 77 0 [some (.ref b), some u1, some u2, some u3, some u4, some u5] [] w (fun v w1 => WP P 76 298 lo (v.toList ++ r) w1 Q)) : WP P 76 295 lo (u5 :: u4 :: u3 :: u2 :: u1 :: .ref b :: r) w Q := K_virt (as := [u1, u2, u3, u4, u5]) rfl rfl rfl rfl (by decide) (by decide) rfl hb hr hc hc2 k
theorem wM_init_298 : WP P 76 298 lo st w Q ↔ x_ga lo[0]? (fun v => WP P 76 299 lo (v :: st) w Q) := W_aload_n rfl rfl rfl
theorem wM_init_299 : WP P 76 299 lo st w Q ↔ WP P 76 300 lo (.int (xi 2) :: st) w Q := W_iconst rfl rfl rfl
theorem wM_init_300 : WP P 76 300 lo st w Q ↔ WP P 76 301 lo (.int (xi 0) :: st) w Q := W_iconst rfl rfl rfl
theorem wM_init_301 : WP P 76 301 lo st w Q ↔ WP P 76 303 lo (.int (xi 32) :: st) w Q := W_bipush rfl rfl (by decide)
theorem wM_init_303 : WP P 76 303 lo st w Q ↔ WP P 76 304 lo (.int (xi 5) :: st) w Q := W_iconst rfl rfl rfl
theorem wM_init_304 : WP P 76 304 lo st w Q ↔ WP P 76 305 lo (.int (xi (-1)) :: st) w Q := W_iconst rfl rfl rfl
theorem wM_init_305 {u1 u2 u3 u4 u5 : Value} {b nb : Nat} (hb : x_tg w b = some (11, nb)) (hr : r.length ≤ 8) (hc : ([u1, u2, u3, u4, u5] : List Value).all x_cat1 = true) (hc2 : r.all x_cat1 = true) (k : WP P 77 0 [some (.ref b), some u1, some u2, some u3, some u4, some u5] [] w (fun v w1 => WP P 76 308 lo (v.toList ++ r) w1 Q)) : WP P 76 305 lo (u5 :: u4 :: u3 :: u2 :: u1 :: .ref b :: r) w Q := K_virt (as := [u1, u2, u3, u4, u5]) rfl rfl rfl rfl (by decide) (by decide) rfl hb hr hc hc2 k
theorem wM_init_308 : WP P 76 308 lo st w Q ↔ x_ga lo[0]? (fun v => WP P 76 309 lo (v :: st) w Q) := W_aload_n rfl rfl rfl
theorem wM_init_309 : WP P 76 309 lo st w Q ↔ WP P 76 310 lo (.int (xi 3) :: st) w Q := W_iconst rfl rfl rfl
theorem wM_init_310 : WP P 76 310 lo st w Q ↔ WP P 76 311 lo (.int (xi 0) :: st) w Q := W_iconst rfl rfl rfl
theorem wM_init_311 : WP P 76 311 lo st w Q ↔ WP P 76 313 lo (.int (xi 64) :: st) w Q := W_bipush rfl rfl (by decide)
theorem wM_init_313 : WP P 76 313 lo st w Q ↔ WP P 76 315 lo (.int (xi 6) :: st) w Q := W_bipush rfl rfl (by decide)
theorem wM_init_315 : WP P 76 315 lo st w Q ↔ WP P 76 316 lo (.int (xi (-1)) :: st) w Q := W_iconst rfl rfl rfl
theorem wM_init_316 {u1 u2 u3 u4 u5 : Value} {b nb : Nat} (hb : x_tg w b = some (11, nb)) (hr : r.length ≤ 8) (hc : ([u1, u2, u3, u4, u5] : List Value).all x_cat1 = true) (hc2 : r.all x_cat1 = true) (k : WP P 77 0 [some (.ref b), some u1, some u2, some u3, some u4, some u5] [] w (fun v w1 => WP P 76 319 lo (v.toList ++ r) w1 Q)) : WP P 76 316 lo (u5 :: u4 :: u3 :: u2 :: u1 :: .ref b :: r) w Q := K_virt (as := [u1, u2, u3, u4, u5]) rfl rfl rfl rfl (by decide) (by decide) rfl hb hr hc hc2 k
theorem wM_init_319 : WP P 76 319 lo st w Q ↔ x_ga lo[0]? (fun v => WP P 76 320 lo (v :: st) w Q) := W_aload_n rfl rfl rfl
theorem wM_init_320 : WP P 76 320 lo st w Q ↔ WP P 76 321 lo (.int (xi 2) :: st) w Q := W_iconst rfl rfl rfl
theorem wM_init_321 : WP P 76 321 lo st w Q ↔ WP P 76 323 lo (.int (xi 16) :: st) w Q := W_bipush rfl rfl (by decide)
theorem wM_init_323 {u1 u2 : Value} {b nb : Nat} (hb : x_tg w b = some (11, nb)) (hr : r.length ≤ 8) (hc : ([u1, u2] : List Value).all x_cat1 = true) (hc2 : r.all x_cat1 = true) (k : WP P 78 0 [some (.ref b), some u1, some u2, none] [] w (fun v w1 => WP P 76 326 lo (v.toList ++ r) w1 Q)) : WP P 76 323 lo (u2 :: u1 :: .ref b :: r) w Q := K_virt (as := [u1, u2]) rfl rfl rfl rfl (by decide) (by decide) rfl hb hr hc hc2 k
theorem wM_init_326 : WP P 76 326 lo st w Q ↔ x_ga lo[0]? (fun v => WP P 76 327 lo (v :: st) w Q) := W_aload_n rfl rfl rfl
theorem wM_init_327 : WP P 76 327 lo (.ref a :: r) w Q ↔ (x_has w a [11] ∧ WP P 76 330 lo (x_fd w a 11 :: r) w Q) := W_get rfl rfl rfl
theorem wM_init_330 : WP P 76 330 lo st w Q ↔ WP P 76 331 lo (.int (xi 2) :: st) w Q := W_iconst rfl rfl rfl
theorem wM_init_331 : WP P 76 331 lo st w Q ↔ WP P 76 332 lo (.int (xi 0) :: st) w Q := W_iconst rfl rfl rfl
theorem wM_init_332 {n : Nat} (h1 : x_tg w a = some (20, n)) (h2 : ¬ x < 0) (h3 : x.toNatClampNeg < n) : WP P 76 332 lo (.int y :: .int x :: .ref a :: r) w Q ↔ WP P 76 333 lo r (x_put w a x.toNatClampNeg (.int y)) Q := W_iast rfl h1 h2 h3 rfl
theorem wM_init_333 : WP P 76 333 lo st w Q ↔ x_ga lo[0]? (fun v => WP P 76 334 lo (v :: st) w Q) := W_aload_n rfl rfl rfl
theorem wM_init_334 : WP P 76 334 lo (.ref a :: r) w Q ↔ (x_has w a [11] ∧ WP P 76 337 lo (x_fd w a 13 :: r) w Q) := W_get rfl rfl rfl
theorem wM_init_337 : WP P 76 337 lo st w Q ↔ WP P 76 338 lo (.int (xi 2) :: st) w Q := W_iconst rfl rfl rfl
theorem wM_init_338 : WP P 76 338 lo st w Q ↔ WP P 76 339 lo (.int (xi 3) :: st) w Q := W_iconst rfl rfl rfl
theorem wM_init_339 {n : Nat} (h1 : x_tg w a = some (20, n)) (h2 : ¬ x < 0) (h3 : x.toNatClampNeg < n) : WP P 76 339 lo (.int y :: .int x :: .ref a :: r) w Q ↔ WP P 76 340 lo r (x_put w a x.toNatClampNeg (.int y)) Q := W_iast rfl h1 h2 h3 rfl
theorem wM_init_340 : WP P 76 340 lo st w Q ↔ x_ga lo[0]? (fun v => WP P 76 341 lo (v :: st) w Q) := W_aload_n rfl rfl rfl
theorem wM_init_341 : WP P 76 341 lo st w Q ↔ WP P 76 342 lo (.int (xi 2) :: st) w Q := W_iconst rfl rfl rfl
theorem wM_init_342 {u1 : Value} {b nb : Nat} (hb : x_tg w b = some (11, nb)) (hr : r.length ≤ 8) (hc : ([u1] : List Value).all x_cat1 = true) (hc2 : r.all x_cat1 = true) (k : WP P 79 0 [some (.ref b), some u1] [] w (fun v w1 => WP P 76 345 lo (v.toList ++ r) w1 Q)) : WP P 76 342 lo (u1 :: .ref b :: r) w Q := K_virt (as := [u1]) rfl rfl rfl rfl (by decide) (by decide) rfl hb hr hc hc2 k
theorem wM_init_345 : WP P 76 345 lo [] w Q ↔ Q none w := WP_ret rfl rfl
-- 77 M_fill
theorem wM_fill_0 : WP P 77 0 lo st w Q ↔ x_ga lo[0]? (fun v => WP P 77 1 lo (v :: st) w Q) := W_aload_n rfl rfl rfl
theorem wM_fill_1 : WP P 77 1 lo (.ref mo :: r) (putR w mo S) Q ↔ WP P 77 4 lo (.ref (ra mo 0) :: r) (putR w mo S) Q := R_get rfl rfl (by decide) rfl
theorem wM_fill_4 : WP P 77 4 lo st w Q ↔ x_gi lo[1]? (fun x => WP P 77 5 lo (.int x :: st) w Q) := W_iload_n rfl rfl rfl
theorem wM_fill_5 : WP P 77 5 lo st w Q ↔ x_gi lo[2]? (fun x => WP P 77 6 lo (.int x :: st) w Q) := W_iload_n rfl rfl rfl
theorem wM_fill_6 : WP P 77 6 lo (.int (xi z) :: .int x :: .ref (ra mo 0) :: r) (putR w mo S) Q ↔ ((0 ≤ x.toInt ∧ x.toInt < 128) ∧ WP P 77 7 lo r (putR w mo (sset S 0 x.toInt.toNat z)) Q) := R_iast rfl (by decide) rfl rfl rfl
theorem wM_fill_7 : WP P 77 7 lo st w Q ↔ x_ga lo[0]? (fun v => WP P 77 8 lo (v :: st) w Q) := W_aload_n rfl rfl rfl
theorem wM_fill_8 : WP P 77 8 lo (.ref mo :: r) (putR w mo S) Q ↔ WP P 77 11 lo (.ref (ra mo 1) :: r) (putR w mo S) Q := R_get rfl rfl (by decide) rfl
theorem wM_fill_11 : WP P 77 11 lo st w Q ↔ x_gi lo[1]? (fun x => WP P 77 12 lo (.int x :: st) w Q) := W_iload_n rfl rfl rfl
theorem wM_fill_12 : WP P 77 12 lo st w Q ↔ x_gi lo[3]? (fun x => WP P 77 13 lo (.int x :: st) w Q) := W_iload_n rfl rfl rfl
theorem wM_fill_13 : WP P 77 13 lo (.int (xi z) :: .int x :: .ref (ra mo 1) :: r) (putR w mo S) Q ↔ ((0 ≤ x.toInt ∧ x.toInt < 128) ∧ WP P 77 14 lo r (putR w mo (sset S 1 x.toInt.toNat z)) Q) := R_iast rfl (by decide) rfl rfl rfl
theorem wM_fill_14 : WP P 77 14 lo st w Q ↔ x_ga lo[0]? (fun v => WP P 77 15 lo (v :: st) w Q) := W_aload_n rfl rfl rfl
theorem wM_fill_15 : WP P 77 15 lo (.ref mo :: r) (putR w mo S) Q ↔ WP P 77 18 lo (.ref (ra mo 2) :: r) (putR w mo S) Q := R_get rfl rfl (by decide) rfl
theorem wM_fill_18 : WP P 77 18 lo st w Q ↔ x_gi lo[1]? (fun x => WP P 77 19 lo (.int x :: st) w Q) := W_iload_n rfl rfl rfl
theorem wM_fill_19 : WP P 77 19 lo st w Q ↔ WP P 77 21 lo (.int (xi 7) :: st) w Q := W_bipush rfl rfl (by decide)
theorem wM_fill_21 : WP P 77 21 lo (.int (xi z) :: .int x :: .ref (ra mo 2) :: r) (putR w mo S) Q ↔ ((0 ≤ x.toInt ∧ x.toInt < 128) ∧ WP P 77 22 lo r (putR w mo (sset S 2 x.toInt.toNat z)) Q) := R_iast rfl (by decide) rfl rfl rfl
theorem wM_fill_22 : WP P 77 22 lo st w Q ↔ x_ga lo[0]? (fun v => WP P 77 23 lo (v :: st) w Q) := W_aload_n rfl rfl rfl
theorem wM_fill_23 : WP P 77 23 lo (.ref mo :: r) (putR w mo S) Q ↔ WP P 77 26 lo (.ref (ra mo 3) :: r) (putR w mo S) Q := R_get rfl rfl (by decide) rfl
theorem wM_fill_26 : WP P 77 26 lo st w Q ↔ x_gi lo[1]? (fun x => WP P 77 27 lo (.int x :: st) w Q) := W_iload_n rfl rfl rfl
theorem wM_fill_27 : WP P 77 27 lo st w Q ↔ WP P 77 28 lo (.int (xi 0) :: st) w Q := W_iconst rfl rfl rfl
theorem wM_fill_28 : WP P 77 28 lo (.int (xi z) :: .int x :: .ref (ra mo 3) :: r) (putR w mo S) Q ↔ ((0 ≤ x.toInt ∧ x.toInt < 128) ∧ WP P 77 29 lo r (putR w mo (sset S 3 x.toInt.toNat z)) Q) := R_iast rfl (by decide) rfl rfl rfl
theorem wM_fill_29 : WP P 77 29 lo st w Q ↔ x_ga lo[0]? (fun v => WP P 77 30 lo (v :: st) w Q) := W_aload_n rfl rfl rfl
theorem wM_fill_30 : WP P 77 30 lo (.ref mo :: r) (putR w mo S) Q ↔ WP P 77 33 lo (.ref (ra mo 4) :: r) (putR w mo S) Q := R_get rfl rfl (by decide) rfl
theorem wM_fill_33 : WP P 77 33 lo st w Q ↔ x_gi lo[1]? (fun x => WP P 77 34 lo (.int x :: st) w Q) := W_iload_n rfl rfl rfl
theorem wM_fill_34 : WP P 77 34 lo st w Q ↔ x_gi lo[5]? (fun x => WP P 77 36 lo (.int x :: st) w Q) := W_iload rfl rfl
theorem wM_fill_36 : WP P 77 36 lo (.int (xi z) :: .int x :: .ref (ra mo 4) :: r) (putR w mo S) Q ↔ ((0 ≤ x.toInt ∧ x.toInt < 128) ∧ WP P 77 37 lo r (putR w mo (sset S 4 x.toInt.toNat z)) Q) := R_iast rfl (by decide) rfl rfl rfl
theorem wM_fill_37 : WP P 77 37 lo st w Q ↔ x_ga lo[0]? (fun v => WP P 77 38 lo (v :: st) w Q) := W_aload_n rfl rfl rfl
theorem wM_fill_38 : WP P 77 38 lo (.ref mo :: r) (putR w mo S) Q ↔ WP P 77 41 lo (.ref (ra mo 5) :: r) (putR w mo S) Q := R_get rfl rfl (by decide) rfl
theorem wM_fill_41 : WP P 77 41 lo st w Q ↔ x_gi lo[1]? (fun x => WP P 77 42 lo (.int x :: st) w Q) := W_iload_n rfl rfl rfl
theorem wM_fill_42 : WP P 77 42 lo st w Q ↔ x_gi lo[4]? (fun x => WP P 77 44 lo (.int x :: st) w Q) := W_iload rfl rfl
theorem wM_fill_44 : WP P 77 44 lo (.int (xi z) :: .int x :: .ref (ra mo 5) :: r) (putR w mo S) Q ↔ ((0 ≤ x.toInt ∧ x.toInt < 128) ∧ WP P 77 45 lo r (putR w mo (sset S 5 x.toInt.toNat z)) Q) := R_iast rfl (by decide) rfl rfl rfl
theorem wM_fill_45 : WP P 77 45 lo st w Q ↔ x_ga lo[0]? (fun v => WP P 77 46 lo (v :: st) w Q) := W_aload_n rfl rfl rfl
theorem wM_fill_46 : WP P 77 46 lo (.ref mo :: r) (putR w mo S) Q ↔ WP P 77 49 lo (.ref (ra mo 6) :: r) (putR w mo S) Q := R_get rfl rfl (by decide) rfl
theorem wM_fill_49 : WP P 77 49 lo st w Q ↔ x_gi lo[1]? (fun x => WP P 77 50 lo (.int x :: st) w Q) := W_iload_n rfl rfl rfl
theorem wM_fill_50 : WP P 77 50 lo st w Q ↔ x_gi lo[3]? (fun x => WP P 77 51 lo (.int x :: st) w Q) := W_iload_n rfl rfl rfl
theorem wM_fill_51 : WP P 77 51 lo (.int (xi z) :: .int x :: .ref (ra mo 6) :: r) (putR w mo S) Q ↔ ((0 ≤ x.toInt ∧ x.toInt < 128) ∧ WP P 77 52 lo r (putR w mo (sset S 6 x.toInt.toNat z)) Q) := R_iast rfl (by decide) rfl rfl rfl
theorem wM_fill_52 : WP P 77 52 lo st w Q ↔ x_ga lo[0]? (fun v => WP P 77 53 lo (v :: st) w Q) := W_aload_n rfl rfl rfl
theorem wM_fill_53 : WP P 77 53 lo (.ref mo :: r) (putR w mo S) Q ↔ WP P 77 56 lo (.ref (ra mo 7) :: r) (putR w mo S) Q := R_get rfl rfl (by decide) rfl
theorem wM_fill_56 : WP P 77 56 lo st w Q ↔ x_gi lo[1]? (fun x => WP P 77 57 lo (.int x :: st) w Q) := W_iload_n rfl rfl rfl
theorem wM_fill_57 : WP P 77 57 lo st w Q ↔ WP P 77 58 lo (.int (xi (-1)) :: st) w Q := W_iconst rfl rfl rfl
theorem wM_fill_58 : WP P 77 58 lo (.int (xi z) :: .int x :: .ref (ra mo 7) :: r) (putR w mo S) Q ↔ ((0 ≤ x.toInt ∧ x.toInt < 128) ∧ WP P 77 59 lo r (putR w mo (sset S 7 x.toInt.toNat z)) Q) := R_iast rfl (by decide) rfl rfl rfl
theorem wM_fill_59 : WP P 77 59 lo st w Q ↔ x_ga lo[0]? (fun v => WP P 77 60 lo (v :: st) w Q) := W_aload_n rfl rfl rfl
theorem wM_fill_60 : WP P 77 60 lo (.ref mo :: r) (putR w mo S) Q ↔ WP P 77 63 lo (.ref (ra mo 8) :: r) (putR w mo S) Q := R_get rfl rfl (by decide) rfl
theorem wM_fill_63 : WP P 77 63 lo st w Q ↔ x_gi lo[1]? (fun x => WP P 77 64 lo (.int x :: st) w Q) := W_iload_n rfl rfl rfl
theorem wM_fill_64 : WP P 77 64 lo st w Q ↔ WP P 77 65 lo (.int (xi 0) :: st) w Q := W_iconst rfl rfl rfl
theorem wM_fill_65 : WP P 77 65 lo (.int (xi z) :: .int x :: .ref (ra mo 8) :: r) (putR w mo S) Q ↔ ((0 ≤ x.toInt ∧ x.toInt < 128) ∧ WP P 77 66 lo r (putR w mo (sset S 8 x.toInt.toNat z)) Q) := R_iast rfl (by decide) rfl rfl rfl
theorem wM_fill_66 : WP P 77 66 lo [] w Q ↔ Q none w := WP_ret rfl rfl
-- 78 M_begin
theorem wM_begin_0 : WP P 78 0 lo st w Q ↔ x_gi lo[1]? (fun x => WP P 78 1 lo (.int x :: st) w Q) := W_iload_n rfl rfl rfl
theorem wM_begin_1 : WP P 78 1 lo st w Q ↔ WP P 78 2 lo (.int (xi 2) :: st) w Q := W_iconst rfl rfl rfl
theorem wM_begin_2 : WP P 78 2 lo (.int y :: .int x :: r) w Q ↔ (if x = y then WP P 78 5 lo r w Q else WP P 78 69 lo r w Q) := W_ic_ne rfl rfl rfl
theorem wM_begin_5 : WP P 78 5 lo st w Q ↔ x_gi lo[2]? (fun x => WP P 78 6 lo (.int x :: st) w Q) := W_iload_n rfl rfl rfl
theorem wM_begin_6 : WP P 78 6 lo st w Q ↔ WP P 78 8 lo (.int (xi 8) :: st) w Q := W_bipush rfl rfl (by decide)
theorem wM_begin_8 : WP P 78 8 lo (.int y :: .int x :: r) w Q ↔ (¬ y = 0 ∧ WP P 78 9 lo (.int (x / y) :: r) w Q) := W_idiv rfl rfl
theorem wM_begin_9 : WP P 78 9 lo (.int x :: r) w Q ↔ (3 < lo.length ∧ WP P 78 10 (lo.set 3 (some (.int x))) r w Q) := W_istore_n rfl rfl rfl
theorem wM_begin_10 : WP P 78 10 lo st w Q ↔ x_ga lo[0]? (fun v => WP P 78 11 lo (v :: st) w Q) := W_aload_n rfl rfl rfl
theorem wM_begin_11 : WP P 78 11 lo (.ref mo :: r) (putR w mo S) Q ↔ WP P 78 14 lo (.ref (ra mo 10) :: r) (putR w mo S) Q := R_get rfl rfl (by decide) rfl
theorem wM_begin_14 : WP P 78 14 lo st w Q ↔ x_gi lo[3]? (fun x => WP P 78 15 lo (.int x :: st) w Q) := W_iload_n rfl rfl rfl
theorem wM_begin_15 : WP P 78 15 lo st w Q ↔ WP P 78 16 lo (.int (xi 1) :: st) w Q := W_iconst rfl rfl rfl
theorem wM_begin_16 : WP P 78 16 lo (.int (xi z) :: .int x :: .ref (ra mo 10) :: r) (putR w mo S) Q ↔ ((0 ≤ x.toInt ∧ x.toInt < 16) ∧ WP P 78 17 lo r (putR w mo (sset S 10 x.toInt.toNat z)) Q) := R_iast rfl (by decide) rfl rfl rfl
theorem wM_begin_17 : WP P 78 17 lo st w Q ↔ x_ga lo[0]? (fun v => WP P 78 18 lo (v :: st) w Q) := W_aload_n rfl rfl rfl
theorem wM_begin_18 : WP P 78 18 lo (.ref mo :: r) (putR w mo S) Q ↔ WP P 78 21 lo (.ref (ra mo 11) :: r) (putR w mo S) Q := R_get rfl rfl (by decide) rfl
theorem wM_begin_21 : WP P 78 21 lo st w Q ↔ x_gi lo[3]? (fun x => WP P 78 22 lo (.int x :: st) w Q) := W_iload_n rfl rfl rfl
theorem wM_begin_22 : WP P 78 22 lo st w Q ↔ WP P 78 23 lo (.int (xi (-1)) :: st) w Q := W_iconst rfl rfl rfl
theorem wM_begin_23 : WP P 78 23 lo (.int (xi z) :: .int x :: .ref (ra mo 11) :: r) (putR w mo S) Q ↔ ((0 ≤ x.toInt ∧ x.toInt < 16) ∧ WP P 78 24 lo r (putR w mo (sset S 11 x.toInt.toNat z)) Q) := R_iast rfl (by decide) rfl rfl rfl
theorem wM_begin_24 : WP P 78 24 lo st w Q ↔ x_ga lo[0]? (fun v => WP P 78 25 lo (v :: st) w Q) := W_aload_n rfl rfl rfl
theorem wM_begin_25 : WP P 78 25 lo (.ref mo :: r) (putR w mo S) Q ↔ WP P 78 28 lo (.ref (ra mo 12) :: r) (putR w mo S) Q := R_get rfl rfl (by decide) rfl
theorem wM_begin_28 : WP P 78 28 lo st w Q ↔ x_gi lo[3]? (fun x => WP P 78 29 lo (.int x :: st) w Q) := W_iload_n rfl rfl rfl
theorem wM_begin_29 : WP P 78 29 lo st w Q ↔ WP P 78 30 lo (.int (xi (-1)) :: st) w Q := W_iconst rfl rfl rfl
theorem wM_begin_30 : WP P 78 30 lo (.int (xi z) :: .int x :: .ref (ra mo 12) :: r) (putR w mo S) Q ↔ ((0 ≤ x.toInt ∧ x.toInt < 16) ∧ WP P 78 31 lo r (putR w mo (sset S 12 x.toInt.toNat z)) Q) := R_iast rfl (by decide) rfl rfl rfl
theorem wM_begin_31 : WP P 78 31 lo st w Q ↔ x_ga lo[0]? (fun v => WP P 78 32 lo (v :: st) w Q) := W_aload_n rfl rfl rfl
theorem wM_begin_32 : WP P 78 32 lo (.ref mo :: r) (putR w mo S) Q ↔ WP P 78 35 lo (.ref (ra mo 13) :: r) (putR w mo S) Q := R_get rfl rfl (by decide) rfl
theorem wM_begin_35 : WP P 78 35 lo st w Q ↔ x_gi lo[3]? (fun x => WP P 78 36 lo (.int x :: st) w Q) := W_iload_n rfl rfl rfl
theorem wM_begin_36 : WP P 78 36 lo st w Q ↔ WP P 78 37 lo (.int (xi 0) :: st) w Q := W_iconst rfl rfl rfl
theorem wM_begin_37 : WP P 78 37 lo (.int (xi z) :: .int x :: .ref (ra mo 13) :: r) (putR w mo S) Q ↔ ((0 ≤ x.toInt ∧ x.toInt < 16) ∧ WP P 78 38 lo r (putR w mo (sset S 13 x.toInt.toNat z)) Q) := R_iast rfl (by decide) rfl rfl rfl
theorem wM_begin_38 : WP P 78 38 lo st w Q ↔ x_ga lo[0]? (fun v => WP P 78 39 lo (v :: st) w Q) := W_aload_n rfl rfl rfl
theorem wM_begin_39 : WP P 78 39 lo (.ref mo :: r) (putR w mo S) Q ↔ WP P 78 42 lo (.ref (ra mo 14) :: r) (putR w mo S) Q := R_get rfl rfl (by decide) rfl
theorem wM_begin_42 : WP P 78 42 lo st w Q ↔ x_gi lo[3]? (fun x => WP P 78 43 lo (.int x :: st) w Q) := W_iload_n rfl rfl rfl
theorem wM_begin_43 : WP P 78 43 lo st w Q ↔ WP P 78 44 lo (.int (xi 0) :: st) w Q := W_iconst rfl rfl rfl
theorem wM_begin_44 : WP P 78 44 lo (.int (xi z) :: .int x :: .ref (ra mo 14) :: r) (putR w mo S) Q ↔ ((0 ≤ x.toInt ∧ x.toInt < 16) ∧ WP P 78 45 lo r (putR w mo (sset S 14 x.toInt.toNat z)) Q) := R_iast rfl (by decide) rfl rfl rfl
theorem wM_begin_45 : WP P 78 45 lo st w Q ↔ x_ga lo[0]? (fun v => WP P 78 46 lo (v :: st) w Q) := W_aload_n rfl rfl rfl
theorem wM_begin_46 : WP P 78 46 lo (.ref mo :: r) (putR w mo S) Q ↔ WP P 78 49 lo (.ref (ra mo 15) :: r) (putR w mo S) Q := R_get rfl rfl (by decide) rfl
theorem wM_begin_49 : WP P 78 49 lo st w Q ↔ x_gi lo[3]? (fun x => WP P 78 50 lo (.int x :: st) w Q) := W_iload_n rfl rfl rfl
theorem wM_begin_50 : WP P 78 50 lo st w Q ↔ WP P 78 51 lo (.int (xi 0) :: st) w Q := W_iconst rfl rfl rfl
theorem wM_begin_51 : WP P 78 51 lo (.int (xi z) :: .int x :: .ref (ra mo 15) :: r) (putR w mo S) Q ↔ ((0 ≤ x.toInt ∧ x.toInt < 16) ∧ WP P 78 52 lo r (putR w mo (sset S 15 x.toInt.toNat z)) Q) := R_iast rfl (by decide) rfl rfl rfl
theorem wM_begin_52 : WP P 78 52 lo st w Q ↔ x_ga lo[0]? (fun v => WP P 78 53 lo (v :: st) w Q) := W_aload_n rfl rfl rfl
theorem wM_begin_53 : WP P 78 53 lo (.ref mo :: r) (putR w mo S) Q ↔ WP P 78 56 lo (.ref (ra mo 16) :: r) (putR w mo S) Q := R_get rfl rfl (by decide) rfl
theorem wM_begin_56 : WP P 78 56 lo st w Q ↔ x_gi lo[3]? (fun x => WP P 78 57 lo (.int x :: st) w Q) := W_iload_n rfl rfl rfl
theorem wM_begin_57 : WP P 78 57 lo st w Q ↔ WP P 78 58 lo (.int (xi 0) :: st) w Q := W_iconst rfl rfl rfl
theorem wM_begin_58 : WP P 78 58 lo (.int (xi z) :: .int x :: .ref (ra mo 16) :: r) (putR w mo S) Q ↔ ((0 ≤ x.toInt ∧ x.toInt < 16) ∧ WP P 78 59 lo r (putR w mo (sset S 16 x.toInt.toNat z)) Q) := R_iast rfl (by decide) rfl rfl rfl
theorem wM_begin_59 : WP P 78 59 lo st w Q ↔ x_ga lo[0]? (fun v => WP P 78 60 lo (v :: st) w Q) := W_aload_n rfl rfl rfl
theorem wM_begin_60 : WP P 78 60 lo (.ref mo :: r) (putR w mo S) Q ↔ WP P 78 63 lo (.ref (ra mo 17) :: r) (putR w mo S) Q := R_get rfl rfl (by decide) rfl
theorem wM_begin_63 : WP P 78 63 lo st w Q ↔ x_gi lo[3]? (fun x => WP P 78 64 lo (.int x :: st) w Q) := W_iload_n rfl rfl rfl
theorem wM_begin_64 : WP P 78 64 lo st w Q ↔ WP P 78 65 lo (.int (xi 0) :: st) w Q := W_iconst rfl rfl rfl
theorem wM_begin_65 : WP P 78 65 lo (.int (xi z) :: .int x :: .ref (ra mo 17) :: r) (putR w mo S) Q ↔ ((0 ≤ x.toInt ∧ x.toInt < 16) ∧ WP P 78 66 lo r (putR w mo (sset S 17 x.toInt.toNat z)) Q) := R_iast rfl (by decide) rfl rfl rfl
theorem wM_begin_66 : WP P 78 66 lo st w Q ↔ WP P 78 101 lo st w Q := W_goto rfl rfl
theorem wM_begin_69 : WP P 78 69 lo st w Q ↔ x_gi lo[1]? (fun x => WP P 78 70 lo (.int x :: st) w Q) := W_iload_n rfl rfl rfl
theorem wM_begin_70 : WP P 78 70 lo st w Q ↔ WP P 78 71 lo (.int (xi 4) :: st) w Q := W_iconst rfl rfl rfl
theorem wM_begin_71 : WP P 78 71 lo (.int y :: .int x :: r) w Q ↔ (if x = y then WP P 78 74 lo r w Q else WP P 78 86 lo r w Q) := W_ic_ne rfl rfl rfl
theorem wM_begin_74 : WP P 78 74 lo st w Q ↔ x_ga lo[0]? (fun v => WP P 78 75 lo (v :: st) w Q) := W_aload_n rfl rfl rfl
theorem wM_begin_75 : WP P 78 75 lo (.ref mo :: r) (putR w mo S) Q ↔ WP P 78 78 lo (.ref (ra mo 24) :: r) (putR w mo S) Q := R_get rfl rfl (by decide) rfl
theorem wM_begin_78 : WP P 78 78 lo st w Q ↔ x_gi lo[2]? (fun x => WP P 78 79 lo (.int x :: st) w Q) := W_iload_n rfl rfl rfl
theorem wM_begin_79 : WP P 78 79 lo st w Q ↔ WP P 78 80 lo (.int (xi 2) :: st) w Q := W_iconst rfl rfl rfl
theorem wM_begin_80 : WP P 78 80 lo (.int y :: .int x :: r) w Q ↔ (¬ y = 0 ∧ WP P 78 81 lo (.int (x / y) :: r) w Q) := W_idiv rfl rfl
theorem wM_begin_81 : WP P 78 81 lo st w Q ↔ WP P 78 82 lo (.int (xi 0) :: st) w Q := W_iconst rfl rfl rfl
theorem wM_begin_82 : WP P 78 82 lo (.int (xi z) :: .int x :: .ref (ra mo 24) :: r) (putR w mo S) Q ↔ ((0 ≤ x.toInt ∧ x.toInt < 64) ∧ WP P 78 83 lo r (putR w mo (sset S 24 x.toInt.toNat z)) Q) := R_iast rfl (by decide) rfl rfl rfl
theorem wM_begin_83 : WP P 78 83 lo st w Q ↔ WP P 78 101 lo st w Q := W_goto rfl rfl
theorem wM_begin_86 : WP P 78 86 lo st w Q ↔ x_gi lo[1]? (fun x => WP P 78 87 lo (.int x :: st) w Q) := W_iload_n rfl rfl rfl
theorem wM_begin_87 : WP P 78 87 lo st w Q ↔ WP P 78 89 lo (.int (xi 6) :: st) w Q := W_bipush rfl rfl (by decide)
theorem wM_begin_89 : WP P 78 89 lo (.int y :: .int x :: r) w Q ↔ (if x = y then WP P 78 92 lo r w Q else WP P 78 101 lo r w Q) := W_ic_ne rfl rfl rfl
theorem wM_begin_92 : WP P 78 92 lo st w Q ↔ x_ga lo[0]? (fun v => WP P 78 93 lo (v :: st) w Q) := W_aload_n rfl rfl rfl
theorem wM_begin_93 : WP P 78 93 lo (.ref mo :: r) (putR w mo S) Q ↔ WP P 78 96 lo (.ref (ra mo 25) :: r) (putR w mo S) Q := R_get rfl rfl (by decide) rfl
theorem wM_begin_96 : WP P 78 96 lo st w Q ↔ x_gi lo[2]? (fun x => WP P 78 97 lo (.int x :: st) w Q) := W_iload_n rfl rfl rfl
theorem wM_begin_97 : WP P 78 97 lo st w Q ↔ WP P 78 98 lo (.int (xi 4) :: st) w Q := W_iconst rfl rfl rfl
theorem wM_begin_98 : WP P 78 98 lo (.int y :: .int x :: r) w Q ↔ (¬ y = 0 ∧ WP P 78 99 lo (.int (x / y) :: r) w Q) := W_idiv rfl rfl
theorem wM_begin_99 : WP P 78 99 lo st w Q ↔ WP P 78 100 lo (.int (xi (-1)) :: st) w Q := W_iconst rfl rfl rfl
theorem wM_begin_100 : WP P 78 100 lo (.int (xi z) :: .int x :: .ref (ra mo 25) :: r) (putR w mo S) Q ↔ ((0 ≤ x.toInt ∧ x.toInt < 32) ∧ WP P 78 101 lo r (putR w mo (sset S 25 x.toInt.toNat z)) Q) := R_iast rfl (by decide) rfl rfl rfl
theorem wM_begin_101 : WP P 78 101 lo [] w Q ↔ Q none w := WP_ret rfl rfl
-- 79 M_ready
theorem wM_ready_0 : WP P 79 0 lo st w Q ↔ x_ga lo[0]? (fun v => WP P 79 1 lo (v :: st) w Q) := W_aload_n rfl rfl rfl
theorem wM_ready_1 : WP P 79 1 lo (.ref mo :: r) (putR w mo S) Q ↔ WP P 79 4 lo (.ref (ra mo 10) :: r) (putR w mo S) Q := R_get rfl rfl (by decide) rfl
theorem wM_ready_4 : WP P 79 4 lo st w Q ↔ x_gi lo[1]? (fun x => WP P 79 5 lo (.int x :: st) w Q) := W_iload_n rfl rfl rfl
theorem wM_ready_5 : WP P 79 5 lo st w Q ↔ WP P 79 6 lo (.int (xi 2) :: st) w Q := W_iconst rfl rfl rfl
theorem wM_ready_6 : WP P 79 6 lo (.int (xi z) :: .int x :: .ref (ra mo 10) :: r) (putR w mo S) Q ↔ ((0 ≤ x.toInt ∧ x.toInt < 16) ∧ WP P 79 7 lo r (putR w mo (sset S 10 x.toInt.toNat z)) Q) := R_iast rfl (by decide) rfl rfl rfl
theorem wM_ready_7 : WP P 79 7 lo st w Q ↔ x_ga lo[0]? (fun v => WP P 79 8 lo (v :: st) w Q) := W_aload_n rfl rfl rfl
theorem wM_ready_8 : WP P 79 8 lo (.ref mo :: r) (putR w mo S) Q ↔ WP P 79 11 lo (.ref (ra mo 14) :: r) (putR w mo S) Q := R_get rfl rfl (by decide) rfl
theorem wM_ready_11 : WP P 79 11 lo st w Q ↔ x_gi lo[1]? (fun x => WP P 79 12 lo (.int x :: st) w Q) := W_iload_n rfl rfl rfl
theorem wM_ready_12 : WP P 79 12 lo st w Q ↔ WP P 79 13 lo (.int (xi 3) :: st) w Q := W_iconst rfl rfl rfl
theorem wM_ready_13 : WP P 79 13 lo (.int (xi z) :: .int x :: .ref (ra mo 14) :: r) (putR w mo S) Q ↔ ((0 ≤ x.toInt ∧ x.toInt < 16) ∧ WP P 79 14 lo r (putR w mo (sset S 14 x.toInt.toNat z)) Q) := R_iast rfl (by decide) rfl rfl rfl
theorem wM_ready_14 : WP P 79 14 lo st w Q ↔ x_ga lo[0]? (fun v => WP P 79 15 lo (v :: st) w Q) := W_aload_n rfl rfl rfl
theorem wM_ready_15 : WP P 79 15 lo (v1 :: r) w Q ↔ (x_cat1 v1 = true ∧ WP P 79 16 lo (v1 :: v1 :: r) w Q) := W_dup rfl rfl
theorem wM_ready_16 : WP P 79 16 lo (.ref mo :: r) (putR w mo S) Q ↔ WP P 79 19 lo (.int (xi (S 28 0)) :: r) (putR w mo S) Q := R_getC rfl rfl rfl
theorem wM_ready_19 : WP P 79 19 lo st w Q ↔ WP P 79 20 lo (.int (xi 1) :: st) w Q := W_iconst rfl rfl rfl
theorem wM_ready_20 : WP P 79 20 lo (.int y :: .int x :: r) w Q ↔ WP P 79 21 lo (.int (x + y) :: r) w Q := W_iadd rfl rfl
theorem wM_ready_21 : WP P 79 21 lo (.int (xi z) :: .ref mo :: r) (putR w mo S) Q ↔ WP P 79 24 lo r (putR w mo (sset S 28 0 z)) Q := R_putC rfl rfl rfl
theorem wM_ready_24 : WP P 79 24 lo st w Q ↔ x_ga lo[0]? (fun v => WP P 79 25 lo (v :: st) w Q) := W_aload_n rfl rfl rfl
theorem wM_ready_25 : WP P 79 25 lo (.ref mo :: r) (putR w mo S) Q ↔ WP P 79 28 lo (.ref (ra mo 18) :: r) (putR w mo S) Q := R_get rfl rfl (by decide) rfl
theorem wM_ready_28 : WP P 79 28 lo st w Q ↔ x_gi lo[1]? (fun x => WP P 79 29 lo (.int x :: st) w Q) := W_iload_n rfl rfl rfl
theorem wM_ready_29 : WP P 79 29 lo st w Q ↔ x_ga lo[0]? (fun v => WP P 79 30 lo (v :: st) w Q) := W_aload_n rfl rfl rfl
theorem wM_ready_30 : WP P 79 30 lo (.ref mo :: r) (putR w mo S) Q ↔ WP P 79 33 lo (.int (xi (S 28 0)) :: r) (putR w mo S) Q := R_getC rfl rfl rfl
theorem wM_ready_33 : WP P 79 33 lo (.int (xi z) :: .int x :: .ref (ra mo 18) :: r) (putR w mo S) Q ↔ ((0 ≤ x.toInt ∧ x.toInt < 16) ∧ WP P 79 34 lo r (putR w mo (sset S 18 x.toInt.toNat z)) Q) := R_iast rfl (by decide) rfl rfl rfl
theorem wM_ready_34 : WP P 79 34 lo [] w Q ↔ Q none w := WP_ret rfl rfl
-- 80 M_retype
theorem wM_retype_0 : WP P 80 0 lo st w Q ↔ x_ga lo[0]? (fun v => WP P 80 1 lo (v :: st) w Q) := W_aload_n rfl rfl rfl
theorem wM_retype_1 (hr : r.length ≤ 8) (hc : ([] : List Value).all x_cat1 = true) (hc2 : r.all x_cat1 = true) (k : WP P 81 0 [some (.ref mo), none, none, none] [] (putR w mo S) (fun v w1 => WP P 80 4 lo (v.toList ++ r) w1 Q)) : WP P 80 1 lo (.ref mo :: r) (putR w mo S) Q := K_virt (as := []) rfl rfl rfl rfl (by decide) (by decide) rfl putR_tgM hr hc hc2 k
theorem wM_retype_4 : WP P 80 4 lo (.int x :: r) w Q ↔ (if x < xi 0 then WP P 80 7 lo r w Q else WP P 80 10 lo r w Q) := W_if_ge rfl rfl rfl
theorem wM_retype_7 : WP P 80 7 lo st w Q ↔ WP P 80 9 lo (.int (xi 8) :: st) w Q := W_bipush rfl rfl (by decide)
theorem wM_retype_9 : WP P 80 9 lo [.int x] w Q ↔ Q (some (.int x)) w := WP_ret rfl rfl
theorem wM_retype_10 : WP P 80 10 lo st w Q ↔ x_ga lo[0]? (fun v => WP P 80 11 lo (v :: st) w Q) := W_aload_n rfl rfl rfl
theorem wM_retype_11 : WP P 80 11 lo st w Q ↔ x_gi lo[1]? (fun x => WP P 80 12 lo (.int x :: st) w Q) := W_iload_n rfl rfl rfl
theorem wM_retype_12 : WP P 80 12 lo st w Q ↔ WP P 80 13 lo (.int (xi 0) :: st) w Q := W_iconst rfl rfl rfl
theorem wM_retype_13 {u1 u2 : Value} (hr : r.length ≤ 8) (hc : ([u1, u2] : List Value).all x_cat1 = true) (hc2 : r.all x_cat1 = true) (k : WP P 82 0 [some (.ref mo), some u1, some u2, none] [] (putR w mo S) (fun v w1 => WP P 80 16 lo (v.toList ++ r) w1 Q)) : WP P 80 13 lo (u2 :: u1 :: .ref mo :: r) (putR w mo S) Q := K_virt (as := [u1, u2]) rfl rfl rfl rfl (by decide) (by decide) rfl putR_tgM hr hc hc2 k
theorem wM_retype_16 : WP P 80 16 lo (.int x :: r) w Q ↔ (5 < lo.length ∧ WP P 80 18 (lo.set 5 (some (.int x))) r w Q) := W_istore rfl rfl
theorem wM_retype_18 : WP P 80 18 lo st w Q ↔ x_gi lo[5]? (fun x => WP P 80 20 lo (.int x :: st) w Q) := W_iload rfl rfl
theorem wM_retype_20 : WP P 80 20 lo (.int x :: r) w Q ↔ (if x < xi 0 then WP P 80 23 lo r w Q else WP P 80 25 lo r w Q) := W_if_ge rfl rfl rfl
theorem wM_retype_23 : WP P 80 23 lo st w Q ↔ WP P 80 24 lo (.int (xi 1) :: st) w Q := W_iconst rfl rfl rfl
theorem wM_retype_24 : WP P 80 24 lo [.int x] w Q ↔ Q (some (.int x)) w := WP_ret rfl rfl
theorem wM_retype_25 : WP P 80 25 lo st w Q ↔ x_gi lo[2]? (fun x => WP P 80 26 lo (.int x :: st) w Q) := W_iload_n rfl rfl rfl
theorem wM_retype_26 : WP P 80 26 lo (.int x :: r) w Q ↔ (if x < xi 0 then WP P 80 50 lo r w Q else WP P 80 29 lo r w Q) := W_if_lt rfl rfl rfl
theorem wM_retype_29 : WP P 80 29 lo st w Q ↔ x_gi lo[2]? (fun x => WP P 80 30 lo (.int x :: st) w Q) := W_iload_n rfl rfl rfl
theorem wM_retype_30 : WP P 80 30 lo st w Q ↔ WP P 80 32 lo (.int (xi 7) :: st) w Q := W_bipush rfl rfl (by decide)
theorem wM_retype_32 : WP P 80 32 lo (.int y :: .int x :: r) w Q ↔ (if y < x then WP P 80 50 lo r w Q else WP P 80 35 lo r w Q) := W_ic_gt rfl rfl rfl
theorem wM_retype_35 : WP P 80 35 lo st w Q ↔ x_gi lo[2]? (fun x => WP P 80 36 lo (.int x :: st) w Q) := W_iload_n rfl rfl rfl
theorem wM_retype_36 : WP P 80 36 lo (.int x :: r) w Q ↔ (if x = xi 0 then WP P 80 39 lo r w Q else WP P 80 52 lo r w Q) := W_if_ne rfl rfl rfl
theorem wM_retype_39 : WP P 80 39 lo st w Q ↔ x_gi lo[3]? (fun x => WP P 80 40 lo (.int x :: st) w Q) := W_iload_n rfl rfl rfl
theorem wM_retype_40 : WP P 80 40 lo st w Q ↔ WP P 80 41 lo (.int (xi 1) :: st) w Q := W_iconst rfl rfl rfl
theorem wM_retype_41 : WP P 80 41 lo (.int y :: .int x :: r) w Q ↔ (if x < y then WP P 80 50 lo r w Q else WP P 80 44 lo r w Q) := W_ic_lt rfl rfl rfl
theorem wM_retype_44 : WP P 80 44 lo st w Q ↔ x_gi lo[3]? (fun x => WP P 80 45 lo (.int x :: st) w Q) := W_iload_n rfl rfl rfl
theorem wM_retype_45 : WP P 80 45 lo st w Q ↔ WP P 80 47 lo (.int (xi 6) :: st) w Q := W_bipush rfl rfl (by decide)
theorem wM_retype_47 : WP P 80 47 lo (.int y :: .int x :: r) w Q ↔ (if y < x then WP P 80 50 lo r w Q else WP P 80 52 lo r w Q) := W_ic_le rfl rfl rfl
theorem wM_retype_50 : WP P 80 50 lo st w Q ↔ WP P 80 51 lo (.int (xi 4) :: st) w Q := W_iconst rfl rfl rfl
theorem wM_retype_51 : WP P 80 51 lo [.int x] w Q ↔ Q (some (.int x)) w := WP_ret rfl rfl
theorem wM_retype_52 : WP P 80 52 lo st w Q ↔ x_ga lo[0]? (fun v => WP P 80 53 lo (v :: st) w Q) := W_aload_n rfl rfl rfl
theorem wM_retype_53 : WP P 80 53 lo st w Q ↔ x_gi lo[4]? (fun x => WP P 80 55 lo (.int x :: st) w Q) := W_iload rfl rfl
theorem wM_retype_55 {u1 : Value} (hr : r.length ≤ 8) (hc : ([u1] : List Value).all x_cat1 = true) (hc2 : r.all x_cat1 = true) (k : WP P 84 0 [some (.ref mo), some u1, none] [] (putR w mo S) (fun v w1 => WP P 80 58 lo (v.toList ++ r) w1 Q)) : WP P 80 55 lo (u1 :: .ref mo :: r) (putR w mo S) Q := K_virt (as := [u1]) rfl rfl rfl rfl (by decide) (by decide) rfl putR_tgM hr hc hc2 k
theorem wM_retype_58 : WP P 80 58 lo (.int x :: r) w Q ↔ (6 < lo.length ∧ WP P 80 60 (lo.set 6 (some (.int x))) r w Q) := W_istore rfl rfl
theorem wM_retype_60 : WP P 80 60 lo st w Q ↔ x_gi lo[6]? (fun x => WP P 80 62 lo (.int x :: st) w Q) := W_iload rfl rfl
theorem wM_retype_62 : WP P 80 62 lo (.int x :: r) w Q ↔ (if x < xi 0 then WP P 80 65 lo r w Q else WP P 80 67 lo r w Q) := W_if_ge rfl rfl rfl
theorem wM_retype_65 : WP P 80 65 lo st w Q ↔ WP P 80 66 lo (.int (xi 3) :: st) w Q := W_iconst rfl rfl rfl
theorem wM_retype_66 : WP P 80 66 lo [.int x] w Q ↔ Q (some (.int x)) w := WP_ret rfl rfl
theorem wM_retype_67 : WP P 80 67 lo st w Q ↔ x_gi lo[2]? (fun x => WP P 80 68 lo (.int x :: st) w Q) := W_iload_n rfl rfl rfl
theorem wM_retype_68 : WP P 80 68 lo st w Q ↔ x_gi lo[3]? (fun x => WP P 80 69 lo (.int x :: st) w Q) := W_iload_n rfl rfl rfl
theorem wM_retype_69 {u1 u2 : Value} (hr : r.length ≤ 8) (hc : ([u1, u2] : List Value).all x_cat1 = true) (hc2 : r.all x_cat1 = true) (k : WP P 85 0 [some u1, some u2] [] w (fun v w1 => WP P 80 72 lo (v.toList ++ r) w1 Q)) : WP P 80 69 lo (u2 :: u1 :: r) w Q := K_stat (as := [u1, u2]) rfl rfl rfl rfl (by decide) (by decide) rfl hr hc hc2 k
theorem wM_retype_72 : WP P 80 72 lo (.int x :: r) w Q ↔ (7 < lo.length ∧ WP P 80 74 (lo.set 7 (some (.int x))) r w Q) := W_istore rfl rfl
theorem wM_retype_74 : WP P 80 74 lo st w Q ↔ x_ga lo[0]? (fun v => WP P 80 75 lo (v :: st) w Q) := W_aload_n rfl rfl rfl
theorem wM_retype_75 : WP P 80 75 lo st w Q ↔ x_gi lo[5]? (fun x => WP P 80 77 lo (.int x :: st) w Q) := W_iload rfl rfl
theorem wM_retype_77 {u1 : Value} (hr : r.length ≤ 8) (hc : ([u1] : List Value).all x_cat1 = true) (hc2 : r.all x_cat1 = true) (k : WP P 86 0 [some (.ref mo), some u1] [] (putR w mo S) (fun v w1 => WP P 80 80 lo (v.toList ++ r) w1 Q)) : WP P 80 77 lo (u1 :: .ref mo :: r) (putR w mo S) Q := K_virt (as := [u1]) rfl rfl rfl rfl (by decide) (by decide) rfl putR_tgM hr hc hc2 k
theorem wM_retype_80 : WP P 80 80 lo st w Q ↔ x_gi lo[7]? (fun x => WP P 80 82 lo (.int x :: st) w Q) := W_iload rfl rfl
theorem wM_retype_82 : WP P 80 82 lo (.int y :: .int x :: r) w Q ↔ WP P 80 83 lo (.int (x + y) :: r) w Q := W_iadd rfl rfl
theorem wM_retype_83 : WP P 80 83 lo st w Q ↔ WP P 80 84 lo (.int (xi 1) :: st) w Q := W_iconst rfl rfl rfl
theorem wM_retype_84 : WP P 80 84 lo (.int y :: .int x :: r) w Q ↔ WP P 80 85 lo (.int (x - y) :: r) w Q := W_isub rfl rfl
theorem wM_retype_85 : WP P 80 85 lo st w Q ↔ x_gi lo[7]? (fun x => WP P 80 87 lo (.int x :: st) w Q) := W_iload rfl rfl
theorem wM_retype_87 : WP P 80 87 lo (.int y :: .int x :: r) w Q ↔ (¬ y = 0 ∧ WP P 80 88 lo (.int (x / y) :: r) w Q) := W_idiv rfl rfl
theorem wM_retype_88 : WP P 80 88 lo st w Q ↔ x_gi lo[7]? (fun x => WP P 80 90 lo (.int x :: st) w Q) := W_iload rfl rfl
theorem wM_retype_90 : WP P 80 90 lo (.int y :: .int x :: r) w Q ↔ WP P 80 91 lo (.int (x * y) :: r) w Q := W_imul rfl rfl
theorem wM_retype_91 : WP P 80 91 lo (.int x :: r) w Q ↔ (8 < lo.length ∧ WP P 80 93 (lo.set 8 (some (.int x))) r w Q) := W_istore rfl rfl
theorem wM_retype_93 : WP P 80 93 lo st w Q ↔ x_gi lo[8]? (fun x => WP P 80 95 lo (.int x :: st) w Q) := W_iload rfl rfl
theorem wM_retype_95 : WP P 80 95 lo st w Q ↔ x_gi lo[7]? (fun x => WP P 80 97 lo (.int x :: st) w Q) := W_iload rfl rfl
theorem wM_retype_97 : WP P 80 97 lo (.int y :: .int x :: r) w Q ↔ WP P 80 98 lo (.int (x + y) :: r) w Q := W_iadd rfl rfl
theorem wM_retype_98 : WP P 80 98 lo st w Q ↔ x_ga lo[0]? (fun v => WP P 80 99 lo (v :: st) w Q) := W_aload_n rfl rfl rfl
theorem wM_retype_99 : WP P 80 99 lo (.ref mo :: r) (putR w mo S) Q ↔ WP P 80 102 lo (.ref (ra mo 1) :: r) (putR w mo S) Q := R_get rfl rfl (by decide) rfl
theorem wM_retype_102 : WP P 80 102 lo st w Q ↔ x_gi lo[5]? (fun x => WP P 80 104 lo (.int x :: st) w Q) := W_iload rfl rfl
theorem wM_retype_104 : WP P 80 104 lo (.int x :: .ref (ra mo 1) :: r) (putR w mo S) Q ↔ ((0 ≤ x.toInt ∧ x.toInt < 128) ∧ WP P 80 105 lo (.int (xi (S 1 x.toInt.toNat)) :: r) (putR w mo S) Q) := R_iald rfl (by decide) rfl rfl rfl
theorem wM_retype_105 : WP P 80 105 lo st w Q ↔ WP P 80 106 lo (.int (xi 0) :: st) w Q := W_iconst rfl rfl rfl
theorem wM_retype_106 : WP P 80 106 lo st w Q ↔ x_ga lo[0]? (fun v => WP P 80 107 lo (v :: st) w Q) := W_aload_n rfl rfl rfl
theorem wM_retype_107 : WP P 80 107 lo (.ref mo :: r) (putR w mo S) Q ↔ WP P 80 110 lo (.ref (ra mo 5) :: r) (putR w mo S) Q := R_get rfl rfl (by decide) rfl
theorem wM_retype_110 : WP P 80 110 lo st w Q ↔ x_gi lo[5]? (fun x => WP P 80 112 lo (.int x :: st) w Q) := W_iload rfl rfl
theorem wM_retype_112 : WP P 80 112 lo (.int x :: .ref (ra mo 5) :: r) (putR w mo S) Q ↔ ((0 ≤ x.toInt ∧ x.toInt < 128) ∧ WP P 80 113 lo (.int (xi (S 5 x.toInt.toNat)) :: r) (putR w mo S) Q) := R_iald rfl (by decide) rfl rfl rfl
theorem wM_retype_113 {u1 u2 : Value} (hr : r.length ≤ 8) (hc : ([u1, u2] : List Value).all x_cat1 = true) (hc2 : r.all x_cat1 = true) (k : WP P 85 0 [some u1, some u2] [] w (fun v w1 => WP P 80 116 lo (v.toList ++ r) w1 Q)) : WP P 80 113 lo (u2 :: u1 :: r) w Q := K_stat (as := [u1, u2]) rfl rfl rfl rfl (by decide) (by decide) rfl hr hc hc2 k
theorem wM_retype_116 : WP P 80 116 lo (.int y :: .int x :: r) w Q ↔ WP P 80 117 lo (.int (x + y) :: r) w Q := W_iadd rfl rfl
theorem wM_retype_117 : WP P 80 117 lo (.int y :: .int x :: r) w Q ↔ (if y < x then WP P 80 120 lo r w Q else WP P 80 122 lo r w Q) := W_ic_le rfl rfl rfl
theorem wM_retype_120 : WP P 80 120 lo st w Q ↔ WP P 80 121 lo (.int (xi 5) :: st) w Q := W_iconst rfl rfl rfl
theorem wM_retype_121 : WP P 80 121 lo [.int x] w Q ↔ Q (some (.int x)) w := WP_ret rfl rfl
theorem wM_retype_122 : WP P 80 122 lo st w Q ↔ x_ga lo[0]? (fun v => WP P 80 123 lo (v :: st) w Q) := W_aload_n rfl rfl rfl
theorem wM_retype_123 : WP P 80 123 lo (.ref mo :: r) (putR w mo S) Q ↔ WP P 80 126 lo (.ref (ra mo 6) :: r) (putR w mo S) Q := R_get rfl rfl (by decide) rfl
theorem wM_retype_126 : WP P 80 126 lo st w Q ↔ x_gi lo[5]? (fun x => WP P 80 128 lo (.int x :: st) w Q) := W_iload rfl rfl
theorem wM_retype_128 : WP P 80 128 lo st w Q ↔ x_gi lo[8]? (fun x => WP P 80 130 lo (.int x :: st) w Q) := W_iload rfl rfl
theorem wM_retype_130 : WP P 80 130 lo st w Q ↔ x_gi lo[7]? (fun x => WP P 80 132 lo (.int x :: st) w Q) := W_iload rfl rfl
theorem wM_retype_132 : WP P 80 132 lo (.int y :: .int x :: r) w Q ↔ WP P 80 133 lo (.int (x + y) :: r) w Q := W_iadd rfl rfl
theorem wM_retype_133 : WP P 80 133 lo (.int (xi z) :: .int x :: .ref (ra mo 6) :: r) (putR w mo S) Q ↔ ((0 ≤ x.toInt ∧ x.toInt < 128) ∧ WP P 80 134 lo r (putR w mo (sset S 6 x.toInt.toNat z)) Q) := R_iast rfl (by decide) rfl rfl rfl
theorem wM_retype_134 : WP P 80 134 lo st w Q ↔ x_ga lo[0]? (fun v => WP P 80 135 lo (v :: st) w Q) := W_aload_n rfl rfl rfl
theorem wM_retype_135 : WP P 80 135 lo st w Q ↔ x_gi lo[6]? (fun x => WP P 80 137 lo (.int x :: st) w Q) := W_iload rfl rfl
theorem wM_retype_137 : WP P 80 137 lo st w Q ↔ x_gi lo[2]? (fun x => WP P 80 138 lo (.int x :: st) w Q) := W_iload_n rfl rfl rfl
theorem wM_retype_138 : WP P 80 138 lo st w Q ↔ x_gi lo[8]? (fun x => WP P 80 140 lo (.int x :: st) w Q) := W_iload rfl rfl
theorem wM_retype_140 : WP P 80 140 lo st w Q ↔ x_gi lo[3]? (fun x => WP P 80 141 lo (.int x :: st) w Q) := W_iload_n rfl rfl rfl
theorem wM_retype_141 : WP P 80 141 lo st w Q ↔ x_gi lo[5]? (fun x => WP P 80 143 lo (.int x :: st) w Q) := W_iload rfl rfl
theorem wM_retype_143 {u1 u2 u3 u4 u5 : Value} (hr : r.length ≤ 8) (hc : ([u1, u2, u3, u4, u5] : List Value).all x_cat1 = true) (hc2 : r.all x_cat1 = true) (k : WP P 77 0 [some (.ref mo), some u1, some u2, some u3, some u4, some u5] [] (putR w mo S) (fun v w1 => WP P 80 146 lo (v.toList ++ r) w1 Q)) : WP P 80 143 lo (u5 :: u4 :: u3 :: u2 :: u1 :: .ref mo :: r) (putR w mo S) Q := K_virt (as := [u1, u2, u3, u4, u5]) rfl rfl rfl rfl (by decide) (by decide) rfl putR_tgM hr hc hc2 k
theorem wM_retype_146 : WP P 80 146 lo st w Q ↔ x_ga lo[0]? (fun v => WP P 80 147 lo (v :: st) w Q) := W_aload_n rfl rfl rfl
theorem wM_retype_147 : WP P 80 147 lo st w Q ↔ x_gi lo[2]? (fun x => WP P 80 148 lo (.int x :: st) w Q) := W_iload_n rfl rfl rfl
theorem wM_retype_148 : WP P 80 148 lo st w Q ↔ x_gi lo[8]? (fun x => WP P 80 150 lo (.int x :: st) w Q) := W_iload rfl rfl
theorem wM_retype_150 {u1 u2 : Value} (hr : r.length ≤ 8) (hc : ([u1, u2] : List Value).all x_cat1 = true) (hc2 : r.all x_cat1 = true) (k : WP P 78 0 [some (.ref mo), some u1, some u2, none] [] (putR w mo S) (fun v w1 => WP P 80 153 lo (v.toList ++ r) w1 Q)) : WP P 80 150 lo (u2 :: u1 :: .ref mo :: r) (putR w mo S) Q := K_virt (as := [u1, u2]) rfl rfl rfl rfl (by decide) (by decide) rfl putR_tgM hr hc hc2 k
theorem wM_retype_153 : WP P 80 153 lo st w Q ↔ WP P 80 154 lo (.int (xi 0) :: st) w Q := W_iconst rfl rfl rfl
theorem wM_retype_154 : WP P 80 154 lo [.int x] w Q ↔ Q (some (.int x)) w := WP_ret rfl rfl
-- 81 M_now
theorem wM_now_0 : WP P 81 0 lo st w Q ↔ WP P 81 1 lo (.int (xi (-1)) :: st) w Q := W_iconst rfl rfl rfl
theorem wM_now_1 : WP P 81 1 lo (.int x :: r) w Q ↔ (1 < lo.length ∧ WP P 81 2 (lo.set 1 (some (.int x))) r w Q) := W_istore_n rfl rfl rfl
theorem wM_now_2 : WP P 81 2 lo st w Q ↔ WP P 81 3 lo (.int (xi 0) :: st) w Q := W_iconst rfl rfl rfl
theorem wM_now_3 : WP P 81 3 lo (.int x :: r) w Q ↔ (2 < lo.length ∧ WP P 81 4 (lo.set 2 (some (.int x))) r w Q) := W_istore_n rfl rfl rfl
theorem wM_now_4 : WP P 81 4 lo st w Q ↔ x_gi lo[2]? (fun x => WP P 81 5 lo (.int x :: st) w Q) := W_iload_n rfl rfl rfl
theorem wM_now_5 : WP P 81 5 lo st w Q ↔ WP P 81 7 lo (.int (xi 16) :: st) w Q := W_bipush rfl rfl (by decide)
theorem wM_now_7 : WP P 81 7 lo (.int y :: .int x :: r) w Q ↔ (if x < y then WP P 81 10 lo r w Q else WP P 81 87 lo r w Q) := W_ic_ge rfl rfl rfl
theorem wM_now_10 : WP P 81 10 lo st w Q ↔ x_gi lo[1]? (fun x => WP P 81 11 lo (.int x :: st) w Q) := W_iload_n rfl rfl rfl
theorem wM_now_11 : WP P 81 11 lo (.int x :: r) w Q ↔ (if x < xi 0 then WP P 81 59 lo r w Q else WP P 81 14 lo r w Q) := W_if_lt rfl rfl rfl
theorem wM_now_14 : WP P 81 14 lo st w Q ↔ x_ga lo[0]? (fun v => WP P 81 15 lo (v :: st) w Q) := W_aload_n rfl rfl rfl
theorem wM_now_15 : WP P 81 15 lo (.ref mo :: r) (putR w mo S) Q ↔ WP P 81 18 lo (.ref (ra mo 13) :: r) (putR w mo S) Q := R_get rfl rfl (by decide) rfl
theorem wM_now_18 : WP P 81 18 lo st w Q ↔ x_gi lo[2]? (fun x => WP P 81 19 lo (.int x :: st) w Q) := W_iload_n rfl rfl rfl
theorem wM_now_19 : WP P 81 19 lo (.int x :: .ref (ra mo 13) :: r) (putR w mo S) Q ↔ ((0 ≤ x.toInt ∧ x.toInt < 16) ∧ WP P 81 20 lo (.int (xi (S 13 x.toInt.toNat)) :: r) (putR w mo S) Q) := R_iald rfl (by decide) rfl rfl rfl
theorem wM_now_20 : WP P 81 20 lo st w Q ↔ x_ga lo[0]? (fun v => WP P 81 21 lo (v :: st) w Q) := W_aload_n rfl rfl rfl
theorem wM_now_21 : WP P 81 21 lo (.ref mo :: r) (putR w mo S) Q ↔ WP P 81 24 lo (.ref (ra mo 13) :: r) (putR w mo S) Q := R_get rfl rfl (by decide) rfl
theorem wM_now_24 : WP P 81 24 lo st w Q ↔ x_gi lo[1]? (fun x => WP P 81 25 lo (.int x :: st) w Q) := W_iload_n rfl rfl rfl
theorem wM_now_25 : WP P 81 25 lo (.int x :: .ref (ra mo 13) :: r) (putR w mo S) Q ↔ ((0 ≤ x.toInt ∧ x.toInt < 16) ∧ WP P 81 26 lo (.int (xi (S 13 x.toInt.toNat)) :: r) (putR w mo S) Q) := R_iald rfl (by decide) rfl rfl rfl
theorem wM_now_26 : WP P 81 26 lo (.int y :: .int x :: r) w Q ↔ (if y < x then WP P 81 59 lo r w Q else WP P 81 29 lo r w Q) := W_ic_gt rfl rfl rfl
theorem wM_now_29 : WP P 81 29 lo st w Q ↔ x_ga lo[0]? (fun v => WP P 81 30 lo (v :: st) w Q) := W_aload_n rfl rfl rfl
theorem wM_now_30 : WP P 81 30 lo (.ref mo :: r) (putR w mo S) Q ↔ WP P 81 33 lo (.ref (ra mo 13) :: r) (putR w mo S) Q := R_get rfl rfl (by decide) rfl
theorem wM_now_33 : WP P 81 33 lo st w Q ↔ x_gi lo[2]? (fun x => WP P 81 34 lo (.int x :: st) w Q) := W_iload_n rfl rfl rfl
theorem wM_now_34 : WP P 81 34 lo (.int x :: .ref (ra mo 13) :: r) (putR w mo S) Q ↔ ((0 ≤ x.toInt ∧ x.toInt < 16) ∧ WP P 81 35 lo (.int (xi (S 13 x.toInt.toNat)) :: r) (putR w mo S) Q) := R_iald rfl (by decide) rfl rfl rfl
theorem wM_now_35 : WP P 81 35 lo st w Q ↔ x_ga lo[0]? (fun v => WP P 81 36 lo (v :: st) w Q) := W_aload_n rfl rfl rfl
theorem wM_now_36 : WP P 81 36 lo (.ref mo :: r) (putR w mo S) Q ↔ WP P 81 39 lo (.ref (ra mo 13) :: r) (putR w mo S) Q := R_get rfl rfl (by decide) rfl
theorem wM_now_39 : WP P 81 39 lo st w Q ↔ x_gi lo[1]? (fun x => WP P 81 40 lo (.int x :: st) w Q) := W_iload_n rfl rfl rfl
theorem wM_now_40 : WP P 81 40 lo (.int x :: .ref (ra mo 13) :: r) (putR w mo S) Q ↔ ((0 ≤ x.toInt ∧ x.toInt < 16) ∧ WP P 81 41 lo (.int (xi (S 13 x.toInt.toNat)) :: r) (putR w mo S) Q) := R_iald rfl (by decide) rfl rfl rfl
theorem wM_now_41 : WP P 81 41 lo (.int y :: .int x :: r) w Q ↔ (if x = y then WP P 81 44 lo r w Q else WP P 81 63 lo r w Q) := W_ic_ne rfl rfl rfl
theorem wM_now_44 : WP P 81 44 lo st w Q ↔ x_ga lo[0]? (fun v => WP P 81 45 lo (v :: st) w Q) := W_aload_n rfl rfl rfl
theorem wM_now_45 : WP P 81 45 lo (.ref mo :: r) (putR w mo S) Q ↔ WP P 81 48 lo (.ref (ra mo 18) :: r) (putR w mo S) Q := R_get rfl rfl (by decide) rfl
theorem wM_now_48 : WP P 81 48 lo st w Q ↔ x_gi lo[2]? (fun x => WP P 81 49 lo (.int x :: st) w Q) := W_iload_n rfl rfl rfl
theorem wM_now_49 : WP P 81 49 lo (.int x :: .ref (ra mo 18) :: r) (putR w mo S) Q ↔ ((0 ≤ x.toInt ∧ x.toInt < 16) ∧ WP P 81 50 lo (.int (xi (S 18 x.toInt.toNat)) :: r) (putR w mo S) Q) := R_iald rfl (by decide) rfl rfl rfl
theorem wM_now_50 : WP P 81 50 lo st w Q ↔ x_ga lo[0]? (fun v => WP P 81 51 lo (v :: st) w Q) := W_aload_n rfl rfl rfl
theorem wM_now_51 : WP P 81 51 lo (.ref mo :: r) (putR w mo S) Q ↔ WP P 81 54 lo (.ref (ra mo 18) :: r) (putR w mo S) Q := R_get rfl rfl (by decide) rfl
theorem wM_now_54 : WP P 81 54 lo st w Q ↔ x_gi lo[1]? (fun x => WP P 81 55 lo (.int x :: st) w Q) := W_iload_n rfl rfl rfl
theorem wM_now_55 : WP P 81 55 lo (.int x :: .ref (ra mo 18) :: r) (putR w mo S) Q ↔ ((0 ≤ x.toInt ∧ x.toInt < 16) ∧ WP P 81 56 lo (.int (xi (S 18 x.toInt.toNat)) :: r) (putR w mo S) Q) := R_iald rfl (by decide) rfl rfl rfl
theorem wM_now_56 : WP P 81 56 lo (.int y :: .int x :: r) w Q ↔ (if x < y then WP P 81 59 lo r w Q else WP P 81 63 lo r w Q) := W_ic_ge rfl rfl rfl
theorem wM_now_59 : WP P 81 59 lo st w Q ↔ WP P 81 60 lo (.int (xi 1) :: st) w Q := W_iconst rfl rfl rfl
theorem wM_now_60 : WP P 81 60 lo st w Q ↔ WP P 81 64 lo st w Q := W_goto rfl rfl
theorem wM_now_63 : WP P 81 63 lo st w Q ↔ WP P 81 64 lo (.int (xi 0) :: st) w Q := W_iconst rfl rfl rfl
theorem wM_now_64 : WP P 81 64 lo (.int x :: r) w Q ↔ (3 < lo.length ∧ WP P 81 65 (lo.set 3 (some (.int x))) r w Q) := W_istore_n rfl rfl rfl
theorem wM_now_65 : WP P 81 65 lo st w Q ↔ x_ga lo[0]? (fun v => WP P 81 66 lo (v :: st) w Q) := W_aload_n rfl rfl rfl
theorem wM_now_66 : WP P 81 66 lo (.ref mo :: r) (putR w mo S) Q ↔ WP P 81 69 lo (.ref (ra mo 10) :: r) (putR w mo S) Q := R_get rfl rfl (by decide) rfl
theorem wM_now_69 : WP P 81 69 lo st w Q ↔ x_gi lo[2]? (fun x => WP P 81 70 lo (.int x :: st) w Q) := W_iload_n rfl rfl rfl
theorem wM_now_70 : WP P 81 70 lo (.int x :: .ref (ra mo 10) :: r) (putR w mo S) Q ↔ ((0 ≤ x.toInt ∧ x.toInt < 16) ∧ WP P 81 71 lo (.int (xi (S 10 x.toInt.toNat)) :: r) (putR w mo S) Q) := R_iald rfl (by decide) rfl rfl rfl
theorem wM_now_71 : WP P 81 71 lo st w Q ↔ WP P 81 72 lo (.int (xi 2) :: st) w Q := W_iconst rfl rfl rfl
theorem wM_now_72 : WP P 81 72 lo (.int y :: .int x :: r) w Q ↔ (if x = y then WP P 81 75 lo r w Q else WP P 81 81 lo r w Q) := W_ic_ne rfl rfl rfl
theorem wM_now_75 : WP P 81 75 lo st w Q ↔ x_gi lo[3]? (fun x => WP P 81 76 lo (.int x :: st) w Q) := W_iload_n rfl rfl rfl
theorem wM_now_76 : WP P 81 76 lo (.int x :: r) w Q ↔ (if x = xi 0 then WP P 81 81 lo r w Q else WP P 81 79 lo r w Q) := W_if_eq rfl rfl rfl
theorem wM_now_79 : WP P 81 79 lo st w Q ↔ x_gi lo[2]? (fun x => WP P 81 80 lo (.int x :: st) w Q) := W_iload_n rfl rfl rfl
theorem wM_now_80 : WP P 81 80 lo (.int x :: r) w Q ↔ (1 < lo.length ∧ WP P 81 81 (lo.set 1 (some (.int x))) r w Q) := W_istore_n rfl rfl rfl
theorem wM_now_81 : WP P 81 81 lo st w Q ↔ x_gi lo[2]? (fun x => WP P 81 84 (lo.set 2 (some (.int (x + xi 1)))) st w Q) := W_iinc rfl rfl
theorem wM_now_84 : WP P 81 84 lo st w Q ↔ WP P 81 4 lo st w Q := W_goto rfl rfl
theorem wM_now_87 : WP P 81 87 lo st w Q ↔ x_gi lo[1]? (fun x => WP P 81 88 lo (.int x :: st) w Q) := W_iload_n rfl rfl rfl
theorem wM_now_88 : WP P 81 88 lo [.int x] w Q ↔ Q (some (.int x)) w := WP_ret rfl rfl
-- 82 M_having
theorem wM_having_0 : WP P 82 0 lo st w Q ↔ x_ga lo[0]? (fun v => WP P 82 1 lo (v :: st) w Q) := W_aload_n rfl rfl rfl
theorem wM_having_1 : WP P 82 1 lo st w Q ↔ x_ga lo[0]? (fun v => WP P 82 2 lo (v :: st) w Q) := W_aload_n rfl rfl rfl
theorem wM_having_2 (hr : r.length ≤ 8) (hc : ([] : List Value).all x_cat1 = true) (hc2 : r.all x_cat1 = true) (k : WP P 81 0 [some (.ref mo), none, none, none] [] (putR w mo S) (fun v w1 => WP P 82 5 lo (v.toList ++ r) w1 Q)) : WP P 82 2 lo (.ref mo :: r) (putR w mo S) Q := K_virt (as := []) rfl rfl rfl rfl (by decide) (by decide) rfl putR_tgM hr hc hc2 k
theorem wM_having_5 : WP P 82 5 lo st w Q ↔ x_gi lo[1]? (fun x => WP P 82 6 lo (.int x :: st) w Q) := W_iload_n rfl rfl rfl
theorem wM_having_6 {u1 u2 : Value} (hr : r.length ≤ 8) (hc : ([u1, u2] : List Value).all x_cat1 = true) (hc2 : r.all x_cat1 = true) (k : WP P 83 0 [some (.ref mo), some u1, some u2, none] [] (putR w mo S) (fun v w1 => WP P 82 9 lo (v.toList ++ r) w1 Q)) : WP P 82 6 lo (u2 :: u1 :: .ref mo :: r) (putR w mo S) Q := K_virt (as := [u1, u2]) rfl rfl rfl rfl (by decide) (by decide) rfl putR_tgM hr hc hc2 k
theorem wM_having_9 : WP P 82 9 lo (.int x :: r) w Q ↔ (3 < lo.length ∧ WP P 82 10 (lo.set 3 (some (.int x))) r w Q) := W_istore_n rfl rfl rfl
theorem wM_having_10 : WP P 82 10 lo st w Q ↔ x_gi lo[3]? (fun x => WP P 82 11 lo (.int x :: st) w Q) := W_iload_n rfl rfl rfl
theorem wM_having_11 : WP P 82 11 lo (.int x :: r) w Q ↔ (if x < xi 0 then WP P 82 37 lo r w Q else WP P 82 14 lo r w Q) := W_if_lt rfl rfl rfl
theorem wM_having_14 : WP P 82 14 lo st w Q ↔ x_ga lo[0]? (fun v => WP P 82 15 lo (v :: st) w Q) := W_aload_n rfl rfl rfl
theorem wM_having_15 : WP P 82 15 lo (.ref mo :: r) (putR w mo S) Q ↔ WP P 82 18 lo (.ref (ra mo 0) :: r) (putR w mo S) Q := R_get rfl rfl (by decide) rfl
theorem wM_having_18 : WP P 82 18 lo st w Q ↔ x_gi lo[3]? (fun x => WP P 82 19 lo (.int x :: st) w Q) := W_iload_n rfl rfl rfl
theorem wM_having_19 : WP P 82 19 lo (.int x :: .ref (ra mo 0) :: r) (putR w mo S) Q ↔ ((0 ≤ x.toInt ∧ x.toInt < 128) ∧ WP P 82 20 lo (.int (xi (S 0 x.toInt.toNat)) :: r) (putR w mo S) Q) := R_iald rfl (by decide) rfl rfl rfl
theorem wM_having_20 : WP P 82 20 lo (.int x :: r) w Q ↔ (if x < xi 0 then WP P 82 37 lo r w Q else WP P 82 23 lo r w Q) := W_if_lt rfl rfl rfl
theorem wM_having_23 : WP P 82 23 lo st w Q ↔ x_gi lo[2]? (fun x => WP P 82 24 lo (.int x :: st) w Q) := W_iload_n rfl rfl rfl
theorem wM_having_24 : WP P 82 24 lo (.int x :: r) w Q ↔ (if x < xi 0 then WP P 82 41 lo r w Q else WP P 82 27 lo r w Q) := W_if_lt rfl rfl rfl
theorem wM_having_27 : WP P 82 27 lo st w Q ↔ x_ga lo[0]? (fun v => WP P 82 28 lo (v :: st) w Q) := W_aload_n rfl rfl rfl
theorem wM_having_28 : WP P 82 28 lo (.ref mo :: r) (putR w mo S) Q ↔ WP P 82 31 lo (.ref (ra mo 0) :: r) (putR w mo S) Q := R_get rfl rfl (by decide) rfl
theorem wM_having_31 : WP P 82 31 lo st w Q ↔ x_gi lo[3]? (fun x => WP P 82 32 lo (.int x :: st) w Q) := W_iload_n rfl rfl rfl
theorem wM_having_32 : WP P 82 32 lo (.int x :: .ref (ra mo 0) :: r) (putR w mo S) Q ↔ ((0 ≤ x.toInt ∧ x.toInt < 128) ∧ WP P 82 33 lo (.int (xi (S 0 x.toInt.toNat)) :: r) (putR w mo S) Q) := R_iald rfl (by decide) rfl rfl rfl
theorem wM_having_33 : WP P 82 33 lo st w Q ↔ x_gi lo[2]? (fun x => WP P 82 34 lo (.int x :: st) w Q) := W_iload_n rfl rfl rfl
theorem wM_having_34 : WP P 82 34 lo (.int y :: .int x :: r) w Q ↔ (if x = y then WP P 82 41 lo r w Q else WP P 82 37 lo r w Q) := W_ic_eq rfl rfl rfl
theorem wM_having_37 : WP P 82 37 lo st w Q ↔ WP P 82 38 lo (.int (xi (-1)) :: st) w Q := W_iconst rfl rfl rfl
theorem wM_having_38 : WP P 82 38 lo st w Q ↔ WP P 82 42 lo st w Q := W_goto rfl rfl
theorem wM_having_41 : WP P 82 41 lo st w Q ↔ x_gi lo[3]? (fun x => WP P 82 42 lo (.int x :: st) w Q) := W_iload_n rfl rfl rfl
theorem wM_having_42 : WP P 82 42 lo [.int x] w Q ↔ Q (some (.int x)) w := WP_ret rfl rfl
-- 83 M_find
theorem wM_find_0 : WP P 83 0 lo st w Q ↔ x_ga lo[0]? (fun v => WP P 83 1 lo (v :: st) w Q) := W_aload_n rfl rfl rfl
theorem wM_find_1 : WP P 83 1 lo (.ref mo :: r) (putR w mo S) Q ↔ WP P 83 4 lo (.ref (ra mo 11) :: r) (putR w mo S) Q := R_get rfl rfl (by decide) rfl
theorem wM_find_4 : WP P 83 4 lo st w Q ↔ x_gi lo[1]? (fun x => WP P 83 5 lo (.int x :: st) w Q) := W_iload_n rfl rfl rfl
theorem wM_find_5 : WP P 83 5 lo (.int x :: .ref (ra mo 11) :: r) (putR w mo S) Q ↔ ((0 ≤ x.toInt ∧ x.toInt < 16) ∧ WP P 83 6 lo (.int (xi (S 11 x.toInt.toNat)) :: r) (putR w mo S) Q) := R_iald rfl (by decide) rfl rfl rfl
theorem wM_find_6 : WP P 83 6 lo st w Q ↔ WP P 83 7 lo (.int (xi (-1)) :: st) w Q := W_iconst rfl rfl rfl
theorem wM_find_7 : WP P 83 7 lo (.int y :: .int x :: r) w Q ↔ (if x = y then WP P 83 21 lo r w Q else WP P 83 10 lo r w Q) := W_ic_eq rfl rfl rfl
theorem wM_find_10 : WP P 83 10 lo st w Q ↔ x_gi lo[2]? (fun x => WP P 83 11 lo (.int x :: st) w Q) := W_iload_n rfl rfl rfl
theorem wM_find_11 : WP P 83 11 lo (.int x :: r) w Q ↔ (if x < xi 0 then WP P 83 21 lo r w Q else WP P 83 14 lo r w Q) := W_if_lt rfl rfl rfl
theorem wM_find_14 : WP P 83 14 lo st w Q ↔ x_gi lo[2]? (fun x => WP P 83 15 lo (.int x :: st) w Q) := W_iload_n rfl rfl rfl
theorem wM_find_15 : WP P 83 15 lo st w Q ↔ WP P 83 18 lo (.int (xi 271) :: st) w Q := W_sipush rfl rfl (by decide)
theorem wM_find_18 : WP P 83 18 lo (.int y :: .int x :: r) w Q ↔ (if y < x then WP P 83 21 lo r w Q else WP P 83 23 lo r w Q) := W_ic_le rfl rfl rfl
theorem wM_find_21 : WP P 83 21 lo st w Q ↔ WP P 83 22 lo (.int (xi (-1)) :: st) w Q := W_iconst rfl rfl rfl
theorem wM_find_22 : WP P 83 22 lo [.int x] w Q ↔ Q (some (.int x)) w := WP_ret rfl rfl
theorem wM_find_23 : WP P 83 23 lo st w Q ↔ x_gi lo[2]? (fun x => WP P 83 24 lo (.int x :: st) w Q) := W_iload_n rfl rfl rfl
theorem wM_find_24 : WP P 83 24 lo st w Q ↔ WP P 83 26 lo (.int (xi 16) :: st) w Q := W_bipush rfl rfl (by decide)
theorem wM_find_26 : WP P 83 26 lo (.int y :: .int x :: r) w Q ↔ (if x < y then WP P 83 29 lo r w Q else WP P 83 38 lo r w Q) := W_ic_ge rfl rfl rfl
theorem wM_find_29 : WP P 83 29 lo st w Q ↔ x_ga lo[0]? (fun v => WP P 83 30 lo (v :: st) w Q) := W_aload_n rfl rfl rfl
theorem wM_find_30 : WP P 83 30 lo (.ref mo :: r) (putR w mo S) Q ↔ WP P 83 33 lo (.ref (ra mo 11) :: r) (putR w mo S) Q := R_get rfl rfl (by decide) rfl
theorem wM_find_33 : WP P 83 33 lo st w Q ↔ x_gi lo[1]? (fun x => WP P 83 34 lo (.int x :: st) w Q) := W_iload_n rfl rfl rfl
theorem wM_find_34 : WP P 83 34 lo (.int x :: .ref (ra mo 11) :: r) (putR w mo S) Q ↔ ((0 ≤ x.toInt ∧ x.toInt < 16) ∧ WP P 83 35 lo (.int (xi (S 11 x.toInt.toNat)) :: r) (putR w mo S) Q) := R_iald rfl (by decide) rfl rfl rfl
theorem wM_find_35 : WP P 83 35 lo st w Q ↔ x_gi lo[2]? (fun x => WP P 83 36 lo (.int x :: st) w Q) := W_iload_n rfl rfl rfl
theorem wM_find_36 : WP P 83 36 lo (.int y :: .int x :: r) w Q ↔ WP P 83 37 lo (.int (x + y) :: r) w Q := W_iadd rfl rfl
theorem wM_find_37 : WP P 83 37 lo [.int x] w Q ↔ Q (some (.int x)) w := WP_ret rfl rfl
theorem wM_find_38 : WP P 83 38 lo st w Q ↔ x_ga lo[0]? (fun v => WP P 83 39 lo (v :: st) w Q) := W_aload_n rfl rfl rfl
theorem wM_find_39 : WP P 83 39 lo (.ref mo :: r) (putR w mo S) Q ↔ WP P 83 42 lo (.ref (ra mo 11) :: r) (putR w mo S) Q := R_get rfl rfl (by decide) rfl
theorem wM_find_42 : WP P 83 42 lo st w Q ↔ x_gi lo[1]? (fun x => WP P 83 43 lo (.int x :: st) w Q) := W_iload_n rfl rfl rfl
theorem wM_find_43 : WP P 83 43 lo (.int x :: .ref (ra mo 11) :: r) (putR w mo S) Q ↔ ((0 ≤ x.toInt ∧ x.toInt < 16) ∧ WP P 83 44 lo (.int (xi (S 11 x.toInt.toNat)) :: r) (putR w mo S) Q) := R_iald rfl (by decide) rfl rfl rfl
theorem wM_find_44 : WP P 83 44 lo st w Q ↔ x_gi lo[2]? (fun x => WP P 83 45 lo (.int x :: st) w Q) := W_iload_n rfl rfl rfl
theorem wM_find_45 : WP P 83 45 lo st w Q ↔ WP P 83 47 lo (.int (xi 16) :: st) w Q := W_bipush rfl rfl (by decide)
theorem wM_find_47 : WP P 83 47 lo (.int y :: .int x :: r) w Q ↔ (¬ y = 0 ∧ WP P 83 48 lo (.int (x / y) :: r) w Q) := W_idiv rfl rfl
theorem wM_find_48 : WP P 83 48 lo (.int y :: .int x :: r) w Q ↔ WP P 83 49 lo (.int (x + y) :: r) w Q := W_iadd rfl rfl
theorem wM_find_49 : WP P 83 49 lo st w Q ↔ WP P 83 50 lo (.int (xi 1) :: st) w Q := W_iconst rfl rfl rfl
theorem wM_find_50 : WP P 83 50 lo (.int y :: .int x :: r) w Q ↔ WP P 83 51 lo (.int (x - y) :: r) w Q := W_isub rfl rfl
theorem wM_find_51 : WP P 83 51 lo (.int x :: r) w Q ↔ (3 < lo.length ∧ WP P 83 52 (lo.set 3 (some (.int x))) r w Q) := W_istore_n rfl rfl rfl
theorem wM_find_52 : WP P 83 52 lo st w Q ↔ x_ga lo[0]? (fun v => WP P 83 53 lo (v :: st) w Q) := W_aload_n rfl rfl rfl
theorem wM_find_53 : WP P 83 53 lo (.ref mo :: r) (putR w mo S) Q ↔ WP P 83 56 lo (.ref (ra mo 0) :: r) (putR w mo S) Q := R_get rfl rfl (by decide) rfl
theorem wM_find_56 : WP P 83 56 lo st w Q ↔ x_gi lo[3]? (fun x => WP P 83 57 lo (.int x :: st) w Q) := W_iload_n rfl rfl rfl
theorem wM_find_57 : WP P 83 57 lo (.int x :: .ref (ra mo 0) :: r) (putR w mo S) Q ↔ ((0 ≤ x.toInt ∧ x.toInt < 128) ∧ WP P 83 58 lo (.int (xi (S 0 x.toInt.toNat)) :: r) (putR w mo S) Q) := R_iald rfl (by decide) rfl rfl rfl
theorem wM_find_58 : WP P 83 58 lo st w Q ↔ WP P 83 59 lo (.int (xi 1) :: st) w Q := W_iconst rfl rfl rfl
theorem wM_find_59 : WP P 83 59 lo (.int y :: .int x :: r) w Q ↔ (if x = y then WP P 83 62 lo r w Q else WP P 83 76 lo r w Q) := W_ic_ne rfl rfl rfl
theorem wM_find_62 : WP P 83 62 lo st w Q ↔ x_ga lo[0]? (fun v => WP P 83 63 lo (v :: st) w Q) := W_aload_n rfl rfl rfl
theorem wM_find_63 : WP P 83 63 lo (.ref mo :: r) (putR w mo S) Q ↔ WP P 83 66 lo (.ref (ra mo 1) :: r) (putR w mo S) Q := R_get rfl rfl (by decide) rfl
theorem wM_find_66 : WP P 83 66 lo st w Q ↔ x_gi lo[3]? (fun x => WP P 83 67 lo (.int x :: st) w Q) := W_iload_n rfl rfl rfl
theorem wM_find_67 : WP P 83 67 lo (.int x :: .ref (ra mo 1) :: r) (putR w mo S) Q ↔ ((0 ≤ x.toInt ∧ x.toInt < 128) ∧ WP P 83 68 lo (.int (xi (S 1 x.toInt.toNat)) :: r) (putR w mo S) Q) := R_iald rfl (by decide) rfl rfl rfl
theorem wM_find_68 : WP P 83 68 lo st w Q ↔ x_gi lo[2]? (fun x => WP P 83 69 lo (.int x :: st) w Q) := W_iload_n rfl rfl rfl
theorem wM_find_69 : WP P 83 69 lo st w Q ↔ WP P 83 71 lo (.int (xi 16) :: st) w Q := W_bipush rfl rfl (by decide)
theorem wM_find_71 : WP P 83 71 lo (.int y :: .int x :: r) w Q ↔ (¬ y = 0 ∧ WP P 83 72 lo (.int (x_rmd x y) :: r) w Q) := W_irem rfl rfl
theorem wM_find_72 : WP P 83 72 lo (.int y :: .int x :: r) w Q ↔ WP P 83 73 lo (.int (x + y) :: r) w Q := W_iadd rfl rfl
theorem wM_find_73 : WP P 83 73 lo st w Q ↔ WP P 83 77 lo st w Q := W_goto rfl rfl
theorem wM_find_76 : WP P 83 76 lo st w Q ↔ WP P 83 77 lo (.int (xi (-1)) :: st) w Q := W_iconst rfl rfl rfl
theorem wM_find_77 : WP P 83 77 lo [.int x] w Q ↔ Q (some (.int x)) w := WP_ret rfl rfl
-- 84 M_vacant
theorem wM_vacant_0 : WP P 84 0 lo st w Q ↔ x_ga lo[0]? (fun v => WP P 84 1 lo (v :: st) w Q) := W_aload_n rfl rfl rfl
theorem wM_vacant_1 : WP P 84 1 lo st w Q ↔ x_ga lo[0]? (fun v => WP P 84 2 lo (v :: st) w Q) := W_aload_n rfl rfl rfl
theorem wM_vacant_2 (hr : r.length ≤ 8) (hc : ([] : List Value).all x_cat1 = true) (hc2 : r.all x_cat1 = true) (k : WP P 81 0 [some (.ref mo), none, none, none] [] (putR w mo S) (fun v w1 => WP P 84 5 lo (v.toList ++ r) w1 Q)) : WP P 84 2 lo (.ref mo :: r) (putR w mo S) Q := K_virt (as := []) rfl rfl rfl rfl (by decide) (by decide) rfl putR_tgM hr hc hc2 k
theorem wM_vacant_5 : WP P 84 5 lo st w Q ↔ x_gi lo[1]? (fun x => WP P 84 6 lo (.int x :: st) w Q) := W_iload_n rfl rfl rfl
theorem wM_vacant_6 {u1 u2 : Value} (hr : r.length ≤ 8) (hc : ([u1, u2] : List Value).all x_cat1 = true) (hc2 : r.all x_cat1 = true) (k : WP P 83 0 [some (.ref mo), some u1, some u2, none] [] (putR w mo S) (fun v w1 => WP P 84 9 lo (v.toList ++ r) w1 Q)) : WP P 84 6 lo (u2 :: u1 :: .ref mo :: r) (putR w mo S) Q := K_virt (as := [u1, u2]) rfl rfl rfl rfl (by decide) (by decide) rfl putR_tgM hr hc hc2 k
theorem wM_vacant_9 : WP P 84 9 lo (.int x :: r) w Q ↔ (2 < lo.length ∧ WP P 84 10 (lo.set 2 (some (.int x))) r w Q) := W_istore_n rfl rfl rfl
theorem wM_vacant_10 : WP P 84 10 lo st w Q ↔ x_gi lo[2]? (fun x => WP P 84 11 lo (.int x :: st) w Q) := W_iload_n rfl rfl rfl
theorem wM_vacant_11 : WP P 84 11 lo (.int x :: r) w Q ↔ (if x < xi 0 then WP P 84 23 lo r w Q else WP P 84 14 lo r w Q) := W_if_lt rfl rfl rfl
theorem wM_vacant_14 : WP P 84 14 lo st w Q ↔ x_ga lo[0]? (fun v => WP P 84 15 lo (v :: st) w Q) := W_aload_n rfl rfl rfl
theorem wM_vacant_15 : WP P 84 15 lo (.ref mo :: r) (putR w mo S) Q ↔ WP P 84 18 lo (.ref (ra mo 0) :: r) (putR w mo S) Q := R_get rfl rfl (by decide) rfl
theorem wM_vacant_18 : WP P 84 18 lo st w Q ↔ x_gi lo[2]? (fun x => WP P 84 19 lo (.int x :: st) w Q) := W_iload_n rfl rfl rfl
theorem wM_vacant_19 : WP P 84 19 lo (.int x :: .ref (ra mo 0) :: r) (putR w mo S) Q ↔ ((0 ≤ x.toInt ∧ x.toInt < 128) ∧ WP P 84 20 lo (.int (xi (S 0 x.toInt.toNat)) :: r) (putR w mo S) Q) := R_iald rfl (by decide) rfl rfl rfl
theorem wM_vacant_20 : WP P 84 20 lo (.int x :: r) w Q ↔ (if x < xi 0 then WP P 84 27 lo r w Q else WP P 84 23 lo r w Q) := W_if_lt rfl rfl rfl
theorem wM_vacant_23 : WP P 84 23 lo st w Q ↔ WP P 84 24 lo (.int (xi (-1)) :: st) w Q := W_iconst rfl rfl rfl
theorem wM_vacant_24 : WP P 84 24 lo st w Q ↔ WP P 84 28 lo st w Q := W_goto rfl rfl
theorem wM_vacant_27 : WP P 84 27 lo st w Q ↔ x_gi lo[2]? (fun x => WP P 84 28 lo (.int x :: st) w Q) := W_iload_n rfl rfl rfl
theorem wM_vacant_28 : WP P 84 28 lo [.int x] w Q ↔ Q (some (.int x)) w := WP_ret rfl rfl
-- 85 M_sizeOf
theorem wM_sizeOf_0 : WP P 85 0 lo st w Q ↔ x_gi lo[0]? (fun x => WP P 85 1 lo (.int x :: st) w Q) := W_iload_n rfl rfl rfl
theorem wM_sizeOf_1 : WP P 85 1 lo (.int x :: r) w Q ↔ (if x = xi 0 then WP P 85 4 lo r w Q else WP P 85 10 lo r w Q) := W_if_ne rfl rfl rfl
theorem wM_sizeOf_4 : WP P 85 4 lo st w Q ↔ WP P 85 5 lo (.int (xi 1) :: st) w Q := W_iconst rfl rfl rfl
theorem wM_sizeOf_5 : WP P 85 5 lo st w Q ↔ x_gi lo[1]? (fun x => WP P 85 6 lo (.int x :: st) w Q) := W_iload_n rfl rfl rfl
theorem wM_sizeOf_6 : WP P 85 6 lo (.int y :: .int x :: r) w Q ↔ WP P 85 7 lo (.int (x <<< (y &&& 31)) :: r) w Q := W_ishl rfl rfl
theorem wM_sizeOf_7 : WP P 85 7 lo st w Q ↔ WP P 85 51 lo st w Q := W_goto rfl rfl
theorem wM_sizeOf_10 : WP P 85 10 lo st w Q ↔ x_gi lo[0]? (fun x => WP P 85 11 lo (.int x :: st) w Q) := W_iload_n rfl rfl rfl
theorem wM_sizeOf_11 : WP P 85 11 lo st w Q ↔ WP P 85 12 lo (.int (xi 1) :: st) w Q := W_iconst rfl rfl rfl
theorem wM_sizeOf_12 : WP P 85 12 lo (.int y :: .int x :: r) w Q ↔ (if x = y then WP P 85 15 lo r w Q else WP P 85 20 lo r w Q) := W_ic_ne rfl rfl rfl
theorem wM_sizeOf_15 : WP P 85 15 lo st w Q ↔ WP P 85 17 lo (.int (xi 16) :: st) w Q := W_bipush rfl rfl (by decide)
theorem wM_sizeOf_17 : WP P 85 17 lo st w Q ↔ WP P 85 51 lo st w Q := W_goto rfl rfl
theorem wM_sizeOf_20 : WP P 85 20 lo st w Q ↔ x_gi lo[0]? (fun x => WP P 85 21 lo (.int x :: st) w Q) := W_iload_n rfl rfl rfl
theorem wM_sizeOf_21 : WP P 85 21 lo st w Q ↔ WP P 85 22 lo (.int (xi 2) :: st) w Q := W_iconst rfl rfl rfl
theorem wM_sizeOf_22 : WP P 85 22 lo (.int y :: .int x :: r) w Q ↔ (if x = y then WP P 85 31 lo r w Q else WP P 85 25 lo r w Q) := W_ic_eq rfl rfl rfl
theorem wM_sizeOf_25 : WP P 85 25 lo st w Q ↔ x_gi lo[0]? (fun x => WP P 85 26 lo (.int x :: st) w Q) := W_iload_n rfl rfl rfl
theorem wM_sizeOf_26 : WP P 85 26 lo st w Q ↔ WP P 85 28 lo (.int (xi 7) :: st) w Q := W_bipush rfl rfl (by decide)
theorem wM_sizeOf_28 : WP P 85 28 lo (.int y :: .int x :: r) w Q ↔ (if x = y then WP P 85 31 lo r w Q else WP P 85 36 lo r w Q) := W_ic_ne rfl rfl rfl
theorem wM_sizeOf_31 : WP P 85 31 lo st w Q ↔ WP P 85 33 lo (.int (xi 8) :: st) w Q := W_bipush rfl rfl (by decide)
theorem wM_sizeOf_33 : WP P 85 33 lo st w Q ↔ WP P 85 51 lo st w Q := W_goto rfl rfl
theorem wM_sizeOf_36 : WP P 85 36 lo st w Q ↔ x_gi lo[0]? (fun x => WP P 85 37 lo (.int x :: st) w Q) := W_iload_n rfl rfl rfl
theorem wM_sizeOf_37 : WP P 85 37 lo st w Q ↔ WP P 85 38 lo (.int (xi 3) :: st) w Q := W_iconst rfl rfl rfl
theorem wM_sizeOf_38 : WP P 85 38 lo (.int y :: .int x :: r) w Q ↔ (if x = y then WP P 85 46 lo r w Q else WP P 85 41 lo r w Q) := W_ic_eq rfl rfl rfl
theorem wM_sizeOf_41 : WP P 85 41 lo st w Q ↔ x_gi lo[0]? (fun x => WP P 85 42 lo (.int x :: st) w Q) := W_iload_n rfl rfl rfl
theorem wM_sizeOf_42 : WP P 85 42 lo st w Q ↔ WP P 85 43 lo (.int (xi 4) :: st) w Q := W_iconst rfl rfl rfl
theorem wM_sizeOf_43 : WP P 85 43 lo (.int y :: .int x :: r) w Q ↔ (if x = y then WP P 85 46 lo r w Q else WP P 85 50 lo r w Q) := W_ic_ne rfl rfl rfl
theorem wM_sizeOf_46 : WP P 85 46 lo st w Q ↔ WP P 85 47 lo (.int (xi 2) :: st) w Q := W_iconst rfl rfl rfl
theorem wM_sizeOf_47 : WP P 85 47 lo st w Q ↔ WP P 85 51 lo st w Q := W_goto rfl rfl
theorem wM_sizeOf_50 : WP P 85 50 lo st w Q ↔ WP P 85 51 lo (.int (xi 4) :: st) w Q := W_iconst rfl rfl rfl
theorem wM_sizeOf_51 : WP P 85 51 lo [.int x] w Q ↔ Q (some (.int x)) w := WP_ret rfl rfl
-- 86 M_freePoint
theorem wM_freePoint_0 : WP P 86 0 lo st w Q ↔ x_ga lo[0]? (fun v => WP P 86 1 lo (v :: st) w Q) := W_aload_n rfl rfl rfl
theorem wM_freePoint_1 : WP P 86 1 lo st w Q ↔ x_gi lo[1]? (fun x => WP P 86 2 lo (.int x :: st) w Q) := W_iload_n rfl rfl rfl
theorem wM_freePoint_2 {u1 : Value} (hr : r.length ≤ 8) (hc : ([u1] : List Value).all x_cat1 = true) (hc2 : r.all x_cat1 = true) (k : WP P 87 0 [some (.ref mo), some u1, none, none] [] (putR w mo S) (fun v w1 => WP P 86 5 lo (v.toList ++ r) w1 Q)) : WP P 86 2 lo (u1 :: .ref mo :: r) (putR w mo S) Q := K_virt (as := [u1]) rfl rfl rfl rfl (by decide) (by decide) rfl putR_tgM hr hc hc2 k
theorem wM_freePoint_5 : WP P 86 5 lo (.int x :: r) w Q ↔ (if x = xi 0 then WP P 86 8 lo r w Q else WP P 86 17 lo r w Q) := W_if_ne rfl rfl rfl
theorem wM_freePoint_8 : WP P 86 8 lo st w Q ↔ x_ga lo[0]? (fun v => WP P 86 9 lo (v :: st) w Q) := W_aload_n rfl rfl rfl
theorem wM_freePoint_9 : WP P 86 9 lo (.ref mo :: r) (putR w mo S) Q ↔ WP P 86 12 lo (.ref (ra mo 1) :: r) (putR w mo S) Q := R_get rfl rfl (by decide) rfl
theorem wM_freePoint_12 : WP P 86 12 lo st w Q ↔ x_gi lo[1]? (fun x => WP P 86 13 lo (.int x :: st) w Q) := W_iload_n rfl rfl rfl
theorem wM_freePoint_13 : WP P 86 13 lo (.int x :: .ref (ra mo 1) :: r) (putR w mo S) Q ↔ ((0 ≤ x.toInt ∧ x.toInt < 128) ∧ WP P 86 14 lo (.int (xi (S 1 x.toInt.toNat)) :: r) (putR w mo S) Q) := R_iald rfl (by decide) rfl rfl rfl
theorem wM_freePoint_14 : WP P 86 14 lo st w Q ↔ WP P 86 23 lo st w Q := W_goto rfl rfl
theorem wM_freePoint_17 : WP P 86 17 lo st w Q ↔ x_ga lo[0]? (fun v => WP P 86 18 lo (v :: st) w Q) := W_aload_n rfl rfl rfl
theorem wM_freePoint_18 : WP P 86 18 lo (.ref mo :: r) (putR w mo S) Q ↔ WP P 86 21 lo (.ref (ra mo 6) :: r) (putR w mo S) Q := R_get rfl rfl (by decide) rfl
theorem wM_freePoint_21 : WP P 86 21 lo st w Q ↔ x_gi lo[1]? (fun x => WP P 86 22 lo (.int x :: st) w Q) := W_iload_n rfl rfl rfl
theorem wM_freePoint_22 : WP P 86 22 lo (.int x :: .ref (ra mo 6) :: r) (putR w mo S) Q ↔ ((0 ≤ x.toInt ∧ x.toInt < 128) ∧ WP P 86 23 lo (.int (xi (S 6 x.toInt.toNat)) :: r) (putR w mo S) Q) := R_iald rfl (by decide) rfl rfl rfl
theorem wM_freePoint_23 : WP P 86 23 lo [.int x] w Q ↔ Q (some (.int x)) w := WP_ret rfl rfl
-- 87 M_children
theorem wM_children_0 : WP P 87 0 lo st w Q ↔ WP P 87 1 lo (.int (xi 0) :: st) w Q := W_iconst rfl rfl rfl
theorem wM_children_1 : WP P 87 1 lo (.int x :: r) w Q ↔ (2 < lo.length ∧ WP P 87 2 (lo.set 2 (some (.int x))) r w Q) := W_istore_n rfl rfl rfl
theorem wM_children_2 : WP P 87 2 lo st w Q ↔ WP P 87 3 lo (.int (xi 0) :: st) w Q := W_iconst rfl rfl rfl
theorem wM_children_3 : WP P 87 3 lo (.int x :: r) w Q ↔ (3 < lo.length ∧ WP P 87 4 (lo.set 3 (some (.int x))) r w Q) := W_istore_n rfl rfl rfl
theorem wM_children_4 : WP P 87 4 lo st w Q ↔ x_gi lo[3]? (fun x => WP P 87 5 lo (.int x :: st) w Q) := W_iload_n rfl rfl rfl
theorem wM_children_5 : WP P 87 5 lo st w Q ↔ WP P 87 8 lo (.int (xi 128) :: st) w Q := W_sipush rfl rfl (by decide)
theorem wM_children_8 : WP P 87 8 lo (.int y :: .int x :: r) w Q ↔ (if x < y then WP P 87 11 lo r w Q else WP P 87 44 lo r w Q) := W_ic_ge rfl rfl rfl
theorem wM_children_11 : WP P 87 11 lo st w Q ↔ x_gi lo[2]? (fun x => WP P 87 12 lo (.int x :: st) w Q) := W_iload_n rfl rfl rfl
theorem wM_children_12 : WP P 87 12 lo st w Q ↔ x_ga lo[0]? (fun v => WP P 87 13 lo (v :: st) w Q) := W_aload_n rfl rfl rfl
theorem wM_children_13 : WP P 87 13 lo (.ref mo :: r) (putR w mo S) Q ↔ WP P 87 16 lo (.ref (ra mo 0) :: r) (putR w mo S) Q := R_get rfl rfl (by decide) rfl
theorem wM_children_16 : WP P 87 16 lo st w Q ↔ x_gi lo[3]? (fun x => WP P 87 17 lo (.int x :: st) w Q) := W_iload_n rfl rfl rfl
theorem wM_children_17 : WP P 87 17 lo (.int x :: .ref (ra mo 0) :: r) (putR w mo S) Q ↔ ((0 ≤ x.toInt ∧ x.toInt < 128) ∧ WP P 87 18 lo (.int (xi (S 0 x.toInt.toNat)) :: r) (putR w mo S) Q) := R_iald rfl (by decide) rfl rfl rfl
theorem wM_children_18 : WP P 87 18 lo (.int x :: r) w Q ↔ (if x < xi 0 then WP P 87 35 lo r w Q else WP P 87 21 lo r w Q) := W_if_lt rfl rfl rfl
theorem wM_children_21 : WP P 87 21 lo st w Q ↔ x_ga lo[0]? (fun v => WP P 87 22 lo (v :: st) w Q) := W_aload_n rfl rfl rfl
theorem wM_children_22 : WP P 87 22 lo (.ref mo :: r) (putR w mo S) Q ↔ WP P 87 25 lo (.ref (ra mo 4) :: r) (putR w mo S) Q := R_get rfl rfl (by decide) rfl
theorem wM_children_25 : WP P 87 25 lo st w Q ↔ x_gi lo[3]? (fun x => WP P 87 26 lo (.int x :: st) w Q) := W_iload_n rfl rfl rfl
theorem wM_children_26 : WP P 87 26 lo (.int x :: .ref (ra mo 4) :: r) (putR w mo S) Q ↔ ((0 ≤ x.toInt ∧ x.toInt < 128) ∧ WP P 87 27 lo (.int (xi (S 4 x.toInt.toNat)) :: r) (putR w mo S) Q) := R_iald rfl (by decide) rfl rfl rfl
theorem wM_children_27 : WP P 87 27 lo st w Q ↔ x_gi lo[1]? (fun x => WP P 87 28 lo (.int x :: st) w Q) := W_iload_n rfl rfl rfl
theorem wM_children_28 : WP P 87 28 lo (.int y :: .int x :: r) w Q ↔ (if x = y then WP P 87 31 lo r w Q else WP P 87 35 lo r w Q) := W_ic_ne rfl rfl rfl
theorem wM_children_31 : WP P 87 31 lo st w Q ↔ WP P 87 32 lo (.int (xi 1) :: st) w Q := W_iconst rfl rfl rfl
theorem wM_children_32 : WP P 87 32 lo st w Q ↔ WP P 87 36 lo st w Q := W_goto rfl rfl
theorem wM_children_35 : WP P 87 35 lo st w Q ↔ WP P 87 36 lo (.int (xi 0) :: st) w Q := W_iconst rfl rfl rfl
theorem wM_children_36 : WP P 87 36 lo (.int y :: .int x :: r) w Q ↔ WP P 87 37 lo (.int (x + y) :: r) w Q := W_iadd rfl rfl
theorem wM_children_37 : WP P 87 37 lo (.int x :: r) w Q ↔ (2 < lo.length ∧ WP P 87 38 (lo.set 2 (some (.int x))) r w Q) := W_istore_n rfl rfl rfl
theorem wM_children_38 : WP P 87 38 lo st w Q ↔ x_gi lo[3]? (fun x => WP P 87 41 (lo.set 3 (some (.int (x + xi 1)))) st w Q) := W_iinc rfl rfl
theorem wM_children_41 : WP P 87 41 lo st w Q ↔ WP P 87 4 lo st w Q := W_goto rfl rfl
theorem wM_children_44 : WP P 87 44 lo st w Q ↔ x_gi lo[2]? (fun x => WP P 87 45 lo (.int x :: st) w Q) := W_iload_n rfl rfl rfl
theorem wM_children_45 : WP P 87 45 lo [.int x] w Q ↔ Q (some (.int x)) w := WP_ret rfl rfl
-- 88 M_copy
theorem wM_copy_0 : WP P 88 0 lo st w Q ↔ x_ga lo[0]? (fun v => WP P 88 1 lo (v :: st) w Q) := W_aload_n rfl rfl rfl
theorem wM_copy_1 (hr : r.length ≤ 8) (hc : ([] : List Value).all x_cat1 = true) (hc2 : r.all x_cat1 = true) (k : WP P 81 0 [some (.ref mo), none, none, none] [] (putR w mo S) (fun v w1 => WP P 88 4 lo (v.toList ++ r) w1 Q)) : WP P 88 1 lo (.ref mo :: r) (putR w mo S) Q := K_virt (as := []) rfl rfl rfl rfl (by decide) (by decide) rfl putR_tgM hr hc hc2 k
theorem wM_copy_4 : WP P 88 4 lo (.int x :: r) w Q ↔ (if x < xi 0 then WP P 88 7 lo r w Q else WP P 88 10 lo r w Q) := W_if_ge rfl rfl rfl
theorem wM_copy_7 : WP P 88 7 lo st w Q ↔ WP P 88 9 lo (.int (xi 8) :: st) w Q := W_bipush rfl rfl (by decide)
theorem wM_copy_9 : WP P 88 9 lo [.int x] w Q ↔ Q (some (.int x)) w := WP_ret rfl rfl
theorem wM_copy_10 : WP P 88 10 lo st w Q ↔ x_ga lo[0]? (fun v => WP P 88 11 lo (v :: st) w Q) := W_aload_n rfl rfl rfl
theorem wM_copy_11 : WP P 88 11 lo st w Q ↔ x_gi lo[1]? (fun x => WP P 88 12 lo (.int x :: st) w Q) := W_iload_n rfl rfl rfl
theorem wM_copy_12 : WP P 88 12 lo st w Q ↔ WP P 88 13 lo (.int (xi (-1)) :: st) w Q := W_iconst rfl rfl rfl
theorem wM_copy_13 {u1 u2 : Value} (hr : r.length ≤ 8) (hc : ([u1, u2] : List Value).all x_cat1 = true) (hc2 : r.all x_cat1 = true) (k : WP P 82 0 [some (.ref mo), some u1, some u2, none] [] (putR w mo S) (fun v w1 => WP P 88 16 lo (v.toList ++ r) w1 Q)) : WP P 88 13 lo (u2 :: u1 :: .ref mo :: r) (putR w mo S) Q := K_virt (as := [u1, u2]) rfl rfl rfl rfl (by decide) (by decide) rfl putR_tgM hr hc hc2 k
theorem wM_copy_16 : WP P 88 16 lo (.int x :: r) w Q ↔ (5 < lo.length ∧ WP P 88 18 (lo.set 5 (some (.int x))) r w Q) := W_istore rfl rfl
theorem wM_copy_18 : WP P 88 18 lo st w Q ↔ x_gi lo[5]? (fun x => WP P 88 20 lo (.int x :: st) w Q) := W_iload rfl rfl
theorem wM_copy_20 : WP P 88 20 lo (.int x :: r) w Q ↔ (if x < xi 0 then WP P 88 23 lo r w Q else WP P 88 25 lo r w Q) := W_if_ge rfl rfl rfl
theorem wM_copy_23 : WP P 88 23 lo st w Q ↔ WP P 88 24 lo (.int (xi 1) :: st) w Q := W_iconst rfl rfl rfl
theorem wM_copy_24 : WP P 88 24 lo [.int x] w Q ↔ Q (some (.int x)) w := WP_ret rfl rfl
theorem wM_copy_25 : WP P 88 25 lo st w Q ↔ x_ga lo[0]? (fun v => WP P 88 26 lo (v :: st) w Q) := W_aload_n rfl rfl rfl
theorem wM_copy_26 : WP P 88 26 lo (.ref mo :: r) (putR w mo S) Q ↔ WP P 88 29 lo (.ref (ra mo 0) :: r) (putR w mo S) Q := R_get rfl rfl (by decide) rfl
theorem wM_copy_29 : WP P 88 29 lo st w Q ↔ x_gi lo[5]? (fun x => WP P 88 31 lo (.int x :: st) w Q) := W_iload rfl rfl
theorem wM_copy_31 : WP P 88 31 lo (.int x :: .ref (ra mo 0) :: r) (putR w mo S) Q ↔ ((0 ≤ x.toInt ∧ x.toInt < 128) ∧ WP P 88 32 lo (.int (xi (S 0 x.toInt.toNat)) :: r) (putR w mo S) Q) := R_iald rfl (by decide) rfl rfl rfl
theorem wM_copy_32 : WP P 88 32 lo (.int x :: r) w Q ↔ (if x = xi 0 then WP P 88 35 lo r w Q else WP P 88 37 lo r w Q) := W_if_ne rfl rfl rfl
theorem wM_copy_35 : WP P 88 35 lo st w Q ↔ WP P 88 36 lo (.int (xi 2) :: st) w Q := W_iconst rfl rfl rfl
theorem wM_copy_36 : WP P 88 36 lo [.int x] w Q ↔ Q (some (.int x)) w := WP_ret rfl rfl
theorem wM_copy_37 : WP P 88 37 lo st w Q ↔ x_gi lo[3]? (fun x => WP P 88 38 lo (.int x :: st) w Q) := W_iload_n rfl rfl rfl
theorem wM_copy_38 : WP P 88 38 lo (.int x :: r) w Q ↔ (if x < xi 0 then WP P 88 60 lo r w Q else WP P 88 41 lo r w Q) := W_if_lt rfl rfl rfl
theorem wM_copy_41 : WP P 88 41 lo st w Q ↔ x_gi lo[3]? (fun x => WP P 88 42 lo (.int x :: st) w Q) := W_iload_n rfl rfl rfl
theorem wM_copy_42 : WP P 88 42 lo st w Q ↔ WP P 88 44 lo (.int (xi 7) :: st) w Q := W_bipush rfl rfl (by decide)
theorem wM_copy_44 : WP P 88 44 lo (.int y :: .int x :: r) w Q ↔ (if y < x then WP P 88 60 lo r w Q else WP P 88 47 lo r w Q) := W_ic_gt rfl rfl rfl
theorem wM_copy_47 : WP P 88 47 lo st w Q ↔ x_gi lo[4]? (fun x => WP P 88 49 lo (.int x :: st) w Q) := W_iload rfl rfl
theorem wM_copy_49 : WP P 88 49 lo (.int x :: r) w Q ↔ (if x < xi 0 then WP P 88 60 lo r w Q else WP P 88 52 lo r w Q) := W_if_lt rfl rfl rfl
theorem wM_copy_52 : WP P 88 52 lo st w Q ↔ x_gi lo[4]? (fun x => WP P 88 54 lo (.int x :: st) w Q) := W_iload rfl rfl
theorem wM_copy_54 : WP P 88 54 lo st w Q ↔ WP P 88 57 lo (.int (xi 255) :: st) w Q := W_sipush rfl rfl (by decide)
theorem wM_copy_57 : WP P 88 57 lo (.int y :: .int x :: r) w Q ↔ (if y < x then WP P 88 60 lo r w Q else WP P 88 62 lo r w Q) := W_ic_le rfl rfl rfl
theorem wM_copy_60 : WP P 88 60 lo st w Q ↔ WP P 88 61 lo (.int (xi 4) :: st) w Q := W_iconst rfl rfl rfl
theorem wM_copy_61 : WP P 88 61 lo [.int x] w Q ↔ Q (some (.int x)) w := WP_ret rfl rfl
theorem wM_copy_62 : WP P 88 62 lo st w Q ↔ x_ga lo[0]? (fun v => WP P 88 63 lo (v :: st) w Q) := W_aload_n rfl rfl rfl
theorem wM_copy_63 : WP P 88 63 lo st w Q ↔ x_gi lo[2]? (fun x => WP P 88 64 lo (.int x :: st) w Q) := W_iload_n rfl rfl rfl
theorem wM_copy_64 {u1 : Value} (hr : r.length ≤ 8) (hc : ([u1] : List Value).all x_cat1 = true) (hc2 : r.all x_cat1 = true) (k : WP P 84 0 [some (.ref mo), some u1, none] [] (putR w mo S) (fun v w1 => WP P 88 67 lo (v.toList ++ r) w1 Q)) : WP P 88 64 lo (u1 :: .ref mo :: r) (putR w mo S) Q := K_virt (as := [u1]) rfl rfl rfl rfl (by decide) (by decide) rfl putR_tgM hr hc hc2 k
theorem wM_copy_67 : WP P 88 67 lo (.int x :: r) w Q ↔ (6 < lo.length ∧ WP P 88 69 (lo.set 6 (some (.int x))) r w Q) := W_istore rfl rfl
theorem wM_copy_69 : WP P 88 69 lo st w Q ↔ x_gi lo[6]? (fun x => WP P 88 71 lo (.int x :: st) w Q) := W_iload rfl rfl
theorem wM_copy_71 : WP P 88 71 lo (.int x :: r) w Q ↔ (if x < xi 0 then WP P 88 74 lo r w Q else WP P 88 76 lo r w Q) := W_if_ge rfl rfl rfl
theorem wM_copy_74 : WP P 88 74 lo st w Q ↔ WP P 88 75 lo (.int (xi 3) :: st) w Q := W_iconst rfl rfl rfl
theorem wM_copy_75 : WP P 88 75 lo [.int x] w Q ↔ Q (some (.int x)) w := WP_ret rfl rfl
theorem wM_copy_76 : WP P 88 76 lo st w Q ↔ x_ga lo[0]? (fun v => WP P 88 77 lo (v :: st) w Q) := W_aload_n rfl rfl rfl
theorem wM_copy_77 : WP P 88 77 lo st w Q ↔ x_gi lo[6]? (fun x => WP P 88 79 lo (.int x :: st) w Q) := W_iload rfl rfl
theorem wM_copy_79 : WP P 88 79 lo st w Q ↔ x_ga lo[0]? (fun v => WP P 88 80 lo (v :: st) w Q) := W_aload_n rfl rfl rfl
theorem wM_copy_80 : WP P 88 80 lo (.ref mo :: r) (putR w mo S) Q ↔ WP P 88 83 lo (.ref (ra mo 0) :: r) (putR w mo S) Q := R_get rfl rfl (by decide) rfl
theorem wM_copy_83 : WP P 88 83 lo st w Q ↔ x_gi lo[5]? (fun x => WP P 88 85 lo (.int x :: st) w Q) := W_iload rfl rfl
theorem wM_copy_85 : WP P 88 85 lo (.int x :: .ref (ra mo 0) :: r) (putR w mo S) Q ↔ ((0 ≤ x.toInt ∧ x.toInt < 128) ∧ WP P 88 86 lo (.int (xi (S 0 x.toInt.toNat)) :: r) (putR w mo S) Q) := R_iald rfl (by decide) rfl rfl rfl
theorem wM_copy_86 : WP P 88 86 lo st w Q ↔ x_ga lo[0]? (fun v => WP P 88 87 lo (v :: st) w Q) := W_aload_n rfl rfl rfl
theorem wM_copy_87 : WP P 88 87 lo (.ref mo :: r) (putR w mo S) Q ↔ WP P 88 90 lo (.ref (ra mo 1) :: r) (putR w mo S) Q := R_get rfl rfl (by decide) rfl
theorem wM_copy_90 : WP P 88 90 lo st w Q ↔ x_gi lo[5]? (fun x => WP P 88 92 lo (.int x :: st) w Q) := W_iload rfl rfl
theorem wM_copy_92 : WP P 88 92 lo (.int x :: .ref (ra mo 1) :: r) (putR w mo S) Q ↔ ((0 ≤ x.toInt ∧ x.toInt < 128) ∧ WP P 88 93 lo (.int (xi (S 1 x.toInt.toNat)) :: r) (putR w mo S) Q) := R_iald rfl (by decide) rfl rfl rfl
theorem wM_copy_93 : WP P 88 93 lo st w Q ↔ WP P 88 94 lo (.int (xi 0) :: st) w Q := W_iconst rfl rfl rfl
theorem wM_copy_94 : WP P 88 94 lo st w Q ↔ x_gi lo[5]? (fun x => WP P 88 96 lo (.int x :: st) w Q) := W_iload rfl rfl
theorem wM_copy_96 {u1 u2 u3 u4 u5 : Value} (hr : r.length ≤ 8) (hc : ([u1, u2, u3, u4, u5] : List Value).all x_cat1 = true) (hc2 : r.all x_cat1 = true) (k : WP P 77 0 [some (.ref mo), some u1, some u2, some u3, some u4, some u5] [] (putR w mo S) (fun v w1 => WP P 88 99 lo (v.toList ++ r) w1 Q)) : WP P 88 96 lo (u5 :: u4 :: u3 :: u2 :: u1 :: .ref mo :: r) (putR w mo S) Q := K_virt (as := [u1, u2, u3, u4, u5]) rfl rfl rfl rfl (by decide) (by decide) rfl putR_tgM hr hc hc2 k
theorem wM_copy_99 : WP P 88 99 lo st w Q ↔ x_ga lo[0]? (fun v => WP P 88 100 lo (v :: st) w Q) := W_aload_n rfl rfl rfl
theorem wM_copy_100 : WP P 88 100 lo (.ref mo :: r) (putR w mo S) Q ↔ WP P 88 103 lo (.ref (ra mo 2) :: r) (putR w mo S) Q := R_get rfl rfl (by decide) rfl
theorem wM_copy_103 : WP P 88 103 lo st w Q ↔ x_gi lo[6]? (fun x => WP P 88 105 lo (.int x :: st) w Q) := W_iload rfl rfl
theorem wM_copy_105 : WP P 88 105 lo st w Q ↔ x_ga lo[0]? (fun v => WP P 88 106 lo (v :: st) w Q) := W_aload_n rfl rfl rfl
theorem wM_copy_106 : WP P 88 106 lo (.ref mo :: r) (putR w mo S) Q ↔ WP P 88 109 lo (.ref (ra mo 2) :: r) (putR w mo S) Q := R_get rfl rfl (by decide) rfl
theorem wM_copy_109 : WP P 88 109 lo st w Q ↔ x_gi lo[5]? (fun x => WP P 88 111 lo (.int x :: st) w Q) := W_iload rfl rfl
theorem wM_copy_111 : WP P 88 111 lo (.int x :: .ref (ra mo 2) :: r) (putR w mo S) Q ↔ ((0 ≤ x.toInt ∧ x.toInt < 128) ∧ WP P 88 112 lo (.int (xi (S 2 x.toInt.toNat)) :: r) (putR w mo S) Q) := R_iald rfl (by decide) rfl rfl rfl
theorem wM_copy_112 : WP P 88 112 lo st w Q ↔ x_gi lo[3]? (fun x => WP P 88 113 lo (.int x :: st) w Q) := W_iload_n rfl rfl rfl
theorem wM_copy_113 : WP P 88 113 lo (.int y :: .int x :: r) w Q ↔ WP P 88 114 lo (.int (x &&& y) :: r) w Q := W_iand rfl rfl
theorem wM_copy_114 : WP P 88 114 lo (.int (xi z) :: .int x :: .ref (ra mo 2) :: r) (putR w mo S) Q ↔ ((0 ≤ x.toInt ∧ x.toInt < 128) ∧ WP P 88 115 lo r (putR w mo (sset S 2 x.toInt.toNat z)) Q) := R_iast rfl (by decide) rfl rfl rfl
theorem wM_copy_115 : WP P 88 115 lo st w Q ↔ x_ga lo[0]? (fun v => WP P 88 116 lo (v :: st) w Q) := W_aload_n rfl rfl rfl
theorem wM_copy_116 : WP P 88 116 lo (.ref mo :: r) (putR w mo S) Q ↔ WP P 88 119 lo (.ref (ra mo 3) :: r) (putR w mo S) Q := R_get rfl rfl (by decide) rfl
theorem wM_copy_119 : WP P 88 119 lo st w Q ↔ x_gi lo[6]? (fun x => WP P 88 121 lo (.int x :: st) w Q) := W_iload rfl rfl
theorem wM_copy_121 : WP P 88 121 lo st w Q ↔ x_ga lo[0]? (fun v => WP P 88 122 lo (v :: st) w Q) := W_aload_n rfl rfl rfl
theorem wM_copy_122 : WP P 88 122 lo (.ref mo :: r) (putR w mo S) Q ↔ WP P 88 125 lo (.ref (ra mo 3) :: r) (putR w mo S) Q := R_get rfl rfl (by decide) rfl
theorem wM_copy_125 : WP P 88 125 lo st w Q ↔ x_gi lo[5]? (fun x => WP P 88 127 lo (.int x :: st) w Q) := W_iload rfl rfl
theorem wM_copy_127 : WP P 88 127 lo (.int x :: .ref (ra mo 3) :: r) (putR w mo S) Q ↔ ((0 ≤ x.toInt ∧ x.toInt < 128) ∧ WP P 88 128 lo (.int (xi (S 3 x.toInt.toNat)) :: r) (putR w mo S) Q) := R_iald rfl (by decide) rfl rfl rfl
theorem wM_copy_128 : WP P 88 128 lo (.int x :: r) w Q ↔ (if x = xi 0 then WP P 88 131 lo r w Q else WP P 88 158 lo r w Q) := W_if_ne rfl rfl rfl
theorem wM_copy_131 : WP P 88 131 lo st w Q ↔ x_ga lo[0]? (fun v => WP P 88 132 lo (v :: st) w Q) := W_aload_n rfl rfl rfl
theorem wM_copy_132 : WP P 88 132 lo (.ref mo :: r) (putR w mo S) Q ↔ WP P 88 135 lo (.ref (ra mo 0) :: r) (putR w mo S) Q := R_get rfl rfl (by decide) rfl
theorem wM_copy_135 : WP P 88 135 lo st w Q ↔ x_gi lo[5]? (fun x => WP P 88 137 lo (.int x :: st) w Q) := W_iload rfl rfl
theorem wM_copy_137 : WP P 88 137 lo (.int x :: .ref (ra mo 0) :: r) (putR w mo S) Q ↔ ((0 ≤ x.toInt ∧ x.toInt < 128) ∧ WP P 88 138 lo (.int (xi (S 0 x.toInt.toNat)) :: r) (putR w mo S) Q) := R_iald rfl (by decide) rfl rfl rfl
theorem wM_copy_138 : WP P 88 138 lo st w Q ↔ WP P 88 139 lo (.int (xi 3) :: st) w Q := W_iconst rfl rfl rfl
theorem wM_copy_139 : WP P 88 139 lo (.int y :: .int x :: r) w Q ↔ (if x = y then WP P 88 153 lo r w Q else WP P 88 142 lo r w Q) := W_ic_eq rfl rfl rfl
theorem wM_copy_142 : WP P 88 142 lo st w Q ↔ x_ga lo[0]? (fun v => WP P 88 143 lo (v :: st) w Q) := W_aload_n rfl rfl rfl
theorem wM_copy_143 : WP P 88 143 lo (.ref mo :: r) (putR w mo S) Q ↔ WP P 88 146 lo (.ref (ra mo 0) :: r) (putR w mo S) Q := R_get rfl rfl (by decide) rfl
theorem wM_copy_146 : WP P 88 146 lo st w Q ↔ x_gi lo[5]? (fun x => WP P 88 148 lo (.int x :: st) w Q) := W_iload rfl rfl
theorem wM_copy_148 : WP P 88 148 lo (.int x :: .ref (ra mo 0) :: r) (putR w mo S) Q ↔ ((0 ≤ x.toInt ∧ x.toInt < 128) ∧ WP P 88 149 lo (.int (xi (S 0 x.toInt.toNat)) :: r) (putR w mo S) Q) := R_iald rfl (by decide) rfl rfl rfl
theorem wM_copy_149 : WP P 88 149 lo st w Q ↔ WP P 88 150 lo (.int (xi 4) :: st) w Q := W_iconst rfl rfl rfl
theorem wM_copy_150 : WP P 88 150 lo (.int y :: .int x :: r) w Q ↔ (if x = y then WP P 88 153 lo r w Q else WP P 88 158 lo r w Q) := W_ic_ne rfl rfl rfl
theorem wM_copy_153 : WP P 88 153 lo st w Q ↔ x_gi lo[4]? (fun x => WP P 88 155 lo (.int x :: st) w Q) := W_iload rfl rfl
theorem wM_copy_155 : WP P 88 155 lo st w Q ↔ WP P 88 165 lo st w Q := W_goto rfl rfl
theorem wM_copy_158 : WP P 88 158 lo st w Q ↔ x_ga lo[0]? (fun v => WP P 88 159 lo (v :: st) w Q) := W_aload_n rfl rfl rfl
theorem wM_copy_159 : WP P 88 159 lo (.ref mo :: r) (putR w mo S) Q ↔ WP P 88 162 lo (.ref (ra mo 3) :: r) (putR w mo S) Q := R_get rfl rfl (by decide) rfl
theorem wM_copy_162 : WP P 88 162 lo st w Q ↔ x_gi lo[5]? (fun x => WP P 88 164 lo (.int x :: st) w Q) := W_iload rfl rfl
theorem wM_copy_164 : WP P 88 164 lo (.int x :: .ref (ra mo 3) :: r) (putR w mo S) Q ↔ ((0 ≤ x.toInt ∧ x.toInt < 128) ∧ WP P 88 165 lo (.int (xi (S 3 x.toInt.toNat)) :: r) (putR w mo S) Q) := R_iald rfl (by decide) rfl rfl rfl
theorem wM_copy_165 : WP P 88 165 lo (.int (xi z) :: .int x :: .ref (ra mo 3) :: r) (putR w mo S) Q ↔ ((0 ≤ x.toInt ∧ x.toInt < 128) ∧ WP P 88 166 lo r (putR w mo (sset S 3 x.toInt.toNat z)) Q) := R_iast rfl (by decide) rfl rfl rfl
theorem wM_copy_166 : WP P 88 166 lo st w Q ↔ WP P 88 167 lo (.int (xi 0) :: st) w Q := W_iconst rfl rfl rfl
theorem wM_copy_167 : WP P 88 167 lo [.int x] w Q ↔ Q (some (.int x)) w := WP_ret rfl rfl
-- 89 M_move
theorem wM_move_0 : WP P 89 0 lo st w Q ↔ x_ga lo[0]? (fun v => WP P 89 1 lo (v :: st) w Q) := W_aload_n rfl rfl rfl
theorem wM_move_1 (hr : r.length ≤ 8) (hc : ([] : List Value).all x_cat1 = true) (hc2 : r.all x_cat1 = true) (k : WP P 81 0 [some (.ref mo), none, none, none] [] (putR w mo S) (fun v w1 => WP P 89 4 lo (v.toList ++ r) w1 Q)) : WP P 89 1 lo (.ref mo :: r) (putR w mo S) Q := K_virt (as := []) rfl rfl rfl rfl (by decide) (by decide) rfl putR_tgM hr hc hc2 k
theorem wM_move_4 : WP P 89 4 lo (.int x :: r) w Q ↔ (if x < xi 0 then WP P 89 7 lo r w Q else WP P 89 10 lo r w Q) := W_if_ge rfl rfl rfl
theorem wM_move_7 : WP P 89 7 lo st w Q ↔ WP P 89 9 lo (.int (xi 8) :: st) w Q := W_bipush rfl rfl (by decide)
theorem wM_move_9 : WP P 89 9 lo [.int x] w Q ↔ Q (some (.int x)) w := WP_ret rfl rfl
theorem wM_move_10 : WP P 89 10 lo st w Q ↔ x_ga lo[0]? (fun v => WP P 89 11 lo (v :: st) w Q) := W_aload_n rfl rfl rfl
theorem wM_move_11 : WP P 89 11 lo st w Q ↔ x_gi lo[1]? (fun x => WP P 89 12 lo (.int x :: st) w Q) := W_iload_n rfl rfl rfl
theorem wM_move_12 : WP P 89 12 lo st w Q ↔ WP P 89 13 lo (.int (xi (-1)) :: st) w Q := W_iconst rfl rfl rfl
theorem wM_move_13 {u1 u2 : Value} (hr : r.length ≤ 8) (hc : ([u1, u2] : List Value).all x_cat1 = true) (hc2 : r.all x_cat1 = true) (k : WP P 82 0 [some (.ref mo), some u1, some u2, none] [] (putR w mo S) (fun v w1 => WP P 89 16 lo (v.toList ++ r) w1 Q)) : WP P 89 13 lo (u2 :: u1 :: .ref mo :: r) (putR w mo S) Q := K_virt (as := [u1, u2]) rfl rfl rfl rfl (by decide) (by decide) rfl putR_tgM hr hc hc2 k
theorem wM_move_16 : WP P 89 16 lo (.int x :: r) w Q ↔ (3 < lo.length ∧ WP P 89 17 (lo.set 3 (some (.int x))) r w Q) := W_istore_n rfl rfl rfl
theorem wM_move_17 : WP P 89 17 lo st w Q ↔ x_ga lo[0]? (fun v => WP P 89 18 lo (v :: st) w Q) := W_aload_n rfl rfl rfl
theorem wM_move_18 : WP P 89 18 lo st w Q ↔ x_gi lo[2]? (fun x => WP P 89 19 lo (.int x :: st) w Q) := W_iload_n rfl rfl rfl
theorem wM_move_19 {u1 : Value} (hr : r.length ≤ 8) (hc : ([u1] : List Value).all x_cat1 = true) (hc2 : r.all x_cat1 = true) (k : WP P 84 0 [some (.ref mo), some u1, none] [] (putR w mo S) (fun v w1 => WP P 89 22 lo (v.toList ++ r) w1 Q)) : WP P 89 19 lo (u1 :: .ref mo :: r) (putR w mo S) Q := K_virt (as := [u1]) rfl rfl rfl rfl (by decide) (by decide) rfl putR_tgM hr hc hc2 k
theorem wM_move_22 : WP P 89 22 lo (.int x :: r) w Q ↔ (4 < lo.length ∧ WP P 89 24 (lo.set 4 (some (.int x))) r w Q) := W_istore rfl rfl
theorem wM_move_24 : WP P 89 24 lo st w Q ↔ x_gi lo[3]? (fun x => WP P 89 25 lo (.int x :: st) w Q) := W_iload_n rfl rfl rfl
theorem wM_move_25 : WP P 89 25 lo (.int x :: r) w Q ↔ (if x < xi 0 then WP P 89 33 lo r w Q else WP P 89 28 lo r w Q) := W_if_lt rfl rfl rfl
theorem wM_move_28 : WP P 89 28 lo st w Q ↔ x_gi lo[4]? (fun x => WP P 89 30 lo (.int x :: st) w Q) := W_iload rfl rfl
theorem wM_move_30 : WP P 89 30 lo (.int x :: r) w Q ↔ (if x < xi 0 then WP P 89 33 lo r w Q else WP P 89 43 lo r w Q) := W_if_ge rfl rfl rfl
theorem wM_move_33 : WP P 89 33 lo st w Q ↔ x_gi lo[3]? (fun x => WP P 89 34 lo (.int x :: st) w Q) := W_iload_n rfl rfl rfl
theorem wM_move_34 : WP P 89 34 lo (.int x :: r) w Q ↔ (if x < xi 0 then WP P 89 37 lo r w Q else WP P 89 41 lo r w Q) := W_if_ge rfl rfl rfl
theorem wM_move_37 : WP P 89 37 lo st w Q ↔ WP P 89 38 lo (.int (xi 1) :: st) w Q := W_iconst rfl rfl rfl
theorem wM_move_38 : WP P 89 38 lo st w Q ↔ WP P 89 42 lo st w Q := W_goto rfl rfl
theorem wM_move_41 : WP P 89 41 lo st w Q ↔ WP P 89 42 lo (.int (xi 3) :: st) w Q := W_iconst rfl rfl rfl
theorem wM_move_42 : WP P 89 42 lo [.int x] w Q ↔ Q (some (.int x)) w := WP_ret rfl rfl
theorem wM_move_43 : WP P 89 43 lo st w Q ↔ x_ga lo[0]? (fun v => WP P 89 44 lo (v :: st) w Q) := W_aload_n rfl rfl rfl
theorem wM_move_44 : WP P 89 44 lo st w Q ↔ x_gi lo[4]? (fun x => WP P 89 46 lo (.int x :: st) w Q) := W_iload rfl rfl
theorem wM_move_46 : WP P 89 46 lo st w Q ↔ x_ga lo[0]? (fun v => WP P 89 47 lo (v :: st) w Q) := W_aload_n rfl rfl rfl
theorem wM_move_47 : WP P 89 47 lo (.ref mo :: r) (putR w mo S) Q ↔ WP P 89 50 lo (.ref (ra mo 0) :: r) (putR w mo S) Q := R_get rfl rfl (by decide) rfl
theorem wM_move_50 : WP P 89 50 lo st w Q ↔ x_gi lo[3]? (fun x => WP P 89 51 lo (.int x :: st) w Q) := W_iload_n rfl rfl rfl
theorem wM_move_51 : WP P 89 51 lo (.int x :: .ref (ra mo 0) :: r) (putR w mo S) Q ↔ ((0 ≤ x.toInt ∧ x.toInt < 128) ∧ WP P 89 52 lo (.int (xi (S 0 x.toInt.toNat)) :: r) (putR w mo S) Q) := R_iald rfl (by decide) rfl rfl rfl
theorem wM_move_52 : WP P 89 52 lo st w Q ↔ x_ga lo[0]? (fun v => WP P 89 53 lo (v :: st) w Q) := W_aload_n rfl rfl rfl
theorem wM_move_53 : WP P 89 53 lo (.ref mo :: r) (putR w mo S) Q ↔ WP P 89 56 lo (.ref (ra mo 1) :: r) (putR w mo S) Q := R_get rfl rfl (by decide) rfl
theorem wM_move_56 : WP P 89 56 lo st w Q ↔ x_gi lo[3]? (fun x => WP P 89 57 lo (.int x :: st) w Q) := W_iload_n rfl rfl rfl
theorem wM_move_57 : WP P 89 57 lo (.int x :: .ref (ra mo 1) :: r) (putR w mo S) Q ↔ ((0 ≤ x.toInt ∧ x.toInt < 128) ∧ WP P 89 58 lo (.int (xi (S 1 x.toInt.toNat)) :: r) (putR w mo S) Q) := R_iald rfl (by decide) rfl rfl rfl
theorem wM_move_58 : WP P 89 58 lo st w Q ↔ x_ga lo[0]? (fun v => WP P 89 59 lo (v :: st) w Q) := W_aload_n rfl rfl rfl
theorem wM_move_59 : WP P 89 59 lo (.ref mo :: r) (putR w mo S) Q ↔ WP P 89 62 lo (.ref (ra mo 5) :: r) (putR w mo S) Q := R_get rfl rfl (by decide) rfl
theorem wM_move_62 : WP P 89 62 lo st w Q ↔ x_gi lo[3]? (fun x => WP P 89 63 lo (.int x :: st) w Q) := W_iload_n rfl rfl rfl
theorem wM_move_63 : WP P 89 63 lo (.int x :: .ref (ra mo 5) :: r) (putR w mo S) Q ↔ ((0 ≤ x.toInt ∧ x.toInt < 128) ∧ WP P 89 64 lo (.int (xi (S 5 x.toInt.toNat)) :: r) (putR w mo S) Q) := R_iald rfl (by decide) rfl rfl rfl
theorem wM_move_64 : WP P 89 64 lo st w Q ↔ x_ga lo[0]? (fun v => WP P 89 65 lo (v :: st) w Q) := W_aload_n rfl rfl rfl
theorem wM_move_65 : WP P 89 65 lo (.ref mo :: r) (putR w mo S) Q ↔ WP P 89 68 lo (.ref (ra mo 4) :: r) (putR w mo S) Q := R_get rfl rfl (by decide) rfl
theorem wM_move_68 : WP P 89 68 lo st w Q ↔ x_gi lo[3]? (fun x => WP P 89 69 lo (.int x :: st) w Q) := W_iload_n rfl rfl rfl
theorem wM_move_69 : WP P 89 69 lo (.int x :: .ref (ra mo 4) :: r) (putR w mo S) Q ↔ ((0 ≤ x.toInt ∧ x.toInt < 128) ∧ WP P 89 70 lo (.int (xi (S 4 x.toInt.toNat)) :: r) (putR w mo S) Q) := R_iald rfl (by decide) rfl rfl rfl
theorem wM_move_70 {u1 u2 u3 u4 u5 : Value} (hr : r.length ≤ 8) (hc : ([u1, u2, u3, u4, u5] : List Value).all x_cat1 = true) (hc2 : r.all x_cat1 = true) (k : WP P 77 0 [some (.ref mo), some u1, some u2, some u3, some u4, some u5] [] (putR w mo S) (fun v w1 => WP P 89 73 lo (v.toList ++ r) w1 Q)) : WP P 89 70 lo (u5 :: u4 :: u3 :: u2 :: u1 :: .ref mo :: r) (putR w mo S) Q := K_virt (as := [u1, u2, u3, u4, u5]) rfl rfl rfl rfl (by decide) (by decide) rfl putR_tgM hr hc hc2 k
theorem wM_move_73 : WP P 89 73 lo st w Q ↔ x_ga lo[0]? (fun v => WP P 89 74 lo (v :: st) w Q) := W_aload_n rfl rfl rfl
theorem wM_move_74 : WP P 89 74 lo (.ref mo :: r) (putR w mo S) Q ↔ WP P 89 77 lo (.ref (ra mo 2) :: r) (putR w mo S) Q := R_get rfl rfl (by decide) rfl
theorem wM_move_77 : WP P 89 77 lo st w Q ↔ x_gi lo[4]? (fun x => WP P 89 79 lo (.int x :: st) w Q) := W_iload rfl rfl
theorem wM_move_79 : WP P 89 79 lo st w Q ↔ x_ga lo[0]? (fun v => WP P 89 80 lo (v :: st) w Q) := W_aload_n rfl rfl rfl
theorem wM_move_80 : WP P 89 80 lo (.ref mo :: r) (putR w mo S) Q ↔ WP P 89 83 lo (.ref (ra mo 2) :: r) (putR w mo S) Q := R_get rfl rfl (by decide) rfl
theorem wM_move_83 : WP P 89 83 lo st w Q ↔ x_gi lo[3]? (fun x => WP P 89 84 lo (.int x :: st) w Q) := W_iload_n rfl rfl rfl
theorem wM_move_84 : WP P 89 84 lo (.int x :: .ref (ra mo 2) :: r) (putR w mo S) Q ↔ ((0 ≤ x.toInt ∧ x.toInt < 128) ∧ WP P 89 85 lo (.int (xi (S 2 x.toInt.toNat)) :: r) (putR w mo S) Q) := R_iald rfl (by decide) rfl rfl rfl
theorem wM_move_85 : WP P 89 85 lo (.int (xi z) :: .int x :: .ref (ra mo 2) :: r) (putR w mo S) Q ↔ ((0 ≤ x.toInt ∧ x.toInt < 128) ∧ WP P 89 86 lo r (putR w mo (sset S 2 x.toInt.toNat z)) Q) := R_iast rfl (by decide) rfl rfl rfl
theorem wM_move_86 : WP P 89 86 lo st w Q ↔ x_ga lo[0]? (fun v => WP P 89 87 lo (v :: st) w Q) := W_aload_n rfl rfl rfl
theorem wM_move_87 : WP P 89 87 lo (.ref mo :: r) (putR w mo S) Q ↔ WP P 89 90 lo (.ref (ra mo 3) :: r) (putR w mo S) Q := R_get rfl rfl (by decide) rfl
theorem wM_move_90 : WP P 89 90 lo st w Q ↔ x_gi lo[4]? (fun x => WP P 89 92 lo (.int x :: st) w Q) := W_iload rfl rfl
theorem wM_move_92 : WP P 89 92 lo st w Q ↔ x_ga lo[0]? (fun v => WP P 89 93 lo (v :: st) w Q) := W_aload_n rfl rfl rfl
theorem wM_move_93 : WP P 89 93 lo (.ref mo :: r) (putR w mo S) Q ↔ WP P 89 96 lo (.ref (ra mo 3) :: r) (putR w mo S) Q := R_get rfl rfl (by decide) rfl
theorem wM_move_96 : WP P 89 96 lo st w Q ↔ x_gi lo[3]? (fun x => WP P 89 97 lo (.int x :: st) w Q) := W_iload_n rfl rfl rfl
theorem wM_move_97 : WP P 89 97 lo (.int x :: .ref (ra mo 3) :: r) (putR w mo S) Q ↔ ((0 ≤ x.toInt ∧ x.toInt < 128) ∧ WP P 89 98 lo (.int (xi (S 3 x.toInt.toNat)) :: r) (putR w mo S) Q) := R_iald rfl (by decide) rfl rfl rfl
theorem wM_move_98 : WP P 89 98 lo (.int (xi z) :: .int x :: .ref (ra mo 3) :: r) (putR w mo S) Q ↔ ((0 ≤ x.toInt ∧ x.toInt < 128) ∧ WP P 89 99 lo r (putR w mo (sset S 3 x.toInt.toNat z)) Q) := R_iast rfl (by decide) rfl rfl rfl
theorem wM_move_99 : WP P 89 99 lo st w Q ↔ x_ga lo[0]? (fun v => WP P 89 100 lo (v :: st) w Q) := W_aload_n rfl rfl rfl
theorem wM_move_100 : WP P 89 100 lo (.ref mo :: r) (putR w mo S) Q ↔ WP P 89 103 lo (.ref (ra mo 6) :: r) (putR w mo S) Q := R_get rfl rfl (by decide) rfl
theorem wM_move_103 : WP P 89 103 lo st w Q ↔ x_gi lo[4]? (fun x => WP P 89 105 lo (.int x :: st) w Q) := W_iload rfl rfl
theorem wM_move_105 : WP P 89 105 lo st w Q ↔ x_ga lo[0]? (fun v => WP P 89 106 lo (v :: st) w Q) := W_aload_n rfl rfl rfl
theorem wM_move_106 : WP P 89 106 lo (.ref mo :: r) (putR w mo S) Q ↔ WP P 89 109 lo (.ref (ra mo 6) :: r) (putR w mo S) Q := R_get rfl rfl (by decide) rfl
theorem wM_move_109 : WP P 89 109 lo st w Q ↔ x_gi lo[3]? (fun x => WP P 89 110 lo (.int x :: st) w Q) := W_iload_n rfl rfl rfl
theorem wM_move_110 : WP P 89 110 lo (.int x :: .ref (ra mo 6) :: r) (putR w mo S) Q ↔ ((0 ≤ x.toInt ∧ x.toInt < 128) ∧ WP P 89 111 lo (.int (xi (S 6 x.toInt.toNat)) :: r) (putR w mo S) Q) := R_iald rfl (by decide) rfl rfl rfl
theorem wM_move_111 : WP P 89 111 lo (.int (xi z) :: .int x :: .ref (ra mo 6) :: r) (putR w mo S) Q ↔ ((0 ≤ x.toInt ∧ x.toInt < 128) ∧ WP P 89 112 lo r (putR w mo (sset S 6 x.toInt.toNat z)) Q) := R_iast rfl (by decide) rfl rfl rfl
theorem wM_move_112 : WP P 89 112 lo st w Q ↔ x_ga lo[0]? (fun v => WP P 89 113 lo (v :: st) w Q) := W_aload_n rfl rfl rfl
theorem wM_move_113 : WP P 89 113 lo (.ref mo :: r) (putR w mo S) Q ↔ WP P 89 116 lo (.ref (ra mo 7) :: r) (putR w mo S) Q := R_get rfl rfl (by decide) rfl
theorem wM_move_116 : WP P 89 116 lo st w Q ↔ x_gi lo[4]? (fun x => WP P 89 118 lo (.int x :: st) w Q) := W_iload rfl rfl
theorem wM_move_118 : WP P 89 118 lo st w Q ↔ x_ga lo[0]? (fun v => WP P 89 119 lo (v :: st) w Q) := W_aload_n rfl rfl rfl
theorem wM_move_119 : WP P 89 119 lo (.ref mo :: r) (putR w mo S) Q ↔ WP P 89 122 lo (.ref (ra mo 7) :: r) (putR w mo S) Q := R_get rfl rfl (by decide) rfl
theorem wM_move_122 : WP P 89 122 lo st w Q ↔ x_gi lo[3]? (fun x => WP P 89 123 lo (.int x :: st) w Q) := W_iload_n rfl rfl rfl
theorem wM_move_123 : WP P 89 123 lo (.int x :: .ref (ra mo 7) :: r) (putR w mo S) Q ↔ ((0 ≤ x.toInt ∧ x.toInt < 128) ∧ WP P 89 124 lo (.int (xi (S 7 x.toInt.toNat)) :: r) (putR w mo S) Q) := R_iald rfl (by decide) rfl rfl rfl
theorem wM_move_124 : WP P 89 124 lo (.int (xi z) :: .int x :: .ref (ra mo 7) :: r) (putR w mo S) Q ↔ ((0 ≤ x.toInt ∧ x.toInt < 128) ∧ WP P 89 125 lo r (putR w mo (sset S 7 x.toInt.toNat z)) Q) := R_iast rfl (by decide) rfl rfl rfl
theorem wM_move_125 : WP P 89 125 lo st w Q ↔ x_ga lo[0]? (fun v => WP P 89 126 lo (v :: st) w Q) := W_aload_n rfl rfl rfl
theorem wM_move_126 : WP P 89 126 lo (.ref mo :: r) (putR w mo S) Q ↔ WP P 89 129 lo (.ref (ra mo 8) :: r) (putR w mo S) Q := R_get rfl rfl (by decide) rfl
theorem wM_move_129 : WP P 89 129 lo st w Q ↔ x_gi lo[4]? (fun x => WP P 89 131 lo (.int x :: st) w Q) := W_iload rfl rfl
theorem wM_move_131 : WP P 89 131 lo st w Q ↔ x_ga lo[0]? (fun v => WP P 89 132 lo (v :: st) w Q) := W_aload_n rfl rfl rfl
theorem wM_move_132 : WP P 89 132 lo (.ref mo :: r) (putR w mo S) Q ↔ WP P 89 135 lo (.ref (ra mo 8) :: r) (putR w mo S) Q := R_get rfl rfl (by decide) rfl
theorem wM_move_135 : WP P 89 135 lo st w Q ↔ x_gi lo[3]? (fun x => WP P 89 136 lo (.int x :: st) w Q) := W_iload_n rfl rfl rfl
theorem wM_move_136 : WP P 89 136 lo (.int x :: .ref (ra mo 8) :: r) (putR w mo S) Q ↔ ((0 ≤ x.toInt ∧ x.toInt < 128) ∧ WP P 89 137 lo (.int (xi (S 8 x.toInt.toNat)) :: r) (putR w mo S) Q) := R_iald rfl (by decide) rfl rfl rfl
theorem wM_move_137 : WP P 89 137 lo (.int (xi z) :: .int x :: .ref (ra mo 8) :: r) (putR w mo S) Q ↔ ((0 ≤ x.toInt ∧ x.toInt < 128) ∧ WP P 89 138 lo r (putR w mo (sset S 8 x.toInt.toNat z)) Q) := R_iast rfl (by decide) rfl rfl rfl
theorem wM_move_138 : WP P 89 138 lo st w Q ↔ x_ga lo[0]? (fun v => WP P 89 139 lo (v :: st) w Q) := W_aload_n rfl rfl rfl
theorem wM_move_139 : WP P 89 139 lo (.ref mo :: r) (putR w mo S) Q ↔ WP P 89 142 lo (.ref (ra mo 0) :: r) (putR w mo S) Q := R_get rfl rfl (by decide) rfl
theorem wM_move_142 : WP P 89 142 lo st w Q ↔ x_gi lo[3]? (fun x => WP P 89 143 lo (.int x :: st) w Q) := W_iload_n rfl rfl rfl
theorem wM_move_143 : WP P 89 143 lo st w Q ↔ WP P 89 144 lo (.int (xi (-1)) :: st) w Q := W_iconst rfl rfl rfl
theorem wM_move_144 : WP P 89 144 lo (.int (xi z) :: .int x :: .ref (ra mo 0) :: r) (putR w mo S) Q ↔ ((0 ≤ x.toInt ∧ x.toInt < 128) ∧ WP P 89 145 lo r (putR w mo (sset S 0 x.toInt.toNat z)) Q) := R_iast rfl (by decide) rfl rfl rfl
theorem wM_move_145 : WP P 89 145 lo st w Q ↔ WP P 89 146 lo (.int (xi 0) :: st) w Q := W_iconst rfl rfl rfl
theorem wM_move_146 : WP P 89 146 lo (.int x :: r) w Q ↔ (5 < lo.length ∧ WP P 89 148 (lo.set 5 (some (.int x))) r w Q) := W_istore rfl rfl
theorem wM_move_148 : WP P 89 148 lo st w Q ↔ x_gi lo[5]? (fun x => WP P 89 150 lo (.int x :: st) w Q) := W_iload rfl rfl
theorem wM_move_150 : WP P 89 150 lo st w Q ↔ WP P 89 153 lo (.int (xi 128) :: st) w Q := W_sipush rfl rfl (by decide)
theorem wM_move_153 : WP P 89 153 lo (.int y :: .int x :: r) w Q ↔ (if x < y then WP P 89 156 lo r w Q else WP P 89 192 lo r w Q) := W_ic_ge rfl rfl rfl
theorem wM_move_156 : WP P 89 156 lo st w Q ↔ x_ga lo[0]? (fun v => WP P 89 157 lo (v :: st) w Q) := W_aload_n rfl rfl rfl
theorem wM_move_157 : WP P 89 157 lo (.ref mo :: r) (putR w mo S) Q ↔ WP P 89 160 lo (.ref (ra mo 4) :: r) (putR w mo S) Q := R_get rfl rfl (by decide) rfl
theorem wM_move_160 : WP P 89 160 lo st w Q ↔ x_gi lo[5]? (fun x => WP P 89 162 lo (.int x :: st) w Q) := W_iload rfl rfl
theorem wM_move_162 : WP P 89 162 lo st w Q ↔ x_ga lo[0]? (fun v => WP P 89 163 lo (v :: st) w Q) := W_aload_n rfl rfl rfl
theorem wM_move_163 : WP P 89 163 lo (.ref mo :: r) (putR w mo S) Q ↔ WP P 89 166 lo (.ref (ra mo 4) :: r) (putR w mo S) Q := R_get rfl rfl (by decide) rfl
theorem wM_move_166 : WP P 89 166 lo st w Q ↔ x_gi lo[5]? (fun x => WP P 89 168 lo (.int x :: st) w Q) := W_iload rfl rfl
theorem wM_move_168 : WP P 89 168 lo (.int x :: .ref (ra mo 4) :: r) (putR w mo S) Q ↔ ((0 ≤ x.toInt ∧ x.toInt < 128) ∧ WP P 89 169 lo (.int (xi (S 4 x.toInt.toNat)) :: r) (putR w mo S) Q) := R_iald rfl (by decide) rfl rfl rfl
theorem wM_move_169 : WP P 89 169 lo st w Q ↔ x_gi lo[3]? (fun x => WP P 89 170 lo (.int x :: st) w Q) := W_iload_n rfl rfl rfl
theorem wM_move_170 : WP P 89 170 lo (.int y :: .int x :: r) w Q ↔ (if x = y then WP P 89 173 lo r w Q else WP P 89 178 lo r w Q) := W_ic_ne rfl rfl rfl
theorem wM_move_173 : WP P 89 173 lo st w Q ↔ x_gi lo[4]? (fun x => WP P 89 175 lo (.int x :: st) w Q) := W_iload rfl rfl
theorem wM_move_175 : WP P 89 175 lo st w Q ↔ WP P 89 185 lo st w Q := W_goto rfl rfl
theorem wM_move_178 : WP P 89 178 lo st w Q ↔ x_ga lo[0]? (fun v => WP P 89 179 lo (v :: st) w Q) := W_aload_n rfl rfl rfl
theorem wM_move_179 : WP P 89 179 lo (.ref mo :: r) (putR w mo S) Q ↔ WP P 89 182 lo (.ref (ra mo 4) :: r) (putR w mo S) Q := R_get rfl rfl (by decide) rfl
theorem wM_move_182 : WP P 89 182 lo st w Q ↔ x_gi lo[5]? (fun x => WP P 89 184 lo (.int x :: st) w Q) := W_iload rfl rfl
theorem wM_move_184 : WP P 89 184 lo (.int x :: .ref (ra mo 4) :: r) (putR w mo S) Q ↔ ((0 ≤ x.toInt ∧ x.toInt < 128) ∧ WP P 89 185 lo (.int (xi (S 4 x.toInt.toNat)) :: r) (putR w mo S) Q) := R_iald rfl (by decide) rfl rfl rfl
theorem wM_move_185 : WP P 89 185 lo (.int (xi z) :: .int x :: .ref (ra mo 4) :: r) (putR w mo S) Q ↔ ((0 ≤ x.toInt ∧ x.toInt < 128) ∧ WP P 89 186 lo r (putR w mo (sset S 4 x.toInt.toNat z)) Q) := R_iast rfl (by decide) rfl rfl rfl
theorem wM_move_186 : WP P 89 186 lo st w Q ↔ x_gi lo[5]? (fun x => WP P 89 189 (lo.set 5 (some (.int (x + xi 1)))) st w Q) := W_iinc rfl rfl
theorem wM_move_189 : WP P 89 189 lo st w Q ↔ WP P 89 148 lo st w Q := W_goto rfl rfl
theorem wM_move_192 : WP P 89 192 lo st w Q ↔ WP P 89 193 lo (.int (xi 0) :: st) w Q := W_iconst rfl rfl rfl
theorem wM_move_193 : WP P 89 193 lo [.int x] w Q ↔ Q (some (.int x)) w := WP_ret rfl rfl
-- 90 M_delete
theorem wM_delete_0 : WP P 90 0 lo st w Q ↔ x_ga lo[0]? (fun v => WP P 90 1 lo (v :: st) w Q) := W_aload_n rfl rfl rfl
theorem wM_delete_1 (hr : r.length ≤ 8) (hc : ([] : List Value).all x_cat1 = true) (hc2 : r.all x_cat1 = true) (k : WP P 81 0 [some (.ref mo), none, none, none] [] (putR w mo S) (fun v w1 => WP P 90 4 lo (v.toList ++ r) w1 Q)) : WP P 90 1 lo (.ref mo :: r) (putR w mo S) Q := K_virt (as := []) rfl rfl rfl rfl (by decide) (by decide) rfl putR_tgM hr hc hc2 k
theorem wM_delete_4 : WP P 90 4 lo (.int x :: r) w Q ↔ (if x < xi 0 then WP P 90 7 lo r w Q else WP P 90 10 lo r w Q) := W_if_ge rfl rfl rfl
theorem wM_delete_7 : WP P 90 7 lo st w Q ↔ WP P 90 9 lo (.int (xi 8) :: st) w Q := W_bipush rfl rfl (by decide)
theorem wM_delete_9 : WP P 90 9 lo [.int x] w Q ↔ Q (some (.int x)) w := WP_ret rfl rfl
theorem wM_delete_10 : WP P 90 10 lo st w Q ↔ x_ga lo[0]? (fun v => WP P 90 11 lo (v :: st) w Q) := W_aload_n rfl rfl rfl
theorem wM_delete_11 : WP P 90 11 lo st w Q ↔ x_gi lo[1]? (fun x => WP P 90 12 lo (.int x :: st) w Q) := W_iload_n rfl rfl rfl
theorem wM_delete_12 : WP P 90 12 lo st w Q ↔ WP P 90 13 lo (.int (xi (-1)) :: st) w Q := W_iconst rfl rfl rfl
theorem wM_delete_13 {u1 u2 : Value} (hr : r.length ≤ 8) (hc : ([u1, u2] : List Value).all x_cat1 = true) (hc2 : r.all x_cat1 = true) (k : WP P 82 0 [some (.ref mo), some u1, some u2, none] [] (putR w mo S) (fun v w1 => WP P 90 16 lo (v.toList ++ r) w1 Q)) : WP P 90 13 lo (u2 :: u1 :: .ref mo :: r) (putR w mo S) Q := K_virt (as := [u1, u2]) rfl rfl rfl rfl (by decide) (by decide) rfl putR_tgM hr hc hc2 k
theorem wM_delete_16 : WP P 90 16 lo (.int x :: r) w Q ↔ (2 < lo.length ∧ WP P 90 17 (lo.set 2 (some (.int x))) r w Q) := W_istore_n rfl rfl rfl
theorem wM_delete_17 : WP P 90 17 lo st w Q ↔ x_gi lo[2]? (fun x => WP P 90 18 lo (.int x :: st) w Q) := W_iload_n rfl rfl rfl
theorem wM_delete_18 : WP P 90 18 lo (.int x :: r) w Q ↔ (if x < xi 0 then WP P 90 21 lo r w Q else WP P 90 23 lo r w Q) := W_if_ge rfl rfl rfl
theorem wM_delete_21 : WP P 90 21 lo st w Q ↔ WP P 90 22 lo (.int (xi 1) :: st) w Q := W_iconst rfl rfl rfl
theorem wM_delete_22 : WP P 90 22 lo [.int x] w Q ↔ Q (some (.int x)) w := WP_ret rfl rfl
theorem wM_delete_23 : WP P 90 23 lo st w Q ↔ x_ga lo[0]? (fun v => WP P 90 24 lo (v :: st) w Q) := W_aload_n rfl rfl rfl
theorem wM_delete_24 : WP P 90 24 lo (.ref mo :: r) (putR w mo S) Q ↔ WP P 90 27 lo (.ref (ra mo 9) :: r) (putR w mo S) Q := R_get rfl rfl (by decide) rfl
theorem wM_delete_27 : WP P 90 27 lo st w Q ↔ x_gi lo[2]? (fun x => WP P 90 28 lo (.int x :: st) w Q) := W_iload_n rfl rfl rfl
theorem wM_delete_28 : WP P 90 28 lo st w Q ↔ WP P 90 29 lo (.int (xi 1) :: st) w Q := W_iconst rfl rfl rfl
theorem wM_delete_29 : WP P 90 29 lo (.int (xi z) :: .int x :: .ref (ra mo 9) :: r) (putR w mo S) Q ↔ ((xi z = xi 0 ∨ xi z = xi 1) ∧ (0 ≤ x.toInt ∧ x.toInt < 128) ∧ WP P 90 30 lo r (putR w mo (sset S 9 x.toInt.toNat z)) Q) := R_bast rfl (by decide) rfl rfl rfl
theorem wM_delete_30 : WP P 90 30 lo st w Q ↔ x_ga lo[0]? (fun v => WP P 90 31 lo (v :: st) w Q) := W_aload_n rfl rfl rfl
theorem wM_delete_31 (hr : r.length ≤ 8) (hc : ([] : List Value).all x_cat1 = true) (hc2 : r.all x_cat1 = true) (k : WP P 91 0 [some (.ref mo), none, none, none] [] (putR w mo S) (fun v w1 => WP P 90 34 lo (v.toList ++ r) w1 Q)) : WP P 90 31 lo (.ref mo :: r) (putR w mo S) Q := K_virt (as := []) rfl rfl rfl rfl (by decide) (by decide) rfl putR_tgM hr hc hc2 k
theorem wM_delete_34 : WP P 90 34 lo st w Q ↔ WP P 90 35 lo (.int (xi 0) :: st) w Q := W_iconst rfl rfl rfl
theorem wM_delete_35 : WP P 90 35 lo [.int x] w Q ↔ Q (some (.int x)) w := WP_ret rfl rfl
-- 91 M_sweep
theorem wM_sweep_0 : WP P 91 0 lo st w Q ↔ WP P 91 1 lo (.int (xi 1) :: st) w Q := W_iconst rfl rfl rfl
theorem wM_sweep_1 : WP P 91 1 lo (.int x :: r) w Q ↔ (1 < lo.length ∧ WP P 91 2 (lo.set 1 (some (.int x))) r w Q) := W_istore_n rfl rfl rfl
theorem wM_sweep_2 : WP P 91 2 lo st w Q ↔ WP P 91 3 lo (.int (xi 0) :: st) w Q := W_iconst rfl rfl rfl
theorem wM_sweep_3 : WP P 91 3 lo (.int x :: r) w Q ↔ (2 < lo.length ∧ WP P 91 4 (lo.set 2 (some (.int x))) r w Q) := W_istore_n rfl rfl rfl
theorem wM_sweep_4 : WP P 91 4 lo st w Q ↔ x_gi lo[2]? (fun x => WP P 91 5 lo (.int x :: st) w Q) := W_iload_n rfl rfl rfl
theorem wM_sweep_5 : WP P 91 5 lo st w Q ↔ WP P 91 8 lo (.int (xi 1000) :: st) w Q := W_sipush rfl rfl (by decide)
theorem wM_sweep_8 : WP P 91 8 lo (.int y :: .int x :: r) w Q ↔ (if x < y then WP P 91 11 lo r w Q else WP P 91 54 lo r w Q) := W_ic_ge rfl rfl rfl
theorem wM_sweep_11 : WP P 91 11 lo st w Q ↔ x_gi lo[1]? (fun x => WP P 91 12 lo (.int x :: st) w Q) := W_iload_n rfl rfl rfl
theorem wM_sweep_12 : WP P 91 12 lo (.int x :: r) w Q ↔ (if x = xi 0 then WP P 91 54 lo r w Q else WP P 91 15 lo r w Q) := W_if_eq rfl rfl rfl
theorem wM_sweep_15 : WP P 91 15 lo st w Q ↔ WP P 91 16 lo (.int (xi 0) :: st) w Q := W_iconst rfl rfl rfl
theorem wM_sweep_16 : WP P 91 16 lo (.int x :: r) w Q ↔ (1 < lo.length ∧ WP P 91 17 (lo.set 1 (some (.int x))) r w Q) := W_istore_n rfl rfl rfl
theorem wM_sweep_17 : WP P 91 17 lo st w Q ↔ WP P 91 18 lo (.int (xi 0) :: st) w Q := W_iconst rfl rfl rfl
theorem wM_sweep_18 : WP P 91 18 lo (.int x :: r) w Q ↔ (3 < lo.length ∧ WP P 91 19 (lo.set 3 (some (.int x))) r w Q) := W_istore_n rfl rfl rfl
theorem wM_sweep_19 : WP P 91 19 lo st w Q ↔ x_gi lo[3]? (fun x => WP P 91 20 lo (.int x :: st) w Q) := W_iload_n rfl rfl rfl
theorem wM_sweep_20 : WP P 91 20 lo st w Q ↔ WP P 91 23 lo (.int (xi 128) :: st) w Q := W_sipush rfl rfl (by decide)
theorem wM_sweep_23 : WP P 91 23 lo (.int y :: .int x :: r) w Q ↔ (if x < y then WP P 91 26 lo r w Q else WP P 91 48 lo r w Q) := W_ic_ge rfl rfl rfl
theorem wM_sweep_26 : WP P 91 26 lo st w Q ↔ x_ga lo[0]? (fun v => WP P 91 27 lo (v :: st) w Q) := W_aload_n rfl rfl rfl
theorem wM_sweep_27 : WP P 91 27 lo (.ref mo :: r) (putR w mo S) Q ↔ WP P 91 30 lo (.ref (ra mo 9) :: r) (putR w mo S) Q := R_get rfl rfl (by decide) rfl
theorem wM_sweep_30 : WP P 91 30 lo st w Q ↔ x_gi lo[3]? (fun x => WP P 91 31 lo (.int x :: st) w Q) := W_iload_n rfl rfl rfl
theorem wM_sweep_31 : WP P 91 31 lo (.int x :: .ref (ra mo 9) :: r) (putR w mo S) Q ↔ ((0 ≤ x.toInt ∧ x.toInt < 128) ∧ WP P 91 32 lo (.int (xi (S 9 x.toInt.toNat)) :: r) (putR w mo S) Q) := R_bald rfl (by decide) rfl rfl rfl
theorem wM_sweep_32 : WP P 91 32 lo (.int x :: r) w Q ↔ (if x = xi 0 then WP P 91 42 lo r w Q else WP P 91 35 lo r w Q) := W_if_eq rfl rfl rfl
theorem wM_sweep_35 : WP P 91 35 lo st w Q ↔ WP P 91 36 lo (.int (xi 1) :: st) w Q := W_iconst rfl rfl rfl
theorem wM_sweep_36 : WP P 91 36 lo (.int x :: r) w Q ↔ (1 < lo.length ∧ WP P 91 37 (lo.set 1 (some (.int x))) r w Q) := W_istore_n rfl rfl rfl
theorem wM_sweep_37 : WP P 91 37 lo st w Q ↔ x_ga lo[0]? (fun v => WP P 91 38 lo (v :: st) w Q) := W_aload_n rfl rfl rfl
theorem wM_sweep_38 : WP P 91 38 lo st w Q ↔ x_gi lo[3]? (fun x => WP P 91 39 lo (.int x :: st) w Q) := W_iload_n rfl rfl rfl
theorem wM_sweep_39 {u1 : Value} (hr : r.length ≤ 8) (hc : ([u1] : List Value).all x_cat1 = true) (hc2 : r.all x_cat1 = true) (k : WP P 92 0 [some (.ref mo), some u1, none, none, none, none] [] (putR w mo S) (fun v w1 => WP P 91 42 lo (v.toList ++ r) w1 Q)) : WP P 91 39 lo (u1 :: .ref mo :: r) (putR w mo S) Q := K_virt (as := [u1]) rfl rfl rfl rfl (by decide) (by decide) rfl putR_tgM hr hc hc2 k
theorem wM_sweep_42 : WP P 91 42 lo st w Q ↔ x_gi lo[3]? (fun x => WP P 91 45 (lo.set 3 (some (.int (x + xi 1)))) st w Q) := W_iinc rfl rfl
theorem wM_sweep_45 : WP P 91 45 lo st w Q ↔ WP P 91 19 lo st w Q := W_goto rfl rfl
theorem wM_sweep_48 : WP P 91 48 lo st w Q ↔ x_gi lo[2]? (fun x => WP P 91 51 (lo.set 2 (some (.int (x + xi 1)))) st w Q) := W_iinc rfl rfl
theorem wM_sweep_51 : WP P 91 51 lo st w Q ↔ WP P 91 4 lo st w Q := W_goto rfl rfl
theorem wM_sweep_54 : WP P 91 54 lo [] w Q ↔ Q none w := WP_ret rfl rfl
-- 92 M_remove
theorem wM_remove_0 : WP P 92 0 lo st w Q ↔ x_ga lo[0]? (fun v => WP P 92 1 lo (v :: st) w Q) := W_aload_n rfl rfl rfl
theorem wM_remove_1 : WP P 92 1 lo (.ref mo :: r) (putR w mo S) Q ↔ WP P 92 4 lo (.ref (ra mo 0) :: r) (putR w mo S) Q := R_get rfl rfl (by decide) rfl
theorem wM_remove_4 : WP P 92 4 lo st w Q ↔ x_gi lo[1]? (fun x => WP P 92 5 lo (.int x :: st) w Q) := W_iload_n rfl rfl rfl
theorem wM_remove_5 : WP P 92 5 lo (.int x :: .ref (ra mo 0) :: r) (putR w mo S) Q ↔ ((0 ≤ x.toInt ∧ x.toInt < 128) ∧ WP P 92 6 lo (.int (xi (S 0 x.toInt.toNat)) :: r) (putR w mo S) Q) := R_iald rfl (by decide) rfl rfl rfl
theorem wM_remove_6 : WP P 92 6 lo (.int x :: r) w Q ↔ (2 < lo.length ∧ WP P 92 7 (lo.set 2 (some (.int x))) r w Q) := W_istore_n rfl rfl rfl
theorem wM_remove_7 : WP P 92 7 lo st w Q ↔ x_ga lo[0]? (fun v => WP P 92 8 lo (v :: st) w Q) := W_aload_n rfl rfl rfl
theorem wM_remove_8 : WP P 92 8 lo (.ref mo :: r) (putR w mo S) Q ↔ WP P 92 11 lo (.ref (ra mo 1) :: r) (putR w mo S) Q := R_get rfl rfl (by decide) rfl
theorem wM_remove_11 : WP P 92 11 lo st w Q ↔ x_gi lo[1]? (fun x => WP P 92 12 lo (.int x :: st) w Q) := W_iload_n rfl rfl rfl
theorem wM_remove_12 : WP P 92 12 lo (.int x :: .ref (ra mo 1) :: r) (putR w mo S) Q ↔ ((0 ≤ x.toInt ∧ x.toInt < 128) ∧ WP P 92 13 lo (.int (xi (S 1 x.toInt.toNat)) :: r) (putR w mo S) Q) := R_iald rfl (by decide) rfl rfl rfl
theorem wM_remove_13 : WP P 92 13 lo (.int x :: r) w Q ↔ (3 < lo.length ∧ WP P 92 14 (lo.set 3 (some (.int x))) r w Q) := W_istore_n rfl rfl rfl
theorem wM_remove_14 : WP P 92 14 lo st w Q ↔ x_ga lo[0]? (fun v => WP P 92 15 lo (v :: st) w Q) := W_aload_n rfl rfl rfl
theorem wM_remove_15 : WP P 92 15 lo (.ref mo :: r) (putR w mo S) Q ↔ WP P 92 18 lo (.ref (ra mo 9) :: r) (putR w mo S) Q := R_get rfl rfl (by decide) rfl
theorem wM_remove_18 : WP P 92 18 lo st w Q ↔ x_gi lo[1]? (fun x => WP P 92 19 lo (.int x :: st) w Q) := W_iload_n rfl rfl rfl
theorem wM_remove_19 : WP P 92 19 lo st w Q ↔ WP P 92 20 lo (.int (xi 0) :: st) w Q := W_iconst rfl rfl rfl
theorem wM_remove_20 : WP P 92 20 lo (.int (xi z) :: .int x :: .ref (ra mo 9) :: r) (putR w mo S) Q ↔ ((xi z = xi 0 ∨ xi z = xi 1) ∧ (0 ≤ x.toInt ∧ x.toInt < 128) ∧ WP P 92 21 lo r (putR w mo (sset S 9 x.toInt.toNat z)) Q) := R_bast rfl (by decide) rfl rfl rfl
theorem wM_remove_21 : WP P 92 21 lo st w Q ↔ x_ga lo[0]? (fun v => WP P 92 22 lo (v :: st) w Q) := W_aload_n rfl rfl rfl
theorem wM_remove_22 : WP P 92 22 lo (.ref mo :: r) (putR w mo S) Q ↔ WP P 92 25 lo (.ref (ra mo 0) :: r) (putR w mo S) Q := R_get rfl rfl (by decide) rfl
theorem wM_remove_25 : WP P 92 25 lo st w Q ↔ x_gi lo[1]? (fun x => WP P 92 26 lo (.int x :: st) w Q) := W_iload_n rfl rfl rfl
theorem wM_remove_26 : WP P 92 26 lo st w Q ↔ WP P 92 27 lo (.int (xi (-1)) :: st) w Q := W_iconst rfl rfl rfl
theorem wM_remove_27 : WP P 92 27 lo (.int (xi z) :: .int x :: .ref (ra mo 0) :: r) (putR w mo S) Q ↔ ((0 ≤ x.toInt ∧ x.toInt < 128) ∧ WP P 92 28 lo r (putR w mo (sset S 0 x.toInt.toNat z)) Q) := R_iast rfl (by decide) rfl rfl rfl
theorem wM_remove_28 : WP P 92 28 lo st w Q ↔ WP P 92 29 lo (.int (xi 0) :: st) w Q := W_iconst rfl rfl rfl
theorem wM_remove_29 : WP P 92 29 lo (.int x :: r) w Q ↔ (4 < lo.length ∧ WP P 92 31 (lo.set 4 (some (.int x))) r w Q) := W_istore rfl rfl
theorem wM_remove_31 : WP P 92 31 lo st w Q ↔ x_gi lo[4]? (fun x => WP P 92 33 lo (.int x :: st) w Q) := W_iload rfl rfl
theorem wM_remove_33 : WP P 92 33 lo st w Q ↔ WP P 92 36 lo (.int (xi 128) :: st) w Q := W_sipush rfl rfl (by decide)
theorem wM_remove_36 : WP P 92 36 lo (.int y :: .int x :: r) w Q ↔ (if x < y then WP P 92 39 lo r w Q else WP P 92 79 lo r w Q) := W_ic_ge rfl rfl rfl
theorem wM_remove_39 : WP P 92 39 lo st w Q ↔ x_ga lo[0]? (fun v => WP P 92 40 lo (v :: st) w Q) := W_aload_n rfl rfl rfl
theorem wM_remove_40 : WP P 92 40 lo (.ref mo :: r) (putR w mo S) Q ↔ WP P 92 43 lo (.ref (ra mo 4) :: r) (putR w mo S) Q := R_get rfl rfl (by decide) rfl
theorem wM_remove_43 : WP P 92 43 lo st w Q ↔ x_gi lo[4]? (fun x => WP P 92 45 lo (.int x :: st) w Q) := W_iload rfl rfl
theorem wM_remove_45 : WP P 92 45 lo st w Q ↔ x_ga lo[0]? (fun v => WP P 92 46 lo (v :: st) w Q) := W_aload_n rfl rfl rfl
theorem wM_remove_46 : WP P 92 46 lo (.ref mo :: r) (putR w mo S) Q ↔ WP P 92 49 lo (.ref (ra mo 4) :: r) (putR w mo S) Q := R_get rfl rfl (by decide) rfl
theorem wM_remove_49 : WP P 92 49 lo st w Q ↔ x_gi lo[4]? (fun x => WP P 92 51 lo (.int x :: st) w Q) := W_iload rfl rfl
theorem wM_remove_51 : WP P 92 51 lo (.int x :: .ref (ra mo 4) :: r) (putR w mo S) Q ↔ ((0 ≤ x.toInt ∧ x.toInt < 128) ∧ WP P 92 52 lo (.int (xi (S 4 x.toInt.toNat)) :: r) (putR w mo S) Q) := R_iald rfl (by decide) rfl rfl rfl
theorem wM_remove_52 : WP P 92 52 lo st w Q ↔ x_gi lo[1]? (fun x => WP P 92 53 lo (.int x :: st) w Q) := W_iload_n rfl rfl rfl
theorem wM_remove_53 : WP P 92 53 lo (.int y :: .int x :: r) w Q ↔ (if x = y then WP P 92 56 lo r w Q else WP P 92 65 lo r w Q) := W_ic_ne rfl rfl rfl
theorem wM_remove_56 : WP P 92 56 lo st w Q ↔ x_ga lo[0]? (fun v => WP P 92 57 lo (v :: st) w Q) := W_aload_n rfl rfl rfl
theorem wM_remove_57 : WP P 92 57 lo (.ref mo :: r) (putR w mo S) Q ↔ WP P 92 60 lo (.ref (ra mo 4) :: r) (putR w mo S) Q := R_get rfl rfl (by decide) rfl
theorem wM_remove_60 : WP P 92 60 lo st w Q ↔ x_gi lo[1]? (fun x => WP P 92 61 lo (.int x :: st) w Q) := W_iload_n rfl rfl rfl
theorem wM_remove_61 : WP P 92 61 lo (.int x :: .ref (ra mo 4) :: r) (putR w mo S) Q ↔ ((0 ≤ x.toInt ∧ x.toInt < 128) ∧ WP P 92 62 lo (.int (xi (S 4 x.toInt.toNat)) :: r) (putR w mo S) Q) := R_iald rfl (by decide) rfl rfl rfl
theorem wM_remove_62 : WP P 92 62 lo st w Q ↔ WP P 92 72 lo st w Q := W_goto rfl rfl
theorem wM_remove_65 : WP P 92 65 lo st w Q ↔ x_ga lo[0]? (fun v => WP P 92 66 lo (v :: st) w Q) := W_aload_n rfl rfl rfl
theorem wM_remove_66 : WP P 92 66 lo (.ref mo :: r) (putR w mo S) Q ↔ WP P 92 69 lo (.ref (ra mo 4) :: r) (putR w mo S) Q := R_get rfl rfl (by decide) rfl
theorem wM_remove_69 : WP P 92 69 lo st w Q ↔ x_gi lo[4]? (fun x => WP P 92 71 lo (.int x :: st) w Q) := W_iload rfl rfl
theorem wM_remove_71 : WP P 92 71 lo (.int x :: .ref (ra mo 4) :: r) (putR w mo S) Q ↔ ((0 ≤ x.toInt ∧ x.toInt < 128) ∧ WP P 92 72 lo (.int (xi (S 4 x.toInt.toNat)) :: r) (putR w mo S) Q) := R_iald rfl (by decide) rfl rfl rfl
theorem wM_remove_72 : WP P 92 72 lo (.int (xi z) :: .int x :: .ref (ra mo 4) :: r) (putR w mo S) Q ↔ ((0 ≤ x.toInt ∧ x.toInt < 128) ∧ WP P 92 73 lo r (putR w mo (sset S 4 x.toInt.toNat z)) Q) := R_iast rfl (by decide) rfl rfl rfl
theorem wM_remove_73 : WP P 92 73 lo st w Q ↔ x_gi lo[4]? (fun x => WP P 92 76 (lo.set 4 (some (.int (x + xi 1)))) st w Q) := W_iinc rfl rfl
theorem wM_remove_76 : WP P 92 76 lo st w Q ↔ WP P 92 31 lo st w Q := W_goto rfl rfl
theorem wM_remove_79 : WP P 92 79 lo st w Q ↔ x_gi lo[2]? (fun x => WP P 92 80 lo (.int x :: st) w Q) := W_iload_n rfl rfl rfl
theorem wM_remove_80 : WP P 92 80 lo (.int x :: r) w Q ↔ (if x = xi 0 then WP P 92 92 lo r w Q else WP P 92 83 lo r w Q) := W_if_eq rfl rfl rfl
theorem wM_remove_83 : WP P 92 83 lo st w Q ↔ x_ga lo[0]? (fun v => WP P 92 84 lo (v :: st) w Q) := W_aload_n rfl rfl rfl
theorem wM_remove_84 : WP P 92 84 lo st w Q ↔ x_gi lo[2]? (fun x => WP P 92 85 lo (.int x :: st) w Q) := W_iload_n rfl rfl rfl
theorem wM_remove_85 : WP P 92 85 lo st w Q ↔ x_gi lo[3]? (fun x => WP P 92 86 lo (.int x :: st) w Q) := W_iload_n rfl rfl rfl
theorem wM_remove_86 {u1 u2 : Value} (hr : r.length ≤ 8) (hc : ([u1, u2] : List Value).all x_cat1 = true) (hc2 : r.all x_cat1 = true) (k : WP P 93 0 [some (.ref mo), some u1, some u2, none, none] [] (putR w mo S) (fun v w1 => WP P 92 89 lo (v.toList ++ r) w1 Q)) : WP P 92 86 lo (u2 :: u1 :: .ref mo :: r) (putR w mo S) Q := K_virt (as := [u1, u2]) rfl rfl rfl rfl (by decide) (by decide) rfl putR_tgM hr hc hc2 k
theorem wM_remove_89 : WP P 92 89 lo (.int x :: r) w Q ↔ (if xi 0 < x then WP P 92 92 lo r w Q else WP P 92 93 lo r w Q) := W_if_le rfl rfl rfl
theorem wM_remove_92 : WP P 92 92 lo [] w Q ↔ Q none w := WP_ret rfl rfl
theorem wM_remove_93 : WP P 92 93 lo st w Q ↔ WP P 92 94 lo (.int (xi 0) :: st) w Q := W_iconst rfl rfl rfl
theorem wM_remove_94 : WP P 92 94 lo (.int x :: r) w Q ↔ (4 < lo.length ∧ WP P 92 96 (lo.set 4 (some (.int x))) r w Q) := W_istore rfl rfl
theorem wM_remove_96 : WP P 92 96 lo st w Q ↔ x_gi lo[4]? (fun x => WP P 92 98 lo (.int x :: st) w Q) := W_iload rfl rfl
theorem wM_remove_98 : WP P 92 98 lo st w Q ↔ WP P 92 100 lo (.int (xi 16) :: st) w Q := W_bipush rfl rfl (by decide)
theorem wM_remove_100 : WP P 92 100 lo (.int y :: .int x :: r) w Q ↔ (if x < y then WP P 92 103 lo r w Q else WP P 92 257 lo r w Q) := W_ic_ge rfl rfl rfl
theorem wM_remove_103 : WP P 92 103 lo st w Q ↔ x_ga lo[0]? (fun v => WP P 92 104 lo (v :: st) w Q) := W_aload_n rfl rfl rfl
theorem wM_remove_104 : WP P 92 104 lo (.ref mo :: r) (putR w mo S) Q ↔ WP P 92 107 lo (.ref (ra mo 11) :: r) (putR w mo S) Q := R_get rfl rfl (by decide) rfl
theorem wM_remove_107 : WP P 92 107 lo st w Q ↔ x_gi lo[4]? (fun x => WP P 92 109 lo (.int x :: st) w Q) := W_iload rfl rfl
theorem wM_remove_109 : WP P 92 109 lo st w Q ↔ x_gi lo[2]? (fun x => WP P 92 110 lo (.int x :: st) w Q) := W_iload_n rfl rfl rfl
theorem wM_remove_110 : WP P 92 110 lo st w Q ↔ WP P 92 111 lo (.int (xi 1) :: st) w Q := W_iconst rfl rfl rfl
theorem wM_remove_111 : WP P 92 111 lo (.int y :: .int x :: r) w Q ↔ (if x = y then WP P 92 114 lo r w Q else WP P 92 129 lo r w Q) := W_ic_ne rfl rfl rfl
theorem wM_remove_114 : WP P 92 114 lo st w Q ↔ x_ga lo[0]? (fun v => WP P 92 115 lo (v :: st) w Q) := W_aload_n rfl rfl rfl
theorem wM_remove_115 : WP P 92 115 lo (.ref mo :: r) (putR w mo S) Q ↔ WP P 92 118 lo (.ref (ra mo 11) :: r) (putR w mo S) Q := R_get rfl rfl (by decide) rfl
theorem wM_remove_118 : WP P 92 118 lo st w Q ↔ x_gi lo[4]? (fun x => WP P 92 120 lo (.int x :: st) w Q) := W_iload rfl rfl
theorem wM_remove_120 : WP P 92 120 lo (.int x :: .ref (ra mo 11) :: r) (putR w mo S) Q ↔ ((0 ≤ x.toInt ∧ x.toInt < 16) ∧ WP P 92 121 lo (.int (xi (S 11 x.toInt.toNat)) :: r) (putR w mo S) Q) := R_iald rfl (by decide) rfl rfl rfl
theorem wM_remove_121 : WP P 92 121 lo st w Q ↔ x_gi lo[3]? (fun x => WP P 92 122 lo (.int x :: st) w Q) := W_iload_n rfl rfl rfl
theorem wM_remove_122 : WP P 92 122 lo (.int y :: .int x :: r) w Q ↔ (if x = y then WP P 92 125 lo r w Q else WP P 92 129 lo r w Q) := W_ic_ne rfl rfl rfl
theorem wM_remove_125 : WP P 92 125 lo st w Q ↔ WP P 92 126 lo (.int (xi (-1)) :: st) w Q := W_iconst rfl rfl rfl
theorem wM_remove_126 : WP P 92 126 lo st w Q ↔ WP P 92 136 lo st w Q := W_goto rfl rfl
theorem wM_remove_129 : WP P 92 129 lo st w Q ↔ x_ga lo[0]? (fun v => WP P 92 130 lo (v :: st) w Q) := W_aload_n rfl rfl rfl
theorem wM_remove_130 : WP P 92 130 lo (.ref mo :: r) (putR w mo S) Q ↔ WP P 92 133 lo (.ref (ra mo 11) :: r) (putR w mo S) Q := R_get rfl rfl (by decide) rfl
theorem wM_remove_133 : WP P 92 133 lo st w Q ↔ x_gi lo[4]? (fun x => WP P 92 135 lo (.int x :: st) w Q) := W_iload rfl rfl
theorem wM_remove_135 : WP P 92 135 lo (.int x :: .ref (ra mo 11) :: r) (putR w mo S) Q ↔ ((0 ≤ x.toInt ∧ x.toInt < 16) ∧ WP P 92 136 lo (.int (xi (S 11 x.toInt.toNat)) :: r) (putR w mo S) Q) := R_iald rfl (by decide) rfl rfl rfl
theorem wM_remove_136 : WP P 92 136 lo (.int (xi z) :: .int x :: .ref (ra mo 11) :: r) (putR w mo S) Q ↔ ((0 ≤ x.toInt ∧ x.toInt < 16) ∧ WP P 92 137 lo r (putR w mo (sset S 11 x.toInt.toNat z)) Q) := R_iast rfl (by decide) rfl rfl rfl
theorem wM_remove_137 : WP P 92 137 lo st w Q ↔ x_ga lo[0]? (fun v => WP P 92 138 lo (v :: st) w Q) := W_aload_n rfl rfl rfl
theorem wM_remove_138 : WP P 92 138 lo (.ref mo :: r) (putR w mo S) Q ↔ WP P 92 141 lo (.ref (ra mo 12) :: r) (putR w mo S) Q := R_get rfl rfl (by decide) rfl
theorem wM_remove_141 : WP P 92 141 lo st w Q ↔ x_gi lo[4]? (fun x => WP P 92 143 lo (.int x :: st) w Q) := W_iload rfl rfl
theorem wM_remove_143 : WP P 92 143 lo st w Q ↔ x_gi lo[2]? (fun x => WP P 92 144 lo (.int x :: st) w Q) := W_iload_n rfl rfl rfl
theorem wM_remove_144 : WP P 92 144 lo st w Q ↔ WP P 92 145 lo (.int (xi 5) :: st) w Q := W_iconst rfl rfl rfl
theorem wM_remove_145 : WP P 92 145 lo (.int y :: .int x :: r) w Q ↔ (if x = y then WP P 92 148 lo r w Q else WP P 92 163 lo r w Q) := W_ic_ne rfl rfl rfl
theorem wM_remove_148 : WP P 92 148 lo st w Q ↔ x_ga lo[0]? (fun v => WP P 92 149 lo (v :: st) w Q) := W_aload_n rfl rfl rfl
theorem wM_remove_149 : WP P 92 149 lo (.ref mo :: r) (putR w mo S) Q ↔ WP P 92 152 lo (.ref (ra mo 12) :: r) (putR w mo S) Q := R_get rfl rfl (by decide) rfl
theorem wM_remove_152 : WP P 92 152 lo st w Q ↔ x_gi lo[4]? (fun x => WP P 92 154 lo (.int x :: st) w Q) := W_iload rfl rfl
theorem wM_remove_154 : WP P 92 154 lo (.int x :: .ref (ra mo 12) :: r) (putR w mo S) Q ↔ ((0 ≤ x.toInt ∧ x.toInt < 16) ∧ WP P 92 155 lo (.int (xi (S 12 x.toInt.toNat)) :: r) (putR w mo S) Q) := R_iald rfl (by decide) rfl rfl rfl
theorem wM_remove_155 : WP P 92 155 lo st w Q ↔ x_gi lo[3]? (fun x => WP P 92 156 lo (.int x :: st) w Q) := W_iload_n rfl rfl rfl
theorem wM_remove_156 : WP P 92 156 lo (.int y :: .int x :: r) w Q ↔ (if x = y then WP P 92 159 lo r w Q else WP P 92 163 lo r w Q) := W_ic_ne rfl rfl rfl
theorem wM_remove_159 : WP P 92 159 lo st w Q ↔ WP P 92 160 lo (.int (xi (-1)) :: st) w Q := W_iconst rfl rfl rfl
theorem wM_remove_160 : WP P 92 160 lo st w Q ↔ WP P 92 170 lo st w Q := W_goto rfl rfl
theorem wM_remove_163 : WP P 92 163 lo st w Q ↔ x_ga lo[0]? (fun v => WP P 92 164 lo (v :: st) w Q) := W_aload_n rfl rfl rfl
theorem wM_remove_164 : WP P 92 164 lo (.ref mo :: r) (putR w mo S) Q ↔ WP P 92 167 lo (.ref (ra mo 12) :: r) (putR w mo S) Q := R_get rfl rfl (by decide) rfl
theorem wM_remove_167 : WP P 92 167 lo st w Q ↔ x_gi lo[4]? (fun x => WP P 92 169 lo (.int x :: st) w Q) := W_iload rfl rfl
theorem wM_remove_169 : WP P 92 169 lo (.int x :: .ref (ra mo 12) :: r) (putR w mo S) Q ↔ ((0 ≤ x.toInt ∧ x.toInt < 16) ∧ WP P 92 170 lo (.int (xi (S 12 x.toInt.toNat)) :: r) (putR w mo S) Q) := R_iald rfl (by decide) rfl rfl rfl
theorem wM_remove_170 : WP P 92 170 lo (.int (xi z) :: .int x :: .ref (ra mo 12) :: r) (putR w mo S) Q ↔ ((0 ≤ x.toInt ∧ x.toInt < 16) ∧ WP P 92 171 lo r (putR w mo (sset S 12 x.toInt.toNat z)) Q) := R_iast rfl (by decide) rfl rfl rfl
theorem wM_remove_171 : WP P 92 171 lo st w Q ↔ x_gi lo[2]? (fun x => WP P 92 172 lo (.int x :: st) w Q) := W_iload_n rfl rfl rfl
theorem wM_remove_172 : WP P 92 172 lo st w Q ↔ WP P 92 173 lo (.int (xi 3) :: st) w Q := W_iconst rfl rfl rfl
theorem wM_remove_173 : WP P 92 173 lo (.int y :: .int x :: r) w Q ↔ (if x = y then WP P 92 181 lo r w Q else WP P 92 176 lo r w Q) := W_ic_eq rfl rfl rfl
theorem wM_remove_176 : WP P 92 176 lo st w Q ↔ x_gi lo[2]? (fun x => WP P 92 177 lo (.int x :: st) w Q) := W_iload_n rfl rfl rfl
theorem wM_remove_177 : WP P 92 177 lo st w Q ↔ WP P 92 178 lo (.int (xi 4) :: st) w Q := W_iconst rfl rfl rfl
theorem wM_remove_178 : WP P 92 178 lo (.int y :: .int x :: r) w Q ↔ (if x = y then WP P 92 181 lo r w Q else WP P 92 207 lo r w Q) := W_ic_ne rfl rfl rfl
theorem wM_remove_181 : WP P 92 181 lo st w Q ↔ x_ga lo[0]? (fun v => WP P 92 182 lo (v :: st) w Q) := W_aload_n rfl rfl rfl
theorem wM_remove_182 : WP P 92 182 lo (.ref mo :: r) (putR w mo S) Q ↔ WP P 92 185 lo (.ref (ra mo 10) :: r) (putR w mo S) Q := R_get rfl rfl (by decide) rfl
theorem wM_remove_185 : WP P 92 185 lo st w Q ↔ x_gi lo[4]? (fun x => WP P 92 187 lo (.int x :: st) w Q) := W_iload rfl rfl
theorem wM_remove_187 : WP P 92 187 lo (.int x :: .ref (ra mo 10) :: r) (putR w mo S) Q ↔ ((0 ≤ x.toInt ∧ x.toInt < 16) ∧ WP P 92 188 lo (.int (xi (S 10 x.toInt.toNat)) :: r) (putR w mo S) Q) := R_iald rfl (by decide) rfl rfl rfl
theorem wM_remove_188 : WP P 92 188 lo st w Q ↔ WP P 92 189 lo (.int (xi 3) :: st) w Q := W_iconst rfl rfl rfl
theorem wM_remove_189 : WP P 92 189 lo (.int y :: .int x :: r) w Q ↔ (if x < y then WP P 92 207 lo r w Q else WP P 92 192 lo r w Q) := W_ic_lt rfl rfl rfl
theorem wM_remove_192 : WP P 92 192 lo st w Q ↔ x_ga lo[0]? (fun v => WP P 92 193 lo (v :: st) w Q) := W_aload_n rfl rfl rfl
theorem wM_remove_193 : WP P 92 193 lo (.ref mo :: r) (putR w mo S) Q ↔ WP P 92 196 lo (.ref (ra mo 19) :: r) (putR w mo S) Q := R_get rfl rfl (by decide) rfl
theorem wM_remove_196 : WP P 92 196 lo st w Q ↔ x_gi lo[4]? (fun x => WP P 92 198 lo (.int x :: st) w Q) := W_iload rfl rfl
theorem wM_remove_198 : WP P 92 198 lo (.int x :: .ref (ra mo 19) :: r) (putR w mo S) Q ↔ ((0 ≤ x.toInt ∧ x.toInt < 16) ∧ WP P 92 199 lo (.int (xi (S 19 x.toInt.toNat)) :: r) (putR w mo S) Q) := R_iald rfl (by decide) rfl rfl rfl
theorem wM_remove_199 : WP P 92 199 lo st w Q ↔ x_gi lo[3]? (fun x => WP P 92 200 lo (.int x :: st) w Q) := W_iload_n rfl rfl rfl
theorem wM_remove_200 : WP P 92 200 lo (.int y :: .int x :: r) w Q ↔ (if x = y then WP P 92 203 lo r w Q else WP P 92 207 lo r w Q) := W_ic_ne rfl rfl rfl
theorem wM_remove_203 : WP P 92 203 lo st w Q ↔ WP P 92 204 lo (.int (xi 1) :: st) w Q := W_iconst rfl rfl rfl
theorem wM_remove_204 : WP P 92 204 lo st w Q ↔ WP P 92 208 lo st w Q := W_goto rfl rfl
theorem wM_remove_207 : WP P 92 207 lo st w Q ↔ WP P 92 208 lo (.int (xi 0) :: st) w Q := W_iconst rfl rfl rfl
theorem wM_remove_208 : WP P 92 208 lo (.int x :: r) w Q ↔ (5 < lo.length ∧ WP P 92 210 (lo.set 5 (some (.int x))) r w Q) := W_istore rfl rfl
theorem wM_remove_210 : WP P 92 210 lo st w Q ↔ x_ga lo[0]? (fun v => WP P 92 211 lo (v :: st) w Q) := W_aload_n rfl rfl rfl
theorem wM_remove_211 : WP P 92 211 lo (.ref mo :: r) (putR w mo S) Q ↔ WP P 92 214 lo (.ref (ra mo 10) :: r) (putR w mo S) Q := R_get rfl rfl (by decide) rfl
theorem wM_remove_214 : WP P 92 214 lo st w Q ↔ x_gi lo[4]? (fun x => WP P 92 216 lo (.int x :: st) w Q) := W_iload rfl rfl
theorem wM_remove_216 : WP P 92 216 lo st w Q ↔ x_gi lo[5]? (fun x => WP P 92 218 lo (.int x :: st) w Q) := W_iload rfl rfl
theorem wM_remove_218 : WP P 92 218 lo (.int x :: r) w Q ↔ (if x = xi 0 then WP P 92 225 lo r w Q else WP P 92 221 lo r w Q) := W_if_eq rfl rfl rfl
theorem wM_remove_221 : WP P 92 221 lo st w Q ↔ WP P 92 222 lo (.int (xi 1) :: st) w Q := W_iconst rfl rfl rfl
theorem wM_remove_222 : WP P 92 222 lo st w Q ↔ WP P 92 250 lo st w Q := W_goto rfl rfl
theorem wM_remove_225 : WP P 92 225 lo st w Q ↔ x_gi lo[2]? (fun x => WP P 92 226 lo (.int x :: st) w Q) := W_iload_n rfl rfl rfl
theorem wM_remove_226 : WP P 92 226 lo st w Q ↔ WP P 92 227 lo (.int (xi 2) :: st) w Q := W_iconst rfl rfl rfl
theorem wM_remove_227 : WP P 92 227 lo (.int y :: .int x :: r) w Q ↔ (if x = y then WP P 92 230 lo r w Q else WP P 92 243 lo r w Q) := W_ic_ne rfl rfl rfl
theorem wM_remove_230 : WP P 92 230 lo st w Q ↔ x_gi lo[4]? (fun x => WP P 92 232 lo (.int x :: st) w Q) := W_iload rfl rfl
theorem wM_remove_232 : WP P 92 232 lo st w Q ↔ x_gi lo[3]? (fun x => WP P 92 233 lo (.int x :: st) w Q) := W_iload_n rfl rfl rfl
theorem wM_remove_233 : WP P 92 233 lo st w Q ↔ WP P 92 235 lo (.int (xi 8) :: st) w Q := W_bipush rfl rfl (by decide)
theorem wM_remove_235 : WP P 92 235 lo (.int y :: .int x :: r) w Q ↔ (¬ y = 0 ∧ WP P 92 236 lo (.int (x / y) :: r) w Q) := W_idiv rfl rfl
theorem wM_remove_236 : WP P 92 236 lo (.int y :: .int x :: r) w Q ↔ (if x = y then WP P 92 239 lo r w Q else WP P 92 243 lo r w Q) := W_ic_ne rfl rfl rfl
theorem wM_remove_239 : WP P 92 239 lo st w Q ↔ WP P 92 240 lo (.int (xi 0) :: st) w Q := W_iconst rfl rfl rfl
theorem wM_remove_240 : WP P 92 240 lo st w Q ↔ WP P 92 250 lo st w Q := W_goto rfl rfl
theorem wM_remove_243 : WP P 92 243 lo st w Q ↔ x_ga lo[0]? (fun v => WP P 92 244 lo (v :: st) w Q) := W_aload_n rfl rfl rfl
theorem wM_remove_244 : WP P 92 244 lo (.ref mo :: r) (putR w mo S) Q ↔ WP P 92 247 lo (.ref (ra mo 10) :: r) (putR w mo S) Q := R_get rfl rfl (by decide) rfl
theorem wM_remove_247 : WP P 92 247 lo st w Q ↔ x_gi lo[4]? (fun x => WP P 92 249 lo (.int x :: st) w Q) := W_iload rfl rfl
theorem wM_remove_249 : WP P 92 249 lo (.int x :: .ref (ra mo 10) :: r) (putR w mo S) Q ↔ ((0 ≤ x.toInt ∧ x.toInt < 16) ∧ WP P 92 250 lo (.int (xi (S 10 x.toInt.toNat)) :: r) (putR w mo S) Q) := R_iald rfl (by decide) rfl rfl rfl
theorem wM_remove_250 : WP P 92 250 lo (.int (xi z) :: .int x :: .ref (ra mo 10) :: r) (putR w mo S) Q ↔ ((0 ≤ x.toInt ∧ x.toInt < 16) ∧ WP P 92 251 lo r (putR w mo (sset S 10 x.toInt.toNat z)) Q) := R_iast rfl (by decide) rfl rfl rfl
theorem wM_remove_251 : WP P 92 251 lo st w Q ↔ x_gi lo[4]? (fun x => WP P 92 254 (lo.set 4 (some (.int (x + xi 1)))) st w Q) := W_iinc rfl rfl
theorem wM_remove_254 : WP P 92 254 lo st w Q ↔ WP P 92 96 lo st w Q := W_goto rfl rfl
theorem wM_remove_257 : WP P 92 257 lo st w Q ↔ WP P 92 258 lo (.int (xi 0) :: st) w Q := W_iconst rfl rfl rfl
theorem wM_remove_258 : WP P 92 258 lo (.int x :: r) w Q ↔ (4 < lo.length ∧ WP P 92 260 (lo.set 4 (some (.int x))) r w Q) := W_istore rfl rfl
theorem wM_remove_260 : WP P 92 260 lo st w Q ↔ x_gi lo[4]? (fun x => WP P 92 262 lo (.int x :: st) w Q) := W_iload rfl rfl
theorem wM_remove_262 : WP P 92 262 lo st w Q ↔ WP P 92 265 lo (.int (xi 128) :: st) w Q := W_sipush rfl rfl (by decide)
theorem wM_remove_265 : WP P 92 265 lo (.int y :: .int x :: r) w Q ↔ (if x < y then WP P 92 268 lo r w Q else WP P 92 358 lo r w Q) := W_ic_ge rfl rfl rfl
theorem wM_remove_268 : WP P 92 268 lo st w Q ↔ x_ga lo[0]? (fun v => WP P 92 269 lo (v :: st) w Q) := W_aload_n rfl rfl rfl
theorem wM_remove_269 : WP P 92 269 lo (.ref mo :: r) (putR w mo S) Q ↔ WP P 92 272 lo (.ref (ra mo 9) :: r) (putR w mo S) Q := R_get rfl rfl (by decide) rfl
theorem wM_remove_272 : WP P 92 272 lo st w Q ↔ x_gi lo[4]? (fun x => WP P 92 274 lo (.int x :: st) w Q) := W_iload rfl rfl
theorem wM_remove_274 : WP P 92 274 lo st w Q ↔ x_ga lo[0]? (fun v => WP P 92 275 lo (v :: st) w Q) := W_aload_n rfl rfl rfl
theorem wM_remove_275 : WP P 92 275 lo (.ref mo :: r) (putR w mo S) Q ↔ WP P 92 278 lo (.ref (ra mo 9) :: r) (putR w mo S) Q := R_get rfl rfl (by decide) rfl
theorem wM_remove_278 : WP P 92 278 lo st w Q ↔ x_gi lo[4]? (fun x => WP P 92 280 lo (.int x :: st) w Q) := W_iload rfl rfl
theorem wM_remove_280 : WP P 92 280 lo (.int x :: .ref (ra mo 9) :: r) (putR w mo S) Q ↔ ((0 ≤ x.toInt ∧ x.toInt < 128) ∧ WP P 92 281 lo (.int (xi (S 9 x.toInt.toNat)) :: r) (putR w mo S) Q) := R_bald rfl (by decide) rfl rfl rfl
theorem wM_remove_281 : WP P 92 281 lo (.int x :: r) w Q ↔ (if x = xi 0 then WP P 92 284 lo r w Q else WP P 92 311 lo r w Q) := W_if_ne rfl rfl rfl
theorem wM_remove_284 : WP P 92 284 lo st w Q ↔ x_gi lo[2]? (fun x => WP P 92 285 lo (.int x :: st) w Q) := W_iload_n rfl rfl rfl
theorem wM_remove_285 : WP P 92 285 lo st w Q ↔ WP P 92 286 lo (.int (xi 1) :: st) w Q := W_iconst rfl rfl rfl
theorem wM_remove_286 : WP P 92 286 lo (.int y :: .int x :: r) w Q ↔ (if x = y then WP P 92 289 lo r w Q else WP P 92 315 lo r w Q) := W_ic_ne rfl rfl rfl
theorem wM_remove_289 : WP P 92 289 lo st w Q ↔ x_gi lo[4]? (fun x => WP P 92 291 lo (.int x :: st) w Q) := W_iload rfl rfl
theorem wM_remove_291 : WP P 92 291 lo st w Q ↔ WP P 92 293 lo (.int (xi 16) :: st) w Q := W_bipush rfl rfl (by decide)
theorem wM_remove_293 : WP P 92 293 lo (.int y :: .int x :: r) w Q ↔ (¬ y = 0 ∧ WP P 92 294 lo (.int (x / y) :: r) w Q) := W_idiv rfl rfl
theorem wM_remove_294 : WP P 92 294 lo st w Q ↔ x_gi lo[3]? (fun x => WP P 92 295 lo (.int x :: st) w Q) := W_iload_n rfl rfl rfl
theorem wM_remove_295 : WP P 92 295 lo st w Q ↔ WP P 92 297 lo (.int (xi 16) :: st) w Q := W_bipush rfl rfl (by decide)
theorem wM_remove_297 : WP P 92 297 lo (.int y :: .int x :: r) w Q ↔ (¬ y = 0 ∧ WP P 92 298 lo (.int (x / y) :: r) w Q) := W_idiv rfl rfl
theorem wM_remove_298 : WP P 92 298 lo (.int y :: .int x :: r) w Q ↔ (if x = y then WP P 92 301 lo r w Q else WP P 92 315 lo r w Q) := W_ic_ne rfl rfl rfl
theorem wM_remove_301 : WP P 92 301 lo st w Q ↔ x_ga lo[0]? (fun v => WP P 92 302 lo (v :: st) w Q) := W_aload_n rfl rfl rfl
theorem wM_remove_302 : WP P 92 302 lo (.ref mo :: r) (putR w mo S) Q ↔ WP P 92 305 lo (.ref (ra mo 0) :: r) (putR w mo S) Q := R_get rfl rfl (by decide) rfl
theorem wM_remove_305 : WP P 92 305 lo st w Q ↔ x_gi lo[4]? (fun x => WP P 92 307 lo (.int x :: st) w Q) := W_iload rfl rfl
theorem wM_remove_307 : WP P 92 307 lo (.int x :: .ref (ra mo 0) :: r) (putR w mo S) Q ↔ ((0 ≤ x.toInt ∧ x.toInt < 128) ∧ WP P 92 308 lo (.int (xi (S 0 x.toInt.toNat)) :: r) (putR w mo S) Q) := R_iald rfl (by decide) rfl rfl rfl
theorem wM_remove_308 : WP P 92 308 lo (.int x :: r) w Q ↔ (if x < xi 0 then WP P 92 315 lo r w Q else WP P 92 311 lo r w Q) := W_if_lt rfl rfl rfl
theorem wM_remove_311 : WP P 92 311 lo st w Q ↔ WP P 92 312 lo (.int (xi 1) :: st) w Q := W_iconst rfl rfl rfl
theorem wM_remove_312 : WP P 92 312 lo st w Q ↔ WP P 92 316 lo st w Q := W_goto rfl rfl
theorem wM_remove_315 : WP P 92 315 lo st w Q ↔ WP P 92 316 lo (.int (xi 0) :: st) w Q := W_iconst rfl rfl rfl
theorem wM_remove_316 : WP P 92 316 lo (.int (xi z) :: .int x :: .ref (ra mo 9) :: r) (putR w mo S) Q ↔ ((xi z = xi 0 ∨ xi z = xi 1) ∧ (0 ≤ x.toInt ∧ x.toInt < 128) ∧ WP P 92 317 lo r (putR w mo (sset S 9 x.toInt.toNat z)) Q) := R_bast rfl (by decide) rfl rfl rfl
theorem wM_remove_317 : WP P 92 317 lo st w Q ↔ x_ga lo[0]? (fun v => WP P 92 318 lo (v :: st) w Q) := W_aload_n rfl rfl rfl
theorem wM_remove_318 : WP P 92 318 lo (.ref mo :: r) (putR w mo S) Q ↔ WP P 92 321 lo (.ref (ra mo 7) :: r) (putR w mo S) Q := R_get rfl rfl (by decide) rfl
theorem wM_remove_321 : WP P 92 321 lo st w Q ↔ x_gi lo[4]? (fun x => WP P 92 323 lo (.int x :: st) w Q) := W_iload rfl rfl
theorem wM_remove_323 : WP P 92 323 lo st w Q ↔ x_gi lo[2]? (fun x => WP P 92 324 lo (.int x :: st) w Q) := W_iload_n rfl rfl rfl
theorem wM_remove_324 : WP P 92 324 lo st w Q ↔ WP P 92 326 lo (.int (xi 6) :: st) w Q := W_bipush rfl rfl (by decide)
theorem wM_remove_326 : WP P 92 326 lo (.int y :: .int x :: r) w Q ↔ (if x = y then WP P 92 329 lo r w Q else WP P 92 344 lo r w Q) := W_ic_ne rfl rfl rfl
theorem wM_remove_329 : WP P 92 329 lo st w Q ↔ x_ga lo[0]? (fun v => WP P 92 330 lo (v :: st) w Q) := W_aload_n rfl rfl rfl
theorem wM_remove_330 : WP P 92 330 lo (.ref mo :: r) (putR w mo S) Q ↔ WP P 92 333 lo (.ref (ra mo 7) :: r) (putR w mo S) Q := R_get rfl rfl (by decide) rfl
theorem wM_remove_333 : WP P 92 333 lo st w Q ↔ x_gi lo[4]? (fun x => WP P 92 335 lo (.int x :: st) w Q) := W_iload rfl rfl
theorem wM_remove_335 : WP P 92 335 lo (.int x :: .ref (ra mo 7) :: r) (putR w mo S) Q ↔ ((0 ≤ x.toInt ∧ x.toInt < 128) ∧ WP P 92 336 lo (.int (xi (S 7 x.toInt.toNat)) :: r) (putR w mo S) Q) := R_iald rfl (by decide) rfl rfl rfl
theorem wM_remove_336 : WP P 92 336 lo st w Q ↔ x_gi lo[3]? (fun x => WP P 92 337 lo (.int x :: st) w Q) := W_iload_n rfl rfl rfl
theorem wM_remove_337 : WP P 92 337 lo (.int y :: .int x :: r) w Q ↔ (if x = y then WP P 92 340 lo r w Q else WP P 92 344 lo r w Q) := W_ic_ne rfl rfl rfl
theorem wM_remove_340 : WP P 92 340 lo st w Q ↔ WP P 92 341 lo (.int (xi (-1)) :: st) w Q := W_iconst rfl rfl rfl
theorem wM_remove_341 : WP P 92 341 lo st w Q ↔ WP P 92 351 lo st w Q := W_goto rfl rfl
theorem wM_remove_344 : WP P 92 344 lo st w Q ↔ x_ga lo[0]? (fun v => WP P 92 345 lo (v :: st) w Q) := W_aload_n rfl rfl rfl
theorem wM_remove_345 : WP P 92 345 lo (.ref mo :: r) (putR w mo S) Q ↔ WP P 92 348 lo (.ref (ra mo 7) :: r) (putR w mo S) Q := R_get rfl rfl (by decide) rfl
theorem wM_remove_348 : WP P 92 348 lo st w Q ↔ x_gi lo[4]? (fun x => WP P 92 350 lo (.int x :: st) w Q) := W_iload rfl rfl
theorem wM_remove_350 : WP P 92 350 lo (.int x :: .ref (ra mo 7) :: r) (putR w mo S) Q ↔ ((0 ≤ x.toInt ∧ x.toInt < 128) ∧ WP P 92 351 lo (.int (xi (S 7 x.toInt.toNat)) :: r) (putR w mo S) Q) := R_iald rfl (by decide) rfl rfl rfl
theorem wM_remove_351 : WP P 92 351 lo (.int (xi z) :: .int x :: .ref (ra mo 7) :: r) (putR w mo S) Q ↔ ((0 ≤ x.toInt ∧ x.toInt < 128) ∧ WP P 92 352 lo r (putR w mo (sset S 7 x.toInt.toNat z)) Q) := R_iast rfl (by decide) rfl rfl rfl
theorem wM_remove_352 : WP P 92 352 lo st w Q ↔ x_gi lo[4]? (fun x => WP P 92 355 (lo.set 4 (some (.int (x + xi 1)))) st w Q) := W_iinc rfl rfl
theorem wM_remove_355 : WP P 92 355 lo st w Q ↔ WP P 92 260 lo st w Q := W_goto rfl rfl
theorem wM_remove_358 : WP P 92 358 lo st w Q ↔ WP P 92 359 lo (.int (xi 0) :: st) w Q := W_iconst rfl rfl rfl
theorem wM_remove_359 : WP P 92 359 lo (.int x :: r) w Q ↔ (4 < lo.length ∧ WP P 92 361 (lo.set 4 (some (.int x))) r w Q) := W_istore rfl rfl
theorem wM_remove_361 : WP P 92 361 lo st w Q ↔ x_gi lo[4]? (fun x => WP P 92 363 lo (.int x :: st) w Q) := W_iload rfl rfl
theorem wM_remove_363 : WP P 92 363 lo st w Q ↔ WP P 92 365 lo (.int (xi 32) :: st) w Q := W_bipush rfl rfl (by decide)
theorem wM_remove_365 : WP P 92 365 lo (.int y :: .int x :: r) w Q ↔ (if x < y then WP P 92 368 lo r w Q else WP P 92 422 lo r w Q) := W_ic_ge rfl rfl rfl
set_option maxRecDepth 20000 in
theorem wM_remove_368 : WP P 92 368 lo st w Q ↔ x_ga lo[0]? (fun v => WP P 92 369 lo (v :: st) w Q) := W_aload_n rfl rfl rfl
set_option maxRecDepth 20000 in
theorem wM_remove_369 : WP P 92 369 lo (.ref mo :: r) (putR w mo S) Q ↔ WP P 92 372 lo (.ref (ra mo 25) :: r) (putR w mo S) Q := R_get rfl rfl (by decide) rfl
set_option maxRecDepth 20000 in
theorem wM_remove_372 : WP P 92 372 lo st w Q ↔ x_gi lo[4]? (fun x => WP P 92 374 lo (.int x :: st) w Q) := W_iload rfl rfl
set_option maxRecDepth 20000 in
theorem wM_remove_374 : WP P 92 374 lo st w Q ↔ x_gi lo[2]? (fun x => WP P 92 375 lo (.int x :: st) w Q) := W_iload_n rfl rfl rfl
set_option maxRecDepth 20000 in
theorem wM_remove_375 : WP P 92 375 lo st w Q ↔ WP P 92 377 lo (.int (xi 6) :: st) w Q := W_bipush rfl rfl (by decide)
set_option maxRecDepth 20000 in
theorem wM_remove_377 : WP P 92 377 lo (.int y :: .int x :: r) w Q ↔ (if x = y then WP P 92 380 lo r w Q else WP P 92 388 lo r w Q) := W_ic_ne rfl rfl rfl
set_option maxRecDepth 20000 in
theorem wM_remove_380 : WP P 92 380 lo st w Q ↔ x_gi lo[4]? (fun x => WP P 92 382 lo (.int x :: st) w Q) := W_iload rfl rfl
set_option maxRecDepth 20000 in
theorem wM_remove_382 : WP P 92 382 lo st w Q ↔ x_gi lo[3]? (fun x => WP P 92 383 lo (.int x :: st) w Q) := W_iload_n rfl rfl rfl
set_option maxRecDepth 20000 in
theorem wM_remove_383 : WP P 92 383 lo st w Q ↔ WP P 92 384 lo (.int (xi 4) :: st) w Q := W_iconst rfl rfl rfl
set_option maxRecDepth 20000 in
theorem wM_remove_384 : WP P 92 384 lo (.int y :: .int x :: r) w Q ↔ (¬ y = 0 ∧ WP P 92 385 lo (.int (x / y) :: r) w Q) := W_idiv rfl rfl
set_option maxRecDepth 20000 in
theorem wM_remove_385 : WP P 92 385 lo (.int y :: .int x :: r) w Q ↔ (if x = y then WP P 92 404 lo r w Q else WP P 92 388 lo r w Q) := W_ic_eq rfl rfl rfl
set_option maxRecDepth 20000 in
theorem wM_remove_388 : WP P 92 388 lo st w Q ↔ x_gi lo[2]? (fun x => WP P 92 389 lo (.int x :: st) w Q) := W_iload_n rfl rfl rfl
set_option maxRecDepth 20000 in
theorem wM_remove_389 : WP P 92 389 lo st w Q ↔ WP P 92 390 lo (.int (xi 5) :: st) w Q := W_iconst rfl rfl rfl
set_option maxRecDepth 20000 in
theorem wM_remove_390 : WP P 92 390 lo (.int y :: .int x :: r) w Q ↔ (if x = y then WP P 92 393 lo r w Q else WP P 92 408 lo r w Q) := W_ic_ne rfl rfl rfl
set_option maxRecDepth 20000 in
theorem wM_remove_393 : WP P 92 393 lo st w Q ↔ x_ga lo[0]? (fun v => WP P 92 394 lo (v :: st) w Q) := W_aload_n rfl rfl rfl
set_option maxRecDepth 20000 in
theorem wM_remove_394 : WP P 92 394 lo (.ref mo :: r) (putR w mo S) Q ↔ WP P 92 397 lo (.ref (ra mo 25) :: r) (putR w mo S) Q := R_get rfl rfl (by decide) rfl
set_option maxRecDepth 20000 in
theorem wM_remove_397 : WP P 92 397 lo st w Q ↔ x_gi lo[4]? (fun x => WP P 92 399 lo (.int x :: st) w Q) := W_iload rfl rfl
set_option maxRecDepth 20000 in
theorem wM_remove_399 : WP P 92 399 lo (.int x :: .ref (ra mo 25) :: r) (putR w mo S) Q ↔ ((0 ≤ x.toInt ∧ x.toInt < 32) ∧ WP P 92 400 lo (.int (xi (S 25 x.toInt.toNat)) :: r) (putR w mo S) Q) := R_iald rfl (by decide) rfl rfl rfl
set_option maxRecDepth 20000 in
theorem wM_remove_400 : WP P 92 400 lo st w Q ↔ x_gi lo[3]? (fun x => WP P 92 401 lo (.int x :: st) w Q) := W_iload_n rfl rfl rfl
set_option maxRecDepth 20000 in
theorem wM_remove_401 : WP P 92 401 lo (.int y :: .int x :: r) w Q ↔ (if x = y then WP P 92 404 lo r w Q else WP P 92 408 lo r w Q) := W_ic_ne rfl rfl rfl
set_option maxRecDepth 20000 in
theorem wM_remove_404 : WP P 92 404 lo st w Q ↔ WP P 92 405 lo (.int (xi (-1)) :: st) w Q := W_iconst rfl rfl rfl
set_option maxRecDepth 20000 in
theorem wM_remove_405 : WP P 92 405 lo st w Q ↔ WP P 92 415 lo st w Q := W_goto rfl rfl
set_option maxRecDepth 20000 in
theorem wM_remove_408 : WP P 92 408 lo st w Q ↔ x_ga lo[0]? (fun v => WP P 92 409 lo (v :: st) w Q) := W_aload_n rfl rfl rfl
set_option maxRecDepth 20000 in
theorem wM_remove_409 : WP P 92 409 lo (.ref mo :: r) (putR w mo S) Q ↔ WP P 92 412 lo (.ref (ra mo 25) :: r) (putR w mo S) Q := R_get rfl rfl (by decide) rfl
set_option maxRecDepth 20000 in
theorem wM_remove_412 : WP P 92 412 lo st w Q ↔ x_gi lo[4]? (fun x => WP P 92 414 lo (.int x :: st) w Q) := W_iload rfl rfl
set_option maxRecDepth 20000 in
theorem wM_remove_414 : WP P 92 414 lo (.int x :: .ref (ra mo 25) :: r) (putR w mo S) Q ↔ ((0 ≤ x.toInt ∧ x.toInt < 32) ∧ WP P 92 415 lo (.int (xi (S 25 x.toInt.toNat)) :: r) (putR w mo S) Q) := R_iald rfl (by decide) rfl rfl rfl
set_option maxRecDepth 20000 in
theorem wM_remove_415 : WP P 92 415 lo (.int (xi z) :: .int x :: .ref (ra mo 25) :: r) (putR w mo S) Q ↔ ((0 ≤ x.toInt ∧ x.toInt < 32) ∧ WP P 92 416 lo r (putR w mo (sset S 25 x.toInt.toNat z)) Q) := R_iast rfl (by decide) rfl rfl rfl
set_option maxRecDepth 20000 in
theorem wM_remove_416 : WP P 92 416 lo st w Q ↔ x_gi lo[4]? (fun x => WP P 92 419 (lo.set 4 (some (.int (x + xi 1)))) st w Q) := W_iinc rfl rfl
set_option maxRecDepth 20000 in
theorem wM_remove_419 : WP P 92 419 lo st w Q ↔ WP P 92 361 lo st w Q := W_goto rfl rfl
set_option maxRecDepth 20000 in
theorem wM_remove_422 : WP P 92 422 lo st w Q ↔ WP P 92 423 lo (.int (xi 0) :: st) w Q := W_iconst rfl rfl rfl
set_option maxRecDepth 20000 in
theorem wM_remove_423 : WP P 92 423 lo (.int x :: r) w Q ↔ (4 < lo.length ∧ WP P 92 425 (lo.set 4 (some (.int x))) r w Q) := W_istore rfl rfl
set_option maxRecDepth 20000 in
theorem wM_remove_425 : WP P 92 425 lo st w Q ↔ x_gi lo[4]? (fun x => WP P 92 427 lo (.int x :: st) w Q) := W_iload rfl rfl
set_option maxRecDepth 20000 in
theorem wM_remove_427 : WP P 92 427 lo st w Q ↔ WP P 92 428 lo (.int (xi 4) :: st) w Q := W_iconst rfl rfl rfl
set_option maxRecDepth 20000 in
theorem wM_remove_428 : WP P 92 428 lo (.int y :: .int x :: r) w Q ↔ (if x < y then WP P 92 431 lo r w Q else WP P 92 471 lo r w Q) := W_ic_ge rfl rfl rfl
set_option maxRecDepth 20000 in
theorem wM_remove_431 : WP P 92 431 lo st w Q ↔ x_ga lo[0]? (fun v => WP P 92 432 lo (v :: st) w Q) := W_aload_n rfl rfl rfl
set_option maxRecDepth 20000 in
theorem wM_remove_432 : WP P 92 432 lo (.ref mo :: r) (putR w mo S) Q ↔ WP P 92 435 lo (.ref (ra mo 27) :: r) (putR w mo S) Q := R_get rfl rfl (by decide) rfl
set_option maxRecDepth 20000 in
theorem wM_remove_435 : WP P 92 435 lo st w Q ↔ x_gi lo[4]? (fun x => WP P 92 437 lo (.int x :: st) w Q) := W_iload rfl rfl
set_option maxRecDepth 20000 in
theorem wM_remove_437 : WP P 92 437 lo st w Q ↔ x_gi lo[2]? (fun x => WP P 92 438 lo (.int x :: st) w Q) := W_iload_n rfl rfl rfl
set_option maxRecDepth 20000 in
theorem wM_remove_438 : WP P 92 438 lo st w Q ↔ WP P 92 439 lo (.int (xi 4) :: st) w Q := W_iconst rfl rfl rfl
set_option maxRecDepth 20000 in
theorem wM_remove_439 : WP P 92 439 lo (.int y :: .int x :: r) w Q ↔ (if x = y then WP P 92 442 lo r w Q else WP P 92 457 lo r w Q) := W_ic_ne rfl rfl rfl
set_option maxRecDepth 20000 in
theorem wM_remove_442 : WP P 92 442 lo st w Q ↔ x_ga lo[0]? (fun v => WP P 92 443 lo (v :: st) w Q) := W_aload_n rfl rfl rfl
set_option maxRecDepth 20000 in
theorem wM_remove_443 : WP P 92 443 lo (.ref mo :: r) (putR w mo S) Q ↔ WP P 92 446 lo (.ref (ra mo 27) :: r) (putR w mo S) Q := R_get rfl rfl (by decide) rfl
set_option maxRecDepth 20000 in
theorem wM_remove_446 : WP P 92 446 lo st w Q ↔ x_gi lo[4]? (fun x => WP P 92 448 lo (.int x :: st) w Q) := W_iload rfl rfl
set_option maxRecDepth 20000 in
theorem wM_remove_448 : WP P 92 448 lo (.int x :: .ref (ra mo 27) :: r) (putR w mo S) Q ↔ ((0 ≤ x.toInt ∧ x.toInt < 4) ∧ WP P 92 449 lo (.int (xi (S 27 x.toInt.toNat)) :: r) (putR w mo S) Q) := R_iald rfl (by decide) rfl rfl rfl
set_option maxRecDepth 20000 in
theorem wM_remove_449 : WP P 92 449 lo st w Q ↔ x_gi lo[3]? (fun x => WP P 92 450 lo (.int x :: st) w Q) := W_iload_n rfl rfl rfl
set_option maxRecDepth 20000 in
theorem wM_remove_450 : WP P 92 450 lo (.int y :: .int x :: r) w Q ↔ (if x = y then WP P 92 453 lo r w Q else WP P 92 457 lo r w Q) := W_ic_ne rfl rfl rfl
set_option maxRecDepth 20000 in
theorem wM_remove_453 : WP P 92 453 lo st w Q ↔ WP P 92 454 lo (.int (xi (-1)) :: st) w Q := W_iconst rfl rfl rfl
set_option maxRecDepth 20000 in
theorem wM_remove_454 : WP P 92 454 lo st w Q ↔ WP P 92 464 lo st w Q := W_goto rfl rfl
set_option maxRecDepth 20000 in
theorem wM_remove_457 : WP P 92 457 lo st w Q ↔ x_ga lo[0]? (fun v => WP P 92 458 lo (v :: st) w Q) := W_aload_n rfl rfl rfl
set_option maxRecDepth 20000 in
theorem wM_remove_458 : WP P 92 458 lo (.ref mo :: r) (putR w mo S) Q ↔ WP P 92 461 lo (.ref (ra mo 27) :: r) (putR w mo S) Q := R_get rfl rfl (by decide) rfl
set_option maxRecDepth 20000 in
theorem wM_remove_461 : WP P 92 461 lo st w Q ↔ x_gi lo[4]? (fun x => WP P 92 463 lo (.int x :: st) w Q) := W_iload rfl rfl
set_option maxRecDepth 20000 in
theorem wM_remove_463 : WP P 92 463 lo (.int x :: .ref (ra mo 27) :: r) (putR w mo S) Q ↔ ((0 ≤ x.toInt ∧ x.toInt < 4) ∧ WP P 92 464 lo (.int (xi (S 27 x.toInt.toNat)) :: r) (putR w mo S) Q) := R_iald rfl (by decide) rfl rfl rfl
set_option maxRecDepth 20000 in
theorem wM_remove_464 : WP P 92 464 lo (.int (xi z) :: .int x :: .ref (ra mo 27) :: r) (putR w mo S) Q ↔ ((0 ≤ x.toInt ∧ x.toInt < 4) ∧ WP P 92 465 lo r (putR w mo (sset S 27 x.toInt.toNat z)) Q) := R_iast rfl (by decide) rfl rfl rfl
set_option maxRecDepth 20000 in
theorem wM_remove_465 : WP P 92 465 lo st w Q ↔ x_gi lo[4]? (fun x => WP P 92 468 (lo.set 4 (some (.int (x + xi 1)))) st w Q) := W_iinc rfl rfl
set_option maxRecDepth 20000 in
theorem wM_remove_468 : WP P 92 468 lo st w Q ↔ WP P 92 425 lo st w Q := W_goto rfl rfl
set_option maxRecDepth 20000 in
theorem wM_remove_471 : WP P 92 471 lo [] w Q ↔ Q none w := WP_ret rfl rfl
-- 93 M_holders
theorem wM_holders_0 : WP P 93 0 lo st w Q ↔ WP P 93 1 lo (.int (xi 0) :: st) w Q := W_iconst rfl rfl rfl
theorem wM_holders_1 : WP P 93 1 lo (.int x :: r) w Q ↔ (3 < lo.length ∧ WP P 93 2 (lo.set 3 (some (.int x))) r w Q) := W_istore_n rfl rfl rfl
theorem wM_holders_2 : WP P 93 2 lo st w Q ↔ WP P 93 3 lo (.int (xi 0) :: st) w Q := W_iconst rfl rfl rfl
theorem wM_holders_3 : WP P 93 3 lo (.int x :: r) w Q ↔ (4 < lo.length ∧ WP P 93 5 (lo.set 4 (some (.int x))) r w Q) := W_istore rfl rfl
theorem wM_holders_5 : WP P 93 5 lo st w Q ↔ x_gi lo[4]? (fun x => WP P 93 7 lo (.int x :: st) w Q) := W_iload rfl rfl
theorem wM_holders_7 : WP P 93 7 lo st w Q ↔ WP P 93 10 lo (.int (xi 128) :: st) w Q := W_sipush rfl rfl (by decide)
theorem wM_holders_10 : WP P 93 10 lo (.int y :: .int x :: r) w Q ↔ (if x < y then WP P 93 13 lo r w Q else WP P 93 49 lo r w Q) := W_ic_ge rfl rfl rfl
theorem wM_holders_13 : WP P 93 13 lo st w Q ↔ x_gi lo[3]? (fun x => WP P 93 14 lo (.int x :: st) w Q) := W_iload_n rfl rfl rfl
theorem wM_holders_14 : WP P 93 14 lo st w Q ↔ x_ga lo[0]? (fun v => WP P 93 15 lo (v :: st) w Q) := W_aload_n rfl rfl rfl
theorem wM_holders_15 : WP P 93 15 lo (.ref mo :: r) (putR w mo S) Q ↔ WP P 93 18 lo (.ref (ra mo 0) :: r) (putR w mo S) Q := R_get rfl rfl (by decide) rfl
theorem wM_holders_18 : WP P 93 18 lo st w Q ↔ x_gi lo[4]? (fun x => WP P 93 20 lo (.int x :: st) w Q) := W_iload rfl rfl
theorem wM_holders_20 : WP P 93 20 lo (.int x :: .ref (ra mo 0) :: r) (putR w mo S) Q ↔ ((0 ≤ x.toInt ∧ x.toInt < 128) ∧ WP P 93 21 lo (.int (xi (S 0 x.toInt.toNat)) :: r) (putR w mo S) Q) := R_iald rfl (by decide) rfl rfl rfl
theorem wM_holders_21 : WP P 93 21 lo st w Q ↔ x_gi lo[1]? (fun x => WP P 93 22 lo (.int x :: st) w Q) := W_iload_n rfl rfl rfl
theorem wM_holders_22 : WP P 93 22 lo (.int y :: .int x :: r) w Q ↔ (if x = y then WP P 93 25 lo r w Q else WP P 93 40 lo r w Q) := W_ic_ne rfl rfl rfl
theorem wM_holders_25 : WP P 93 25 lo st w Q ↔ x_ga lo[0]? (fun v => WP P 93 26 lo (v :: st) w Q) := W_aload_n rfl rfl rfl
theorem wM_holders_26 : WP P 93 26 lo (.ref mo :: r) (putR w mo S) Q ↔ WP P 93 29 lo (.ref (ra mo 1) :: r) (putR w mo S) Q := R_get rfl rfl (by decide) rfl
theorem wM_holders_29 : WP P 93 29 lo st w Q ↔ x_gi lo[4]? (fun x => WP P 93 31 lo (.int x :: st) w Q) := W_iload rfl rfl
theorem wM_holders_31 : WP P 93 31 lo (.int x :: .ref (ra mo 1) :: r) (putR w mo S) Q ↔ ((0 ≤ x.toInt ∧ x.toInt < 128) ∧ WP P 93 32 lo (.int (xi (S 1 x.toInt.toNat)) :: r) (putR w mo S) Q) := R_iald rfl (by decide) rfl rfl rfl
theorem wM_holders_32 : WP P 93 32 lo st w Q ↔ x_gi lo[2]? (fun x => WP P 93 33 lo (.int x :: st) w Q) := W_iload_n rfl rfl rfl
theorem wM_holders_33 : WP P 93 33 lo (.int y :: .int x :: r) w Q ↔ (if x = y then WP P 93 36 lo r w Q else WP P 93 40 lo r w Q) := W_ic_ne rfl rfl rfl
theorem wM_holders_36 : WP P 93 36 lo st w Q ↔ WP P 93 37 lo (.int (xi 1) :: st) w Q := W_iconst rfl rfl rfl
theorem wM_holders_37 : WP P 93 37 lo st w Q ↔ WP P 93 41 lo st w Q := W_goto rfl rfl
theorem wM_holders_40 : WP P 93 40 lo st w Q ↔ WP P 93 41 lo (.int (xi 0) :: st) w Q := W_iconst rfl rfl rfl
theorem wM_holders_41 : WP P 93 41 lo (.int y :: .int x :: r) w Q ↔ WP P 93 42 lo (.int (x + y) :: r) w Q := W_iadd rfl rfl
theorem wM_holders_42 : WP P 93 42 lo (.int x :: r) w Q ↔ (3 < lo.length ∧ WP P 93 43 (lo.set 3 (some (.int x))) r w Q) := W_istore_n rfl rfl rfl
theorem wM_holders_43 : WP P 93 43 lo st w Q ↔ x_gi lo[4]? (fun x => WP P 93 46 (lo.set 4 (some (.int (x + xi 1)))) st w Q) := W_iinc rfl rfl
theorem wM_holders_46 : WP P 93 46 lo st w Q ↔ WP P 93 5 lo st w Q := W_goto rfl rfl
theorem wM_holders_49 : WP P 93 49 lo st w Q ↔ x_gi lo[1]? (fun x => WP P 93 50 lo (.int x :: st) w Q) := W_iload_n rfl rfl rfl
theorem wM_holders_50 : WP P 93 50 lo (.int x :: r) w Q ↔ (if x = xi 0 then WP P 93 53 lo r w Q else WP P 93 57 lo r w Q) := W_if_ne rfl rfl rfl
theorem wM_holders_53 : WP P 93 53 lo st w Q ↔ WP P 93 54 lo (.int (xi 1) :: st) w Q := W_iconst rfl rfl rfl
theorem wM_holders_54 : WP P 93 54 lo st w Q ↔ WP P 93 58 lo st w Q := W_goto rfl rfl
theorem wM_holders_57 : WP P 93 57 lo st w Q ↔ x_gi lo[3]? (fun x => WP P 93 58 lo (.int x :: st) w Q) := W_iload_n rfl rfl rfl
theorem wM_holders_58 : WP P 93 58 lo [.int x] w Q ↔ Q (some (.int x)) w := WP_ret rfl rfl
-- 94 M_revoke
theorem wM_revoke_0 : WP P 94 0 lo st w Q ↔ x_ga lo[0]? (fun v => WP P 94 1 lo (v :: st) w Q) := W_aload_n rfl rfl rfl
theorem wM_revoke_1 (hr : r.length ≤ 8) (hc : ([] : List Value).all x_cat1 = true) (hc2 : r.all x_cat1 = true) (k : WP P 81 0 [some (.ref mo), none, none, none] [] (putR w mo S) (fun v w1 => WP P 94 4 lo (v.toList ++ r) w1 Q)) : WP P 94 1 lo (.ref mo :: r) (putR w mo S) Q := K_virt (as := []) rfl rfl rfl rfl (by decide) (by decide) rfl putR_tgM hr hc hc2 k
theorem wM_revoke_4 : WP P 94 4 lo (.int x :: r) w Q ↔ (if x < xi 0 then WP P 94 7 lo r w Q else WP P 94 10 lo r w Q) := W_if_ge rfl rfl rfl
theorem wM_revoke_7 : WP P 94 7 lo st w Q ↔ WP P 94 9 lo (.int (xi 8) :: st) w Q := W_bipush rfl rfl (by decide)
theorem wM_revoke_9 : WP P 94 9 lo [.int x] w Q ↔ Q (some (.int x)) w := WP_ret rfl rfl
theorem wM_revoke_10 : WP P 94 10 lo st w Q ↔ x_ga lo[0]? (fun v => WP P 94 11 lo (v :: st) w Q) := W_aload_n rfl rfl rfl
theorem wM_revoke_11 : WP P 94 11 lo st w Q ↔ x_gi lo[1]? (fun x => WP P 94 12 lo (.int x :: st) w Q) := W_iload_n rfl rfl rfl
theorem wM_revoke_12 : WP P 94 12 lo st w Q ↔ WP P 94 13 lo (.int (xi (-1)) :: st) w Q := W_iconst rfl rfl rfl
theorem wM_revoke_13 {u1 u2 : Value} (hr : r.length ≤ 8) (hc : ([u1, u2] : List Value).all x_cat1 = true) (hc2 : r.all x_cat1 = true) (k : WP P 82 0 [some (.ref mo), some u1, some u2, none] [] (putR w mo S) (fun v w1 => WP P 94 16 lo (v.toList ++ r) w1 Q)) : WP P 94 13 lo (u2 :: u1 :: .ref mo :: r) (putR w mo S) Q := K_virt (as := [u1, u2]) rfl rfl rfl rfl (by decide) (by decide) rfl putR_tgM hr hc hc2 k
theorem wM_revoke_16 : WP P 94 16 lo (.int x :: r) w Q ↔ (2 < lo.length ∧ WP P 94 17 (lo.set 2 (some (.int x))) r w Q) := W_istore_n rfl rfl rfl
theorem wM_revoke_17 : WP P 94 17 lo st w Q ↔ x_gi lo[2]? (fun x => WP P 94 18 lo (.int x :: st) w Q) := W_iload_n rfl rfl rfl
theorem wM_revoke_18 : WP P 94 18 lo (.int x :: r) w Q ↔ (if x < xi 0 then WP P 94 21 lo r w Q else WP P 94 23 lo r w Q) := W_if_ge rfl rfl rfl
theorem wM_revoke_21 : WP P 94 21 lo st w Q ↔ WP P 94 22 lo (.int (xi 1) :: st) w Q := W_iconst rfl rfl rfl
theorem wM_revoke_22 : WP P 94 22 lo [.int x] w Q ↔ Q (some (.int x)) w := WP_ret rfl rfl
theorem wM_revoke_23 : WP P 94 23 lo st w Q ↔ WP P 94 24 lo (.int (xi 0) :: st) w Q := W_iconst rfl rfl rfl
theorem wM_revoke_24 : WP P 94 24 lo (.int x :: r) w Q ↔ (3 < lo.length ∧ WP P 94 25 (lo.set 3 (some (.int x))) r w Q) := W_istore_n rfl rfl rfl
theorem wM_revoke_25 : WP P 94 25 lo st w Q ↔ x_gi lo[3]? (fun x => WP P 94 26 lo (.int x :: st) w Q) := W_iload_n rfl rfl rfl
theorem wM_revoke_26 : WP P 94 26 lo st w Q ↔ WP P 94 29 lo (.int (xi 128) :: st) w Q := W_sipush rfl rfl (by decide)
theorem wM_revoke_29 : WP P 94 29 lo (.int y :: .int x :: r) w Q ↔ (if x < y then WP P 94 32 lo r w Q else WP P 94 114 lo r w Q) := W_ic_ge rfl rfl rfl
theorem wM_revoke_32 : WP P 94 32 lo st w Q ↔ x_ga lo[0]? (fun v => WP P 94 33 lo (v :: st) w Q) := W_aload_n rfl rfl rfl
theorem wM_revoke_33 : WP P 94 33 lo (.ref mo :: r) (putR w mo S) Q ↔ WP P 94 36 lo (.ref (ra mo 0) :: r) (putR w mo S) Q := R_get rfl rfl (by decide) rfl
theorem wM_revoke_36 : WP P 94 36 lo st w Q ↔ x_gi lo[3]? (fun x => WP P 94 37 lo (.int x :: st) w Q) := W_iload_n rfl rfl rfl
theorem wM_revoke_37 : WP P 94 37 lo (.int x :: .ref (ra mo 0) :: r) (putR w mo S) Q ↔ ((0 ≤ x.toInt ∧ x.toInt < 128) ∧ WP P 94 38 lo (.int (xi (S 0 x.toInt.toNat)) :: r) (putR w mo S) Q) := R_iald rfl (by decide) rfl rfl rfl
theorem wM_revoke_38 : WP P 94 38 lo (.int x :: r) w Q ↔ (if x < xi 0 then WP P 94 41 lo r w Q else WP P 94 45 lo r w Q) := W_if_ge rfl rfl rfl
theorem wM_revoke_41 : WP P 94 41 lo st w Q ↔ WP P 94 42 lo (.int (xi (-1)) :: st) w Q := W_iconst rfl rfl rfl
theorem wM_revoke_42 : WP P 94 42 lo st w Q ↔ WP P 94 51 lo st w Q := W_goto rfl rfl
theorem wM_revoke_45 : WP P 94 45 lo st w Q ↔ x_ga lo[0]? (fun v => WP P 94 46 lo (v :: st) w Q) := W_aload_n rfl rfl rfl
theorem wM_revoke_46 : WP P 94 46 lo (.ref mo :: r) (putR w mo S) Q ↔ WP P 94 49 lo (.ref (ra mo 4) :: r) (putR w mo S) Q := R_get rfl rfl (by decide) rfl
theorem wM_revoke_49 : WP P 94 49 lo st w Q ↔ x_gi lo[3]? (fun x => WP P 94 50 lo (.int x :: st) w Q) := W_iload_n rfl rfl rfl
theorem wM_revoke_50 : WP P 94 50 lo (.int x :: .ref (ra mo 4) :: r) (putR w mo S) Q ↔ ((0 ≤ x.toInt ∧ x.toInt < 128) ∧ WP P 94 51 lo (.int (xi (S 4 x.toInt.toNat)) :: r) (putR w mo S) Q) := R_iald rfl (by decide) rfl rfl rfl
theorem wM_revoke_51 : WP P 94 51 lo (.int x :: r) w Q ↔ (4 < lo.length ∧ WP P 94 53 (lo.set 4 (some (.int x))) r w Q) := W_istore rfl rfl
theorem wM_revoke_53 : WP P 94 53 lo st w Q ↔ WP P 94 54 lo (.int (xi 0) :: st) w Q := W_iconst rfl rfl rfl
theorem wM_revoke_54 : WP P 94 54 lo (.int x :: r) w Q ↔ (5 < lo.length ∧ WP P 94 56 (lo.set 5 (some (.int x))) r w Q) := W_istore rfl rfl
theorem wM_revoke_56 : WP P 94 56 lo st w Q ↔ x_gi lo[5]? (fun x => WP P 94 58 lo (.int x :: st) w Q) := W_iload rfl rfl
theorem wM_revoke_58 : WP P 94 58 lo st w Q ↔ WP P 94 61 lo (.int (xi 128) :: st) w Q := W_sipush rfl rfl (by decide)
theorem wM_revoke_61 : WP P 94 61 lo (.int y :: .int x :: r) w Q ↔ (if x < y then WP P 94 64 lo r w Q else WP P 94 91 lo r w Q) := W_ic_ge rfl rfl rfl
theorem wM_revoke_64 : WP P 94 64 lo st w Q ↔ x_gi lo[4]? (fun x => WP P 94 66 lo (.int x :: st) w Q) := W_iload rfl rfl
theorem wM_revoke_66 : WP P 94 66 lo st w Q ↔ WP P 94 67 lo (.int (xi (-1)) :: st) w Q := W_iconst rfl rfl rfl
theorem wM_revoke_67 : WP P 94 67 lo (.int y :: .int x :: r) w Q ↔ (if x = y then WP P 94 91 lo r w Q else WP P 94 70 lo r w Q) := W_ic_eq rfl rfl rfl
theorem wM_revoke_70 : WP P 94 70 lo st w Q ↔ x_gi lo[4]? (fun x => WP P 94 72 lo (.int x :: st) w Q) := W_iload rfl rfl
theorem wM_revoke_72 : WP P 94 72 lo st w Q ↔ x_gi lo[2]? (fun x => WP P 94 73 lo (.int x :: st) w Q) := W_iload_n rfl rfl rfl
theorem wM_revoke_73 : WP P 94 73 lo (.int y :: .int x :: r) w Q ↔ (if x = y then WP P 94 91 lo r w Q else WP P 94 76 lo r w Q) := W_ic_eq rfl rfl rfl
theorem wM_revoke_76 : WP P 94 76 lo st w Q ↔ x_ga lo[0]? (fun v => WP P 94 77 lo (v :: st) w Q) := W_aload_n rfl rfl rfl
theorem wM_revoke_77 : WP P 94 77 lo (.ref mo :: r) (putR w mo S) Q ↔ WP P 94 80 lo (.ref (ra mo 4) :: r) (putR w mo S) Q := R_get rfl rfl (by decide) rfl
theorem wM_revoke_80 : WP P 94 80 lo st w Q ↔ x_gi lo[4]? (fun x => WP P 94 82 lo (.int x :: st) w Q) := W_iload rfl rfl
theorem wM_revoke_82 : WP P 94 82 lo (.int x :: .ref (ra mo 4) :: r) (putR w mo S) Q ↔ ((0 ≤ x.toInt ∧ x.toInt < 128) ∧ WP P 94 83 lo (.int (xi (S 4 x.toInt.toNat)) :: r) (putR w mo S) Q) := R_iald rfl (by decide) rfl rfl rfl
theorem wM_revoke_83 : WP P 94 83 lo (.int x :: r) w Q ↔ (4 < lo.length ∧ WP P 94 85 (lo.set 4 (some (.int x))) r w Q) := W_istore rfl rfl
theorem wM_revoke_85 : WP P 94 85 lo st w Q ↔ x_gi lo[5]? (fun x => WP P 94 88 (lo.set 5 (some (.int (x + xi 1)))) st w Q) := W_iinc rfl rfl
theorem wM_revoke_88 : WP P 94 88 lo st w Q ↔ WP P 94 56 lo st w Q := W_goto rfl rfl
theorem wM_revoke_91 : WP P 94 91 lo st w Q ↔ x_ga lo[0]? (fun v => WP P 94 92 lo (v :: st) w Q) := W_aload_n rfl rfl rfl
theorem wM_revoke_92 : WP P 94 92 lo (.ref mo :: r) (putR w mo S) Q ↔ WP P 94 95 lo (.ref (ra mo 9) :: r) (putR w mo S) Q := R_get rfl rfl (by decide) rfl
theorem wM_revoke_95 : WP P 94 95 lo st w Q ↔ x_gi lo[3]? (fun x => WP P 94 96 lo (.int x :: st) w Q) := W_iload_n rfl rfl rfl
theorem wM_revoke_96 : WP P 94 96 lo st w Q ↔ x_gi lo[4]? (fun x => WP P 94 98 lo (.int x :: st) w Q) := W_iload rfl rfl
theorem wM_revoke_98 : WP P 94 98 lo st w Q ↔ x_gi lo[2]? (fun x => WP P 94 99 lo (.int x :: st) w Q) := W_iload_n rfl rfl rfl
theorem wM_revoke_99 : WP P 94 99 lo (.int y :: .int x :: r) w Q ↔ (if x = y then WP P 94 102 lo r w Q else WP P 94 106 lo r w Q) := W_ic_ne rfl rfl rfl
theorem wM_revoke_102 : WP P 94 102 lo st w Q ↔ WP P 94 103 lo (.int (xi 1) :: st) w Q := W_iconst rfl rfl rfl
theorem wM_revoke_103 : WP P 94 103 lo st w Q ↔ WP P 94 107 lo st w Q := W_goto rfl rfl
theorem wM_revoke_106 : WP P 94 106 lo st w Q ↔ WP P 94 107 lo (.int (xi 0) :: st) w Q := W_iconst rfl rfl rfl
theorem wM_revoke_107 : WP P 94 107 lo (.int (xi z) :: .int x :: .ref (ra mo 9) :: r) (putR w mo S) Q ↔ ((xi z = xi 0 ∨ xi z = xi 1) ∧ (0 ≤ x.toInt ∧ x.toInt < 128) ∧ WP P 94 108 lo r (putR w mo (sset S 9 x.toInt.toNat z)) Q) := R_bast rfl (by decide) rfl rfl rfl
theorem wM_revoke_108 : WP P 94 108 lo st w Q ↔ x_gi lo[3]? (fun x => WP P 94 111 (lo.set 3 (some (.int (x + xi 1)))) st w Q) := W_iinc rfl rfl
theorem wM_revoke_111 : WP P 94 111 lo st w Q ↔ WP P 94 25 lo st w Q := W_goto rfl rfl
theorem wM_revoke_114 : WP P 94 114 lo st w Q ↔ x_ga lo[0]? (fun v => WP P 94 115 lo (v :: st) w Q) := W_aload_n rfl rfl rfl
theorem wM_revoke_115 (hr : r.length ≤ 8) (hc : ([] : List Value).all x_cat1 = true) (hc2 : r.all x_cat1 = true) (k : WP P 91 0 [some (.ref mo), none, none, none] [] (putR w mo S) (fun v w1 => WP P 94 118 lo (v.toList ++ r) w1 Q)) : WP P 94 115 lo (.ref mo :: r) (putR w mo S) Q := K_virt (as := []) rfl rfl rfl rfl (by decide) (by decide) rfl putR_tgM hr hc hc2 k
theorem wM_revoke_118 : WP P 94 118 lo st w Q ↔ WP P 94 119 lo (.int (xi 0) :: st) w Q := W_iconst rfl rfl rfl
theorem wM_revoke_119 : WP P 94 119 lo [.int x] w Q ↔ Q (some (.int x)) w := WP_ret rfl rfl
-- 95 M_configure
theorem wM_configure_0 : WP P 95 0 lo st w Q ↔ x_ga lo[0]? (fun v => WP P 95 1 lo (v :: st) w Q) := W_aload_n rfl rfl rfl
theorem wM_configure_1 (hr : r.length ≤ 8) (hc : ([] : List Value).all x_cat1 = true) (hc2 : r.all x_cat1 = true) (k : WP P 81 0 [some (.ref mo), none, none, none] [] (putR w mo S) (fun v w1 => WP P 95 4 lo (v.toList ++ r) w1 Q)) : WP P 95 1 lo (.ref mo :: r) (putR w mo S) Q := K_virt (as := []) rfl rfl rfl rfl (by decide) (by decide) rfl putR_tgM hr hc hc2 k
theorem wM_configure_4 : WP P 95 4 lo (.int x :: r) w Q ↔ (if x < xi 0 then WP P 95 7 lo r w Q else WP P 95 10 lo r w Q) := W_if_ge rfl rfl rfl
theorem wM_configure_7 : WP P 95 7 lo st w Q ↔ WP P 95 9 lo (.int (xi 8) :: st) w Q := W_bipush rfl rfl (by decide)
theorem wM_configure_9 : WP P 95 9 lo [.int x] w Q ↔ Q (some (.int x)) w := WP_ret rfl rfl
theorem wM_configure_10 : WP P 95 10 lo st w Q ↔ x_ga lo[0]? (fun v => WP P 95 11 lo (v :: st) w Q) := W_aload_n rfl rfl rfl
theorem wM_configure_11 : WP P 95 11 lo st w Q ↔ x_gi lo[1]? (fun x => WP P 95 12 lo (.int x :: st) w Q) := W_iload_n rfl rfl rfl
theorem wM_configure_12 : WP P 95 12 lo st w Q ↔ WP P 95 13 lo (.int (xi 2) :: st) w Q := W_iconst rfl rfl rfl
theorem wM_configure_13 {u1 u2 : Value} (hr : r.length ≤ 8) (hc : ([u1, u2] : List Value).all x_cat1 = true) (hc2 : r.all x_cat1 = true) (k : WP P 82 0 [some (.ref mo), some u1, some u2, none] [] (putR w mo S) (fun v w1 => WP P 95 16 lo (v.toList ++ r) w1 Q)) : WP P 95 13 lo (u2 :: u1 :: .ref mo :: r) (putR w mo S) Q := K_virt (as := [u1, u2]) rfl rfl rfl rfl (by decide) (by decide) rfl putR_tgM hr hc hc2 k
theorem wM_configure_16 : WP P 95 16 lo (.int x :: r) w Q ↔ (5 < lo.length ∧ WP P 95 18 (lo.set 5 (some (.int x))) r w Q) := W_istore rfl rfl
theorem wM_configure_18 : WP P 95 18 lo st w Q ↔ x_ga lo[0]? (fun v => WP P 95 19 lo (v :: st) w Q) := W_aload_n rfl rfl rfl
theorem wM_configure_19 : WP P 95 19 lo st w Q ↔ x_gi lo[2]? (fun x => WP P 95 20 lo (.int x :: st) w Q) := W_iload_n rfl rfl rfl
theorem wM_configure_20 : WP P 95 20 lo st w Q ↔ WP P 95 21 lo (.int (xi 1) :: st) w Q := W_iconst rfl rfl rfl
theorem wM_configure_21 {u1 u2 : Value} (hr : r.length ≤ 8) (hc : ([u1, u2] : List Value).all x_cat1 = true) (hc2 : r.all x_cat1 = true) (k : WP P 82 0 [some (.ref mo), some u1, some u2, none] [] (putR w mo S) (fun v w1 => WP P 95 24 lo (v.toList ++ r) w1 Q)) : WP P 95 21 lo (u2 :: u1 :: .ref mo :: r) (putR w mo S) Q := K_virt (as := [u1, u2]) rfl rfl rfl rfl (by decide) (by decide) rfl putR_tgM hr hc hc2 k
theorem wM_configure_24 : WP P 95 24 lo (.int x :: r) w Q ↔ (6 < lo.length ∧ WP P 95 26 (lo.set 6 (some (.int x))) r w Q) := W_istore rfl rfl
theorem wM_configure_26 : WP P 95 26 lo st w Q ↔ x_ga lo[0]? (fun v => WP P 95 27 lo (v :: st) w Q) := W_aload_n rfl rfl rfl
theorem wM_configure_27 : WP P 95 27 lo st w Q ↔ x_gi lo[3]? (fun x => WP P 95 28 lo (.int x :: st) w Q) := W_iload_n rfl rfl rfl
theorem wM_configure_28 : WP P 95 28 lo st w Q ↔ WP P 95 29 lo (.int (xi 5) :: st) w Q := W_iconst rfl rfl rfl
theorem wM_configure_29 {u1 u2 : Value} (hr : r.length ≤ 8) (hc : ([u1, u2] : List Value).all x_cat1 = true) (hc2 : r.all x_cat1 = true) (k : WP P 82 0 [some (.ref mo), some u1, some u2, none] [] (putR w mo S) (fun v w1 => WP P 95 32 lo (v.toList ++ r) w1 Q)) : WP P 95 29 lo (u2 :: u1 :: .ref mo :: r) (putR w mo S) Q := K_virt (as := [u1, u2]) rfl rfl rfl rfl (by decide) (by decide) rfl putR_tgM hr hc hc2 k
theorem wM_configure_32 : WP P 95 32 lo (.int x :: r) w Q ↔ (7 < lo.length ∧ WP P 95 34 (lo.set 7 (some (.int x))) r w Q) := W_istore rfl rfl
theorem wM_configure_34 : WP P 95 34 lo st w Q ↔ x_gi lo[5]? (fun x => WP P 95 36 lo (.int x :: st) w Q) := W_iload rfl rfl
theorem wM_configure_36 : WP P 95 36 lo (.int x :: r) w Q ↔ (if x < xi 0 then WP P 95 59 lo r w Q else WP P 95 39 lo r w Q) := W_if_lt rfl rfl rfl
theorem wM_configure_39 : WP P 95 39 lo st w Q ↔ x_gi lo[2]? (fun x => WP P 95 40 lo (.int x :: st) w Q) := W_iload_n rfl rfl rfl
theorem wM_configure_40 : WP P 95 40 lo st w Q ↔ WP P 95 41 lo (.int (xi (-1)) :: st) w Q := W_iconst rfl rfl rfl
theorem wM_configure_41 : WP P 95 41 lo (.int y :: .int x :: r) w Q ↔ (if x = y then WP P 95 49 lo r w Q else WP P 95 44 lo r w Q) := W_ic_eq rfl rfl rfl
theorem wM_configure_44 : WP P 95 44 lo st w Q ↔ x_gi lo[6]? (fun x => WP P 95 46 lo (.int x :: st) w Q) := W_iload rfl rfl
theorem wM_configure_46 : WP P 95 46 lo (.int x :: r) w Q ↔ (if x < xi 0 then WP P 95 59 lo r w Q else WP P 95 49 lo r w Q) := W_if_lt rfl rfl rfl
theorem wM_configure_49 : WP P 95 49 lo st w Q ↔ x_gi lo[3]? (fun x => WP P 95 50 lo (.int x :: st) w Q) := W_iload_n rfl rfl rfl
theorem wM_configure_50 : WP P 95 50 lo st w Q ↔ WP P 95 51 lo (.int (xi (-1)) :: st) w Q := W_iconst rfl rfl rfl
theorem wM_configure_51 : WP P 95 51 lo (.int y :: .int x :: r) w Q ↔ (if x = y then WP P 95 61 lo r w Q else WP P 95 54 lo r w Q) := W_ic_eq rfl rfl rfl
theorem wM_configure_54 : WP P 95 54 lo st w Q ↔ x_gi lo[7]? (fun x => WP P 95 56 lo (.int x :: st) w Q) := W_iload rfl rfl
theorem wM_configure_56 : WP P 95 56 lo (.int x :: r) w Q ↔ (if x < xi 0 then WP P 95 59 lo r w Q else WP P 95 61 lo r w Q) := W_if_ge rfl rfl rfl
theorem wM_configure_59 : WP P 95 59 lo st w Q ↔ WP P 95 60 lo (.int (xi 1) :: st) w Q := W_iconst rfl rfl rfl
theorem wM_configure_60 : WP P 95 60 lo [.int x] w Q ↔ Q (some (.int x)) w := WP_ret rfl rfl
theorem wM_configure_61 : WP P 95 61 lo st w Q ↔ x_gi lo[4]? (fun x => WP P 95 63 lo (.int x :: st) w Q) := W_iload rfl rfl
theorem wM_configure_63 : WP P 95 63 lo (.int x :: r) w Q ↔ (if x < xi 0 then WP P 95 72 lo r w Q else WP P 95 66 lo r w Q) := W_if_lt rfl rfl rfl
theorem wM_configure_66 : WP P 95 66 lo st w Q ↔ x_gi lo[4]? (fun x => WP P 95 68 lo (.int x :: st) w Q) := W_iload rfl rfl
theorem wM_configure_68 : WP P 95 68 lo st w Q ↔ WP P 95 69 lo (.int (xi 3) :: st) w Q := W_iconst rfl rfl rfl
theorem wM_configure_69 : WP P 95 69 lo (.int y :: .int x :: r) w Q ↔ (if y < x then WP P 95 72 lo r w Q else WP P 95 74 lo r w Q) := W_ic_le rfl rfl rfl
theorem wM_configure_72 : WP P 95 72 lo st w Q ↔ WP P 95 73 lo (.int (xi 4) :: st) w Q := W_iconst rfl rfl rfl
theorem wM_configure_73 : WP P 95 73 lo [.int x] w Q ↔ Q (some (.int x)) w := WP_ret rfl rfl
theorem wM_configure_74 : WP P 95 74 lo st w Q ↔ x_gi lo[4]? (fun x => WP P 95 76 lo (.int x :: st) w Q) := W_iload rfl rfl
theorem wM_configure_76 : WP P 95 76 lo st w Q ↔ x_ga lo[0]? (fun v => WP P 95 77 lo (v :: st) w Q) := W_aload_n rfl rfl rfl
theorem wM_configure_77 : WP P 95 77 lo (.ref mo :: r) (putR w mo S) Q ↔ WP P 95 80 lo (.ref (ra mo 13) :: r) (putR w mo S) Q := R_get rfl rfl (by decide) rfl
theorem wM_configure_80 : WP P 95 80 lo st w Q ↔ x_ga lo[0]? (fun v => WP P 95 81 lo (v :: st) w Q) := W_aload_n rfl rfl rfl
theorem wM_configure_81 (hr : r.length ≤ 8) (hc : ([] : List Value).all x_cat1 = true) (hc2 : r.all x_cat1 = true) (k : WP P 81 0 [some (.ref mo), none, none, none] [] (putR w mo S) (fun v w1 => WP P 95 84 lo (v.toList ++ r) w1 Q)) : WP P 95 81 lo (.ref mo :: r) (putR w mo S) Q := K_virt (as := []) rfl rfl rfl rfl (by decide) (by decide) rfl putR_tgM hr hc hc2 k
theorem wM_configure_84 : WP P 95 84 lo (.int x :: .ref (ra mo 13) :: r) (putR w mo S) Q ↔ ((0 ≤ x.toInt ∧ x.toInt < 16) ∧ WP P 95 85 lo (.int (xi (S 13 x.toInt.toNat)) :: r) (putR w mo S) Q) := R_iald rfl (by decide) rfl rfl rfl
theorem wM_configure_85 : WP P 95 85 lo (.int y :: .int x :: r) w Q ↔ (if y < x then WP P 95 88 lo r w Q else WP P 95 90 lo r w Q) := W_ic_le rfl rfl rfl
theorem wM_configure_88 : WP P 95 88 lo st w Q ↔ WP P 95 89 lo (.int (xi 2) :: st) w Q := W_iconst rfl rfl rfl
theorem wM_configure_89 : WP P 95 89 lo [.int x] w Q ↔ Q (some (.int x)) w := WP_ret rfl rfl
theorem wM_configure_90 : WP P 95 90 lo st w Q ↔ x_ga lo[0]? (fun v => WP P 95 91 lo (v :: st) w Q) := W_aload_n rfl rfl rfl
theorem wM_configure_91 : WP P 95 91 lo (.ref mo :: r) (putR w mo S) Q ↔ WP P 95 94 lo (.ref (ra mo 1) :: r) (putR w mo S) Q := R_get rfl rfl (by decide) rfl
theorem wM_configure_94 : WP P 95 94 lo st w Q ↔ x_gi lo[5]? (fun x => WP P 95 96 lo (.int x :: st) w Q) := W_iload rfl rfl
theorem wM_configure_96 : WP P 95 96 lo (.int x :: .ref (ra mo 1) :: r) (putR w mo S) Q ↔ ((0 ≤ x.toInt ∧ x.toInt < 128) ∧ WP P 95 97 lo (.int (xi (S 1 x.toInt.toNat)) :: r) (putR w mo S) Q) := R_iald rfl (by decide) rfl rfl rfl
theorem wM_configure_97 : WP P 95 97 lo st w Q ↔ WP P 95 99 lo (.int (xi 8) :: st) w Q := W_bipush rfl rfl (by decide)
theorem wM_configure_99 : WP P 95 99 lo (.int y :: .int x :: r) w Q ↔ (¬ y = 0 ∧ WP P 95 100 lo (.int (x / y) :: r) w Q) := W_idiv rfl rfl
theorem wM_configure_100 : WP P 95 100 lo (.int x :: r) w Q ↔ (8 < lo.length ∧ WP P 95 102 (lo.set 8 (some (.int x))) r w Q) := W_istore rfl rfl
theorem wM_configure_102 : WP P 95 102 lo st w Q ↔ x_ga lo[0]? (fun v => WP P 95 103 lo (v :: st) w Q) := W_aload_n rfl rfl rfl
theorem wM_configure_103 : WP P 95 103 lo (.ref mo :: r) (putR w mo S) Q ↔ WP P 95 106 lo (.ref (ra mo 11) :: r) (putR w mo S) Q := R_get rfl rfl (by decide) rfl
theorem wM_configure_106 : WP P 95 106 lo st w Q ↔ x_gi lo[8]? (fun x => WP P 95 108 lo (.int x :: st) w Q) := W_iload rfl rfl
theorem wM_configure_108 : WP P 95 108 lo st w Q ↔ x_gi lo[2]? (fun x => WP P 95 109 lo (.int x :: st) w Q) := W_iload_n rfl rfl rfl
theorem wM_configure_109 : WP P 95 109 lo st w Q ↔ WP P 95 110 lo (.int (xi (-1)) :: st) w Q := W_iconst rfl rfl rfl
theorem wM_configure_110 : WP P 95 110 lo (.int y :: .int x :: r) w Q ↔ (if x = y then WP P 95 113 lo r w Q else WP P 95 117 lo r w Q) := W_ic_ne rfl rfl rfl
theorem wM_configure_113 : WP P 95 113 lo st w Q ↔ WP P 95 114 lo (.int (xi (-1)) :: st) w Q := W_iconst rfl rfl rfl
theorem wM_configure_114 : WP P 95 114 lo st w Q ↔ WP P 95 124 lo st w Q := W_goto rfl rfl
theorem wM_configure_117 : WP P 95 117 lo st w Q ↔ x_ga lo[0]? (fun v => WP P 95 118 lo (v :: st) w Q) := W_aload_n rfl rfl rfl
theorem wM_configure_118 : WP P 95 118 lo (.ref mo :: r) (putR w mo S) Q ↔ WP P 95 121 lo (.ref (ra mo 1) :: r) (putR w mo S) Q := R_get rfl rfl (by decide) rfl
theorem wM_configure_121 : WP P 95 121 lo st w Q ↔ x_gi lo[6]? (fun x => WP P 95 123 lo (.int x :: st) w Q) := W_iload rfl rfl
theorem wM_configure_123 : WP P 95 123 lo (.int x :: .ref (ra mo 1) :: r) (putR w mo S) Q ↔ ((0 ≤ x.toInt ∧ x.toInt < 128) ∧ WP P 95 124 lo (.int (xi (S 1 x.toInt.toNat)) :: r) (putR w mo S) Q) := R_iald rfl (by decide) rfl rfl rfl
theorem wM_configure_124 : WP P 95 124 lo (.int (xi z) :: .int x :: .ref (ra mo 11) :: r) (putR w mo S) Q ↔ ((0 ≤ x.toInt ∧ x.toInt < 16) ∧ WP P 95 125 lo r (putR w mo (sset S 11 x.toInt.toNat z)) Q) := R_iast rfl (by decide) rfl rfl rfl
theorem wM_configure_125 : WP P 95 125 lo st w Q ↔ x_ga lo[0]? (fun v => WP P 95 126 lo (v :: st) w Q) := W_aload_n rfl rfl rfl
theorem wM_configure_126 : WP P 95 126 lo (.ref mo :: r) (putR w mo S) Q ↔ WP P 95 129 lo (.ref (ra mo 12) :: r) (putR w mo S) Q := R_get rfl rfl (by decide) rfl
theorem wM_configure_129 : WP P 95 129 lo st w Q ↔ x_gi lo[8]? (fun x => WP P 95 131 lo (.int x :: st) w Q) := W_iload rfl rfl
theorem wM_configure_131 : WP P 95 131 lo st w Q ↔ x_gi lo[3]? (fun x => WP P 95 132 lo (.int x :: st) w Q) := W_iload_n rfl rfl rfl
theorem wM_configure_132 : WP P 95 132 lo st w Q ↔ WP P 95 133 lo (.int (xi (-1)) :: st) w Q := W_iconst rfl rfl rfl
theorem wM_configure_133 : WP P 95 133 lo (.int y :: .int x :: r) w Q ↔ (if x = y then WP P 95 136 lo r w Q else WP P 95 140 lo r w Q) := W_ic_ne rfl rfl rfl
theorem wM_configure_136 : WP P 95 136 lo st w Q ↔ WP P 95 137 lo (.int (xi (-1)) :: st) w Q := W_iconst rfl rfl rfl
theorem wM_configure_137 : WP P 95 137 lo st w Q ↔ WP P 95 147 lo st w Q := W_goto rfl rfl
theorem wM_configure_140 : WP P 95 140 lo st w Q ↔ x_ga lo[0]? (fun v => WP P 95 141 lo (v :: st) w Q) := W_aload_n rfl rfl rfl
theorem wM_configure_141 : WP P 95 141 lo (.ref mo :: r) (putR w mo S) Q ↔ WP P 95 144 lo (.ref (ra mo 1) :: r) (putR w mo S) Q := R_get rfl rfl (by decide) rfl
theorem wM_configure_144 : WP P 95 144 lo st w Q ↔ x_gi lo[7]? (fun x => WP P 95 146 lo (.int x :: st) w Q) := W_iload rfl rfl
theorem wM_configure_146 : WP P 95 146 lo (.int x :: .ref (ra mo 1) :: r) (putR w mo S) Q ↔ ((0 ≤ x.toInt ∧ x.toInt < 128) ∧ WP P 95 147 lo (.int (xi (S 1 x.toInt.toNat)) :: r) (putR w mo S) Q) := R_iald rfl (by decide) rfl rfl rfl
theorem wM_configure_147 : WP P 95 147 lo (.int (xi z) :: .int x :: .ref (ra mo 12) :: r) (putR w mo S) Q ↔ ((0 ≤ x.toInt ∧ x.toInt < 16) ∧ WP P 95 148 lo r (putR w mo (sset S 12 x.toInt.toNat z)) Q) := R_iast rfl (by decide) rfl rfl rfl
theorem wM_configure_148 : WP P 95 148 lo st w Q ↔ x_ga lo[0]? (fun v => WP P 95 149 lo (v :: st) w Q) := W_aload_n rfl rfl rfl
theorem wM_configure_149 : WP P 95 149 lo (.ref mo :: r) (putR w mo S) Q ↔ WP P 95 152 lo (.ref (ra mo 13) :: r) (putR w mo S) Q := R_get rfl rfl (by decide) rfl
theorem wM_configure_152 : WP P 95 152 lo st w Q ↔ x_gi lo[8]? (fun x => WP P 95 154 lo (.int x :: st) w Q) := W_iload rfl rfl
theorem wM_configure_154 : WP P 95 154 lo (.int x :: .ref (ra mo 13) :: r) (putR w mo S) Q ↔ ((0 ≤ x.toInt ∧ x.toInt < 16) ∧ WP P 95 155 lo (.int (xi (S 13 x.toInt.toNat)) :: r) (putR w mo S) Q) := R_iald rfl (by decide) rfl rfl rfl
theorem wM_configure_155 : WP P 95 155 lo st w Q ↔ x_gi lo[4]? (fun x => WP P 95 157 lo (.int x :: st) w Q) := W_iload rfl rfl
theorem wM_configure_157 : WP P 95 157 lo (.int y :: .int x :: r) w Q ↔ (if x = y then WP P 95 202 lo r w Q else WP P 95 160 lo r w Q) := W_ic_eq rfl rfl rfl
theorem wM_configure_160 : WP P 95 160 lo st w Q ↔ x_ga lo[0]? (fun v => WP P 95 161 lo (v :: st) w Q) := W_aload_n rfl rfl rfl
theorem wM_configure_161 : WP P 95 161 lo (v1 :: r) w Q ↔ (x_cat1 v1 = true ∧ WP P 95 162 lo (v1 :: v1 :: r) w Q) := W_dup rfl rfl
theorem wM_configure_162 : WP P 95 162 lo (.ref mo :: r) (putR w mo S) Q ↔ WP P 95 165 lo (.int (xi (S 28 0)) :: r) (putR w mo S) Q := R_getC rfl rfl rfl
theorem wM_configure_165 : WP P 95 165 lo st w Q ↔ WP P 95 166 lo (.int (xi 1) :: st) w Q := W_iconst rfl rfl rfl
theorem wM_configure_166 : WP P 95 166 lo (.int y :: .int x :: r) w Q ↔ WP P 95 167 lo (.int (x + y) :: r) w Q := W_iadd rfl rfl
theorem wM_configure_167 : WP P 95 167 lo (.int (xi z) :: .ref mo :: r) (putR w mo S) Q ↔ WP P 95 170 lo r (putR w mo (sset S 28 0 z)) Q := R_putC rfl rfl rfl
theorem wM_configure_170 : WP P 95 170 lo st w Q ↔ x_ga lo[0]? (fun v => WP P 95 171 lo (v :: st) w Q) := W_aload_n rfl rfl rfl
theorem wM_configure_171 : WP P 95 171 lo (.ref mo :: r) (putR w mo S) Q ↔ WP P 95 174 lo (.ref (ra mo 18) :: r) (putR w mo S) Q := R_get rfl rfl (by decide) rfl
theorem wM_configure_174 : WP P 95 174 lo st w Q ↔ x_gi lo[8]? (fun x => WP P 95 176 lo (.int x :: st) w Q) := W_iload rfl rfl
theorem wM_configure_176 : WP P 95 176 lo st w Q ↔ x_ga lo[0]? (fun v => WP P 95 177 lo (v :: st) w Q) := W_aload_n rfl rfl rfl
theorem wM_configure_177 : WP P 95 177 lo (.ref mo :: r) (putR w mo S) Q ↔ WP P 95 180 lo (.ref (ra mo 10) :: r) (putR w mo S) Q := R_get rfl rfl (by decide) rfl
theorem wM_configure_180 : WP P 95 180 lo st w Q ↔ x_gi lo[8]? (fun x => WP P 95 182 lo (.int x :: st) w Q) := W_iload rfl rfl
theorem wM_configure_182 : WP P 95 182 lo (.int x :: .ref (ra mo 10) :: r) (putR w mo S) Q ↔ ((0 ≤ x.toInt ∧ x.toInt < 16) ∧ WP P 95 183 lo (.int (xi (S 10 x.toInt.toNat)) :: r) (putR w mo S) Q) := R_iald rfl (by decide) rfl rfl rfl
theorem wM_configure_183 : WP P 95 183 lo st w Q ↔ WP P 95 184 lo (.int (xi 2) :: st) w Q := W_iconst rfl rfl rfl
theorem wM_configure_184 : WP P 95 184 lo (.int y :: .int x :: r) w Q ↔ (if x = y then WP P 95 187 lo r w Q else WP P 95 194 lo r w Q) := W_ic_ne rfl rfl rfl
theorem wM_configure_187 : WP P 95 187 lo st w Q ↔ x_ga lo[0]? (fun v => WP P 95 188 lo (v :: st) w Q) := W_aload_n rfl rfl rfl
theorem wM_configure_188 : WP P 95 188 lo (.ref mo :: r) (putR w mo S) Q ↔ WP P 95 191 lo (.int (xi (S 28 0)) :: r) (putR w mo S) Q := R_getC rfl rfl rfl
theorem wM_configure_191 : WP P 95 191 lo st w Q ↔ WP P 95 201 lo st w Q := W_goto rfl rfl
theorem wM_configure_194 : WP P 95 194 lo st w Q ↔ x_ga lo[0]? (fun v => WP P 95 195 lo (v :: st) w Q) := W_aload_n rfl rfl rfl
theorem wM_configure_195 : WP P 95 195 lo (.ref mo :: r) (putR w mo S) Q ↔ WP P 95 198 lo (.ref (ra mo 18) :: r) (putR w mo S) Q := R_get rfl rfl (by decide) rfl
theorem wM_configure_198 : WP P 95 198 lo st w Q ↔ x_gi lo[8]? (fun x => WP P 95 200 lo (.int x :: st) w Q) := W_iload rfl rfl
theorem wM_configure_200 : WP P 95 200 lo (.int x :: .ref (ra mo 18) :: r) (putR w mo S) Q ↔ ((0 ≤ x.toInt ∧ x.toInt < 16) ∧ WP P 95 201 lo (.int (xi (S 18 x.toInt.toNat)) :: r) (putR w mo S) Q) := R_iald rfl (by decide) rfl rfl rfl
theorem wM_configure_201 : WP P 95 201 lo (.int (xi z) :: .int x :: .ref (ra mo 18) :: r) (putR w mo S) Q ↔ ((0 ≤ x.toInt ∧ x.toInt < 16) ∧ WP P 95 202 lo r (putR w mo (sset S 18 x.toInt.toNat z)) Q) := R_iast rfl (by decide) rfl rfl rfl
theorem wM_configure_202 : WP P 95 202 lo st w Q ↔ x_ga lo[0]? (fun v => WP P 95 203 lo (v :: st) w Q) := W_aload_n rfl rfl rfl
theorem wM_configure_203 : WP P 95 203 lo (.ref mo :: r) (putR w mo S) Q ↔ WP P 95 206 lo (.ref (ra mo 13) :: r) (putR w mo S) Q := R_get rfl rfl (by decide) rfl
theorem wM_configure_206 : WP P 95 206 lo st w Q ↔ x_gi lo[8]? (fun x => WP P 95 208 lo (.int x :: st) w Q) := W_iload rfl rfl
theorem wM_configure_208 : WP P 95 208 lo st w Q ↔ x_gi lo[4]? (fun x => WP P 95 210 lo (.int x :: st) w Q) := W_iload rfl rfl
theorem wM_configure_210 : WP P 95 210 lo (.int (xi z) :: .int x :: .ref (ra mo 13) :: r) (putR w mo S) Q ↔ ((0 ≤ x.toInt ∧ x.toInt < 16) ∧ WP P 95 211 lo r (putR w mo (sset S 13 x.toInt.toNat z)) Q) := R_iast rfl (by decide) rfl rfl rfl
theorem wM_configure_211 : WP P 95 211 lo st w Q ↔ WP P 95 212 lo (.int (xi 0) :: st) w Q := W_iconst rfl rfl rfl
theorem wM_configure_212 : WP P 95 212 lo [.int x] w Q ↔ Q (some (.int x)) w := WP_ret rfl rfl
-- 96 M_run
theorem wM_run_0 : WP P 96 0 lo st w Q ↔ x_ga lo[0]? (fun v => WP P 96 1 lo (v :: st) w Q) := W_aload_n rfl rfl rfl
theorem wM_run_1 (hr : r.length ≤ 8) (hc : ([] : List Value).all x_cat1 = true) (hc2 : r.all x_cat1 = true) (k : WP P 81 0 [some (.ref mo), none, none, none] [] (putR w mo S) (fun v w1 => WP P 96 4 lo (v.toList ++ r) w1 Q)) : WP P 96 1 lo (.ref mo :: r) (putR w mo S) Q := K_virt (as := []) rfl rfl rfl rfl (by decide) (by decide) rfl putR_tgM hr hc hc2 k
theorem wM_run_4 : WP P 96 4 lo (.int x :: r) w Q ↔ (if x < xi 0 then WP P 96 7 lo r w Q else WP P 96 10 lo r w Q) := W_if_ge rfl rfl rfl
theorem wM_run_7 : WP P 96 7 lo st w Q ↔ WP P 96 9 lo (.int (xi 8) :: st) w Q := W_bipush rfl rfl (by decide)
theorem wM_run_9 : WP P 96 9 lo [.int x] w Q ↔ Q (some (.int x)) w := WP_ret rfl rfl
theorem wM_run_10 : WP P 96 10 lo st w Q ↔ x_ga lo[0]? (fun v => WP P 96 11 lo (v :: st) w Q) := W_aload_n rfl rfl rfl
theorem wM_run_11 : WP P 96 11 lo st w Q ↔ x_gi lo[1]? (fun x => WP P 96 12 lo (.int x :: st) w Q) := W_iload_n rfl rfl rfl
theorem wM_run_12 : WP P 96 12 lo st w Q ↔ WP P 96 13 lo (.int (xi 2) :: st) w Q := W_iconst rfl rfl rfl
theorem wM_run_13 {u1 u2 : Value} (hr : r.length ≤ 8) (hc : ([u1, u2] : List Value).all x_cat1 = true) (hc2 : r.all x_cat1 = true) (k : WP P 82 0 [some (.ref mo), some u1, some u2, none] [] (putR w mo S) (fun v w1 => WP P 96 16 lo (v.toList ++ r) w1 Q)) : WP P 96 13 lo (u2 :: u1 :: .ref mo :: r) (putR w mo S) Q := K_virt (as := [u1, u2]) rfl rfl rfl rfl (by decide) (by decide) rfl putR_tgM hr hc hc2 k
theorem wM_run_16 : WP P 96 16 lo (.int x :: r) w Q ↔ (3 < lo.length ∧ WP P 96 17 (lo.set 3 (some (.int x))) r w Q) := W_istore_n rfl rfl rfl
theorem wM_run_17 : WP P 96 17 lo st w Q ↔ x_gi lo[3]? (fun x => WP P 96 18 lo (.int x :: st) w Q) := W_iload_n rfl rfl rfl
theorem wM_run_18 : WP P 96 18 lo (.int x :: r) w Q ↔ (if x < xi 0 then WP P 96 21 lo r w Q else WP P 96 23 lo r w Q) := W_if_ge rfl rfl rfl
theorem wM_run_21 : WP P 96 21 lo st w Q ↔ WP P 96 22 lo (.int (xi 1) :: st) w Q := W_iconst rfl rfl rfl
theorem wM_run_22 : WP P 96 22 lo [.int x] w Q ↔ Q (some (.int x)) w := WP_ret rfl rfl
theorem wM_run_23 : WP P 96 23 lo st w Q ↔ x_ga lo[0]? (fun v => WP P 96 24 lo (v :: st) w Q) := W_aload_n rfl rfl rfl
theorem wM_run_24 : WP P 96 24 lo (.ref mo :: r) (putR w mo S) Q ↔ WP P 96 27 lo (.ref (ra mo 1) :: r) (putR w mo S) Q := R_get rfl rfl (by decide) rfl
theorem wM_run_27 : WP P 96 27 lo st w Q ↔ x_gi lo[3]? (fun x => WP P 96 28 lo (.int x :: st) w Q) := W_iload_n rfl rfl rfl
theorem wM_run_28 : WP P 96 28 lo (.int x :: .ref (ra mo 1) :: r) (putR w mo S) Q ↔ ((0 ≤ x.toInt ∧ x.toInt < 128) ∧ WP P 96 29 lo (.int (xi (S 1 x.toInt.toNat)) :: r) (putR w mo S) Q) := R_iald rfl (by decide) rfl rfl rfl
theorem wM_run_29 : WP P 96 29 lo st w Q ↔ WP P 96 31 lo (.int (xi 8) :: st) w Q := W_bipush rfl rfl (by decide)
theorem wM_run_31 : WP P 96 31 lo (.int y :: .int x :: r) w Q ↔ (¬ y = 0 ∧ WP P 96 32 lo (.int (x / y) :: r) w Q) := W_idiv rfl rfl
theorem wM_run_32 : WP P 96 32 lo (.int x :: r) w Q ↔ (4 < lo.length ∧ WP P 96 34 (lo.set 4 (some (.int x))) r w Q) := W_istore rfl rfl
theorem wM_run_34 : WP P 96 34 lo st w Q ↔ x_gi lo[2]? (fun x => WP P 96 35 lo (.int x :: st) w Q) := W_iload_n rfl rfl rfl
theorem wM_run_35 : WP P 96 35 lo (.int x :: r) w Q ↔ (if x = xi 0 then WP P 96 38 lo r w Q else WP P 96 49 lo r w Q) := W_if_ne rfl rfl rfl
theorem wM_run_38 : WP P 96 38 lo st w Q ↔ x_ga lo[0]? (fun v => WP P 96 39 lo (v :: st) w Q) := W_aload_n rfl rfl rfl
theorem wM_run_39 : WP P 96 39 lo (.ref mo :: r) (putR w mo S) Q ↔ WP P 96 42 lo (.ref (ra mo 10) :: r) (putR w mo S) Q := R_get rfl rfl (by decide) rfl
theorem wM_run_42 : WP P 96 42 lo st w Q ↔ x_gi lo[4]? (fun x => WP P 96 44 lo (.int x :: st) w Q) := W_iload rfl rfl
theorem wM_run_44 : WP P 96 44 lo st w Q ↔ WP P 96 45 lo (.int (xi 1) :: st) w Q := W_iconst rfl rfl rfl
theorem wM_run_45 : WP P 96 45 lo (.int (xi z) :: .int x :: .ref (ra mo 10) :: r) (putR w mo S) Q ↔ ((0 ≤ x.toInt ∧ x.toInt < 16) ∧ WP P 96 46 lo r (putR w mo (sset S 10 x.toInt.toNat z)) Q) := R_iast rfl (by decide) rfl rfl rfl
theorem wM_run_46 : WP P 96 46 lo st w Q ↔ WP P 96 66 lo st w Q := W_goto rfl rfl
theorem wM_run_49 : WP P 96 49 lo st w Q ↔ x_ga lo[0]? (fun v => WP P 96 50 lo (v :: st) w Q) := W_aload_n rfl rfl rfl
theorem wM_run_50 : WP P 96 50 lo (.ref mo :: r) (putR w mo S) Q ↔ WP P 96 53 lo (.ref (ra mo 10) :: r) (putR w mo S) Q := R_get rfl rfl (by decide) rfl
theorem wM_run_53 : WP P 96 53 lo st w Q ↔ x_gi lo[4]? (fun x => WP P 96 55 lo (.int x :: st) w Q) := W_iload rfl rfl
theorem wM_run_55 : WP P 96 55 lo (.int x :: .ref (ra mo 10) :: r) (putR w mo S) Q ↔ ((0 ≤ x.toInt ∧ x.toInt < 16) ∧ WP P 96 56 lo (.int (xi (S 10 x.toInt.toNat)) :: r) (putR w mo S) Q) := R_iald rfl (by decide) rfl rfl rfl
theorem wM_run_56 : WP P 96 56 lo st w Q ↔ WP P 96 57 lo (.int (xi 1) :: st) w Q := W_iconst rfl rfl rfl
theorem wM_run_57 : WP P 96 57 lo (.int y :: .int x :: r) w Q ↔ (if x = y then WP P 96 60 lo r w Q else WP P 96 66 lo r w Q) := W_ic_ne rfl rfl rfl
theorem wM_run_60 : WP P 96 60 lo st w Q ↔ x_ga lo[0]? (fun v => WP P 96 61 lo (v :: st) w Q) := W_aload_n rfl rfl rfl
theorem wM_run_61 : WP P 96 61 lo st w Q ↔ x_gi lo[4]? (fun x => WP P 96 63 lo (.int x :: st) w Q) := W_iload rfl rfl
theorem wM_run_63 {u1 : Value} (hr : r.length ≤ 8) (hc : ([u1] : List Value).all x_cat1 = true) (hc2 : r.all x_cat1 = true) (k : WP P 79 0 [some (.ref mo), some u1] [] (putR w mo S) (fun v w1 => WP P 96 66 lo (v.toList ++ r) w1 Q)) : WP P 96 63 lo (u1 :: .ref mo :: r) (putR w mo S) Q := K_virt (as := [u1]) rfl rfl rfl rfl (by decide) (by decide) rfl putR_tgM hr hc hc2 k
theorem wM_run_66 : WP P 96 66 lo st w Q ↔ WP P 96 67 lo (.int (xi 0) :: st) w Q := W_iconst rfl rfl rfl
theorem wM_run_67 : WP P 96 67 lo [.int x] w Q ↔ Q (some (.int x)) w := WP_ret rfl rfl
-- 97 M_send
theorem wM_send_0 : WP P 97 0 lo st w Q ↔ x_ga lo[0]? (fun v => WP P 97 1 lo (v :: st) w Q) := W_aload_n rfl rfl rfl
theorem wM_send_1 (hr : r.length ≤ 8) (hc : ([] : List Value).all x_cat1 = true) (hc2 : r.all x_cat1 = true) (k : WP P 81 0 [some (.ref mo), none, none, none] [] (putR w mo S) (fun v w1 => WP P 97 4 lo (v.toList ++ r) w1 Q)) : WP P 97 1 lo (.ref mo :: r) (putR w mo S) Q := K_virt (as := []) rfl rfl rfl rfl (by decide) (by decide) rfl putR_tgM hr hc hc2 k
theorem wM_send_4 : WP P 97 4 lo (.int x :: r) w Q ↔ (5 < lo.length ∧ WP P 97 6 (lo.set 5 (some (.int x))) r w Q) := W_istore rfl rfl
theorem wM_send_6 : WP P 97 6 lo st w Q ↔ x_gi lo[5]? (fun x => WP P 97 8 lo (.int x :: st) w Q) := W_iload rfl rfl
theorem wM_send_8 : WP P 97 8 lo (.int x :: r) w Q ↔ (if x < xi 0 then WP P 97 11 lo r w Q else WP P 97 14 lo r w Q) := W_if_ge rfl rfl rfl
theorem wM_send_11 : WP P 97 11 lo st w Q ↔ WP P 97 13 lo (.int (xi 8) :: st) w Q := W_bipush rfl rfl (by decide)
theorem wM_send_13 : WP P 97 13 lo [.int x] w Q ↔ Q (some (.int x)) w := WP_ret rfl rfl
theorem wM_send_14 : WP P 97 14 lo st w Q ↔ x_ga lo[0]? (fun v => WP P 97 15 lo (v :: st) w Q) := W_aload_n rfl rfl rfl
theorem wM_send_15 : WP P 97 15 lo st w Q ↔ x_gi lo[1]? (fun x => WP P 97 16 lo (.int x :: st) w Q) := W_iload_n rfl rfl rfl
theorem wM_send_16 : WP P 97 16 lo st w Q ↔ WP P 97 17 lo (.int (xi 3) :: st) w Q := W_iconst rfl rfl rfl
theorem wM_send_17 {u1 u2 : Value} (hr : r.length ≤ 8) (hc : ([u1, u2] : List Value).all x_cat1 = true) (hc2 : r.all x_cat1 = true) (k : WP P 82 0 [some (.ref mo), some u1, some u2, none] [] (putR w mo S) (fun v w1 => WP P 97 20 lo (v.toList ++ r) w1 Q)) : WP P 97 17 lo (u2 :: u1 :: .ref mo :: r) (putR w mo S) Q := K_virt (as := [u1, u2]) rfl rfl rfl rfl (by decide) (by decide) rfl putR_tgM hr hc hc2 k
theorem wM_send_20 : WP P 97 20 lo (.int x :: r) w Q ↔ (6 < lo.length ∧ WP P 97 22 (lo.set 6 (some (.int x))) r w Q) := W_istore rfl rfl
theorem wM_send_22 : WP P 97 22 lo st w Q ↔ x_gi lo[6]? (fun x => WP P 97 24 lo (.int x :: st) w Q) := W_iload rfl rfl
theorem wM_send_24 : WP P 97 24 lo (.int x :: r) w Q ↔ (if x < xi 0 then WP P 97 39 lo r w Q else WP P 97 27 lo r w Q) := W_if_lt rfl rfl rfl
theorem wM_send_27 : WP P 97 27 lo st w Q ↔ x_ga lo[0]? (fun v => WP P 97 28 lo (v :: st) w Q) := W_aload_n rfl rfl rfl
theorem wM_send_28 : WP P 97 28 lo (.ref mo :: r) (putR w mo S) Q ↔ WP P 97 31 lo (.ref (ra mo 2) :: r) (putR w mo S) Q := R_get rfl rfl (by decide) rfl
theorem wM_send_31 : WP P 97 31 lo st w Q ↔ x_gi lo[6]? (fun x => WP P 97 33 lo (.int x :: st) w Q) := W_iload rfl rfl
theorem wM_send_33 : WP P 97 33 lo (.int x :: .ref (ra mo 2) :: r) (putR w mo S) Q ↔ ((0 ≤ x.toInt ∧ x.toInt < 128) ∧ WP P 97 34 lo (.int (xi (S 2 x.toInt.toNat)) :: r) (putR w mo S) Q) := R_iald rfl (by decide) rfl rfl rfl
theorem wM_send_34 : WP P 97 34 lo st w Q ↔ WP P 97 35 lo (.int (xi 2) :: st) w Q := W_iconst rfl rfl rfl
theorem wM_send_35 : WP P 97 35 lo (.int y :: .int x :: r) w Q ↔ WP P 97 36 lo (.int (x &&& y) :: r) w Q := W_iand rfl rfl
theorem wM_send_36 : WP P 97 36 lo (.int x :: r) w Q ↔ (if x = xi 0 then WP P 97 39 lo r w Q else WP P 97 50 lo r w Q) := W_if_ne rfl rfl rfl
theorem wM_send_39 : WP P 97 39 lo st w Q ↔ x_gi lo[6]? (fun x => WP P 97 41 lo (.int x :: st) w Q) := W_iload rfl rfl
theorem wM_send_41 : WP P 97 41 lo (.int x :: r) w Q ↔ (if x < xi 0 then WP P 97 44 lo r w Q else WP P 97 48 lo r w Q) := W_if_ge rfl rfl rfl
theorem wM_send_44 : WP P 97 44 lo st w Q ↔ WP P 97 45 lo (.int (xi 1) :: st) w Q := W_iconst rfl rfl rfl
theorem wM_send_45 : WP P 97 45 lo st w Q ↔ WP P 97 49 lo st w Q := W_goto rfl rfl
theorem wM_send_48 : WP P 97 48 lo st w Q ↔ WP P 97 49 lo (.int (xi 2) :: st) w Q := W_iconst rfl rfl rfl
theorem wM_send_49 : WP P 97 49 lo [.int x] w Q ↔ Q (some (.int x)) w := WP_ret rfl rfl
theorem wM_send_50 : WP P 97 50 lo st w Q ↔ x_ga lo[0]? (fun v => WP P 97 51 lo (v :: st) w Q) := W_aload_n rfl rfl rfl
theorem wM_send_51 : WP P 97 51 lo st w Q ↔ WP P 97 52 lo (.int (xi 4) :: st) w Q := W_iconst rfl rfl rfl
theorem wM_send_52 : WP P 97 52 lo st w Q ↔ x_ga lo[0]? (fun v => WP P 97 53 lo (v :: st) w Q) := W_aload_n rfl rfl rfl
theorem wM_send_53 : WP P 97 53 lo (.ref mo :: r) (putR w mo S) Q ↔ WP P 97 56 lo (.ref (ra mo 1) :: r) (putR w mo S) Q := R_get rfl rfl (by decide) rfl
theorem wM_send_56 : WP P 97 56 lo st w Q ↔ x_gi lo[6]? (fun x => WP P 97 58 lo (.int x :: st) w Q) := W_iload rfl rfl
theorem wM_send_58 : WP P 97 58 lo (.int x :: .ref (ra mo 1) :: r) (putR w mo S) Q ↔ ((0 ≤ x.toInt ∧ x.toInt < 128) ∧ WP P 97 59 lo (.int (xi (S 1 x.toInt.toNat)) :: r) (putR w mo S) Q) := R_iald rfl (by decide) rfl rfl rfl
theorem wM_send_59 {u1 u2 : Value} (hr : r.length ≤ 8) (hc : ([u1, u2] : List Value).all x_cat1 = true) (hc2 : r.all x_cat1 = true) (k : WP P 98 0 [some (.ref mo), some u1, some u2, none, none] [] (putR w mo S) (fun v w1 => WP P 97 62 lo (v.toList ++ r) w1 Q)) : WP P 97 59 lo (u2 :: u1 :: .ref mo :: r) (putR w mo S) Q := K_virt (as := [u1, u2]) rfl rfl rfl rfl (by decide) (by decide) rfl putR_tgM hr hc hc2 k
theorem wM_send_62 : WP P 97 62 lo (.int x :: r) w Q ↔ (7 < lo.length ∧ WP P 97 64 (lo.set 7 (some (.int x))) r w Q) := W_istore rfl rfl
theorem wM_send_64 : WP P 97 64 lo st w Q ↔ x_gi lo[7]? (fun x => WP P 97 66 lo (.int x :: st) w Q) := W_iload rfl rfl
theorem wM_send_66 : WP P 97 66 lo (.int x :: r) w Q ↔ (if x < xi 0 then WP P 97 69 lo r w Q else WP P 97 77 lo r w Q) := W_if_ge rfl rfl rfl
theorem wM_send_69 : WP P 97 69 lo st w Q ↔ x_gi lo[4]? (fun x => WP P 97 71 lo (.int x :: st) w Q) := W_iload rfl rfl
theorem wM_send_71 : WP P 97 71 lo (.int x :: r) w Q ↔ (if x = xi 0 then WP P 97 74 lo r w Q else WP P 97 77 lo r w Q) := W_if_ne rfl rfl rfl
theorem wM_send_74 : WP P 97 74 lo st w Q ↔ WP P 97 76 lo (.int (xi 6) :: st) w Q := W_bipush rfl rfl (by decide)
theorem wM_send_76 : WP P 97 76 lo [.int x] w Q ↔ Q (some (.int x)) w := WP_ret rfl rfl
theorem wM_send_77 : WP P 97 77 lo st w Q ↔ x_ga lo[0]? (fun v => WP P 97 78 lo (v :: st) w Q) := W_aload_n rfl rfl rfl
theorem wM_send_78 : WP P 97 78 lo (.ref mo :: r) (putR w mo S) Q ↔ WP P 97 81 lo (.ref (ra mo 20) :: r) (putR w mo S) Q := R_get rfl rfl (by decide) rfl
theorem wM_send_81 : WP P 97 81 lo st w Q ↔ x_gi lo[5]? (fun x => WP P 97 83 lo (.int x :: st) w Q) := W_iload rfl rfl
theorem wM_send_83 : WP P 97 83 lo st w Q ↔ x_gi lo[3]? (fun x => WP P 97 84 lo (.int x :: st) w Q) := W_iload_n rfl rfl rfl
theorem wM_send_84 : WP P 97 84 lo (.int (xi z) :: .int x :: .ref (ra mo 20) :: r) (putR w mo S) Q ↔ ((0 ≤ x.toInt ∧ x.toInt < 16) ∧ WP P 97 85 lo r (putR w mo (sset S 20 x.toInt.toNat z)) Q) := R_iast rfl (by decide) rfl rfl rfl
theorem wM_send_85 : WP P 97 85 lo st w Q ↔ x_ga lo[0]? (fun v => WP P 97 86 lo (v :: st) w Q) := W_aload_n rfl rfl rfl
theorem wM_send_86 : WP P 97 86 lo (.ref mo :: r) (putR w mo S) Q ↔ WP P 97 89 lo (.ref (ra mo 21) :: r) (putR w mo S) Q := R_get rfl rfl (by decide) rfl
theorem wM_send_89 : WP P 97 89 lo st w Q ↔ x_gi lo[5]? (fun x => WP P 97 91 lo (.int x :: st) w Q) := W_iload rfl rfl
theorem wM_send_91 : WP P 97 91 lo st w Q ↔ x_gi lo[2]? (fun x => WP P 97 92 lo (.int x :: st) w Q) := W_iload_n rfl rfl rfl
theorem wM_send_92 : WP P 97 92 lo (.int (xi z) :: .int x :: .ref (ra mo 21) :: r) (putR w mo S) Q ↔ ((0 ≤ x.toInt ∧ x.toInt < 16) ∧ WP P 97 93 lo r (putR w mo (sset S 21 x.toInt.toNat z)) Q) := R_iast rfl (by decide) rfl rfl rfl
theorem wM_send_93 : WP P 97 93 lo st w Q ↔ x_ga lo[0]? (fun v => WP P 97 94 lo (v :: st) w Q) := W_aload_n rfl rfl rfl
theorem wM_send_94 : WP P 97 94 lo (.ref mo :: r) (putR w mo S) Q ↔ WP P 97 97 lo (.ref (ra mo 22) :: r) (putR w mo S) Q := R_get rfl rfl (by decide) rfl
theorem wM_send_97 : WP P 97 97 lo st w Q ↔ x_gi lo[5]? (fun x => WP P 97 99 lo (.int x :: st) w Q) := W_iload rfl rfl
theorem wM_send_99 : WP P 97 99 lo st w Q ↔ x_ga lo[0]? (fun v => WP P 97 100 lo (v :: st) w Q) := W_aload_n rfl rfl rfl
theorem wM_send_100 : WP P 97 100 lo (.ref mo :: r) (putR w mo S) Q ↔ WP P 97 103 lo (.ref (ra mo 3) :: r) (putR w mo S) Q := R_get rfl rfl (by decide) rfl
theorem wM_send_103 : WP P 97 103 lo st w Q ↔ x_gi lo[6]? (fun x => WP P 97 105 lo (.int x :: st) w Q) := W_iload rfl rfl
theorem wM_send_105 : WP P 97 105 lo (.int x :: .ref (ra mo 3) :: r) (putR w mo S) Q ↔ ((0 ≤ x.toInt ∧ x.toInt < 128) ∧ WP P 97 106 lo (.int (xi (S 3 x.toInt.toNat)) :: r) (putR w mo S) Q) := R_iald rfl (by decide) rfl rfl rfl
theorem wM_send_106 : WP P 97 106 lo (.int (xi z) :: .int x :: .ref (ra mo 22) :: r) (putR w mo S) Q ↔ ((0 ≤ x.toInt ∧ x.toInt < 16) ∧ WP P 97 107 lo r (putR w mo (sset S 22 x.toInt.toNat z)) Q) := R_iast rfl (by decide) rfl rfl rfl
theorem wM_send_107 : WP P 97 107 lo st w Q ↔ x_ga lo[0]? (fun v => WP P 97 108 lo (v :: st) w Q) := W_aload_n rfl rfl rfl
theorem wM_send_108 : WP P 97 108 lo (.ref mo :: r) (putR w mo S) Q ↔ WP P 97 111 lo (.ref (ra mo 23) :: r) (putR w mo S) Q := R_get rfl rfl (by decide) rfl
theorem wM_send_111 : WP P 97 111 lo st w Q ↔ x_gi lo[5]? (fun x => WP P 97 113 lo (.int x :: st) w Q) := W_iload rfl rfl
theorem wM_send_113 : WP P 97 113 lo st w Q ↔ x_ga lo[0]? (fun v => WP P 97 114 lo (v :: st) w Q) := W_aload_n rfl rfl rfl
theorem wM_send_114 : WP P 97 114 lo (.ref mo :: r) (putR w mo S) Q ↔ WP P 97 117 lo (.ref (ra mo 2) :: r) (putR w mo S) Q := R_get rfl rfl (by decide) rfl
theorem wM_send_117 : WP P 97 117 lo st w Q ↔ x_gi lo[6]? (fun x => WP P 97 119 lo (.int x :: st) w Q) := W_iload rfl rfl
theorem wM_send_119 : WP P 97 119 lo (.int x :: .ref (ra mo 2) :: r) (putR w mo S) Q ↔ ((0 ≤ x.toInt ∧ x.toInt < 128) ∧ WP P 97 120 lo (.int (xi (S 2 x.toInt.toNat)) :: r) (putR w mo S) Q) := R_iald rfl (by decide) rfl rfl rfl
theorem wM_send_120 : WP P 97 120 lo st w Q ↔ WP P 97 121 lo (.int (xi 4) :: st) w Q := W_iconst rfl rfl rfl
theorem wM_send_121 : WP P 97 121 lo (.int y :: .int x :: r) w Q ↔ WP P 97 122 lo (.int (x &&& y) :: r) w Q := W_iand rfl rfl
theorem wM_send_122 : WP P 97 122 lo (.int x :: r) w Q ↔ (if x = xi 0 then WP P 97 129 lo r w Q else WP P 97 125 lo r w Q) := W_if_eq rfl rfl rfl
theorem wM_send_125 : WP P 97 125 lo st w Q ↔ WP P 97 126 lo (.int (xi 1) :: st) w Q := W_iconst rfl rfl rfl
theorem wM_send_126 : WP P 97 126 lo st w Q ↔ WP P 97 130 lo st w Q := W_goto rfl rfl
theorem wM_send_129 : WP P 97 129 lo st w Q ↔ WP P 97 130 lo (.int (xi 0) :: st) w Q := W_iconst rfl rfl rfl
theorem wM_send_130 : WP P 97 130 lo (.int (xi z) :: .int x :: .ref (ra mo 23) :: r) (putR w mo S) Q ↔ ((xi z = xi 0 ∨ xi z = xi 1) ∧ (0 ≤ x.toInt ∧ x.toInt < 16) ∧ WP P 97 131 lo r (putR w mo (sset S 23 x.toInt.toNat z)) Q) := R_bast rfl (by decide) rfl rfl rfl
theorem wM_send_131 : WP P 97 131 lo st w Q ↔ x_gi lo[7]? (fun x => WP P 97 133 lo (.int x :: st) w Q) := W_iload rfl rfl
theorem wM_send_133 : WP P 97 133 lo (.int x :: r) w Q ↔ (if x < xi 0 then WP P 97 136 lo r w Q else WP P 97 154 lo r w Q) := W_if_ge rfl rfl rfl
theorem wM_send_136 : WP P 97 136 lo st w Q ↔ x_ga lo[0]? (fun v => WP P 97 137 lo (v :: st) w Q) := W_aload_n rfl rfl rfl
theorem wM_send_137 : WP P 97 137 lo st w Q ↔ x_gi lo[5]? (fun x => WP P 97 139 lo (.int x :: st) w Q) := W_iload rfl rfl
theorem wM_send_139 : WP P 97 139 lo st w Q ↔ WP P 97 140 lo (.int (xi 3) :: st) w Q := W_iconst rfl rfl rfl
theorem wM_send_140 : WP P 97 140 lo st w Q ↔ x_ga lo[0]? (fun v => WP P 97 141 lo (v :: st) w Q) := W_aload_n rfl rfl rfl
theorem wM_send_141 : WP P 97 141 lo (.ref mo :: r) (putR w mo S) Q ↔ WP P 97 144 lo (.ref (ra mo 1) :: r) (putR w mo S) Q := R_get rfl rfl (by decide) rfl
theorem wM_send_144 : WP P 97 144 lo st w Q ↔ x_gi lo[6]? (fun x => WP P 97 146 lo (.int x :: st) w Q) := W_iload rfl rfl
theorem wM_send_146 : WP P 97 146 lo (.int x :: .ref (ra mo 1) :: r) (putR w mo S) Q ↔ ((0 ≤ x.toInt ∧ x.toInt < 128) ∧ WP P 97 147 lo (.int (xi (S 1 x.toInt.toNat)) :: r) (putR w mo S) Q) := R_iald rfl (by decide) rfl rfl rfl
theorem wM_send_147 : WP P 97 147 lo st w Q ↔ x_gi lo[3]? (fun x => WP P 97 148 lo (.int x :: st) w Q) := W_iload_n rfl rfl rfl
theorem wM_send_148 {u1 u2 u3 u4 : Value} (hr : r.length ≤ 8) (hc : ([u1, u2, u3, u4] : List Value).all x_cat1 = true) (hc2 : r.all x_cat1 = true) (k : WP P 99 0 [some (.ref mo), some u1, some u2, some u3, some u4] [] (putR w mo S) (fun v w1 => WP P 97 151 lo (v.toList ++ r) w1 Q)) : WP P 97 148 lo (u4 :: u3 :: u2 :: u1 :: .ref mo :: r) (putR w mo S) Q := K_virt (as := [u1, u2, u3, u4]) rfl rfl rfl rfl (by decide) (by decide) rfl putR_tgM hr hc hc2 k
theorem wM_send_151 : WP P 97 151 lo st w Q ↔ WP P 97 153 lo (.int (xi 10) :: st) w Q := W_bipush rfl rfl (by decide)
theorem wM_send_153 : WP P 97 153 lo [.int x] w Q ↔ Q (some (.int x)) w := WP_ret rfl rfl
theorem wM_send_154 : WP P 97 154 lo st w Q ↔ x_ga lo[0]? (fun v => WP P 97 155 lo (v :: st) w Q) := W_aload_n rfl rfl rfl
theorem wM_send_155 : WP P 97 155 lo st w Q ↔ x_gi lo[5]? (fun x => WP P 97 157 lo (.int x :: st) w Q) := W_iload rfl rfl
theorem wM_send_157 : WP P 97 157 lo st w Q ↔ x_gi lo[7]? (fun x => WP P 97 159 lo (.int x :: st) w Q) := W_iload rfl rfl
theorem wM_send_159 {u1 u2 : Value} (hr : r.length ≤ 8) (hc : ([u1, u2] : List Value).all x_cat1 = true) (hc2 : r.all x_cat1 = true) (k : WP P 100 0 [some (.ref mo), some u1, some u2, none, none, none] [] (putR w mo S) (fun v w1 => WP P 97 162 lo (v.toList ++ r) w1 Q)) : WP P 97 159 lo (u2 :: u1 :: .ref mo :: r) (putR w mo S) Q := K_virt (as := [u1, u2]) rfl rfl rfl rfl (by decide) (by decide) rfl putR_tgM hr hc hc2 k
theorem wM_send_162 : WP P 97 162 lo st w Q ↔ x_ga lo[0]? (fun v => WP P 97 163 lo (v :: st) w Q) := W_aload_n rfl rfl rfl
theorem wM_send_163 : WP P 97 163 lo st w Q ↔ x_gi lo[7]? (fun x => WP P 97 165 lo (.int x :: st) w Q) := W_iload rfl rfl
theorem wM_send_165 {u1 : Value} (hr : r.length ≤ 8) (hc : ([u1] : List Value).all x_cat1 = true) (hc2 : r.all x_cat1 = true) (k : WP P 79 0 [some (.ref mo), some u1] [] (putR w mo S) (fun v w1 => WP P 97 168 lo (v.toList ++ r) w1 Q)) : WP P 97 165 lo (u1 :: .ref mo :: r) (putR w mo S) Q := K_virt (as := [u1]) rfl rfl rfl rfl (by decide) (by decide) rfl putR_tgM hr hc hc2 k
theorem wM_send_168 : WP P 97 168 lo st w Q ↔ WP P 97 169 lo (.int (xi 0) :: st) w Q := W_iconst rfl rfl rfl
theorem wM_send_169 : WP P 97 169 lo [.int x] w Q ↔ Q (some (.int x)) w := WP_ret rfl rfl
-- 98 M_first
theorem wM_first_0 : WP P 98 0 lo st w Q ↔ WP P 98 1 lo (.int (xi (-1)) :: st) w Q := W_iconst rfl rfl rfl
theorem wM_first_1 : WP P 98 1 lo (.int x :: r) w Q ↔ (3 < lo.length ∧ WP P 98 2 (lo.set 3 (some (.int x))) r w Q) := W_istore_n rfl rfl rfl
theorem wM_first_2 : WP P 98 2 lo st w Q ↔ WP P 98 3 lo (.int (xi 0) :: st) w Q := W_iconst rfl rfl rfl
theorem wM_first_3 : WP P 98 3 lo (.int x :: r) w Q ↔ (4 < lo.length ∧ WP P 98 5 (lo.set 4 (some (.int x))) r w Q) := W_istore rfl rfl
theorem wM_first_5 : WP P 98 5 lo st w Q ↔ x_gi lo[4]? (fun x => WP P 98 7 lo (.int x :: st) w Q) := W_iload rfl rfl
theorem wM_first_7 : WP P 98 7 lo st w Q ↔ WP P 98 9 lo (.int (xi 16) :: st) w Q := W_bipush rfl rfl (by decide)
theorem wM_first_9 : WP P 98 9 lo (.int y :: .int x :: r) w Q ↔ (if x < y then WP P 98 12 lo r w Q else WP P 98 63 lo r w Q) := W_ic_ge rfl rfl rfl
theorem wM_first_12 : WP P 98 12 lo st w Q ↔ x_ga lo[0]? (fun v => WP P 98 13 lo (v :: st) w Q) := W_aload_n rfl rfl rfl
theorem wM_first_13 : WP P 98 13 lo (.ref mo :: r) (putR w mo S) Q ↔ WP P 98 16 lo (.ref (ra mo 10) :: r) (putR w mo S) Q := R_get rfl rfl (by decide) rfl
theorem wM_first_16 : WP P 98 16 lo st w Q ↔ x_gi lo[4]? (fun x => WP P 98 18 lo (.int x :: st) w Q) := W_iload rfl rfl
theorem wM_first_18 : WP P 98 18 lo (.int x :: .ref (ra mo 10) :: r) (putR w mo S) Q ↔ ((0 ≤ x.toInt ∧ x.toInt < 16) ∧ WP P 98 19 lo (.int (xi (S 10 x.toInt.toNat)) :: r) (putR w mo S) Q) := R_iald rfl (by decide) rfl rfl rfl
theorem wM_first_19 : WP P 98 19 lo st w Q ↔ x_gi lo[1]? (fun x => WP P 98 20 lo (.int x :: st) w Q) := W_iload_n rfl rfl rfl
theorem wM_first_20 : WP P 98 20 lo (.int y :: .int x :: r) w Q ↔ (if x = y then WP P 98 23 lo r w Q else WP P 98 57 lo r w Q) := W_ic_ne rfl rfl rfl
theorem wM_first_23 : WP P 98 23 lo st w Q ↔ x_ga lo[0]? (fun v => WP P 98 24 lo (v :: st) w Q) := W_aload_n rfl rfl rfl
theorem wM_first_24 : WP P 98 24 lo (.ref mo :: r) (putR w mo S) Q ↔ WP P 98 27 lo (.ref (ra mo 19) :: r) (putR w mo S) Q := R_get rfl rfl (by decide) rfl
theorem wM_first_27 : WP P 98 27 lo st w Q ↔ x_gi lo[4]? (fun x => WP P 98 29 lo (.int x :: st) w Q) := W_iload rfl rfl
theorem wM_first_29 : WP P 98 29 lo (.int x :: .ref (ra mo 19) :: r) (putR w mo S) Q ↔ ((0 ≤ x.toInt ∧ x.toInt < 16) ∧ WP P 98 30 lo (.int (xi (S 19 x.toInt.toNat)) :: r) (putR w mo S) Q) := R_iald rfl (by decide) rfl rfl rfl
theorem wM_first_30 : WP P 98 30 lo st w Q ↔ x_gi lo[2]? (fun x => WP P 98 31 lo (.int x :: st) w Q) := W_iload_n rfl rfl rfl
theorem wM_first_31 : WP P 98 31 lo (.int y :: .int x :: r) w Q ↔ (if x = y then WP P 98 34 lo r w Q else WP P 98 57 lo r w Q) := W_ic_ne rfl rfl rfl
theorem wM_first_34 : WP P 98 34 lo st w Q ↔ x_gi lo[3]? (fun x => WP P 98 35 lo (.int x :: st) w Q) := W_iload_n rfl rfl rfl
theorem wM_first_35 : WP P 98 35 lo (.int x :: r) w Q ↔ (if x < xi 0 then WP P 98 54 lo r w Q else WP P 98 38 lo r w Q) := W_if_lt rfl rfl rfl
theorem wM_first_38 : WP P 98 38 lo st w Q ↔ x_ga lo[0]? (fun v => WP P 98 39 lo (v :: st) w Q) := W_aload_n rfl rfl rfl
theorem wM_first_39 : WP P 98 39 lo (.ref mo :: r) (putR w mo S) Q ↔ WP P 98 42 lo (.ref (ra mo 18) :: r) (putR w mo S) Q := R_get rfl rfl (by decide) rfl
theorem wM_first_42 : WP P 98 42 lo st w Q ↔ x_gi lo[4]? (fun x => WP P 98 44 lo (.int x :: st) w Q) := W_iload rfl rfl
theorem wM_first_44 : WP P 98 44 lo (.int x :: .ref (ra mo 18) :: r) (putR w mo S) Q ↔ ((0 ≤ x.toInt ∧ x.toInt < 16) ∧ WP P 98 45 lo (.int (xi (S 18 x.toInt.toNat)) :: r) (putR w mo S) Q) := R_iald rfl (by decide) rfl rfl rfl
theorem wM_first_45 : WP P 98 45 lo st w Q ↔ x_ga lo[0]? (fun v => WP P 98 46 lo (v :: st) w Q) := W_aload_n rfl rfl rfl
theorem wM_first_46 : WP P 98 46 lo (.ref mo :: r) (putR w mo S) Q ↔ WP P 98 49 lo (.ref (ra mo 18) :: r) (putR w mo S) Q := R_get rfl rfl (by decide) rfl
theorem wM_first_49 : WP P 98 49 lo st w Q ↔ x_gi lo[3]? (fun x => WP P 98 50 lo (.int x :: st) w Q) := W_iload_n rfl rfl rfl
theorem wM_first_50 : WP P 98 50 lo (.int x :: .ref (ra mo 18) :: r) (putR w mo S) Q ↔ ((0 ≤ x.toInt ∧ x.toInt < 16) ∧ WP P 98 51 lo (.int (xi (S 18 x.toInt.toNat)) :: r) (putR w mo S) Q) := R_iald rfl (by decide) rfl rfl rfl
theorem wM_first_51 : WP P 98 51 lo (.int y :: .int x :: r) w Q ↔ (if x < y then WP P 98 54 lo r w Q else WP P 98 57 lo r w Q) := W_ic_ge rfl rfl rfl
theorem wM_first_54 : WP P 98 54 lo st w Q ↔ x_gi lo[4]? (fun x => WP P 98 56 lo (.int x :: st) w Q) := W_iload rfl rfl
theorem wM_first_56 : WP P 98 56 lo (.int x :: r) w Q ↔ (3 < lo.length ∧ WP P 98 57 (lo.set 3 (some (.int x))) r w Q) := W_istore_n rfl rfl rfl
theorem wM_first_57 : WP P 98 57 lo st w Q ↔ x_gi lo[4]? (fun x => WP P 98 60 (lo.set 4 (some (.int (x + xi 1)))) st w Q) := W_iinc rfl rfl
theorem wM_first_60 : WP P 98 60 lo st w Q ↔ WP P 98 5 lo st w Q := W_goto rfl rfl
theorem wM_first_63 : WP P 98 63 lo st w Q ↔ x_gi lo[3]? (fun x => WP P 98 64 lo (.int x :: st) w Q) := W_iload_n rfl rfl rfl
theorem wM_first_64 : WP P 98 64 lo [.int x] w Q ↔ Q (some (.int x)) w := WP_ret rfl rfl
-- 99 M_waits
theorem wM_waits_0 : WP P 99 0 lo st w Q ↔ x_ga lo[0]? (fun v => WP P 99 1 lo (v :: st) w Q) := W_aload_n rfl rfl rfl
theorem wM_waits_1 : WP P 99 1 lo (.ref mo :: r) (putR w mo S) Q ↔ WP P 99 4 lo (.ref (ra mo 10) :: r) (putR w mo S) Q := R_get rfl rfl (by decide) rfl
theorem wM_waits_4 : WP P 99 4 lo st w Q ↔ x_gi lo[1]? (fun x => WP P 99 5 lo (.int x :: st) w Q) := W_iload_n rfl rfl rfl
theorem wM_waits_5 : WP P 99 5 lo st w Q ↔ x_gi lo[2]? (fun x => WP P 99 6 lo (.int x :: st) w Q) := W_iload_n rfl rfl rfl
theorem wM_waits_6 : WP P 99 6 lo (.int (xi z) :: .int x :: .ref (ra mo 10) :: r) (putR w mo S) Q ↔ ((0 ≤ x.toInt ∧ x.toInt < 16) ∧ WP P 99 7 lo r (putR w mo (sset S 10 x.toInt.toNat z)) Q) := R_iast rfl (by decide) rfl rfl rfl
theorem wM_waits_7 : WP P 99 7 lo st w Q ↔ x_ga lo[0]? (fun v => WP P 99 8 lo (v :: st) w Q) := W_aload_n rfl rfl rfl
theorem wM_waits_8 : WP P 99 8 lo (.ref mo :: r) (putR w mo S) Q ↔ WP P 99 11 lo (.ref (ra mo 19) :: r) (putR w mo S) Q := R_get rfl rfl (by decide) rfl
theorem wM_waits_11 : WP P 99 11 lo st w Q ↔ x_gi lo[1]? (fun x => WP P 99 12 lo (.int x :: st) w Q) := W_iload_n rfl rfl rfl
theorem wM_waits_12 : WP P 99 12 lo st w Q ↔ x_gi lo[3]? (fun x => WP P 99 13 lo (.int x :: st) w Q) := W_iload_n rfl rfl rfl
theorem wM_waits_13 : WP P 99 13 lo (.int (xi z) :: .int x :: .ref (ra mo 19) :: r) (putR w mo S) Q ↔ ((0 ≤ x.toInt ∧ x.toInt < 16) ∧ WP P 99 14 lo r (putR w mo (sset S 19 x.toInt.toNat z)) Q) := R_iast rfl (by decide) rfl rfl rfl
theorem wM_waits_14 : WP P 99 14 lo st w Q ↔ x_ga lo[0]? (fun v => WP P 99 15 lo (v :: st) w Q) := W_aload_n rfl rfl rfl
theorem wM_waits_15 : WP P 99 15 lo (.ref mo :: r) (putR w mo S) Q ↔ WP P 99 18 lo (.ref (ra mo 20) :: r) (putR w mo S) Q := R_get rfl rfl (by decide) rfl
theorem wM_waits_18 : WP P 99 18 lo st w Q ↔ x_gi lo[1]? (fun x => WP P 99 19 lo (.int x :: st) w Q) := W_iload_n rfl rfl rfl
theorem wM_waits_19 : WP P 99 19 lo st w Q ↔ x_gi lo[4]? (fun x => WP P 99 21 lo (.int x :: st) w Q) := W_iload rfl rfl
theorem wM_waits_21 : WP P 99 21 lo (.int (xi z) :: .int x :: .ref (ra mo 20) :: r) (putR w mo S) Q ↔ ((0 ≤ x.toInt ∧ x.toInt < 16) ∧ WP P 99 22 lo r (putR w mo (sset S 20 x.toInt.toNat z)) Q) := R_iast rfl (by decide) rfl rfl rfl
theorem wM_waits_22 : WP P 99 22 lo st w Q ↔ x_ga lo[0]? (fun v => WP P 99 23 lo (v :: st) w Q) := W_aload_n rfl rfl rfl
theorem wM_waits_23 : WP P 99 23 lo (v1 :: r) w Q ↔ (x_cat1 v1 = true ∧ WP P 99 24 lo (v1 :: v1 :: r) w Q) := W_dup rfl rfl
theorem wM_waits_24 : WP P 99 24 lo (.ref mo :: r) (putR w mo S) Q ↔ WP P 99 27 lo (.int (xi (S 28 0)) :: r) (putR w mo S) Q := R_getC rfl rfl rfl
theorem wM_waits_27 : WP P 99 27 lo st w Q ↔ WP P 99 28 lo (.int (xi 1) :: st) w Q := W_iconst rfl rfl rfl
theorem wM_waits_28 : WP P 99 28 lo (.int y :: .int x :: r) w Q ↔ WP P 99 29 lo (.int (x + y) :: r) w Q := W_iadd rfl rfl
theorem wM_waits_29 : WP P 99 29 lo (.int (xi z) :: .ref mo :: r) (putR w mo S) Q ↔ WP P 99 32 lo r (putR w mo (sset S 28 0 z)) Q := R_putC rfl rfl rfl
theorem wM_waits_32 : WP P 99 32 lo st w Q ↔ x_ga lo[0]? (fun v => WP P 99 33 lo (v :: st) w Q) := W_aload_n rfl rfl rfl
theorem wM_waits_33 : WP P 99 33 lo (.ref mo :: r) (putR w mo S) Q ↔ WP P 99 36 lo (.ref (ra mo 18) :: r) (putR w mo S) Q := R_get rfl rfl (by decide) rfl
theorem wM_waits_36 : WP P 99 36 lo st w Q ↔ x_gi lo[1]? (fun x => WP P 99 37 lo (.int x :: st) w Q) := W_iload_n rfl rfl rfl
theorem wM_waits_37 : WP P 99 37 lo st w Q ↔ x_ga lo[0]? (fun v => WP P 99 38 lo (v :: st) w Q) := W_aload_n rfl rfl rfl
theorem wM_waits_38 : WP P 99 38 lo (.ref mo :: r) (putR w mo S) Q ↔ WP P 99 41 lo (.int (xi (S 28 0)) :: r) (putR w mo S) Q := R_getC rfl rfl rfl
theorem wM_waits_41 : WP P 99 41 lo (.int (xi z) :: .int x :: .ref (ra mo 18) :: r) (putR w mo S) Q ↔ ((0 ≤ x.toInt ∧ x.toInt < 16) ∧ WP P 99 42 lo r (putR w mo (sset S 18 x.toInt.toNat z)) Q) := R_iast rfl (by decide) rfl rfl rfl
theorem wM_waits_42 : WP P 99 42 lo [] w Q ↔ Q none w := WP_ret rfl rfl
-- 100 M_transfer
theorem wM_transfer_0 : WP P 100 0 lo st w Q ↔ x_ga lo[0]? (fun v => WP P 100 1 lo (v :: st) w Q) := W_aload_n rfl rfl rfl
theorem wM_transfer_1 : WP P 100 1 lo (.ref mo :: r) (putR w mo S) Q ↔ WP P 100 4 lo (.ref (ra mo 15) :: r) (putR w mo S) Q := R_get rfl rfl (by decide) rfl
theorem wM_transfer_4 : WP P 100 4 lo st w Q ↔ x_gi lo[2]? (fun x => WP P 100 5 lo (.int x :: st) w Q) := W_iload_n rfl rfl rfl
theorem wM_transfer_5 : WP P 100 5 lo st w Q ↔ x_ga lo[0]? (fun v => WP P 100 6 lo (v :: st) w Q) := W_aload_n rfl rfl rfl
theorem wM_transfer_6 : WP P 100 6 lo (.ref mo :: r) (putR w mo S) Q ↔ WP P 100 9 lo (.ref (ra mo 21) :: r) (putR w mo S) Q := R_get rfl rfl (by decide) rfl
theorem wM_transfer_9 : WP P 100 9 lo st w Q ↔ x_gi lo[1]? (fun x => WP P 100 10 lo (.int x :: st) w Q) := W_iload_n rfl rfl rfl
theorem wM_transfer_10 : WP P 100 10 lo (.int x :: .ref (ra mo 21) :: r) (putR w mo S) Q ↔ ((0 ≤ x.toInt ∧ x.toInt < 16) ∧ WP P 100 11 lo (.int (xi (S 21 x.toInt.toNat)) :: r) (putR w mo S) Q) := R_iald rfl (by decide) rfl rfl rfl
theorem wM_transfer_11 : WP P 100 11 lo (.int (xi z) :: .int x :: .ref (ra mo 15) :: r) (putR w mo S) Q ↔ ((0 ≤ x.toInt ∧ x.toInt < 16) ∧ WP P 100 12 lo r (putR w mo (sset S 15 x.toInt.toNat z)) Q) := R_iast rfl (by decide) rfl rfl rfl
theorem wM_transfer_12 : WP P 100 12 lo st w Q ↔ x_ga lo[0]? (fun v => WP P 100 13 lo (v :: st) w Q) := W_aload_n rfl rfl rfl
theorem wM_transfer_13 : WP P 100 13 lo (.ref mo :: r) (putR w mo S) Q ↔ WP P 100 16 lo (.ref (ra mo 16) :: r) (putR w mo S) Q := R_get rfl rfl (by decide) rfl
theorem wM_transfer_16 : WP P 100 16 lo st w Q ↔ x_gi lo[2]? (fun x => WP P 100 17 lo (.int x :: st) w Q) := W_iload_n rfl rfl rfl
theorem wM_transfer_17 : WP P 100 17 lo st w Q ↔ x_ga lo[0]? (fun v => WP P 100 18 lo (v :: st) w Q) := W_aload_n rfl rfl rfl
theorem wM_transfer_18 : WP P 100 18 lo (.ref mo :: r) (putR w mo S) Q ↔ WP P 100 21 lo (.ref (ra mo 22) :: r) (putR w mo S) Q := R_get rfl rfl (by decide) rfl
theorem wM_transfer_21 : WP P 100 21 lo st w Q ↔ x_gi lo[1]? (fun x => WP P 100 22 lo (.int x :: st) w Q) := W_iload_n rfl rfl rfl
theorem wM_transfer_22 : WP P 100 22 lo (.int x :: .ref (ra mo 22) :: r) (putR w mo S) Q ↔ ((0 ≤ x.toInt ∧ x.toInt < 16) ∧ WP P 100 23 lo (.int (xi (S 22 x.toInt.toNat)) :: r) (putR w mo S) Q) := R_iald rfl (by decide) rfl rfl rfl
theorem wM_transfer_23 : WP P 100 23 lo (.int (xi z) :: .int x :: .ref (ra mo 16) :: r) (putR w mo S) Q ↔ ((0 ≤ x.toInt ∧ x.toInt < 16) ∧ WP P 100 24 lo r (putR w mo (sset S 16 x.toInt.toNat z)) Q) := R_iast rfl (by decide) rfl rfl rfl
theorem wM_transfer_24 : WP P 100 24 lo st w Q ↔ x_ga lo[0]? (fun v => WP P 100 25 lo (v :: st) w Q) := W_aload_n rfl rfl rfl
theorem wM_transfer_25 : WP P 100 25 lo st w Q ↔ x_gi lo[1]? (fun x => WP P 100 26 lo (.int x :: st) w Q) := W_iload_n rfl rfl rfl
theorem wM_transfer_26 : WP P 100 26 lo st w Q ↔ x_ga lo[0]? (fun v => WP P 100 27 lo (v :: st) w Q) := W_aload_n rfl rfl rfl
theorem wM_transfer_27 : WP P 100 27 lo (.ref mo :: r) (putR w mo S) Q ↔ WP P 100 30 lo (.ref (ra mo 20) :: r) (putR w mo S) Q := R_get rfl rfl (by decide) rfl
theorem wM_transfer_30 : WP P 100 30 lo st w Q ↔ x_gi lo[1]? (fun x => WP P 100 31 lo (.int x :: st) w Q) := W_iload_n rfl rfl rfl
theorem wM_transfer_31 : WP P 100 31 lo (.int x :: .ref (ra mo 20) :: r) (putR w mo S) Q ↔ ((0 ≤ x.toInt ∧ x.toInt < 16) ∧ WP P 100 32 lo (.int (xi (S 20 x.toInt.toNat)) :: r) (putR w mo S) Q) := R_iald rfl (by decide) rfl rfl rfl
theorem wM_transfer_32 {u1 u2 : Value} (hr : r.length ≤ 8) (hc : ([u1, u2] : List Value).all x_cat1 = true) (hc2 : r.all x_cat1 = true) (k : WP P 83 0 [some (.ref mo), some u1, some u2, none] [] (putR w mo S) (fun v w1 => WP P 100 35 lo (v.toList ++ r) w1 Q)) : WP P 100 32 lo (u2 :: u1 :: .ref mo :: r) (putR w mo S) Q := K_virt (as := [u1, u2]) rfl rfl rfl rfl (by decide) (by decide) rfl putR_tgM hr hc hc2 k
theorem wM_transfer_35 : WP P 100 35 lo (.int x :: r) w Q ↔ (3 < lo.length ∧ WP P 100 36 (lo.set 3 (some (.int x))) r w Q) := W_istore_n rfl rfl rfl
theorem wM_transfer_36 : WP P 100 36 lo st w Q ↔ x_ga lo[0]? (fun v => WP P 100 37 lo (v :: st) w Q) := W_aload_n rfl rfl rfl
theorem wM_transfer_37 : WP P 100 37 lo st w Q ↔ x_gi lo[2]? (fun x => WP P 100 38 lo (.int x :: st) w Q) := W_iload_n rfl rfl rfl
theorem wM_transfer_38 : WP P 100 38 lo st w Q ↔ x_ga lo[0]? (fun v => WP P 100 39 lo (v :: st) w Q) := W_aload_n rfl rfl rfl
theorem wM_transfer_39 : WP P 100 39 lo (.ref mo :: r) (putR w mo S) Q ↔ WP P 100 42 lo (.ref (ra mo 20) :: r) (putR w mo S) Q := R_get rfl rfl (by decide) rfl
theorem wM_transfer_42 : WP P 100 42 lo st w Q ↔ x_gi lo[2]? (fun x => WP P 100 43 lo (.int x :: st) w Q) := W_iload_n rfl rfl rfl
theorem wM_transfer_43 : WP P 100 43 lo (.int x :: .ref (ra mo 20) :: r) (putR w mo S) Q ↔ ((0 ≤ x.toInt ∧ x.toInt < 16) ∧ WP P 100 44 lo (.int (xi (S 20 x.toInt.toNat)) :: r) (putR w mo S) Q) := R_iald rfl (by decide) rfl rfl rfl
theorem wM_transfer_44 {u1 u2 : Value} (hr : r.length ≤ 8) (hc : ([u1, u2] : List Value).all x_cat1 = true) (hc2 : r.all x_cat1 = true) (k : WP P 83 0 [some (.ref mo), some u1, some u2, none] [] (putR w mo S) (fun v w1 => WP P 100 47 lo (v.toList ++ r) w1 Q)) : WP P 100 44 lo (u2 :: u1 :: .ref mo :: r) (putR w mo S) Q := K_virt (as := [u1, u2]) rfl rfl rfl rfl (by decide) (by decide) rfl putR_tgM hr hc hc2 k
theorem wM_transfer_47 : WP P 100 47 lo (.int x :: r) w Q ↔ (4 < lo.length ∧ WP P 100 49 (lo.set 4 (some (.int x))) r w Q) := W_istore rfl rfl
theorem wM_transfer_49 : WP P 100 49 lo st w Q ↔ x_ga lo[0]? (fun v => WP P 100 50 lo (v :: st) w Q) := W_aload_n rfl rfl rfl
theorem wM_transfer_50 : WP P 100 50 lo (.ref mo :: r) (putR w mo S) Q ↔ WP P 100 53 lo (.ref (ra mo 23) :: r) (putR w mo S) Q := R_get rfl rfl (by decide) rfl
theorem wM_transfer_53 : WP P 100 53 lo st w Q ↔ x_gi lo[1]? (fun x => WP P 100 54 lo (.int x :: st) w Q) := W_iload_n rfl rfl rfl
theorem wM_transfer_54 : WP P 100 54 lo (.int x :: .ref (ra mo 23) :: r) (putR w mo S) Q ↔ ((0 ≤ x.toInt ∧ x.toInt < 16) ∧ WP P 100 55 lo (.int (xi (S 23 x.toInt.toNat)) :: r) (putR w mo S) Q) := R_bald rfl (by decide) rfl rfl rfl
theorem wM_transfer_55 : WP P 100 55 lo (.int x :: r) w Q ↔ (if x = xi 0 then WP P 100 90 lo r w Q else WP P 100 58 lo r w Q) := W_if_eq rfl rfl rfl
theorem wM_transfer_58 : WP P 100 58 lo st w Q ↔ x_gi lo[3]? (fun x => WP P 100 59 lo (.int x :: st) w Q) := W_iload_n rfl rfl rfl
theorem wM_transfer_59 : WP P 100 59 lo (.int x :: r) w Q ↔ (if x < xi 0 then WP P 100 90 lo r w Q else WP P 100 62 lo r w Q) := W_if_lt rfl rfl rfl
theorem wM_transfer_62 : WP P 100 62 lo st w Q ↔ x_gi lo[4]? (fun x => WP P 100 64 lo (.int x :: st) w Q) := W_iload rfl rfl
theorem wM_transfer_64 : WP P 100 64 lo (.int x :: r) w Q ↔ (if x < xi 0 then WP P 100 90 lo r w Q else WP P 100 67 lo r w Q) := W_if_lt rfl rfl rfl
theorem wM_transfer_67 : WP P 100 67 lo st w Q ↔ x_ga lo[0]? (fun v => WP P 100 68 lo (v :: st) w Q) := W_aload_n rfl rfl rfl
theorem wM_transfer_68 : WP P 100 68 lo (.ref mo :: r) (putR w mo S) Q ↔ WP P 100 71 lo (.ref (ra mo 0) :: r) (putR w mo S) Q := R_get rfl rfl (by decide) rfl
theorem wM_transfer_71 : WP P 100 71 lo st w Q ↔ x_gi lo[3]? (fun x => WP P 100 72 lo (.int x :: st) w Q) := W_iload_n rfl rfl rfl
theorem wM_transfer_72 : WP P 100 72 lo (.int x :: .ref (ra mo 0) :: r) (putR w mo S) Q ↔ ((0 ≤ x.toInt ∧ x.toInt < 128) ∧ WP P 100 73 lo (.int (xi (S 0 x.toInt.toNat)) :: r) (putR w mo S) Q) := R_iald rfl (by decide) rfl rfl rfl
theorem wM_transfer_73 : WP P 100 73 lo (.int x :: r) w Q ↔ (if xi 0 < x then WP P 100 76 lo r w Q else WP P 100 90 lo r w Q) := W_if_le rfl rfl rfl
theorem wM_transfer_76 : WP P 100 76 lo st w Q ↔ x_ga lo[0]? (fun v => WP P 100 77 lo (v :: st) w Q) := W_aload_n rfl rfl rfl
theorem wM_transfer_77 : WP P 100 77 lo (.ref mo :: r) (putR w mo S) Q ↔ WP P 100 80 lo (.ref (ra mo 0) :: r) (putR w mo S) Q := R_get rfl rfl (by decide) rfl
theorem wM_transfer_80 : WP P 100 80 lo st w Q ↔ x_gi lo[4]? (fun x => WP P 100 82 lo (.int x :: st) w Q) := W_iload rfl rfl
theorem wM_transfer_82 : WP P 100 82 lo (.int x :: .ref (ra mo 0) :: r) (putR w mo S) Q ↔ ((0 ≤ x.toInt ∧ x.toInt < 128) ∧ WP P 100 83 lo (.int (xi (S 0 x.toInt.toNat)) :: r) (putR w mo S) Q) := R_iald rfl (by decide) rfl rfl rfl
theorem wM_transfer_83 : WP P 100 83 lo (.int x :: r) w Q ↔ (if x < xi 0 then WP P 100 86 lo r w Q else WP P 100 90 lo r w Q) := W_if_ge rfl rfl rfl
theorem wM_transfer_86 : WP P 100 86 lo st w Q ↔ WP P 100 87 lo (.int (xi 1) :: st) w Q := W_iconst rfl rfl rfl
theorem wM_transfer_87 : WP P 100 87 lo st w Q ↔ WP P 100 91 lo st w Q := W_goto rfl rfl
theorem wM_transfer_90 : WP P 100 90 lo st w Q ↔ WP P 100 91 lo (.int (xi 0) :: st) w Q := W_iconst rfl rfl rfl
theorem wM_transfer_91 : WP P 100 91 lo (.int x :: r) w Q ↔ (5 < lo.length ∧ WP P 100 93 (lo.set 5 (some (.int x))) r w Q) := W_istore rfl rfl
theorem wM_transfer_93 : WP P 100 93 lo st w Q ↔ x_ga lo[0]? (fun v => WP P 100 94 lo (v :: st) w Q) := W_aload_n rfl rfl rfl
theorem wM_transfer_94 : WP P 100 94 lo (.ref mo :: r) (putR w mo S) Q ↔ WP P 100 97 lo (.ref (ra mo 17) :: r) (putR w mo S) Q := R_get rfl rfl (by decide) rfl
theorem wM_transfer_97 : WP P 100 97 lo st w Q ↔ x_gi lo[2]? (fun x => WP P 100 98 lo (.int x :: st) w Q) := W_iload_n rfl rfl rfl
theorem wM_transfer_98 : WP P 100 98 lo st w Q ↔ x_gi lo[5]? (fun x => WP P 100 100 lo (.int x :: st) w Q) := W_iload rfl rfl
theorem wM_transfer_100 : WP P 100 100 lo (.int x :: r) w Q ↔ (if x = xi 0 then WP P 100 107 lo r w Q else WP P 100 103 lo r w Q) := W_if_eq rfl rfl rfl
theorem wM_transfer_103 : WP P 100 103 lo st w Q ↔ WP P 100 104 lo (.int (xi 1) :: st) w Q := W_iconst rfl rfl rfl
theorem wM_transfer_104 : WP P 100 104 lo st w Q ↔ WP P 100 108 lo st w Q := W_goto rfl rfl
theorem wM_transfer_107 : WP P 100 107 lo st w Q ↔ WP P 100 108 lo (.int (xi 0) :: st) w Q := W_iconst rfl rfl rfl
theorem wM_transfer_108 : WP P 100 108 lo (.int (xi z) :: .int x :: .ref (ra mo 17) :: r) (putR w mo S) Q ↔ ((0 ≤ x.toInt ∧ x.toInt < 16) ∧ WP P 100 109 lo r (putR w mo (sset S 17 x.toInt.toNat z)) Q) := R_iast rfl (by decide) rfl rfl rfl
theorem wM_transfer_109 : WP P 100 109 lo st w Q ↔ x_gi lo[5]? (fun x => WP P 100 111 lo (.int x :: st) w Q) := W_iload rfl rfl
theorem wM_transfer_111 : WP P 100 111 lo (.int x :: r) w Q ↔ (if x = xi 0 then WP P 100 160 lo r w Q else WP P 100 114 lo r w Q) := W_if_eq rfl rfl rfl
theorem wM_transfer_114 : WP P 100 114 lo st w Q ↔ x_ga lo[0]? (fun v => WP P 100 115 lo (v :: st) w Q) := W_aload_n rfl rfl rfl
theorem wM_transfer_115 : WP P 100 115 lo st w Q ↔ x_gi lo[4]? (fun x => WP P 100 117 lo (.int x :: st) w Q) := W_iload rfl rfl
theorem wM_transfer_117 : WP P 100 117 lo st w Q ↔ x_ga lo[0]? (fun v => WP P 100 118 lo (v :: st) w Q) := W_aload_n rfl rfl rfl
theorem wM_transfer_118 : WP P 100 118 lo (.ref mo :: r) (putR w mo S) Q ↔ WP P 100 121 lo (.ref (ra mo 0) :: r) (putR w mo S) Q := R_get rfl rfl (by decide) rfl
theorem wM_transfer_121 : WP P 100 121 lo st w Q ↔ x_gi lo[3]? (fun x => WP P 100 122 lo (.int x :: st) w Q) := W_iload_n rfl rfl rfl
theorem wM_transfer_122 : WP P 100 122 lo (.int x :: .ref (ra mo 0) :: r) (putR w mo S) Q ↔ ((0 ≤ x.toInt ∧ x.toInt < 128) ∧ WP P 100 123 lo (.int (xi (S 0 x.toInt.toNat)) :: r) (putR w mo S) Q) := R_iald rfl (by decide) rfl rfl rfl
theorem wM_transfer_123 : WP P 100 123 lo st w Q ↔ x_ga lo[0]? (fun v => WP P 100 124 lo (v :: st) w Q) := W_aload_n rfl rfl rfl
theorem wM_transfer_124 : WP P 100 124 lo (.ref mo :: r) (putR w mo S) Q ↔ WP P 100 127 lo (.ref (ra mo 1) :: r) (putR w mo S) Q := R_get rfl rfl (by decide) rfl
theorem wM_transfer_127 : WP P 100 127 lo st w Q ↔ x_gi lo[3]? (fun x => WP P 100 128 lo (.int x :: st) w Q) := W_iload_n rfl rfl rfl
theorem wM_transfer_128 : WP P 100 128 lo (.int x :: .ref (ra mo 1) :: r) (putR w mo S) Q ↔ ((0 ≤ x.toInt ∧ x.toInt < 128) ∧ WP P 100 129 lo (.int (xi (S 1 x.toInt.toNat)) :: r) (putR w mo S) Q) := R_iald rfl (by decide) rfl rfl rfl
theorem wM_transfer_129 : WP P 100 129 lo st w Q ↔ WP P 100 130 lo (.int (xi 0) :: st) w Q := W_iconst rfl rfl rfl
theorem wM_transfer_130 : WP P 100 130 lo st w Q ↔ x_gi lo[3]? (fun x => WP P 100 131 lo (.int x :: st) w Q) := W_iload_n rfl rfl rfl
theorem wM_transfer_131 {u1 u2 u3 u4 u5 : Value} (hr : r.length ≤ 8) (hc : ([u1, u2, u3, u4, u5] : List Value).all x_cat1 = true) (hc2 : r.all x_cat1 = true) (k : WP P 77 0 [some (.ref mo), some u1, some u2, some u3, some u4, some u5] [] (putR w mo S) (fun v w1 => WP P 100 134 lo (v.toList ++ r) w1 Q)) : WP P 100 131 lo (u5 :: u4 :: u3 :: u2 :: u1 :: .ref mo :: r) (putR w mo S) Q := K_virt (as := [u1, u2, u3, u4, u5]) rfl rfl rfl rfl (by decide) (by decide) rfl putR_tgM hr hc hc2 k
theorem wM_transfer_134 : WP P 100 134 lo st w Q ↔ x_ga lo[0]? (fun v => WP P 100 135 lo (v :: st) w Q) := W_aload_n rfl rfl rfl
theorem wM_transfer_135 : WP P 100 135 lo (.ref mo :: r) (putR w mo S) Q ↔ WP P 100 138 lo (.ref (ra mo 2) :: r) (putR w mo S) Q := R_get rfl rfl (by decide) rfl
theorem wM_transfer_138 : WP P 100 138 lo st w Q ↔ x_gi lo[4]? (fun x => WP P 100 140 lo (.int x :: st) w Q) := W_iload rfl rfl
theorem wM_transfer_140 : WP P 100 140 lo st w Q ↔ x_ga lo[0]? (fun v => WP P 100 141 lo (v :: st) w Q) := W_aload_n rfl rfl rfl
theorem wM_transfer_141 : WP P 100 141 lo (.ref mo :: r) (putR w mo S) Q ↔ WP P 100 144 lo (.ref (ra mo 2) :: r) (putR w mo S) Q := R_get rfl rfl (by decide) rfl
theorem wM_transfer_144 : WP P 100 144 lo st w Q ↔ x_gi lo[3]? (fun x => WP P 100 145 lo (.int x :: st) w Q) := W_iload_n rfl rfl rfl
theorem wM_transfer_145 : WP P 100 145 lo (.int x :: .ref (ra mo 2) :: r) (putR w mo S) Q ↔ ((0 ≤ x.toInt ∧ x.toInt < 128) ∧ WP P 100 146 lo (.int (xi (S 2 x.toInt.toNat)) :: r) (putR w mo S) Q) := R_iald rfl (by decide) rfl rfl rfl
theorem wM_transfer_146 : WP P 100 146 lo (.int (xi z) :: .int x :: .ref (ra mo 2) :: r) (putR w mo S) Q ↔ ((0 ≤ x.toInt ∧ x.toInt < 128) ∧ WP P 100 147 lo r (putR w mo (sset S 2 x.toInt.toNat z)) Q) := R_iast rfl (by decide) rfl rfl rfl
theorem wM_transfer_147 : WP P 100 147 lo st w Q ↔ x_ga lo[0]? (fun v => WP P 100 148 lo (v :: st) w Q) := W_aload_n rfl rfl rfl
theorem wM_transfer_148 : WP P 100 148 lo (.ref mo :: r) (putR w mo S) Q ↔ WP P 100 151 lo (.ref (ra mo 3) :: r) (putR w mo S) Q := R_get rfl rfl (by decide) rfl
theorem wM_transfer_151 : WP P 100 151 lo st w Q ↔ x_gi lo[4]? (fun x => WP P 100 153 lo (.int x :: st) w Q) := W_iload rfl rfl
theorem wM_transfer_153 : WP P 100 153 lo st w Q ↔ x_ga lo[0]? (fun v => WP P 100 154 lo (v :: st) w Q) := W_aload_n rfl rfl rfl
theorem wM_transfer_154 : WP P 100 154 lo (.ref mo :: r) (putR w mo S) Q ↔ WP P 100 157 lo (.ref (ra mo 3) :: r) (putR w mo S) Q := R_get rfl rfl (by decide) rfl
theorem wM_transfer_157 : WP P 100 157 lo st w Q ↔ x_gi lo[3]? (fun x => WP P 100 158 lo (.int x :: st) w Q) := W_iload_n rfl rfl rfl
theorem wM_transfer_158 : WP P 100 158 lo (.int x :: .ref (ra mo 3) :: r) (putR w mo S) Q ↔ ((0 ≤ x.toInt ∧ x.toInt < 128) ∧ WP P 100 159 lo (.int (xi (S 3 x.toInt.toNat)) :: r) (putR w mo S) Q) := R_iald rfl (by decide) rfl rfl rfl
theorem wM_transfer_159 : WP P 100 159 lo (.int (xi z) :: .int x :: .ref (ra mo 3) :: r) (putR w mo S) Q ↔ ((0 ≤ x.toInt ∧ x.toInt < 128) ∧ WP P 100 160 lo r (putR w mo (sset S 3 x.toInt.toNat z)) Q) := R_iast rfl (by decide) rfl rfl rfl
theorem wM_transfer_160 : WP P 100 160 lo [] w Q ↔ Q none w := WP_ret rfl rfl
-- 101 M_receive
theorem wM_receive_0 : WP P 101 0 lo st w Q ↔ x_ga lo[0]? (fun v => WP P 101 1 lo (v :: st) w Q) := W_aload_n rfl rfl rfl
theorem wM_receive_1 (hr : r.length ≤ 8) (hc : ([] : List Value).all x_cat1 = true) (hc2 : r.all x_cat1 = true) (k : WP P 81 0 [some (.ref mo), none, none, none] [] (putR w mo S) (fun v w1 => WP P 101 4 lo (v.toList ++ r) w1 Q)) : WP P 101 1 lo (.ref mo :: r) (putR w mo S) Q := K_virt (as := []) rfl rfl rfl rfl (by decide) (by decide) rfl putR_tgM hr hc hc2 k
theorem wM_receive_4 : WP P 101 4 lo (.int x :: r) w Q ↔ (4 < lo.length ∧ WP P 101 6 (lo.set 4 (some (.int x))) r w Q) := W_istore rfl rfl
theorem wM_receive_6 : WP P 101 6 lo st w Q ↔ x_gi lo[4]? (fun x => WP P 101 8 lo (.int x :: st) w Q) := W_iload rfl rfl
theorem wM_receive_8 : WP P 101 8 lo (.int x :: r) w Q ↔ (if x < xi 0 then WP P 101 11 lo r w Q else WP P 101 14 lo r w Q) := W_if_ge rfl rfl rfl
theorem wM_receive_11 : WP P 101 11 lo st w Q ↔ WP P 101 13 lo (.int (xi 8) :: st) w Q := W_bipush rfl rfl (by decide)
theorem wM_receive_13 : WP P 101 13 lo [.int x] w Q ↔ Q (some (.int x)) w := WP_ret rfl rfl
theorem wM_receive_14 : WP P 101 14 lo st w Q ↔ x_ga lo[0]? (fun v => WP P 101 15 lo (v :: st) w Q) := W_aload_n rfl rfl rfl
theorem wM_receive_15 : WP P 101 15 lo st w Q ↔ x_gi lo[1]? (fun x => WP P 101 16 lo (.int x :: st) w Q) := W_iload_n rfl rfl rfl
theorem wM_receive_16 : WP P 101 16 lo st w Q ↔ WP P 101 17 lo (.int (xi 3) :: st) w Q := W_iconst rfl rfl rfl
theorem wM_receive_17 {u1 u2 : Value} (hr : r.length ≤ 8) (hc : ([u1, u2] : List Value).all x_cat1 = true) (hc2 : r.all x_cat1 = true) (k : WP P 82 0 [some (.ref mo), some u1, some u2, none] [] (putR w mo S) (fun v w1 => WP P 101 20 lo (v.toList ++ r) w1 Q)) : WP P 101 17 lo (u2 :: u1 :: .ref mo :: r) (putR w mo S) Q := K_virt (as := [u1, u2]) rfl rfl rfl rfl (by decide) (by decide) rfl putR_tgM hr hc hc2 k
theorem wM_receive_20 : WP P 101 20 lo (.int x :: r) w Q ↔ (5 < lo.length ∧ WP P 101 22 (lo.set 5 (some (.int x))) r w Q) := W_istore rfl rfl
theorem wM_receive_22 : WP P 101 22 lo st w Q ↔ x_gi lo[5]? (fun x => WP P 101 24 lo (.int x :: st) w Q) := W_iload rfl rfl
theorem wM_receive_24 : WP P 101 24 lo (.int x :: r) w Q ↔ (if x < xi 0 then WP P 101 39 lo r w Q else WP P 101 27 lo r w Q) := W_if_lt rfl rfl rfl
theorem wM_receive_27 : WP P 101 27 lo st w Q ↔ x_ga lo[0]? (fun v => WP P 101 28 lo (v :: st) w Q) := W_aload_n rfl rfl rfl
theorem wM_receive_28 : WP P 101 28 lo (.ref mo :: r) (putR w mo S) Q ↔ WP P 101 31 lo (.ref (ra mo 2) :: r) (putR w mo S) Q := R_get rfl rfl (by decide) rfl
theorem wM_receive_31 : WP P 101 31 lo st w Q ↔ x_gi lo[5]? (fun x => WP P 101 33 lo (.int x :: st) w Q) := W_iload rfl rfl
theorem wM_receive_33 : WP P 101 33 lo (.int x :: .ref (ra mo 2) :: r) (putR w mo S) Q ↔ ((0 ≤ x.toInt ∧ x.toInt < 128) ∧ WP P 101 34 lo (.int (xi (S 2 x.toInt.toNat)) :: r) (putR w mo S) Q) := R_iald rfl (by decide) rfl rfl rfl
theorem wM_receive_34 : WP P 101 34 lo st w Q ↔ WP P 101 35 lo (.int (xi 1) :: st) w Q := W_iconst rfl rfl rfl
theorem wM_receive_35 : WP P 101 35 lo (.int y :: .int x :: r) w Q ↔ WP P 101 36 lo (.int (x &&& y) :: r) w Q := W_iand rfl rfl
theorem wM_receive_36 : WP P 101 36 lo (.int x :: r) w Q ↔ (if x = xi 0 then WP P 101 39 lo r w Q else WP P 101 50 lo r w Q) := W_if_ne rfl rfl rfl
theorem wM_receive_39 : WP P 101 39 lo st w Q ↔ x_gi lo[5]? (fun x => WP P 101 41 lo (.int x :: st) w Q) := W_iload rfl rfl
theorem wM_receive_41 : WP P 101 41 lo (.int x :: r) w Q ↔ (if x < xi 0 then WP P 101 44 lo r w Q else WP P 101 48 lo r w Q) := W_if_ge rfl rfl rfl
theorem wM_receive_44 : WP P 101 44 lo st w Q ↔ WP P 101 45 lo (.int (xi 1) :: st) w Q := W_iconst rfl rfl rfl
theorem wM_receive_45 : WP P 101 45 lo st w Q ↔ WP P 101 49 lo st w Q := W_goto rfl rfl
theorem wM_receive_48 : WP P 101 48 lo st w Q ↔ WP P 101 49 lo (.int (xi 2) :: st) w Q := W_iconst rfl rfl rfl
theorem wM_receive_49 : WP P 101 49 lo [.int x] w Q ↔ Q (some (.int x)) w := WP_ret rfl rfl
theorem wM_receive_50 : WP P 101 50 lo st w Q ↔ x_ga lo[0]? (fun v => WP P 101 51 lo (v :: st) w Q) := W_aload_n rfl rfl rfl
theorem wM_receive_51 : WP P 101 51 lo st w Q ↔ WP P 101 52 lo (.int (xi 3) :: st) w Q := W_iconst rfl rfl rfl
theorem wM_receive_52 : WP P 101 52 lo st w Q ↔ x_ga lo[0]? (fun v => WP P 101 53 lo (v :: st) w Q) := W_aload_n rfl rfl rfl
theorem wM_receive_53 : WP P 101 53 lo (.ref mo :: r) (putR w mo S) Q ↔ WP P 101 56 lo (.ref (ra mo 1) :: r) (putR w mo S) Q := R_get rfl rfl (by decide) rfl
theorem wM_receive_56 : WP P 101 56 lo st w Q ↔ x_gi lo[5]? (fun x => WP P 101 58 lo (.int x :: st) w Q) := W_iload rfl rfl
theorem wM_receive_58 : WP P 101 58 lo (.int x :: .ref (ra mo 1) :: r) (putR w mo S) Q ↔ ((0 ≤ x.toInt ∧ x.toInt < 128) ∧ WP P 101 59 lo (.int (xi (S 1 x.toInt.toNat)) :: r) (putR w mo S) Q) := R_iald rfl (by decide) rfl rfl rfl
theorem wM_receive_59 {u1 u2 : Value} (hr : r.length ≤ 8) (hc : ([u1, u2] : List Value).all x_cat1 = true) (hc2 : r.all x_cat1 = true) (k : WP P 98 0 [some (.ref mo), some u1, some u2, none, none] [] (putR w mo S) (fun v w1 => WP P 101 62 lo (v.toList ++ r) w1 Q)) : WP P 101 59 lo (u2 :: u1 :: .ref mo :: r) (putR w mo S) Q := K_virt (as := [u1, u2]) rfl rfl rfl rfl (by decide) (by decide) rfl putR_tgM hr hc hc2 k
theorem wM_receive_62 : WP P 101 62 lo (.int x :: r) w Q ↔ (6 < lo.length ∧ WP P 101 64 (lo.set 6 (some (.int x))) r w Q) := W_istore rfl rfl
theorem wM_receive_64 : WP P 101 64 lo st w Q ↔ x_gi lo[6]? (fun x => WP P 101 66 lo (.int x :: st) w Q) := W_iload rfl rfl
theorem wM_receive_66 : WP P 101 66 lo (.int x :: r) w Q ↔ (if x < xi 0 then WP P 101 69 lo r w Q else WP P 101 76 lo r w Q) := W_if_ge rfl rfl rfl
theorem wM_receive_69 : WP P 101 69 lo st w Q ↔ x_gi lo[3]? (fun x => WP P 101 70 lo (.int x :: st) w Q) := W_iload_n rfl rfl rfl
theorem wM_receive_70 : WP P 101 70 lo (.int x :: r) w Q ↔ (if x = xi 0 then WP P 101 73 lo r w Q else WP P 101 76 lo r w Q) := W_if_ne rfl rfl rfl
theorem wM_receive_73 : WP P 101 73 lo st w Q ↔ WP P 101 75 lo (.int (xi 6) :: st) w Q := W_bipush rfl rfl (by decide)
theorem wM_receive_75 : WP P 101 75 lo [.int x] w Q ↔ Q (some (.int x)) w := WP_ret rfl rfl
theorem wM_receive_76 : WP P 101 76 lo st w Q ↔ x_gi lo[6]? (fun x => WP P 101 78 lo (.int x :: st) w Q) := W_iload rfl rfl
theorem wM_receive_78 : WP P 101 78 lo (.int x :: r) w Q ↔ (if x < xi 0 then WP P 101 81 lo r w Q else WP P 101 99 lo r w Q) := W_if_ge rfl rfl rfl
theorem wM_receive_81 : WP P 101 81 lo st w Q ↔ x_ga lo[0]? (fun v => WP P 101 82 lo (v :: st) w Q) := W_aload_n rfl rfl rfl
theorem wM_receive_82 : WP P 101 82 lo st w Q ↔ x_gi lo[4]? (fun x => WP P 101 84 lo (.int x :: st) w Q) := W_iload rfl rfl
theorem wM_receive_84 : WP P 101 84 lo st w Q ↔ WP P 101 85 lo (.int (xi 4) :: st) w Q := W_iconst rfl rfl rfl
theorem wM_receive_85 : WP P 101 85 lo st w Q ↔ x_ga lo[0]? (fun v => WP P 101 86 lo (v :: st) w Q) := W_aload_n rfl rfl rfl
theorem wM_receive_86 : WP P 101 86 lo (.ref mo :: r) (putR w mo S) Q ↔ WP P 101 89 lo (.ref (ra mo 1) :: r) (putR w mo S) Q := R_get rfl rfl (by decide) rfl
theorem wM_receive_89 : WP P 101 89 lo st w Q ↔ x_gi lo[5]? (fun x => WP P 101 91 lo (.int x :: st) w Q) := W_iload rfl rfl
theorem wM_receive_91 : WP P 101 91 lo (.int x :: .ref (ra mo 1) :: r) (putR w mo S) Q ↔ ((0 ≤ x.toInt ∧ x.toInt < 128) ∧ WP P 101 92 lo (.int (xi (S 1 x.toInt.toNat)) :: r) (putR w mo S) Q) := R_iald rfl (by decide) rfl rfl rfl
theorem wM_receive_92 : WP P 101 92 lo st w Q ↔ x_gi lo[2]? (fun x => WP P 101 93 lo (.int x :: st) w Q) := W_iload_n rfl rfl rfl
theorem wM_receive_93 {u1 u2 u3 u4 : Value} (hr : r.length ≤ 8) (hc : ([u1, u2, u3, u4] : List Value).all x_cat1 = true) (hc2 : r.all x_cat1 = true) (k : WP P 99 0 [some (.ref mo), some u1, some u2, some u3, some u4] [] (putR w mo S) (fun v w1 => WP P 101 96 lo (v.toList ++ r) w1 Q)) : WP P 101 93 lo (u4 :: u3 :: u2 :: u1 :: .ref mo :: r) (putR w mo S) Q := K_virt (as := [u1, u2, u3, u4]) rfl rfl rfl rfl (by decide) (by decide) rfl putR_tgM hr hc hc2 k
theorem wM_receive_96 : WP P 101 96 lo st w Q ↔ WP P 101 98 lo (.int (xi 10) :: st) w Q := W_bipush rfl rfl (by decide)
theorem wM_receive_98 : WP P 101 98 lo [.int x] w Q ↔ Q (some (.int x)) w := WP_ret rfl rfl
theorem wM_receive_99 : WP P 101 99 lo st w Q ↔ x_ga lo[0]? (fun v => WP P 101 100 lo (v :: st) w Q) := W_aload_n rfl rfl rfl
theorem wM_receive_100 : WP P 101 100 lo (.ref mo :: r) (putR w mo S) Q ↔ WP P 101 103 lo (.ref (ra mo 20) :: r) (putR w mo S) Q := R_get rfl rfl (by decide) rfl
theorem wM_receive_103 : WP P 101 103 lo st w Q ↔ x_gi lo[4]? (fun x => WP P 101 105 lo (.int x :: st) w Q) := W_iload rfl rfl
theorem wM_receive_105 : WP P 101 105 lo st w Q ↔ x_gi lo[2]? (fun x => WP P 101 106 lo (.int x :: st) w Q) := W_iload_n rfl rfl rfl
theorem wM_receive_106 : WP P 101 106 lo (.int (xi z) :: .int x :: .ref (ra mo 20) :: r) (putR w mo S) Q ↔ ((0 ≤ x.toInt ∧ x.toInt < 16) ∧ WP P 101 107 lo r (putR w mo (sset S 20 x.toInt.toNat z)) Q) := R_iast rfl (by decide) rfl rfl rfl
theorem wM_receive_107 : WP P 101 107 lo st w Q ↔ x_ga lo[0]? (fun v => WP P 101 108 lo (v :: st) w Q) := W_aload_n rfl rfl rfl
theorem wM_receive_108 : WP P 101 108 lo st w Q ↔ x_gi lo[6]? (fun x => WP P 101 110 lo (.int x :: st) w Q) := W_iload rfl rfl
theorem wM_receive_110 : WP P 101 110 lo st w Q ↔ x_gi lo[4]? (fun x => WP P 101 112 lo (.int x :: st) w Q) := W_iload rfl rfl
theorem wM_receive_112 {u1 u2 : Value} (hr : r.length ≤ 8) (hc : ([u1, u2] : List Value).all x_cat1 = true) (hc2 : r.all x_cat1 = true) (k : WP P 100 0 [some (.ref mo), some u1, some u2, none, none, none] [] (putR w mo S) (fun v w1 => WP P 101 115 lo (v.toList ++ r) w1 Q)) : WP P 101 112 lo (u2 :: u1 :: .ref mo :: r) (putR w mo S) Q := K_virt (as := [u1, u2]) rfl rfl rfl rfl (by decide) (by decide) rfl putR_tgM hr hc hc2 k
theorem wM_receive_115 : WP P 101 115 lo st w Q ↔ x_ga lo[0]? (fun v => WP P 101 116 lo (v :: st) w Q) := W_aload_n rfl rfl rfl
theorem wM_receive_116 : WP P 101 116 lo st w Q ↔ x_gi lo[6]? (fun x => WP P 101 118 lo (.int x :: st) w Q) := W_iload rfl rfl
theorem wM_receive_118 {u1 : Value} (hr : r.length ≤ 8) (hc : ([u1] : List Value).all x_cat1 = true) (hc2 : r.all x_cat1 = true) (k : WP P 79 0 [some (.ref mo), some u1] [] (putR w mo S) (fun v w1 => WP P 101 121 lo (v.toList ++ r) w1 Q)) : WP P 101 118 lo (u1 :: .ref mo :: r) (putR w mo S) Q := K_virt (as := [u1]) rfl rfl rfl rfl (by decide) (by decide) rfl putR_tgM hr hc hc2 k
theorem wM_receive_121 : WP P 101 121 lo st w Q ↔ WP P 101 122 lo (.int (xi 0) :: st) w Q := W_iconst rfl rfl rfl
theorem wM_receive_122 : WP P 101 122 lo [.int x] w Q ↔ Q (some (.int x)) w := WP_ret rfl rfl
-- 102 M_signal
theorem wM_signal_0 : WP P 102 0 lo st w Q ↔ x_ga lo[0]? (fun v => WP P 102 1 lo (v :: st) w Q) := W_aload_n rfl rfl rfl
theorem wM_signal_1 (hr : r.length ≤ 8) (hc : ([] : List Value).all x_cat1 = true) (hc2 : r.all x_cat1 = true) (k : WP P 81 0 [some (.ref mo), none, none, none] [] (putR w mo S) (fun v w1 => WP P 102 4 lo (v.toList ++ r) w1 Q)) : WP P 102 1 lo (.ref mo :: r) (putR w mo S) Q := K_virt (as := []) rfl rfl rfl rfl (by decide) (by decide) rfl putR_tgM hr hc hc2 k
theorem wM_signal_4 : WP P 102 4 lo (.int x :: r) w Q ↔ (if x < xi 0 then WP P 102 7 lo r w Q else WP P 102 10 lo r w Q) := W_if_ge rfl rfl rfl
theorem wM_signal_7 : WP P 102 7 lo st w Q ↔ WP P 102 9 lo (.int (xi 8) :: st) w Q := W_bipush rfl rfl (by decide)
theorem wM_signal_9 : WP P 102 9 lo [.int x] w Q ↔ Q (some (.int x)) w := WP_ret rfl rfl
theorem wM_signal_10 : WP P 102 10 lo st w Q ↔ x_ga lo[0]? (fun v => WP P 102 11 lo (v :: st) w Q) := W_aload_n rfl rfl rfl
theorem wM_signal_11 : WP P 102 11 lo st w Q ↔ x_gi lo[1]? (fun x => WP P 102 12 lo (.int x :: st) w Q) := W_iload_n rfl rfl rfl
theorem wM_signal_12 : WP P 102 12 lo st w Q ↔ WP P 102 13 lo (.int (xi 4) :: st) w Q := W_iconst rfl rfl rfl
theorem wM_signal_13 {u1 u2 : Value} (hr : r.length ≤ 8) (hc : ([u1, u2] : List Value).all x_cat1 = true) (hc2 : r.all x_cat1 = true) (k : WP P 82 0 [some (.ref mo), some u1, some u2, none] [] (putR w mo S) (fun v w1 => WP P 102 16 lo (v.toList ++ r) w1 Q)) : WP P 102 13 lo (u2 :: u1 :: .ref mo :: r) (putR w mo S) Q := K_virt (as := [u1, u2]) rfl rfl rfl rfl (by decide) (by decide) rfl putR_tgM hr hc hc2 k
theorem wM_signal_16 : WP P 102 16 lo (.int x :: r) w Q ↔ (2 < lo.length ∧ WP P 102 17 (lo.set 2 (some (.int x))) r w Q) := W_istore_n rfl rfl rfl
theorem wM_signal_17 : WP P 102 17 lo st w Q ↔ x_gi lo[2]? (fun x => WP P 102 18 lo (.int x :: st) w Q) := W_iload_n rfl rfl rfl
theorem wM_signal_18 : WP P 102 18 lo (.int x :: r) w Q ↔ (if x < xi 0 then WP P 102 32 lo r w Q else WP P 102 21 lo r w Q) := W_if_lt rfl rfl rfl
theorem wM_signal_21 : WP P 102 21 lo st w Q ↔ x_ga lo[0]? (fun v => WP P 102 22 lo (v :: st) w Q) := W_aload_n rfl rfl rfl
theorem wM_signal_22 : WP P 102 22 lo (.ref mo :: r) (putR w mo S) Q ↔ WP P 102 25 lo (.ref (ra mo 2) :: r) (putR w mo S) Q := R_get rfl rfl (by decide) rfl
theorem wM_signal_25 : WP P 102 25 lo st w Q ↔ x_gi lo[2]? (fun x => WP P 102 26 lo (.int x :: st) w Q) := W_iload_n rfl rfl rfl
theorem wM_signal_26 : WP P 102 26 lo (.int x :: .ref (ra mo 2) :: r) (putR w mo S) Q ↔ ((0 ≤ x.toInt ∧ x.toInt < 128) ∧ WP P 102 27 lo (.int (xi (S 2 x.toInt.toNat)) :: r) (putR w mo S) Q) := R_iald rfl (by decide) rfl rfl rfl
theorem wM_signal_27 : WP P 102 27 lo st w Q ↔ WP P 102 28 lo (.int (xi 2) :: st) w Q := W_iconst rfl rfl rfl
theorem wM_signal_28 : WP P 102 28 lo (.int y :: .int x :: r) w Q ↔ WP P 102 29 lo (.int (x &&& y) :: r) w Q := W_iand rfl rfl
theorem wM_signal_29 : WP P 102 29 lo (.int x :: r) w Q ↔ (if x = xi 0 then WP P 102 32 lo r w Q else WP P 102 42 lo r w Q) := W_if_ne rfl rfl rfl
theorem wM_signal_32 : WP P 102 32 lo st w Q ↔ x_gi lo[2]? (fun x => WP P 102 33 lo (.int x :: st) w Q) := W_iload_n rfl rfl rfl
theorem wM_signal_33 : WP P 102 33 lo (.int x :: r) w Q ↔ (if x < xi 0 then WP P 102 36 lo r w Q else WP P 102 40 lo r w Q) := W_if_ge rfl rfl rfl
theorem wM_signal_36 : WP P 102 36 lo st w Q ↔ WP P 102 37 lo (.int (xi 1) :: st) w Q := W_iconst rfl rfl rfl
theorem wM_signal_37 : WP P 102 37 lo st w Q ↔ WP P 102 41 lo st w Q := W_goto rfl rfl
theorem wM_signal_40 : WP P 102 40 lo st w Q ↔ WP P 102 41 lo (.int (xi 2) :: st) w Q := W_iconst rfl rfl rfl
theorem wM_signal_41 : WP P 102 41 lo [.int x] w Q ↔ Q (some (.int x)) w := WP_ret rfl rfl
theorem wM_signal_42 : WP P 102 42 lo st w Q ↔ x_ga lo[0]? (fun v => WP P 102 43 lo (v :: st) w Q) := W_aload_n rfl rfl rfl
theorem wM_signal_43 : WP P 102 43 lo st w Q ↔ x_ga lo[0]? (fun v => WP P 102 44 lo (v :: st) w Q) := W_aload_n rfl rfl rfl
theorem wM_signal_44 : WP P 102 44 lo (.ref mo :: r) (putR w mo S) Q ↔ WP P 102 47 lo (.ref (ra mo 1) :: r) (putR w mo S) Q := R_get rfl rfl (by decide) rfl
theorem wM_signal_47 : WP P 102 47 lo st w Q ↔ x_gi lo[2]? (fun x => WP P 102 48 lo (.int x :: st) w Q) := W_iload_n rfl rfl rfl
theorem wM_signal_48 : WP P 102 48 lo (.int x :: .ref (ra mo 1) :: r) (putR w mo S) Q ↔ ((0 ≤ x.toInt ∧ x.toInt < 128) ∧ WP P 102 49 lo (.int (xi (S 1 x.toInt.toNat)) :: r) (putR w mo S) Q) := R_iald rfl (by decide) rfl rfl rfl
theorem wM_signal_49 : WP P 102 49 lo st w Q ↔ x_ga lo[0]? (fun v => WP P 102 50 lo (v :: st) w Q) := W_aload_n rfl rfl rfl
theorem wM_signal_50 : WP P 102 50 lo (.ref mo :: r) (putR w mo S) Q ↔ WP P 102 53 lo (.ref (ra mo 3) :: r) (putR w mo S) Q := R_get rfl rfl (by decide) rfl
theorem wM_signal_53 : WP P 102 53 lo st w Q ↔ x_gi lo[2]? (fun x => WP P 102 54 lo (.int x :: st) w Q) := W_iload_n rfl rfl rfl
theorem wM_signal_54 : WP P 102 54 lo (.int x :: .ref (ra mo 3) :: r) (putR w mo S) Q ↔ ((0 ≤ x.toInt ∧ x.toInt < 128) ∧ WP P 102 55 lo (.int (xi (S 3 x.toInt.toNat)) :: r) (putR w mo S) Q) := R_iald rfl (by decide) rfl rfl rfl
theorem wM_signal_55 : WP P 102 55 lo (.int x :: r) w Q ↔ (if x = xi 0 then WP P 102 58 lo r w Q else WP P 102 64 lo r w Q) := W_if_ne rfl rfl rfl
theorem wM_signal_58 : WP P 102 58 lo st w Q ↔ WP P 102 61 lo (.int (xi 256) :: st) w Q := W_sipush rfl rfl (by decide)
theorem wM_signal_61 : WP P 102 61 lo st w Q ↔ WP P 102 70 lo st w Q := W_goto rfl rfl
theorem wM_signal_64 : WP P 102 64 lo st w Q ↔ x_ga lo[0]? (fun v => WP P 102 65 lo (v :: st) w Q) := W_aload_n rfl rfl rfl
theorem wM_signal_65 : WP P 102 65 lo (.ref mo :: r) (putR w mo S) Q ↔ WP P 102 68 lo (.ref (ra mo 3) :: r) (putR w mo S) Q := R_get rfl rfl (by decide) rfl
theorem wM_signal_68 : WP P 102 68 lo st w Q ↔ x_gi lo[2]? (fun x => WP P 102 69 lo (.int x :: st) w Q) := W_iload_n rfl rfl rfl
theorem wM_signal_69 : WP P 102 69 lo (.int x :: .ref (ra mo 3) :: r) (putR w mo S) Q ↔ ((0 ≤ x.toInt ∧ x.toInt < 128) ∧ WP P 102 70 lo (.int (xi (S 3 x.toInt.toNat)) :: r) (putR w mo S) Q) := R_iald rfl (by decide) rfl rfl rfl
theorem wM_signal_70 {u1 u2 : Value} (hr : r.length ≤ 8) (hc : ([u1, u2] : List Value).all x_cat1 = true) (hc2 : r.all x_cat1 = true) (k : WP P 103 0 [some (.ref mo), some u1, some u2, none] [] (putR w mo S) (fun v w1 => WP P 102 73 lo (v.toList ++ r) w1 Q)) : WP P 102 70 lo (u2 :: u1 :: .ref mo :: r) (putR w mo S) Q := K_virt (as := [u1, u2]) rfl rfl rfl rfl (by decide) (by decide) rfl putR_tgM hr hc hc2 k
theorem wM_signal_73 : WP P 102 73 lo st w Q ↔ WP P 102 74 lo (.int (xi 0) :: st) w Q := W_iconst rfl rfl rfl
theorem wM_signal_74 : WP P 102 74 lo [.int x] w Q ↔ Q (some (.int x)) w := WP_ret rfl rfl
-- 103 M_ring
theorem wM_ring_0 : WP P 103 0 lo st w Q ↔ x_ga lo[0]? (fun v => WP P 103 1 lo (v :: st) w Q) := W_aload_n rfl rfl rfl
theorem wM_ring_1 : WP P 103 1 lo st w Q ↔ WP P 103 2 lo (.int (xi 5) :: st) w Q := W_iconst rfl rfl rfl
theorem wM_ring_2 : WP P 103 2 lo st w Q ↔ x_gi lo[1]? (fun x => WP P 103 3 lo (.int x :: st) w Q) := W_iload_n rfl rfl rfl
theorem wM_ring_3 {u1 u2 : Value} (hr : r.length ≤ 8) (hc : ([u1, u2] : List Value).all x_cat1 = true) (hc2 : r.all x_cat1 = true) (k : WP P 98 0 [some (.ref mo), some u1, some u2, none, none] [] (putR w mo S) (fun v w1 => WP P 103 6 lo (v.toList ++ r) w1 Q)) : WP P 103 3 lo (u2 :: u1 :: .ref mo :: r) (putR w mo S) Q := K_virt (as := [u1, u2]) rfl rfl rfl rfl (by decide) (by decide) rfl putR_tgM hr hc hc2 k
theorem wM_ring_6 : WP P 103 6 lo (.int x :: r) w Q ↔ (3 < lo.length ∧ WP P 103 7 (lo.set 3 (some (.int x))) r w Q) := W_istore_n rfl rfl rfl
theorem wM_ring_7 : WP P 103 7 lo st w Q ↔ x_gi lo[3]? (fun x => WP P 103 8 lo (.int x :: st) w Q) := W_iload_n rfl rfl rfl
theorem wM_ring_8 : WP P 103 8 lo (.int x :: r) w Q ↔ (if x < xi 0 then WP P 103 11 lo r w Q else WP P 103 30 lo r w Q) := W_if_ge rfl rfl rfl
theorem wM_ring_11 : WP P 103 11 lo st w Q ↔ x_ga lo[0]? (fun v => WP P 103 12 lo (v :: st) w Q) := W_aload_n rfl rfl rfl
theorem wM_ring_12 : WP P 103 12 lo (.ref mo :: r) (putR w mo S) Q ↔ WP P 103 15 lo (.ref (ra mo 24) :: r) (putR w mo S) Q := R_get rfl rfl (by decide) rfl
theorem wM_ring_15 : WP P 103 15 lo st w Q ↔ x_gi lo[1]? (fun x => WP P 103 16 lo (.int x :: st) w Q) := W_iload_n rfl rfl rfl
theorem wM_ring_16 : WP P 103 16 lo st w Q ↔ WP P 103 17 lo (.int (xi 2) :: st) w Q := W_iconst rfl rfl rfl
theorem wM_ring_17 : WP P 103 17 lo (.int y :: .int x :: r) w Q ↔ (¬ y = 0 ∧ WP P 103 18 lo (.int (x / y) :: r) w Q) := W_idiv rfl rfl
theorem wM_ring_18 : WP P 103 18 lo st w Q ↔ x_ga lo[0]? (fun v => WP P 103 19 lo (v :: st) w Q) := W_aload_n rfl rfl rfl
theorem wM_ring_19 : WP P 103 19 lo (.ref mo :: r) (putR w mo S) Q ↔ WP P 103 22 lo (.ref (ra mo 24) :: r) (putR w mo S) Q := R_get rfl rfl (by decide) rfl
theorem wM_ring_22 : WP P 103 22 lo st w Q ↔ x_gi lo[1]? (fun x => WP P 103 23 lo (.int x :: st) w Q) := W_iload_n rfl rfl rfl
theorem wM_ring_23 : WP P 103 23 lo st w Q ↔ WP P 103 24 lo (.int (xi 2) :: st) w Q := W_iconst rfl rfl rfl
theorem wM_ring_24 : WP P 103 24 lo (.int y :: .int x :: r) w Q ↔ (¬ y = 0 ∧ WP P 103 25 lo (.int (x / y) :: r) w Q) := W_idiv rfl rfl
theorem wM_ring_25 : WP P 103 25 lo (.int x :: .ref (ra mo 24) :: r) (putR w mo S) Q ↔ ((0 ≤ x.toInt ∧ x.toInt < 64) ∧ WP P 103 26 lo (.int (xi (S 24 x.toInt.toNat)) :: r) (putR w mo S) Q) := R_iald rfl (by decide) rfl rfl rfl
theorem wM_ring_26 : WP P 103 26 lo st w Q ↔ x_gi lo[2]? (fun x => WP P 103 27 lo (.int x :: st) w Q) := W_iload_n rfl rfl rfl
theorem wM_ring_27 : WP P 103 27 lo (.int y :: .int x :: r) w Q ↔ WP P 103 28 lo (.int (x ||| y) :: r) w Q := W_ior rfl rfl
theorem wM_ring_28 : WP P 103 28 lo (.int (xi z) :: .int x :: .ref (ra mo 24) :: r) (putR w mo S) Q ↔ ((0 ≤ x.toInt ∧ x.toInt < 64) ∧ WP P 103 29 lo r (putR w mo (sset S 24 x.toInt.toNat z)) Q) := R_iast rfl (by decide) rfl rfl rfl
theorem wM_ring_29 : WP P 103 29 lo [] w Q ↔ Q none w := WP_ret rfl rfl
theorem wM_ring_30 : WP P 103 30 lo st w Q ↔ x_ga lo[0]? (fun v => WP P 103 31 lo (v :: st) w Q) := W_aload_n rfl rfl rfl
theorem wM_ring_31 : WP P 103 31 lo st w Q ↔ x_gi lo[3]? (fun x => WP P 103 32 lo (.int x :: st) w Q) := W_iload_n rfl rfl rfl
theorem wM_ring_32 : WP P 103 32 lo st w Q ↔ x_gi lo[2]? (fun x => WP P 103 33 lo (.int x :: st) w Q) := W_iload_n rfl rfl rfl
theorem wM_ring_33 {u1 u2 : Value} (hr : r.length ≤ 8) (hc : ([u1, u2] : List Value).all x_cat1 = true) (hc2 : r.all x_cat1 = true) (k : WP P 104 0 [some (.ref mo), some u1, some u2] [] (putR w mo S) (fun v w1 => WP P 103 36 lo (v.toList ++ r) w1 Q)) : WP P 103 33 lo (u2 :: u1 :: .ref mo :: r) (putR w mo S) Q := K_virt (as := [u1, u2]) rfl rfl rfl rfl (by decide) (by decide) rfl putR_tgM hr hc hc2 k
theorem wM_ring_36 : WP P 103 36 lo st w Q ↔ x_ga lo[0]? (fun v => WP P 103 37 lo (v :: st) w Q) := W_aload_n rfl rfl rfl
theorem wM_ring_37 : WP P 103 37 lo st w Q ↔ x_gi lo[3]? (fun x => WP P 103 38 lo (.int x :: st) w Q) := W_iload_n rfl rfl rfl
theorem wM_ring_38 {u1 : Value} (hr : r.length ≤ 8) (hc : ([u1] : List Value).all x_cat1 = true) (hc2 : r.all x_cat1 = true) (k : WP P 79 0 [some (.ref mo), some u1] [] (putR w mo S) (fun v w1 => WP P 103 41 lo (v.toList ++ r) w1 Q)) : WP P 103 38 lo (u1 :: .ref mo :: r) (putR w mo S) Q := K_virt (as := [u1]) rfl rfl rfl rfl (by decide) (by decide) rfl putR_tgM hr hc hc2 k
theorem wM_ring_41 : WP P 103 41 lo [] w Q ↔ Q none w := WP_ret rfl rfl
-- 104 M_hears
theorem wM_hears_0 : WP P 104 0 lo st w Q ↔ x_ga lo[0]? (fun v => WP P 104 1 lo (v :: st) w Q) := W_aload_n rfl rfl rfl
theorem wM_hears_1 : WP P 104 1 lo (.ref mo :: r) (putR w mo S) Q ↔ WP P 104 4 lo (.ref (ra mo 15) :: r) (putR w mo S) Q := R_get rfl rfl (by decide) rfl
theorem wM_hears_4 : WP P 104 4 lo st w Q ↔ x_gi lo[1]? (fun x => WP P 104 5 lo (.int x :: st) w Q) := W_iload_n rfl rfl rfl
theorem wM_hears_5 : WP P 104 5 lo st w Q ↔ x_gi lo[2]? (fun x => WP P 104 6 lo (.int x :: st) w Q) := W_iload_n rfl rfl rfl
theorem wM_hears_6 : WP P 104 6 lo (.int (xi z) :: .int x :: .ref (ra mo 15) :: r) (putR w mo S) Q ↔ ((0 ≤ x.toInt ∧ x.toInt < 16) ∧ WP P 104 7 lo r (putR w mo (sset S 15 x.toInt.toNat z)) Q) := R_iast rfl (by decide) rfl rfl rfl
theorem wM_hears_7 : WP P 104 7 lo st w Q ↔ x_ga lo[0]? (fun v => WP P 104 8 lo (v :: st) w Q) := W_aload_n rfl rfl rfl
theorem wM_hears_8 : WP P 104 8 lo (.ref mo :: r) (putR w mo S) Q ↔ WP P 104 11 lo (.ref (ra mo 16) :: r) (putR w mo S) Q := R_get rfl rfl (by decide) rfl
theorem wM_hears_11 : WP P 104 11 lo st w Q ↔ x_gi lo[1]? (fun x => WP P 104 12 lo (.int x :: st) w Q) := W_iload_n rfl rfl rfl
theorem wM_hears_12 : WP P 104 12 lo st w Q ↔ WP P 104 13 lo (.int (xi 0) :: st) w Q := W_iconst rfl rfl rfl
theorem wM_hears_13 : WP P 104 13 lo (.int (xi z) :: .int x :: .ref (ra mo 16) :: r) (putR w mo S) Q ↔ ((0 ≤ x.toInt ∧ x.toInt < 16) ∧ WP P 104 14 lo r (putR w mo (sset S 16 x.toInt.toNat z)) Q) := R_iast rfl (by decide) rfl rfl rfl
theorem wM_hears_14 : WP P 104 14 lo st w Q ↔ x_ga lo[0]? (fun v => WP P 104 15 lo (v :: st) w Q) := W_aload_n rfl rfl rfl
theorem wM_hears_15 : WP P 104 15 lo (.ref mo :: r) (putR w mo S) Q ↔ WP P 104 18 lo (.ref (ra mo 17) :: r) (putR w mo S) Q := R_get rfl rfl (by decide) rfl
theorem wM_hears_18 : WP P 104 18 lo st w Q ↔ x_gi lo[1]? (fun x => WP P 104 19 lo (.int x :: st) w Q) := W_iload_n rfl rfl rfl
theorem wM_hears_19 : WP P 104 19 lo st w Q ↔ WP P 104 20 lo (.int (xi 0) :: st) w Q := W_iconst rfl rfl rfl
theorem wM_hears_20 : WP P 104 20 lo (.int (xi z) :: .int x :: .ref (ra mo 17) :: r) (putR w mo S) Q ↔ ((0 ≤ x.toInt ∧ x.toInt < 16) ∧ WP P 104 21 lo r (putR w mo (sset S 17 x.toInt.toNat z)) Q) := R_iast rfl (by decide) rfl rfl rfl
theorem wM_hears_21 : WP P 104 21 lo [] w Q ↔ Q none w := WP_ret rfl rfl
-- 105 M_listen
theorem wM_listen_0 : WP P 105 0 lo st w Q ↔ x_ga lo[0]? (fun v => WP P 105 1 lo (v :: st) w Q) := W_aload_n rfl rfl rfl
theorem wM_listen_1 (hr : r.length ≤ 8) (hc : ([] : List Value).all x_cat1 = true) (hc2 : r.all x_cat1 = true) (k : WP P 81 0 [some (.ref mo), none, none, none] [] (putR w mo S) (fun v w1 => WP P 105 4 lo (v.toList ++ r) w1 Q)) : WP P 105 1 lo (.ref mo :: r) (putR w mo S) Q := K_virt (as := []) rfl rfl rfl rfl (by decide) (by decide) rfl putR_tgM hr hc hc2 k
theorem wM_listen_4 : WP P 105 4 lo (.int x :: r) w Q ↔ (3 < lo.length ∧ WP P 105 5 (lo.set 3 (some (.int x))) r w Q) := W_istore_n rfl rfl rfl
theorem wM_listen_5 : WP P 105 5 lo st w Q ↔ x_gi lo[3]? (fun x => WP P 105 6 lo (.int x :: st) w Q) := W_iload_n rfl rfl rfl
theorem wM_listen_6 : WP P 105 6 lo (.int x :: r) w Q ↔ (if x < xi 0 then WP P 105 9 lo r w Q else WP P 105 12 lo r w Q) := W_if_ge rfl rfl rfl
theorem wM_listen_9 : WP P 105 9 lo st w Q ↔ WP P 105 11 lo (.int (xi 8) :: st) w Q := W_bipush rfl rfl (by decide)
theorem wM_listen_11 : WP P 105 11 lo [.int x] w Q ↔ Q (some (.int x)) w := WP_ret rfl rfl
theorem wM_listen_12 : WP P 105 12 lo st w Q ↔ x_ga lo[0]? (fun v => WP P 105 13 lo (v :: st) w Q) := W_aload_n rfl rfl rfl
theorem wM_listen_13 : WP P 105 13 lo st w Q ↔ x_gi lo[1]? (fun x => WP P 105 14 lo (.int x :: st) w Q) := W_iload_n rfl rfl rfl
theorem wM_listen_14 : WP P 105 14 lo st w Q ↔ WP P 105 15 lo (.int (xi 4) :: st) w Q := W_iconst rfl rfl rfl
theorem wM_listen_15 {u1 u2 : Value} (hr : r.length ≤ 8) (hc : ([u1, u2] : List Value).all x_cat1 = true) (hc2 : r.all x_cat1 = true) (k : WP P 82 0 [some (.ref mo), some u1, some u2, none] [] (putR w mo S) (fun v w1 => WP P 105 18 lo (v.toList ++ r) w1 Q)) : WP P 105 15 lo (u2 :: u1 :: .ref mo :: r) (putR w mo S) Q := K_virt (as := [u1, u2]) rfl rfl rfl rfl (by decide) (by decide) rfl putR_tgM hr hc hc2 k
theorem wM_listen_18 : WP P 105 18 lo (.int x :: r) w Q ↔ (4 < lo.length ∧ WP P 105 20 (lo.set 4 (some (.int x))) r w Q) := W_istore rfl rfl
theorem wM_listen_20 : WP P 105 20 lo st w Q ↔ x_gi lo[4]? (fun x => WP P 105 22 lo (.int x :: st) w Q) := W_iload rfl rfl
theorem wM_listen_22 : WP P 105 22 lo (.int x :: r) w Q ↔ (if x < xi 0 then WP P 105 37 lo r w Q else WP P 105 25 lo r w Q) := W_if_lt rfl rfl rfl
theorem wM_listen_25 : WP P 105 25 lo st w Q ↔ x_ga lo[0]? (fun v => WP P 105 26 lo (v :: st) w Q) := W_aload_n rfl rfl rfl
theorem wM_listen_26 : WP P 105 26 lo (.ref mo :: r) (putR w mo S) Q ↔ WP P 105 29 lo (.ref (ra mo 2) :: r) (putR w mo S) Q := R_get rfl rfl (by decide) rfl
theorem wM_listen_29 : WP P 105 29 lo st w Q ↔ x_gi lo[4]? (fun x => WP P 105 31 lo (.int x :: st) w Q) := W_iload rfl rfl
theorem wM_listen_31 : WP P 105 31 lo (.int x :: .ref (ra mo 2) :: r) (putR w mo S) Q ↔ ((0 ≤ x.toInt ∧ x.toInt < 128) ∧ WP P 105 32 lo (.int (xi (S 2 x.toInt.toNat)) :: r) (putR w mo S) Q) := R_iald rfl (by decide) rfl rfl rfl
theorem wM_listen_32 : WP P 105 32 lo st w Q ↔ WP P 105 33 lo (.int (xi 1) :: st) w Q := W_iconst rfl rfl rfl
theorem wM_listen_33 : WP P 105 33 lo (.int y :: .int x :: r) w Q ↔ WP P 105 34 lo (.int (x &&& y) :: r) w Q := W_iand rfl rfl
theorem wM_listen_34 : WP P 105 34 lo (.int x :: r) w Q ↔ (if x = xi 0 then WP P 105 37 lo r w Q else WP P 105 48 lo r w Q) := W_if_ne rfl rfl rfl
theorem wM_listen_37 : WP P 105 37 lo st w Q ↔ x_gi lo[4]? (fun x => WP P 105 39 lo (.int x :: st) w Q) := W_iload rfl rfl
theorem wM_listen_39 : WP P 105 39 lo (.int x :: r) w Q ↔ (if x < xi 0 then WP P 105 42 lo r w Q else WP P 105 46 lo r w Q) := W_if_ge rfl rfl rfl
theorem wM_listen_42 : WP P 105 42 lo st w Q ↔ WP P 105 43 lo (.int (xi 1) :: st) w Q := W_iconst rfl rfl rfl
theorem wM_listen_43 : WP P 105 43 lo st w Q ↔ WP P 105 47 lo st w Q := W_goto rfl rfl
theorem wM_listen_46 : WP P 105 46 lo st w Q ↔ WP P 105 47 lo (.int (xi 2) :: st) w Q := W_iconst rfl rfl rfl
theorem wM_listen_47 : WP P 105 47 lo [.int x] w Q ↔ Q (some (.int x)) w := WP_ret rfl rfl
theorem wM_listen_48 : WP P 105 48 lo st w Q ↔ x_ga lo[0]? (fun v => WP P 105 49 lo (v :: st) w Q) := W_aload_n rfl rfl rfl
theorem wM_listen_49 : WP P 105 49 lo (.ref mo :: r) (putR w mo S) Q ↔ WP P 105 52 lo (.ref (ra mo 1) :: r) (putR w mo S) Q := R_get rfl rfl (by decide) rfl
theorem wM_listen_52 : WP P 105 52 lo st w Q ↔ x_gi lo[4]? (fun x => WP P 105 54 lo (.int x :: st) w Q) := W_iload rfl rfl
theorem wM_listen_54 : WP P 105 54 lo (.int x :: .ref (ra mo 1) :: r) (putR w mo S) Q ↔ ((0 ≤ x.toInt ∧ x.toInt < 128) ∧ WP P 105 55 lo (.int (xi (S 1 x.toInt.toNat)) :: r) (putR w mo S) Q) := R_iald rfl (by decide) rfl rfl rfl
theorem wM_listen_55 : WP P 105 55 lo st w Q ↔ WP P 105 56 lo (.int (xi 2) :: st) w Q := W_iconst rfl rfl rfl
theorem wM_listen_56 : WP P 105 56 lo (.int y :: .int x :: r) w Q ↔ (¬ y = 0 ∧ WP P 105 57 lo (.int (x / y) :: r) w Q) := W_idiv rfl rfl
theorem wM_listen_57 : WP P 105 57 lo (.int x :: r) w Q ↔ (5 < lo.length ∧ WP P 105 59 (lo.set 5 (some (.int x))) r w Q) := W_istore rfl rfl
theorem wM_listen_59 : WP P 105 59 lo st w Q ↔ x_ga lo[0]? (fun v => WP P 105 60 lo (v :: st) w Q) := W_aload_n rfl rfl rfl
theorem wM_listen_60 : WP P 105 60 lo (.ref mo :: r) (putR w mo S) Q ↔ WP P 105 63 lo (.ref (ra mo 24) :: r) (putR w mo S) Q := R_get rfl rfl (by decide) rfl
theorem wM_listen_63 : WP P 105 63 lo st w Q ↔ x_gi lo[5]? (fun x => WP P 105 65 lo (.int x :: st) w Q) := W_iload rfl rfl
theorem wM_listen_65 : WP P 105 65 lo (.int x :: .ref (ra mo 24) :: r) (putR w mo S) Q ↔ ((0 ≤ x.toInt ∧ x.toInt < 64) ∧ WP P 105 66 lo (.int (xi (S 24 x.toInt.toNat)) :: r) (putR w mo S) Q) := R_iald rfl (by decide) rfl rfl rfl
theorem wM_listen_66 : WP P 105 66 lo (.int x :: r) w Q ↔ (if x = xi 0 then WP P 105 91 lo r w Q else WP P 105 69 lo r w Q) := W_if_eq rfl rfl rfl
theorem wM_listen_69 : WP P 105 69 lo st w Q ↔ x_ga lo[0]? (fun v => WP P 105 70 lo (v :: st) w Q) := W_aload_n rfl rfl rfl
theorem wM_listen_70 : WP P 105 70 lo st w Q ↔ x_gi lo[3]? (fun x => WP P 105 71 lo (.int x :: st) w Q) := W_iload_n rfl rfl rfl
theorem wM_listen_71 : WP P 105 71 lo st w Q ↔ x_ga lo[0]? (fun v => WP P 105 72 lo (v :: st) w Q) := W_aload_n rfl rfl rfl
theorem wM_listen_72 : WP P 105 72 lo (.ref mo :: r) (putR w mo S) Q ↔ WP P 105 75 lo (.ref (ra mo 24) :: r) (putR w mo S) Q := R_get rfl rfl (by decide) rfl
theorem wM_listen_75 : WP P 105 75 lo st w Q ↔ x_gi lo[5]? (fun x => WP P 105 77 lo (.int x :: st) w Q) := W_iload rfl rfl
theorem wM_listen_77 : WP P 105 77 lo (.int x :: .ref (ra mo 24) :: r) (putR w mo S) Q ↔ ((0 ≤ x.toInt ∧ x.toInt < 64) ∧ WP P 105 78 lo (.int (xi (S 24 x.toInt.toNat)) :: r) (putR w mo S) Q) := R_iald rfl (by decide) rfl rfl rfl
theorem wM_listen_78 {u1 u2 : Value} (hr : r.length ≤ 8) (hc : ([u1, u2] : List Value).all x_cat1 = true) (hc2 : r.all x_cat1 = true) (k : WP P 104 0 [some (.ref mo), some u1, some u2] [] (putR w mo S) (fun v w1 => WP P 105 81 lo (v.toList ++ r) w1 Q)) : WP P 105 78 lo (u2 :: u1 :: .ref mo :: r) (putR w mo S) Q := K_virt (as := [u1, u2]) rfl rfl rfl rfl (by decide) (by decide) rfl putR_tgM hr hc hc2 k
theorem wM_listen_81 : WP P 105 81 lo st w Q ↔ x_ga lo[0]? (fun v => WP P 105 82 lo (v :: st) w Q) := W_aload_n rfl rfl rfl
theorem wM_listen_82 : WP P 105 82 lo (.ref mo :: r) (putR w mo S) Q ↔ WP P 105 85 lo (.ref (ra mo 24) :: r) (putR w mo S) Q := R_get rfl rfl (by decide) rfl
theorem wM_listen_85 : WP P 105 85 lo st w Q ↔ x_gi lo[5]? (fun x => WP P 105 87 lo (.int x :: st) w Q) := W_iload rfl rfl
theorem wM_listen_87 : WP P 105 87 lo st w Q ↔ WP P 105 88 lo (.int (xi 0) :: st) w Q := W_iconst rfl rfl rfl
theorem wM_listen_88 : WP P 105 88 lo (.int (xi z) :: .int x :: .ref (ra mo 24) :: r) (putR w mo S) Q ↔ ((0 ≤ x.toInt ∧ x.toInt < 64) ∧ WP P 105 89 lo r (putR w mo (sset S 24 x.toInt.toNat z)) Q) := R_iast rfl (by decide) rfl rfl rfl
theorem wM_listen_89 : WP P 105 89 lo st w Q ↔ WP P 105 90 lo (.int (xi 0) :: st) w Q := W_iconst rfl rfl rfl
theorem wM_listen_90 : WP P 105 90 lo [.int x] w Q ↔ Q (some (.int x)) w := WP_ret rfl rfl
theorem wM_listen_91 : WP P 105 91 lo st w Q ↔ x_gi lo[2]? (fun x => WP P 105 92 lo (.int x :: st) w Q) := W_iload_n rfl rfl rfl
theorem wM_listen_92 : WP P 105 92 lo (.int x :: r) w Q ↔ (if x = xi 0 then WP P 105 109 lo r w Q else WP P 105 95 lo r w Q) := W_if_eq rfl rfl rfl
theorem wM_listen_95 : WP P 105 95 lo st w Q ↔ x_ga lo[0]? (fun v => WP P 105 96 lo (v :: st) w Q) := W_aload_n rfl rfl rfl
theorem wM_listen_96 : WP P 105 96 lo st w Q ↔ x_gi lo[3]? (fun x => WP P 105 97 lo (.int x :: st) w Q) := W_iload_n rfl rfl rfl
theorem wM_listen_97 : WP P 105 97 lo st w Q ↔ WP P 105 98 lo (.int (xi 5) :: st) w Q := W_iconst rfl rfl rfl
theorem wM_listen_98 : WP P 105 98 lo st w Q ↔ x_ga lo[0]? (fun v => WP P 105 99 lo (v :: st) w Q) := W_aload_n rfl rfl rfl
theorem wM_listen_99 : WP P 105 99 lo (.ref mo :: r) (putR w mo S) Q ↔ WP P 105 102 lo (.ref (ra mo 1) :: r) (putR w mo S) Q := R_get rfl rfl (by decide) rfl
theorem wM_listen_102 : WP P 105 102 lo st w Q ↔ x_gi lo[4]? (fun x => WP P 105 104 lo (.int x :: st) w Q) := W_iload rfl rfl
theorem wM_listen_104 : WP P 105 104 lo (.int x :: .ref (ra mo 1) :: r) (putR w mo S) Q ↔ ((0 ≤ x.toInt ∧ x.toInt < 128) ∧ WP P 105 105 lo (.int (xi (S 1 x.toInt.toNat)) :: r) (putR w mo S) Q) := R_iald rfl (by decide) rfl rfl rfl
theorem wM_listen_105 : WP P 105 105 lo st w Q ↔ WP P 105 106 lo (.int (xi (-1)) :: st) w Q := W_iconst rfl rfl rfl
theorem wM_listen_106 {u1 u2 u3 u4 : Value} (hr : r.length ≤ 8) (hc : ([u1, u2, u3, u4] : List Value).all x_cat1 = true) (hc2 : r.all x_cat1 = true) (k : WP P 99 0 [some (.ref mo), some u1, some u2, some u3, some u4] [] (putR w mo S) (fun v w1 => WP P 105 109 lo (v.toList ++ r) w1 Q)) : WP P 105 106 lo (u4 :: u3 :: u2 :: u1 :: .ref mo :: r) (putR w mo S) Q := K_virt (as := [u1, u2, u3, u4]) rfl rfl rfl rfl (by decide) (by decide) rfl putR_tgM hr hc hc2 k
theorem wM_listen_109 : WP P 105 109 lo st w Q ↔ x_gi lo[2]? (fun x => WP P 105 110 lo (.int x :: st) w Q) := W_iload_n rfl rfl rfl
theorem wM_listen_110 : WP P 105 110 lo (.int x :: r) w Q ↔ (if x = xi 0 then WP P 105 118 lo r w Q else WP P 105 113 lo r w Q) := W_if_eq rfl rfl rfl
theorem wM_listen_113 : WP P 105 113 lo st w Q ↔ WP P 105 115 lo (.int (xi 10) :: st) w Q := W_bipush rfl rfl (by decide)
theorem wM_listen_115 : WP P 105 115 lo st w Q ↔ WP P 105 120 lo st w Q := W_goto rfl rfl
theorem wM_listen_118 : WP P 105 118 lo st w Q ↔ WP P 105 120 lo (.int (xi 6) :: st) w Q := W_bipush rfl rfl (by decide)
theorem wM_listen_120 : WP P 105 120 lo [.int x] w Q ↔ Q (some (.int x)) w := WP_ret rfl rfl
-- 106 M_map
theorem wM_map_0 : WP P 106 0 lo st w Q ↔ x_ga lo[0]? (fun v => WP P 106 1 lo (v :: st) w Q) := W_aload_n rfl rfl rfl
theorem wM_map_1 (hr : r.length ≤ 8) (hc : ([] : List Value).all x_cat1 = true) (hc2 : r.all x_cat1 = true) (k : WP P 81 0 [some (.ref mo), none, none, none] [] (putR w mo S) (fun v w1 => WP P 106 4 lo (v.toList ++ r) w1 Q)) : WP P 106 1 lo (.ref mo :: r) (putR w mo S) Q := K_virt (as := []) rfl rfl rfl rfl (by decide) (by decide) rfl putR_tgM hr hc hc2 k
theorem wM_map_4 : WP P 106 4 lo (.int x :: r) w Q ↔ (if x < xi 0 then WP P 106 7 lo r w Q else WP P 106 10 lo r w Q) := W_if_ge rfl rfl rfl
theorem wM_map_7 : WP P 106 7 lo st w Q ↔ WP P 106 9 lo (.int (xi 8) :: st) w Q := W_bipush rfl rfl (by decide)
theorem wM_map_9 : WP P 106 9 lo [.int x] w Q ↔ Q (some (.int x)) w := WP_ret rfl rfl
theorem wM_map_10 : WP P 106 10 lo st w Q ↔ x_ga lo[0]? (fun v => WP P 106 11 lo (v :: st) w Q) := W_aload_n rfl rfl rfl
theorem wM_map_11 : WP P 106 11 lo st w Q ↔ x_gi lo[1]? (fun x => WP P 106 12 lo (.int x :: st) w Q) := W_iload_n rfl rfl rfl
theorem wM_map_12 : WP P 106 12 lo st w Q ↔ WP P 106 13 lo (.int (xi (-1)) :: st) w Q := W_iconst rfl rfl rfl
theorem wM_map_13 {u1 u2 : Value} (hr : r.length ≤ 8) (hc : ([u1, u2] : List Value).all x_cat1 = true) (hc2 : r.all x_cat1 = true) (k : WP P 82 0 [some (.ref mo), some u1, some u2, none] [] (putR w mo S) (fun v w1 => WP P 106 16 lo (v.toList ++ r) w1 Q)) : WP P 106 13 lo (u2 :: u1 :: .ref mo :: r) (putR w mo S) Q := K_virt (as := [u1, u2]) rfl rfl rfl rfl (by decide) (by decide) rfl putR_tgM hr hc hc2 k
theorem wM_map_16 : WP P 106 16 lo (.int x :: r) w Q ↔ (4 < lo.length ∧ WP P 106 18 (lo.set 4 (some (.int x))) r w Q) := W_istore rfl rfl
theorem wM_map_18 : WP P 106 18 lo st w Q ↔ x_ga lo[0]? (fun v => WP P 106 19 lo (v :: st) w Q) := W_aload_n rfl rfl rfl
theorem wM_map_19 : WP P 106 19 lo st w Q ↔ x_gi lo[2]? (fun x => WP P 106 20 lo (.int x :: st) w Q) := W_iload_n rfl rfl rfl
theorem wM_map_20 : WP P 106 20 lo st w Q ↔ WP P 106 21 lo (.int (xi 5) :: st) w Q := W_iconst rfl rfl rfl
theorem wM_map_21 {u1 u2 : Value} (hr : r.length ≤ 8) (hc : ([u1, u2] : List Value).all x_cat1 = true) (hc2 : r.all x_cat1 = true) (k : WP P 82 0 [some (.ref mo), some u1, some u2, none] [] (putR w mo S) (fun v w1 => WP P 106 24 lo (v.toList ++ r) w1 Q)) : WP P 106 21 lo (u2 :: u1 :: .ref mo :: r) (putR w mo S) Q := K_virt (as := [u1, u2]) rfl rfl rfl rfl (by decide) (by decide) rfl putR_tgM hr hc hc2 k
theorem wM_map_24 : WP P 106 24 lo (.int x :: r) w Q ↔ (5 < lo.length ∧ WP P 106 26 (lo.set 5 (some (.int x))) r w Q) := W_istore rfl rfl
theorem wM_map_26 : WP P 106 26 lo st w Q ↔ x_gi lo[4]? (fun x => WP P 106 28 lo (.int x :: st) w Q) := W_iload rfl rfl
theorem wM_map_28 : WP P 106 28 lo (.int x :: r) w Q ↔ (if x < xi 0 then WP P 106 48 lo r w Q else WP P 106 31 lo r w Q) := W_if_lt rfl rfl rfl
theorem wM_map_31 : WP P 106 31 lo st w Q ↔ x_ga lo[0]? (fun v => WP P 106 32 lo (v :: st) w Q) := W_aload_n rfl rfl rfl
theorem wM_map_32 : WP P 106 32 lo (.ref mo :: r) (putR w mo S) Q ↔ WP P 106 35 lo (.ref (ra mo 0) :: r) (putR w mo S) Q := R_get rfl rfl (by decide) rfl
theorem wM_map_35 : WP P 106 35 lo st w Q ↔ x_gi lo[4]? (fun x => WP P 106 37 lo (.int x :: st) w Q) := W_iload rfl rfl
theorem wM_map_37 : WP P 106 37 lo (.int x :: .ref (ra mo 0) :: r) (putR w mo S) Q ↔ ((0 ≤ x.toInt ∧ x.toInt < 128) ∧ WP P 106 38 lo (.int (xi (S 0 x.toInt.toNat)) :: r) (putR w mo S) Q) := R_iald rfl (by decide) rfl rfl rfl
theorem wM_map_38 : WP P 106 38 lo st w Q ↔ WP P 106 40 lo (.int (xi 6) :: st) w Q := W_bipush rfl rfl (by decide)
theorem wM_map_40 : WP P 106 40 lo (.int y :: .int x :: r) w Q ↔ (if x < y then WP P 106 48 lo r w Q else WP P 106 43 lo r w Q) := W_ic_lt rfl rfl rfl
theorem wM_map_43 : WP P 106 43 lo st w Q ↔ x_gi lo[5]? (fun x => WP P 106 45 lo (.int x :: st) w Q) := W_iload rfl rfl
theorem wM_map_45 : WP P 106 45 lo (.int x :: r) w Q ↔ (if x < xi 0 then WP P 106 48 lo r w Q else WP P 106 50 lo r w Q) := W_if_ge rfl rfl rfl
theorem wM_map_48 : WP P 106 48 lo st w Q ↔ WP P 106 49 lo (.int (xi 1) :: st) w Q := W_iconst rfl rfl rfl
theorem wM_map_49 : WP P 106 49 lo [.int x] w Q ↔ Q (some (.int x)) w := WP_ret rfl rfl
theorem wM_map_50 : WP P 106 50 lo st w Q ↔ x_gi lo[3]? (fun x => WP P 106 51 lo (.int x :: st) w Q) := W_iload_n rfl rfl rfl
theorem wM_map_51 : WP P 106 51 lo (.int x :: r) w Q ↔ (if x < xi 0 then WP P 106 60 lo r w Q else WP P 106 54 lo r w Q) := W_if_lt rfl rfl rfl
theorem wM_map_54 : WP P 106 54 lo st w Q ↔ x_gi lo[3]? (fun x => WP P 106 55 lo (.int x :: st) w Q) := W_iload_n rfl rfl rfl
theorem wM_map_55 : WP P 106 55 lo st w Q ↔ WP P 106 57 lo (.int (xi 15) :: st) w Q := W_bipush rfl rfl (by decide)
theorem wM_map_57 : WP P 106 57 lo (.int y :: .int x :: r) w Q ↔ (if y < x then WP P 106 60 lo r w Q else WP P 106 62 lo r w Q) := W_ic_le rfl rfl rfl
theorem wM_map_60 : WP P 106 60 lo st w Q ↔ WP P 106 61 lo (.int (xi 4) :: st) w Q := W_iconst rfl rfl rfl
theorem wM_map_61 : WP P 106 61 lo [.int x] w Q ↔ Q (some (.int x)) w := WP_ret rfl rfl
theorem wM_map_62 : WP P 106 62 lo st w Q ↔ x_ga lo[0]? (fun v => WP P 106 63 lo (v :: st) w Q) := W_aload_n rfl rfl rfl
theorem wM_map_63 : WP P 106 63 lo st w Q ↔ x_ga lo[0]? (fun v => WP P 106 64 lo (v :: st) w Q) := W_aload_n rfl rfl rfl
theorem wM_map_64 : WP P 106 64 lo (.ref mo :: r) (putR w mo S) Q ↔ WP P 106 67 lo (.ref (ra mo 1) :: r) (putR w mo S) Q := R_get rfl rfl (by decide) rfl
theorem wM_map_67 : WP P 106 67 lo st w Q ↔ x_gi lo[5]? (fun x => WP P 106 69 lo (.int x :: st) w Q) := W_iload rfl rfl
theorem wM_map_69 : WP P 106 69 lo (.int x :: .ref (ra mo 1) :: r) (putR w mo S) Q ↔ ((0 ≤ x.toInt ∧ x.toInt < 128) ∧ WP P 106 70 lo (.int (xi (S 1 x.toInt.toNat)) :: r) (putR w mo S) Q) := R_iald rfl (by decide) rfl rfl rfl
theorem wM_map_70 : WP P 106 70 lo st w Q ↔ x_gi lo[3]? (fun x => WP P 106 71 lo (.int x :: st) w Q) := W_iload_n rfl rfl rfl
theorem wM_map_71 : WP P 106 71 lo st w Q ↔ WP P 106 72 lo (.int (xi 4) :: st) w Q := W_iconst rfl rfl rfl
theorem wM_map_72 : WP P 106 72 lo (.int y :: .int x :: r) w Q ↔ (¬ y = 0 ∧ WP P 106 73 lo (.int (x / y) :: r) w Q) := W_idiv rfl rfl
theorem wM_map_73 {u1 u2 : Value} (hr : r.length ≤ 8) (hc : ([u1, u2] : List Value).all x_cat1 = true) (hc2 : r.all x_cat1 = true) (k : WP P 107 0 [some (.ref mo), some u1, some u2, none] [] (putR w mo S) (fun v w1 => WP P 106 76 lo (v.toList ++ r) w1 Q)) : WP P 106 73 lo (u2 :: u1 :: .ref mo :: r) (putR w mo S) Q := K_virt (as := [u1, u2]) rfl rfl rfl rfl (by decide) (by decide) rfl putR_tgM hr hc hc2 k
theorem wM_map_76 : WP P 106 76 lo (.int x :: r) w Q ↔ (6 < lo.length ∧ WP P 106 78 (lo.set 6 (some (.int x))) r w Q) := W_istore rfl rfl
theorem wM_map_78 : WP P 106 78 lo st w Q ↔ x_ga lo[0]? (fun v => WP P 106 79 lo (v :: st) w Q) := W_aload_n rfl rfl rfl
theorem wM_map_79 : WP P 106 79 lo (.ref mo :: r) (putR w mo S) Q ↔ WP P 106 82 lo (.ref (ra mo 0) :: r) (putR w mo S) Q := R_get rfl rfl (by decide) rfl
theorem wM_map_82 : WP P 106 82 lo st w Q ↔ x_gi lo[4]? (fun x => WP P 106 84 lo (.int x :: st) w Q) := W_iload rfl rfl
theorem wM_map_84 : WP P 106 84 lo (.int x :: .ref (ra mo 0) :: r) (putR w mo S) Q ↔ ((0 ≤ x.toInt ∧ x.toInt < 128) ∧ WP P 106 85 lo (.int (xi (S 0 x.toInt.toNat)) :: r) (putR w mo S) Q) := R_iald rfl (by decide) rfl rfl rfl
theorem wM_map_85 : WP P 106 85 lo st w Q ↔ WP P 106 87 lo (.int (xi 6) :: st) w Q := W_bipush rfl rfl (by decide)
theorem wM_map_87 : WP P 106 87 lo (.int y :: .int x :: r) w Q ↔ (if x = y then WP P 106 90 lo r w Q else WP P 106 156 lo r w Q) := W_ic_ne rfl rfl rfl
theorem wM_map_90 : WP P 106 90 lo st w Q ↔ x_ga lo[0]? (fun v => WP P 106 91 lo (v :: st) w Q) := W_aload_n rfl rfl rfl
theorem wM_map_91 : WP P 106 91 lo (.ref mo :: r) (putR w mo S) Q ↔ WP P 106 94 lo (.ref (ra mo 25) :: r) (putR w mo S) Q := R_get rfl rfl (by decide) rfl
theorem wM_map_94 : WP P 106 94 lo st w Q ↔ x_ga lo[0]? (fun v => WP P 106 95 lo (v :: st) w Q) := W_aload_n rfl rfl rfl
theorem wM_map_95 : WP P 106 95 lo (.ref mo :: r) (putR w mo S) Q ↔ WP P 106 98 lo (.ref (ra mo 1) :: r) (putR w mo S) Q := R_get rfl rfl (by decide) rfl
theorem wM_map_98 : WP P 106 98 lo st w Q ↔ x_gi lo[4]? (fun x => WP P 106 100 lo (.int x :: st) w Q) := W_iload rfl rfl
theorem wM_map_100 : WP P 106 100 lo (.int x :: .ref (ra mo 1) :: r) (putR w mo S) Q ↔ ((0 ≤ x.toInt ∧ x.toInt < 128) ∧ WP P 106 101 lo (.int (xi (S 1 x.toInt.toNat)) :: r) (putR w mo S) Q) := R_iald rfl (by decide) rfl rfl rfl
theorem wM_map_101 : WP P 106 101 lo st w Q ↔ WP P 106 102 lo (.int (xi 4) :: st) w Q := W_iconst rfl rfl rfl
theorem wM_map_102 : WP P 106 102 lo (.int y :: .int x :: r) w Q ↔ (¬ y = 0 ∧ WP P 106 103 lo (.int (x / y) :: r) w Q) := W_idiv rfl rfl
theorem wM_map_103 : WP P 106 103 lo (.int x :: .ref (ra mo 25) :: r) (putR w mo S) Q ↔ ((0 ≤ x.toInt ∧ x.toInt < 32) ∧ WP P 106 104 lo (.int (xi (S 25 x.toInt.toNat)) :: r) (putR w mo S) Q) := R_iald rfl (by decide) rfl rfl rfl
theorem wM_map_104 : WP P 106 104 lo st w Q ↔ WP P 106 105 lo (.int (xi (-1)) :: st) w Q := W_iconst rfl rfl rfl
theorem wM_map_105 : WP P 106 105 lo (.int y :: .int x :: r) w Q ↔ (if x = y then WP P 106 108 lo r w Q else WP P 106 113 lo r w Q) := W_ic_ne rfl rfl rfl
theorem wM_map_108 : WP P 106 108 lo st w Q ↔ x_gi lo[6]? (fun x => WP P 106 110 lo (.int x :: st) w Q) := W_iload rfl rfl
theorem wM_map_110 : WP P 106 110 lo (.int x :: r) w Q ↔ (if x < xi 0 then WP P 106 116 lo r w Q else WP P 106 113 lo r w Q) := W_if_lt rfl rfl rfl
theorem wM_map_113 : WP P 106 113 lo st w Q ↔ WP P 106 115 lo (.int (xi 7) :: st) w Q := W_bipush rfl rfl (by decide)
theorem wM_map_115 : WP P 106 115 lo [.int x] w Q ↔ Q (some (.int x)) w := WP_ret rfl rfl
theorem wM_map_116 : WP P 106 116 lo st w Q ↔ x_ga lo[0]? (fun v => WP P 106 117 lo (v :: st) w Q) := W_aload_n rfl rfl rfl
theorem wM_map_117 : WP P 106 117 lo (.ref mo :: r) (putR w mo S) Q ↔ WP P 106 120 lo (.ref (ra mo 25) :: r) (putR w mo S) Q := R_get rfl rfl (by decide) rfl
theorem wM_map_120 : WP P 106 120 lo st w Q ↔ x_ga lo[0]? (fun v => WP P 106 121 lo (v :: st) w Q) := W_aload_n rfl rfl rfl
theorem wM_map_121 : WP P 106 121 lo (.ref mo :: r) (putR w mo S) Q ↔ WP P 106 124 lo (.ref (ra mo 1) :: r) (putR w mo S) Q := R_get rfl rfl (by decide) rfl
theorem wM_map_124 : WP P 106 124 lo st w Q ↔ x_gi lo[4]? (fun x => WP P 106 126 lo (.int x :: st) w Q) := W_iload rfl rfl
theorem wM_map_126 : WP P 106 126 lo (.int x :: .ref (ra mo 1) :: r) (putR w mo S) Q ↔ ((0 ≤ x.toInt ∧ x.toInt < 128) ∧ WP P 106 127 lo (.int (xi (S 1 x.toInt.toNat)) :: r) (putR w mo S) Q) := R_iald rfl (by decide) rfl rfl rfl
theorem wM_map_127 : WP P 106 127 lo st w Q ↔ WP P 106 128 lo (.int (xi 4) :: st) w Q := W_iconst rfl rfl rfl
theorem wM_map_128 : WP P 106 128 lo (.int y :: .int x :: r) w Q ↔ (¬ y = 0 ∧ WP P 106 129 lo (.int (x / y) :: r) w Q) := W_idiv rfl rfl
theorem wM_map_129 : WP P 106 129 lo st w Q ↔ x_ga lo[0]? (fun v => WP P 106 130 lo (v :: st) w Q) := W_aload_n rfl rfl rfl
theorem wM_map_130 : WP P 106 130 lo (.ref mo :: r) (putR w mo S) Q ↔ WP P 106 133 lo (.ref (ra mo 1) :: r) (putR w mo S) Q := R_get rfl rfl (by decide) rfl
theorem wM_map_133 : WP P 106 133 lo st w Q ↔ x_gi lo[5]? (fun x => WP P 106 135 lo (.int x :: st) w Q) := W_iload rfl rfl
theorem wM_map_135 : WP P 106 135 lo (.int x :: .ref (ra mo 1) :: r) (putR w mo S) Q ↔ ((0 ≤ x.toInt ∧ x.toInt < 128) ∧ WP P 106 136 lo (.int (xi (S 1 x.toInt.toNat)) :: r) (putR w mo S) Q) := R_iald rfl (by decide) rfl rfl rfl
theorem wM_map_136 : WP P 106 136 lo (.int (xi z) :: .int x :: .ref (ra mo 25) :: r) (putR w mo S) Q ↔ ((0 ≤ x.toInt ∧ x.toInt < 32) ∧ WP P 106 137 lo r (putR w mo (sset S 25 x.toInt.toNat z)) Q) := R_iast rfl (by decide) rfl rfl rfl
theorem wM_map_137 : WP P 106 137 lo st w Q ↔ x_ga lo[0]? (fun v => WP P 106 138 lo (v :: st) w Q) := W_aload_n rfl rfl rfl
theorem wM_map_138 : WP P 106 138 lo (.ref mo :: r) (putR w mo S) Q ↔ WP P 106 141 lo (.ref (ra mo 26) :: r) (putR w mo S) Q := R_get rfl rfl (by decide) rfl
theorem wM_map_141 : WP P 106 141 lo st w Q ↔ x_ga lo[0]? (fun v => WP P 106 142 lo (v :: st) w Q) := W_aload_n rfl rfl rfl
theorem wM_map_142 : WP P 106 142 lo (.ref mo :: r) (putR w mo S) Q ↔ WP P 106 145 lo (.ref (ra mo 1) :: r) (putR w mo S) Q := R_get rfl rfl (by decide) rfl
theorem wM_map_145 : WP P 106 145 lo st w Q ↔ x_gi lo[4]? (fun x => WP P 106 147 lo (.int x :: st) w Q) := W_iload rfl rfl
theorem wM_map_147 : WP P 106 147 lo (.int x :: .ref (ra mo 1) :: r) (putR w mo S) Q ↔ ((0 ≤ x.toInt ∧ x.toInt < 128) ∧ WP P 106 148 lo (.int (xi (S 1 x.toInt.toNat)) :: r) (putR w mo S) Q) := R_iald rfl (by decide) rfl rfl rfl
theorem wM_map_148 : WP P 106 148 lo st w Q ↔ WP P 106 149 lo (.int (xi 4) :: st) w Q := W_iconst rfl rfl rfl
theorem wM_map_149 : WP P 106 149 lo (.int y :: .int x :: r) w Q ↔ (¬ y = 0 ∧ WP P 106 150 lo (.int (x / y) :: r) w Q) := W_idiv rfl rfl
theorem wM_map_150 : WP P 106 150 lo st w Q ↔ x_gi lo[3]? (fun x => WP P 106 151 lo (.int x :: st) w Q) := W_iload_n rfl rfl rfl
theorem wM_map_151 : WP P 106 151 lo st w Q ↔ WP P 106 152 lo (.int (xi 4) :: st) w Q := W_iconst rfl rfl rfl
theorem wM_map_152 : WP P 106 152 lo (.int y :: .int x :: r) w Q ↔ (¬ y = 0 ∧ WP P 106 153 lo (.int (x / y) :: r) w Q) := W_idiv rfl rfl
theorem wM_map_153 : WP P 106 153 lo (.int (xi z) :: .int x :: .ref (ra mo 26) :: r) (putR w mo S) Q ↔ ((0 ≤ x.toInt ∧ x.toInt < 32) ∧ WP P 106 154 lo r (putR w mo (sset S 26 x.toInt.toNat z)) Q) := R_iast rfl (by decide) rfl rfl rfl
theorem wM_map_154 : WP P 106 154 lo st w Q ↔ WP P 106 155 lo (.int (xi 0) :: st) w Q := W_iconst rfl rfl rfl
theorem wM_map_155 : WP P 106 155 lo [.int x] w Q ↔ Q (some (.int x)) w := WP_ret rfl rfl
theorem wM_map_156 : WP P 106 156 lo st w Q ↔ x_ga lo[0]? (fun v => WP P 106 157 lo (v :: st) w Q) := W_aload_n rfl rfl rfl
theorem wM_map_157 : WP P 106 157 lo (.ref mo :: r) (putR w mo S) Q ↔ WP P 106 160 lo (.ref (ra mo 7) :: r) (putR w mo S) Q := R_get rfl rfl (by decide) rfl
theorem wM_map_160 : WP P 106 160 lo st w Q ↔ x_gi lo[4]? (fun x => WP P 106 162 lo (.int x :: st) w Q) := W_iload rfl rfl
theorem wM_map_162 : WP P 106 162 lo (.int x :: .ref (ra mo 7) :: r) (putR w mo S) Q ↔ ((0 ≤ x.toInt ∧ x.toInt < 128) ∧ WP P 106 163 lo (.int (xi (S 7 x.toInt.toNat)) :: r) (putR w mo S) Q) := R_iald rfl (by decide) rfl rfl rfl
theorem wM_map_163 : WP P 106 163 lo st w Q ↔ WP P 106 164 lo (.int (xi (-1)) :: st) w Q := W_iconst rfl rfl rfl
theorem wM_map_164 : WP P 106 164 lo (.int y :: .int x :: r) w Q ↔ (if x = y then WP P 106 167 lo r w Q else WP P 106 184 lo r w Q) := W_ic_ne rfl rfl rfl
theorem wM_map_167 : WP P 106 167 lo st w Q ↔ x_gi lo[6]? (fun x => WP P 106 169 lo (.int x :: st) w Q) := W_iload rfl rfl
theorem wM_map_169 : WP P 106 169 lo (.int x :: r) w Q ↔ (if x < xi 0 then WP P 106 184 lo r w Q else WP P 106 172 lo r w Q) := W_if_lt rfl rfl rfl
theorem wM_map_172 : WP P 106 172 lo st w Q ↔ x_ga lo[0]? (fun v => WP P 106 173 lo (v :: st) w Q) := W_aload_n rfl rfl rfl
theorem wM_map_173 : WP P 106 173 lo st w Q ↔ x_gi lo[6]? (fun x => WP P 106 175 lo (.int x :: st) w Q) := W_iload rfl rfl
theorem wM_map_175 : WP P 106 175 lo st w Q ↔ x_gi lo[3]? (fun x => WP P 106 176 lo (.int x :: st) w Q) := W_iload_n rfl rfl rfl
theorem wM_map_176 : WP P 106 176 lo st w Q ↔ WP P 106 177 lo (.int (xi 4) :: st) w Q := W_iconst rfl rfl rfl
theorem wM_map_177 : WP P 106 177 lo (.int y :: .int x :: r) w Q ↔ (¬ y = 0 ∧ WP P 106 178 lo (.int (x_rmd x y) :: r) w Q) := W_irem rfl rfl
theorem wM_map_178 {u1 u2 : Value} (hr : r.length ≤ 8) (hc : ([u1, u2] : List Value).all x_cat1 = true) (hc2 : r.all x_cat1 = true) (k : WP P 109 0 [some (.ref mo), some u1, some u2, none] [] (putR w mo S) (fun v w1 => WP P 106 181 lo (v.toList ++ r) w1 Q)) : WP P 106 178 lo (u2 :: u1 :: .ref mo :: r) (putR w mo S) Q := K_virt (as := [u1, u2]) rfl rfl rfl rfl (by decide) (by decide) rfl putR_tgM hr hc hc2 k
theorem wM_map_181 : WP P 106 181 lo (.int x :: r) w Q ↔ (if x < xi 0 then WP P 106 187 lo r w Q else WP P 106 184 lo r w Q) := W_if_lt rfl rfl rfl
theorem wM_map_184 : WP P 106 184 lo st w Q ↔ WP P 106 186 lo (.int (xi 7) :: st) w Q := W_bipush rfl rfl (by decide)
theorem wM_map_186 : WP P 106 186 lo [.int x] w Q ↔ Q (some (.int x)) w := WP_ret rfl rfl
theorem wM_map_187 : WP P 106 187 lo st w Q ↔ x_ga lo[0]? (fun v => WP P 106 188 lo (v :: st) w Q) := W_aload_n rfl rfl rfl
theorem wM_map_188 : WP P 106 188 lo (.ref mo :: r) (putR w mo S) Q ↔ WP P 106 191 lo (.ref (ra mo 7) :: r) (putR w mo S) Q := R_get rfl rfl (by decide) rfl
theorem wM_map_191 : WP P 106 191 lo st w Q ↔ x_gi lo[4]? (fun x => WP P 106 193 lo (.int x :: st) w Q) := W_iload rfl rfl
theorem wM_map_193 : WP P 106 193 lo st w Q ↔ x_gi lo[6]? (fun x => WP P 106 195 lo (.int x :: st) w Q) := W_iload rfl rfl
theorem wM_map_195 : WP P 106 195 lo (.int (xi z) :: .int x :: .ref (ra mo 7) :: r) (putR w mo S) Q ↔ ((0 ≤ x.toInt ∧ x.toInt < 128) ∧ WP P 106 196 lo r (putR w mo (sset S 7 x.toInt.toNat z)) Q) := R_iast rfl (by decide) rfl rfl rfl
theorem wM_map_196 : WP P 106 196 lo st w Q ↔ x_ga lo[0]? (fun v => WP P 106 197 lo (v :: st) w Q) := W_aload_n rfl rfl rfl
theorem wM_map_197 : WP P 106 197 lo (.ref mo :: r) (putR w mo S) Q ↔ WP P 106 200 lo (.ref (ra mo 8) :: r) (putR w mo S) Q := R_get rfl rfl (by decide) rfl
theorem wM_map_200 : WP P 106 200 lo st w Q ↔ x_gi lo[4]? (fun x => WP P 106 202 lo (.int x :: st) w Q) := W_iload rfl rfl
theorem wM_map_202 : WP P 106 202 lo st w Q ↔ x_gi lo[3]? (fun x => WP P 106 203 lo (.int x :: st) w Q) := W_iload_n rfl rfl rfl
theorem wM_map_203 : WP P 106 203 lo st w Q ↔ WP P 106 204 lo (.int (xi 4) :: st) w Q := W_iconst rfl rfl rfl
theorem wM_map_204 : WP P 106 204 lo (.int y :: .int x :: r) w Q ↔ (¬ y = 0 ∧ WP P 106 205 lo (.int (x_rmd x y) :: r) w Q) := W_irem rfl rfl
theorem wM_map_205 : WP P 106 205 lo (.int (xi z) :: .int x :: .ref (ra mo 8) :: r) (putR w mo S) Q ↔ ((0 ≤ x.toInt ∧ x.toInt < 128) ∧ WP P 106 206 lo r (putR w mo (sset S 8 x.toInt.toNat z)) Q) := R_iast rfl (by decide) rfl rfl rfl
theorem wM_map_206 : WP P 106 206 lo st w Q ↔ WP P 106 207 lo (.int (xi 0) :: st) w Q := W_iconst rfl rfl rfl
theorem wM_map_207 : WP P 106 207 lo [.int x] w Q ↔ Q (some (.int x)) w := WP_ret rfl rfl
-- 107 M_leafOf
theorem wM_leafOf_0 : WP P 107 0 lo st w Q ↔ WP P 107 1 lo (.int (xi 0) :: st) w Q := W_iconst rfl rfl rfl
theorem wM_leafOf_1 : WP P 107 1 lo (.int x :: r) w Q ↔ (3 < lo.length ∧ WP P 107 2 (lo.set 3 (some (.int x))) r w Q) := W_istore_n rfl rfl rfl
theorem wM_leafOf_2 : WP P 107 2 lo st w Q ↔ x_gi lo[3]? (fun x => WP P 107 3 lo (.int x :: st) w Q) := W_iload_n rfl rfl rfl
theorem wM_leafOf_3 : WP P 107 3 lo st w Q ↔ WP P 107 6 lo (.int (xi 128) :: st) w Q := W_sipush rfl rfl (by decide)
theorem wM_leafOf_6 : WP P 107 6 lo (.int y :: .int x :: r) w Q ↔ (if x < y then WP P 107 9 lo r w Q else WP P 107 51 lo r w Q) := W_ic_ge rfl rfl rfl
theorem wM_leafOf_9 : WP P 107 9 lo st w Q ↔ x_ga lo[0]? (fun v => WP P 107 10 lo (v :: st) w Q) := W_aload_n rfl rfl rfl
theorem wM_leafOf_10 : WP P 107 10 lo st w Q ↔ WP P 107 12 lo (.int (xi 6) :: st) w Q := W_bipush rfl rfl (by decide)
theorem wM_leafOf_12 : WP P 107 12 lo st w Q ↔ x_gi lo[3]? (fun x => WP P 107 13 lo (.int x :: st) w Q) := W_iload_n rfl rfl rfl
theorem wM_leafOf_13 {u1 u2 : Value} (hr : r.length ≤ 8) (hc : ([u1, u2] : List Value).all x_cat1 = true) (hc2 : r.all x_cat1 = true) (k : WP P 108 0 [some (.ref mo), some u1, some u2] [] (putR w mo S) (fun v w1 => WP P 107 16 lo (v.toList ++ r) w1 Q)) : WP P 107 13 lo (u2 :: u1 :: .ref mo :: r) (putR w mo S) Q := K_virt (as := [u1, u2]) rfl rfl rfl rfl (by decide) (by decide) rfl putR_tgM hr hc hc2 k
theorem wM_leafOf_16 : WP P 107 16 lo (.int x :: r) w Q ↔ (if x = xi 0 then WP P 107 45 lo r w Q else WP P 107 19 lo r w Q) := W_if_eq rfl rfl rfl
theorem wM_leafOf_19 : WP P 107 19 lo st w Q ↔ x_ga lo[0]? (fun v => WP P 107 20 lo (v :: st) w Q) := W_aload_n rfl rfl rfl
theorem wM_leafOf_20 : WP P 107 20 lo (.ref mo :: r) (putR w mo S) Q ↔ WP P 107 23 lo (.ref (ra mo 25) :: r) (putR w mo S) Q := R_get rfl rfl (by decide) rfl
theorem wM_leafOf_23 : WP P 107 23 lo st w Q ↔ x_gi lo[3]? (fun x => WP P 107 24 lo (.int x :: st) w Q) := W_iload_n rfl rfl rfl
theorem wM_leafOf_24 : WP P 107 24 lo st w Q ↔ WP P 107 25 lo (.int (xi 4) :: st) w Q := W_iconst rfl rfl rfl
theorem wM_leafOf_25 : WP P 107 25 lo (.int y :: .int x :: r) w Q ↔ (¬ y = 0 ∧ WP P 107 26 lo (.int (x / y) :: r) w Q) := W_idiv rfl rfl
theorem wM_leafOf_26 : WP P 107 26 lo (.int x :: .ref (ra mo 25) :: r) (putR w mo S) Q ↔ ((0 ≤ x.toInt ∧ x.toInt < 32) ∧ WP P 107 27 lo (.int (xi (S 25 x.toInt.toNat)) :: r) (putR w mo S) Q) := R_iald rfl (by decide) rfl rfl rfl
theorem wM_leafOf_27 : WP P 107 27 lo st w Q ↔ x_gi lo[1]? (fun x => WP P 107 28 lo (.int x :: st) w Q) := W_iload_n rfl rfl rfl
theorem wM_leafOf_28 : WP P 107 28 lo (.int y :: .int x :: r) w Q ↔ (if x = y then WP P 107 31 lo r w Q else WP P 107 45 lo r w Q) := W_ic_ne rfl rfl rfl
theorem wM_leafOf_31 : WP P 107 31 lo st w Q ↔ x_ga lo[0]? (fun v => WP P 107 32 lo (v :: st) w Q) := W_aload_n rfl rfl rfl
theorem wM_leafOf_32 : WP P 107 32 lo (.ref mo :: r) (putR w mo S) Q ↔ WP P 107 35 lo (.ref (ra mo 26) :: r) (putR w mo S) Q := R_get rfl rfl (by decide) rfl
theorem wM_leafOf_35 : WP P 107 35 lo st w Q ↔ x_gi lo[3]? (fun x => WP P 107 36 lo (.int x :: st) w Q) := W_iload_n rfl rfl rfl
theorem wM_leafOf_36 : WP P 107 36 lo st w Q ↔ WP P 107 37 lo (.int (xi 4) :: st) w Q := W_iconst rfl rfl rfl
theorem wM_leafOf_37 : WP P 107 37 lo (.int y :: .int x :: r) w Q ↔ (¬ y = 0 ∧ WP P 107 38 lo (.int (x / y) :: r) w Q) := W_idiv rfl rfl
theorem wM_leafOf_38 : WP P 107 38 lo (.int x :: .ref (ra mo 26) :: r) (putR w mo S) Q ↔ ((0 ≤ x.toInt ∧ x.toInt < 32) ∧ WP P 107 39 lo (.int (xi (S 26 x.toInt.toNat)) :: r) (putR w mo S) Q) := R_iald rfl (by decide) rfl rfl rfl
theorem wM_leafOf_39 : WP P 107 39 lo st w Q ↔ x_gi lo[2]? (fun x => WP P 107 40 lo (.int x :: st) w Q) := W_iload_n rfl rfl rfl
theorem wM_leafOf_40 : WP P 107 40 lo (.int y :: .int x :: r) w Q ↔ (if x = y then WP P 107 43 lo r w Q else WP P 107 45 lo r w Q) := W_ic_ne rfl rfl rfl
theorem wM_leafOf_43 : WP P 107 43 lo st w Q ↔ x_gi lo[3]? (fun x => WP P 107 44 lo (.int x :: st) w Q) := W_iload_n rfl rfl rfl
theorem wM_leafOf_44 : WP P 107 44 lo [.int x] w Q ↔ Q (some (.int x)) w := WP_ret rfl rfl
theorem wM_leafOf_45 : WP P 107 45 lo st w Q ↔ x_gi lo[3]? (fun x => WP P 107 48 (lo.set 3 (some (.int (x + xi 4)))) st w Q) := W_iinc rfl rfl
theorem wM_leafOf_48 : WP P 107 48 lo st w Q ↔ WP P 107 2 lo st w Q := W_goto rfl rfl
theorem wM_leafOf_51 : WP P 107 51 lo st w Q ↔ WP P 107 52 lo (.int (xi (-1)) :: st) w Q := W_iconst rfl rfl rfl
theorem wM_leafOf_52 : WP P 107 52 lo [.int x] w Q ↔ Q (some (.int x)) w := WP_ret rfl rfl
-- 108 M_there
theorem wM_there_0 : WP P 108 0 lo st w Q ↔ x_gi lo[2]? (fun x => WP P 108 1 lo (.int x :: st) w Q) := W_iload_n rfl rfl rfl
theorem wM_there_1 : WP P 108 1 lo (.int x :: r) w Q ↔ (if x < xi 0 then WP P 108 24 lo r w Q else WP P 108 4 lo r w Q) := W_if_lt rfl rfl rfl
theorem wM_there_4 : WP P 108 4 lo st w Q ↔ x_gi lo[2]? (fun x => WP P 108 5 lo (.int x :: st) w Q) := W_iload_n rfl rfl rfl
theorem wM_there_5 : WP P 108 5 lo st w Q ↔ WP P 108 8 lo (.int (xi 128) :: st) w Q := W_sipush rfl rfl (by decide)
theorem wM_there_8 : WP P 108 8 lo (.int y :: .int x :: r) w Q ↔ (if x < y then WP P 108 11 lo r w Q else WP P 108 24 lo r w Q) := W_ic_ge rfl rfl rfl
theorem wM_there_11 : WP P 108 11 lo st w Q ↔ x_ga lo[0]? (fun v => WP P 108 12 lo (v :: st) w Q) := W_aload_n rfl rfl rfl
theorem wM_there_12 : WP P 108 12 lo st w Q ↔ x_gi lo[1]? (fun x => WP P 108 13 lo (.int x :: st) w Q) := W_iload_n rfl rfl rfl
theorem wM_there_13 : WP P 108 13 lo st w Q ↔ x_gi lo[2]? (fun x => WP P 108 14 lo (.int x :: st) w Q) := W_iload_n rfl rfl rfl
theorem wM_there_14 {u1 u2 : Value} (hr : r.length ≤ 8) (hc : ([u1, u2] : List Value).all x_cat1 = true) (hc2 : r.all x_cat1 = true) (k : WP P 93 0 [some (.ref mo), some u1, some u2, none, none] [] (putR w mo S) (fun v w1 => WP P 108 17 lo (v.toList ++ r) w1 Q)) : WP P 108 14 lo (u2 :: u1 :: .ref mo :: r) (putR w mo S) Q := K_virt (as := [u1, u2]) rfl rfl rfl rfl (by decide) (by decide) rfl putR_tgM hr hc hc2 k
theorem wM_there_17 : WP P 108 17 lo (.int x :: r) w Q ↔ (if xi 0 < x then WP P 108 20 lo r w Q else WP P 108 24 lo r w Q) := W_if_le rfl rfl rfl
theorem wM_there_20 : WP P 108 20 lo st w Q ↔ WP P 108 21 lo (.int (xi 1) :: st) w Q := W_iconst rfl rfl rfl
theorem wM_there_21 : WP P 108 21 lo st w Q ↔ WP P 108 25 lo st w Q := W_goto rfl rfl
theorem wM_there_24 : WP P 108 24 lo st w Q ↔ WP P 108 25 lo (.int (xi 0) :: st) w Q := W_iconst rfl rfl rfl
theorem wM_there_25 (h : x = 0 ∨ x = 1) : WP P 108 25 lo [.int x] w Q ↔ Q (some (.int x)) w := WP_ret rfl (if_pos (Or.inr ⟨rfl, h⟩))
-- 109 M_frameOf
theorem wM_frameOf_0 : WP P 109 0 lo st w Q ↔ WP P 109 1 lo (.int (xi 0) :: st) w Q := W_iconst rfl rfl rfl
theorem wM_frameOf_1 : WP P 109 1 lo (.int x :: r) w Q ↔ (3 < lo.length ∧ WP P 109 2 (lo.set 3 (some (.int x))) r w Q) := W_istore_n rfl rfl rfl
theorem wM_frameOf_2 : WP P 109 2 lo st w Q ↔ x_gi lo[3]? (fun x => WP P 109 3 lo (.int x :: st) w Q) := W_iload_n rfl rfl rfl
theorem wM_frameOf_3 : WP P 109 3 lo st w Q ↔ WP P 109 6 lo (.int (xi 128) :: st) w Q := W_sipush rfl rfl (by decide)
theorem wM_frameOf_6 : WP P 109 6 lo (.int y :: .int x :: r) w Q ↔ (if x < y then WP P 109 9 lo r w Q else WP P 109 48 lo r w Q) := W_ic_ge rfl rfl rfl
theorem wM_frameOf_9 : WP P 109 9 lo st w Q ↔ x_ga lo[0]? (fun v => WP P 109 10 lo (v :: st) w Q) := W_aload_n rfl rfl rfl
theorem wM_frameOf_10 : WP P 109 10 lo (.ref mo :: r) (putR w mo S) Q ↔ WP P 109 13 lo (.ref (ra mo 0) :: r) (putR w mo S) Q := R_get rfl rfl (by decide) rfl
theorem wM_frameOf_13 : WP P 109 13 lo st w Q ↔ x_gi lo[3]? (fun x => WP P 109 14 lo (.int x :: st) w Q) := W_iload_n rfl rfl rfl
theorem wM_frameOf_14 : WP P 109 14 lo (.int x :: .ref (ra mo 0) :: r) (putR w mo S) Q ↔ ((0 ≤ x.toInt ∧ x.toInt < 128) ∧ WP P 109 15 lo (.int (xi (S 0 x.toInt.toNat)) :: r) (putR w mo S) Q) := R_iald rfl (by decide) rfl rfl rfl
theorem wM_frameOf_15 : WP P 109 15 lo st w Q ↔ WP P 109 17 lo (.int (xi 7) :: st) w Q := W_bipush rfl rfl (by decide)
theorem wM_frameOf_17 : WP P 109 17 lo (.int y :: .int x :: r) w Q ↔ (if x = y then WP P 109 20 lo r w Q else WP P 109 42 lo r w Q) := W_ic_ne rfl rfl rfl
theorem wM_frameOf_20 : WP P 109 20 lo st w Q ↔ x_ga lo[0]? (fun v => WP P 109 21 lo (v :: st) w Q) := W_aload_n rfl rfl rfl
theorem wM_frameOf_21 : WP P 109 21 lo (.ref mo :: r) (putR w mo S) Q ↔ WP P 109 24 lo (.ref (ra mo 7) :: r) (putR w mo S) Q := R_get rfl rfl (by decide) rfl
theorem wM_frameOf_24 : WP P 109 24 lo st w Q ↔ x_gi lo[3]? (fun x => WP P 109 25 lo (.int x :: st) w Q) := W_iload_n rfl rfl rfl
theorem wM_frameOf_25 : WP P 109 25 lo (.int x :: .ref (ra mo 7) :: r) (putR w mo S) Q ↔ ((0 ≤ x.toInt ∧ x.toInt < 128) ∧ WP P 109 26 lo (.int (xi (S 7 x.toInt.toNat)) :: r) (putR w mo S) Q) := R_iald rfl (by decide) rfl rfl rfl
theorem wM_frameOf_26 : WP P 109 26 lo st w Q ↔ x_gi lo[1]? (fun x => WP P 109 27 lo (.int x :: st) w Q) := W_iload_n rfl rfl rfl
theorem wM_frameOf_27 : WP P 109 27 lo (.int y :: .int x :: r) w Q ↔ (if x = y then WP P 109 30 lo r w Q else WP P 109 42 lo r w Q) := W_ic_ne rfl rfl rfl
theorem wM_frameOf_30 : WP P 109 30 lo st w Q ↔ x_ga lo[0]? (fun v => WP P 109 31 lo (v :: st) w Q) := W_aload_n rfl rfl rfl
theorem wM_frameOf_31 : WP P 109 31 lo (.ref mo :: r) (putR w mo S) Q ↔ WP P 109 34 lo (.ref (ra mo 8) :: r) (putR w mo S) Q := R_get rfl rfl (by decide) rfl
theorem wM_frameOf_34 : WP P 109 34 lo st w Q ↔ x_gi lo[3]? (fun x => WP P 109 35 lo (.int x :: st) w Q) := W_iload_n rfl rfl rfl
theorem wM_frameOf_35 : WP P 109 35 lo (.int x :: .ref (ra mo 8) :: r) (putR w mo S) Q ↔ ((0 ≤ x.toInt ∧ x.toInt < 128) ∧ WP P 109 36 lo (.int (xi (S 8 x.toInt.toNat)) :: r) (putR w mo S) Q) := R_iald rfl (by decide) rfl rfl rfl
theorem wM_frameOf_36 : WP P 109 36 lo st w Q ↔ x_gi lo[2]? (fun x => WP P 109 37 lo (.int x :: st) w Q) := W_iload_n rfl rfl rfl
theorem wM_frameOf_37 : WP P 109 37 lo (.int y :: .int x :: r) w Q ↔ (if x = y then WP P 109 40 lo r w Q else WP P 109 42 lo r w Q) := W_ic_ne rfl rfl rfl
theorem wM_frameOf_40 : WP P 109 40 lo st w Q ↔ x_gi lo[3]? (fun x => WP P 109 41 lo (.int x :: st) w Q) := W_iload_n rfl rfl rfl
theorem wM_frameOf_41 : WP P 109 41 lo [.int x] w Q ↔ Q (some (.int x)) w := WP_ret rfl rfl
theorem wM_frameOf_42 : WP P 109 42 lo st w Q ↔ x_gi lo[3]? (fun x => WP P 109 45 (lo.set 3 (some (.int (x + xi 1)))) st w Q) := W_iinc rfl rfl
theorem wM_frameOf_45 : WP P 109 45 lo st w Q ↔ WP P 109 2 lo st w Q := W_goto rfl rfl
theorem wM_frameOf_48 : WP P 109 48 lo st w Q ↔ WP P 109 49 lo (.int (xi (-1)) :: st) w Q := W_iconst rfl rfl rfl
theorem wM_frameOf_49 : WP P 109 49 lo [.int x] w Q ↔ Q (some (.int x)) w := WP_ret rfl rfl
-- 110 M_unmap
theorem wM_unmap_0 : WP P 110 0 lo st w Q ↔ x_ga lo[0]? (fun v => WP P 110 1 lo (v :: st) w Q) := W_aload_n rfl rfl rfl
theorem wM_unmap_1 (hr : r.length ≤ 8) (hc : ([] : List Value).all x_cat1 = true) (hc2 : r.all x_cat1 = true) (k : WP P 81 0 [some (.ref mo), none, none, none] [] (putR w mo S) (fun v w1 => WP P 110 4 lo (v.toList ++ r) w1 Q)) : WP P 110 1 lo (.ref mo :: r) (putR w mo S) Q := K_virt (as := []) rfl rfl rfl rfl (by decide) (by decide) rfl putR_tgM hr hc hc2 k
theorem wM_unmap_4 : WP P 110 4 lo (.int x :: r) w Q ↔ (if x < xi 0 then WP P 110 7 lo r w Q else WP P 110 10 lo r w Q) := W_if_ge rfl rfl rfl
theorem wM_unmap_7 : WP P 110 7 lo st w Q ↔ WP P 110 9 lo (.int (xi 8) :: st) w Q := W_bipush rfl rfl (by decide)
theorem wM_unmap_9 : WP P 110 9 lo [.int x] w Q ↔ Q (some (.int x)) w := WP_ret rfl rfl
theorem wM_unmap_10 : WP P 110 10 lo st w Q ↔ x_ga lo[0]? (fun v => WP P 110 11 lo (v :: st) w Q) := W_aload_n rfl rfl rfl
theorem wM_unmap_11 : WP P 110 11 lo st w Q ↔ x_gi lo[1]? (fun x => WP P 110 12 lo (.int x :: st) w Q) := W_iload_n rfl rfl rfl
theorem wM_unmap_12 : WP P 110 12 lo st w Q ↔ WP P 110 13 lo (.int (xi (-1)) :: st) w Q := W_iconst rfl rfl rfl
theorem wM_unmap_13 {u1 u2 : Value} (hr : r.length ≤ 8) (hc : ([u1, u2] : List Value).all x_cat1 = true) (hc2 : r.all x_cat1 = true) (k : WP P 82 0 [some (.ref mo), some u1, some u2, none] [] (putR w mo S) (fun v w1 => WP P 110 16 lo (v.toList ++ r) w1 Q)) : WP P 110 13 lo (u2 :: u1 :: .ref mo :: r) (putR w mo S) Q := K_virt (as := [u1, u2]) rfl rfl rfl rfl (by decide) (by decide) rfl putR_tgM hr hc hc2 k
theorem wM_unmap_16 : WP P 110 16 lo (.int x :: r) w Q ↔ (2 < lo.length ∧ WP P 110 17 (lo.set 2 (some (.int x))) r w Q) := W_istore_n rfl rfl rfl
theorem wM_unmap_17 : WP P 110 17 lo st w Q ↔ x_gi lo[2]? (fun x => WP P 110 18 lo (.int x :: st) w Q) := W_iload_n rfl rfl rfl
theorem wM_unmap_18 : WP P 110 18 lo (.int x :: r) w Q ↔ (if x < xi 0 then WP P 110 40 lo r w Q else WP P 110 21 lo r w Q) := W_if_lt rfl rfl rfl
theorem wM_unmap_21 : WP P 110 21 lo st w Q ↔ x_ga lo[0]? (fun v => WP P 110 22 lo (v :: st) w Q) := W_aload_n rfl rfl rfl
theorem wM_unmap_22 : WP P 110 22 lo (.ref mo :: r) (putR w mo S) Q ↔ WP P 110 25 lo (.ref (ra mo 0) :: r) (putR w mo S) Q := R_get rfl rfl (by decide) rfl
theorem wM_unmap_25 : WP P 110 25 lo st w Q ↔ x_gi lo[2]? (fun x => WP P 110 26 lo (.int x :: st) w Q) := W_iload_n rfl rfl rfl
theorem wM_unmap_26 : WP P 110 26 lo (.int x :: .ref (ra mo 0) :: r) (putR w mo S) Q ↔ ((0 ≤ x.toInt ∧ x.toInt < 128) ∧ WP P 110 27 lo (.int (xi (S 0 x.toInt.toNat)) :: r) (putR w mo S) Q) := R_iald rfl (by decide) rfl rfl rfl
theorem wM_unmap_27 : WP P 110 27 lo st w Q ↔ WP P 110 29 lo (.int (xi 6) :: st) w Q := W_bipush rfl rfl (by decide)
theorem wM_unmap_29 : WP P 110 29 lo (.int y :: .int x :: r) w Q ↔ (if x < y then WP P 110 40 lo r w Q else WP P 110 32 lo r w Q) := W_ic_lt rfl rfl rfl
theorem wM_unmap_32 : WP P 110 32 lo st w Q ↔ x_ga lo[0]? (fun v => WP P 110 33 lo (v :: st) w Q) := W_aload_n rfl rfl rfl
theorem wM_unmap_33 : WP P 110 33 lo st w Q ↔ x_gi lo[2]? (fun x => WP P 110 34 lo (.int x :: st) w Q) := W_iload_n rfl rfl rfl
theorem wM_unmap_34 {u1 : Value} (hr : r.length ≤ 8) (hc : ([u1] : List Value).all x_cat1 = true) (hc2 : r.all x_cat1 = true) (k : WP P 111 0 [some (.ref mo), some u1] [] (putR w mo S) (fun v w1 => WP P 110 37 lo (v.toList ++ r) w1 Q)) : WP P 110 34 lo (u1 :: .ref mo :: r) (putR w mo S) Q := K_virt (as := [u1]) rfl rfl rfl rfl (by decide) (by decide) rfl putR_tgM hr hc hc2 k
theorem wM_unmap_37 : WP P 110 37 lo (.int x :: r) w Q ↔ (if x = xi 0 then WP P 110 40 lo r w Q else WP P 110 62 lo r w Q) := W_if_ne rfl rfl rfl
theorem wM_unmap_40 : WP P 110 40 lo st w Q ↔ x_gi lo[2]? (fun x => WP P 110 41 lo (.int x :: st) w Q) := W_iload_n rfl rfl rfl
theorem wM_unmap_41 : WP P 110 41 lo (.int x :: r) w Q ↔ (if x < xi 0 then WP P 110 55 lo r w Q else WP P 110 44 lo r w Q) := W_if_lt rfl rfl rfl
theorem wM_unmap_44 : WP P 110 44 lo st w Q ↔ x_ga lo[0]? (fun v => WP P 110 45 lo (v :: st) w Q) := W_aload_n rfl rfl rfl
theorem wM_unmap_45 : WP P 110 45 lo (.ref mo :: r) (putR w mo S) Q ↔ WP P 110 48 lo (.ref (ra mo 0) :: r) (putR w mo S) Q := R_get rfl rfl (by decide) rfl
theorem wM_unmap_48 : WP P 110 48 lo st w Q ↔ x_gi lo[2]? (fun x => WP P 110 49 lo (.int x :: st) w Q) := W_iload_n rfl rfl rfl
theorem wM_unmap_49 : WP P 110 49 lo (.int x :: .ref (ra mo 0) :: r) (putR w mo S) Q ↔ ((0 ≤ x.toInt ∧ x.toInt < 128) ∧ WP P 110 50 lo (.int (xi (S 0 x.toInt.toNat)) :: r) (putR w mo S) Q) := R_iald rfl (by decide) rfl rfl rfl
theorem wM_unmap_50 : WP P 110 50 lo st w Q ↔ WP P 110 52 lo (.int (xi 6) :: st) w Q := W_bipush rfl rfl (by decide)
theorem wM_unmap_52 : WP P 110 52 lo (.int y :: .int x :: r) w Q ↔ (if x < y then WP P 110 55 lo r w Q else WP P 110 59 lo r w Q) := W_ic_ge rfl rfl rfl
theorem wM_unmap_55 : WP P 110 55 lo st w Q ↔ WP P 110 56 lo (.int (xi 1) :: st) w Q := W_iconst rfl rfl rfl
theorem wM_unmap_56 : WP P 110 56 lo st w Q ↔ WP P 110 61 lo st w Q := W_goto rfl rfl
theorem wM_unmap_59 : WP P 110 59 lo st w Q ↔ WP P 110 61 lo (.int (xi 7) :: st) w Q := W_bipush rfl rfl (by decide)
theorem wM_unmap_61 : WP P 110 61 lo [.int x] w Q ↔ Q (some (.int x)) w := WP_ret rfl rfl
theorem wM_unmap_62 : WP P 110 62 lo st w Q ↔ x_ga lo[0]? (fun v => WP P 110 63 lo (v :: st) w Q) := W_aload_n rfl rfl rfl
theorem wM_unmap_63 : WP P 110 63 lo (.ref mo :: r) (putR w mo S) Q ↔ WP P 110 66 lo (.ref (ra mo 0) :: r) (putR w mo S) Q := R_get rfl rfl (by decide) rfl
theorem wM_unmap_66 : WP P 110 66 lo st w Q ↔ x_gi lo[2]? (fun x => WP P 110 67 lo (.int x :: st) w Q) := W_iload_n rfl rfl rfl
theorem wM_unmap_67 : WP P 110 67 lo (.int x :: .ref (ra mo 0) :: r) (putR w mo S) Q ↔ ((0 ≤ x.toInt ∧ x.toInt < 128) ∧ WP P 110 68 lo (.int (xi (S 0 x.toInt.toNat)) :: r) (putR w mo S) Q) := R_iald rfl (by decide) rfl rfl rfl
theorem wM_unmap_68 : WP P 110 68 lo st w Q ↔ WP P 110 70 lo (.int (xi 6) :: st) w Q := W_bipush rfl rfl (by decide)
theorem wM_unmap_70 : WP P 110 70 lo (.int y :: .int x :: r) w Q ↔ (if x = y then WP P 110 73 lo r w Q else WP P 110 90 lo r w Q) := W_ic_ne rfl rfl rfl
theorem wM_unmap_73 : WP P 110 73 lo st w Q ↔ x_ga lo[0]? (fun v => WP P 110 74 lo (v :: st) w Q) := W_aload_n rfl rfl rfl
theorem wM_unmap_74 : WP P 110 74 lo (.ref mo :: r) (putR w mo S) Q ↔ WP P 110 77 lo (.ref (ra mo 25) :: r) (putR w mo S) Q := R_get rfl rfl (by decide) rfl
theorem wM_unmap_77 : WP P 110 77 lo st w Q ↔ x_ga lo[0]? (fun v => WP P 110 78 lo (v :: st) w Q) := W_aload_n rfl rfl rfl
theorem wM_unmap_78 : WP P 110 78 lo (.ref mo :: r) (putR w mo S) Q ↔ WP P 110 81 lo (.ref (ra mo 1) :: r) (putR w mo S) Q := R_get rfl rfl (by decide) rfl
theorem wM_unmap_81 : WP P 110 81 lo st w Q ↔ x_gi lo[2]? (fun x => WP P 110 82 lo (.int x :: st) w Q) := W_iload_n rfl rfl rfl
theorem wM_unmap_82 : WP P 110 82 lo (.int x :: .ref (ra mo 1) :: r) (putR w mo S) Q ↔ ((0 ≤ x.toInt ∧ x.toInt < 128) ∧ WP P 110 83 lo (.int (xi (S 1 x.toInt.toNat)) :: r) (putR w mo S) Q) := R_iald rfl (by decide) rfl rfl rfl
theorem wM_unmap_83 : WP P 110 83 lo st w Q ↔ WP P 110 84 lo (.int (xi 4) :: st) w Q := W_iconst rfl rfl rfl
theorem wM_unmap_84 : WP P 110 84 lo (.int y :: .int x :: r) w Q ↔ (¬ y = 0 ∧ WP P 110 85 lo (.int (x / y) :: r) w Q) := W_idiv rfl rfl
theorem wM_unmap_85 : WP P 110 85 lo st w Q ↔ WP P 110 86 lo (.int (xi (-1)) :: st) w Q := W_iconst rfl rfl rfl
theorem wM_unmap_86 : WP P 110 86 lo (.int (xi z) :: .int x :: .ref (ra mo 25) :: r) (putR w mo S) Q ↔ ((0 ≤ x.toInt ∧ x.toInt < 32) ∧ WP P 110 87 lo r (putR w mo (sset S 25 x.toInt.toNat z)) Q) := R_iast rfl (by decide) rfl rfl rfl
theorem wM_unmap_87 : WP P 110 87 lo st w Q ↔ WP P 110 97 lo st w Q := W_goto rfl rfl
theorem wM_unmap_90 : WP P 110 90 lo st w Q ↔ x_ga lo[0]? (fun v => WP P 110 91 lo (v :: st) w Q) := W_aload_n rfl rfl rfl
theorem wM_unmap_91 : WP P 110 91 lo (.ref mo :: r) (putR w mo S) Q ↔ WP P 110 94 lo (.ref (ra mo 7) :: r) (putR w mo S) Q := R_get rfl rfl (by decide) rfl
theorem wM_unmap_94 : WP P 110 94 lo st w Q ↔ x_gi lo[2]? (fun x => WP P 110 95 lo (.int x :: st) w Q) := W_iload_n rfl rfl rfl
theorem wM_unmap_95 : WP P 110 95 lo st w Q ↔ WP P 110 96 lo (.int (xi (-1)) :: st) w Q := W_iconst rfl rfl rfl
theorem wM_unmap_96 : WP P 110 96 lo (.int (xi z) :: .int x :: .ref (ra mo 7) :: r) (putR w mo S) Q ↔ ((0 ≤ x.toInt ∧ x.toInt < 128) ∧ WP P 110 97 lo r (putR w mo (sset S 7 x.toInt.toNat z)) Q) := R_iast rfl (by decide) rfl rfl rfl
theorem wM_unmap_97 : WP P 110 97 lo st w Q ↔ WP P 110 98 lo (.int (xi 0) :: st) w Q := W_iconst rfl rfl rfl
theorem wM_unmap_98 : WP P 110 98 lo [.int x] w Q ↔ Q (some (.int x)) w := WP_ret rfl rfl
-- 111 M_mapped
theorem wM_mapped_0 : WP P 111 0 lo st w Q ↔ x_ga lo[0]? (fun v => WP P 111 1 lo (v :: st) w Q) := W_aload_n rfl rfl rfl
theorem wM_mapped_1 : WP P 111 1 lo (.ref mo :: r) (putR w mo S) Q ↔ WP P 111 4 lo (.ref (ra mo 0) :: r) (putR w mo S) Q := R_get rfl rfl (by decide) rfl
theorem wM_mapped_4 : WP P 111 4 lo st w Q ↔ x_gi lo[1]? (fun x => WP P 111 5 lo (.int x :: st) w Q) := W_iload_n rfl rfl rfl
theorem wM_mapped_5 : WP P 111 5 lo (.int x :: .ref (ra mo 0) :: r) (putR w mo S) Q ↔ ((0 ≤ x.toInt ∧ x.toInt < 128) ∧ WP P 111 6 lo (.int (xi (S 0 x.toInt.toNat)) :: r) (putR w mo S) Q) := R_iald rfl (by decide) rfl rfl rfl
theorem wM_mapped_6 : WP P 111 6 lo st w Q ↔ WP P 111 8 lo (.int (xi 6) :: st) w Q := W_bipush rfl rfl (by decide)
theorem wM_mapped_8 : WP P 111 8 lo (.int y :: .int x :: r) w Q ↔ (if x = y then WP P 111 11 lo r w Q else WP P 111 36 lo r w Q) := W_ic_ne rfl rfl rfl
theorem wM_mapped_11 : WP P 111 11 lo st w Q ↔ x_ga lo[0]? (fun v => WP P 111 12 lo (v :: st) w Q) := W_aload_n rfl rfl rfl
theorem wM_mapped_12 : WP P 111 12 lo (.ref mo :: r) (putR w mo S) Q ↔ WP P 111 15 lo (.ref (ra mo 25) :: r) (putR w mo S) Q := R_get rfl rfl (by decide) rfl
theorem wM_mapped_15 : WP P 111 15 lo st w Q ↔ x_ga lo[0]? (fun v => WP P 111 16 lo (v :: st) w Q) := W_aload_n rfl rfl rfl
theorem wM_mapped_16 : WP P 111 16 lo (.ref mo :: r) (putR w mo S) Q ↔ WP P 111 19 lo (.ref (ra mo 1) :: r) (putR w mo S) Q := R_get rfl rfl (by decide) rfl
theorem wM_mapped_19 : WP P 111 19 lo st w Q ↔ x_gi lo[1]? (fun x => WP P 111 20 lo (.int x :: st) w Q) := W_iload_n rfl rfl rfl
theorem wM_mapped_20 : WP P 111 20 lo (.int x :: .ref (ra mo 1) :: r) (putR w mo S) Q ↔ ((0 ≤ x.toInt ∧ x.toInt < 128) ∧ WP P 111 21 lo (.int (xi (S 1 x.toInt.toNat)) :: r) (putR w mo S) Q) := R_iald rfl (by decide) rfl rfl rfl
theorem wM_mapped_21 : WP P 111 21 lo st w Q ↔ WP P 111 22 lo (.int (xi 4) :: st) w Q := W_iconst rfl rfl rfl
theorem wM_mapped_22 : WP P 111 22 lo (.int y :: .int x :: r) w Q ↔ (¬ y = 0 ∧ WP P 111 23 lo (.int (x / y) :: r) w Q) := W_idiv rfl rfl
theorem wM_mapped_23 : WP P 111 23 lo (.int x :: .ref (ra mo 25) :: r) (putR w mo S) Q ↔ ((0 ≤ x.toInt ∧ x.toInt < 32) ∧ WP P 111 24 lo (.int (xi (S 25 x.toInt.toNat)) :: r) (putR w mo S) Q) := R_iald rfl (by decide) rfl rfl rfl
theorem wM_mapped_24 : WP P 111 24 lo st w Q ↔ WP P 111 25 lo (.int (xi (-1)) :: st) w Q := W_iconst rfl rfl rfl
theorem wM_mapped_25 : WP P 111 25 lo (.int y :: .int x :: r) w Q ↔ (if x = y then WP P 111 32 lo r w Q else WP P 111 28 lo r w Q) := W_ic_eq rfl rfl rfl
theorem wM_mapped_28 : WP P 111 28 lo st w Q ↔ WP P 111 29 lo (.int (xi 1) :: st) w Q := W_iconst rfl rfl rfl
theorem wM_mapped_29 : WP P 111 29 lo st w Q ↔ WP P 111 62 lo st w Q := W_goto rfl rfl
theorem wM_mapped_32 : WP P 111 32 lo st w Q ↔ WP P 111 33 lo (.int (xi 0) :: st) w Q := W_iconst rfl rfl rfl
theorem wM_mapped_33 : WP P 111 33 lo st w Q ↔ WP P 111 62 lo st w Q := W_goto rfl rfl
theorem wM_mapped_36 : WP P 111 36 lo st w Q ↔ x_ga lo[0]? (fun v => WP P 111 37 lo (v :: st) w Q) := W_aload_n rfl rfl rfl
theorem wM_mapped_37 : WP P 111 37 lo (.ref mo :: r) (putR w mo S) Q ↔ WP P 111 40 lo (.ref (ra mo 0) :: r) (putR w mo S) Q := R_get rfl rfl (by decide) rfl
theorem wM_mapped_40 : WP P 111 40 lo st w Q ↔ x_gi lo[1]? (fun x => WP P 111 41 lo (.int x :: st) w Q) := W_iload_n rfl rfl rfl
theorem wM_mapped_41 : WP P 111 41 lo (.int x :: .ref (ra mo 0) :: r) (putR w mo S) Q ↔ ((0 ≤ x.toInt ∧ x.toInt < 128) ∧ WP P 111 42 lo (.int (xi (S 0 x.toInt.toNat)) :: r) (putR w mo S) Q) := R_iald rfl (by decide) rfl rfl rfl
theorem wM_mapped_42 : WP P 111 42 lo st w Q ↔ WP P 111 44 lo (.int (xi 7) :: st) w Q := W_bipush rfl rfl (by decide)
theorem wM_mapped_44 : WP P 111 44 lo (.int y :: .int x :: r) w Q ↔ (if x = y then WP P 111 47 lo r w Q else WP P 111 61 lo r w Q) := W_ic_ne rfl rfl rfl
theorem wM_mapped_47 : WP P 111 47 lo st w Q ↔ x_ga lo[0]? (fun v => WP P 111 48 lo (v :: st) w Q) := W_aload_n rfl rfl rfl
theorem wM_mapped_48 : WP P 111 48 lo (.ref mo :: r) (putR w mo S) Q ↔ WP P 111 51 lo (.ref (ra mo 7) :: r) (putR w mo S) Q := R_get rfl rfl (by decide) rfl
theorem wM_mapped_51 : WP P 111 51 lo st w Q ↔ x_gi lo[1]? (fun x => WP P 111 52 lo (.int x :: st) w Q) := W_iload_n rfl rfl rfl
theorem wM_mapped_52 : WP P 111 52 lo (.int x :: .ref (ra mo 7) :: r) (putR w mo S) Q ↔ ((0 ≤ x.toInt ∧ x.toInt < 128) ∧ WP P 111 53 lo (.int (xi (S 7 x.toInt.toNat)) :: r) (putR w mo S) Q) := R_iald rfl (by decide) rfl rfl rfl
theorem wM_mapped_53 : WP P 111 53 lo st w Q ↔ WP P 111 54 lo (.int (xi (-1)) :: st) w Q := W_iconst rfl rfl rfl
theorem wM_mapped_54 : WP P 111 54 lo (.int y :: .int x :: r) w Q ↔ (if x = y then WP P 111 61 lo r w Q else WP P 111 57 lo r w Q) := W_ic_eq rfl rfl rfl
theorem wM_mapped_57 : WP P 111 57 lo st w Q ↔ WP P 111 58 lo (.int (xi 1) :: st) w Q := W_iconst rfl rfl rfl
theorem wM_mapped_58 : WP P 111 58 lo st w Q ↔ WP P 111 62 lo st w Q := W_goto rfl rfl
theorem wM_mapped_61 : WP P 111 61 lo st w Q ↔ WP P 111 62 lo (.int (xi 0) :: st) w Q := W_iconst rfl rfl rfl
theorem wM_mapped_62 (h : x = 0 ∨ x = 1) : WP P 111 62 lo [.int x] w Q ↔ Q (some (.int x)) w := WP_ret rfl (if_pos (Or.inr ⟨rfl, h⟩))
-- 112 M_bind
theorem wM_bind_0 : WP P 112 0 lo st w Q ↔ x_ga lo[0]? (fun v => WP P 112 1 lo (v :: st) w Q) := W_aload_n rfl rfl rfl
theorem wM_bind_1 (hr : r.length ≤ 8) (hc : ([] : List Value).all x_cat1 = true) (hc2 : r.all x_cat1 = true) (k : WP P 81 0 [some (.ref mo), none, none, none] [] (putR w mo S) (fun v w1 => WP P 112 4 lo (v.toList ++ r) w1 Q)) : WP P 112 1 lo (.ref mo :: r) (putR w mo S) Q := K_virt (as := []) rfl rfl rfl rfl (by decide) (by decide) rfl putR_tgM hr hc hc2 k
theorem wM_bind_4 : WP P 112 4 lo (.int x :: r) w Q ↔ (if x < xi 0 then WP P 112 7 lo r w Q else WP P 112 10 lo r w Q) := W_if_ge rfl rfl rfl
theorem wM_bind_7 : WP P 112 7 lo st w Q ↔ WP P 112 9 lo (.int (xi 8) :: st) w Q := W_bipush rfl rfl (by decide)
theorem wM_bind_9 : WP P 112 9 lo [.int x] w Q ↔ Q (some (.int x)) w := WP_ret rfl rfl
theorem wM_bind_10 : WP P 112 10 lo st w Q ↔ x_gi lo[1]? (fun x => WP P 112 11 lo (.int x :: st) w Q) := W_iload_n rfl rfl rfl
theorem wM_bind_11 : WP P 112 11 lo (.int x :: r) w Q ↔ (if x < xi 0 then WP P 112 19 lo r w Q else WP P 112 14 lo r w Q) := W_if_lt rfl rfl rfl
theorem wM_bind_14 : WP P 112 14 lo st w Q ↔ x_gi lo[1]? (fun x => WP P 112 15 lo (.int x :: st) w Q) := W_iload_n rfl rfl rfl
theorem wM_bind_15 : WP P 112 15 lo st w Q ↔ WP P 112 16 lo (.int (xi 3) :: st) w Q := W_iconst rfl rfl rfl
theorem wM_bind_16 : WP P 112 16 lo (.int y :: .int x :: r) w Q ↔ (if y < x then WP P 112 19 lo r w Q else WP P 112 21 lo r w Q) := W_ic_le rfl rfl rfl
theorem wM_bind_19 : WP P 112 19 lo st w Q ↔ WP P 112 20 lo (.int (xi 4) :: st) w Q := W_iconst rfl rfl rfl
theorem wM_bind_20 : WP P 112 20 lo [.int x] w Q ↔ Q (some (.int x)) w := WP_ret rfl rfl
theorem wM_bind_21 : WP P 112 21 lo st w Q ↔ x_ga lo[0]? (fun v => WP P 112 22 lo (v :: st) w Q) := W_aload_n rfl rfl rfl
theorem wM_bind_22 : WP P 112 22 lo st w Q ↔ x_gi lo[2]? (fun x => WP P 112 23 lo (.int x :: st) w Q) := W_iload_n rfl rfl rfl
theorem wM_bind_23 : WP P 112 23 lo st w Q ↔ WP P 112 24 lo (.int (xi 4) :: st) w Q := W_iconst rfl rfl rfl
theorem wM_bind_24 {u1 u2 : Value} (hr : r.length ≤ 8) (hc : ([u1, u2] : List Value).all x_cat1 = true) (hc2 : r.all x_cat1 = true) (k : WP P 82 0 [some (.ref mo), some u1, some u2, none] [] (putR w mo S) (fun v w1 => WP P 112 27 lo (v.toList ++ r) w1 Q)) : WP P 112 24 lo (u2 :: u1 :: .ref mo :: r) (putR w mo S) Q := K_virt (as := [u1, u2]) rfl rfl rfl rfl (by decide) (by decide) rfl putR_tgM hr hc hc2 k
theorem wM_bind_27 : WP P 112 27 lo (.int x :: r) w Q ↔ (3 < lo.length ∧ WP P 112 28 (lo.set 3 (some (.int x))) r w Q) := W_istore_n rfl rfl rfl
theorem wM_bind_28 : WP P 112 28 lo st w Q ↔ x_gi lo[2]? (fun x => WP P 112 29 lo (.int x :: st) w Q) := W_iload_n rfl rfl rfl
theorem wM_bind_29 : WP P 112 29 lo st w Q ↔ WP P 112 30 lo (.int (xi (-1)) :: st) w Q := W_iconst rfl rfl rfl
theorem wM_bind_30 : WP P 112 30 lo (.int y :: .int x :: r) w Q ↔ (if x = y then WP P 112 39 lo r w Q else WP P 112 33 lo r w Q) := W_ic_eq rfl rfl rfl
theorem wM_bind_33 : WP P 112 33 lo st w Q ↔ x_gi lo[3]? (fun x => WP P 112 34 lo (.int x :: st) w Q) := W_iload_n rfl rfl rfl
theorem wM_bind_34 : WP P 112 34 lo (.int x :: r) w Q ↔ (if x < xi 0 then WP P 112 37 lo r w Q else WP P 112 39 lo r w Q) := W_if_ge rfl rfl rfl
theorem wM_bind_37 : WP P 112 37 lo st w Q ↔ WP P 112 38 lo (.int (xi 1) :: st) w Q := W_iconst rfl rfl rfl
theorem wM_bind_38 : WP P 112 38 lo [.int x] w Q ↔ Q (some (.int x)) w := WP_ret rfl rfl
theorem wM_bind_39 : WP P 112 39 lo st w Q ↔ x_ga lo[0]? (fun v => WP P 112 40 lo (v :: st) w Q) := W_aload_n rfl rfl rfl
theorem wM_bind_40 : WP P 112 40 lo (.ref mo :: r) (putR w mo S) Q ↔ WP P 112 43 lo (.ref (ra mo 27) :: r) (putR w mo S) Q := R_get rfl rfl (by decide) rfl
theorem wM_bind_43 : WP P 112 43 lo st w Q ↔ x_gi lo[1]? (fun x => WP P 112 44 lo (.int x :: st) w Q) := W_iload_n rfl rfl rfl
theorem wM_bind_44 : WP P 112 44 lo st w Q ↔ x_gi lo[2]? (fun x => WP P 112 45 lo (.int x :: st) w Q) := W_iload_n rfl rfl rfl
theorem wM_bind_45 : WP P 112 45 lo st w Q ↔ WP P 112 46 lo (.int (xi (-1)) :: st) w Q := W_iconst rfl rfl rfl
theorem wM_bind_46 : WP P 112 46 lo (.int y :: .int x :: r) w Q ↔ (if x = y then WP P 112 49 lo r w Q else WP P 112 53 lo r w Q) := W_ic_ne rfl rfl rfl
theorem wM_bind_49 : WP P 112 49 lo st w Q ↔ WP P 112 50 lo (.int (xi (-1)) :: st) w Q := W_iconst rfl rfl rfl
theorem wM_bind_50 : WP P 112 50 lo st w Q ↔ WP P 112 59 lo st w Q := W_goto rfl rfl
theorem wM_bind_53 : WP P 112 53 lo st w Q ↔ x_ga lo[0]? (fun v => WP P 112 54 lo (v :: st) w Q) := W_aload_n rfl rfl rfl
theorem wM_bind_54 : WP P 112 54 lo (.ref mo :: r) (putR w mo S) Q ↔ WP P 112 57 lo (.ref (ra mo 1) :: r) (putR w mo S) Q := R_get rfl rfl (by decide) rfl
theorem wM_bind_57 : WP P 112 57 lo st w Q ↔ x_gi lo[3]? (fun x => WP P 112 58 lo (.int x :: st) w Q) := W_iload_n rfl rfl rfl
theorem wM_bind_58 : WP P 112 58 lo (.int x :: .ref (ra mo 1) :: r) (putR w mo S) Q ↔ ((0 ≤ x.toInt ∧ x.toInt < 128) ∧ WP P 112 59 lo (.int (xi (S 1 x.toInt.toNat)) :: r) (putR w mo S) Q) := R_iald rfl (by decide) rfl rfl rfl
theorem wM_bind_59 : WP P 112 59 lo (.int (xi z) :: .int x :: .ref (ra mo 27) :: r) (putR w mo S) Q ↔ ((0 ≤ x.toInt ∧ x.toInt < 4) ∧ WP P 112 60 lo r (putR w mo (sset S 27 x.toInt.toNat z)) Q) := R_iast rfl (by decide) rfl rfl rfl
theorem wM_bind_60 : WP P 112 60 lo st w Q ↔ WP P 112 61 lo (.int (xi 0) :: st) w Q := W_iconst rfl rfl rfl
theorem wM_bind_61 : WP P 112 61 lo [.int x] w Q ↔ Q (some (.int x)) w := WP_ret rfl rfl
-- 113 M_interrupt
theorem wM_interrupt_0 : WP P 113 0 lo st w Q ↔ x_gi lo[1]? (fun x => WP P 113 1 lo (.int x :: st) w Q) := W_iload_n rfl rfl rfl
theorem wM_interrupt_1 : WP P 113 1 lo (.int x :: r) w Q ↔ (if x < xi 0 then WP P 113 19 lo r w Q else WP P 113 4 lo r w Q) := W_if_lt rfl rfl rfl
theorem wM_interrupt_4 : WP P 113 4 lo st w Q ↔ x_gi lo[1]? (fun x => WP P 113 5 lo (.int x :: st) w Q) := W_iload_n rfl rfl rfl
theorem wM_interrupt_5 : WP P 113 5 lo st w Q ↔ WP P 113 6 lo (.int (xi 3) :: st) w Q := W_iconst rfl rfl rfl
theorem wM_interrupt_6 : WP P 113 6 lo (.int y :: .int x :: r) w Q ↔ (if y < x then WP P 113 19 lo r w Q else WP P 113 9 lo r w Q) := W_ic_gt rfl rfl rfl
theorem wM_interrupt_9 : WP P 113 9 lo st w Q ↔ x_ga lo[0]? (fun v => WP P 113 10 lo (v :: st) w Q) := W_aload_n rfl rfl rfl
theorem wM_interrupt_10 : WP P 113 10 lo (.ref mo :: r) (putR w mo S) Q ↔ WP P 113 13 lo (.ref (ra mo 27) :: r) (putR w mo S) Q := R_get rfl rfl (by decide) rfl
theorem wM_interrupt_13 : WP P 113 13 lo st w Q ↔ x_gi lo[1]? (fun x => WP P 113 14 lo (.int x :: st) w Q) := W_iload_n rfl rfl rfl
theorem wM_interrupt_14 : WP P 113 14 lo (.int x :: .ref (ra mo 27) :: r) (putR w mo S) Q ↔ ((0 ≤ x.toInt ∧ x.toInt < 4) ∧ WP P 113 15 lo (.int (xi (S 27 x.toInt.toNat)) :: r) (putR w mo S) Q) := R_iald rfl (by decide) rfl rfl rfl
theorem wM_interrupt_15 : WP P 113 15 lo st w Q ↔ WP P 113 16 lo (.int (xi (-1)) :: st) w Q := W_iconst rfl rfl rfl
theorem wM_interrupt_16 : WP P 113 16 lo (.int y :: .int x :: r) w Q ↔ (if x = y then WP P 113 19 lo r w Q else WP P 113 21 lo r w Q) := W_ic_ne rfl rfl rfl
theorem wM_interrupt_19 : WP P 113 19 lo st w Q ↔ WP P 113 20 lo (.int (xi 0) :: st) w Q := W_iconst rfl rfl rfl
theorem wM_interrupt_20 : WP P 113 20 lo [.int x] w Q ↔ Q (some (.int x)) w := WP_ret rfl rfl
theorem wM_interrupt_21 : WP P 113 21 lo st w Q ↔ x_ga lo[0]? (fun v => WP P 113 22 lo (v :: st) w Q) := W_aload_n rfl rfl rfl
theorem wM_interrupt_22 : WP P 113 22 lo st w Q ↔ x_ga lo[0]? (fun v => WP P 113 23 lo (v :: st) w Q) := W_aload_n rfl rfl rfl
theorem wM_interrupt_23 : WP P 113 23 lo (.ref mo :: r) (putR w mo S) Q ↔ WP P 113 26 lo (.ref (ra mo 27) :: r) (putR w mo S) Q := R_get rfl rfl (by decide) rfl
theorem wM_interrupt_26 : WP P 113 26 lo st w Q ↔ x_gi lo[1]? (fun x => WP P 113 27 lo (.int x :: st) w Q) := W_iload_n rfl rfl rfl
theorem wM_interrupt_27 : WP P 113 27 lo (.int x :: .ref (ra mo 27) :: r) (putR w mo S) Q ↔ ((0 ≤ x.toInt ∧ x.toInt < 4) ∧ WP P 113 28 lo (.int (xi (S 27 x.toInt.toNat)) :: r) (putR w mo S) Q) := R_iald rfl (by decide) rfl rfl rfl
theorem wM_interrupt_28 : WP P 113 28 lo st w Q ↔ WP P 113 29 lo (.int (xi 1) :: st) w Q := W_iconst rfl rfl rfl
theorem wM_interrupt_29 : WP P 113 29 lo st w Q ↔ x_gi lo[1]? (fun x => WP P 113 30 lo (.int x :: st) w Q) := W_iload_n rfl rfl rfl
theorem wM_interrupt_30 : WP P 113 30 lo (.int y :: .int x :: r) w Q ↔ WP P 113 31 lo (.int (x <<< (y &&& 31)) :: r) w Q := W_ishl rfl rfl
theorem wM_interrupt_31 {u1 u2 : Value} (hr : r.length ≤ 8) (hc : ([u1, u2] : List Value).all x_cat1 = true) (hc2 : r.all x_cat1 = true) (k : WP P 103 0 [some (.ref mo), some u1, some u2, none] [] (putR w mo S) (fun v w1 => WP P 113 34 lo (v.toList ++ r) w1 Q)) : WP P 113 31 lo (u2 :: u1 :: .ref mo :: r) (putR w mo S) Q := K_virt (as := [u1, u2]) rfl rfl rfl rfl (by decide) (by decide) rfl putR_tgM hr hc hc2 k
theorem wM_interrupt_34 : WP P 113 34 lo st w Q ↔ WP P 113 35 lo (.int (xi 1) :: st) w Q := W_iconst rfl rfl rfl
theorem wM_interrupt_35 : WP P 113 35 lo [.int x] w Q ↔ Q (some (.int x)) w := WP_ret rfl rfl
-- 114 M_tick
theorem wM_tick_0 : WP P 114 0 lo st w Q ↔ x_ga lo[0]? (fun v => WP P 114 1 lo (v :: st) w Q) := W_aload_n rfl rfl rfl
theorem wM_tick_1 (hr : r.length ≤ 8) (hc : ([] : List Value).all x_cat1 = true) (hc2 : r.all x_cat1 = true) (k : WP P 81 0 [some (.ref mo), none, none, none] [] (putR w mo S) (fun v w1 => WP P 114 4 lo (v.toList ++ r) w1 Q)) : WP P 114 1 lo (.ref mo :: r) (putR w mo S) Q := K_virt (as := []) rfl rfl rfl rfl (by decide) (by decide) rfl putR_tgM hr hc hc2 k
theorem wM_tick_4 : WP P 114 4 lo (.int x :: r) w Q ↔ (1 < lo.length ∧ WP P 114 5 (lo.set 1 (some (.int x))) r w Q) := W_istore_n rfl rfl rfl
theorem wM_tick_5 : WP P 114 5 lo st w Q ↔ x_gi lo[1]? (fun x => WP P 114 6 lo (.int x :: st) w Q) := W_iload_n rfl rfl rfl
theorem wM_tick_6 : WP P 114 6 lo (.int x :: r) w Q ↔ (if x < xi 0 then WP P 114 9 lo r w Q else WP P 114 11 lo r w Q) := W_if_ge rfl rfl rfl
theorem wM_tick_9 : WP P 114 9 lo st w Q ↔ WP P 114 10 lo (.int (xi (-1)) :: st) w Q := W_iconst rfl rfl rfl
theorem wM_tick_10 : WP P 114 10 lo [.int x] w Q ↔ Q (some (.int x)) w := WP_ret rfl rfl
theorem wM_tick_11 : WP P 114 11 lo st w Q ↔ x_ga lo[0]? (fun v => WP P 114 12 lo (v :: st) w Q) := W_aload_n rfl rfl rfl
theorem wM_tick_12 : WP P 114 12 lo (.ref mo :: r) (putR w mo S) Q ↔ WP P 114 15 lo (.ref (ra mo 14) :: r) (putR w mo S) Q := R_get rfl rfl (by decide) rfl
theorem wM_tick_15 : WP P 114 15 lo st w Q ↔ x_gi lo[1]? (fun x => WP P 114 16 lo (.int x :: st) w Q) := W_iload_n rfl rfl rfl
theorem wM_tick_16 : WP P 114 16 lo (v1 :: v2 :: r) w Q ↔ ((x_cat1 v1 = true ∧ x_cat1 v2 = true) ∧ WP P 114 17 lo (v1 :: v2 :: v1 :: v2 :: r) w Q) := W_dup2 rfl rfl
theorem wM_tick_17 : WP P 114 17 lo (.int x :: .ref (ra mo 14) :: r) (putR w mo S) Q ↔ ((0 ≤ x.toInt ∧ x.toInt < 16) ∧ WP P 114 18 lo (.int (xi (S 14 x.toInt.toNat)) :: r) (putR w mo S) Q) := R_iald rfl (by decide) rfl rfl rfl
theorem wM_tick_18 : WP P 114 18 lo st w Q ↔ WP P 114 19 lo (.int (xi 1) :: st) w Q := W_iconst rfl rfl rfl
theorem wM_tick_19 : WP P 114 19 lo (.int y :: .int x :: r) w Q ↔ WP P 114 20 lo (.int (x - y) :: r) w Q := W_isub rfl rfl
theorem wM_tick_20 : WP P 114 20 lo (.int (xi z) :: .int x :: .ref (ra mo 14) :: r) (putR w mo S) Q ↔ ((0 ≤ x.toInt ∧ x.toInt < 16) ∧ WP P 114 21 lo r (putR w mo (sset S 14 x.toInt.toNat z)) Q) := R_iast rfl (by decide) rfl rfl rfl
theorem wM_tick_21 : WP P 114 21 lo st w Q ↔ x_ga lo[0]? (fun v => WP P 114 22 lo (v :: st) w Q) := W_aload_n rfl rfl rfl
theorem wM_tick_22 : WP P 114 22 lo (.ref mo :: r) (putR w mo S) Q ↔ WP P 114 25 lo (.ref (ra mo 14) :: r) (putR w mo S) Q := R_get rfl rfl (by decide) rfl
theorem wM_tick_25 : WP P 114 25 lo st w Q ↔ x_gi lo[1]? (fun x => WP P 114 26 lo (.int x :: st) w Q) := W_iload_n rfl rfl rfl
theorem wM_tick_26 : WP P 114 26 lo (.int x :: .ref (ra mo 14) :: r) (putR w mo S) Q ↔ ((0 ≤ x.toInt ∧ x.toInt < 16) ∧ WP P 114 27 lo (.int (xi (S 14 x.toInt.toNat)) :: r) (putR w mo S) Q) := R_iald rfl (by decide) rfl rfl rfl
theorem wM_tick_27 : WP P 114 27 lo (.int x :: r) w Q ↔ (if x = xi 0 then WP P 114 30 lo r w Q else WP P 114 35 lo r w Q) := W_if_ne rfl rfl rfl
theorem wM_tick_30 : WP P 114 30 lo st w Q ↔ x_ga lo[0]? (fun v => WP P 114 31 lo (v :: st) w Q) := W_aload_n rfl rfl rfl
theorem wM_tick_31 : WP P 114 31 lo st w Q ↔ x_gi lo[1]? (fun x => WP P 114 32 lo (.int x :: st) w Q) := W_iload_n rfl rfl rfl
theorem wM_tick_32 {u1 : Value} (hr : r.length ≤ 8) (hc : ([u1] : List Value).all x_cat1 = true) (hc2 : r.all x_cat1 = true) (k : WP P 79 0 [some (.ref mo), some u1] [] (putR w mo S) (fun v w1 => WP P 114 35 lo (v.toList ++ r) w1 Q)) : WP P 114 32 lo (u1 :: .ref mo :: r) (putR w mo S) Q := K_virt (as := [u1]) rfl rfl rfl rfl (by decide) (by decide) rfl putR_tgM hr hc hc2 k
theorem wM_tick_35 : WP P 114 35 lo st w Q ↔ x_ga lo[0]? (fun v => WP P 114 36 lo (v :: st) w Q) := W_aload_n rfl rfl rfl
theorem wM_tick_36 (hr : r.length ≤ 8) (hc : ([] : List Value).all x_cat1 = true) (hc2 : r.all x_cat1 = true) (k : WP P 115 0 [some (.ref mo), none] [] (putR w mo S) (fun v w1 => WP P 114 39 lo (v.toList ++ r) w1 Q)) : WP P 114 36 lo (.ref mo :: r) (putR w mo S) Q := K_virt (as := []) rfl rfl rfl rfl (by decide) (by decide) rfl putR_tgM hr hc hc2 k
theorem wM_tick_39 : WP P 114 39 lo [.int x] w Q ↔ Q (some (.int x)) w := WP_ret rfl rfl
-- 115 M_current
theorem wM_current_0 : WP P 115 0 lo st w Q ↔ x_ga lo[0]? (fun v => WP P 115 1 lo (v :: st) w Q) := W_aload_n rfl rfl rfl
theorem wM_current_1 (hr : r.length ≤ 8) (hc : ([] : List Value).all x_cat1 = true) (hc2 : r.all x_cat1 = true) (k : WP P 81 0 [some (.ref mo), none, none, none] [] (putR w mo S) (fun v w1 => WP P 115 4 lo (v.toList ++ r) w1 Q)) : WP P 115 1 lo (.ref mo :: r) (putR w mo S) Q := K_virt (as := []) rfl rfl rfl rfl (by decide) (by decide) rfl putR_tgM hr hc hc2 k
theorem wM_current_4 : WP P 115 4 lo (.int x :: r) w Q ↔ (1 < lo.length ∧ WP P 115 5 (lo.set 1 (some (.int x))) r w Q) := W_istore_n rfl rfl rfl
theorem wM_current_5 : WP P 115 5 lo st w Q ↔ x_gi lo[1]? (fun x => WP P 115 6 lo (.int x :: st) w Q) := W_iload_n rfl rfl rfl
theorem wM_current_6 : WP P 115 6 lo (.int x :: r) w Q ↔ (if x < xi 0 then WP P 115 9 lo r w Q else WP P 115 13 lo r w Q) := W_if_ge rfl rfl rfl
theorem wM_current_9 : WP P 115 9 lo st w Q ↔ WP P 115 10 lo (.int (xi (-1)) :: st) w Q := W_iconst rfl rfl rfl
theorem wM_current_10 : WP P 115 10 lo st w Q ↔ WP P 115 17 lo st w Q := W_goto rfl rfl
theorem wM_current_13 : WP P 115 13 lo st w Q ↔ WP P 115 15 lo (.int (xi 8) :: st) w Q := W_bipush rfl rfl (by decide)
theorem wM_current_15 : WP P 115 15 lo st w Q ↔ x_gi lo[1]? (fun x => WP P 115 16 lo (.int x :: st) w Q) := W_iload_n rfl rfl rfl
theorem wM_current_16 : WP P 115 16 lo (.int y :: .int x :: r) w Q ↔ WP P 115 17 lo (.int (x * y) :: r) w Q := W_imul rfl rfl
theorem wM_current_17 : WP P 115 17 lo [.int x] w Q ↔ Q (some (.int x)) w := WP_ret rfl rfl
-- 116 M_slot
theorem wM_slot_0 : WP P 116 0 lo st w Q ↔ x_ga lo[0]? (fun v => WP P 116 1 lo (v :: st) w Q) := W_aload_n rfl rfl rfl
theorem wM_slot_1 : WP P 116 1 lo st w Q ↔ WP P 116 2 lo (.int (xi 1) :: st) w Q := W_iconst rfl rfl rfl
theorem wM_slot_2 : WP P 116 2 lo st w Q ↔ x_gi lo[1]? (fun x => WP P 116 3 lo (.int x :: st) w Q) := W_iload_n rfl rfl rfl
theorem wM_slot_3 {u1 u2 : Value} (hr : r.length ≤ 8) (hc : ([u1, u2] : List Value).all x_cat1 = true) (hc2 : r.all x_cat1 = true) (k : WP P 108 0 [some (.ref mo), some u1, some u2] [] (putR w mo S) (fun v w1 => WP P 116 6 lo (v.toList ++ r) w1 Q)) : WP P 116 3 lo (u2 :: u1 :: .ref mo :: r) (putR w mo S) Q := K_virt (as := [u1, u2]) rfl rfl rfl rfl (by decide) (by decide) rfl putR_tgM hr hc hc2 k
theorem wM_slot_6 : WP P 116 6 lo (.int x :: r) w Q ↔ (if x = xi 0 then WP P 116 30 lo r w Q else WP P 116 9 lo r w Q) := W_if_eq rfl rfl rfl
theorem wM_slot_9 : WP P 116 9 lo st w Q ↔ x_gi lo[2]? (fun x => WP P 116 10 lo (.int x :: st) w Q) := W_iload_n rfl rfl rfl
theorem wM_slot_10 : WP P 116 10 lo (.int x :: r) w Q ↔ (if x < xi 0 then WP P 116 30 lo r w Q else WP P 116 13 lo r w Q) := W_if_lt rfl rfl rfl
theorem wM_slot_13 : WP P 116 13 lo st w Q ↔ x_gi lo[2]? (fun x => WP P 116 14 lo (.int x :: st) w Q) := W_iload_n rfl rfl rfl
theorem wM_slot_14 : WP P 116 14 lo st w Q ↔ WP P 116 16 lo (.int (xi 15) :: st) w Q := W_bipush rfl rfl (by decide)
theorem wM_slot_16 : WP P 116 16 lo (.int y :: .int x :: r) w Q ↔ (if y < x then WP P 116 30 lo r w Q else WP P 116 19 lo r w Q) := W_ic_gt rfl rfl rfl
theorem wM_slot_19 : WP P 116 19 lo st w Q ↔ x_ga lo[0]? (fun v => WP P 116 20 lo (v :: st) w Q) := W_aload_n rfl rfl rfl
theorem wM_slot_20 : WP P 116 20 lo (.ref mo :: r) (putR w mo S) Q ↔ WP P 116 23 lo (.ref (ra mo 0) :: r) (putR w mo S) Q := R_get rfl rfl (by decide) rfl
theorem wM_slot_23 : WP P 116 23 lo st w Q ↔ x_gi lo[1]? (fun x => WP P 116 24 lo (.int x :: st) w Q) := W_iload_n rfl rfl rfl
theorem wM_slot_24 : WP P 116 24 lo st w Q ↔ x_gi lo[2]? (fun x => WP P 116 25 lo (.int x :: st) w Q) := W_iload_n rfl rfl rfl
theorem wM_slot_25 : WP P 116 25 lo (.int y :: .int x :: r) w Q ↔ WP P 116 26 lo (.int (x + y) :: r) w Q := W_iadd rfl rfl
theorem wM_slot_26 : WP P 116 26 lo (.int x :: .ref (ra mo 0) :: r) (putR w mo S) Q ↔ ((0 ≤ x.toInt ∧ x.toInt < 128) ∧ WP P 116 27 lo (.int (xi (S 0 x.toInt.toNat)) :: r) (putR w mo S) Q) := R_iald rfl (by decide) rfl rfl rfl
theorem wM_slot_27 : WP P 116 27 lo (.int x :: r) w Q ↔ (if x < xi 0 then WP P 116 30 lo r w Q else WP P 116 32 lo r w Q) := W_if_ge rfl rfl rfl
theorem wM_slot_30 : WP P 116 30 lo st w Q ↔ WP P 116 31 lo (.int (xi (-1)) :: st) w Q := W_iconst rfl rfl rfl
theorem wM_slot_31 : WP P 116 31 lo [.int x] w Q ↔ Q (some (.int x)) w := WP_ret rfl rfl
theorem wM_slot_32 : WP P 116 32 lo st w Q ↔ x_gi lo[1]? (fun x => WP P 116 33 lo (.int x :: st) w Q) := W_iload_n rfl rfl rfl
theorem wM_slot_33 : WP P 116 33 lo st w Q ↔ x_gi lo[2]? (fun x => WP P 116 34 lo (.int x :: st) w Q) := W_iload_n rfl rfl rfl
theorem wM_slot_34 : WP P 116 34 lo (.int y :: .int x :: r) w Q ↔ WP P 116 35 lo (.int (x + y) :: r) w Q := W_iadd rfl rfl
theorem wM_slot_35 : WP P 116 35 lo (.int x :: r) w Q ↔ (4 < lo.length ∧ WP P 116 37 (lo.set 4 (some (.int x))) r w Q) := W_istore rfl rfl
theorem wM_slot_37 : WP P 116 37 lo st w Q ↔ x_gi lo[3]? (fun x => WP P 116 38 lo (.int x :: st) w Q) := W_iload_n rfl rfl rfl
-- tsw wM_slot_38
theorem wM_slot_84 : WP P 116 84 lo st w Q ↔ x_ga lo[0]? (fun v => WP P 116 85 lo (v :: st) w Q) := W_aload_n rfl rfl rfl
theorem wM_slot_85 : WP P 116 85 lo (.ref mo :: r) (putR w mo S) Q ↔ WP P 116 88 lo (.ref (ra mo 0) :: r) (putR w mo S) Q := R_get rfl rfl (by decide) rfl
theorem wM_slot_88 : WP P 116 88 lo st w Q ↔ x_gi lo[4]? (fun x => WP P 116 90 lo (.int x :: st) w Q) := W_iload rfl rfl
theorem wM_slot_90 : WP P 116 90 lo (.int x :: .ref (ra mo 0) :: r) (putR w mo S) Q ↔ ((0 ≤ x.toInt ∧ x.toInt < 128) ∧ WP P 116 91 lo (.int (xi (S 0 x.toInt.toNat)) :: r) (putR w mo S) Q) := R_iald rfl (by decide) rfl rfl rfl
theorem wM_slot_91 : WP P 116 91 lo [.int x] w Q ↔ Q (some (.int x)) w := WP_ret rfl rfl
theorem wM_slot_92 : WP P 116 92 lo st w Q ↔ x_ga lo[0]? (fun v => WP P 116 93 lo (v :: st) w Q) := W_aload_n rfl rfl rfl
theorem wM_slot_93 : WP P 116 93 lo (.ref mo :: r) (putR w mo S) Q ↔ WP P 116 96 lo (.ref (ra mo 1) :: r) (putR w mo S) Q := R_get rfl rfl (by decide) rfl
theorem wM_slot_96 : WP P 116 96 lo st w Q ↔ x_gi lo[4]? (fun x => WP P 116 98 lo (.int x :: st) w Q) := W_iload rfl rfl
theorem wM_slot_98 : WP P 116 98 lo (.int x :: .ref (ra mo 1) :: r) (putR w mo S) Q ↔ ((0 ≤ x.toInt ∧ x.toInt < 128) ∧ WP P 116 99 lo (.int (xi (S 1 x.toInt.toNat)) :: r) (putR w mo S) Q) := R_iald rfl (by decide) rfl rfl rfl
theorem wM_slot_99 : WP P 116 99 lo [.int x] w Q ↔ Q (some (.int x)) w := WP_ret rfl rfl
theorem wM_slot_100 : WP P 116 100 lo st w Q ↔ x_ga lo[0]? (fun v => WP P 116 101 lo (v :: st) w Q) := W_aload_n rfl rfl rfl
theorem wM_slot_101 : WP P 116 101 lo (.ref mo :: r) (putR w mo S) Q ↔ WP P 116 104 lo (.ref (ra mo 2) :: r) (putR w mo S) Q := R_get rfl rfl (by decide) rfl
theorem wM_slot_104 : WP P 116 104 lo st w Q ↔ x_gi lo[4]? (fun x => WP P 116 106 lo (.int x :: st) w Q) := W_iload rfl rfl
theorem wM_slot_106 : WP P 116 106 lo (.int x :: .ref (ra mo 2) :: r) (putR w mo S) Q ↔ ((0 ≤ x.toInt ∧ x.toInt < 128) ∧ WP P 116 107 lo (.int (xi (S 2 x.toInt.toNat)) :: r) (putR w mo S) Q) := R_iald rfl (by decide) rfl rfl rfl
theorem wM_slot_107 : WP P 116 107 lo [.int x] w Q ↔ Q (some (.int x)) w := WP_ret rfl rfl
theorem wM_slot_108 : WP P 116 108 lo st w Q ↔ x_ga lo[0]? (fun v => WP P 116 109 lo (v :: st) w Q) := W_aload_n rfl rfl rfl
theorem wM_slot_109 : WP P 116 109 lo (.ref mo :: r) (putR w mo S) Q ↔ WP P 116 112 lo (.ref (ra mo 3) :: r) (putR w mo S) Q := R_get rfl rfl (by decide) rfl
theorem wM_slot_112 : WP P 116 112 lo st w Q ↔ x_gi lo[4]? (fun x => WP P 116 114 lo (.int x :: st) w Q) := W_iload rfl rfl
theorem wM_slot_114 : WP P 116 114 lo (.int x :: .ref (ra mo 3) :: r) (putR w mo S) Q ↔ ((0 ≤ x.toInt ∧ x.toInt < 128) ∧ WP P 116 115 lo (.int (xi (S 3 x.toInt.toNat)) :: r) (putR w mo S) Q) := R_iald rfl (by decide) rfl rfl rfl
theorem wM_slot_115 : WP P 116 115 lo [.int x] w Q ↔ Q (some (.int x)) w := WP_ret rfl rfl
theorem wM_slot_116 : WP P 116 116 lo st w Q ↔ x_ga lo[0]? (fun v => WP P 116 117 lo (v :: st) w Q) := W_aload_n rfl rfl rfl
theorem wM_slot_117 : WP P 116 117 lo st w Q ↔ x_gi lo[4]? (fun x => WP P 116 119 lo (.int x :: st) w Q) := W_iload rfl rfl
theorem wM_slot_119 {u1 : Value} (hr : r.length ≤ 8) (hc : ([u1] : List Value).all x_cat1 = true) (hc2 : r.all x_cat1 = true) (k : WP P 87 0 [some (.ref mo), some u1, none, none] [] (putR w mo S) (fun v w1 => WP P 116 122 lo (v.toList ++ r) w1 Q)) : WP P 116 119 lo (u1 :: .ref mo :: r) (putR w mo S) Q := K_virt (as := [u1]) rfl rfl rfl rfl (by decide) (by decide) rfl putR_tgM hr hc hc2 k
theorem wM_slot_122 : WP P 116 122 lo [.int x] w Q ↔ Q (some (.int x)) w := WP_ret rfl rfl
theorem wM_slot_123 : WP P 116 123 lo st w Q ↔ x_ga lo[0]? (fun v => WP P 116 124 lo (v :: st) w Q) := W_aload_n rfl rfl rfl
theorem wM_slot_124 : WP P 116 124 lo (.ref mo :: r) (putR w mo S) Q ↔ WP P 116 127 lo (.ref (ra mo 4) :: r) (putR w mo S) Q := R_get rfl rfl (by decide) rfl
theorem wM_slot_127 : WP P 116 127 lo st w Q ↔ x_gi lo[4]? (fun x => WP P 116 129 lo (.int x :: st) w Q) := W_iload rfl rfl
theorem wM_slot_129 : WP P 116 129 lo (.int x :: .ref (ra mo 4) :: r) (putR w mo S) Q ↔ ((0 ≤ x.toInt ∧ x.toInt < 128) ∧ WP P 116 130 lo (.int (xi (S 4 x.toInt.toNat)) :: r) (putR w mo S) Q) := R_iald rfl (by decide) rfl rfl rfl
theorem wM_slot_130 : WP P 116 130 lo st w Q ↔ WP P 116 131 lo (.int (xi (-1)) :: st) w Q := W_iconst rfl rfl rfl
theorem wM_slot_131 : WP P 116 131 lo (.int y :: .int x :: r) w Q ↔ (if x = y then WP P 116 134 lo r w Q else WP P 116 138 lo r w Q) := W_ic_ne rfl rfl rfl
theorem wM_slot_134 : WP P 116 134 lo st w Q ↔ WP P 116 135 lo (.int (xi (-1)) :: st) w Q := W_iconst rfl rfl rfl
theorem wM_slot_135 : WP P 116 135 lo st w Q ↔ WP P 116 163 lo st w Q := W_goto rfl rfl
theorem wM_slot_138 : WP P 116 138 lo st w Q ↔ WP P 116 141 lo (.int (xi 256) :: st) w Q := W_sipush rfl rfl (by decide)
theorem wM_slot_141 : WP P 116 141 lo st w Q ↔ x_ga lo[0]? (fun v => WP P 116 142 lo (v :: st) w Q) := W_aload_n rfl rfl rfl
theorem wM_slot_142 : WP P 116 142 lo (.ref mo :: r) (putR w mo S) Q ↔ WP P 116 145 lo (.ref (ra mo 4) :: r) (putR w mo S) Q := R_get rfl rfl (by decide) rfl
theorem wM_slot_145 : WP P 116 145 lo st w Q ↔ x_gi lo[4]? (fun x => WP P 116 147 lo (.int x :: st) w Q) := W_iload rfl rfl
theorem wM_slot_147 : WP P 116 147 lo (.int x :: .ref (ra mo 4) :: r) (putR w mo S) Q ↔ ((0 ≤ x.toInt ∧ x.toInt < 128) ∧ WP P 116 148 lo (.int (xi (S 4 x.toInt.toNat)) :: r) (putR w mo S) Q) := R_iald rfl (by decide) rfl rfl rfl
theorem wM_slot_148 : WP P 116 148 lo st w Q ↔ WP P 116 150 lo (.int (xi 16) :: st) w Q := W_bipush rfl rfl (by decide)
theorem wM_slot_150 : WP P 116 150 lo (.int y :: .int x :: r) w Q ↔ (¬ y = 0 ∧ WP P 116 151 lo (.int (x / y) :: r) w Q) := W_idiv rfl rfl
theorem wM_slot_151 : WP P 116 151 lo (.int y :: .int x :: r) w Q ↔ WP P 116 152 lo (.int (x * y) :: r) w Q := W_imul rfl rfl
theorem wM_slot_152 : WP P 116 152 lo st w Q ↔ x_ga lo[0]? (fun v => WP P 116 153 lo (v :: st) w Q) := W_aload_n rfl rfl rfl
theorem wM_slot_153 : WP P 116 153 lo (.ref mo :: r) (putR w mo S) Q ↔ WP P 116 156 lo (.ref (ra mo 4) :: r) (putR w mo S) Q := R_get rfl rfl (by decide) rfl
theorem wM_slot_156 : WP P 116 156 lo st w Q ↔ x_gi lo[4]? (fun x => WP P 116 158 lo (.int x :: st) w Q) := W_iload rfl rfl
theorem wM_slot_158 : WP P 116 158 lo (.int x :: .ref (ra mo 4) :: r) (putR w mo S) Q ↔ ((0 ≤ x.toInt ∧ x.toInt < 128) ∧ WP P 116 159 lo (.int (xi (S 4 x.toInt.toNat)) :: r) (putR w mo S) Q) := R_iald rfl (by decide) rfl rfl rfl
theorem wM_slot_159 : WP P 116 159 lo st w Q ↔ WP P 116 161 lo (.int (xi 16) :: st) w Q := W_bipush rfl rfl (by decide)
theorem wM_slot_161 : WP P 116 161 lo (.int y :: .int x :: r) w Q ↔ (¬ y = 0 ∧ WP P 116 162 lo (.int (x_rmd x y) :: r) w Q) := W_irem rfl rfl
theorem wM_slot_162 : WP P 116 162 lo (.int y :: .int x :: r) w Q ↔ WP P 116 163 lo (.int (x + y) :: r) w Q := W_iadd rfl rfl
theorem wM_slot_163 : WP P 116 163 lo [.int x] w Q ↔ Q (some (.int x)) w := WP_ret rfl rfl
theorem wM_slot_164 : WP P 116 164 lo st w Q ↔ x_ga lo[0]? (fun v => WP P 116 165 lo (v :: st) w Q) := W_aload_n rfl rfl rfl
theorem wM_slot_165 : WP P 116 165 lo (.ref mo :: r) (putR w mo S) Q ↔ WP P 116 168 lo (.ref (ra mo 0) :: r) (putR w mo S) Q := R_get rfl rfl (by decide) rfl
theorem wM_slot_168 : WP P 116 168 lo st w Q ↔ x_gi lo[4]? (fun x => WP P 116 170 lo (.int x :: st) w Q) := W_iload rfl rfl
theorem wM_slot_170 : WP P 116 170 lo (.int x :: .ref (ra mo 0) :: r) (putR w mo S) Q ↔ ((0 ≤ x.toInt ∧ x.toInt < 128) ∧ WP P 116 171 lo (.int (xi (S 0 x.toInt.toNat)) :: r) (putR w mo S) Q) := R_iald rfl (by decide) rfl rfl rfl
theorem wM_slot_171 : WP P 116 171 lo (.int x :: r) w Q ↔ (if x = xi 0 then WP P 116 174 lo r w Q else WP P 116 183 lo r w Q) := W_if_ne rfl rfl rfl
theorem wM_slot_174 : WP P 116 174 lo st w Q ↔ x_ga lo[0]? (fun v => WP P 116 175 lo (v :: st) w Q) := W_aload_n rfl rfl rfl
theorem wM_slot_175 : WP P 116 175 lo st w Q ↔ x_gi lo[4]? (fun x => WP P 116 177 lo (.int x :: st) w Q) := W_iload rfl rfl
theorem wM_slot_177 {u1 : Value} (hr : r.length ≤ 8) (hc : ([u1] : List Value).all x_cat1 = true) (hc2 : r.all x_cat1 = true) (k : WP P 86 0 [some (.ref mo), some u1] [] (putR w mo S) (fun v w1 => WP P 116 180 lo (v.toList ++ r) w1 Q)) : WP P 116 177 lo (u1 :: .ref mo :: r) (putR w mo S) Q := K_virt (as := [u1]) rfl rfl rfl rfl (by decide) (by decide) rfl putR_tgM hr hc hc2 k
theorem wM_slot_180 : WP P 116 180 lo st w Q ↔ WP P 116 197 lo st w Q := W_goto rfl rfl
theorem wM_slot_183 : WP P 116 183 lo st w Q ↔ x_ga lo[0]? (fun v => WP P 116 184 lo (v :: st) w Q) := W_aload_n rfl rfl rfl
theorem wM_slot_184 : WP P 116 184 lo st w Q ↔ x_gi lo[4]? (fun x => WP P 116 186 lo (.int x :: st) w Q) := W_iload rfl rfl
theorem wM_slot_186 {u1 : Value} (hr : r.length ≤ 8) (hc : ([u1] : List Value).all x_cat1 = true) (hc2 : r.all x_cat1 = true) (k : WP P 111 0 [some (.ref mo), some u1] [] (putR w mo S) (fun v w1 => WP P 116 189 lo (v.toList ++ r) w1 Q)) : WP P 116 186 lo (u1 :: .ref mo :: r) (putR w mo S) Q := K_virt (as := [u1]) rfl rfl rfl rfl (by decide) (by decide) rfl putR_tgM hr hc hc2 k
theorem wM_slot_189 : WP P 116 189 lo (.int x :: r) w Q ↔ (if x = xi 0 then WP P 116 196 lo r w Q else WP P 116 192 lo r w Q) := W_if_eq rfl rfl rfl
theorem wM_slot_192 : WP P 116 192 lo st w Q ↔ WP P 116 193 lo (.int (xi 1) :: st) w Q := W_iconst rfl rfl rfl
theorem wM_slot_193 : WP P 116 193 lo st w Q ↔ WP P 116 197 lo st w Q := W_goto rfl rfl
theorem wM_slot_196 : WP P 116 196 lo st w Q ↔ WP P 116 197 lo (.int (xi 0) :: st) w Q := W_iconst rfl rfl rfl
theorem wM_slot_197 : WP P 116 197 lo [.int x] w Q ↔ Q (some (.int x)) w := WP_ret rfl rfl
theorem wM_slot_198 : WP P 116 198 lo st w Q ↔ x_ga lo[0]? (fun v => WP P 116 199 lo (v :: st) w Q) := W_aload_n rfl rfl rfl
theorem wM_slot_199 : WP P 116 199 lo st w Q ↔ x_ga lo[0]? (fun v => WP P 116 200 lo (v :: st) w Q) := W_aload_n rfl rfl rfl
theorem wM_slot_200 : WP P 116 200 lo (.ref mo :: r) (putR w mo S) Q ↔ WP P 116 203 lo (.ref (ra mo 0) :: r) (putR w mo S) Q := R_get rfl rfl (by decide) rfl
theorem wM_slot_203 : WP P 116 203 lo st w Q ↔ x_gi lo[4]? (fun x => WP P 116 205 lo (.int x :: st) w Q) := W_iload rfl rfl
theorem wM_slot_205 : WP P 116 205 lo (.int x :: .ref (ra mo 0) :: r) (putR w mo S) Q ↔ ((0 ≤ x.toInt ∧ x.toInt < 128) ∧ WP P 116 206 lo (.int (xi (S 0 x.toInt.toNat)) :: r) (putR w mo S) Q) := R_iald rfl (by decide) rfl rfl rfl
theorem wM_slot_206 : WP P 116 206 lo st w Q ↔ x_ga lo[0]? (fun v => WP P 116 207 lo (v :: st) w Q) := W_aload_n rfl rfl rfl
theorem wM_slot_207 : WP P 116 207 lo (.ref mo :: r) (putR w mo S) Q ↔ WP P 116 210 lo (.ref (ra mo 1) :: r) (putR w mo S) Q := R_get rfl rfl (by decide) rfl
theorem wM_slot_210 : WP P 116 210 lo st w Q ↔ x_gi lo[4]? (fun x => WP P 116 212 lo (.int x :: st) w Q) := W_iload rfl rfl
theorem wM_slot_212 : WP P 116 212 lo (.int x :: .ref (ra mo 1) :: r) (putR w mo S) Q ↔ ((0 ≤ x.toInt ∧ x.toInt < 128) ∧ WP P 116 213 lo (.int (xi (S 1 x.toInt.toNat)) :: r) (putR w mo S) Q) := R_iald rfl (by decide) rfl rfl rfl
theorem wM_slot_213 {u1 u2 : Value} (hr : r.length ≤ 8) (hc : ([u1, u2] : List Value).all x_cat1 = true) (hc2 : r.all x_cat1 = true) (k : WP P 93 0 [some (.ref mo), some u1, some u2, none, none] [] (putR w mo S) (fun v w1 => WP P 116 216 lo (v.toList ++ r) w1 Q)) : WP P 116 213 lo (u2 :: u1 :: .ref mo :: r) (putR w mo S) Q := K_virt (as := [u1, u2]) rfl rfl rfl rfl (by decide) (by decide) rfl putR_tgM hr hc hc2 k
theorem wM_slot_216 : WP P 116 216 lo [.int x] w Q ↔ Q (some (.int x)) w := WP_ret rfl rfl
theorem wM_slot_217 : WP P 116 217 lo st w Q ↔ WP P 116 218 lo (.int (xi (-1)) :: st) w Q := W_iconst rfl rfl rfl
theorem wM_slot_218 : WP P 116 218 lo [.int x] w Q ↔ Q (some (.int x)) w := WP_ret rfl rfl
-- 117 M_thread
theorem wM_thread_0 : WP P 117 0 lo st w Q ↔ x_ga lo[0]? (fun v => WP P 117 1 lo (v :: st) w Q) := W_aload_n rfl rfl rfl
theorem wM_thread_1 : WP P 117 1 lo st w Q ↔ WP P 117 2 lo (.int (xi 2) :: st) w Q := W_iconst rfl rfl rfl
theorem wM_thread_2 : WP P 117 2 lo st w Q ↔ x_gi lo[1]? (fun x => WP P 117 3 lo (.int x :: st) w Q) := W_iload_n rfl rfl rfl
theorem wM_thread_3 {u1 u2 : Value} (hr : r.length ≤ 8) (hc : ([u1, u2] : List Value).all x_cat1 = true) (hc2 : r.all x_cat1 = true) (k : WP P 108 0 [some (.ref mo), some u1, some u2] [] (putR w mo S) (fun v w1 => WP P 117 6 lo (v.toList ++ r) w1 Q)) : WP P 117 3 lo (u2 :: u1 :: .ref mo :: r) (putR w mo S) Q := K_virt (as := [u1, u2]) rfl rfl rfl rfl (by decide) (by decide) rfl putR_tgM hr hc hc2 k
theorem wM_thread_6 : WP P 117 6 lo (.int x :: r) w Q ↔ (if x = xi 0 then WP P 117 9 lo r w Q else WP P 117 11 lo r w Q) := W_if_ne rfl rfl rfl
theorem wM_thread_9 : WP P 117 9 lo st w Q ↔ WP P 117 10 lo (.int (xi (-1)) :: st) w Q := W_iconst rfl rfl rfl
theorem wM_thread_10 : WP P 117 10 lo [.int x] w Q ↔ Q (some (.int x)) w := WP_ret rfl rfl
theorem wM_thread_11 : WP P 117 11 lo st w Q ↔ x_gi lo[1]? (fun x => WP P 117 12 lo (.int x :: st) w Q) := W_iload_n rfl rfl rfl
theorem wM_thread_12 : WP P 117 12 lo st w Q ↔ WP P 117 14 lo (.int (xi 8) :: st) w Q := W_bipush rfl rfl (by decide)
theorem wM_thread_14 : WP P 117 14 lo (.int y :: .int x :: r) w Q ↔ (¬ y = 0 ∧ WP P 117 15 lo (.int (x / y) :: r) w Q) := W_idiv rfl rfl
theorem wM_thread_15 : WP P 117 15 lo (.int x :: r) w Q ↔ (3 < lo.length ∧ WP P 117 16 (lo.set 3 (some (.int x))) r w Q) := W_istore_n rfl rfl rfl
theorem wM_thread_16 : WP P 117 16 lo st w Q ↔ x_gi lo[2]? (fun x => WP P 117 17 lo (.int x :: st) w Q) := W_iload_n rfl rfl rfl
-- tsw wM_thread_17
theorem wM_thread_64 : WP P 117 64 lo st w Q ↔ x_ga lo[0]? (fun v => WP P 117 65 lo (v :: st) w Q) := W_aload_n rfl rfl rfl
theorem wM_thread_65 : WP P 117 65 lo (.ref mo :: r) (putR w mo S) Q ↔ WP P 117 68 lo (.ref (ra mo 10) :: r) (putR w mo S) Q := R_get rfl rfl (by decide) rfl
theorem wM_thread_68 : WP P 117 68 lo st w Q ↔ x_gi lo[3]? (fun x => WP P 117 69 lo (.int x :: st) w Q) := W_iload_n rfl rfl rfl
theorem wM_thread_69 : WP P 117 69 lo (.int x :: .ref (ra mo 10) :: r) (putR w mo S) Q ↔ ((0 ≤ x.toInt ∧ x.toInt < 16) ∧ WP P 117 70 lo (.int (xi (S 10 x.toInt.toNat)) :: r) (putR w mo S) Q) := R_iald rfl (by decide) rfl rfl rfl
theorem wM_thread_70 : WP P 117 70 lo [.int x] w Q ↔ Q (some (.int x)) w := WP_ret rfl rfl
theorem wM_thread_71 : WP P 117 71 lo st w Q ↔ x_ga lo[0]? (fun v => WP P 117 72 lo (v :: st) w Q) := W_aload_n rfl rfl rfl
theorem wM_thread_72 : WP P 117 72 lo (.ref mo :: r) (putR w mo S) Q ↔ WP P 117 75 lo (.ref (ra mo 13) :: r) (putR w mo S) Q := R_get rfl rfl (by decide) rfl
theorem wM_thread_75 : WP P 117 75 lo st w Q ↔ x_gi lo[3]? (fun x => WP P 117 76 lo (.int x :: st) w Q) := W_iload_n rfl rfl rfl
theorem wM_thread_76 : WP P 117 76 lo (.int x :: .ref (ra mo 13) :: r) (putR w mo S) Q ↔ ((0 ≤ x.toInt ∧ x.toInt < 16) ∧ WP P 117 77 lo (.int (xi (S 13 x.toInt.toNat)) :: r) (putR w mo S) Q) := R_iald rfl (by decide) rfl rfl rfl
theorem wM_thread_77 : WP P 117 77 lo [.int x] w Q ↔ Q (some (.int x)) w := WP_ret rfl rfl
theorem wM_thread_78 : WP P 117 78 lo st w Q ↔ x_ga lo[0]? (fun v => WP P 117 79 lo (v :: st) w Q) := W_aload_n rfl rfl rfl
theorem wM_thread_79 : WP P 117 79 lo (.ref mo :: r) (putR w mo S) Q ↔ WP P 117 82 lo (.ref (ra mo 15) :: r) (putR w mo S) Q := R_get rfl rfl (by decide) rfl
theorem wM_thread_82 : WP P 117 82 lo st w Q ↔ x_gi lo[3]? (fun x => WP P 117 83 lo (.int x :: st) w Q) := W_iload_n rfl rfl rfl
theorem wM_thread_83 : WP P 117 83 lo (.int x :: .ref (ra mo 15) :: r) (putR w mo S) Q ↔ ((0 ≤ x.toInt ∧ x.toInt < 16) ∧ WP P 117 84 lo (.int (xi (S 15 x.toInt.toNat)) :: r) (putR w mo S) Q) := R_iald rfl (by decide) rfl rfl rfl
theorem wM_thread_84 : WP P 117 84 lo [.int x] w Q ↔ Q (some (.int x)) w := WP_ret rfl rfl
theorem wM_thread_85 : WP P 117 85 lo st w Q ↔ x_ga lo[0]? (fun v => WP P 117 86 lo (v :: st) w Q) := W_aload_n rfl rfl rfl
theorem wM_thread_86 : WP P 117 86 lo (.ref mo :: r) (putR w mo S) Q ↔ WP P 117 89 lo (.ref (ra mo 16) :: r) (putR w mo S) Q := R_get rfl rfl (by decide) rfl
theorem wM_thread_89 : WP P 117 89 lo st w Q ↔ x_gi lo[3]? (fun x => WP P 117 90 lo (.int x :: st) w Q) := W_iload_n rfl rfl rfl
theorem wM_thread_90 : WP P 117 90 lo (.int x :: .ref (ra mo 16) :: r) (putR w mo S) Q ↔ ((0 ≤ x.toInt ∧ x.toInt < 16) ∧ WP P 117 91 lo (.int (xi (S 16 x.toInt.toNat)) :: r) (putR w mo S) Q) := R_iald rfl (by decide) rfl rfl rfl
theorem wM_thread_91 : WP P 117 91 lo [.int x] w Q ↔ Q (some (.int x)) w := WP_ret rfl rfl
theorem wM_thread_92 : WP P 117 92 lo st w Q ↔ x_ga lo[0]? (fun v => WP P 117 93 lo (v :: st) w Q) := W_aload_n rfl rfl rfl
theorem wM_thread_93 : WP P 117 93 lo (.ref mo :: r) (putR w mo S) Q ↔ WP P 117 96 lo (.ref (ra mo 17) :: r) (putR w mo S) Q := R_get rfl rfl (by decide) rfl
theorem wM_thread_96 : WP P 117 96 lo st w Q ↔ x_gi lo[3]? (fun x => WP P 117 97 lo (.int x :: st) w Q) := W_iload_n rfl rfl rfl
theorem wM_thread_97 : WP P 117 97 lo (.int x :: .ref (ra mo 17) :: r) (putR w mo S) Q ↔ ((0 ≤ x.toInt ∧ x.toInt < 16) ∧ WP P 117 98 lo (.int (xi (S 17 x.toInt.toNat)) :: r) (putR w mo S) Q) := R_iald rfl (by decide) rfl rfl rfl
theorem wM_thread_98 : WP P 117 98 lo [.int x] w Q ↔ Q (some (.int x)) w := WP_ret rfl rfl
theorem wM_thread_99 : WP P 117 99 lo st w Q ↔ x_ga lo[0]? (fun v => WP P 117 100 lo (v :: st) w Q) := W_aload_n rfl rfl rfl
theorem wM_thread_100 : WP P 117 100 lo (.ref mo :: r) (putR w mo S) Q ↔ WP P 117 103 lo (.ref (ra mo 14) :: r) (putR w mo S) Q := R_get rfl rfl (by decide) rfl
theorem wM_thread_103 : WP P 117 103 lo st w Q ↔ x_gi lo[3]? (fun x => WP P 117 104 lo (.int x :: st) w Q) := W_iload_n rfl rfl rfl
theorem wM_thread_104 : WP P 117 104 lo (.int x :: .ref (ra mo 14) :: r) (putR w mo S) Q ↔ ((0 ≤ x.toInt ∧ x.toInt < 16) ∧ WP P 117 105 lo (.int (xi (S 14 x.toInt.toNat)) :: r) (putR w mo S) Q) := R_iald rfl (by decide) rfl rfl rfl
theorem wM_thread_105 : WP P 117 105 lo [.int x] w Q ↔ Q (some (.int x)) w := WP_ret rfl rfl
theorem wM_thread_106 : WP P 117 106 lo st w Q ↔ x_ga lo[0]? (fun v => WP P 117 107 lo (v :: st) w Q) := W_aload_n rfl rfl rfl
theorem wM_thread_107 : WP P 117 107 lo (.ref mo :: r) (putR w mo S) Q ↔ WP P 117 110 lo (.ref (ra mo 11) :: r) (putR w mo S) Q := R_get rfl rfl (by decide) rfl
theorem wM_thread_110 : WP P 117 110 lo st w Q ↔ x_gi lo[3]? (fun x => WP P 117 111 lo (.int x :: st) w Q) := W_iload_n rfl rfl rfl
theorem wM_thread_111 : WP P 117 111 lo (.int x :: .ref (ra mo 11) :: r) (putR w mo S) Q ↔ ((0 ≤ x.toInt ∧ x.toInt < 16) ∧ WP P 117 112 lo (.int (xi (S 11 x.toInt.toNat)) :: r) (putR w mo S) Q) := R_iald rfl (by decide) rfl rfl rfl
theorem wM_thread_112 : WP P 117 112 lo [.int x] w Q ↔ Q (some (.int x)) w := WP_ret rfl rfl
theorem wM_thread_113 : WP P 117 113 lo st w Q ↔ x_ga lo[0]? (fun v => WP P 117 114 lo (v :: st) w Q) := W_aload_n rfl rfl rfl
theorem wM_thread_114 : WP P 117 114 lo (.ref mo :: r) (putR w mo S) Q ↔ WP P 117 117 lo (.ref (ra mo 12) :: r) (putR w mo S) Q := R_get rfl rfl (by decide) rfl
theorem wM_thread_117 : WP P 117 117 lo st w Q ↔ x_gi lo[3]? (fun x => WP P 117 118 lo (.int x :: st) w Q) := W_iload_n rfl rfl rfl
theorem wM_thread_118 : WP P 117 118 lo (.int x :: .ref (ra mo 12) :: r) (putR w mo S) Q ↔ ((0 ≤ x.toInt ∧ x.toInt < 16) ∧ WP P 117 119 lo (.int (xi (S 12 x.toInt.toNat)) :: r) (putR w mo S) Q) := R_iald rfl (by decide) rfl rfl rfl
theorem wM_thread_119 : WP P 117 119 lo [.int x] w Q ↔ Q (some (.int x)) w := WP_ret rfl rfl
theorem wM_thread_120 : WP P 117 120 lo st w Q ↔ WP P 117 121 lo (.int (xi (-1)) :: st) w Q := W_iconst rfl rfl rfl
theorem wM_thread_121 : WP P 117 121 lo [.int x] w Q ↔ Q (some (.int x)) w := WP_ret rfl rfl
-- 118 M_page
theorem wM_page_0 : WP P 118 0 lo st w Q ↔ x_ga lo[0]? (fun v => WP P 118 1 lo (v :: st) w Q) := W_aload_n rfl rfl rfl
theorem wM_page_1 : WP P 118 1 lo st w Q ↔ WP P 118 2 lo (.int (xi 2) :: st) w Q := W_iconst rfl rfl rfl
theorem wM_page_2 : WP P 118 2 lo st w Q ↔ x_gi lo[1]? (fun x => WP P 118 3 lo (.int x :: st) w Q) := W_iload_n rfl rfl rfl
theorem wM_page_3 {u1 u2 : Value} (hr : r.length ≤ 8) (hc : ([u1, u2] : List Value).all x_cat1 = true) (hc2 : r.all x_cat1 = true) (k : WP P 108 0 [some (.ref mo), some u1, some u2] [] (putR w mo S) (fun v w1 => WP P 118 6 lo (v.toList ++ r) w1 Q)) : WP P 118 3 lo (u2 :: u1 :: .ref mo :: r) (putR w mo S) Q := K_virt (as := [u1, u2]) rfl rfl rfl rfl (by decide) (by decide) rfl putR_tgM hr hc hc2 k
theorem wM_page_6 : WP P 118 6 lo (.int x :: r) w Q ↔ (if x = xi 0 then WP P 118 32 lo r w Q else WP P 118 9 lo r w Q) := W_if_eq rfl rfl rfl
theorem wM_page_9 : WP P 118 9 lo st w Q ↔ x_gi lo[2]? (fun x => WP P 118 10 lo (.int x :: st) w Q) := W_iload_n rfl rfl rfl
theorem wM_page_10 : WP P 118 10 lo (.int x :: r) w Q ↔ (if x < xi 0 then WP P 118 32 lo r w Q else WP P 118 13 lo r w Q) := W_if_lt rfl rfl rfl
theorem wM_page_13 : WP P 118 13 lo st w Q ↔ x_gi lo[2]? (fun x => WP P 118 14 lo (.int x :: st) w Q) := W_iload_n rfl rfl rfl
theorem wM_page_14 : WP P 118 14 lo st w Q ↔ WP P 118 16 lo (.int (xi 15) :: st) w Q := W_bipush rfl rfl (by decide)
theorem wM_page_16 : WP P 118 16 lo (.int y :: .int x :: r) w Q ↔ (if y < x then WP P 118 32 lo r w Q else WP P 118 19 lo r w Q) := W_ic_gt rfl rfl rfl
theorem wM_page_19 : WP P 118 19 lo st w Q ↔ x_ga lo[0]? (fun v => WP P 118 20 lo (v :: st) w Q) := W_aload_n rfl rfl rfl
theorem wM_page_20 : WP P 118 20 lo (.ref mo :: r) (putR w mo S) Q ↔ WP P 118 23 lo (.ref (ra mo 12) :: r) (putR w mo S) Q := R_get rfl rfl (by decide) rfl
theorem wM_page_23 : WP P 118 23 lo st w Q ↔ x_gi lo[1]? (fun x => WP P 118 24 lo (.int x :: st) w Q) := W_iload_n rfl rfl rfl
theorem wM_page_24 : WP P 118 24 lo st w Q ↔ WP P 118 26 lo (.int (xi 8) :: st) w Q := W_bipush rfl rfl (by decide)
theorem wM_page_26 : WP P 118 26 lo (.int y :: .int x :: r) w Q ↔ (¬ y = 0 ∧ WP P 118 27 lo (.int (x / y) :: r) w Q) := W_idiv rfl rfl
theorem wM_page_27 : WP P 118 27 lo (.int x :: .ref (ra mo 12) :: r) (putR w mo S) Q ↔ ((0 ≤ x.toInt ∧ x.toInt < 16) ∧ WP P 118 28 lo (.int (xi (S 12 x.toInt.toNat)) :: r) (putR w mo S) Q) := R_iald rfl (by decide) rfl rfl rfl
theorem wM_page_28 : WP P 118 28 lo st w Q ↔ WP P 118 29 lo (.int (xi (-1)) :: st) w Q := W_iconst rfl rfl rfl
theorem wM_page_29 : WP P 118 29 lo (.int y :: .int x :: r) w Q ↔ (if x = y then WP P 118 32 lo r w Q else WP P 118 34 lo r w Q) := W_ic_ne rfl rfl rfl
theorem wM_page_32 : WP P 118 32 lo st w Q ↔ WP P 118 33 lo (.int (xi (-1)) :: st) w Q := W_iconst rfl rfl rfl
theorem wM_page_33 : WP P 118 33 lo [.int x] w Q ↔ Q (some (.int x)) w := WP_ret rfl rfl
theorem wM_page_34 : WP P 118 34 lo st w Q ↔ x_ga lo[0]? (fun v => WP P 118 35 lo (v :: st) w Q) := W_aload_n rfl rfl rfl
theorem wM_page_35 : WP P 118 35 lo st w Q ↔ x_ga lo[0]? (fun v => WP P 118 36 lo (v :: st) w Q) := W_aload_n rfl rfl rfl
theorem wM_page_36 : WP P 118 36 lo (.ref mo :: r) (putR w mo S) Q ↔ WP P 118 39 lo (.ref (ra mo 12) :: r) (putR w mo S) Q := R_get rfl rfl (by decide) rfl
theorem wM_page_39 : WP P 118 39 lo st w Q ↔ x_gi lo[1]? (fun x => WP P 118 40 lo (.int x :: st) w Q) := W_iload_n rfl rfl rfl
theorem wM_page_40 : WP P 118 40 lo st w Q ↔ WP P 118 42 lo (.int (xi 8) :: st) w Q := W_bipush rfl rfl (by decide)
theorem wM_page_42 : WP P 118 42 lo (.int y :: .int x :: r) w Q ↔ (¬ y = 0 ∧ WP P 118 43 lo (.int (x / y) :: r) w Q) := W_idiv rfl rfl
theorem wM_page_43 : WP P 118 43 lo (.int x :: .ref (ra mo 12) :: r) (putR w mo S) Q ↔ ((0 ≤ x.toInt ∧ x.toInt < 16) ∧ WP P 118 44 lo (.int (xi (S 12 x.toInt.toNat)) :: r) (putR w mo S) Q) := R_iald rfl (by decide) rfl rfl rfl
theorem wM_page_44 : WP P 118 44 lo st w Q ↔ x_gi lo[2]? (fun x => WP P 118 45 lo (.int x :: st) w Q) := W_iload_n rfl rfl rfl
theorem wM_page_45 : WP P 118 45 lo st w Q ↔ WP P 118 46 lo (.int (xi 4) :: st) w Q := W_iconst rfl rfl rfl
theorem wM_page_46 : WP P 118 46 lo (.int y :: .int x :: r) w Q ↔ (¬ y = 0 ∧ WP P 118 47 lo (.int (x / y) :: r) w Q) := W_idiv rfl rfl
theorem wM_page_47 {u1 u2 : Value} (hr : r.length ≤ 8) (hc : ([u1, u2] : List Value).all x_cat1 = true) (hc2 : r.all x_cat1 = true) (k : WP P 107 0 [some (.ref mo), some u1, some u2, none] [] (putR w mo S) (fun v w1 => WP P 118 50 lo (v.toList ++ r) w1 Q)) : WP P 118 47 lo (u2 :: u1 :: .ref mo :: r) (putR w mo S) Q := K_virt (as := [u1, u2]) rfl rfl rfl rfl (by decide) (by decide) rfl putR_tgM hr hc hc2 k
theorem wM_page_50 : WP P 118 50 lo (.int x :: r) w Q ↔ (3 < lo.length ∧ WP P 118 51 (lo.set 3 (some (.int x))) r w Q) := W_istore_n rfl rfl rfl
theorem wM_page_51 : WP P 118 51 lo st w Q ↔ x_gi lo[3]? (fun x => WP P 118 52 lo (.int x :: st) w Q) := W_iload_n rfl rfl rfl
theorem wM_page_52 : WP P 118 52 lo (.int x :: r) w Q ↔ (if x < xi 0 then WP P 118 55 lo r w Q else WP P 118 59 lo r w Q) := W_if_ge rfl rfl rfl
theorem wM_page_55 : WP P 118 55 lo st w Q ↔ WP P 118 56 lo (.int (xi (-1)) :: st) w Q := W_iconst rfl rfl rfl
theorem wM_page_56 : WP P 118 56 lo st w Q ↔ WP P 118 67 lo st w Q := W_goto rfl rfl
theorem wM_page_59 : WP P 118 59 lo st w Q ↔ x_ga lo[0]? (fun v => WP P 118 60 lo (v :: st) w Q) := W_aload_n rfl rfl rfl
theorem wM_page_60 : WP P 118 60 lo st w Q ↔ x_gi lo[3]? (fun x => WP P 118 61 lo (.int x :: st) w Q) := W_iload_n rfl rfl rfl
theorem wM_page_61 : WP P 118 61 lo st w Q ↔ x_gi lo[2]? (fun x => WP P 118 62 lo (.int x :: st) w Q) := W_iload_n rfl rfl rfl
theorem wM_page_62 : WP P 118 62 lo st w Q ↔ WP P 118 63 lo (.int (xi 4) :: st) w Q := W_iconst rfl rfl rfl
theorem wM_page_63 : WP P 118 63 lo (.int y :: .int x :: r) w Q ↔ (¬ y = 0 ∧ WP P 118 64 lo (.int (x_rmd x y) :: r) w Q) := W_irem rfl rfl
theorem wM_page_64 {u1 u2 : Value} (hr : r.length ≤ 8) (hc : ([u1, u2] : List Value).all x_cat1 = true) (hc2 : r.all x_cat1 = true) (k : WP P 109 0 [some (.ref mo), some u1, some u2, none] [] (putR w mo S) (fun v w1 => WP P 118 67 lo (v.toList ++ r) w1 Q)) : WP P 118 64 lo (u2 :: u1 :: .ref mo :: r) (putR w mo S) Q := K_virt (as := [u1, u2]) rfl rfl rfl rfl (by decide) (by decide) rfl putR_tgM hr hc hc2 k
theorem wM_page_67 : WP P 118 67 lo (.int x :: r) w Q ↔ (4 < lo.length ∧ WP P 118 69 (lo.set 4 (some (.int x))) r w Q) := W_istore rfl rfl
theorem wM_page_69 : WP P 118 69 lo st w Q ↔ x_gi lo[4]? (fun x => WP P 118 71 lo (.int x :: st) w Q) := W_iload rfl rfl
theorem wM_page_71 : WP P 118 71 lo (.int x :: r) w Q ↔ (if x < xi 0 then WP P 118 74 lo r w Q else WP P 118 78 lo r w Q) := W_if_ge rfl rfl rfl
theorem wM_page_74 : WP P 118 74 lo st w Q ↔ WP P 118 75 lo (.int (xi (-1)) :: st) w Q := W_iconst rfl rfl rfl
theorem wM_page_75 : WP P 118 75 lo st w Q ↔ WP P 118 97 lo st w Q := W_goto rfl rfl
theorem wM_page_78 : WP P 118 78 lo st w Q ↔ x_ga lo[0]? (fun v => WP P 118 79 lo (v :: st) w Q) := W_aload_n rfl rfl rfl
theorem wM_page_79 : WP P 118 79 lo (.ref mo :: r) (putR w mo S) Q ↔ WP P 118 82 lo (.ref (ra mo 1) :: r) (putR w mo S) Q := R_get rfl rfl (by decide) rfl
theorem wM_page_82 : WP P 118 82 lo st w Q ↔ x_gi lo[4]? (fun x => WP P 118 84 lo (.int x :: st) w Q) := W_iload rfl rfl
theorem wM_page_84 : WP P 118 84 lo (.int x :: .ref (ra mo 1) :: r) (putR w mo S) Q ↔ ((0 ≤ x.toInt ∧ x.toInt < 128) ∧ WP P 118 85 lo (.int (xi (S 1 x.toInt.toNat)) :: r) (putR w mo S) Q) := R_iald rfl (by decide) rfl rfl rfl
theorem wM_page_85 : WP P 118 85 lo st w Q ↔ WP P 118 88 lo (.int (xi 128) :: st) w Q := W_sipush rfl rfl (by decide)
theorem wM_page_88 : WP P 118 88 lo st w Q ↔ x_ga lo[0]? (fun v => WP P 118 89 lo (v :: st) w Q) := W_aload_n rfl rfl rfl
theorem wM_page_89 : WP P 118 89 lo (.ref mo :: r) (putR w mo S) Q ↔ WP P 118 92 lo (.ref (ra mo 2) :: r) (putR w mo S) Q := R_get rfl rfl (by decide) rfl
theorem wM_page_92 : WP P 118 92 lo st w Q ↔ x_gi lo[4]? (fun x => WP P 118 94 lo (.int x :: st) w Q) := W_iload rfl rfl
theorem wM_page_94 : WP P 118 94 lo (.int x :: .ref (ra mo 2) :: r) (putR w mo S) Q ↔ ((0 ≤ x.toInt ∧ x.toInt < 128) ∧ WP P 118 95 lo (.int (xi (S 2 x.toInt.toNat)) :: r) (putR w mo S) Q) := R_iald rfl (by decide) rfl rfl rfl
theorem wM_page_95 : WP P 118 95 lo (.int y :: .int x :: r) w Q ↔ WP P 118 96 lo (.int (x * y) :: r) w Q := W_imul rfl rfl
theorem wM_page_96 : WP P 118 96 lo (.int y :: .int x :: r) w Q ↔ WP P 118 97 lo (.int (x + y) :: r) w Q := W_iadd rfl rfl
theorem wM_page_97 : WP P 118 97 lo [.int x] w Q ↔ Q (some (.int x)) w := WP_ret rfl rfl
end WR

section WL
variable {P : xP} {lo : List (Option Value)} {st r : List Value} {w : xH} {Q : Option Value → xH → Prop} {mo : Nat} {S : xS} {x y : Int32} {a : Nat} {z : Int} {v1 v2 : Value}
theorem L_ald {pc pc' N : Nat} {g : Nat → Int32} {j : Int} (hc : x_ct 119 pc = some .iaload) (hn : pc' = pc + 1) (hp2 : x_tg w P.2.2 = none) (hP : P.1 P.2.2 = some (N, g)) (j0 : 0 ≤ j) (j1 : j < (N : Int)) (hN : (N : Int) < 2147483648) : WP P 119 pc lo (.int (xi j) :: .ref P.2.2 :: r) w Q ↔ WP P 119 pc' lo (.int (g j.toNat) :: r) w Q := by
  have ec := x_cle (e := j) (by omega) (by omega)
  rw [W_iald_p hc hp2 hP (x_nn (e := j) (by omega) (by omega)) (by rw [ec]; omega) hn, ec]
theorem L_len {pc pc' N : Nat} {g : Nat → Int32} (hc : x_ct 119 pc = some .arraylength) (hn : pc' = pc + 1) (hp2 : x_tg w P.2.2 = none) (hP : P.1 P.2.2 = some (N, g)) (hN : (N : Int) < 2147483648) : WP P 119 pc lo (.ref P.2.2 :: r) w Q ↔ WP P 119 pc' lo (.int (xi (N : Int)) :: r) w Q := by
  subst hn
  refine WP_go hc rfl rfl ?_
  show (match x_tg w P.2.2 with
    | some (t, n) => if 20 ≤ t then x_go (pc + 1) lo (.int (Int32.ofNat n) :: r) w else none
    | none => (match P.1 P.2.2 with
      | some (n, _) => if P.2.2 = P.2.2 then x_go (pc + 1) lo (.int (Int32.ofNat n) :: r) w else none
      | none => none)) = _
  rw [hp2, hP]
  show (if P.2.2 = P.2.2 then x_go (pc + 1) lo (.int (Int32.ofNat N) :: r) w else none) = _
  rw [if_pos rfl]
  have : Int32.ofNat N = xi (N : Int) := by
    rw [xi_of (Int32.ofNat N)]
    congr 1
    rw [Int32.toInt_ofNat_of_lt (by omega)]
  rw [this]; rfl
set_option maxRecDepth 20000 in
theorem wL_law_0 : WP P 119 0 lo st w Q ↔ WP P 119 3 lo (.ref (x_sz w) :: st) (x_new w 0 4 (x_df 0)) Q := W_new rfl rfl rfl rfl rfl
set_option maxRecDepth 20000 in
theorem wL_law_3 : WP P 119 3 lo (v1 :: r) w Q ↔ (x_cat1 v1 = true ∧ WP P 119 4 lo (v1 :: v1 :: r) w Q) := W_dup rfl rfl
set_option maxRecDepth 20000 in
theorem wL_law_4 {b : Nat} (hr : r.length ≤ 8) (hc : ([] : List Value).all x_cat1 = true) (hc2 : r.all x_cat1 = true) (k : WP P 0 0 [some (.ref b), none, none] [] w (fun v w1 => WP P 119 7 lo (v.toList ++ r) w1 Q)) : WP P 119 4 lo (.ref b :: r) w Q := K_init (as := []) rfl rfl (by decide) rfl rfl (by decide) (by decide) rfl hr hc hc2 k
set_option maxRecDepth 20000 in
theorem wL_law_7 : WP P 119 7 lo (.ref a :: r) w Q ↔ (1 < lo.length ∧ WP P 119 8 (lo.set 1 (some (.ref a))) r w Q) := W_astore_n rfl rfl rfl
set_option maxRecDepth 20000 in
theorem wL_law_7n : WP P 119 7 lo (.null :: r) w Q ↔ (1 < lo.length ∧ WP P 119 8 (lo.set 1 (some .null)) r w Q) := W_astore_nN rfl rfl rfl
set_option maxRecDepth 20000 in
theorem wL_law_8 : WP P 119 8 lo st w Q ↔ WP P 119 11 lo (.ref (x_sz w) :: st) (x_new w 11 29 (x_df 11)) Q := W_new rfl rfl rfl rfl rfl
set_option maxRecDepth 20000 in
theorem wL_law_11 : WP P 119 11 lo (v1 :: r) w Q ↔ (x_cat1 v1 = true ∧ WP P 119 12 lo (v1 :: v1 :: r) w Q) := W_dup rfl rfl
set_option maxRecDepth 20000 in
theorem wL_law_12 {b : Nat} (hr : r.length ≤ 8) (hc : ([] : List Value).all x_cat1 = true) (hc2 : r.all x_cat1 = true) (k : WP P 76 0 [some (.ref b), none] [] w (fun v w1 => WP P 119 15 lo (v.toList ++ r) w1 Q)) : WP P 119 12 lo (.ref b :: r) w Q := K_init (as := []) rfl rfl (by decide) rfl rfl (by decide) (by decide) rfl hr hc hc2 k
set_option maxRecDepth 20000 in
theorem wL_law_15 : WP P 119 15 lo (.ref a :: r) w Q ↔ (2 < lo.length ∧ WP P 119 16 (lo.set 2 (some (.ref a))) r w Q) := W_astore_n rfl rfl rfl
set_option maxRecDepth 20000 in
theorem wL_law_15n : WP P 119 15 lo (.null :: r) w Q ↔ (2 < lo.length ∧ WP P 119 16 (lo.set 2 (some .null)) r w Q) := W_astore_nN rfl rfl rfl
set_option maxRecDepth 20000 in
theorem wL_law_16 : WP P 119 16 lo st w Q ↔ WP P 119 17 lo (.int (xi 0) :: st) w Q := W_iconst rfl rfl rfl
set_option maxRecDepth 20000 in
theorem wL_law_17 : WP P 119 17 lo (.int x :: r) w Q ↔ (3 < lo.length ∧ WP P 119 18 (lo.set 3 (some (.int x))) r w Q) := W_istore_n rfl rfl rfl
set_option maxRecDepth 20000 in
theorem wL_law_18 : WP P 119 18 lo st w Q ↔ x_gi lo[3]? (fun x => WP P 119 19 lo (.int x :: st) w Q) := W_iload_n rfl rfl rfl
set_option maxRecDepth 20000 in
theorem wL_law_19 : WP P 119 19 lo st w Q ↔ x_ga lo[0]? (fun v => WP P 119 20 lo (v :: st) w Q) := W_aload_n rfl rfl rfl
set_option maxRecDepth 20000 in
theorem wL_law_21 : WP P 119 21 lo st w Q ↔ WP P 119 22 lo (.int (xi 5) :: st) w Q := W_iconst rfl rfl rfl
set_option maxRecDepth 20000 in
theorem wL_law_22 : WP P 119 22 lo (.int y :: .int x :: r) w Q ↔ WP P 119 23 lo (.int (x - y) :: r) w Q := W_isub rfl rfl
set_option maxRecDepth 20000 in
theorem wL_law_23 : WP P 119 23 lo (.int y :: .int x :: r) w Q ↔ (if y < x then WP P 119 878 lo r w Q else WP P 119 26 lo r w Q) := W_ic_gt rfl rfl rfl
set_option maxRecDepth 20000 in
theorem wL_law_26 : WP P 119 26 lo st w Q ↔ x_ga lo[0]? (fun v => WP P 119 27 lo (v :: st) w Q) := W_aload_n rfl rfl rfl
set_option maxRecDepth 20000 in
theorem wL_law_27 : WP P 119 27 lo st w Q ↔ x_gi lo[3]? (fun x => WP P 119 28 lo (.int x :: st) w Q) := W_iload_n rfl rfl rfl
set_option maxRecDepth 20000 in
theorem wL_law_29 : WP P 119 29 lo st w Q ↔ WP P 119 31 lo (.int (xi 31) :: st) w Q := W_bipush rfl rfl (by decide)
set_option maxRecDepth 20000 in
theorem wL_law_31 : WP P 119 31 lo (.int y :: .int x :: r) w Q ↔ WP P 119 32 lo (.int (x &&& y) :: r) w Q := W_iand rfl rfl
set_option maxRecDepth 20000 in
theorem wL_law_128 : WP P 119 128 lo st w Q ↔ x_ga lo[1]? (fun v => WP P 119 129 lo (v :: st) w Q) := W_aload_n rfl rfl rfl
set_option maxRecDepth 20000 in
theorem wL_law_129 : WP P 119 129 lo st w Q ↔ x_ga lo[0]? (fun v => WP P 119 130 lo (v :: st) w Q) := W_aload_n rfl rfl rfl
set_option maxRecDepth 20000 in
theorem wL_law_130 : WP P 119 130 lo st w Q ↔ x_gi lo[3]? (fun x => WP P 119 131 lo (.int x :: st) w Q) := W_iload_n rfl rfl rfl
set_option maxRecDepth 20000 in
theorem wL_law_131 : WP P 119 131 lo st w Q ↔ WP P 119 132 lo (.int (xi 1) :: st) w Q := W_iconst rfl rfl rfl
set_option maxRecDepth 20000 in
theorem wL_law_132 : WP P 119 132 lo (.int y :: .int x :: r) w Q ↔ WP P 119 133 lo (.int (x + y) :: r) w Q := W_iadd rfl rfl
set_option maxRecDepth 20000 in
theorem wL_law_134 : WP P 119 134 lo st w Q ↔ x_ga lo[0]? (fun v => WP P 119 135 lo (v :: st) w Q) := W_aload_n rfl rfl rfl
set_option maxRecDepth 20000 in
theorem wL_law_135 : WP P 119 135 lo st w Q ↔ x_gi lo[3]? (fun x => WP P 119 136 lo (.int x :: st) w Q) := W_iload_n rfl rfl rfl
set_option maxRecDepth 20000 in
theorem wL_law_136 : WP P 119 136 lo st w Q ↔ WP P 119 137 lo (.int (xi 2) :: st) w Q := W_iconst rfl rfl rfl
set_option maxRecDepth 20000 in
theorem wL_law_137 : WP P 119 137 lo (.int y :: .int x :: r) w Q ↔ WP P 119 138 lo (.int (x + y) :: r) w Q := W_iadd rfl rfl
set_option maxRecDepth 20000 in
theorem wL_law_139 : WP P 119 139 lo st w Q ↔ x_ga lo[0]? (fun v => WP P 119 140 lo (v :: st) w Q) := W_aload_n rfl rfl rfl
set_option maxRecDepth 20000 in
theorem wL_law_140 : WP P 119 140 lo st w Q ↔ x_gi lo[3]? (fun x => WP P 119 141 lo (.int x :: st) w Q) := W_iload_n rfl rfl rfl
set_option maxRecDepth 20000 in
theorem wL_law_141 : WP P 119 141 lo st w Q ↔ WP P 119 142 lo (.int (xi 3) :: st) w Q := W_iconst rfl rfl rfl
set_option maxRecDepth 20000 in
theorem wL_law_142 : WP P 119 142 lo (.int y :: .int x :: r) w Q ↔ WP P 119 143 lo (.int (x + y) :: r) w Q := W_iadd rfl rfl
set_option maxRecDepth 20000 in
theorem wL_law_144 : WP P 119 144 lo st w Q ↔ x_ga lo[0]? (fun v => WP P 119 145 lo (v :: st) w Q) := W_aload_n rfl rfl rfl
set_option maxRecDepth 20000 in
theorem wL_law_145 : WP P 119 145 lo st w Q ↔ x_gi lo[3]? (fun x => WP P 119 146 lo (.int x :: st) w Q) := W_iload_n rfl rfl rfl
set_option maxRecDepth 20000 in
theorem wL_law_146 : WP P 119 146 lo st w Q ↔ WP P 119 147 lo (.int (xi 4) :: st) w Q := W_iconst rfl rfl rfl
set_option maxRecDepth 20000 in
theorem wL_law_147 : WP P 119 147 lo (.int y :: .int x :: r) w Q ↔ WP P 119 148 lo (.int (x + y) :: r) w Q := W_iadd rfl rfl
set_option maxRecDepth 20000 in
theorem wL_law_149 {u1 u2 u3 u4 : Value} {b nb : Nat} (hb : x_tg w b = some (0, nb)) (hr : r.length ≤ 8) (hc : ([u1, u2, u3, u4] : List Value).all x_cat1 = true) (hc2 : r.all x_cat1 = true) (k : WP P 11 0 [some (.ref b), some u1, some u2, some u3, some u4, none, none, none, none, none, none] [] w (fun v w1 => WP P 119 152 lo (v.toList ++ r) w1 Q)) : WP P 119 149 lo (u4 :: u3 :: u2 :: u1 :: .ref b :: r) w Q := K_virt (as := [u1, u2, u3, u4]) rfl rfl rfl rfl (by decide) (by decide) rfl hb hr hc hc2 k
set_option maxRecDepth 20000 in
theorem wL_law_152 : WP P 119 152 lo st w Q ↔ x_ga lo[2]? (fun v => WP P 119 153 lo (v :: st) w Q) := W_aload_n rfl rfl rfl
set_option maxRecDepth 20000 in
theorem wL_law_153 : WP P 119 153 lo st w Q ↔ x_ga lo[0]? (fun v => WP P 119 154 lo (v :: st) w Q) := W_aload_n rfl rfl rfl
set_option maxRecDepth 20000 in
theorem wL_law_154 : WP P 119 154 lo st w Q ↔ x_gi lo[3]? (fun x => WP P 119 155 lo (.int x :: st) w Q) := W_iload_n rfl rfl rfl
set_option maxRecDepth 20000 in
theorem wL_law_155 : WP P 119 155 lo st w Q ↔ WP P 119 156 lo (.int (xi 1) :: st) w Q := W_iconst rfl rfl rfl
set_option maxRecDepth 20000 in
theorem wL_law_156 : WP P 119 156 lo (.int y :: .int x :: r) w Q ↔ WP P 119 157 lo (.int (x + y) :: r) w Q := W_iadd rfl rfl
set_option maxRecDepth 20000 in
theorem wL_law_158 : WP P 119 158 lo st w Q ↔ x_ga lo[0]? (fun v => WP P 119 159 lo (v :: st) w Q) := W_aload_n rfl rfl rfl
set_option maxRecDepth 20000 in
theorem wL_law_159 : WP P 119 159 lo st w Q ↔ x_gi lo[3]? (fun x => WP P 119 160 lo (.int x :: st) w Q) := W_iload_n rfl rfl rfl
set_option maxRecDepth 20000 in
theorem wL_law_160 : WP P 119 160 lo st w Q ↔ WP P 119 161 lo (.int (xi 2) :: st) w Q := W_iconst rfl rfl rfl
set_option maxRecDepth 20000 in
theorem wL_law_161 : WP P 119 161 lo (.int y :: .int x :: r) w Q ↔ WP P 119 162 lo (.int (x + y) :: r) w Q := W_iadd rfl rfl
set_option maxRecDepth 20000 in
theorem wL_law_163 : WP P 119 163 lo st w Q ↔ x_ga lo[0]? (fun v => WP P 119 164 lo (v :: st) w Q) := W_aload_n rfl rfl rfl
set_option maxRecDepth 20000 in
theorem wL_law_164 : WP P 119 164 lo st w Q ↔ x_gi lo[3]? (fun x => WP P 119 165 lo (.int x :: st) w Q) := W_iload_n rfl rfl rfl
set_option maxRecDepth 20000 in
theorem wL_law_165 : WP P 119 165 lo st w Q ↔ WP P 119 166 lo (.int (xi 3) :: st) w Q := W_iconst rfl rfl rfl
set_option maxRecDepth 20000 in
theorem wL_law_166 : WP P 119 166 lo (.int y :: .int x :: r) w Q ↔ WP P 119 167 lo (.int (x + y) :: r) w Q := W_iadd rfl rfl
set_option maxRecDepth 20000 in
theorem wL_law_168 : WP P 119 168 lo st w Q ↔ x_ga lo[0]? (fun v => WP P 119 169 lo (v :: st) w Q) := W_aload_n rfl rfl rfl
set_option maxRecDepth 20000 in
theorem wL_law_169 : WP P 119 169 lo st w Q ↔ x_gi lo[3]? (fun x => WP P 119 170 lo (.int x :: st) w Q) := W_iload_n rfl rfl rfl
set_option maxRecDepth 20000 in
theorem wL_law_170 : WP P 119 170 lo st w Q ↔ WP P 119 171 lo (.int (xi 4) :: st) w Q := W_iconst rfl rfl rfl
set_option maxRecDepth 20000 in
theorem wL_law_171 : WP P 119 171 lo (.int y :: .int x :: r) w Q ↔ WP P 119 172 lo (.int (x + y) :: r) w Q := W_iadd rfl rfl
set_option maxRecDepth 20000 in
theorem wL_law_173 {u1 u2 u3 u4 : Value} {b nb : Nat} (hb : x_tg w b = some (11, nb)) (hr : r.length ≤ 8) (hc : ([u1, u2, u3, u4] : List Value).all x_cat1 = true) (hc2 : r.all x_cat1 = true) (k : WP P 80 0 [some (.ref b), some u1, some u2, some u3, some u4, none, none, none, none] [] w (fun v w1 => WP P 119 176 lo (v.toList ++ r) w1 Q)) : WP P 119 173 lo (u4 :: u3 :: u2 :: u1 :: .ref b :: r) w Q := K_virt (as := [u1, u2, u3, u4]) rfl rfl rfl rfl (by decide) (by decide) rfl hb hr hc hc2 k
set_option maxRecDepth 20000 in
theorem wL_law_176 : WP P 119 176 lo (.int y :: .int x :: r) w Q ↔ (if x = y then WP P 119 872 lo r w Q else WP P 119 179 lo r w Q) := W_ic_eq rfl rfl rfl
set_option maxRecDepth 20000 in
theorem wL_law_179 : WP P 119 179 lo st w Q ↔ WP P 119 180 lo (.int (xi 0) :: st) w Q := W_iconst rfl rfl rfl
set_option maxRecDepth 20000 in
theorem wL_law_180 (h : x = 0 ∨ x = 1) : WP P 119 180 lo [.int x] w Q ↔ Q (some (.int x)) w := WP_ret rfl (if_pos (Or.inr ⟨rfl, h⟩))
set_option maxRecDepth 20000 in
theorem wL_law_181 : WP P 119 181 lo st w Q ↔ x_ga lo[1]? (fun v => WP P 119 182 lo (v :: st) w Q) := W_aload_n rfl rfl rfl
set_option maxRecDepth 20000 in
theorem wL_law_182 : WP P 119 182 lo st w Q ↔ x_ga lo[0]? (fun v => WP P 119 183 lo (v :: st) w Q) := W_aload_n rfl rfl rfl
set_option maxRecDepth 20000 in
theorem wL_law_183 : WP P 119 183 lo st w Q ↔ x_gi lo[3]? (fun x => WP P 119 184 lo (.int x :: st) w Q) := W_iload_n rfl rfl rfl
set_option maxRecDepth 20000 in
theorem wL_law_184 : WP P 119 184 lo st w Q ↔ WP P 119 185 lo (.int (xi 1) :: st) w Q := W_iconst rfl rfl rfl
set_option maxRecDepth 20000 in
theorem wL_law_185 : WP P 119 185 lo (.int y :: .int x :: r) w Q ↔ WP P 119 186 lo (.int (x + y) :: r) w Q := W_iadd rfl rfl
set_option maxRecDepth 20000 in
theorem wL_law_187 : WP P 119 187 lo st w Q ↔ x_ga lo[0]? (fun v => WP P 119 188 lo (v :: st) w Q) := W_aload_n rfl rfl rfl
set_option maxRecDepth 20000 in
theorem wL_law_188 : WP P 119 188 lo st w Q ↔ x_gi lo[3]? (fun x => WP P 119 189 lo (.int x :: st) w Q) := W_iload_n rfl rfl rfl
set_option maxRecDepth 20000 in
theorem wL_law_189 : WP P 119 189 lo st w Q ↔ WP P 119 190 lo (.int (xi 2) :: st) w Q := W_iconst rfl rfl rfl
set_option maxRecDepth 20000 in
theorem wL_law_190 : WP P 119 190 lo (.int y :: .int x :: r) w Q ↔ WP P 119 191 lo (.int (x + y) :: r) w Q := W_iadd rfl rfl
set_option maxRecDepth 20000 in
theorem wL_law_192 : WP P 119 192 lo st w Q ↔ x_ga lo[0]? (fun v => WP P 119 193 lo (v :: st) w Q) := W_aload_n rfl rfl rfl
set_option maxRecDepth 20000 in
theorem wL_law_193 : WP P 119 193 lo st w Q ↔ x_gi lo[3]? (fun x => WP P 119 194 lo (.int x :: st) w Q) := W_iload_n rfl rfl rfl
set_option maxRecDepth 20000 in
theorem wL_law_194 : WP P 119 194 lo st w Q ↔ WP P 119 195 lo (.int (xi 3) :: st) w Q := W_iconst rfl rfl rfl
set_option maxRecDepth 20000 in
theorem wL_law_195 : WP P 119 195 lo (.int y :: .int x :: r) w Q ↔ WP P 119 196 lo (.int (x + y) :: r) w Q := W_iadd rfl rfl
set_option maxRecDepth 20000 in
theorem wL_law_197 : WP P 119 197 lo st w Q ↔ x_ga lo[0]? (fun v => WP P 119 198 lo (v :: st) w Q) := W_aload_n rfl rfl rfl
set_option maxRecDepth 20000 in
theorem wL_law_198 : WP P 119 198 lo st w Q ↔ x_gi lo[3]? (fun x => WP P 119 199 lo (.int x :: st) w Q) := W_iload_n rfl rfl rfl
set_option maxRecDepth 20000 in
theorem wL_law_199 : WP P 119 199 lo st w Q ↔ WP P 119 200 lo (.int (xi 4) :: st) w Q := W_iconst rfl rfl rfl
set_option maxRecDepth 20000 in
theorem wL_law_200 : WP P 119 200 lo (.int y :: .int x :: r) w Q ↔ WP P 119 201 lo (.int (x + y) :: r) w Q := W_iadd rfl rfl
set_option maxRecDepth 20000 in
theorem wL_law_202 {u1 u2 u3 u4 : Value} {b nb : Nat} (hb : x_tg w b = some (0, nb)) (hr : r.length ≤ 8) (hc : ([u1, u2, u3, u4] : List Value).all x_cat1 = true) (hc2 : r.all x_cat1 = true) (k : WP P 25 0 [some (.ref b), some u1, some u2, some u3, some u4, none, none, none, none, none, none] [] w (fun v w1 => WP P 119 205 lo (v.toList ++ r) w1 Q)) : WP P 119 202 lo (u4 :: u3 :: u2 :: u1 :: .ref b :: r) w Q := K_virt (as := [u1, u2, u3, u4]) rfl rfl rfl rfl (by decide) (by decide) rfl hb hr hc hc2 k
set_option maxRecDepth 20000 in
theorem wL_law_205 : WP P 119 205 lo st w Q ↔ x_ga lo[2]? (fun v => WP P 119 206 lo (v :: st) w Q) := W_aload_n rfl rfl rfl
set_option maxRecDepth 20000 in
theorem wL_law_206 : WP P 119 206 lo st w Q ↔ x_ga lo[0]? (fun v => WP P 119 207 lo (v :: st) w Q) := W_aload_n rfl rfl rfl
set_option maxRecDepth 20000 in
theorem wL_law_207 : WP P 119 207 lo st w Q ↔ x_gi lo[3]? (fun x => WP P 119 208 lo (.int x :: st) w Q) := W_iload_n rfl rfl rfl
set_option maxRecDepth 20000 in
theorem wL_law_208 : WP P 119 208 lo st w Q ↔ WP P 119 209 lo (.int (xi 1) :: st) w Q := W_iconst rfl rfl rfl
set_option maxRecDepth 20000 in
theorem wL_law_209 : WP P 119 209 lo (.int y :: .int x :: r) w Q ↔ WP P 119 210 lo (.int (x + y) :: r) w Q := W_iadd rfl rfl
set_option maxRecDepth 20000 in
theorem wL_law_211 : WP P 119 211 lo st w Q ↔ x_ga lo[0]? (fun v => WP P 119 212 lo (v :: st) w Q) := W_aload_n rfl rfl rfl
set_option maxRecDepth 20000 in
theorem wL_law_212 : WP P 119 212 lo st w Q ↔ x_gi lo[3]? (fun x => WP P 119 213 lo (.int x :: st) w Q) := W_iload_n rfl rfl rfl
set_option maxRecDepth 20000 in
theorem wL_law_213 : WP P 119 213 lo st w Q ↔ WP P 119 214 lo (.int (xi 2) :: st) w Q := W_iconst rfl rfl rfl
set_option maxRecDepth 20000 in
theorem wL_law_214 : WP P 119 214 lo (.int y :: .int x :: r) w Q ↔ WP P 119 215 lo (.int (x + y) :: r) w Q := W_iadd rfl rfl
set_option maxRecDepth 20000 in
theorem wL_law_216 : WP P 119 216 lo st w Q ↔ x_ga lo[0]? (fun v => WP P 119 217 lo (v :: st) w Q) := W_aload_n rfl rfl rfl
set_option maxRecDepth 20000 in
theorem wL_law_217 : WP P 119 217 lo st w Q ↔ x_gi lo[3]? (fun x => WP P 119 218 lo (.int x :: st) w Q) := W_iload_n rfl rfl rfl
set_option maxRecDepth 20000 in
theorem wL_law_218 : WP P 119 218 lo st w Q ↔ WP P 119 219 lo (.int (xi 3) :: st) w Q := W_iconst rfl rfl rfl
set_option maxRecDepth 20000 in
theorem wL_law_219 : WP P 119 219 lo (.int y :: .int x :: r) w Q ↔ WP P 119 220 lo (.int (x + y) :: r) w Q := W_iadd rfl rfl
set_option maxRecDepth 20000 in
theorem wL_law_221 : WP P 119 221 lo st w Q ↔ x_ga lo[0]? (fun v => WP P 119 222 lo (v :: st) w Q) := W_aload_n rfl rfl rfl
set_option maxRecDepth 20000 in
theorem wL_law_222 : WP P 119 222 lo st w Q ↔ x_gi lo[3]? (fun x => WP P 119 223 lo (.int x :: st) w Q) := W_iload_n rfl rfl rfl
set_option maxRecDepth 20000 in
theorem wL_law_223 : WP P 119 223 lo st w Q ↔ WP P 119 224 lo (.int (xi 4) :: st) w Q := W_iconst rfl rfl rfl
set_option maxRecDepth 20000 in
theorem wL_law_224 : WP P 119 224 lo (.int y :: .int x :: r) w Q ↔ WP P 119 225 lo (.int (x + y) :: r) w Q := W_iadd rfl rfl
set_option maxRecDepth 20000 in
theorem wL_law_226 {u1 u2 u3 u4 : Value} {b nb : Nat} (hb : x_tg w b = some (11, nb)) (hr : r.length ≤ 8) (hc : ([u1, u2, u3, u4] : List Value).all x_cat1 = true) (hc2 : r.all x_cat1 = true) (k : WP P 88 0 [some (.ref b), some u1, some u2, some u3, some u4, none, none] [] w (fun v w1 => WP P 119 229 lo (v.toList ++ r) w1 Q)) : WP P 119 226 lo (u4 :: u3 :: u2 :: u1 :: .ref b :: r) w Q := K_virt (as := [u1, u2, u3, u4]) rfl rfl rfl rfl (by decide) (by decide) rfl hb hr hc hc2 k
set_option maxRecDepth 20000 in
theorem wL_law_229 : WP P 119 229 lo (.int y :: .int x :: r) w Q ↔ (if x = y then WP P 119 872 lo r w Q else WP P 119 232 lo r w Q) := W_ic_eq rfl rfl rfl
set_option maxRecDepth 20000 in
theorem wL_law_232 : WP P 119 232 lo st w Q ↔ WP P 119 233 lo (.int (xi 0) :: st) w Q := W_iconst rfl rfl rfl
set_option maxRecDepth 20000 in
theorem wL_law_233 (h : x = 0 ∨ x = 1) : WP P 119 233 lo [.int x] w Q ↔ Q (some (.int x)) w := WP_ret rfl (if_pos (Or.inr ⟨rfl, h⟩))
set_option maxRecDepth 20000 in
theorem wL_law_234 : WP P 119 234 lo st w Q ↔ x_ga lo[1]? (fun v => WP P 119 235 lo (v :: st) w Q) := W_aload_n rfl rfl rfl
set_option maxRecDepth 20000 in
theorem wL_law_235 : WP P 119 235 lo st w Q ↔ x_ga lo[0]? (fun v => WP P 119 236 lo (v :: st) w Q) := W_aload_n rfl rfl rfl
set_option maxRecDepth 20000 in
theorem wL_law_236 : WP P 119 236 lo st w Q ↔ x_gi lo[3]? (fun x => WP P 119 237 lo (.int x :: st) w Q) := W_iload_n rfl rfl rfl
set_option maxRecDepth 20000 in
theorem wL_law_237 : WP P 119 237 lo st w Q ↔ WP P 119 238 lo (.int (xi 1) :: st) w Q := W_iconst rfl rfl rfl
set_option maxRecDepth 20000 in
theorem wL_law_238 : WP P 119 238 lo (.int y :: .int x :: r) w Q ↔ WP P 119 239 lo (.int (x + y) :: r) w Q := W_iadd rfl rfl
set_option maxRecDepth 20000 in
theorem wL_law_240 : WP P 119 240 lo st w Q ↔ x_ga lo[0]? (fun v => WP P 119 241 lo (v :: st) w Q) := W_aload_n rfl rfl rfl
set_option maxRecDepth 20000 in
theorem wL_law_241 : WP P 119 241 lo st w Q ↔ x_gi lo[3]? (fun x => WP P 119 242 lo (.int x :: st) w Q) := W_iload_n rfl rfl rfl
set_option maxRecDepth 20000 in
theorem wL_law_242 : WP P 119 242 lo st w Q ↔ WP P 119 243 lo (.int (xi 2) :: st) w Q := W_iconst rfl rfl rfl
set_option maxRecDepth 20000 in
theorem wL_law_243 : WP P 119 243 lo (.int y :: .int x :: r) w Q ↔ WP P 119 244 lo (.int (x + y) :: r) w Q := W_iadd rfl rfl
set_option maxRecDepth 20000 in
theorem wL_law_245 {u1 u2 : Value} {b nb : Nat} (hb : x_tg w b = some (0, nb)) (hr : r.length ≤ 8) (hc : ([u1, u2] : List Value).all x_cat1 = true) (hc2 : r.all x_cat1 = true) (k : WP P 26 0 [some (.ref b), some u1, some u2, none, none, none] [] w (fun v w1 => WP P 119 248 lo (v.toList ++ r) w1 Q)) : WP P 119 245 lo (u2 :: u1 :: .ref b :: r) w Q := K_virt (as := [u1, u2]) rfl rfl rfl rfl (by decide) (by decide) rfl hb hr hc hc2 k
set_option maxRecDepth 20000 in
theorem wL_law_248 : WP P 119 248 lo st w Q ↔ x_ga lo[2]? (fun v => WP P 119 249 lo (v :: st) w Q) := W_aload_n rfl rfl rfl
set_option maxRecDepth 20000 in
theorem wL_law_249 : WP P 119 249 lo st w Q ↔ x_ga lo[0]? (fun v => WP P 119 250 lo (v :: st) w Q) := W_aload_n rfl rfl rfl
set_option maxRecDepth 20000 in
theorem wL_law_250 : WP P 119 250 lo st w Q ↔ x_gi lo[3]? (fun x => WP P 119 251 lo (.int x :: st) w Q) := W_iload_n rfl rfl rfl
set_option maxRecDepth 20000 in
theorem wL_law_251 : WP P 119 251 lo st w Q ↔ WP P 119 252 lo (.int (xi 1) :: st) w Q := W_iconst rfl rfl rfl
set_option maxRecDepth 20000 in
theorem wL_law_252 : WP P 119 252 lo (.int y :: .int x :: r) w Q ↔ WP P 119 253 lo (.int (x + y) :: r) w Q := W_iadd rfl rfl
set_option maxRecDepth 20000 in
theorem wL_law_254 : WP P 119 254 lo st w Q ↔ x_ga lo[0]? (fun v => WP P 119 255 lo (v :: st) w Q) := W_aload_n rfl rfl rfl
set_option maxRecDepth 20000 in
theorem wL_law_255 : WP P 119 255 lo st w Q ↔ x_gi lo[3]? (fun x => WP P 119 256 lo (.int x :: st) w Q) := W_iload_n rfl rfl rfl
set_option maxRecDepth 20000 in
theorem wL_law_256 : WP P 119 256 lo st w Q ↔ WP P 119 257 lo (.int (xi 2) :: st) w Q := W_iconst rfl rfl rfl
set_option maxRecDepth 20000 in
theorem wL_law_257 : WP P 119 257 lo (.int y :: .int x :: r) w Q ↔ WP P 119 258 lo (.int (x + y) :: r) w Q := W_iadd rfl rfl
set_option maxRecDepth 20000 in
theorem wL_law_259 {u1 u2 : Value} {b nb : Nat} (hb : x_tg w b = some (11, nb)) (hr : r.length ≤ 8) (hc : ([u1, u2] : List Value).all x_cat1 = true) (hc2 : r.all x_cat1 = true) (k : WP P 89 0 [some (.ref b), some u1, some u2, none, none, none] [] w (fun v w1 => WP P 119 262 lo (v.toList ++ r) w1 Q)) : WP P 119 259 lo (u2 :: u1 :: .ref b :: r) w Q := K_virt (as := [u1, u2]) rfl rfl rfl rfl (by decide) (by decide) rfl hb hr hc hc2 k
set_option maxRecDepth 20000 in
theorem wL_law_262 : WP P 119 262 lo (.int y :: .int x :: r) w Q ↔ (if x = y then WP P 119 872 lo r w Q else WP P 119 265 lo r w Q) := W_ic_eq rfl rfl rfl
set_option maxRecDepth 20000 in
theorem wL_law_265 : WP P 119 265 lo st w Q ↔ WP P 119 266 lo (.int (xi 0) :: st) w Q := W_iconst rfl rfl rfl
set_option maxRecDepth 20000 in
theorem wL_law_266 (h : x = 0 ∨ x = 1) : WP P 119 266 lo [.int x] w Q ↔ Q (some (.int x)) w := WP_ret rfl (if_pos (Or.inr ⟨rfl, h⟩))
set_option maxRecDepth 20000 in
theorem wL_law_267 : WP P 119 267 lo st w Q ↔ x_ga lo[1]? (fun v => WP P 119 268 lo (v :: st) w Q) := W_aload_n rfl rfl rfl
set_option maxRecDepth 20000 in
theorem wL_law_268 : WP P 119 268 lo st w Q ↔ x_ga lo[0]? (fun v => WP P 119 269 lo (v :: st) w Q) := W_aload_n rfl rfl rfl
set_option maxRecDepth 20000 in
theorem wL_law_269 : WP P 119 269 lo st w Q ↔ x_gi lo[3]? (fun x => WP P 119 270 lo (.int x :: st) w Q) := W_iload_n rfl rfl rfl
set_option maxRecDepth 20000 in
theorem wL_law_270 : WP P 119 270 lo st w Q ↔ WP P 119 271 lo (.int (xi 1) :: st) w Q := W_iconst rfl rfl rfl
set_option maxRecDepth 20000 in
theorem wL_law_271 : WP P 119 271 lo (.int y :: .int x :: r) w Q ↔ WP P 119 272 lo (.int (x + y) :: r) w Q := W_iadd rfl rfl
set_option maxRecDepth 20000 in
theorem wL_law_273 {u1 : Value} {b nb : Nat} (hb : x_tg w b = some (0, nb)) (hr : r.length ≤ 8) (hc : ([u1] : List Value).all x_cat1 = true) (hc2 : r.all x_cat1 = true) (k : WP P 27 0 [some (.ref b), some u1, none, none] [] w (fun v w1 => WP P 119 276 lo (v.toList ++ r) w1 Q)) : WP P 119 273 lo (u1 :: .ref b :: r) w Q := K_virt (as := [u1]) rfl rfl rfl rfl (by decide) (by decide) rfl hb hr hc hc2 k
set_option maxRecDepth 20000 in
theorem wL_law_276 : WP P 119 276 lo st w Q ↔ x_ga lo[2]? (fun v => WP P 119 277 lo (v :: st) w Q) := W_aload_n rfl rfl rfl
set_option maxRecDepth 20000 in
theorem wL_law_277 : WP P 119 277 lo st w Q ↔ x_ga lo[0]? (fun v => WP P 119 278 lo (v :: st) w Q) := W_aload_n rfl rfl rfl
set_option maxRecDepth 20000 in
theorem wL_law_278 : WP P 119 278 lo st w Q ↔ x_gi lo[3]? (fun x => WP P 119 279 lo (.int x :: st) w Q) := W_iload_n rfl rfl rfl
set_option maxRecDepth 20000 in
theorem wL_law_279 : WP P 119 279 lo st w Q ↔ WP P 119 280 lo (.int (xi 1) :: st) w Q := W_iconst rfl rfl rfl
set_option maxRecDepth 20000 in
theorem wL_law_280 : WP P 119 280 lo (.int y :: .int x :: r) w Q ↔ WP P 119 281 lo (.int (x + y) :: r) w Q := W_iadd rfl rfl
set_option maxRecDepth 20000 in
theorem wL_law_282 {u1 : Value} {b nb : Nat} (hb : x_tg w b = some (11, nb)) (hr : r.length ≤ 8) (hc : ([u1] : List Value).all x_cat1 = true) (hc2 : r.all x_cat1 = true) (k : WP P 90 0 [some (.ref b), some u1, none] [] w (fun v w1 => WP P 119 285 lo (v.toList ++ r) w1 Q)) : WP P 119 282 lo (u1 :: .ref b :: r) w Q := K_virt (as := [u1]) rfl rfl rfl rfl (by decide) (by decide) rfl hb hr hc hc2 k
set_option maxRecDepth 20000 in
theorem wL_law_285 : WP P 119 285 lo (.int y :: .int x :: r) w Q ↔ (if x = y then WP P 119 872 lo r w Q else WP P 119 288 lo r w Q) := W_ic_eq rfl rfl rfl
set_option maxRecDepth 20000 in
theorem wL_law_288 : WP P 119 288 lo st w Q ↔ WP P 119 289 lo (.int (xi 0) :: st) w Q := W_iconst rfl rfl rfl
set_option maxRecDepth 20000 in
theorem wL_law_289 (h : x = 0 ∨ x = 1) : WP P 119 289 lo [.int x] w Q ↔ Q (some (.int x)) w := WP_ret rfl (if_pos (Or.inr ⟨rfl, h⟩))
set_option maxRecDepth 20000 in
theorem wL_law_290 : WP P 119 290 lo st w Q ↔ x_ga lo[1]? (fun v => WP P 119 291 lo (v :: st) w Q) := W_aload_n rfl rfl rfl
set_option maxRecDepth 20000 in
theorem wL_law_291 : WP P 119 291 lo st w Q ↔ x_ga lo[0]? (fun v => WP P 119 292 lo (v :: st) w Q) := W_aload_n rfl rfl rfl
set_option maxRecDepth 20000 in
theorem wL_law_292 : WP P 119 292 lo st w Q ↔ x_gi lo[3]? (fun x => WP P 119 293 lo (.int x :: st) w Q) := W_iload_n rfl rfl rfl
set_option maxRecDepth 20000 in
theorem wL_law_293 : WP P 119 293 lo st w Q ↔ WP P 119 294 lo (.int (xi 1) :: st) w Q := W_iconst rfl rfl rfl
set_option maxRecDepth 20000 in
theorem wL_law_294 : WP P 119 294 lo (.int y :: .int x :: r) w Q ↔ WP P 119 295 lo (.int (x + y) :: r) w Q := W_iadd rfl rfl
set_option maxRecDepth 20000 in
theorem wL_law_296 {u1 : Value} {b nb : Nat} (hb : x_tg w b = some (0, nb)) (hr : r.length ≤ 8) (hc : ([u1] : List Value).all x_cat1 = true) (hc2 : r.all x_cat1 = true) (k : WP P 40 0 [some (.ref b), some u1, none, none, none, none] [] w (fun v w1 => WP P 119 299 lo (v.toList ++ r) w1 Q)) : WP P 119 296 lo (u1 :: .ref b :: r) w Q := K_virt (as := [u1]) rfl rfl rfl rfl (by decide) (by decide) rfl hb hr hc hc2 k
set_option maxRecDepth 20000 in
theorem wL_law_299 : WP P 119 299 lo st w Q ↔ x_ga lo[2]? (fun v => WP P 119 300 lo (v :: st) w Q) := W_aload_n rfl rfl rfl
set_option maxRecDepth 20000 in
theorem wL_law_300 : WP P 119 300 lo st w Q ↔ x_ga lo[0]? (fun v => WP P 119 301 lo (v :: st) w Q) := W_aload_n rfl rfl rfl
set_option maxRecDepth 20000 in
theorem wL_law_301 : WP P 119 301 lo st w Q ↔ x_gi lo[3]? (fun x => WP P 119 302 lo (.int x :: st) w Q) := W_iload_n rfl rfl rfl
set_option maxRecDepth 20000 in
theorem wL_law_302 : WP P 119 302 lo st w Q ↔ WP P 119 303 lo (.int (xi 1) :: st) w Q := W_iconst rfl rfl rfl
set_option maxRecDepth 20000 in
theorem wL_law_303 : WP P 119 303 lo (.int y :: .int x :: r) w Q ↔ WP P 119 304 lo (.int (x + y) :: r) w Q := W_iadd rfl rfl
set_option maxRecDepth 20000 in
theorem wL_law_305 {u1 : Value} {b nb : Nat} (hb : x_tg w b = some (11, nb)) (hr : r.length ≤ 8) (hc : ([u1] : List Value).all x_cat1 = true) (hc2 : r.all x_cat1 = true) (k : WP P 94 0 [some (.ref b), some u1, none, none, none, none] [] w (fun v w1 => WP P 119 308 lo (v.toList ++ r) w1 Q)) : WP P 119 305 lo (u1 :: .ref b :: r) w Q := K_virt (as := [u1]) rfl rfl rfl rfl (by decide) (by decide) rfl hb hr hc hc2 k
set_option maxRecDepth 20000 in
theorem wL_law_308 : WP P 119 308 lo (.int y :: .int x :: r) w Q ↔ (if x = y then WP P 119 872 lo r w Q else WP P 119 311 lo r w Q) := W_ic_eq rfl rfl rfl
set_option maxRecDepth 20000 in
theorem wL_law_311 : WP P 119 311 lo st w Q ↔ WP P 119 312 lo (.int (xi 0) :: st) w Q := W_iconst rfl rfl rfl
set_option maxRecDepth 20000 in
theorem wL_law_312 (h : x = 0 ∨ x = 1) : WP P 119 312 lo [.int x] w Q ↔ Q (some (.int x)) w := WP_ret rfl (if_pos (Or.inr ⟨rfl, h⟩))
set_option maxRecDepth 20000 in
theorem wL_law_313 : WP P 119 313 lo st w Q ↔ x_ga lo[1]? (fun v => WP P 119 314 lo (v :: st) w Q) := W_aload_n rfl rfl rfl
set_option maxRecDepth 20000 in
theorem wL_law_314 : WP P 119 314 lo st w Q ↔ x_ga lo[0]? (fun v => WP P 119 315 lo (v :: st) w Q) := W_aload_n rfl rfl rfl
set_option maxRecDepth 20000 in
theorem wL_law_315 : WP P 119 315 lo st w Q ↔ x_gi lo[3]? (fun x => WP P 119 316 lo (.int x :: st) w Q) := W_iload_n rfl rfl rfl
set_option maxRecDepth 20000 in
theorem wL_law_316 : WP P 119 316 lo st w Q ↔ WP P 119 317 lo (.int (xi 1) :: st) w Q := W_iconst rfl rfl rfl
set_option maxRecDepth 20000 in
theorem wL_law_317 : WP P 119 317 lo (.int y :: .int x :: r) w Q ↔ WP P 119 318 lo (.int (x + y) :: r) w Q := W_iadd rfl rfl
set_option maxRecDepth 20000 in
theorem wL_law_319 : WP P 119 319 lo st w Q ↔ x_ga lo[0]? (fun v => WP P 119 320 lo (v :: st) w Q) := W_aload_n rfl rfl rfl
set_option maxRecDepth 20000 in
theorem wL_law_320 : WP P 119 320 lo st w Q ↔ x_gi lo[3]? (fun x => WP P 119 321 lo (.int x :: st) w Q) := W_iload_n rfl rfl rfl
set_option maxRecDepth 20000 in
theorem wL_law_321 : WP P 119 321 lo st w Q ↔ WP P 119 322 lo (.int (xi 2) :: st) w Q := W_iconst rfl rfl rfl
set_option maxRecDepth 20000 in
theorem wL_law_322 : WP P 119 322 lo (.int y :: .int x :: r) w Q ↔ WP P 119 323 lo (.int (x + y) :: r) w Q := W_iadd rfl rfl
set_option maxRecDepth 20000 in
theorem wL_law_324 : WP P 119 324 lo st w Q ↔ x_ga lo[0]? (fun v => WP P 119 325 lo (v :: st) w Q) := W_aload_n rfl rfl rfl
set_option maxRecDepth 20000 in
theorem wL_law_325 : WP P 119 325 lo st w Q ↔ x_gi lo[3]? (fun x => WP P 119 326 lo (.int x :: st) w Q) := W_iload_n rfl rfl rfl
set_option maxRecDepth 20000 in
theorem wL_law_326 : WP P 119 326 lo st w Q ↔ WP P 119 327 lo (.int (xi 3) :: st) w Q := W_iconst rfl rfl rfl
set_option maxRecDepth 20000 in
theorem wL_law_327 : WP P 119 327 lo (.int y :: .int x :: r) w Q ↔ WP P 119 328 lo (.int (x + y) :: r) w Q := W_iadd rfl rfl
set_option maxRecDepth 20000 in
theorem wL_law_329 : WP P 119 329 lo st w Q ↔ x_ga lo[0]? (fun v => WP P 119 330 lo (v :: st) w Q) := W_aload_n rfl rfl rfl
set_option maxRecDepth 20000 in
theorem wL_law_330 : WP P 119 330 lo st w Q ↔ x_gi lo[3]? (fun x => WP P 119 331 lo (.int x :: st) w Q) := W_iload_n rfl rfl rfl
set_option maxRecDepth 20000 in
theorem wL_law_331 : WP P 119 331 lo st w Q ↔ WP P 119 332 lo (.int (xi 4) :: st) w Q := W_iconst rfl rfl rfl
set_option maxRecDepth 20000 in
theorem wL_law_332 : WP P 119 332 lo (.int y :: .int x :: r) w Q ↔ WP P 119 333 lo (.int (x + y) :: r) w Q := W_iadd rfl rfl
set_option maxRecDepth 20000 in
theorem wL_law_334 {u1 u2 u3 u4 : Value} {b nb : Nat} (hb : x_tg w b = some (0, nb)) (hr : r.length ≤ 8) (hc : ([u1, u2, u3, u4] : List Value).all x_cat1 = true) (hc2 : r.all x_cat1 = true) (k : WP P 42 0 [some (.ref b), some u1, some u2, some u3, some u4, none, none, none, none] [] w (fun v w1 => WP P 119 337 lo (v.toList ++ r) w1 Q)) : WP P 119 334 lo (u4 :: u3 :: u2 :: u1 :: .ref b :: r) w Q := K_virt (as := [u1, u2, u3, u4]) rfl rfl rfl rfl (by decide) (by decide) rfl hb hr hc hc2 k
set_option maxRecDepth 20000 in
theorem wL_law_337 : WP P 119 337 lo st w Q ↔ x_ga lo[2]? (fun v => WP P 119 338 lo (v :: st) w Q) := W_aload_n rfl rfl rfl
set_option maxRecDepth 20000 in
theorem wL_law_338 : WP P 119 338 lo st w Q ↔ x_ga lo[0]? (fun v => WP P 119 339 lo (v :: st) w Q) := W_aload_n rfl rfl rfl
set_option maxRecDepth 20000 in
theorem wL_law_339 : WP P 119 339 lo st w Q ↔ x_gi lo[3]? (fun x => WP P 119 340 lo (.int x :: st) w Q) := W_iload_n rfl rfl rfl
set_option maxRecDepth 20000 in
theorem wL_law_340 : WP P 119 340 lo st w Q ↔ WP P 119 341 lo (.int (xi 1) :: st) w Q := W_iconst rfl rfl rfl
set_option maxRecDepth 20000 in
theorem wL_law_341 : WP P 119 341 lo (.int y :: .int x :: r) w Q ↔ WP P 119 342 lo (.int (x + y) :: r) w Q := W_iadd rfl rfl
set_option maxRecDepth 20000 in
theorem wL_law_343 : WP P 119 343 lo st w Q ↔ x_ga lo[0]? (fun v => WP P 119 344 lo (v :: st) w Q) := W_aload_n rfl rfl rfl
set_option maxRecDepth 20000 in
theorem wL_law_344 : WP P 119 344 lo st w Q ↔ x_gi lo[3]? (fun x => WP P 119 345 lo (.int x :: st) w Q) := W_iload_n rfl rfl rfl
set_option maxRecDepth 20000 in
theorem wL_law_345 : WP P 119 345 lo st w Q ↔ WP P 119 346 lo (.int (xi 2) :: st) w Q := W_iconst rfl rfl rfl
set_option maxRecDepth 20000 in
theorem wL_law_346 : WP P 119 346 lo (.int y :: .int x :: r) w Q ↔ WP P 119 347 lo (.int (x + y) :: r) w Q := W_iadd rfl rfl
set_option maxRecDepth 20000 in
theorem wL_law_348 : WP P 119 348 lo st w Q ↔ x_ga lo[0]? (fun v => WP P 119 349 lo (v :: st) w Q) := W_aload_n rfl rfl rfl
set_option maxRecDepth 20000 in
theorem wL_law_349 : WP P 119 349 lo st w Q ↔ x_gi lo[3]? (fun x => WP P 119 350 lo (.int x :: st) w Q) := W_iload_n rfl rfl rfl
set_option maxRecDepth 20000 in
theorem wL_law_350 : WP P 119 350 lo st w Q ↔ WP P 119 351 lo (.int (xi 3) :: st) w Q := W_iconst rfl rfl rfl
set_option maxRecDepth 20000 in
theorem wL_law_351 : WP P 119 351 lo (.int y :: .int x :: r) w Q ↔ WP P 119 352 lo (.int (x + y) :: r) w Q := W_iadd rfl rfl
set_option maxRecDepth 20000 in
theorem wL_law_353 : WP P 119 353 lo st w Q ↔ x_ga lo[0]? (fun v => WP P 119 354 lo (v :: st) w Q) := W_aload_n rfl rfl rfl
set_option maxRecDepth 20000 in
theorem wL_law_354 : WP P 119 354 lo st w Q ↔ x_gi lo[3]? (fun x => WP P 119 355 lo (.int x :: st) w Q) := W_iload_n rfl rfl rfl
set_option maxRecDepth 20000 in
theorem wL_law_355 : WP P 119 355 lo st w Q ↔ WP P 119 356 lo (.int (xi 4) :: st) w Q := W_iconst rfl rfl rfl
set_option maxRecDepth 20000 in
theorem wL_law_356 : WP P 119 356 lo (.int y :: .int x :: r) w Q ↔ WP P 119 357 lo (.int (x + y) :: r) w Q := W_iadd rfl rfl
set_option maxRecDepth 20000 in
theorem wL_law_358 {u1 u2 u3 u4 : Value} {b nb : Nat} (hb : x_tg w b = some (11, nb)) (hr : r.length ≤ 8) (hc : ([u1, u2, u3, u4] : List Value).all x_cat1 = true) (hc2 : r.all x_cat1 = true) (k : WP P 95 0 [some (.ref b), some u1, some u2, some u3, some u4, none, none, none, none] [] w (fun v w1 => WP P 119 361 lo (v.toList ++ r) w1 Q)) : WP P 119 358 lo (u4 :: u3 :: u2 :: u1 :: .ref b :: r) w Q := K_virt (as := [u1, u2, u3, u4]) rfl rfl rfl rfl (by decide) (by decide) rfl hb hr hc hc2 k
set_option maxRecDepth 20000 in
theorem wL_law_361 : WP P 119 361 lo (.int y :: .int x :: r) w Q ↔ (if x = y then WP P 119 872 lo r w Q else WP P 119 364 lo r w Q) := W_ic_eq rfl rfl rfl
set_option maxRecDepth 20000 in
theorem wL_law_364 : WP P 119 364 lo st w Q ↔ WP P 119 365 lo (.int (xi 0) :: st) w Q := W_iconst rfl rfl rfl
set_option maxRecDepth 20000 in
theorem wL_law_365 (h : x = 0 ∨ x = 1) : WP P 119 365 lo [.int x] w Q ↔ Q (some (.int x)) w := WP_ret rfl (if_pos (Or.inr ⟨rfl, h⟩))
set_option maxRecDepth 20000 in
theorem wL_law_366 : WP P 119 366 lo st w Q ↔ x_ga lo[1]? (fun v => WP P 119 367 lo (v :: st) w Q) := W_aload_n rfl rfl rfl
set_option maxRecDepth 20000 in
theorem wL_law_367 : WP P 119 367 lo st w Q ↔ x_ga lo[0]? (fun v => WP P 119 368 lo (v :: st) w Q) := W_aload_n rfl rfl rfl
set_option maxRecDepth 20000 in
theorem wL_law_368 : WP P 119 368 lo st w Q ↔ x_gi lo[3]? (fun x => WP P 119 369 lo (.int x :: st) w Q) := W_iload_n rfl rfl rfl
set_option maxRecDepth 20000 in
theorem wL_law_369 : WP P 119 369 lo st w Q ↔ WP P 119 370 lo (.int (xi 1) :: st) w Q := W_iconst rfl rfl rfl
set_option maxRecDepth 20000 in
theorem wL_law_370 : WP P 119 370 lo (.int y :: .int x :: r) w Q ↔ WP P 119 371 lo (.int (x + y) :: r) w Q := W_iadd rfl rfl
set_option maxRecDepth 20000 in
theorem wL_law_372 : WP P 119 372 lo st w Q ↔ x_ga lo[0]? (fun v => WP P 119 373 lo (v :: st) w Q) := W_aload_n rfl rfl rfl
set_option maxRecDepth 20000 in
theorem wL_law_373 : WP P 119 373 lo st w Q ↔ x_gi lo[3]? (fun x => WP P 119 374 lo (.int x :: st) w Q) := W_iload_n rfl rfl rfl
set_option maxRecDepth 20000 in
theorem wL_law_374 : WP P 119 374 lo st w Q ↔ WP P 119 375 lo (.int (xi 2) :: st) w Q := W_iconst rfl rfl rfl
set_option maxRecDepth 20000 in
theorem wL_law_375 : WP P 119 375 lo (.int y :: .int x :: r) w Q ↔ WP P 119 376 lo (.int (x + y) :: r) w Q := W_iadd rfl rfl
set_option maxRecDepth 20000 in
theorem wL_law_377 : WP P 119 377 lo (.int x :: r) w Q ↔ (if x = xi 0 then WP P 119 384 lo r w Q else WP P 119 380 lo r w Q) := W_if_eq rfl rfl rfl
set_option maxRecDepth 20000 in
theorem wL_law_380 : WP P 119 380 lo st w Q ↔ WP P 119 381 lo (.int (xi 1) :: st) w Q := W_iconst rfl rfl rfl
set_option maxRecDepth 20000 in
theorem wL_law_381 : WP P 119 381 lo st w Q ↔ WP P 119 385 lo st w Q := W_goto rfl rfl
set_option maxRecDepth 20000 in
theorem wL_law_384 : WP P 119 384 lo st w Q ↔ WP P 119 385 lo (.int (xi 0) :: st) w Q := W_iconst rfl rfl rfl
set_option maxRecDepth 20000 in
theorem wL_law_385 {u1 u2 : Value} {b nb : Nat} (hb : x_tg w b = some (0, nb)) (hr : r.length ≤ 8) (hc : ([u1, u2] : List Value).all x_cat1 = true) (hc2 : r.all x_cat1 = true) (k : WP P 47 0 [some (.ref b), some u1, some u2, none, none] [] w (fun v w1 => WP P 119 388 lo (v.toList ++ r) w1 Q)) : WP P 119 385 lo (u2 :: u1 :: .ref b :: r) w Q := K_virt (as := [u1, u2]) rfl rfl rfl rfl (by decide) (by decide) rfl hb hr hc hc2 k
set_option maxRecDepth 20000 in
theorem wL_law_388 : WP P 119 388 lo st w Q ↔ x_ga lo[2]? (fun v => WP P 119 389 lo (v :: st) w Q) := W_aload_n rfl rfl rfl
set_option maxRecDepth 20000 in
theorem wL_law_389 : WP P 119 389 lo st w Q ↔ x_ga lo[0]? (fun v => WP P 119 390 lo (v :: st) w Q) := W_aload_n rfl rfl rfl
set_option maxRecDepth 20000 in
theorem wL_law_390 : WP P 119 390 lo st w Q ↔ x_gi lo[3]? (fun x => WP P 119 391 lo (.int x :: st) w Q) := W_iload_n rfl rfl rfl
set_option maxRecDepth 20000 in
theorem wL_law_391 : WP P 119 391 lo st w Q ↔ WP P 119 392 lo (.int (xi 1) :: st) w Q := W_iconst rfl rfl rfl
set_option maxRecDepth 20000 in
theorem wL_law_392 : WP P 119 392 lo (.int y :: .int x :: r) w Q ↔ WP P 119 393 lo (.int (x + y) :: r) w Q := W_iadd rfl rfl
set_option maxRecDepth 20000 in
theorem wL_law_394 : WP P 119 394 lo st w Q ↔ x_ga lo[0]? (fun v => WP P 119 395 lo (v :: st) w Q) := W_aload_n rfl rfl rfl
set_option maxRecDepth 20000 in
theorem wL_law_395 : WP P 119 395 lo st w Q ↔ x_gi lo[3]? (fun x => WP P 119 396 lo (.int x :: st) w Q) := W_iload_n rfl rfl rfl
set_option maxRecDepth 20000 in
theorem wL_law_396 : WP P 119 396 lo st w Q ↔ WP P 119 397 lo (.int (xi 2) :: st) w Q := W_iconst rfl rfl rfl
set_option maxRecDepth 20000 in
theorem wL_law_397 : WP P 119 397 lo (.int y :: .int x :: r) w Q ↔ WP P 119 398 lo (.int (x + y) :: r) w Q := W_iadd rfl rfl
set_option maxRecDepth 20000 in
theorem wL_law_399 : WP P 119 399 lo (.int x :: r) w Q ↔ (if x = xi 0 then WP P 119 406 lo r w Q else WP P 119 402 lo r w Q) := W_if_eq rfl rfl rfl
set_option maxRecDepth 20000 in
theorem wL_law_402 : WP P 119 402 lo st w Q ↔ WP P 119 403 lo (.int (xi 1) :: st) w Q := W_iconst rfl rfl rfl
set_option maxRecDepth 20000 in
theorem wL_law_403 : WP P 119 403 lo st w Q ↔ WP P 119 407 lo st w Q := W_goto rfl rfl
set_option maxRecDepth 20000 in
theorem wL_law_406 : WP P 119 406 lo st w Q ↔ WP P 119 407 lo (.int (xi 0) :: st) w Q := W_iconst rfl rfl rfl
set_option maxRecDepth 20000 in
theorem wL_law_407 {u1 u2 : Value} {b nb : Nat} (hb : x_tg w b = some (11, nb)) (hr : r.length ≤ 8) (hc : ([u1, u2] : List Value).all x_cat1 = true) (hc2 : r.all x_cat1 = true) (k : WP P 96 0 [some (.ref b), some u1, some u2, none, none] [] w (fun v w1 => WP P 119 410 lo (v.toList ++ r) w1 Q)) : WP P 119 407 lo (u2 :: u1 :: .ref b :: r) w Q := K_virt (as := [u1, u2]) rfl rfl rfl rfl (by decide) (by decide) rfl hb hr hc hc2 k
set_option maxRecDepth 20000 in
theorem wL_law_410 : WP P 119 410 lo (.int y :: .int x :: r) w Q ↔ (if x = y then WP P 119 872 lo r w Q else WP P 119 413 lo r w Q) := W_ic_eq rfl rfl rfl
set_option maxRecDepth 20000 in
theorem wL_law_413 : WP P 119 413 lo st w Q ↔ WP P 119 414 lo (.int (xi 0) :: st) w Q := W_iconst rfl rfl rfl
set_option maxRecDepth 20000 in
theorem wL_law_414 (h : x = 0 ∨ x = 1) : WP P 119 414 lo [.int x] w Q ↔ Q (some (.int x)) w := WP_ret rfl (if_pos (Or.inr ⟨rfl, h⟩))
set_option maxRecDepth 20000 in
theorem wL_law_415 : WP P 119 415 lo st w Q ↔ x_ga lo[1]? (fun v => WP P 119 416 lo (v :: st) w Q) := W_aload_n rfl rfl rfl
set_option maxRecDepth 20000 in
theorem wL_law_416 : WP P 119 416 lo st w Q ↔ x_ga lo[0]? (fun v => WP P 119 417 lo (v :: st) w Q) := W_aload_n rfl rfl rfl
set_option maxRecDepth 20000 in
theorem wL_law_417 : WP P 119 417 lo st w Q ↔ x_gi lo[3]? (fun x => WP P 119 418 lo (.int x :: st) w Q) := W_iload_n rfl rfl rfl
set_option maxRecDepth 20000 in
theorem wL_law_418 : WP P 119 418 lo st w Q ↔ WP P 119 419 lo (.int (xi 1) :: st) w Q := W_iconst rfl rfl rfl
set_option maxRecDepth 20000 in
theorem wL_law_419 : WP P 119 419 lo (.int y :: .int x :: r) w Q ↔ WP P 119 420 lo (.int (x + y) :: r) w Q := W_iadd rfl rfl
set_option maxRecDepth 20000 in
theorem wL_law_421 : WP P 119 421 lo st w Q ↔ x_ga lo[0]? (fun v => WP P 119 422 lo (v :: st) w Q) := W_aload_n rfl rfl rfl
set_option maxRecDepth 20000 in
theorem wL_law_422 : WP P 119 422 lo st w Q ↔ x_gi lo[3]? (fun x => WP P 119 423 lo (.int x :: st) w Q) := W_iload_n rfl rfl rfl
set_option maxRecDepth 20000 in
theorem wL_law_423 : WP P 119 423 lo st w Q ↔ WP P 119 424 lo (.int (xi 2) :: st) w Q := W_iconst rfl rfl rfl
set_option maxRecDepth 20000 in
theorem wL_law_424 : WP P 119 424 lo (.int y :: .int x :: r) w Q ↔ WP P 119 425 lo (.int (x + y) :: r) w Q := W_iadd rfl rfl
set_option maxRecDepth 20000 in
theorem wL_law_426 : WP P 119 426 lo st w Q ↔ x_ga lo[0]? (fun v => WP P 119 427 lo (v :: st) w Q) := W_aload_n rfl rfl rfl
set_option maxRecDepth 20000 in
theorem wL_law_427 : WP P 119 427 lo st w Q ↔ x_gi lo[3]? (fun x => WP P 119 428 lo (.int x :: st) w Q) := W_iload_n rfl rfl rfl
set_option maxRecDepth 20000 in
theorem wL_law_428 : WP P 119 428 lo st w Q ↔ WP P 119 429 lo (.int (xi 3) :: st) w Q := W_iconst rfl rfl rfl
set_option maxRecDepth 20000 in
theorem wL_law_429 : WP P 119 429 lo (.int y :: .int x :: r) w Q ↔ WP P 119 430 lo (.int (x + y) :: r) w Q := W_iadd rfl rfl
set_option maxRecDepth 20000 in
theorem wL_law_431 : WP P 119 431 lo st w Q ↔ x_ga lo[0]? (fun v => WP P 119 432 lo (v :: st) w Q) := W_aload_n rfl rfl rfl
set_option maxRecDepth 20000 in
theorem wL_law_432 : WP P 119 432 lo st w Q ↔ x_gi lo[3]? (fun x => WP P 119 433 lo (.int x :: st) w Q) := W_iload_n rfl rfl rfl
set_option maxRecDepth 20000 in
theorem wL_law_433 : WP P 119 433 lo st w Q ↔ WP P 119 434 lo (.int (xi 4) :: st) w Q := W_iconst rfl rfl rfl
set_option maxRecDepth 20000 in
theorem wL_law_434 : WP P 119 434 lo (.int y :: .int x :: r) w Q ↔ WP P 119 435 lo (.int (x + y) :: r) w Q := W_iadd rfl rfl
set_option maxRecDepth 20000 in
theorem wL_law_436 : WP P 119 436 lo (.int x :: r) w Q ↔ (if x = xi 0 then WP P 119 443 lo r w Q else WP P 119 439 lo r w Q) := W_if_eq rfl rfl rfl
set_option maxRecDepth 20000 in
theorem wL_law_439 : WP P 119 439 lo st w Q ↔ WP P 119 440 lo (.int (xi 1) :: st) w Q := W_iconst rfl rfl rfl
set_option maxRecDepth 20000 in
theorem wL_law_440 : WP P 119 440 lo st w Q ↔ WP P 119 444 lo st w Q := W_goto rfl rfl
set_option maxRecDepth 20000 in
theorem wL_law_443 : WP P 119 443 lo st w Q ↔ WP P 119 444 lo (.int (xi 0) :: st) w Q := W_iconst rfl rfl rfl
set_option maxRecDepth 20000 in
theorem wL_law_444 {u1 u2 u3 u4 : Value} {b nb : Nat} (hb : x_tg w b = some (0, nb)) (hr : r.length ≤ 8) (hc : ([u1, u2, u3, u4] : List Value).all x_cat1 = true) (hc2 : r.all x_cat1 = true) (k : WP P 48 0 [some (.ref b), some u1, some u2, some u3, some u4, none, none, none, none] [] w (fun v w1 => WP P 119 447 lo (v.toList ++ r) w1 Q)) : WP P 119 444 lo (u4 :: u3 :: u2 :: u1 :: .ref b :: r) w Q := K_virt (as := [u1, u2, u3, u4]) rfl rfl rfl rfl (by decide) (by decide) rfl hb hr hc hc2 k
set_option maxRecDepth 20000 in
theorem wL_law_447 : WP P 119 447 lo st w Q ↔ x_ga lo[2]? (fun v => WP P 119 448 lo (v :: st) w Q) := W_aload_n rfl rfl rfl
set_option maxRecDepth 20000 in
theorem wL_law_448 : WP P 119 448 lo st w Q ↔ x_ga lo[0]? (fun v => WP P 119 449 lo (v :: st) w Q) := W_aload_n rfl rfl rfl
set_option maxRecDepth 20000 in
theorem wL_law_449 : WP P 119 449 lo st w Q ↔ x_gi lo[3]? (fun x => WP P 119 450 lo (.int x :: st) w Q) := W_iload_n rfl rfl rfl
set_option maxRecDepth 20000 in
theorem wL_law_450 : WP P 119 450 lo st w Q ↔ WP P 119 451 lo (.int (xi 1) :: st) w Q := W_iconst rfl rfl rfl
set_option maxRecDepth 20000 in
theorem wL_law_451 : WP P 119 451 lo (.int y :: .int x :: r) w Q ↔ WP P 119 452 lo (.int (x + y) :: r) w Q := W_iadd rfl rfl
set_option maxRecDepth 20000 in
theorem wL_law_453 : WP P 119 453 lo st w Q ↔ x_ga lo[0]? (fun v => WP P 119 454 lo (v :: st) w Q) := W_aload_n rfl rfl rfl
set_option maxRecDepth 20000 in
theorem wL_law_454 : WP P 119 454 lo st w Q ↔ x_gi lo[3]? (fun x => WP P 119 455 lo (.int x :: st) w Q) := W_iload_n rfl rfl rfl
set_option maxRecDepth 20000 in
theorem wL_law_455 : WP P 119 455 lo st w Q ↔ WP P 119 456 lo (.int (xi 2) :: st) w Q := W_iconst rfl rfl rfl
set_option maxRecDepth 20000 in
theorem wL_law_456 : WP P 119 456 lo (.int y :: .int x :: r) w Q ↔ WP P 119 457 lo (.int (x + y) :: r) w Q := W_iadd rfl rfl
set_option maxRecDepth 20000 in
theorem wL_law_458 : WP P 119 458 lo st w Q ↔ x_ga lo[0]? (fun v => WP P 119 459 lo (v :: st) w Q) := W_aload_n rfl rfl rfl
set_option maxRecDepth 20000 in
theorem wL_law_459 : WP P 119 459 lo st w Q ↔ x_gi lo[3]? (fun x => WP P 119 460 lo (.int x :: st) w Q) := W_iload_n rfl rfl rfl
set_option maxRecDepth 20000 in
theorem wL_law_460 : WP P 119 460 lo st w Q ↔ WP P 119 461 lo (.int (xi 3) :: st) w Q := W_iconst rfl rfl rfl
set_option maxRecDepth 20000 in
theorem wL_law_461 : WP P 119 461 lo (.int y :: .int x :: r) w Q ↔ WP P 119 462 lo (.int (x + y) :: r) w Q := W_iadd rfl rfl
set_option maxRecDepth 20000 in
theorem wL_law_463 : WP P 119 463 lo st w Q ↔ x_ga lo[0]? (fun v => WP P 119 464 lo (v :: st) w Q) := W_aload_n rfl rfl rfl
set_option maxRecDepth 20000 in
theorem wL_law_464 : WP P 119 464 lo st w Q ↔ x_gi lo[3]? (fun x => WP P 119 465 lo (.int x :: st) w Q) := W_iload_n rfl rfl rfl
set_option maxRecDepth 20000 in
theorem wL_law_465 : WP P 119 465 lo st w Q ↔ WP P 119 466 lo (.int (xi 4) :: st) w Q := W_iconst rfl rfl rfl
set_option maxRecDepth 20000 in
theorem wL_law_466 : WP P 119 466 lo (.int y :: .int x :: r) w Q ↔ WP P 119 467 lo (.int (x + y) :: r) w Q := W_iadd rfl rfl
set_option maxRecDepth 20000 in
theorem wL_law_468 : WP P 119 468 lo (.int x :: r) w Q ↔ (if x = xi 0 then WP P 119 475 lo r w Q else WP P 119 471 lo r w Q) := W_if_eq rfl rfl rfl
set_option maxRecDepth 20000 in
theorem wL_law_471 : WP P 119 471 lo st w Q ↔ WP P 119 472 lo (.int (xi 1) :: st) w Q := W_iconst rfl rfl rfl
set_option maxRecDepth 20000 in
theorem wL_law_472 : WP P 119 472 lo st w Q ↔ WP P 119 476 lo st w Q := W_goto rfl rfl
set_option maxRecDepth 20000 in
theorem wL_law_475 : WP P 119 475 lo st w Q ↔ WP P 119 476 lo (.int (xi 0) :: st) w Q := W_iconst rfl rfl rfl
set_option maxRecDepth 20000 in
theorem wL_law_476 {u1 u2 u3 u4 : Value} {b nb : Nat} (hb : x_tg w b = some (11, nb)) (hr : r.length ≤ 8) (hc : ([u1, u2, u3, u4] : List Value).all x_cat1 = true) (hc2 : r.all x_cat1 = true) (k : WP P 97 0 [some (.ref b), some u1, some u2, some u3, some u4, none, none, none] [] w (fun v w1 => WP P 119 479 lo (v.toList ++ r) w1 Q)) : WP P 119 476 lo (u4 :: u3 :: u2 :: u1 :: .ref b :: r) w Q := K_virt (as := [u1, u2, u3, u4]) rfl rfl rfl rfl (by decide) (by decide) rfl hb hr hc hc2 k
set_option maxRecDepth 20000 in
theorem wL_law_479 : WP P 119 479 lo (.int y :: .int x :: r) w Q ↔ (if x = y then WP P 119 872 lo r w Q else WP P 119 482 lo r w Q) := W_ic_eq rfl rfl rfl
set_option maxRecDepth 20000 in
theorem wL_law_482 : WP P 119 482 lo st w Q ↔ WP P 119 483 lo (.int (xi 0) :: st) w Q := W_iconst rfl rfl rfl
set_option maxRecDepth 20000 in
theorem wL_law_483 (h : x = 0 ∨ x = 1) : WP P 119 483 lo [.int x] w Q ↔ Q (some (.int x)) w := WP_ret rfl (if_pos (Or.inr ⟨rfl, h⟩))
set_option maxRecDepth 20000 in
theorem wL_law_484 : WP P 119 484 lo st w Q ↔ x_ga lo[1]? (fun v => WP P 119 485 lo (v :: st) w Q) := W_aload_n rfl rfl rfl
set_option maxRecDepth 20000 in
theorem wL_law_485 : WP P 119 485 lo st w Q ↔ x_ga lo[0]? (fun v => WP P 119 486 lo (v :: st) w Q) := W_aload_n rfl rfl rfl
set_option maxRecDepth 20000 in
theorem wL_law_486 : WP P 119 486 lo st w Q ↔ x_gi lo[3]? (fun x => WP P 119 487 lo (.int x :: st) w Q) := W_iload_n rfl rfl rfl
set_option maxRecDepth 20000 in
theorem wL_law_487 : WP P 119 487 lo st w Q ↔ WP P 119 488 lo (.int (xi 1) :: st) w Q := W_iconst rfl rfl rfl
set_option maxRecDepth 20000 in
theorem wL_law_488 : WP P 119 488 lo (.int y :: .int x :: r) w Q ↔ WP P 119 489 lo (.int (x + y) :: r) w Q := W_iadd rfl rfl
set_option maxRecDepth 20000 in
theorem wL_law_490 : WP P 119 490 lo st w Q ↔ x_ga lo[0]? (fun v => WP P 119 491 lo (v :: st) w Q) := W_aload_n rfl rfl rfl
set_option maxRecDepth 20000 in
theorem wL_law_491 : WP P 119 491 lo st w Q ↔ x_gi lo[3]? (fun x => WP P 119 492 lo (.int x :: st) w Q) := W_iload_n rfl rfl rfl
set_option maxRecDepth 20000 in
theorem wL_law_492 : WP P 119 492 lo st w Q ↔ WP P 119 493 lo (.int (xi 2) :: st) w Q := W_iconst rfl rfl rfl
set_option maxRecDepth 20000 in
theorem wL_law_493 : WP P 119 493 lo (.int y :: .int x :: r) w Q ↔ WP P 119 494 lo (.int (x + y) :: r) w Q := W_iadd rfl rfl
set_option maxRecDepth 20000 in
theorem wL_law_495 : WP P 119 495 lo st w Q ↔ x_ga lo[0]? (fun v => WP P 119 496 lo (v :: st) w Q) := W_aload_n rfl rfl rfl
set_option maxRecDepth 20000 in
theorem wL_law_496 : WP P 119 496 lo st w Q ↔ x_gi lo[3]? (fun x => WP P 119 497 lo (.int x :: st) w Q) := W_iload_n rfl rfl rfl
set_option maxRecDepth 20000 in
theorem wL_law_497 : WP P 119 497 lo st w Q ↔ WP P 119 498 lo (.int (xi 3) :: st) w Q := W_iconst rfl rfl rfl
set_option maxRecDepth 20000 in
theorem wL_law_498 : WP P 119 498 lo (.int y :: .int x :: r) w Q ↔ WP P 119 499 lo (.int (x + y) :: r) w Q := W_iadd rfl rfl
set_option maxRecDepth 20000 in
theorem wL_law_500 : WP P 119 500 lo (.int x :: r) w Q ↔ (if x = xi 0 then WP P 119 507 lo r w Q else WP P 119 503 lo r w Q) := W_if_eq rfl rfl rfl
set_option maxRecDepth 20000 in
theorem wL_law_503 : WP P 119 503 lo st w Q ↔ WP P 119 504 lo (.int (xi 1) :: st) w Q := W_iconst rfl rfl rfl
set_option maxRecDepth 20000 in
theorem wL_law_504 : WP P 119 504 lo st w Q ↔ WP P 119 508 lo st w Q := W_goto rfl rfl
set_option maxRecDepth 20000 in
theorem wL_law_507 : WP P 119 507 lo st w Q ↔ WP P 119 508 lo (.int (xi 0) :: st) w Q := W_iconst rfl rfl rfl
set_option maxRecDepth 20000 in
theorem wL_law_508 {u1 u2 u3 : Value} {b nb : Nat} (hb : x_tg w b = some (0, nb)) (hr : r.length ≤ 8) (hc : ([u1, u2, u3] : List Value).all x_cat1 = true) (hc2 : r.all x_cat1 = true) (k : WP P 53 0 [some (.ref b), some u1, some u2, some u3, none, none, none, none] [] w (fun v w1 => WP P 119 511 lo (v.toList ++ r) w1 Q)) : WP P 119 508 lo (u3 :: u2 :: u1 :: .ref b :: r) w Q := K_virt (as := [u1, u2, u3]) rfl rfl rfl rfl (by decide) (by decide) rfl hb hr hc hc2 k
set_option maxRecDepth 20000 in
theorem wL_law_511 : WP P 119 511 lo st w Q ↔ x_ga lo[2]? (fun v => WP P 119 512 lo (v :: st) w Q) := W_aload_n rfl rfl rfl
set_option maxRecDepth 20000 in
theorem wL_law_512 : WP P 119 512 lo st w Q ↔ x_ga lo[0]? (fun v => WP P 119 513 lo (v :: st) w Q) := W_aload_n rfl rfl rfl
set_option maxRecDepth 20000 in
theorem wL_law_513 : WP P 119 513 lo st w Q ↔ x_gi lo[3]? (fun x => WP P 119 514 lo (.int x :: st) w Q) := W_iload_n rfl rfl rfl
set_option maxRecDepth 20000 in
theorem wL_law_514 : WP P 119 514 lo st w Q ↔ WP P 119 515 lo (.int (xi 1) :: st) w Q := W_iconst rfl rfl rfl
set_option maxRecDepth 20000 in
theorem wL_law_515 : WP P 119 515 lo (.int y :: .int x :: r) w Q ↔ WP P 119 516 lo (.int (x + y) :: r) w Q := W_iadd rfl rfl
set_option maxRecDepth 20000 in
theorem wL_law_517 : WP P 119 517 lo st w Q ↔ x_ga lo[0]? (fun v => WP P 119 518 lo (v :: st) w Q) := W_aload_n rfl rfl rfl
set_option maxRecDepth 20000 in
theorem wL_law_518 : WP P 119 518 lo st w Q ↔ x_gi lo[3]? (fun x => WP P 119 519 lo (.int x :: st) w Q) := W_iload_n rfl rfl rfl
set_option maxRecDepth 20000 in
theorem wL_law_519 : WP P 119 519 lo st w Q ↔ WP P 119 520 lo (.int (xi 2) :: st) w Q := W_iconst rfl rfl rfl
set_option maxRecDepth 20000 in
theorem wL_law_520 : WP P 119 520 lo (.int y :: .int x :: r) w Q ↔ WP P 119 521 lo (.int (x + y) :: r) w Q := W_iadd rfl rfl
set_option maxRecDepth 20000 in
theorem wL_law_522 : WP P 119 522 lo st w Q ↔ x_ga lo[0]? (fun v => WP P 119 523 lo (v :: st) w Q) := W_aload_n rfl rfl rfl
set_option maxRecDepth 20000 in
theorem wL_law_523 : WP P 119 523 lo st w Q ↔ x_gi lo[3]? (fun x => WP P 119 524 lo (.int x :: st) w Q) := W_iload_n rfl rfl rfl
set_option maxRecDepth 20000 in
theorem wL_law_524 : WP P 119 524 lo st w Q ↔ WP P 119 525 lo (.int (xi 3) :: st) w Q := W_iconst rfl rfl rfl
set_option maxRecDepth 20000 in
theorem wL_law_525 : WP P 119 525 lo (.int y :: .int x :: r) w Q ↔ WP P 119 526 lo (.int (x + y) :: r) w Q := W_iadd rfl rfl
set_option maxRecDepth 20000 in
theorem wL_law_527 : WP P 119 527 lo (.int x :: r) w Q ↔ (if x = xi 0 then WP P 119 534 lo r w Q else WP P 119 530 lo r w Q) := W_if_eq rfl rfl rfl
set_option maxRecDepth 20000 in
theorem wL_law_530 : WP P 119 530 lo st w Q ↔ WP P 119 531 lo (.int (xi 1) :: st) w Q := W_iconst rfl rfl rfl
set_option maxRecDepth 20000 in
theorem wL_law_531 : WP P 119 531 lo st w Q ↔ WP P 119 535 lo st w Q := W_goto rfl rfl
set_option maxRecDepth 20000 in
theorem wL_law_534 : WP P 119 534 lo st w Q ↔ WP P 119 535 lo (.int (xi 0) :: st) w Q := W_iconst rfl rfl rfl
set_option maxRecDepth 20000 in
theorem wL_law_535 {u1 u2 u3 : Value} {b nb : Nat} (hb : x_tg w b = some (11, nb)) (hr : r.length ≤ 8) (hc : ([u1, u2, u3] : List Value).all x_cat1 = true) (hc2 : r.all x_cat1 = true) (k : WP P 101 0 [some (.ref b), some u1, some u2, some u3, none, none, none] [] w (fun v w1 => WP P 119 538 lo (v.toList ++ r) w1 Q)) : WP P 119 535 lo (u3 :: u2 :: u1 :: .ref b :: r) w Q := K_virt (as := [u1, u2, u3]) rfl rfl rfl rfl (by decide) (by decide) rfl hb hr hc hc2 k
set_option maxRecDepth 20000 in
theorem wL_law_538 : WP P 119 538 lo (.int y :: .int x :: r) w Q ↔ (if x = y then WP P 119 872 lo r w Q else WP P 119 541 lo r w Q) := W_ic_eq rfl rfl rfl
set_option maxRecDepth 20000 in
theorem wL_law_541 : WP P 119 541 lo st w Q ↔ WP P 119 542 lo (.int (xi 0) :: st) w Q := W_iconst rfl rfl rfl
set_option maxRecDepth 20000 in
theorem wL_law_542 (h : x = 0 ∨ x = 1) : WP P 119 542 lo [.int x] w Q ↔ Q (some (.int x)) w := WP_ret rfl (if_pos (Or.inr ⟨rfl, h⟩))
set_option maxRecDepth 20000 in
theorem wL_law_543 : WP P 119 543 lo st w Q ↔ x_ga lo[1]? (fun v => WP P 119 544 lo (v :: st) w Q) := W_aload_n rfl rfl rfl
set_option maxRecDepth 20000 in
theorem wL_law_544 : WP P 119 544 lo st w Q ↔ x_ga lo[0]? (fun v => WP P 119 545 lo (v :: st) w Q) := W_aload_n rfl rfl rfl
set_option maxRecDepth 20000 in
theorem wL_law_545 : WP P 119 545 lo st w Q ↔ x_gi lo[3]? (fun x => WP P 119 546 lo (.int x :: st) w Q) := W_iload_n rfl rfl rfl
set_option maxRecDepth 20000 in
theorem wL_law_546 : WP P 119 546 lo st w Q ↔ WP P 119 547 lo (.int (xi 1) :: st) w Q := W_iconst rfl rfl rfl
set_option maxRecDepth 20000 in
theorem wL_law_547 : WP P 119 547 lo (.int y :: .int x :: r) w Q ↔ WP P 119 548 lo (.int (x + y) :: r) w Q := W_iadd rfl rfl
set_option maxRecDepth 20000 in
theorem wL_law_549 {u1 : Value} {b nb : Nat} (hb : x_tg w b = some (0, nb)) (hr : r.length ≤ 8) (hc : ([u1] : List Value).all x_cat1 = true) (hc2 : r.all x_cat1 = true) (k : WP P 54 0 [some (.ref b), some u1, none, none, none, none] [] w (fun v w1 => WP P 119 552 lo (v.toList ++ r) w1 Q)) : WP P 119 549 lo (u1 :: .ref b :: r) w Q := K_virt (as := [u1]) rfl rfl rfl rfl (by decide) (by decide) rfl hb hr hc hc2 k
set_option maxRecDepth 20000 in
theorem wL_law_552 : WP P 119 552 lo st w Q ↔ x_ga lo[2]? (fun v => WP P 119 553 lo (v :: st) w Q) := W_aload_n rfl rfl rfl
set_option maxRecDepth 20000 in
theorem wL_law_553 : WP P 119 553 lo st w Q ↔ x_ga lo[0]? (fun v => WP P 119 554 lo (v :: st) w Q) := W_aload_n rfl rfl rfl
set_option maxRecDepth 20000 in
theorem wL_law_554 : WP P 119 554 lo st w Q ↔ x_gi lo[3]? (fun x => WP P 119 555 lo (.int x :: st) w Q) := W_iload_n rfl rfl rfl
set_option maxRecDepth 20000 in
theorem wL_law_555 : WP P 119 555 lo st w Q ↔ WP P 119 556 lo (.int (xi 1) :: st) w Q := W_iconst rfl rfl rfl
set_option maxRecDepth 20000 in
theorem wL_law_556 : WP P 119 556 lo (.int y :: .int x :: r) w Q ↔ WP P 119 557 lo (.int (x + y) :: r) w Q := W_iadd rfl rfl
set_option maxRecDepth 20000 in
theorem wL_law_558 {u1 : Value} {b nb : Nat} (hb : x_tg w b = some (11, nb)) (hr : r.length ≤ 8) (hc : ([u1] : List Value).all x_cat1 = true) (hc2 : r.all x_cat1 = true) (k : WP P 102 0 [some (.ref b), some u1, none] [] w (fun v w1 => WP P 119 561 lo (v.toList ++ r) w1 Q)) : WP P 119 558 lo (u1 :: .ref b :: r) w Q := K_virt (as := [u1]) rfl rfl rfl rfl (by decide) (by decide) rfl hb hr hc hc2 k
set_option maxRecDepth 20000 in
theorem wL_law_561 : WP P 119 561 lo (.int y :: .int x :: r) w Q ↔ (if x = y then WP P 119 872 lo r w Q else WP P 119 564 lo r w Q) := W_ic_eq rfl rfl rfl
set_option maxRecDepth 20000 in
theorem wL_law_564 : WP P 119 564 lo st w Q ↔ WP P 119 565 lo (.int (xi 0) :: st) w Q := W_iconst rfl rfl rfl
set_option maxRecDepth 20000 in
theorem wL_law_565 (h : x = 0 ∨ x = 1) : WP P 119 565 lo [.int x] w Q ↔ Q (some (.int x)) w := WP_ret rfl (if_pos (Or.inr ⟨rfl, h⟩))
set_option maxRecDepth 20000 in
theorem wL_law_566 : WP P 119 566 lo st w Q ↔ x_ga lo[1]? (fun v => WP P 119 567 lo (v :: st) w Q) := W_aload_n rfl rfl rfl
set_option maxRecDepth 20000 in
theorem wL_law_567 : WP P 119 567 lo st w Q ↔ x_ga lo[0]? (fun v => WP P 119 568 lo (v :: st) w Q) := W_aload_n rfl rfl rfl
set_option maxRecDepth 20000 in
theorem wL_law_568 : WP P 119 568 lo st w Q ↔ x_gi lo[3]? (fun x => WP P 119 569 lo (.int x :: st) w Q) := W_iload_n rfl rfl rfl
set_option maxRecDepth 20000 in
theorem wL_law_569 : WP P 119 569 lo st w Q ↔ WP P 119 570 lo (.int (xi 1) :: st) w Q := W_iconst rfl rfl rfl
set_option maxRecDepth 20000 in
theorem wL_law_570 : WP P 119 570 lo (.int y :: .int x :: r) w Q ↔ WP P 119 571 lo (.int (x + y) :: r) w Q := W_iadd rfl rfl
set_option maxRecDepth 20000 in
theorem wL_law_572 : WP P 119 572 lo st w Q ↔ x_ga lo[0]? (fun v => WP P 119 573 lo (v :: st) w Q) := W_aload_n rfl rfl rfl
set_option maxRecDepth 20000 in
theorem wL_law_573 : WP P 119 573 lo st w Q ↔ x_gi lo[3]? (fun x => WP P 119 574 lo (.int x :: st) w Q) := W_iload_n rfl rfl rfl
set_option maxRecDepth 20000 in
theorem wL_law_574 : WP P 119 574 lo st w Q ↔ WP P 119 575 lo (.int (xi 2) :: st) w Q := W_iconst rfl rfl rfl
set_option maxRecDepth 20000 in
theorem wL_law_575 : WP P 119 575 lo (.int y :: .int x :: r) w Q ↔ WP P 119 576 lo (.int (x + y) :: r) w Q := W_iadd rfl rfl
set_option maxRecDepth 20000 in
theorem wL_law_577 : WP P 119 577 lo (.int x :: r) w Q ↔ (if x = xi 0 then WP P 119 584 lo r w Q else WP P 119 580 lo r w Q) := W_if_eq rfl rfl rfl
set_option maxRecDepth 20000 in
theorem wL_law_580 : WP P 119 580 lo st w Q ↔ WP P 119 581 lo (.int (xi 1) :: st) w Q := W_iconst rfl rfl rfl
set_option maxRecDepth 20000 in
theorem wL_law_581 : WP P 119 581 lo st w Q ↔ WP P 119 585 lo st w Q := W_goto rfl rfl
set_option maxRecDepth 20000 in
theorem wL_law_584 : WP P 119 584 lo st w Q ↔ WP P 119 585 lo (.int (xi 0) :: st) w Q := W_iconst rfl rfl rfl
set_option maxRecDepth 20000 in
theorem wL_law_585 {u1 u2 : Value} {b nb : Nat} (hb : x_tg w b = some (0, nb)) (hr : r.length ≤ 8) (hc : ([u1, u2] : List Value).all x_cat1 = true) (hc2 : r.all x_cat1 = true) (k : WP P 57 0 [some (.ref b), some u1, some u2, none, none, none, none] [] w (fun v w1 => WP P 119 588 lo (v.toList ++ r) w1 Q)) : WP P 119 585 lo (u2 :: u1 :: .ref b :: r) w Q := K_virt (as := [u1, u2]) rfl rfl rfl rfl (by decide) (by decide) rfl hb hr hc hc2 k
set_option maxRecDepth 20000 in
theorem wL_law_588 : WP P 119 588 lo st w Q ↔ x_ga lo[2]? (fun v => WP P 119 589 lo (v :: st) w Q) := W_aload_n rfl rfl rfl
set_option maxRecDepth 20000 in
theorem wL_law_589 : WP P 119 589 lo st w Q ↔ x_ga lo[0]? (fun v => WP P 119 590 lo (v :: st) w Q) := W_aload_n rfl rfl rfl
set_option maxRecDepth 20000 in
theorem wL_law_590 : WP P 119 590 lo st w Q ↔ x_gi lo[3]? (fun x => WP P 119 591 lo (.int x :: st) w Q) := W_iload_n rfl rfl rfl
set_option maxRecDepth 20000 in
theorem wL_law_591 : WP P 119 591 lo st w Q ↔ WP P 119 592 lo (.int (xi 1) :: st) w Q := W_iconst rfl rfl rfl
set_option maxRecDepth 20000 in
theorem wL_law_592 : WP P 119 592 lo (.int y :: .int x :: r) w Q ↔ WP P 119 593 lo (.int (x + y) :: r) w Q := W_iadd rfl rfl
set_option maxRecDepth 20000 in
theorem wL_law_594 : WP P 119 594 lo st w Q ↔ x_ga lo[0]? (fun v => WP P 119 595 lo (v :: st) w Q) := W_aload_n rfl rfl rfl
set_option maxRecDepth 20000 in
theorem wL_law_595 : WP P 119 595 lo st w Q ↔ x_gi lo[3]? (fun x => WP P 119 596 lo (.int x :: st) w Q) := W_iload_n rfl rfl rfl
set_option maxRecDepth 20000 in
theorem wL_law_596 : WP P 119 596 lo st w Q ↔ WP P 119 597 lo (.int (xi 2) :: st) w Q := W_iconst rfl rfl rfl
set_option maxRecDepth 20000 in
theorem wL_law_597 : WP P 119 597 lo (.int y :: .int x :: r) w Q ↔ WP P 119 598 lo (.int (x + y) :: r) w Q := W_iadd rfl rfl
set_option maxRecDepth 20000 in
theorem wL_law_599 : WP P 119 599 lo (.int x :: r) w Q ↔ (if x = xi 0 then WP P 119 606 lo r w Q else WP P 119 602 lo r w Q) := W_if_eq rfl rfl rfl
set_option maxRecDepth 20000 in
theorem wL_law_602 : WP P 119 602 lo st w Q ↔ WP P 119 603 lo (.int (xi 1) :: st) w Q := W_iconst rfl rfl rfl
set_option maxRecDepth 20000 in
theorem wL_law_603 : WP P 119 603 lo st w Q ↔ WP P 119 607 lo st w Q := W_goto rfl rfl
set_option maxRecDepth 20000 in
theorem wL_law_606 : WP P 119 606 lo st w Q ↔ WP P 119 607 lo (.int (xi 0) :: st) w Q := W_iconst rfl rfl rfl
set_option maxRecDepth 20000 in
theorem wL_law_607 {u1 u2 : Value} {b nb : Nat} (hb : x_tg w b = some (11, nb)) (hr : r.length ≤ 8) (hc : ([u1, u2] : List Value).all x_cat1 = true) (hc2 : r.all x_cat1 = true) (k : WP P 105 0 [some (.ref b), some u1, some u2, none, none, none] [] w (fun v w1 => WP P 119 610 lo (v.toList ++ r) w1 Q)) : WP P 119 607 lo (u2 :: u1 :: .ref b :: r) w Q := K_virt (as := [u1, u2]) rfl rfl rfl rfl (by decide) (by decide) rfl hb hr hc hc2 k
set_option maxRecDepth 20000 in
theorem wL_law_610 : WP P 119 610 lo (.int y :: .int x :: r) w Q ↔ (if x = y then WP P 119 872 lo r w Q else WP P 119 613 lo r w Q) := W_ic_eq rfl rfl rfl
set_option maxRecDepth 20000 in
theorem wL_law_613 : WP P 119 613 lo st w Q ↔ WP P 119 614 lo (.int (xi 0) :: st) w Q := W_iconst rfl rfl rfl
set_option maxRecDepth 20000 in
theorem wL_law_614 (h : x = 0 ∨ x = 1) : WP P 119 614 lo [.int x] w Q ↔ Q (some (.int x)) w := WP_ret rfl (if_pos (Or.inr ⟨rfl, h⟩))
set_option maxRecDepth 20000 in
theorem wL_law_615 : WP P 119 615 lo st w Q ↔ x_ga lo[1]? (fun v => WP P 119 616 lo (v :: st) w Q) := W_aload_n rfl rfl rfl
set_option maxRecDepth 20000 in
theorem wL_law_616 : WP P 119 616 lo st w Q ↔ x_ga lo[0]? (fun v => WP P 119 617 lo (v :: st) w Q) := W_aload_n rfl rfl rfl
set_option maxRecDepth 20000 in
theorem wL_law_617 : WP P 119 617 lo st w Q ↔ x_gi lo[3]? (fun x => WP P 119 618 lo (.int x :: st) w Q) := W_iload_n rfl rfl rfl
set_option maxRecDepth 20000 in
theorem wL_law_618 : WP P 119 618 lo st w Q ↔ WP P 119 619 lo (.int (xi 1) :: st) w Q := W_iconst rfl rfl rfl
set_option maxRecDepth 20000 in
theorem wL_law_619 : WP P 119 619 lo (.int y :: .int x :: r) w Q ↔ WP P 119 620 lo (.int (x + y) :: r) w Q := W_iadd rfl rfl
set_option maxRecDepth 20000 in
theorem wL_law_621 : WP P 119 621 lo st w Q ↔ x_ga lo[0]? (fun v => WP P 119 622 lo (v :: st) w Q) := W_aload_n rfl rfl rfl
set_option maxRecDepth 20000 in
theorem wL_law_622 : WP P 119 622 lo st w Q ↔ x_gi lo[3]? (fun x => WP P 119 623 lo (.int x :: st) w Q) := W_iload_n rfl rfl rfl
set_option maxRecDepth 20000 in
theorem wL_law_623 : WP P 119 623 lo st w Q ↔ WP P 119 624 lo (.int (xi 2) :: st) w Q := W_iconst rfl rfl rfl
set_option maxRecDepth 20000 in
theorem wL_law_624 : WP P 119 624 lo (.int y :: .int x :: r) w Q ↔ WP P 119 625 lo (.int (x + y) :: r) w Q := W_iadd rfl rfl
set_option maxRecDepth 20000 in
theorem wL_law_626 : WP P 119 626 lo st w Q ↔ x_ga lo[0]? (fun v => WP P 119 627 lo (v :: st) w Q) := W_aload_n rfl rfl rfl
set_option maxRecDepth 20000 in
theorem wL_law_627 : WP P 119 627 lo st w Q ↔ x_gi lo[3]? (fun x => WP P 119 628 lo (.int x :: st) w Q) := W_iload_n rfl rfl rfl
set_option maxRecDepth 20000 in
theorem wL_law_628 : WP P 119 628 lo st w Q ↔ WP P 119 629 lo (.int (xi 3) :: st) w Q := W_iconst rfl rfl rfl
set_option maxRecDepth 20000 in
theorem wL_law_629 : WP P 119 629 lo (.int y :: .int x :: r) w Q ↔ WP P 119 630 lo (.int (x + y) :: r) w Q := W_iadd rfl rfl
set_option maxRecDepth 20000 in
theorem wL_law_631 {u1 u2 u3 : Value} {b nb : Nat} (hb : x_tg w b = some (0, nb)) (hr : r.length ≤ 8) (hc : ([u1, u2, u3] : List Value).all x_cat1 = true) (hc2 : r.all x_cat1 = true) (k : WP P 58 0 [some (.ref b), some u1, some u2, some u3, none, none, none, none, none] [] w (fun v w1 => WP P 119 634 lo (v.toList ++ r) w1 Q)) : WP P 119 631 lo (u3 :: u2 :: u1 :: .ref b :: r) w Q := K_virt (as := [u1, u2, u3]) rfl rfl rfl rfl (by decide) (by decide) rfl hb hr hc hc2 k
set_option maxRecDepth 20000 in
theorem wL_law_634 : WP P 119 634 lo st w Q ↔ x_ga lo[2]? (fun v => WP P 119 635 lo (v :: st) w Q) := W_aload_n rfl rfl rfl
set_option maxRecDepth 20000 in
theorem wL_law_635 : WP P 119 635 lo st w Q ↔ x_ga lo[0]? (fun v => WP P 119 636 lo (v :: st) w Q) := W_aload_n rfl rfl rfl
set_option maxRecDepth 20000 in
theorem wL_law_636 : WP P 119 636 lo st w Q ↔ x_gi lo[3]? (fun x => WP P 119 637 lo (.int x :: st) w Q) := W_iload_n rfl rfl rfl
set_option maxRecDepth 20000 in
theorem wL_law_637 : WP P 119 637 lo st w Q ↔ WP P 119 638 lo (.int (xi 1) :: st) w Q := W_iconst rfl rfl rfl
set_option maxRecDepth 20000 in
theorem wL_law_638 : WP P 119 638 lo (.int y :: .int x :: r) w Q ↔ WP P 119 639 lo (.int (x + y) :: r) w Q := W_iadd rfl rfl
set_option maxRecDepth 20000 in
theorem wL_law_640 : WP P 119 640 lo st w Q ↔ x_ga lo[0]? (fun v => WP P 119 641 lo (v :: st) w Q) := W_aload_n rfl rfl rfl
set_option maxRecDepth 20000 in
theorem wL_law_641 : WP P 119 641 lo st w Q ↔ x_gi lo[3]? (fun x => WP P 119 642 lo (.int x :: st) w Q) := W_iload_n rfl rfl rfl
set_option maxRecDepth 20000 in
theorem wL_law_642 : WP P 119 642 lo st w Q ↔ WP P 119 643 lo (.int (xi 2) :: st) w Q := W_iconst rfl rfl rfl
set_option maxRecDepth 20000 in
theorem wL_law_643 : WP P 119 643 lo (.int y :: .int x :: r) w Q ↔ WP P 119 644 lo (.int (x + y) :: r) w Q := W_iadd rfl rfl
set_option maxRecDepth 20000 in
theorem wL_law_645 : WP P 119 645 lo st w Q ↔ x_ga lo[0]? (fun v => WP P 119 646 lo (v :: st) w Q) := W_aload_n rfl rfl rfl
set_option maxRecDepth 20000 in
theorem wL_law_646 : WP P 119 646 lo st w Q ↔ x_gi lo[3]? (fun x => WP P 119 647 lo (.int x :: st) w Q) := W_iload_n rfl rfl rfl
set_option maxRecDepth 20000 in
theorem wL_law_647 : WP P 119 647 lo st w Q ↔ WP P 119 648 lo (.int (xi 3) :: st) w Q := W_iconst rfl rfl rfl
set_option maxRecDepth 20000 in
theorem wL_law_648 : WP P 119 648 lo (.int y :: .int x :: r) w Q ↔ WP P 119 649 lo (.int (x + y) :: r) w Q := W_iadd rfl rfl
set_option maxRecDepth 20000 in
theorem wL_law_650 {u1 u2 u3 : Value} {b nb : Nat} (hb : x_tg w b = some (11, nb)) (hr : r.length ≤ 8) (hc : ([u1, u2, u3] : List Value).all x_cat1 = true) (hc2 : r.all x_cat1 = true) (k : WP P 106 0 [some (.ref b), some u1, some u2, some u3, none, none, none] [] w (fun v w1 => WP P 119 653 lo (v.toList ++ r) w1 Q)) : WP P 119 650 lo (u3 :: u2 :: u1 :: .ref b :: r) w Q := K_virt (as := [u1, u2, u3]) rfl rfl rfl rfl (by decide) (by decide) rfl hb hr hc hc2 k
set_option maxRecDepth 20000 in
theorem wL_law_653 : WP P 119 653 lo (.int y :: .int x :: r) w Q ↔ (if x = y then WP P 119 872 lo r w Q else WP P 119 656 lo r w Q) := W_ic_eq rfl rfl rfl
set_option maxRecDepth 20000 in
theorem wL_law_656 : WP P 119 656 lo st w Q ↔ WP P 119 657 lo (.int (xi 0) :: st) w Q := W_iconst rfl rfl rfl
set_option maxRecDepth 20000 in
theorem wL_law_657 (h : x = 0 ∨ x = 1) : WP P 119 657 lo [.int x] w Q ↔ Q (some (.int x)) w := WP_ret rfl (if_pos (Or.inr ⟨rfl, h⟩))
set_option maxRecDepth 20000 in
theorem wL_law_658 : WP P 119 658 lo st w Q ↔ x_ga lo[1]? (fun v => WP P 119 659 lo (v :: st) w Q) := W_aload_n rfl rfl rfl
set_option maxRecDepth 20000 in
theorem wL_law_659 : WP P 119 659 lo st w Q ↔ x_ga lo[0]? (fun v => WP P 119 660 lo (v :: st) w Q) := W_aload_n rfl rfl rfl
set_option maxRecDepth 20000 in
theorem wL_law_660 : WP P 119 660 lo st w Q ↔ x_gi lo[3]? (fun x => WP P 119 661 lo (.int x :: st) w Q) := W_iload_n rfl rfl rfl
set_option maxRecDepth 20000 in
theorem wL_law_661 : WP P 119 661 lo st w Q ↔ WP P 119 662 lo (.int (xi 1) :: st) w Q := W_iconst rfl rfl rfl
set_option maxRecDepth 20000 in
theorem wL_law_662 : WP P 119 662 lo (.int y :: .int x :: r) w Q ↔ WP P 119 663 lo (.int (x + y) :: r) w Q := W_iadd rfl rfl
set_option maxRecDepth 20000 in
theorem wL_law_664 {u1 : Value} {b nb : Nat} (hb : x_tg w b = some (0, nb)) (hr : r.length ≤ 8) (hc : ([u1] : List Value).all x_cat1 = true) (hc2 : r.all x_cat1 = true) (k : WP P 62 0 [some (.ref b), some u1, none, none, none, none] [] w (fun v w1 => WP P 119 667 lo (v.toList ++ r) w1 Q)) : WP P 119 664 lo (u1 :: .ref b :: r) w Q := K_virt (as := [u1]) rfl rfl rfl rfl (by decide) (by decide) rfl hb hr hc hc2 k
set_option maxRecDepth 20000 in
theorem wL_law_667 : WP P 119 667 lo st w Q ↔ x_ga lo[2]? (fun v => WP P 119 668 lo (v :: st) w Q) := W_aload_n rfl rfl rfl
set_option maxRecDepth 20000 in
theorem wL_law_668 : WP P 119 668 lo st w Q ↔ x_ga lo[0]? (fun v => WP P 119 669 lo (v :: st) w Q) := W_aload_n rfl rfl rfl
set_option maxRecDepth 20000 in
theorem wL_law_669 : WP P 119 669 lo st w Q ↔ x_gi lo[3]? (fun x => WP P 119 670 lo (.int x :: st) w Q) := W_iload_n rfl rfl rfl
set_option maxRecDepth 20000 in
theorem wL_law_670 : WP P 119 670 lo st w Q ↔ WP P 119 671 lo (.int (xi 1) :: st) w Q := W_iconst rfl rfl rfl
set_option maxRecDepth 20000 in
theorem wL_law_671 : WP P 119 671 lo (.int y :: .int x :: r) w Q ↔ WP P 119 672 lo (.int (x + y) :: r) w Q := W_iadd rfl rfl
set_option maxRecDepth 20000 in
theorem wL_law_673 {u1 : Value} {b nb : Nat} (hb : x_tg w b = some (11, nb)) (hr : r.length ≤ 8) (hc : ([u1] : List Value).all x_cat1 = true) (hc2 : r.all x_cat1 = true) (k : WP P 110 0 [some (.ref b), some u1, none] [] w (fun v w1 => WP P 119 676 lo (v.toList ++ r) w1 Q)) : WP P 119 673 lo (u1 :: .ref b :: r) w Q := K_virt (as := [u1]) rfl rfl rfl rfl (by decide) (by decide) rfl hb hr hc hc2 k
set_option maxRecDepth 20000 in
theorem wL_law_676 : WP P 119 676 lo (.int y :: .int x :: r) w Q ↔ (if x = y then WP P 119 872 lo r w Q else WP P 119 679 lo r w Q) := W_ic_eq rfl rfl rfl
set_option maxRecDepth 20000 in
theorem wL_law_679 : WP P 119 679 lo st w Q ↔ WP P 119 680 lo (.int (xi 0) :: st) w Q := W_iconst rfl rfl rfl
set_option maxRecDepth 20000 in
theorem wL_law_680 (h : x = 0 ∨ x = 1) : WP P 119 680 lo [.int x] w Q ↔ Q (some (.int x)) w := WP_ret rfl (if_pos (Or.inr ⟨rfl, h⟩))
set_option maxRecDepth 20000 in
theorem wL_law_681 : WP P 119 681 lo st w Q ↔ x_ga lo[1]? (fun v => WP P 119 682 lo (v :: st) w Q) := W_aload_n rfl rfl rfl
set_option maxRecDepth 20000 in
theorem wL_law_682 : WP P 119 682 lo st w Q ↔ x_ga lo[0]? (fun v => WP P 119 683 lo (v :: st) w Q) := W_aload_n rfl rfl rfl
set_option maxRecDepth 20000 in
theorem wL_law_683 : WP P 119 683 lo st w Q ↔ x_gi lo[3]? (fun x => WP P 119 684 lo (.int x :: st) w Q) := W_iload_n rfl rfl rfl
set_option maxRecDepth 20000 in
theorem wL_law_684 : WP P 119 684 lo st w Q ↔ WP P 119 685 lo (.int (xi 1) :: st) w Q := W_iconst rfl rfl rfl
set_option maxRecDepth 20000 in
theorem wL_law_685 : WP P 119 685 lo (.int y :: .int x :: r) w Q ↔ WP P 119 686 lo (.int (x + y) :: r) w Q := W_iadd rfl rfl
set_option maxRecDepth 20000 in
theorem wL_law_687 : WP P 119 687 lo st w Q ↔ x_ga lo[0]? (fun v => WP P 119 688 lo (v :: st) w Q) := W_aload_n rfl rfl rfl
set_option maxRecDepth 20000 in
theorem wL_law_688 : WP P 119 688 lo st w Q ↔ x_gi lo[3]? (fun x => WP P 119 689 lo (.int x :: st) w Q) := W_iload_n rfl rfl rfl
set_option maxRecDepth 20000 in
theorem wL_law_689 : WP P 119 689 lo st w Q ↔ WP P 119 690 lo (.int (xi 2) :: st) w Q := W_iconst rfl rfl rfl
set_option maxRecDepth 20000 in
theorem wL_law_690 : WP P 119 690 lo (.int y :: .int x :: r) w Q ↔ WP P 119 691 lo (.int (x + y) :: r) w Q := W_iadd rfl rfl
set_option maxRecDepth 20000 in
theorem wL_law_692 {u1 u2 : Value} {b nb : Nat} (hb : x_tg w b = some (0, nb)) (hr : r.length ≤ 8) (hc : ([u1, u2] : List Value).all x_cat1 = true) (hc2 : r.all x_cat1 = true) (k : WP P 64 0 [some (.ref b), some u1, some u2, none, none] [] w (fun v w1 => WP P 119 695 lo (v.toList ++ r) w1 Q)) : WP P 119 692 lo (u2 :: u1 :: .ref b :: r) w Q := K_virt (as := [u1, u2]) rfl rfl rfl rfl (by decide) (by decide) rfl hb hr hc hc2 k
set_option maxRecDepth 20000 in
theorem wL_law_695 : WP P 119 695 lo st w Q ↔ x_ga lo[2]? (fun v => WP P 119 696 lo (v :: st) w Q) := W_aload_n rfl rfl rfl
set_option maxRecDepth 20000 in
theorem wL_law_696 : WP P 119 696 lo st w Q ↔ x_ga lo[0]? (fun v => WP P 119 697 lo (v :: st) w Q) := W_aload_n rfl rfl rfl
set_option maxRecDepth 20000 in
theorem wL_law_697 : WP P 119 697 lo st w Q ↔ x_gi lo[3]? (fun x => WP P 119 698 lo (.int x :: st) w Q) := W_iload_n rfl rfl rfl
set_option maxRecDepth 20000 in
theorem wL_law_698 : WP P 119 698 lo st w Q ↔ WP P 119 699 lo (.int (xi 1) :: st) w Q := W_iconst rfl rfl rfl
set_option maxRecDepth 20000 in
theorem wL_law_699 : WP P 119 699 lo (.int y :: .int x :: r) w Q ↔ WP P 119 700 lo (.int (x + y) :: r) w Q := W_iadd rfl rfl
set_option maxRecDepth 20000 in
theorem wL_law_701 : WP P 119 701 lo st w Q ↔ x_ga lo[0]? (fun v => WP P 119 702 lo (v :: st) w Q) := W_aload_n rfl rfl rfl
set_option maxRecDepth 20000 in
theorem wL_law_702 : WP P 119 702 lo st w Q ↔ x_gi lo[3]? (fun x => WP P 119 703 lo (.int x :: st) w Q) := W_iload_n rfl rfl rfl
set_option maxRecDepth 20000 in
theorem wL_law_703 : WP P 119 703 lo st w Q ↔ WP P 119 704 lo (.int (xi 2) :: st) w Q := W_iconst rfl rfl rfl
set_option maxRecDepth 20000 in
theorem wL_law_704 : WP P 119 704 lo (.int y :: .int x :: r) w Q ↔ WP P 119 705 lo (.int (x + y) :: r) w Q := W_iadd rfl rfl
set_option maxRecDepth 20000 in
theorem wL_law_706 {u1 u2 : Value} {b nb : Nat} (hb : x_tg w b = some (11, nb)) (hr : r.length ≤ 8) (hc : ([u1, u2] : List Value).all x_cat1 = true) (hc2 : r.all x_cat1 = true) (k : WP P 112 0 [some (.ref b), some u1, some u2, none] [] w (fun v w1 => WP P 119 709 lo (v.toList ++ r) w1 Q)) : WP P 119 706 lo (u2 :: u1 :: .ref b :: r) w Q := K_virt (as := [u1, u2]) rfl rfl rfl rfl (by decide) (by decide) rfl hb hr hc hc2 k
set_option maxRecDepth 20000 in
theorem wL_law_709 : WP P 119 709 lo (.int y :: .int x :: r) w Q ↔ (if x = y then WP P 119 872 lo r w Q else WP P 119 712 lo r w Q) := W_ic_eq rfl rfl rfl
set_option maxRecDepth 20000 in
theorem wL_law_712 : WP P 119 712 lo st w Q ↔ WP P 119 713 lo (.int (xi 0) :: st) w Q := W_iconst rfl rfl rfl
set_option maxRecDepth 20000 in
theorem wL_law_713 (h : x = 0 ∨ x = 1) : WP P 119 713 lo [.int x] w Q ↔ Q (some (.int x)) w := WP_ret rfl (if_pos (Or.inr ⟨rfl, h⟩))
set_option maxRecDepth 20000 in
theorem wL_law_714 : WP P 119 714 lo st w Q ↔ x_ga lo[1]? (fun v => WP P 119 715 lo (v :: st) w Q) := W_aload_n rfl rfl rfl
set_option maxRecDepth 20000 in
theorem wL_law_715 : WP P 119 715 lo st w Q ↔ x_ga lo[0]? (fun v => WP P 119 716 lo (v :: st) w Q) := W_aload_n rfl rfl rfl
set_option maxRecDepth 20000 in
theorem wL_law_716 : WP P 119 716 lo st w Q ↔ x_gi lo[3]? (fun x => WP P 119 717 lo (.int x :: st) w Q) := W_iload_n rfl rfl rfl
set_option maxRecDepth 20000 in
theorem wL_law_717 : WP P 119 717 lo st w Q ↔ WP P 119 718 lo (.int (xi 1) :: st) w Q := W_iconst rfl rfl rfl
set_option maxRecDepth 20000 in
theorem wL_law_718 : WP P 119 718 lo (.int y :: .int x :: r) w Q ↔ WP P 119 719 lo (.int (x + y) :: r) w Q := W_iadd rfl rfl
set_option maxRecDepth 20000 in
theorem wL_law_720 {u1 : Value} {b nb : Nat} (hb : x_tg w b = some (0, nb)) (hr : r.length ≤ 8) (hc : ([u1] : List Value).all x_cat1 = true) (hc2 : r.all x_cat1 = true) (k : WP P 66 0 [some (.ref b), some u1, none] [] w (fun v w1 => WP P 119 723 lo (v.toList ++ r) w1 Q)) : WP P 119 720 lo (u1 :: .ref b :: r) w Q := K_virt (as := [u1]) rfl rfl rfl rfl (by decide) (by decide) rfl hb hr hc hc2 k
set_option maxRecDepth 20000 in
theorem wL_law_723 : WP P 119 723 lo st w Q ↔ x_ga lo[2]? (fun v => WP P 119 724 lo (v :: st) w Q) := W_aload_n rfl rfl rfl
set_option maxRecDepth 20000 in
theorem wL_law_724 : WP P 119 724 lo st w Q ↔ x_ga lo[0]? (fun v => WP P 119 725 lo (v :: st) w Q) := W_aload_n rfl rfl rfl
set_option maxRecDepth 20000 in
theorem wL_law_725 : WP P 119 725 lo st w Q ↔ x_gi lo[3]? (fun x => WP P 119 726 lo (.int x :: st) w Q) := W_iload_n rfl rfl rfl
set_option maxRecDepth 20000 in
theorem wL_law_726 : WP P 119 726 lo st w Q ↔ WP P 119 727 lo (.int (xi 1) :: st) w Q := W_iconst rfl rfl rfl
set_option maxRecDepth 20000 in
theorem wL_law_727 : WP P 119 727 lo (.int y :: .int x :: r) w Q ↔ WP P 119 728 lo (.int (x + y) :: r) w Q := W_iadd rfl rfl
set_option maxRecDepth 20000 in
theorem wL_law_729 {u1 : Value} {b nb : Nat} (hb : x_tg w b = some (11, nb)) (hr : r.length ≤ 8) (hc : ([u1] : List Value).all x_cat1 = true) (hc2 : r.all x_cat1 = true) (k : WP P 113 0 [some (.ref b), some u1] [] w (fun v w1 => WP P 119 732 lo (v.toList ++ r) w1 Q)) : WP P 119 729 lo (u1 :: .ref b :: r) w Q := K_virt (as := [u1]) rfl rfl rfl rfl (by decide) (by decide) rfl hb hr hc hc2 k
set_option maxRecDepth 20000 in
theorem wL_law_732 : WP P 119 732 lo (.int y :: .int x :: r) w Q ↔ (if x = y then WP P 119 872 lo r w Q else WP P 119 735 lo r w Q) := W_ic_eq rfl rfl rfl
set_option maxRecDepth 20000 in
theorem wL_law_735 : WP P 119 735 lo st w Q ↔ WP P 119 736 lo (.int (xi 0) :: st) w Q := W_iconst rfl rfl rfl
set_option maxRecDepth 20000 in
theorem wL_law_736 (h : x = 0 ∨ x = 1) : WP P 119 736 lo [.int x] w Q ↔ Q (some (.int x)) w := WP_ret rfl (if_pos (Or.inr ⟨rfl, h⟩))
set_option maxRecDepth 20000 in
theorem wL_law_737 : WP P 119 737 lo st w Q ↔ x_ga lo[1]? (fun v => WP P 119 738 lo (v :: st) w Q) := W_aload_n rfl rfl rfl
set_option maxRecDepth 20000 in
theorem wL_law_738 {b nb : Nat} (hb : x_tg w b = some (0, nb)) (hr : r.length ≤ 8) (hc : ([] : List Value).all x_cat1 = true) (hc2 : r.all x_cat1 = true) (k : WP P 67 0 [some (.ref b), none] [] w (fun v w1 => WP P 119 741 lo (v.toList ++ r) w1 Q)) : WP P 119 738 lo (.ref b :: r) w Q := K_virt (as := []) rfl rfl rfl rfl (by decide) (by decide) rfl hb hr hc hc2 k
set_option maxRecDepth 20000 in
theorem wL_law_741 : WP P 119 741 lo st w Q ↔ x_ga lo[2]? (fun v => WP P 119 742 lo (v :: st) w Q) := W_aload_n rfl rfl rfl
set_option maxRecDepth 20000 in
theorem wL_law_742 {b nb : Nat} (hb : x_tg w b = some (11, nb)) (hr : r.length ≤ 8) (hc : ([] : List Value).all x_cat1 = true) (hc2 : r.all x_cat1 = true) (k : WP P 114 0 [some (.ref b), none] [] w (fun v w1 => WP P 119 745 lo (v.toList ++ r) w1 Q)) : WP P 119 742 lo (.ref b :: r) w Q := K_virt (as := []) rfl rfl rfl rfl (by decide) (by decide) rfl hb hr hc hc2 k
set_option maxRecDepth 20000 in
theorem wL_law_745 : WP P 119 745 lo (.int y :: .int x :: r) w Q ↔ (if x = y then WP P 119 872 lo r w Q else WP P 119 748 lo r w Q) := W_ic_eq rfl rfl rfl
set_option maxRecDepth 20000 in
theorem wL_law_748 : WP P 119 748 lo st w Q ↔ WP P 119 749 lo (.int (xi 0) :: st) w Q := W_iconst rfl rfl rfl
set_option maxRecDepth 20000 in
theorem wL_law_749 (h : x = 0 ∨ x = 1) : WP P 119 749 lo [.int x] w Q ↔ Q (some (.int x)) w := WP_ret rfl (if_pos (Or.inr ⟨rfl, h⟩))
set_option maxRecDepth 20000 in
theorem wL_law_750 : WP P 119 750 lo st w Q ↔ x_ga lo[1]? (fun v => WP P 119 751 lo (v :: st) w Q) := W_aload_n rfl rfl rfl
set_option maxRecDepth 20000 in
theorem wL_law_751 {b nb : Nat} (hb : x_tg w b = some (0, nb)) (hr : r.length ≤ 8) (hc : ([] : List Value).all x_cat1 = true) (hc2 : r.all x_cat1 = true) (k : WP P 69 0 [some (.ref b)] [] w (fun v w1 => WP P 119 754 lo (v.toList ++ r) w1 Q)) : WP P 119 751 lo (.ref b :: r) w Q := K_virt (as := []) rfl rfl rfl rfl (by decide) (by decide) rfl hb hr hc hc2 k
set_option maxRecDepth 20000 in
theorem wL_law_754 : WP P 119 754 lo st w Q ↔ x_ga lo[2]? (fun v => WP P 119 755 lo (v :: st) w Q) := W_aload_n rfl rfl rfl
set_option maxRecDepth 20000 in
theorem wL_law_755 {b nb : Nat} (hb : x_tg w b = some (11, nb)) (hr : r.length ≤ 8) (hc : ([] : List Value).all x_cat1 = true) (hc2 : r.all x_cat1 = true) (k : WP P 115 0 [some (.ref b), none] [] w (fun v w1 => WP P 119 758 lo (v.toList ++ r) w1 Q)) : WP P 119 755 lo (.ref b :: r) w Q := K_virt (as := []) rfl rfl rfl rfl (by decide) (by decide) rfl hb hr hc hc2 k
set_option maxRecDepth 20000 in
theorem wL_law_758 : WP P 119 758 lo (.int y :: .int x :: r) w Q ↔ (if x = y then WP P 119 872 lo r w Q else WP P 119 761 lo r w Q) := W_ic_eq rfl rfl rfl
set_option maxRecDepth 20000 in
theorem wL_law_761 : WP P 119 761 lo st w Q ↔ WP P 119 762 lo (.int (xi 0) :: st) w Q := W_iconst rfl rfl rfl
set_option maxRecDepth 20000 in
theorem wL_law_762 (h : x = 0 ∨ x = 1) : WP P 119 762 lo [.int x] w Q ↔ Q (some (.int x)) w := WP_ret rfl (if_pos (Or.inr ⟨rfl, h⟩))
set_option maxRecDepth 20000 in
theorem wL_law_763 : WP P 119 763 lo st w Q ↔ x_ga lo[1]? (fun v => WP P 119 764 lo (v :: st) w Q) := W_aload_n rfl rfl rfl
set_option maxRecDepth 20000 in
theorem wL_law_764 : WP P 119 764 lo st w Q ↔ x_ga lo[0]? (fun v => WP P 119 765 lo (v :: st) w Q) := W_aload_n rfl rfl rfl
set_option maxRecDepth 20000 in
theorem wL_law_765 : WP P 119 765 lo st w Q ↔ x_gi lo[3]? (fun x => WP P 119 766 lo (.int x :: st) w Q) := W_iload_n rfl rfl rfl
set_option maxRecDepth 20000 in
theorem wL_law_766 : WP P 119 766 lo st w Q ↔ WP P 119 767 lo (.int (xi 1) :: st) w Q := W_iconst rfl rfl rfl
set_option maxRecDepth 20000 in
theorem wL_law_767 : WP P 119 767 lo (.int y :: .int x :: r) w Q ↔ WP P 119 768 lo (.int (x + y) :: r) w Q := W_iadd rfl rfl
set_option maxRecDepth 20000 in
theorem wL_law_769 : WP P 119 769 lo st w Q ↔ x_ga lo[0]? (fun v => WP P 119 770 lo (v :: st) w Q) := W_aload_n rfl rfl rfl
set_option maxRecDepth 20000 in
theorem wL_law_770 : WP P 119 770 lo st w Q ↔ x_gi lo[3]? (fun x => WP P 119 771 lo (.int x :: st) w Q) := W_iload_n rfl rfl rfl
set_option maxRecDepth 20000 in
theorem wL_law_771 : WP P 119 771 lo st w Q ↔ WP P 119 772 lo (.int (xi 2) :: st) w Q := W_iconst rfl rfl rfl
set_option maxRecDepth 20000 in
theorem wL_law_772 : WP P 119 772 lo (.int y :: .int x :: r) w Q ↔ WP P 119 773 lo (.int (x + y) :: r) w Q := W_iadd rfl rfl
set_option maxRecDepth 20000 in
theorem wL_law_774 : WP P 119 774 lo st w Q ↔ x_ga lo[0]? (fun v => WP P 119 775 lo (v :: st) w Q) := W_aload_n rfl rfl rfl
set_option maxRecDepth 20000 in
theorem wL_law_775 : WP P 119 775 lo st w Q ↔ x_gi lo[3]? (fun x => WP P 119 776 lo (.int x :: st) w Q) := W_iload_n rfl rfl rfl
set_option maxRecDepth 20000 in
theorem wL_law_776 : WP P 119 776 lo st w Q ↔ WP P 119 777 lo (.int (xi 3) :: st) w Q := W_iconst rfl rfl rfl
set_option maxRecDepth 20000 in
theorem wL_law_777 : WP P 119 777 lo (.int y :: .int x :: r) w Q ↔ WP P 119 778 lo (.int (x + y) :: r) w Q := W_iadd rfl rfl
set_option maxRecDepth 20000 in
theorem wL_law_779 {u1 u2 u3 : Value} {b nb : Nat} (hb : x_tg w b = some (0, nb)) (hr : r.length ≤ 8) (hc : ([u1, u2, u3] : List Value).all x_cat1 = true) (hc2 : r.all x_cat1 = true) (k : WP P 70 0 [some (.ref b), some u1, some u2, some u3, none] [] w (fun v w1 => WP P 119 782 lo (v.toList ++ r) w1 Q)) : WP P 119 779 lo (u3 :: u2 :: u1 :: .ref b :: r) w Q := K_virt (as := [u1, u2, u3]) rfl rfl rfl rfl (by decide) (by decide) rfl hb hr hc hc2 k
set_option maxRecDepth 20000 in
theorem wL_law_782 : WP P 119 782 lo st w Q ↔ x_ga lo[2]? (fun v => WP P 119 783 lo (v :: st) w Q) := W_aload_n rfl rfl rfl
set_option maxRecDepth 20000 in
theorem wL_law_783 : WP P 119 783 lo st w Q ↔ x_ga lo[0]? (fun v => WP P 119 784 lo (v :: st) w Q) := W_aload_n rfl rfl rfl
set_option maxRecDepth 20000 in
theorem wL_law_784 : WP P 119 784 lo st w Q ↔ x_gi lo[3]? (fun x => WP P 119 785 lo (.int x :: st) w Q) := W_iload_n rfl rfl rfl
set_option maxRecDepth 20000 in
theorem wL_law_785 : WP P 119 785 lo st w Q ↔ WP P 119 786 lo (.int (xi 1) :: st) w Q := W_iconst rfl rfl rfl
set_option maxRecDepth 20000 in
theorem wL_law_786 : WP P 119 786 lo (.int y :: .int x :: r) w Q ↔ WP P 119 787 lo (.int (x + y) :: r) w Q := W_iadd rfl rfl
set_option maxRecDepth 20000 in
theorem wL_law_788 : WP P 119 788 lo st w Q ↔ x_ga lo[0]? (fun v => WP P 119 789 lo (v :: st) w Q) := W_aload_n rfl rfl rfl
set_option maxRecDepth 20000 in
theorem wL_law_789 : WP P 119 789 lo st w Q ↔ x_gi lo[3]? (fun x => WP P 119 790 lo (.int x :: st) w Q) := W_iload_n rfl rfl rfl
set_option maxRecDepth 20000 in
theorem wL_law_790 : WP P 119 790 lo st w Q ↔ WP P 119 791 lo (.int (xi 2) :: st) w Q := W_iconst rfl rfl rfl
set_option maxRecDepth 20000 in
theorem wL_law_791 : WP P 119 791 lo (.int y :: .int x :: r) w Q ↔ WP P 119 792 lo (.int (x + y) :: r) w Q := W_iadd rfl rfl
set_option maxRecDepth 20000 in
theorem wL_law_793 : WP P 119 793 lo st w Q ↔ x_ga lo[0]? (fun v => WP P 119 794 lo (v :: st) w Q) := W_aload_n rfl rfl rfl
set_option maxRecDepth 20000 in
theorem wL_law_794 : WP P 119 794 lo st w Q ↔ x_gi lo[3]? (fun x => WP P 119 795 lo (.int x :: st) w Q) := W_iload_n rfl rfl rfl
set_option maxRecDepth 20000 in
theorem wL_law_795 : WP P 119 795 lo st w Q ↔ WP P 119 796 lo (.int (xi 3) :: st) w Q := W_iconst rfl rfl rfl
set_option maxRecDepth 20000 in
theorem wL_law_796 : WP P 119 796 lo (.int y :: .int x :: r) w Q ↔ WP P 119 797 lo (.int (x + y) :: r) w Q := W_iadd rfl rfl
set_option maxRecDepth 20000 in
theorem wL_law_798 {u1 u2 u3 : Value} {b nb : Nat} (hb : x_tg w b = some (11, nb)) (hr : r.length ≤ 8) (hc : ([u1, u2, u3] : List Value).all x_cat1 = true) (hc2 : r.all x_cat1 = true) (k : WP P 116 0 [some (.ref b), some u1, some u2, some u3, none] [] w (fun v w1 => WP P 119 801 lo (v.toList ++ r) w1 Q)) : WP P 119 798 lo (u3 :: u2 :: u1 :: .ref b :: r) w Q := K_virt (as := [u1, u2, u3]) rfl rfl rfl rfl (by decide) (by decide) rfl hb hr hc hc2 k
set_option maxRecDepth 20000 in
theorem wL_law_801 : WP P 119 801 lo (.int y :: .int x :: r) w Q ↔ (if x = y then WP P 119 872 lo r w Q else WP P 119 804 lo r w Q) := W_ic_eq rfl rfl rfl
set_option maxRecDepth 20000 in
theorem wL_law_804 : WP P 119 804 lo st w Q ↔ WP P 119 805 lo (.int (xi 0) :: st) w Q := W_iconst rfl rfl rfl
set_option maxRecDepth 20000 in
theorem wL_law_805 (h : x = 0 ∨ x = 1) : WP P 119 805 lo [.int x] w Q ↔ Q (some (.int x)) w := WP_ret rfl (if_pos (Or.inr ⟨rfl, h⟩))
set_option maxRecDepth 20000 in
theorem wL_law_806 : WP P 119 806 lo st w Q ↔ x_ga lo[1]? (fun v => WP P 119 807 lo (v :: st) w Q) := W_aload_n rfl rfl rfl
set_option maxRecDepth 20000 in
theorem wL_law_807 : WP P 119 807 lo st w Q ↔ x_ga lo[0]? (fun v => WP P 119 808 lo (v :: st) w Q) := W_aload_n rfl rfl rfl
set_option maxRecDepth 20000 in
theorem wL_law_808 : WP P 119 808 lo st w Q ↔ x_gi lo[3]? (fun x => WP P 119 809 lo (.int x :: st) w Q) := W_iload_n rfl rfl rfl
set_option maxRecDepth 20000 in
theorem wL_law_809 : WP P 119 809 lo st w Q ↔ WP P 119 810 lo (.int (xi 1) :: st) w Q := W_iconst rfl rfl rfl
set_option maxRecDepth 20000 in
theorem wL_law_810 : WP P 119 810 lo (.int y :: .int x :: r) w Q ↔ WP P 119 811 lo (.int (x + y) :: r) w Q := W_iadd rfl rfl
set_option maxRecDepth 20000 in
theorem wL_law_812 : WP P 119 812 lo st w Q ↔ x_ga lo[0]? (fun v => WP P 119 813 lo (v :: st) w Q) := W_aload_n rfl rfl rfl
set_option maxRecDepth 20000 in
theorem wL_law_813 : WP P 119 813 lo st w Q ↔ x_gi lo[3]? (fun x => WP P 119 814 lo (.int x :: st) w Q) := W_iload_n rfl rfl rfl
set_option maxRecDepth 20000 in
theorem wL_law_814 : WP P 119 814 lo st w Q ↔ WP P 119 815 lo (.int (xi 2) :: st) w Q := W_iconst rfl rfl rfl
set_option maxRecDepth 20000 in
theorem wL_law_815 : WP P 119 815 lo (.int y :: .int x :: r) w Q ↔ WP P 119 816 lo (.int (x + y) :: r) w Q := W_iadd rfl rfl
set_option maxRecDepth 20000 in
theorem wL_law_817 {u1 u2 : Value} {b nb : Nat} (hb : x_tg w b = some (0, nb)) (hr : r.length ≤ 8) (hc : ([u1, u2] : List Value).all x_cat1 = true) (hc2 : r.all x_cat1 = true) (k : WP P 73 0 [some (.ref b), some u1, some u2, none] [] w (fun v w1 => WP P 119 820 lo (v.toList ++ r) w1 Q)) : WP P 119 817 lo (u2 :: u1 :: .ref b :: r) w Q := K_virt (as := [u1, u2]) rfl rfl rfl rfl (by decide) (by decide) rfl hb hr hc hc2 k
set_option maxRecDepth 20000 in
theorem wL_law_820 : WP P 119 820 lo st w Q ↔ x_ga lo[2]? (fun v => WP P 119 821 lo (v :: st) w Q) := W_aload_n rfl rfl rfl
set_option maxRecDepth 20000 in
theorem wL_law_821 : WP P 119 821 lo st w Q ↔ x_ga lo[0]? (fun v => WP P 119 822 lo (v :: st) w Q) := W_aload_n rfl rfl rfl
set_option maxRecDepth 20000 in
theorem wL_law_822 : WP P 119 822 lo st w Q ↔ x_gi lo[3]? (fun x => WP P 119 823 lo (.int x :: st) w Q) := W_iload_n rfl rfl rfl
set_option maxRecDepth 20000 in
theorem wL_law_823 : WP P 119 823 lo st w Q ↔ WP P 119 824 lo (.int (xi 1) :: st) w Q := W_iconst rfl rfl rfl
set_option maxRecDepth 20000 in
theorem wL_law_824 : WP P 119 824 lo (.int y :: .int x :: r) w Q ↔ WP P 119 825 lo (.int (x + y) :: r) w Q := W_iadd rfl rfl
set_option maxRecDepth 20000 in
theorem wL_law_826 : WP P 119 826 lo st w Q ↔ x_ga lo[0]? (fun v => WP P 119 827 lo (v :: st) w Q) := W_aload_n rfl rfl rfl
set_option maxRecDepth 20000 in
theorem wL_law_827 : WP P 119 827 lo st w Q ↔ x_gi lo[3]? (fun x => WP P 119 828 lo (.int x :: st) w Q) := W_iload_n rfl rfl rfl
set_option maxRecDepth 20000 in
theorem wL_law_828 : WP P 119 828 lo st w Q ↔ WP P 119 829 lo (.int (xi 2) :: st) w Q := W_iconst rfl rfl rfl
set_option maxRecDepth 20000 in
theorem wL_law_829 : WP P 119 829 lo (.int y :: .int x :: r) w Q ↔ WP P 119 830 lo (.int (x + y) :: r) w Q := W_iadd rfl rfl
set_option maxRecDepth 20000 in
theorem wL_law_831 {u1 u2 : Value} {b nb : Nat} (hb : x_tg w b = some (11, nb)) (hr : r.length ≤ 8) (hc : ([u1, u2] : List Value).all x_cat1 = true) (hc2 : r.all x_cat1 = true) (k : WP P 117 0 [some (.ref b), some u1, some u2, none] [] w (fun v w1 => WP P 119 834 lo (v.toList ++ r) w1 Q)) : WP P 119 831 lo (u2 :: u1 :: .ref b :: r) w Q := K_virt (as := [u1, u2]) rfl rfl rfl rfl (by decide) (by decide) rfl hb hr hc hc2 k
set_option maxRecDepth 20000 in
theorem wL_law_834 : WP P 119 834 lo (.int y :: .int x :: r) w Q ↔ (if x = y then WP P 119 872 lo r w Q else WP P 119 837 lo r w Q) := W_ic_eq rfl rfl rfl
set_option maxRecDepth 20000 in
theorem wL_law_837 : WP P 119 837 lo st w Q ↔ WP P 119 838 lo (.int (xi 0) :: st) w Q := W_iconst rfl rfl rfl
set_option maxRecDepth 20000 in
theorem wL_law_838 (h : x = 0 ∨ x = 1) : WP P 119 838 lo [.int x] w Q ↔ Q (some (.int x)) w := WP_ret rfl (if_pos (Or.inr ⟨rfl, h⟩))
set_option maxRecDepth 20000 in
theorem wL_law_839 : WP P 119 839 lo st w Q ↔ x_ga lo[1]? (fun v => WP P 119 840 lo (v :: st) w Q) := W_aload_n rfl rfl rfl
set_option maxRecDepth 20000 in
theorem wL_law_840 : WP P 119 840 lo st w Q ↔ x_ga lo[0]? (fun v => WP P 119 841 lo (v :: st) w Q) := W_aload_n rfl rfl rfl
set_option maxRecDepth 20000 in
theorem wL_law_841 : WP P 119 841 lo st w Q ↔ x_gi lo[3]? (fun x => WP P 119 842 lo (.int x :: st) w Q) := W_iload_n rfl rfl rfl
set_option maxRecDepth 20000 in
theorem wL_law_842 : WP P 119 842 lo st w Q ↔ WP P 119 843 lo (.int (xi 1) :: st) w Q := W_iconst rfl rfl rfl
set_option maxRecDepth 20000 in
theorem wL_law_843 : WP P 119 843 lo (.int y :: .int x :: r) w Q ↔ WP P 119 844 lo (.int (x + y) :: r) w Q := W_iadd rfl rfl
set_option maxRecDepth 20000 in
theorem wL_law_845 : WP P 119 845 lo st w Q ↔ x_ga lo[0]? (fun v => WP P 119 846 lo (v :: st) w Q) := W_aload_n rfl rfl rfl
set_option maxRecDepth 20000 in
theorem wL_law_846 : WP P 119 846 lo st w Q ↔ x_gi lo[3]? (fun x => WP P 119 847 lo (.int x :: st) w Q) := W_iload_n rfl rfl rfl
set_option maxRecDepth 20000 in
theorem wL_law_847 : WP P 119 847 lo st w Q ↔ WP P 119 848 lo (.int (xi 2) :: st) w Q := W_iconst rfl rfl rfl
set_option maxRecDepth 20000 in
theorem wL_law_848 : WP P 119 848 lo (.int y :: .int x :: r) w Q ↔ WP P 119 849 lo (.int (x + y) :: r) w Q := W_iadd rfl rfl
set_option maxRecDepth 20000 in
theorem wL_law_850 {u1 u2 : Value} {b nb : Nat} (hb : x_tg w b = some (0, nb)) (hr : r.length ≤ 8) (hc : ([u1, u2] : List Value).all x_cat1 = true) (hc2 : r.all x_cat1 = true) (k : WP P 75 0 [some (.ref b), some u1, some u2, none, none, none] [] w (fun v w1 => WP P 119 853 lo (v.toList ++ r) w1 Q)) : WP P 119 850 lo (u2 :: u1 :: .ref b :: r) w Q := K_virt (as := [u1, u2]) rfl rfl rfl rfl (by decide) (by decide) rfl hb hr hc hc2 k
set_option maxRecDepth 20000 in
theorem wL_law_853 : WP P 119 853 lo st w Q ↔ x_ga lo[2]? (fun v => WP P 119 854 lo (v :: st) w Q) := W_aload_n rfl rfl rfl
set_option maxRecDepth 20000 in
theorem wL_law_854 : WP P 119 854 lo st w Q ↔ x_ga lo[0]? (fun v => WP P 119 855 lo (v :: st) w Q) := W_aload_n rfl rfl rfl
set_option maxRecDepth 20000 in
theorem wL_law_855 : WP P 119 855 lo st w Q ↔ x_gi lo[3]? (fun x => WP P 119 856 lo (.int x :: st) w Q) := W_iload_n rfl rfl rfl
set_option maxRecDepth 20000 in
theorem wL_law_856 : WP P 119 856 lo st w Q ↔ WP P 119 857 lo (.int (xi 1) :: st) w Q := W_iconst rfl rfl rfl
set_option maxRecDepth 20000 in
theorem wL_law_857 : WP P 119 857 lo (.int y :: .int x :: r) w Q ↔ WP P 119 858 lo (.int (x + y) :: r) w Q := W_iadd rfl rfl
set_option maxRecDepth 20000 in
theorem wL_law_859 : WP P 119 859 lo st w Q ↔ x_ga lo[0]? (fun v => WP P 119 860 lo (v :: st) w Q) := W_aload_n rfl rfl rfl
set_option maxRecDepth 20000 in
theorem wL_law_860 : WP P 119 860 lo st w Q ↔ x_gi lo[3]? (fun x => WP P 119 861 lo (.int x :: st) w Q) := W_iload_n rfl rfl rfl
set_option maxRecDepth 20000 in
theorem wL_law_861 : WP P 119 861 lo st w Q ↔ WP P 119 862 lo (.int (xi 2) :: st) w Q := W_iconst rfl rfl rfl
set_option maxRecDepth 20000 in
theorem wL_law_862 : WP P 119 862 lo (.int y :: .int x :: r) w Q ↔ WP P 119 863 lo (.int (x + y) :: r) w Q := W_iadd rfl rfl
set_option maxRecDepth 20000 in
theorem wL_law_864 {u1 u2 : Value} {b nb : Nat} (hb : x_tg w b = some (11, nb)) (hr : r.length ≤ 8) (hc : ([u1, u2] : List Value).all x_cat1 = true) (hc2 : r.all x_cat1 = true) (k : WP P 118 0 [some (.ref b), some u1, some u2, none, none] [] w (fun v w1 => WP P 119 867 lo (v.toList ++ r) w1 Q)) : WP P 119 864 lo (u2 :: u1 :: .ref b :: r) w Q := K_virt (as := [u1, u2]) rfl rfl rfl rfl (by decide) (by decide) rfl hb hr hc hc2 k
set_option maxRecDepth 20000 in
theorem wL_law_867 : WP P 119 867 lo (.int y :: .int x :: r) w Q ↔ (if x = y then WP P 119 872 lo r w Q else WP P 119 870 lo r w Q) := W_ic_eq rfl rfl rfl
set_option maxRecDepth 20000 in
theorem wL_law_870 : WP P 119 870 lo st w Q ↔ WP P 119 871 lo (.int (xi 0) :: st) w Q := W_iconst rfl rfl rfl
set_option maxRecDepth 20000 in
theorem wL_law_871 (h : x = 0 ∨ x = 1) : WP P 119 871 lo [.int x] w Q ↔ Q (some (.int x)) w := WP_ret rfl (if_pos (Or.inr ⟨rfl, h⟩))
set_option maxRecDepth 20000 in
theorem wL_law_872 : WP P 119 872 lo st w Q ↔ x_gi lo[3]? (fun x => WP P 119 875 (lo.set 3 (some (.int (x + xi 5)))) st w Q) := W_iinc rfl rfl
set_option maxRecDepth 20000 in
theorem wL_law_875 : WP P 119 875 lo st w Q ↔ WP P 119 18 lo st w Q := W_goto rfl rfl
set_option maxRecDepth 20000 in
theorem wL_law_878 : WP P 119 878 lo st w Q ↔ WP P 119 879 lo (.int (xi 1) :: st) w Q := W_iconst rfl rfl rfl
set_option maxRecDepth 20000 in
theorem wL_law_879 (h : x = 0 ∨ x = 1) : WP P 119 879 lo [.int x] w Q ↔ Q (some (.int x)) w := WP_ret rfl (if_pos (Or.inr ⟨rfl, h⟩))
set_option maxRecDepth 20000 in
theorem wL_law_20 {N : Nat} {g : Nat → Int32} (hp2 : x_tg w P.2.2 = none) (hP : P.1 P.2.2 = some (N, g)) (hN : (N : Int) < 2147483648) : WP P 119 20 lo (.ref P.2.2 :: r) w Q ↔ WP P 119 21 lo (.int (xi (N : Int)) :: r) w Q := L_len rfl rfl hp2 hP hN
set_option maxRecDepth 20000 in
theorem wL_law_28 {N : Nat} {g : Nat → Int32} {j : Int} (hp2 : x_tg w P.2.2 = none) (hP : P.1 P.2.2 = some (N, g)) (j0 : 0 ≤ j) (j1 : j < (N : Int)) (hN : (N : Int) < 2147483648) : WP P 119 28 lo (.int (xi j) :: .ref P.2.2 :: r) w Q ↔ WP P 119 29 lo (.int (g j.toNat) :: r) w Q := L_ald rfl rfl hp2 hP j0 j1 hN
set_option maxRecDepth 20000 in
theorem wL_law_133 {N : Nat} {g : Nat → Int32} {j : Int} (hp2 : x_tg w P.2.2 = none) (hP : P.1 P.2.2 = some (N, g)) (j0 : 0 ≤ j) (j1 : j < (N : Int)) (hN : (N : Int) < 2147483648) : WP P 119 133 lo (.int (xi j) :: .ref P.2.2 :: r) w Q ↔ WP P 119 134 lo (.int (g j.toNat) :: r) w Q := L_ald rfl rfl hp2 hP j0 j1 hN
set_option maxRecDepth 20000 in
theorem wL_law_138 {N : Nat} {g : Nat → Int32} {j : Int} (hp2 : x_tg w P.2.2 = none) (hP : P.1 P.2.2 = some (N, g)) (j0 : 0 ≤ j) (j1 : j < (N : Int)) (hN : (N : Int) < 2147483648) : WP P 119 138 lo (.int (xi j) :: .ref P.2.2 :: r) w Q ↔ WP P 119 139 lo (.int (g j.toNat) :: r) w Q := L_ald rfl rfl hp2 hP j0 j1 hN
set_option maxRecDepth 20000 in
theorem wL_law_143 {N : Nat} {g : Nat → Int32} {j : Int} (hp2 : x_tg w P.2.2 = none) (hP : P.1 P.2.2 = some (N, g)) (j0 : 0 ≤ j) (j1 : j < (N : Int)) (hN : (N : Int) < 2147483648) : WP P 119 143 lo (.int (xi j) :: .ref P.2.2 :: r) w Q ↔ WP P 119 144 lo (.int (g j.toNat) :: r) w Q := L_ald rfl rfl hp2 hP j0 j1 hN
set_option maxRecDepth 20000 in
theorem wL_law_148 {N : Nat} {g : Nat → Int32} {j : Int} (hp2 : x_tg w P.2.2 = none) (hP : P.1 P.2.2 = some (N, g)) (j0 : 0 ≤ j) (j1 : j < (N : Int)) (hN : (N : Int) < 2147483648) : WP P 119 148 lo (.int (xi j) :: .ref P.2.2 :: r) w Q ↔ WP P 119 149 lo (.int (g j.toNat) :: r) w Q := L_ald rfl rfl hp2 hP j0 j1 hN
set_option maxRecDepth 20000 in
theorem wL_law_157 {N : Nat} {g : Nat → Int32} {j : Int} (hp2 : x_tg w P.2.2 = none) (hP : P.1 P.2.2 = some (N, g)) (j0 : 0 ≤ j) (j1 : j < (N : Int)) (hN : (N : Int) < 2147483648) : WP P 119 157 lo (.int (xi j) :: .ref P.2.2 :: r) w Q ↔ WP P 119 158 lo (.int (g j.toNat) :: r) w Q := L_ald rfl rfl hp2 hP j0 j1 hN
set_option maxRecDepth 20000 in
theorem wL_law_162 {N : Nat} {g : Nat → Int32} {j : Int} (hp2 : x_tg w P.2.2 = none) (hP : P.1 P.2.2 = some (N, g)) (j0 : 0 ≤ j) (j1 : j < (N : Int)) (hN : (N : Int) < 2147483648) : WP P 119 162 lo (.int (xi j) :: .ref P.2.2 :: r) w Q ↔ WP P 119 163 lo (.int (g j.toNat) :: r) w Q := L_ald rfl rfl hp2 hP j0 j1 hN
set_option maxRecDepth 20000 in
theorem wL_law_167 {N : Nat} {g : Nat → Int32} {j : Int} (hp2 : x_tg w P.2.2 = none) (hP : P.1 P.2.2 = some (N, g)) (j0 : 0 ≤ j) (j1 : j < (N : Int)) (hN : (N : Int) < 2147483648) : WP P 119 167 lo (.int (xi j) :: .ref P.2.2 :: r) w Q ↔ WP P 119 168 lo (.int (g j.toNat) :: r) w Q := L_ald rfl rfl hp2 hP j0 j1 hN
set_option maxRecDepth 20000 in
theorem wL_law_172 {N : Nat} {g : Nat → Int32} {j : Int} (hp2 : x_tg w P.2.2 = none) (hP : P.1 P.2.2 = some (N, g)) (j0 : 0 ≤ j) (j1 : j < (N : Int)) (hN : (N : Int) < 2147483648) : WP P 119 172 lo (.int (xi j) :: .ref P.2.2 :: r) w Q ↔ WP P 119 173 lo (.int (g j.toNat) :: r) w Q := L_ald rfl rfl hp2 hP j0 j1 hN
set_option maxRecDepth 20000 in
theorem wL_law_186 {N : Nat} {g : Nat → Int32} {j : Int} (hp2 : x_tg w P.2.2 = none) (hP : P.1 P.2.2 = some (N, g)) (j0 : 0 ≤ j) (j1 : j < (N : Int)) (hN : (N : Int) < 2147483648) : WP P 119 186 lo (.int (xi j) :: .ref P.2.2 :: r) w Q ↔ WP P 119 187 lo (.int (g j.toNat) :: r) w Q := L_ald rfl rfl hp2 hP j0 j1 hN
set_option maxRecDepth 20000 in
theorem wL_law_191 {N : Nat} {g : Nat → Int32} {j : Int} (hp2 : x_tg w P.2.2 = none) (hP : P.1 P.2.2 = some (N, g)) (j0 : 0 ≤ j) (j1 : j < (N : Int)) (hN : (N : Int) < 2147483648) : WP P 119 191 lo (.int (xi j) :: .ref P.2.2 :: r) w Q ↔ WP P 119 192 lo (.int (g j.toNat) :: r) w Q := L_ald rfl rfl hp2 hP j0 j1 hN
set_option maxRecDepth 20000 in
theorem wL_law_196 {N : Nat} {g : Nat → Int32} {j : Int} (hp2 : x_tg w P.2.2 = none) (hP : P.1 P.2.2 = some (N, g)) (j0 : 0 ≤ j) (j1 : j < (N : Int)) (hN : (N : Int) < 2147483648) : WP P 119 196 lo (.int (xi j) :: .ref P.2.2 :: r) w Q ↔ WP P 119 197 lo (.int (g j.toNat) :: r) w Q := L_ald rfl rfl hp2 hP j0 j1 hN
set_option maxRecDepth 20000 in
theorem wL_law_201 {N : Nat} {g : Nat → Int32} {j : Int} (hp2 : x_tg w P.2.2 = none) (hP : P.1 P.2.2 = some (N, g)) (j0 : 0 ≤ j) (j1 : j < (N : Int)) (hN : (N : Int) < 2147483648) : WP P 119 201 lo (.int (xi j) :: .ref P.2.2 :: r) w Q ↔ WP P 119 202 lo (.int (g j.toNat) :: r) w Q := L_ald rfl rfl hp2 hP j0 j1 hN
set_option maxRecDepth 20000 in
theorem wL_law_210 {N : Nat} {g : Nat → Int32} {j : Int} (hp2 : x_tg w P.2.2 = none) (hP : P.1 P.2.2 = some (N, g)) (j0 : 0 ≤ j) (j1 : j < (N : Int)) (hN : (N : Int) < 2147483648) : WP P 119 210 lo (.int (xi j) :: .ref P.2.2 :: r) w Q ↔ WP P 119 211 lo (.int (g j.toNat) :: r) w Q := L_ald rfl rfl hp2 hP j0 j1 hN
set_option maxRecDepth 20000 in
theorem wL_law_215 {N : Nat} {g : Nat → Int32} {j : Int} (hp2 : x_tg w P.2.2 = none) (hP : P.1 P.2.2 = some (N, g)) (j0 : 0 ≤ j) (j1 : j < (N : Int)) (hN : (N : Int) < 2147483648) : WP P 119 215 lo (.int (xi j) :: .ref P.2.2 :: r) w Q ↔ WP P 119 216 lo (.int (g j.toNat) :: r) w Q := L_ald rfl rfl hp2 hP j0 j1 hN
set_option maxRecDepth 20000 in
theorem wL_law_220 {N : Nat} {g : Nat → Int32} {j : Int} (hp2 : x_tg w P.2.2 = none) (hP : P.1 P.2.2 = some (N, g)) (j0 : 0 ≤ j) (j1 : j < (N : Int)) (hN : (N : Int) < 2147483648) : WP P 119 220 lo (.int (xi j) :: .ref P.2.2 :: r) w Q ↔ WP P 119 221 lo (.int (g j.toNat) :: r) w Q := L_ald rfl rfl hp2 hP j0 j1 hN
set_option maxRecDepth 20000 in
theorem wL_law_225 {N : Nat} {g : Nat → Int32} {j : Int} (hp2 : x_tg w P.2.2 = none) (hP : P.1 P.2.2 = some (N, g)) (j0 : 0 ≤ j) (j1 : j < (N : Int)) (hN : (N : Int) < 2147483648) : WP P 119 225 lo (.int (xi j) :: .ref P.2.2 :: r) w Q ↔ WP P 119 226 lo (.int (g j.toNat) :: r) w Q := L_ald rfl rfl hp2 hP j0 j1 hN
set_option maxRecDepth 20000 in
theorem wL_law_239 {N : Nat} {g : Nat → Int32} {j : Int} (hp2 : x_tg w P.2.2 = none) (hP : P.1 P.2.2 = some (N, g)) (j0 : 0 ≤ j) (j1 : j < (N : Int)) (hN : (N : Int) < 2147483648) : WP P 119 239 lo (.int (xi j) :: .ref P.2.2 :: r) w Q ↔ WP P 119 240 lo (.int (g j.toNat) :: r) w Q := L_ald rfl rfl hp2 hP j0 j1 hN
set_option maxRecDepth 20000 in
theorem wL_law_244 {N : Nat} {g : Nat → Int32} {j : Int} (hp2 : x_tg w P.2.2 = none) (hP : P.1 P.2.2 = some (N, g)) (j0 : 0 ≤ j) (j1 : j < (N : Int)) (hN : (N : Int) < 2147483648) : WP P 119 244 lo (.int (xi j) :: .ref P.2.2 :: r) w Q ↔ WP P 119 245 lo (.int (g j.toNat) :: r) w Q := L_ald rfl rfl hp2 hP j0 j1 hN
set_option maxRecDepth 20000 in
theorem wL_law_253 {N : Nat} {g : Nat → Int32} {j : Int} (hp2 : x_tg w P.2.2 = none) (hP : P.1 P.2.2 = some (N, g)) (j0 : 0 ≤ j) (j1 : j < (N : Int)) (hN : (N : Int) < 2147483648) : WP P 119 253 lo (.int (xi j) :: .ref P.2.2 :: r) w Q ↔ WP P 119 254 lo (.int (g j.toNat) :: r) w Q := L_ald rfl rfl hp2 hP j0 j1 hN
set_option maxRecDepth 20000 in
theorem wL_law_258 {N : Nat} {g : Nat → Int32} {j : Int} (hp2 : x_tg w P.2.2 = none) (hP : P.1 P.2.2 = some (N, g)) (j0 : 0 ≤ j) (j1 : j < (N : Int)) (hN : (N : Int) < 2147483648) : WP P 119 258 lo (.int (xi j) :: .ref P.2.2 :: r) w Q ↔ WP P 119 259 lo (.int (g j.toNat) :: r) w Q := L_ald rfl rfl hp2 hP j0 j1 hN
set_option maxRecDepth 20000 in
theorem wL_law_272 {N : Nat} {g : Nat → Int32} {j : Int} (hp2 : x_tg w P.2.2 = none) (hP : P.1 P.2.2 = some (N, g)) (j0 : 0 ≤ j) (j1 : j < (N : Int)) (hN : (N : Int) < 2147483648) : WP P 119 272 lo (.int (xi j) :: .ref P.2.2 :: r) w Q ↔ WP P 119 273 lo (.int (g j.toNat) :: r) w Q := L_ald rfl rfl hp2 hP j0 j1 hN
set_option maxRecDepth 20000 in
theorem wL_law_281 {N : Nat} {g : Nat → Int32} {j : Int} (hp2 : x_tg w P.2.2 = none) (hP : P.1 P.2.2 = some (N, g)) (j0 : 0 ≤ j) (j1 : j < (N : Int)) (hN : (N : Int) < 2147483648) : WP P 119 281 lo (.int (xi j) :: .ref P.2.2 :: r) w Q ↔ WP P 119 282 lo (.int (g j.toNat) :: r) w Q := L_ald rfl rfl hp2 hP j0 j1 hN
set_option maxRecDepth 20000 in
theorem wL_law_295 {N : Nat} {g : Nat → Int32} {j : Int} (hp2 : x_tg w P.2.2 = none) (hP : P.1 P.2.2 = some (N, g)) (j0 : 0 ≤ j) (j1 : j < (N : Int)) (hN : (N : Int) < 2147483648) : WP P 119 295 lo (.int (xi j) :: .ref P.2.2 :: r) w Q ↔ WP P 119 296 lo (.int (g j.toNat) :: r) w Q := L_ald rfl rfl hp2 hP j0 j1 hN
set_option maxRecDepth 20000 in
theorem wL_law_304 {N : Nat} {g : Nat → Int32} {j : Int} (hp2 : x_tg w P.2.2 = none) (hP : P.1 P.2.2 = some (N, g)) (j0 : 0 ≤ j) (j1 : j < (N : Int)) (hN : (N : Int) < 2147483648) : WP P 119 304 lo (.int (xi j) :: .ref P.2.2 :: r) w Q ↔ WP P 119 305 lo (.int (g j.toNat) :: r) w Q := L_ald rfl rfl hp2 hP j0 j1 hN
set_option maxRecDepth 20000 in
theorem wL_law_318 {N : Nat} {g : Nat → Int32} {j : Int} (hp2 : x_tg w P.2.2 = none) (hP : P.1 P.2.2 = some (N, g)) (j0 : 0 ≤ j) (j1 : j < (N : Int)) (hN : (N : Int) < 2147483648) : WP P 119 318 lo (.int (xi j) :: .ref P.2.2 :: r) w Q ↔ WP P 119 319 lo (.int (g j.toNat) :: r) w Q := L_ald rfl rfl hp2 hP j0 j1 hN
set_option maxRecDepth 20000 in
theorem wL_law_323 {N : Nat} {g : Nat → Int32} {j : Int} (hp2 : x_tg w P.2.2 = none) (hP : P.1 P.2.2 = some (N, g)) (j0 : 0 ≤ j) (j1 : j < (N : Int)) (hN : (N : Int) < 2147483648) : WP P 119 323 lo (.int (xi j) :: .ref P.2.2 :: r) w Q ↔ WP P 119 324 lo (.int (g j.toNat) :: r) w Q := L_ald rfl rfl hp2 hP j0 j1 hN
set_option maxRecDepth 20000 in
theorem wL_law_328 {N : Nat} {g : Nat → Int32} {j : Int} (hp2 : x_tg w P.2.2 = none) (hP : P.1 P.2.2 = some (N, g)) (j0 : 0 ≤ j) (j1 : j < (N : Int)) (hN : (N : Int) < 2147483648) : WP P 119 328 lo (.int (xi j) :: .ref P.2.2 :: r) w Q ↔ WP P 119 329 lo (.int (g j.toNat) :: r) w Q := L_ald rfl rfl hp2 hP j0 j1 hN
set_option maxRecDepth 20000 in
theorem wL_law_333 {N : Nat} {g : Nat → Int32} {j : Int} (hp2 : x_tg w P.2.2 = none) (hP : P.1 P.2.2 = some (N, g)) (j0 : 0 ≤ j) (j1 : j < (N : Int)) (hN : (N : Int) < 2147483648) : WP P 119 333 lo (.int (xi j) :: .ref P.2.2 :: r) w Q ↔ WP P 119 334 lo (.int (g j.toNat) :: r) w Q := L_ald rfl rfl hp2 hP j0 j1 hN
set_option maxRecDepth 20000 in
theorem wL_law_342 {N : Nat} {g : Nat → Int32} {j : Int} (hp2 : x_tg w P.2.2 = none) (hP : P.1 P.2.2 = some (N, g)) (j0 : 0 ≤ j) (j1 : j < (N : Int)) (hN : (N : Int) < 2147483648) : WP P 119 342 lo (.int (xi j) :: .ref P.2.2 :: r) w Q ↔ WP P 119 343 lo (.int (g j.toNat) :: r) w Q := L_ald rfl rfl hp2 hP j0 j1 hN
set_option maxRecDepth 20000 in
theorem wL_law_347 {N : Nat} {g : Nat → Int32} {j : Int} (hp2 : x_tg w P.2.2 = none) (hP : P.1 P.2.2 = some (N, g)) (j0 : 0 ≤ j) (j1 : j < (N : Int)) (hN : (N : Int) < 2147483648) : WP P 119 347 lo (.int (xi j) :: .ref P.2.2 :: r) w Q ↔ WP P 119 348 lo (.int (g j.toNat) :: r) w Q := L_ald rfl rfl hp2 hP j0 j1 hN
set_option maxRecDepth 20000 in
theorem wL_law_352 {N : Nat} {g : Nat → Int32} {j : Int} (hp2 : x_tg w P.2.2 = none) (hP : P.1 P.2.2 = some (N, g)) (j0 : 0 ≤ j) (j1 : j < (N : Int)) (hN : (N : Int) < 2147483648) : WP P 119 352 lo (.int (xi j) :: .ref P.2.2 :: r) w Q ↔ WP P 119 353 lo (.int (g j.toNat) :: r) w Q := L_ald rfl rfl hp2 hP j0 j1 hN
set_option maxRecDepth 20000 in
theorem wL_law_357 {N : Nat} {g : Nat → Int32} {j : Int} (hp2 : x_tg w P.2.2 = none) (hP : P.1 P.2.2 = some (N, g)) (j0 : 0 ≤ j) (j1 : j < (N : Int)) (hN : (N : Int) < 2147483648) : WP P 119 357 lo (.int (xi j) :: .ref P.2.2 :: r) w Q ↔ WP P 119 358 lo (.int (g j.toNat) :: r) w Q := L_ald rfl rfl hp2 hP j0 j1 hN
set_option maxRecDepth 20000 in
theorem wL_law_371 {N : Nat} {g : Nat → Int32} {j : Int} (hp2 : x_tg w P.2.2 = none) (hP : P.1 P.2.2 = some (N, g)) (j0 : 0 ≤ j) (j1 : j < (N : Int)) (hN : (N : Int) < 2147483648) : WP P 119 371 lo (.int (xi j) :: .ref P.2.2 :: r) w Q ↔ WP P 119 372 lo (.int (g j.toNat) :: r) w Q := L_ald rfl rfl hp2 hP j0 j1 hN
set_option maxRecDepth 20000 in
theorem wL_law_376 {N : Nat} {g : Nat → Int32} {j : Int} (hp2 : x_tg w P.2.2 = none) (hP : P.1 P.2.2 = some (N, g)) (j0 : 0 ≤ j) (j1 : j < (N : Int)) (hN : (N : Int) < 2147483648) : WP P 119 376 lo (.int (xi j) :: .ref P.2.2 :: r) w Q ↔ WP P 119 377 lo (.int (g j.toNat) :: r) w Q := L_ald rfl rfl hp2 hP j0 j1 hN
set_option maxRecDepth 20000 in
theorem wL_law_393 {N : Nat} {g : Nat → Int32} {j : Int} (hp2 : x_tg w P.2.2 = none) (hP : P.1 P.2.2 = some (N, g)) (j0 : 0 ≤ j) (j1 : j < (N : Int)) (hN : (N : Int) < 2147483648) : WP P 119 393 lo (.int (xi j) :: .ref P.2.2 :: r) w Q ↔ WP P 119 394 lo (.int (g j.toNat) :: r) w Q := L_ald rfl rfl hp2 hP j0 j1 hN
set_option maxRecDepth 20000 in
theorem wL_law_398 {N : Nat} {g : Nat → Int32} {j : Int} (hp2 : x_tg w P.2.2 = none) (hP : P.1 P.2.2 = some (N, g)) (j0 : 0 ≤ j) (j1 : j < (N : Int)) (hN : (N : Int) < 2147483648) : WP P 119 398 lo (.int (xi j) :: .ref P.2.2 :: r) w Q ↔ WP P 119 399 lo (.int (g j.toNat) :: r) w Q := L_ald rfl rfl hp2 hP j0 j1 hN
set_option maxRecDepth 20000 in
theorem wL_law_420 {N : Nat} {g : Nat → Int32} {j : Int} (hp2 : x_tg w P.2.2 = none) (hP : P.1 P.2.2 = some (N, g)) (j0 : 0 ≤ j) (j1 : j < (N : Int)) (hN : (N : Int) < 2147483648) : WP P 119 420 lo (.int (xi j) :: .ref P.2.2 :: r) w Q ↔ WP P 119 421 lo (.int (g j.toNat) :: r) w Q := L_ald rfl rfl hp2 hP j0 j1 hN
set_option maxRecDepth 20000 in
theorem wL_law_425 {N : Nat} {g : Nat → Int32} {j : Int} (hp2 : x_tg w P.2.2 = none) (hP : P.1 P.2.2 = some (N, g)) (j0 : 0 ≤ j) (j1 : j < (N : Int)) (hN : (N : Int) < 2147483648) : WP P 119 425 lo (.int (xi j) :: .ref P.2.2 :: r) w Q ↔ WP P 119 426 lo (.int (g j.toNat) :: r) w Q := L_ald rfl rfl hp2 hP j0 j1 hN
set_option maxRecDepth 20000 in
theorem wL_law_430 {N : Nat} {g : Nat → Int32} {j : Int} (hp2 : x_tg w P.2.2 = none) (hP : P.1 P.2.2 = some (N, g)) (j0 : 0 ≤ j) (j1 : j < (N : Int)) (hN : (N : Int) < 2147483648) : WP P 119 430 lo (.int (xi j) :: .ref P.2.2 :: r) w Q ↔ WP P 119 431 lo (.int (g j.toNat) :: r) w Q := L_ald rfl rfl hp2 hP j0 j1 hN
set_option maxRecDepth 20000 in
theorem wL_law_435 {N : Nat} {g : Nat → Int32} {j : Int} (hp2 : x_tg w P.2.2 = none) (hP : P.1 P.2.2 = some (N, g)) (j0 : 0 ≤ j) (j1 : j < (N : Int)) (hN : (N : Int) < 2147483648) : WP P 119 435 lo (.int (xi j) :: .ref P.2.2 :: r) w Q ↔ WP P 119 436 lo (.int (g j.toNat) :: r) w Q := L_ald rfl rfl hp2 hP j0 j1 hN
set_option maxRecDepth 20000 in
theorem wL_law_452 {N : Nat} {g : Nat → Int32} {j : Int} (hp2 : x_tg w P.2.2 = none) (hP : P.1 P.2.2 = some (N, g)) (j0 : 0 ≤ j) (j1 : j < (N : Int)) (hN : (N : Int) < 2147483648) : WP P 119 452 lo (.int (xi j) :: .ref P.2.2 :: r) w Q ↔ WP P 119 453 lo (.int (g j.toNat) :: r) w Q := L_ald rfl rfl hp2 hP j0 j1 hN
set_option maxRecDepth 20000 in
theorem wL_law_457 {N : Nat} {g : Nat → Int32} {j : Int} (hp2 : x_tg w P.2.2 = none) (hP : P.1 P.2.2 = some (N, g)) (j0 : 0 ≤ j) (j1 : j < (N : Int)) (hN : (N : Int) < 2147483648) : WP P 119 457 lo (.int (xi j) :: .ref P.2.2 :: r) w Q ↔ WP P 119 458 lo (.int (g j.toNat) :: r) w Q := L_ald rfl rfl hp2 hP j0 j1 hN
set_option maxRecDepth 20000 in
theorem wL_law_462 {N : Nat} {g : Nat → Int32} {j : Int} (hp2 : x_tg w P.2.2 = none) (hP : P.1 P.2.2 = some (N, g)) (j0 : 0 ≤ j) (j1 : j < (N : Int)) (hN : (N : Int) < 2147483648) : WP P 119 462 lo (.int (xi j) :: .ref P.2.2 :: r) w Q ↔ WP P 119 463 lo (.int (g j.toNat) :: r) w Q := L_ald rfl rfl hp2 hP j0 j1 hN
set_option maxRecDepth 20000 in
theorem wL_law_467 {N : Nat} {g : Nat → Int32} {j : Int} (hp2 : x_tg w P.2.2 = none) (hP : P.1 P.2.2 = some (N, g)) (j0 : 0 ≤ j) (j1 : j < (N : Int)) (hN : (N : Int) < 2147483648) : WP P 119 467 lo (.int (xi j) :: .ref P.2.2 :: r) w Q ↔ WP P 119 468 lo (.int (g j.toNat) :: r) w Q := L_ald rfl rfl hp2 hP j0 j1 hN
set_option maxRecDepth 20000 in
theorem wL_law_489 {N : Nat} {g : Nat → Int32} {j : Int} (hp2 : x_tg w P.2.2 = none) (hP : P.1 P.2.2 = some (N, g)) (j0 : 0 ≤ j) (j1 : j < (N : Int)) (hN : (N : Int) < 2147483648) : WP P 119 489 lo (.int (xi j) :: .ref P.2.2 :: r) w Q ↔ WP P 119 490 lo (.int (g j.toNat) :: r) w Q := L_ald rfl rfl hp2 hP j0 j1 hN
set_option maxRecDepth 20000 in
theorem wL_law_494 {N : Nat} {g : Nat → Int32} {j : Int} (hp2 : x_tg w P.2.2 = none) (hP : P.1 P.2.2 = some (N, g)) (j0 : 0 ≤ j) (j1 : j < (N : Int)) (hN : (N : Int) < 2147483648) : WP P 119 494 lo (.int (xi j) :: .ref P.2.2 :: r) w Q ↔ WP P 119 495 lo (.int (g j.toNat) :: r) w Q := L_ald rfl rfl hp2 hP j0 j1 hN
set_option maxRecDepth 20000 in
theorem wL_law_499 {N : Nat} {g : Nat → Int32} {j : Int} (hp2 : x_tg w P.2.2 = none) (hP : P.1 P.2.2 = some (N, g)) (j0 : 0 ≤ j) (j1 : j < (N : Int)) (hN : (N : Int) < 2147483648) : WP P 119 499 lo (.int (xi j) :: .ref P.2.2 :: r) w Q ↔ WP P 119 500 lo (.int (g j.toNat) :: r) w Q := L_ald rfl rfl hp2 hP j0 j1 hN
set_option maxRecDepth 20000 in
theorem wL_law_516 {N : Nat} {g : Nat → Int32} {j : Int} (hp2 : x_tg w P.2.2 = none) (hP : P.1 P.2.2 = some (N, g)) (j0 : 0 ≤ j) (j1 : j < (N : Int)) (hN : (N : Int) < 2147483648) : WP P 119 516 lo (.int (xi j) :: .ref P.2.2 :: r) w Q ↔ WP P 119 517 lo (.int (g j.toNat) :: r) w Q := L_ald rfl rfl hp2 hP j0 j1 hN
set_option maxRecDepth 20000 in
theorem wL_law_521 {N : Nat} {g : Nat → Int32} {j : Int} (hp2 : x_tg w P.2.2 = none) (hP : P.1 P.2.2 = some (N, g)) (j0 : 0 ≤ j) (j1 : j < (N : Int)) (hN : (N : Int) < 2147483648) : WP P 119 521 lo (.int (xi j) :: .ref P.2.2 :: r) w Q ↔ WP P 119 522 lo (.int (g j.toNat) :: r) w Q := L_ald rfl rfl hp2 hP j0 j1 hN
set_option maxRecDepth 20000 in
theorem wL_law_526 {N : Nat} {g : Nat → Int32} {j : Int} (hp2 : x_tg w P.2.2 = none) (hP : P.1 P.2.2 = some (N, g)) (j0 : 0 ≤ j) (j1 : j < (N : Int)) (hN : (N : Int) < 2147483648) : WP P 119 526 lo (.int (xi j) :: .ref P.2.2 :: r) w Q ↔ WP P 119 527 lo (.int (g j.toNat) :: r) w Q := L_ald rfl rfl hp2 hP j0 j1 hN
set_option maxRecDepth 20000 in
theorem wL_law_548 {N : Nat} {g : Nat → Int32} {j : Int} (hp2 : x_tg w P.2.2 = none) (hP : P.1 P.2.2 = some (N, g)) (j0 : 0 ≤ j) (j1 : j < (N : Int)) (hN : (N : Int) < 2147483648) : WP P 119 548 lo (.int (xi j) :: .ref P.2.2 :: r) w Q ↔ WP P 119 549 lo (.int (g j.toNat) :: r) w Q := L_ald rfl rfl hp2 hP j0 j1 hN
set_option maxRecDepth 20000 in
theorem wL_law_557 {N : Nat} {g : Nat → Int32} {j : Int} (hp2 : x_tg w P.2.2 = none) (hP : P.1 P.2.2 = some (N, g)) (j0 : 0 ≤ j) (j1 : j < (N : Int)) (hN : (N : Int) < 2147483648) : WP P 119 557 lo (.int (xi j) :: .ref P.2.2 :: r) w Q ↔ WP P 119 558 lo (.int (g j.toNat) :: r) w Q := L_ald rfl rfl hp2 hP j0 j1 hN
set_option maxRecDepth 20000 in
theorem wL_law_571 {N : Nat} {g : Nat → Int32} {j : Int} (hp2 : x_tg w P.2.2 = none) (hP : P.1 P.2.2 = some (N, g)) (j0 : 0 ≤ j) (j1 : j < (N : Int)) (hN : (N : Int) < 2147483648) : WP P 119 571 lo (.int (xi j) :: .ref P.2.2 :: r) w Q ↔ WP P 119 572 lo (.int (g j.toNat) :: r) w Q := L_ald rfl rfl hp2 hP j0 j1 hN
set_option maxRecDepth 20000 in
theorem wL_law_576 {N : Nat} {g : Nat → Int32} {j : Int} (hp2 : x_tg w P.2.2 = none) (hP : P.1 P.2.2 = some (N, g)) (j0 : 0 ≤ j) (j1 : j < (N : Int)) (hN : (N : Int) < 2147483648) : WP P 119 576 lo (.int (xi j) :: .ref P.2.2 :: r) w Q ↔ WP P 119 577 lo (.int (g j.toNat) :: r) w Q := L_ald rfl rfl hp2 hP j0 j1 hN
set_option maxRecDepth 20000 in
theorem wL_law_593 {N : Nat} {g : Nat → Int32} {j : Int} (hp2 : x_tg w P.2.2 = none) (hP : P.1 P.2.2 = some (N, g)) (j0 : 0 ≤ j) (j1 : j < (N : Int)) (hN : (N : Int) < 2147483648) : WP P 119 593 lo (.int (xi j) :: .ref P.2.2 :: r) w Q ↔ WP P 119 594 lo (.int (g j.toNat) :: r) w Q := L_ald rfl rfl hp2 hP j0 j1 hN
set_option maxRecDepth 20000 in
theorem wL_law_598 {N : Nat} {g : Nat → Int32} {j : Int} (hp2 : x_tg w P.2.2 = none) (hP : P.1 P.2.2 = some (N, g)) (j0 : 0 ≤ j) (j1 : j < (N : Int)) (hN : (N : Int) < 2147483648) : WP P 119 598 lo (.int (xi j) :: .ref P.2.2 :: r) w Q ↔ WP P 119 599 lo (.int (g j.toNat) :: r) w Q := L_ald rfl rfl hp2 hP j0 j1 hN
set_option maxRecDepth 20000 in
theorem wL_law_620 {N : Nat} {g : Nat → Int32} {j : Int} (hp2 : x_tg w P.2.2 = none) (hP : P.1 P.2.2 = some (N, g)) (j0 : 0 ≤ j) (j1 : j < (N : Int)) (hN : (N : Int) < 2147483648) : WP P 119 620 lo (.int (xi j) :: .ref P.2.2 :: r) w Q ↔ WP P 119 621 lo (.int (g j.toNat) :: r) w Q := L_ald rfl rfl hp2 hP j0 j1 hN
set_option maxRecDepth 20000 in
theorem wL_law_625 {N : Nat} {g : Nat → Int32} {j : Int} (hp2 : x_tg w P.2.2 = none) (hP : P.1 P.2.2 = some (N, g)) (j0 : 0 ≤ j) (j1 : j < (N : Int)) (hN : (N : Int) < 2147483648) : WP P 119 625 lo (.int (xi j) :: .ref P.2.2 :: r) w Q ↔ WP P 119 626 lo (.int (g j.toNat) :: r) w Q := L_ald rfl rfl hp2 hP j0 j1 hN
set_option maxRecDepth 20000 in
theorem wL_law_630 {N : Nat} {g : Nat → Int32} {j : Int} (hp2 : x_tg w P.2.2 = none) (hP : P.1 P.2.2 = some (N, g)) (j0 : 0 ≤ j) (j1 : j < (N : Int)) (hN : (N : Int) < 2147483648) : WP P 119 630 lo (.int (xi j) :: .ref P.2.2 :: r) w Q ↔ WP P 119 631 lo (.int (g j.toNat) :: r) w Q := L_ald rfl rfl hp2 hP j0 j1 hN
set_option maxRecDepth 20000 in
theorem wL_law_639 {N : Nat} {g : Nat → Int32} {j : Int} (hp2 : x_tg w P.2.2 = none) (hP : P.1 P.2.2 = some (N, g)) (j0 : 0 ≤ j) (j1 : j < (N : Int)) (hN : (N : Int) < 2147483648) : WP P 119 639 lo (.int (xi j) :: .ref P.2.2 :: r) w Q ↔ WP P 119 640 lo (.int (g j.toNat) :: r) w Q := L_ald rfl rfl hp2 hP j0 j1 hN
set_option maxRecDepth 20000 in
theorem wL_law_644 {N : Nat} {g : Nat → Int32} {j : Int} (hp2 : x_tg w P.2.2 = none) (hP : P.1 P.2.2 = some (N, g)) (j0 : 0 ≤ j) (j1 : j < (N : Int)) (hN : (N : Int) < 2147483648) : WP P 119 644 lo (.int (xi j) :: .ref P.2.2 :: r) w Q ↔ WP P 119 645 lo (.int (g j.toNat) :: r) w Q := L_ald rfl rfl hp2 hP j0 j1 hN
set_option maxRecDepth 20000 in
theorem wL_law_649 {N : Nat} {g : Nat → Int32} {j : Int} (hp2 : x_tg w P.2.2 = none) (hP : P.1 P.2.2 = some (N, g)) (j0 : 0 ≤ j) (j1 : j < (N : Int)) (hN : (N : Int) < 2147483648) : WP P 119 649 lo (.int (xi j) :: .ref P.2.2 :: r) w Q ↔ WP P 119 650 lo (.int (g j.toNat) :: r) w Q := L_ald rfl rfl hp2 hP j0 j1 hN
set_option maxRecDepth 20000 in
theorem wL_law_663 {N : Nat} {g : Nat → Int32} {j : Int} (hp2 : x_tg w P.2.2 = none) (hP : P.1 P.2.2 = some (N, g)) (j0 : 0 ≤ j) (j1 : j < (N : Int)) (hN : (N : Int) < 2147483648) : WP P 119 663 lo (.int (xi j) :: .ref P.2.2 :: r) w Q ↔ WP P 119 664 lo (.int (g j.toNat) :: r) w Q := L_ald rfl rfl hp2 hP j0 j1 hN
set_option maxRecDepth 20000 in
theorem wL_law_672 {N : Nat} {g : Nat → Int32} {j : Int} (hp2 : x_tg w P.2.2 = none) (hP : P.1 P.2.2 = some (N, g)) (j0 : 0 ≤ j) (j1 : j < (N : Int)) (hN : (N : Int) < 2147483648) : WP P 119 672 lo (.int (xi j) :: .ref P.2.2 :: r) w Q ↔ WP P 119 673 lo (.int (g j.toNat) :: r) w Q := L_ald rfl rfl hp2 hP j0 j1 hN
set_option maxRecDepth 20000 in
theorem wL_law_686 {N : Nat} {g : Nat → Int32} {j : Int} (hp2 : x_tg w P.2.2 = none) (hP : P.1 P.2.2 = some (N, g)) (j0 : 0 ≤ j) (j1 : j < (N : Int)) (hN : (N : Int) < 2147483648) : WP P 119 686 lo (.int (xi j) :: .ref P.2.2 :: r) w Q ↔ WP P 119 687 lo (.int (g j.toNat) :: r) w Q := L_ald rfl rfl hp2 hP j0 j1 hN
set_option maxRecDepth 20000 in
theorem wL_law_691 {N : Nat} {g : Nat → Int32} {j : Int} (hp2 : x_tg w P.2.2 = none) (hP : P.1 P.2.2 = some (N, g)) (j0 : 0 ≤ j) (j1 : j < (N : Int)) (hN : (N : Int) < 2147483648) : WP P 119 691 lo (.int (xi j) :: .ref P.2.2 :: r) w Q ↔ WP P 119 692 lo (.int (g j.toNat) :: r) w Q := L_ald rfl rfl hp2 hP j0 j1 hN
set_option maxRecDepth 20000 in
theorem wL_law_700 {N : Nat} {g : Nat → Int32} {j : Int} (hp2 : x_tg w P.2.2 = none) (hP : P.1 P.2.2 = some (N, g)) (j0 : 0 ≤ j) (j1 : j < (N : Int)) (hN : (N : Int) < 2147483648) : WP P 119 700 lo (.int (xi j) :: .ref P.2.2 :: r) w Q ↔ WP P 119 701 lo (.int (g j.toNat) :: r) w Q := L_ald rfl rfl hp2 hP j0 j1 hN
set_option maxRecDepth 20000 in
theorem wL_law_705 {N : Nat} {g : Nat → Int32} {j : Int} (hp2 : x_tg w P.2.2 = none) (hP : P.1 P.2.2 = some (N, g)) (j0 : 0 ≤ j) (j1 : j < (N : Int)) (hN : (N : Int) < 2147483648) : WP P 119 705 lo (.int (xi j) :: .ref P.2.2 :: r) w Q ↔ WP P 119 706 lo (.int (g j.toNat) :: r) w Q := L_ald rfl rfl hp2 hP j0 j1 hN
set_option maxRecDepth 20000 in
theorem wL_law_719 {N : Nat} {g : Nat → Int32} {j : Int} (hp2 : x_tg w P.2.2 = none) (hP : P.1 P.2.2 = some (N, g)) (j0 : 0 ≤ j) (j1 : j < (N : Int)) (hN : (N : Int) < 2147483648) : WP P 119 719 lo (.int (xi j) :: .ref P.2.2 :: r) w Q ↔ WP P 119 720 lo (.int (g j.toNat) :: r) w Q := L_ald rfl rfl hp2 hP j0 j1 hN
set_option maxRecDepth 20000 in
theorem wL_law_728 {N : Nat} {g : Nat → Int32} {j : Int} (hp2 : x_tg w P.2.2 = none) (hP : P.1 P.2.2 = some (N, g)) (j0 : 0 ≤ j) (j1 : j < (N : Int)) (hN : (N : Int) < 2147483648) : WP P 119 728 lo (.int (xi j) :: .ref P.2.2 :: r) w Q ↔ WP P 119 729 lo (.int (g j.toNat) :: r) w Q := L_ald rfl rfl hp2 hP j0 j1 hN
set_option maxRecDepth 20000 in
theorem wL_law_768 {N : Nat} {g : Nat → Int32} {j : Int} (hp2 : x_tg w P.2.2 = none) (hP : P.1 P.2.2 = some (N, g)) (j0 : 0 ≤ j) (j1 : j < (N : Int)) (hN : (N : Int) < 2147483648) : WP P 119 768 lo (.int (xi j) :: .ref P.2.2 :: r) w Q ↔ WP P 119 769 lo (.int (g j.toNat) :: r) w Q := L_ald rfl rfl hp2 hP j0 j1 hN
set_option maxRecDepth 20000 in
theorem wL_law_773 {N : Nat} {g : Nat → Int32} {j : Int} (hp2 : x_tg w P.2.2 = none) (hP : P.1 P.2.2 = some (N, g)) (j0 : 0 ≤ j) (j1 : j < (N : Int)) (hN : (N : Int) < 2147483648) : WP P 119 773 lo (.int (xi j) :: .ref P.2.2 :: r) w Q ↔ WP P 119 774 lo (.int (g j.toNat) :: r) w Q := L_ald rfl rfl hp2 hP j0 j1 hN
set_option maxRecDepth 20000 in
theorem wL_law_778 {N : Nat} {g : Nat → Int32} {j : Int} (hp2 : x_tg w P.2.2 = none) (hP : P.1 P.2.2 = some (N, g)) (j0 : 0 ≤ j) (j1 : j < (N : Int)) (hN : (N : Int) < 2147483648) : WP P 119 778 lo (.int (xi j) :: .ref P.2.2 :: r) w Q ↔ WP P 119 779 lo (.int (g j.toNat) :: r) w Q := L_ald rfl rfl hp2 hP j0 j1 hN
set_option maxRecDepth 20000 in
theorem wL_law_787 {N : Nat} {g : Nat → Int32} {j : Int} (hp2 : x_tg w P.2.2 = none) (hP : P.1 P.2.2 = some (N, g)) (j0 : 0 ≤ j) (j1 : j < (N : Int)) (hN : (N : Int) < 2147483648) : WP P 119 787 lo (.int (xi j) :: .ref P.2.2 :: r) w Q ↔ WP P 119 788 lo (.int (g j.toNat) :: r) w Q := L_ald rfl rfl hp2 hP j0 j1 hN
set_option maxRecDepth 20000 in
theorem wL_law_792 {N : Nat} {g : Nat → Int32} {j : Int} (hp2 : x_tg w P.2.2 = none) (hP : P.1 P.2.2 = some (N, g)) (j0 : 0 ≤ j) (j1 : j < (N : Int)) (hN : (N : Int) < 2147483648) : WP P 119 792 lo (.int (xi j) :: .ref P.2.2 :: r) w Q ↔ WP P 119 793 lo (.int (g j.toNat) :: r) w Q := L_ald rfl rfl hp2 hP j0 j1 hN
set_option maxRecDepth 20000 in
theorem wL_law_797 {N : Nat} {g : Nat → Int32} {j : Int} (hp2 : x_tg w P.2.2 = none) (hP : P.1 P.2.2 = some (N, g)) (j0 : 0 ≤ j) (j1 : j < (N : Int)) (hN : (N : Int) < 2147483648) : WP P 119 797 lo (.int (xi j) :: .ref P.2.2 :: r) w Q ↔ WP P 119 798 lo (.int (g j.toNat) :: r) w Q := L_ald rfl rfl hp2 hP j0 j1 hN
set_option maxRecDepth 20000 in
theorem wL_law_811 {N : Nat} {g : Nat → Int32} {j : Int} (hp2 : x_tg w P.2.2 = none) (hP : P.1 P.2.2 = some (N, g)) (j0 : 0 ≤ j) (j1 : j < (N : Int)) (hN : (N : Int) < 2147483648) : WP P 119 811 lo (.int (xi j) :: .ref P.2.2 :: r) w Q ↔ WP P 119 812 lo (.int (g j.toNat) :: r) w Q := L_ald rfl rfl hp2 hP j0 j1 hN
set_option maxRecDepth 20000 in
theorem wL_law_816 {N : Nat} {g : Nat → Int32} {j : Int} (hp2 : x_tg w P.2.2 = none) (hP : P.1 P.2.2 = some (N, g)) (j0 : 0 ≤ j) (j1 : j < (N : Int)) (hN : (N : Int) < 2147483648) : WP P 119 816 lo (.int (xi j) :: .ref P.2.2 :: r) w Q ↔ WP P 119 817 lo (.int (g j.toNat) :: r) w Q := L_ald rfl rfl hp2 hP j0 j1 hN
set_option maxRecDepth 20000 in
theorem wL_law_825 {N : Nat} {g : Nat → Int32} {j : Int} (hp2 : x_tg w P.2.2 = none) (hP : P.1 P.2.2 = some (N, g)) (j0 : 0 ≤ j) (j1 : j < (N : Int)) (hN : (N : Int) < 2147483648) : WP P 119 825 lo (.int (xi j) :: .ref P.2.2 :: r) w Q ↔ WP P 119 826 lo (.int (g j.toNat) :: r) w Q := L_ald rfl rfl hp2 hP j0 j1 hN
set_option maxRecDepth 20000 in
theorem wL_law_830 {N : Nat} {g : Nat → Int32} {j : Int} (hp2 : x_tg w P.2.2 = none) (hP : P.1 P.2.2 = some (N, g)) (j0 : 0 ≤ j) (j1 : j < (N : Int)) (hN : (N : Int) < 2147483648) : WP P 119 830 lo (.int (xi j) :: .ref P.2.2 :: r) w Q ↔ WP P 119 831 lo (.int (g j.toNat) :: r) w Q := L_ald rfl rfl hp2 hP j0 j1 hN
set_option maxRecDepth 20000 in
theorem wL_law_844 {N : Nat} {g : Nat → Int32} {j : Int} (hp2 : x_tg w P.2.2 = none) (hP : P.1 P.2.2 = some (N, g)) (j0 : 0 ≤ j) (j1 : j < (N : Int)) (hN : (N : Int) < 2147483648) : WP P 119 844 lo (.int (xi j) :: .ref P.2.2 :: r) w Q ↔ WP P 119 845 lo (.int (g j.toNat) :: r) w Q := L_ald rfl rfl hp2 hP j0 j1 hN
set_option maxRecDepth 20000 in
theorem wL_law_849 {N : Nat} {g : Nat → Int32} {j : Int} (hp2 : x_tg w P.2.2 = none) (hP : P.1 P.2.2 = some (N, g)) (j0 : 0 ≤ j) (j1 : j < (N : Int)) (hN : (N : Int) < 2147483648) : WP P 119 849 lo (.int (xi j) :: .ref P.2.2 :: r) w Q ↔ WP P 119 850 lo (.int (g j.toNat) :: r) w Q := L_ald rfl rfl hp2 hP j0 j1 hN
set_option maxRecDepth 20000 in
theorem wL_law_858 {N : Nat} {g : Nat → Int32} {j : Int} (hp2 : x_tg w P.2.2 = none) (hP : P.1 P.2.2 = some (N, g)) (j0 : 0 ≤ j) (j1 : j < (N : Int)) (hN : (N : Int) < 2147483648) : WP P 119 858 lo (.int (xi j) :: .ref P.2.2 :: r) w Q ↔ WP P 119 859 lo (.int (g j.toNat) :: r) w Q := L_ald rfl rfl hp2 hP j0 j1 hN
set_option maxRecDepth 20000 in
theorem wL_law_863 {N : Nat} {g : Nat → Int32} {j : Int} (hp2 : x_tg w P.2.2 = none) (hP : P.1 P.2.2 = some (N, g)) (j0 : 0 ≤ j) (j1 : j < (N : Int)) (hN : (N : Int) < 2147483648) : WP P 119 863 lo (.int (xi j) :: .ref P.2.2 :: r) w Q ↔ WP P 119 864 lo (.int (g j.toNat) :: r) w Q := L_ald rfl rfl hp2 hP j0 j1 hN
end WL

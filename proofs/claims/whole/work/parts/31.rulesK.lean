section WR
variable {P : xP} {lo : List (Option Value)} {st r : List Value} {w : xH} {Q : Option Value → xH → Prop} {mo : Nat} {S : xS} {x y : Int32} {a : Nat} {z : Int} {v1 v2 : Value}
-- 0 K_init
theorem wK_init_0 : WP P 0 0 lo st w Q ↔ x_ga lo[0]? (fun v => WP P 0 1 lo (v :: st) w Q) := W_aload_n rfl rfl rfl
theorem wK_init_1 (hr : r.length ≤ 8) (hc2 : r.all x_cat1 = true) : WP P 0 1 lo (.ref a :: r) w Q ↔ WP P 0 4 lo r w Q := W_objinit rfl rfl hr hc2 (by decide) (by decide) rfl
theorem wK_init_4 : WP P 0 4 lo st w Q ↔ x_ga lo[0]? (fun v => WP P 0 5 lo (v :: st) w Q) := W_aload_n rfl rfl rfl
theorem wK_init_5 : WP P 0 5 lo st w Q ↔ WP P 0 8 lo (.int (xi 128) :: st) w Q := W_sipush rfl rfl (by decide)
theorem wK_init_8 (h0 : 0 ≤ z) (h1 : z ≤ 1000) : WP P 0 8 lo (.int (xi z) :: r) w Q ↔ WP P 0 11 lo (.ref (x_sz w) :: r) (x_new w (30 + 1) z.toNat (fun _ => .null)) Q := W_newr rfl rfl h0 h1 rfl
theorem wK_init_11 : WP P 0 11 lo (v1 :: .ref a :: r) w Q ↔ ((x_has w a [0] ∧ x_fit 2 v1 = true) ∧ WP P 0 14 lo r (x_put w a 0 v1) Q) := W_put rfl rfl (by decide) rfl
theorem wK_init_14 : WP P 0 14 lo st w Q ↔ x_ga lo[0]? (fun v => WP P 0 15 lo (v :: st) w Q) := W_aload_n rfl rfl rfl
theorem wK_init_15 : WP P 0 15 lo st w Q ↔ WP P 0 17 lo (.int (xi 16) :: st) w Q := W_bipush rfl rfl (by decide)
theorem wK_init_17 (h0 : 0 ≤ z) (h1 : z ≤ 1000) : WP P 0 17 lo (.int (xi z) :: r) w Q ↔ WP P 0 20 lo (.ref (x_sz w) :: r) (x_new w (30 + 2) z.toNat (fun _ => .null)) Q := W_newr rfl rfl h0 h1 rfl
theorem wK_init_20 : WP P 0 20 lo (v1 :: .ref a :: r) w Q ↔ ((x_has w a [0] ∧ x_fit 2 v1 = true) ∧ WP P 0 23 lo r (x_put w a 1 v1) Q) := W_put rfl rfl (by decide) rfl
theorem wK_init_23 : WP P 0 23 lo st w Q ↔ x_ga lo[0]? (fun v => WP P 0 24 lo (v :: st) w Q) := W_aload_n rfl rfl rfl
theorem wK_init_24 : WP P 0 24 lo st w Q ↔ WP P 0 25 lo (.int (xi 4) :: st) w Q := W_iconst rfl rfl rfl
theorem wK_init_25 (h0 : 0 ≤ z) (h1 : z ≤ 1000) : WP P 0 25 lo (.int (xi z) :: r) w Q ↔ WP P 0 28 lo (.ref (x_sz w) :: r) (x_new w (30 + 7) z.toNat (fun _ => .null)) Q := W_newr rfl rfl h0 h1 rfl
theorem wK_init_28 : WP P 0 28 lo (v1 :: .ref a :: r) w Q ↔ ((x_has w a [0] ∧ x_fit 2 v1 = true) ∧ WP P 0 31 lo r (x_put w a 3 v1) Q) := W_put rfl rfl (by decide) rfl
theorem wK_init_31 : WP P 0 31 lo st w Q ↔ x_ga lo[0]? (fun v => WP P 0 32 lo (v :: st) w Q) := W_aload_n rfl rfl rfl
theorem wK_init_32 : WP P 0 32 lo st w Q ↔ WP P 0 33 lo (.int (xi 4) :: st) w Q := W_iconst rfl rfl rfl
theorem wK_init_33 (h0 : 0 ≤ z) (h1 : z ≤ 1000) : WP P 0 33 lo (.int (xi z) :: r) w Q ↔ WP P 0 36 lo (.ref (x_sz w) :: r) (x_new w (30 + 3) z.toNat (fun _ => .null)) Q := W_newr rfl rfl h0 h1 rfl
theorem wK_init_36 : WP P 0 36 lo (v1 :: .ref a :: r) w Q ↔ ((x_has w a [0] ∧ x_fit 2 v1 = true) ∧ WP P 0 39 lo r (x_put w a 2 v1) Q) := W_put rfl rfl (by decide) rfl
theorem wK_init_39 : WP P 0 39 lo st w Q ↔ WP P 0 40 lo (.int (xi 0) :: st) w Q := W_iconst rfl rfl rfl
theorem wK_init_40 : WP P 0 40 lo (.int x :: r) w Q ↔ (1 < lo.length ∧ WP P 0 41 (lo.set 1 (some (.int x))) r w Q) := W_istore_n rfl rfl rfl
theorem wK_init_41 : WP P 0 41 lo st w Q ↔ x_gi lo[1]? (fun x => WP P 0 42 lo (.int x :: st) w Q) := W_iload_n rfl rfl rfl
theorem wK_init_42 : WP P 0 42 lo st w Q ↔ WP P 0 43 lo (.int (xi 4) :: st) w Q := W_iconst rfl rfl rfl
theorem wK_init_43 : WP P 0 43 lo (.int y :: .int x :: r) w Q ↔ (if x < y then WP P 0 46 lo r w Q else WP P 0 65 lo r w Q) := W_ic_ge rfl rfl rfl
theorem wK_init_46 : WP P 0 46 lo st w Q ↔ x_ga lo[0]? (fun v => WP P 0 47 lo (v :: st) w Q) := W_aload_n rfl rfl rfl
theorem wK_init_47 : WP P 0 47 lo (.ref a :: r) w Q ↔ (x_has w a [0] ∧ WP P 0 50 lo (x_fd w a 2 :: r) w Q) := W_get rfl rfl rfl
theorem wK_init_50 : WP P 0 50 lo st w Q ↔ x_gi lo[1]? (fun x => WP P 0 51 lo (.int x :: st) w Q) := W_iload_n rfl rfl rfl
theorem wK_init_51 : WP P 0 51 lo st w Q ↔ WP P 0 54 lo (.ref (x_sz w) :: st) (x_new w 3 2 (x_df 3)) Q := W_new rfl rfl rfl rfl rfl
theorem wK_init_54 : WP P 0 54 lo (v1 :: r) w Q ↔ (x_cat1 v1 = true ∧ WP P 0 55 lo (v1 :: v1 :: r) w Q) := W_dup rfl rfl
theorem wK_init_55 {b : Nat} (hr : r.length ≤ 8) (hc : ([] : List Value).all x_cat1 = true) (hc2 : r.all x_cat1 = true) (k : WP P 1 0 [some (.ref b)] [] w (fun v w1 => WP P 0 58 lo (v.toList ++ r) w1 Q)) : WP P 0 55 lo (.ref b :: r) w Q := K_init (as := []) rfl rfl (by decide) rfl rfl (by decide) (by decide) rfl hr hc hc2 k
theorem wK_init_58n {t n : Nat} (h1 : x_tg w a = some (t, n)) (ht : 30 ≤ t) (h2 : ¬ x < 0) (h3 : x.toNatClampNeg < n) : WP P 0 58 lo (.null :: .int x :: .ref a :: r) w Q ↔ WP P 0 59 lo r (x_put w a x.toNatClampNeg .null) Q := W_aast_n rfl h1 ht h2 h3 rfl
theorem wK_init_58 {b t n nb : Nat} (h1 : x_tg w a = some (30 + t, n)) (hv : x_tg w b = some (t, nb)) (ht : t < 20) (h2 : ¬ x < 0) (h3 : x.toNatClampNeg < n) : WP P 0 58 lo (.ref b :: .int x :: .ref a :: r) w Q ↔ WP P 0 59 lo r (x_put w a x.toNatClampNeg (.ref b)) Q := W_aast_r rfl h1 hv ht h2 h3 rfl
theorem wK_init_59 : WP P 0 59 lo st w Q ↔ x_gi lo[1]? (fun x => WP P 0 62 (lo.set 1 (some (.int (x + xi 1)))) st w Q) := W_iinc rfl rfl
theorem wK_init_62 : WP P 0 62 lo st w Q ↔ WP P 0 41 lo st w Q := W_goto rfl rfl
theorem wK_init_65 : WP P 0 65 lo st w Q ↔ WP P 0 68 lo (.ref (x_sz w) :: st) (x_new w 5 2 (x_df 5)) Q := W_new rfl rfl rfl rfl rfl
theorem wK_init_68 : WP P 0 68 lo (v1 :: r) w Q ↔ (x_cat1 v1 = true ∧ WP P 0 69 lo (v1 :: v1 :: r) w Q) := W_dup rfl rfl
theorem wK_init_69 : WP P 0 69 lo st w Q ↔ WP P 0 70 lo (.int (xi 0) :: st) w Q := W_iconst rfl rfl rfl
theorem wK_init_70 {u1 : Value} {b : Nat} (hr : r.length ≤ 8) (hc : ([u1] : List Value).all x_cat1 = true) (hc2 : r.all x_cat1 = true) (k : WP P 2 0 [some (.ref b), some u1] [] w (fun v w1 => WP P 0 73 lo (v.toList ++ r) w1 Q)) : WP P 0 70 lo (u1 :: .ref b :: r) w Q := K_init (as := [u1]) rfl rfl (by decide) rfl rfl (by decide) (by decide) rfl hr hc hc2 k
theorem wK_init_73 : WP P 0 73 lo (.ref a :: r) w Q ↔ (1 < lo.length ∧ WP P 0 74 (lo.set 1 (some (.ref a))) r w Q) := W_astore_n rfl rfl rfl
theorem wK_init_73n : WP P 0 73 lo (.null :: r) w Q ↔ (1 < lo.length ∧ WP P 0 74 (lo.set 1 (some .null)) r w Q) := W_astore_nN rfl rfl rfl
theorem wK_init_74 : WP P 0 74 lo st w Q ↔ WP P 0 77 lo (.ref (x_sz w) :: st) (x_new w 2 16 (x_df 2)) Q := W_new rfl rfl rfl rfl rfl
theorem wK_init_77 : WP P 0 77 lo (v1 :: r) w Q ↔ (x_cat1 v1 = true ∧ WP P 0 78 lo (v1 :: v1 :: r) w Q) := W_dup rfl rfl
theorem wK_init_78 : WP P 0 78 lo st w Q ↔ WP P 0 80 lo (.int (xi 16) :: st) w Q := W_bipush rfl rfl (by decide)
theorem wK_init_80 {u1 : Value} {b : Nat} (hr : r.length ≤ 8) (hc : ([u1] : List Value).all x_cat1 = true) (hc2 : r.all x_cat1 = true) (k : WP P 4 0 [some (.ref b), some u1] [] w (fun v w1 => WP P 0 83 lo (v.toList ++ r) w1 Q)) : WP P 0 80 lo (u1 :: .ref b :: r) w Q := K_init (as := [u1]) rfl rfl (by decide) rfl rfl (by decide) (by decide) rfl hr hc hc2 k
theorem wK_init_83 : WP P 0 83 lo (.ref a :: r) w Q ↔ (2 < lo.length ∧ WP P 0 84 (lo.set 2 (some (.ref a))) r w Q) := W_astore_n rfl rfl rfl
theorem wK_init_83n : WP P 0 83 lo (.null :: r) w Q ↔ (2 < lo.length ∧ WP P 0 84 (lo.set 2 (some .null)) r w Q) := W_astore_nN rfl rfl rfl
theorem wK_init_84 : WP P 0 84 lo st w Q ↔ x_ga lo[2]? (fun v => WP P 0 85 lo (v :: st) w Q) := W_aload_n rfl rfl rfl
theorem wK_init_85 : WP P 0 85 lo st w Q ↔ x_ga lo[1]? (fun v => WP P 0 86 lo (v :: st) w Q) := W_aload_n rfl rfl rfl
theorem wK_init_86 : WP P 0 86 lo (v1 :: .ref a :: r) w Q ↔ ((x_has w a [2] ∧ x_fit 2 v1 = true) ∧ WP P 0 89 lo r (x_put w a 2 v1) Q) := W_put rfl rfl (by decide) rfl
theorem wK_init_89 : WP P 0 89 lo st w Q ↔ x_ga lo[2]? (fun v => WP P 0 90 lo (v :: st) w Q) := W_aload_n rfl rfl rfl
theorem wK_init_90 : WP P 0 90 lo st w Q ↔ WP P 0 91 lo (.int (xi 3) :: st) w Q := W_iconst rfl rfl rfl
theorem wK_init_91 : WP P 0 91 lo (v1 :: .ref a :: r) w Q ↔ ((x_has w a [2] ∧ x_fit 0 v1 = true) ∧ WP P 0 94 lo r (x_put w a 4 v1) Q) := W_put rfl rfl (by decide) rfl
theorem wK_init_94 : WP P 0 94 lo st w Q ↔ x_ga lo[0]? (fun v => WP P 0 95 lo (v :: st) w Q) := W_aload_n rfl rfl rfl
theorem wK_init_95 : WP P 0 95 lo (.ref a :: r) w Q ↔ (x_has w a [0] ∧ WP P 0 98 lo (x_fd w a 1 :: r) w Q) := W_get rfl rfl rfl
theorem wK_init_98 : WP P 0 98 lo st w Q ↔ x_ga lo[2]? (fun v => WP P 0 99 lo (v :: st) w Q) := W_aload_n rfl rfl rfl
theorem wK_init_99 : WP P 0 99 lo (.ref a :: r) w Q ↔ (x_has w a [2] ∧ WP P 0 102 lo (x_fd w a 1 :: r) w Q) := W_get rfl rfl rfl
theorem wK_init_102 : WP P 0 102 lo st w Q ↔ WP P 0 104 lo (.int (xi 8) :: st) w Q := W_bipush rfl rfl (by decide)
theorem wK_init_104 : WP P 0 104 lo (.int y :: .int x :: r) w Q ↔ (¬ y = 0 ∧ WP P 0 105 lo (.int (x / y) :: r) w Q) := W_idiv rfl rfl
theorem wK_init_105 : WP P 0 105 lo st w Q ↔ x_ga lo[2]? (fun v => WP P 0 106 lo (v :: st) w Q) := W_aload_n rfl rfl rfl
theorem wK_init_106n {t n : Nat} (h1 : x_tg w a = some (t, n)) (ht : 30 ≤ t) (h2 : ¬ x < 0) (h3 : x.toNatClampNeg < n) : WP P 0 106 lo (.null :: .int x :: .ref a :: r) w Q ↔ WP P 0 107 lo r (x_put w a x.toNatClampNeg .null) Q := W_aast_n rfl h1 ht h2 h3 rfl
theorem wK_init_106 {b t n nb : Nat} (h1 : x_tg w a = some (30 + t, n)) (hv : x_tg w b = some (t, nb)) (ht : t < 20) (h2 : ¬ x < 0) (h3 : x.toNatClampNeg < n) : WP P 0 106 lo (.ref b :: .int x :: .ref a :: r) w Q ↔ WP P 0 107 lo r (x_put w a x.toNatClampNeg (.ref b)) Q := W_aast_r rfl h1 hv ht h2 h3 rfl
theorem wK_init_107 : WP P 0 107 lo st w Q ↔ x_ga lo[0]? (fun v => WP P 0 108 lo (v :: st) w Q) := W_aload_n rfl rfl rfl
theorem wK_init_108 : WP P 0 108 lo st w Q ↔ x_ga lo[2]? (fun v => WP P 0 109 lo (v :: st) w Q) := W_aload_n rfl rfl rfl
theorem wK_init_109 {u1 : Value} {b nb : Nat} (hb : x_tg w b = some (0, nb)) (hr : r.length ≤ 8) (hc : ([u1] : List Value).all x_cat1 = true) (hc2 : r.all x_cat1 = true) (k : WP P 5 0 [some (.ref b), some u1] [] w (fun v w1 => WP P 0 112 lo (v.toList ++ r) w1 Q)) : WP P 0 109 lo (u1 :: .ref b :: r) w Q := K_virt (as := [u1]) rfl rfl rfl rfl (by decide) (by decide) rfl hb hr hc hc2 k
theorem wK_init_112 : WP P 0 112 lo st w Q ↔ x_ga lo[0]? (fun v => WP P 0 113 lo (v :: st) w Q) := W_aload_n rfl rfl rfl
theorem wK_init_113 : WP P 0 113 lo st w Q ↔ WP P 0 116 lo (.ref (x_sz w) :: st) (x_new w 1 8 (x_df 1)) Q := W_new rfl rfl rfl rfl rfl
theorem wK_init_116 : WP P 0 116 lo (v1 :: r) w Q ↔ (x_cat1 v1 = true ∧ WP P 0 117 lo (v1 :: v1 :: r) w Q) := W_dup rfl rfl
theorem wK_init_117 : WP P 0 117 lo st w Q ↔ x_ga lo[1]? (fun v => WP P 0 118 lo (v :: st) w Q) := W_aload_n rfl rfl rfl
theorem wK_init_118 : WP P 0 118 lo st w Q ↔ WP P 0 120 lo (.int (xi 7) :: st) w Q := W_bipush rfl rfl (by decide)
theorem wK_init_120 : WP P 0 120 lo st w Q ↔ WP P 0 121 lo (.int (xi 0) :: st) w Q := W_iconst rfl rfl rfl
theorem wK_init_121 : WP P 0 121 lo st w Q ↔ WP P 0 122 lo (.null :: st) w Q := W_null rfl rfl
theorem wK_init_122 {u1 u2 u3 u4 : Value} {b : Nat} (hr : r.length ≤ 8) (hc : ([u1, u2, u3, u4] : List Value).all x_cat1 = true) (hc2 : r.all x_cat1 = true) (k : WP P 8 0 [some (.ref b), some u1, some u2, some u3, some u4] [] w (fun v w1 => WP P 0 125 lo (v.toList ++ r) w1 Q)) : WP P 0 122 lo (u4 :: u3 :: u2 :: u1 :: .ref b :: r) w Q := K_init (as := [u1, u2, u3, u4]) rfl rfl (by decide) rfl rfl (by decide) (by decide) rfl hr hc hc2 k
theorem wK_init_125 : WP P 0 125 lo st w Q ↔ WP P 0 126 lo (.int (xi 0) :: st) w Q := W_iconst rfl rfl rfl
theorem wK_init_126 {u1 u2 : Value} {b nb : Nat} (hb : x_tg w b = some (0, nb)) (hr : r.length ≤ 8) (hc : ([u1, u2] : List Value).all x_cat1 = true) (hc2 : r.all x_cat1 = true) (k : WP P 9 0 [some (.ref b), some u1, some u2] [] w (fun v w1 => WP P 0 129 lo (v.toList ++ r) w1 Q)) : WP P 0 126 lo (u2 :: u1 :: .ref b :: r) w Q := K_virt (as := [u1, u2]) rfl rfl rfl rfl (by decide) (by decide) rfl hb hr hc hc2 k
theorem wK_init_129 : WP P 0 129 lo st w Q ↔ x_ga lo[0]? (fun v => WP P 0 130 lo (v :: st) w Q) := W_aload_n rfl rfl rfl
theorem wK_init_130 : WP P 0 130 lo st w Q ↔ WP P 0 133 lo (.ref (x_sz w) :: st) (x_new w 1 8 (x_df 1)) Q := W_new rfl rfl rfl rfl rfl
theorem wK_init_133 : WP P 0 133 lo (v1 :: r) w Q ↔ (x_cat1 v1 = true ∧ WP P 0 134 lo (v1 :: v1 :: r) w Q) := W_dup rfl rfl
theorem wK_init_134 : WP P 0 134 lo st w Q ↔ x_ga lo[2]? (fun v => WP P 0 135 lo (v :: st) w Q) := W_aload_n rfl rfl rfl
theorem wK_init_135 : WP P 0 135 lo st w Q ↔ WP P 0 137 lo (.int (xi 7) :: st) w Q := W_bipush rfl rfl (by decide)
theorem wK_init_137 : WP P 0 137 lo st w Q ↔ WP P 0 138 lo (.int (xi 0) :: st) w Q := W_iconst rfl rfl rfl
theorem wK_init_138 : WP P 0 138 lo st w Q ↔ WP P 0 139 lo (.null :: st) w Q := W_null rfl rfl
theorem wK_init_139 {u1 u2 u3 u4 : Value} {b : Nat} (hr : r.length ≤ 8) (hc : ([u1, u2, u3, u4] : List Value).all x_cat1 = true) (hc2 : r.all x_cat1 = true) (k : WP P 8 0 [some (.ref b), some u1, some u2, some u3, some u4] [] w (fun v w1 => WP P 0 142 lo (v.toList ++ r) w1 Q)) : WP P 0 139 lo (u4 :: u3 :: u2 :: u1 :: .ref b :: r) w Q := K_init (as := [u1, u2, u3, u4]) rfl rfl (by decide) rfl rfl (by decide) (by decide) rfl hr hc hc2 k
theorem wK_init_142 : WP P 0 142 lo st w Q ↔ WP P 0 143 lo (.int (xi 1) :: st) w Q := W_iconst rfl rfl rfl
theorem wK_init_143 {u1 u2 : Value} {b nb : Nat} (hb : x_tg w b = some (0, nb)) (hr : r.length ≤ 8) (hc : ([u1, u2] : List Value).all x_cat1 = true) (hc2 : r.all x_cat1 = true) (k : WP P 9 0 [some (.ref b), some u1, some u2] [] w (fun v w1 => WP P 0 146 lo (v.toList ++ r) w1 Q)) : WP P 0 143 lo (u2 :: u1 :: .ref b :: r) w Q := K_virt (as := [u1, u2]) rfl rfl rfl rfl (by decide) (by decide) rfl hb hr hc hc2 k
theorem wK_init_146 : WP P 0 146 lo st w Q ↔ x_ga lo[0]? (fun v => WP P 0 147 lo (v :: st) w Q) := W_aload_n rfl rfl rfl
theorem wK_init_147 : WP P 0 147 lo st w Q ↔ WP P 0 150 lo (.ref (x_sz w) :: st) (x_new w 1 8 (x_df 1)) Q := W_new rfl rfl rfl rfl rfl
theorem wK_init_150 : WP P 0 150 lo (v1 :: r) w Q ↔ (x_cat1 v1 = true ∧ WP P 0 151 lo (v1 :: v1 :: r) w Q) := W_dup rfl rfl
theorem wK_init_151 : WP P 0 151 lo st w Q ↔ WP P 0 154 lo (.ref (x_sz w) :: st) (x_new w 4 4 (x_df 4)) Q := W_new rfl rfl rfl rfl rfl
theorem wK_init_154 : WP P 0 154 lo (v1 :: r) w Q ↔ (x_cat1 v1 = true ∧ WP P 0 155 lo (v1 :: v1 :: r) w Q) := W_dup rfl rfl
theorem wK_init_155 : WP P 0 155 lo st w Q ↔ WP P 0 157 lo (.int (xi 32) :: st) w Q := W_bipush rfl rfl (by decide)
theorem wK_init_157 : WP P 0 157 lo st w Q ↔ WP P 0 159 lo (.int (xi 32) :: st) w Q := W_bipush rfl rfl (by decide)
theorem wK_init_159 {u1 u2 : Value} {b : Nat} (hr : r.length ≤ 8) (hc : ([u1, u2] : List Value).all x_cat1 = true) (hc2 : r.all x_cat1 = true) (k : WP P 10 0 [some (.ref b), some u1, some u2] [] w (fun v w1 => WP P 0 162 lo (v.toList ++ r) w1 Q)) : WP P 0 159 lo (u2 :: u1 :: .ref b :: r) w Q := K_init (as := [u1, u2]) rfl rfl (by decide) rfl rfl (by decide) (by decide) rfl hr hc hc2 k
theorem wK_init_162 : WP P 0 162 lo st w Q ↔ WP P 0 164 lo (.int (xi 7) :: st) w Q := W_bipush rfl rfl (by decide)
theorem wK_init_164 : WP P 0 164 lo st w Q ↔ WP P 0 165 lo (.int (xi 0) :: st) w Q := W_iconst rfl rfl rfl
theorem wK_init_165 : WP P 0 165 lo st w Q ↔ WP P 0 166 lo (.null :: st) w Q := W_null rfl rfl
theorem wK_init_166 {u1 u2 u3 u4 : Value} {b : Nat} (hr : r.length ≤ 8) (hc : ([u1, u2, u3, u4] : List Value).all x_cat1 = true) (hc2 : r.all x_cat1 = true) (k : WP P 8 0 [some (.ref b), some u1, some u2, some u3, some u4] [] w (fun v w1 => WP P 0 169 lo (v.toList ++ r) w1 Q)) : WP P 0 166 lo (u4 :: u3 :: u2 :: u1 :: .ref b :: r) w Q := K_init (as := [u1, u2, u3, u4]) rfl rfl (by decide) rfl rfl (by decide) (by decide) rfl hr hc hc2 k
theorem wK_init_169 : WP P 0 169 lo st w Q ↔ WP P 0 170 lo (.int (xi 2) :: st) w Q := W_iconst rfl rfl rfl
theorem wK_init_170 {u1 u2 : Value} {b nb : Nat} (hb : x_tg w b = some (0, nb)) (hr : r.length ≤ 8) (hc : ([u1, u2] : List Value).all x_cat1 = true) (hc2 : r.all x_cat1 = true) (k : WP P 9 0 [some (.ref b), some u1, some u2] [] w (fun v w1 => WP P 0 173 lo (v.toList ++ r) w1 Q)) : WP P 0 170 lo (u2 :: u1 :: .ref b :: r) w Q := K_virt (as := [u1, u2]) rfl rfl rfl rfl (by decide) (by decide) rfl hb hr hc hc2 k
theorem wK_init_173 : WP P 0 173 lo st w Q ↔ x_ga lo[0]? (fun v => WP P 0 174 lo (v :: st) w Q) := W_aload_n rfl rfl rfl
theorem wK_init_174 : WP P 0 174 lo st w Q ↔ WP P 0 177 lo (.ref (x_sz w) :: st) (x_new w 1 8 (x_df 1)) Q := W_new rfl rfl rfl rfl rfl
theorem wK_init_177 : WP P 0 177 lo (v1 :: r) w Q ↔ (x_cat1 v1 = true ∧ WP P 0 178 lo (v1 :: v1 :: r) w Q) := W_dup rfl rfl
theorem wK_init_178 : WP P 0 178 lo st w Q ↔ WP P 0 181 lo (.ref (x_sz w) :: st) (x_new w 4 4 (x_df 4)) Q := W_new rfl rfl rfl rfl rfl
theorem wK_init_181 : WP P 0 181 lo (v1 :: r) w Q ↔ (x_cat1 v1 = true ∧ WP P 0 182 lo (v1 :: v1 :: r) w Q) := W_dup rfl rfl
theorem wK_init_182 : WP P 0 182 lo st w Q ↔ WP P 0 184 lo (.int (xi 64) :: st) w Q := W_bipush rfl rfl (by decide)
theorem wK_init_184 : WP P 0 184 lo st w Q ↔ WP P 0 186 lo (.int (xi 64) :: st) w Q := W_bipush rfl rfl (by decide)
theorem wK_init_186 {u1 u2 : Value} {b : Nat} (hr : r.length ≤ 8) (hc : ([u1, u2] : List Value).all x_cat1 = true) (hc2 : r.all x_cat1 = true) (k : WP P 10 0 [some (.ref b), some u1, some u2] [] w (fun v w1 => WP P 0 189 lo (v.toList ++ r) w1 Q)) : WP P 0 186 lo (u2 :: u1 :: .ref b :: r) w Q := K_init (as := [u1, u2]) rfl rfl (by decide) rfl rfl (by decide) (by decide) rfl hr hc hc2 k
theorem wK_init_189 : WP P 0 189 lo st w Q ↔ WP P 0 191 lo (.int (xi 7) :: st) w Q := W_bipush rfl rfl (by decide)
theorem wK_init_191 : WP P 0 191 lo st w Q ↔ WP P 0 192 lo (.int (xi 0) :: st) w Q := W_iconst rfl rfl rfl
theorem wK_init_192 : WP P 0 192 lo st w Q ↔ WP P 0 193 lo (.null :: st) w Q := W_null rfl rfl
theorem wK_init_193 {u1 u2 u3 u4 : Value} {b : Nat} (hr : r.length ≤ 8) (hc : ([u1, u2, u3, u4] : List Value).all x_cat1 = true) (hc2 : r.all x_cat1 = true) (k : WP P 8 0 [some (.ref b), some u1, some u2, some u3, some u4] [] w (fun v w1 => WP P 0 196 lo (v.toList ++ r) w1 Q)) : WP P 0 193 lo (u4 :: u3 :: u2 :: u1 :: .ref b :: r) w Q := K_init (as := [u1, u2, u3, u4]) rfl rfl (by decide) rfl rfl (by decide) (by decide) rfl hr hc hc2 k
theorem wK_init_196 : WP P 0 196 lo st w Q ↔ WP P 0 197 lo (.int (xi 3) :: st) w Q := W_iconst rfl rfl rfl
theorem wK_init_197 {u1 u2 : Value} {b nb : Nat} (hb : x_tg w b = some (0, nb)) (hr : r.length ≤ 8) (hc : ([u1, u2] : List Value).all x_cat1 = true) (hc2 : r.all x_cat1 = true) (k : WP P 9 0 [some (.ref b), some u1, some u2] [] w (fun v w1 => WP P 0 200 lo (v.toList ++ r) w1 Q)) : WP P 0 197 lo (u2 :: u1 :: .ref b :: r) w Q := K_virt (as := [u1, u2]) rfl rfl rfl rfl (by decide) (by decide) rfl hb hr hc hc2 k
theorem wK_init_200 : WP P 0 200 lo [] w Q ↔ Q none w := WP_ret rfl rfl
-- 1 Lin_init
theorem wLin_init_0 : WP P 1 0 lo st w Q ↔ x_ga lo[0]? (fun v => WP P 1 1 lo (v :: st) w Q) := W_aload_n rfl rfl rfl
theorem wLin_init_1 (hr : r.length ≤ 8) (hc2 : r.all x_cat1 = true) : WP P 1 1 lo (.ref a :: r) w Q ↔ WP P 1 4 lo r w Q := W_objinit rfl rfl hr hc2 (by decide) (by decide) rfl
theorem wLin_init_4 : WP P 1 4 lo [] w Q ↔ Q none w := WP_ret rfl rfl
-- 2 Tab_init
theorem wTab_init_0 : WP P 2 0 lo st w Q ↔ x_ga lo[0]? (fun v => WP P 2 1 lo (v :: st) w Q) := W_aload_n rfl rfl rfl
theorem wTab_init_1 : WP P 2 1 lo st w Q ↔ WP P 2 2 lo (.int (xi 1) :: st) w Q := W_iconst rfl rfl rfl
theorem wTab_init_2 : WP P 2 2 lo st w Q ↔ x_gi lo[1]? (fun x => WP P 2 3 lo (.int x :: st) w Q) := W_iload_n rfl rfl rfl
theorem wTab_init_3 {u1 u2 : Value} {b : Nat} (hr : r.length ≤ 8) (hc : ([u1, u2] : List Value).all x_cat1 = true) (hc2 : r.all x_cat1 = true) (k : WP P 3 0 [some (.ref b), some u1, some u2] [] w (fun v w1 => WP P 2 6 lo (v.toList ++ r) w1 Q)) : WP P 2 3 lo (u2 :: u1 :: .ref b :: r) w Q := K_init (as := [u1, u2]) rfl rfl (by decide) rfl rfl (by decide) (by decide) rfl hr hc hc2 k
theorem wTab_init_6 : WP P 2 6 lo [] w Q ↔ Q none w := WP_ret rfl rfl
-- 3 Thi_init
theorem wThi_init_0 : WP P 3 0 lo st w Q ↔ x_ga lo[0]? (fun v => WP P 3 1 lo (v :: st) w Q) := W_aload_n rfl rfl rfl
theorem wThi_init_1 (hr : r.length ≤ 8) (hc2 : r.all x_cat1 = true) : WP P 3 1 lo (.ref a :: r) w Q ↔ WP P 3 4 lo r w Q := W_objinit rfl rfl hr hc2 (by decide) (by decide) rfl
theorem wThi_init_4 : WP P 3 4 lo st w Q ↔ x_ga lo[0]? (fun v => WP P 3 5 lo (v :: st) w Q) := W_aload_n rfl rfl rfl
theorem wThi_init_5 : WP P 3 5 lo st w Q ↔ x_gi lo[1]? (fun x => WP P 3 6 lo (.int x :: st) w Q) := W_iload_n rfl rfl rfl
theorem wThi_init_6 : WP P 3 6 lo (v1 :: .ref a :: r) w Q ↔ ((x_has w a [2, 4, 5, 6, 7, 8, 9, 10] ∧ x_fit 0 v1 = true) ∧ WP P 3 9 lo r (x_put w a 0 v1) Q) := W_put rfl rfl (by decide) rfl
theorem wThi_init_9 : WP P 3 9 lo st w Q ↔ x_ga lo[0]? (fun v => WP P 3 10 lo (v :: st) w Q) := W_aload_n rfl rfl rfl
theorem wThi_init_10 : WP P 3 10 lo st w Q ↔ x_gi lo[2]? (fun x => WP P 3 11 lo (.int x :: st) w Q) := W_iload_n rfl rfl rfl
theorem wThi_init_11 : WP P 3 11 lo (v1 :: .ref a :: r) w Q ↔ ((x_has w a [2, 4, 5, 6, 7, 8, 9, 10] ∧ x_fit 0 v1 = true) ∧ WP P 3 14 lo r (x_put w a 1 v1) Q) := W_put rfl rfl (by decide) rfl
theorem wThi_init_14 : WP P 3 14 lo [] w Q ↔ Q none w := WP_ret rfl rfl
-- 4 Thr_init
theorem wThr_init_0 : WP P 4 0 lo st w Q ↔ x_ga lo[0]? (fun v => WP P 4 1 lo (v :: st) w Q) := W_aload_n rfl rfl rfl
theorem wThr_init_1 : WP P 4 1 lo st w Q ↔ WP P 4 2 lo (.int (xi 2) :: st) w Q := W_iconst rfl rfl rfl
theorem wThr_init_2 : WP P 4 2 lo st w Q ↔ x_gi lo[1]? (fun x => WP P 4 3 lo (.int x :: st) w Q) := W_iload_n rfl rfl rfl
theorem wThr_init_3 {u1 u2 : Value} {b : Nat} (hr : r.length ≤ 8) (hc : ([u1, u2] : List Value).all x_cat1 = true) (hc2 : r.all x_cat1 = true) (k : WP P 3 0 [some (.ref b), some u1, some u2] [] w (fun v w1 => WP P 4 6 lo (v.toList ++ r) w1 Q)) : WP P 4 3 lo (u2 :: u1 :: .ref b :: r) w Q := K_init (as := [u1, u2]) rfl rfl (by decide) rfl rfl (by decide) (by decide) rfl hr hc hc2 k
theorem wThr_init_6 : WP P 4 6 lo st w Q ↔ x_ga lo[0]? (fun v => WP P 4 7 lo (v :: st) w Q) := W_aload_n rfl rfl rfl
theorem wThr_init_7 : WP P 4 7 lo st w Q ↔ WP P 4 8 lo (.int (xi 1) :: st) w Q := W_iconst rfl rfl rfl
theorem wThr_init_8 : WP P 4 8 lo (v1 :: .ref a :: r) w Q ↔ ((x_has w a [2] ∧ x_fit 0 v1 = true) ∧ WP P 4 11 lo r (x_put w a 5 v1) Q) := W_put rfl rfl (by decide) rfl
theorem wThr_init_11 : WP P 4 11 lo [] w Q ↔ Q none w := WP_ret rfl rfl
-- 5 K_becomeReady
theorem wK_becomeReady_0 : WP P 5 0 lo st w Q ↔ x_ga lo[1]? (fun v => WP P 5 1 lo (v :: st) w Q) := W_aload_n rfl rfl rfl
theorem wK_becomeReady_1 {u1 : Value} (hr : r.length ≤ 8) (hc : ([u1] : List Value).all x_cat1 = true) (hc2 : r.all x_cat1 = true) (k : WP P 6 0 [some u1, none, none, none] [] w (fun v w1 => WP P 5 4 lo (v.toList ++ r) w1 Q)) : WP P 5 1 lo (u1 :: r) w Q := K_stat (as := [u1]) rfl rfl rfl rfl (by decide) (by decide) rfl hr hc hc2 k
theorem wK_becomeReady_4 : WP P 5 4 lo st w Q ↔ x_ga lo[1]? (fun v => WP P 5 5 lo (v :: st) w Q) := W_aload_n rfl rfl rfl
theorem wK_becomeReady_5 : WP P 5 5 lo st w Q ↔ WP P 5 6 lo (.int (xi 2) :: st) w Q := W_iconst rfl rfl rfl
theorem wK_becomeReady_6 : WP P 5 6 lo (v1 :: .ref a :: r) w Q ↔ ((x_has w a [2] ∧ x_fit 0 v1 = true) ∧ WP P 5 9 lo r (x_put w a 5 v1) Q) := W_put rfl rfl (by decide) rfl
theorem wK_becomeReady_9 : WP P 5 9 lo st w Q ↔ x_ga lo[1]? (fun v => WP P 5 10 lo (v :: st) w Q) := W_aload_n rfl rfl rfl
theorem wK_becomeReady_10 : WP P 5 10 lo st w Q ↔ WP P 5 11 lo (.int (xi 3) :: st) w Q := W_iconst rfl rfl rfl
theorem wK_becomeReady_11 : WP P 5 11 lo (v1 :: .ref a :: r) w Q ↔ ((x_has w a [2] ∧ x_fit 0 v1 = true) ∧ WP P 5 14 lo r (x_put w a 6 v1) Q) := W_put rfl rfl (by decide) rfl
theorem wK_becomeReady_14 : WP P 5 14 lo st w Q ↔ x_ga lo[1]? (fun v => WP P 5 15 lo (v :: st) w Q) := W_aload_n rfl rfl rfl
theorem wK_becomeReady_15 : WP P 5 15 lo st w Q ↔ x_ga lo[0]? (fun v => WP P 5 16 lo (v :: st) w Q) := W_aload_n rfl rfl rfl
theorem wK_becomeReady_16 : WP P 5 16 lo (.ref a :: r) w Q ↔ (x_has w a [0] ∧ WP P 5 19 lo (x_fd w a 2 :: r) w Q) := W_get rfl rfl rfl
theorem wK_becomeReady_19 : WP P 5 19 lo st w Q ↔ x_ga lo[1]? (fun v => WP P 5 20 lo (v :: st) w Q) := W_aload_n rfl rfl rfl
theorem wK_becomeReady_20 : WP P 5 20 lo (.ref a :: r) w Q ↔ (x_has w a [2] ∧ WP P 5 23 lo (x_fd w a 4 :: r) w Q) := W_get rfl rfl rfl
theorem wK_becomeReady_23 {t n : Nat} (h1 : x_tg w a = some (t, n)) (ht : 30 ≤ t) (h2 : ¬ x < 0) (h3 : x.toNatClampNeg < n) : WP P 5 23 lo (.int x :: .ref a :: r) w Q ↔ WP P 5 24 lo (x_fd w a x.toNatClampNeg :: r) w Q := W_aald rfl h1 ht h2 h3 rfl
theorem wK_becomeReady_24 {u1 u2 : Value} (hr : r.length ≤ 8) (hc : ([u1, u2] : List Value).all x_cat1 = true) (hc2 : r.all x_cat1 = true) (k : WP P 7 0 [some u1, some u2] [] w (fun v w1 => WP P 5 27 lo (v.toList ++ r) w1 Q)) : WP P 5 24 lo (u2 :: u1 :: r) w Q := K_stat (as := [u1, u2]) rfl rfl rfl rfl (by decide) (by decide) rfl hr hc hc2 k
theorem wK_becomeReady_27 : WP P 5 27 lo [] w Q ↔ Q none w := WP_ret rfl rfl
-- 6 K_leaveLine
theorem wK_leaveLine_0 : WP P 6 0 lo st w Q ↔ x_ga lo[0]? (fun v => WP P 6 1 lo (v :: st) w Q) := W_aload_n rfl rfl rfl
theorem wK_leaveLine_1 : WP P 6 1 lo (.ref a :: r) w Q ↔ (x_has w a [2] ∧ WP P 6 4 lo (x_fd w a 10 :: r) w Q) := W_get rfl rfl rfl
theorem wK_leaveLine_4 : WP P 6 4 lo (.ref a :: r) w Q ↔ (1 < lo.length ∧ WP P 6 5 (lo.set 1 (some (.ref a))) r w Q) := W_astore_n rfl rfl rfl
theorem wK_leaveLine_4n : WP P 6 4 lo (.null :: r) w Q ↔ (1 < lo.length ∧ WP P 6 5 (lo.set 1 (some .null)) r w Q) := W_astore_nN rfl rfl rfl
theorem wK_leaveLine_5 : WP P 6 5 lo st w Q ↔ x_ga lo[1]? (fun v => WP P 6 6 lo (v :: st) w Q) := W_aload_n rfl rfl rfl
theorem wK_leaveLine_6n : WP P 6 6 lo (.null :: r) w Q ↔ WP P 6 9 lo r w Q := W_ifnn_n rfl rfl rfl
theorem wK_leaveLine_6 : WP P 6 6 lo (.ref a :: r) w Q ↔ WP P 6 10 lo r w Q := W_ifnn_r rfl rfl
theorem wK_leaveLine_9 : WP P 6 9 lo [] w Q ↔ Q none w := WP_ret rfl rfl
theorem wK_leaveLine_10 : WP P 6 10 lo st w Q ↔ WP P 6 11 lo (.null :: st) w Q := W_null rfl rfl
theorem wK_leaveLine_11 : WP P 6 11 lo (.ref a :: r) w Q ↔ (2 < lo.length ∧ WP P 6 12 (lo.set 2 (some (.ref a))) r w Q) := W_astore_n rfl rfl rfl
theorem wK_leaveLine_11n : WP P 6 11 lo (.null :: r) w Q ↔ (2 < lo.length ∧ WP P 6 12 (lo.set 2 (some .null)) r w Q) := W_astore_nN rfl rfl rfl
theorem wK_leaveLine_12 : WP P 6 12 lo st w Q ↔ x_ga lo[1]? (fun v => WP P 6 13 lo (v :: st) w Q) := W_aload_n rfl rfl rfl
theorem wK_leaveLine_13 : WP P 6 13 lo (.ref a :: r) w Q ↔ (x_has w a [3] ∧ WP P 6 16 lo (x_fd w a 0 :: r) w Q) := W_get rfl rfl rfl
theorem wK_leaveLine_16 : WP P 6 16 lo (.ref a :: r) w Q ↔ (3 < lo.length ∧ WP P 6 17 (lo.set 3 (some (.ref a))) r w Q) := W_astore_n rfl rfl rfl
theorem wK_leaveLine_16n : WP P 6 16 lo (.null :: r) w Q ↔ (3 < lo.length ∧ WP P 6 17 (lo.set 3 (some .null)) r w Q) := W_astore_nN rfl rfl rfl
theorem wK_leaveLine_17 : WP P 6 17 lo st w Q ↔ x_ga lo[3]? (fun v => WP P 6 18 lo (v :: st) w Q) := W_aload_n rfl rfl rfl
theorem wK_leaveLine_18n : WP P 6 18 lo (.null :: r) w Q ↔ WP P 6 36 lo r w Q := W_ifnull_n rfl rfl
theorem wK_leaveLine_18 : WP P 6 18 lo (.ref a :: r) w Q ↔ WP P 6 21 lo r w Q := W_ifnull_r rfl rfl rfl
theorem wK_leaveLine_21 : WP P 6 21 lo st w Q ↔ x_ga lo[3]? (fun v => WP P 6 22 lo (v :: st) w Q) := W_aload_n rfl rfl rfl
theorem wK_leaveLine_22 : WP P 6 22 lo st w Q ↔ x_ga lo[0]? (fun v => WP P 6 23 lo (v :: st) w Q) := W_aload_n rfl rfl rfl
theorem wK_leaveLine_23 {q1 q2 : Option Nat} (h1 : x_rv v2 = some q1) (h2 : x_rv v1 = some q2) : WP P 6 23 lo (v1 :: v2 :: r) w Q ↔ (if q1 = q2 then WP P 6 36 lo r w Q else WP P 6 26 lo r w Q) := W_acmp_eq rfl rfl rfl h1 h2
theorem wK_leaveLine_26 : WP P 6 26 lo st w Q ↔ x_ga lo[3]? (fun v => WP P 6 27 lo (v :: st) w Q) := W_aload_n rfl rfl rfl
theorem wK_leaveLine_27 : WP P 6 27 lo (.ref a :: r) w Q ↔ (2 < lo.length ∧ WP P 6 28 (lo.set 2 (some (.ref a))) r w Q) := W_astore_n rfl rfl rfl
theorem wK_leaveLine_27n : WP P 6 27 lo (.null :: r) w Q ↔ (2 < lo.length ∧ WP P 6 28 (lo.set 2 (some .null)) r w Q) := W_astore_nN rfl rfl rfl
theorem wK_leaveLine_28 : WP P 6 28 lo st w Q ↔ x_ga lo[3]? (fun v => WP P 6 29 lo (v :: st) w Q) := W_aload_n rfl rfl rfl
theorem wK_leaveLine_29 : WP P 6 29 lo (.ref a :: r) w Q ↔ (x_has w a [2] ∧ WP P 6 32 lo (x_fd w a 11 :: r) w Q) := W_get rfl rfl rfl
theorem wK_leaveLine_32 : WP P 6 32 lo (.ref a :: r) w Q ↔ (3 < lo.length ∧ WP P 6 33 (lo.set 3 (some (.ref a))) r w Q) := W_astore_n rfl rfl rfl
theorem wK_leaveLine_32n : WP P 6 32 lo (.null :: r) w Q ↔ (3 < lo.length ∧ WP P 6 33 (lo.set 3 (some .null)) r w Q) := W_astore_nN rfl rfl rfl
theorem wK_leaveLine_33 : WP P 6 33 lo st w Q ↔ WP P 6 17 lo st w Q := W_goto rfl rfl
theorem wK_leaveLine_36 : WP P 6 36 lo st w Q ↔ x_ga lo[2]? (fun v => WP P 6 37 lo (v :: st) w Q) := W_aload_n rfl rfl rfl
theorem wK_leaveLine_37n : WP P 6 37 lo (.null :: r) w Q ↔ WP P 6 40 lo r w Q := W_ifnn_n rfl rfl rfl
theorem wK_leaveLine_37 : WP P 6 37 lo (.ref a :: r) w Q ↔ WP P 6 51 lo r w Q := W_ifnn_r rfl rfl
theorem wK_leaveLine_40 : WP P 6 40 lo st w Q ↔ x_ga lo[1]? (fun v => WP P 6 41 lo (v :: st) w Q) := W_aload_n rfl rfl rfl
theorem wK_leaveLine_41 : WP P 6 41 lo st w Q ↔ x_ga lo[0]? (fun v => WP P 6 42 lo (v :: st) w Q) := W_aload_n rfl rfl rfl
theorem wK_leaveLine_42 : WP P 6 42 lo (.ref a :: r) w Q ↔ (x_has w a [2] ∧ WP P 6 45 lo (x_fd w a 11 :: r) w Q) := W_get rfl rfl rfl
theorem wK_leaveLine_45 : WP P 6 45 lo (v1 :: .ref a :: r) w Q ↔ ((x_has w a [3] ∧ x_fit 2 v1 = true) ∧ WP P 6 48 lo r (x_put w a 0 v1) Q) := W_put rfl rfl (by decide) rfl
theorem wK_leaveLine_48 : WP P 6 48 lo st w Q ↔ WP P 6 59 lo st w Q := W_goto rfl rfl
theorem wK_leaveLine_51 : WP P 6 51 lo st w Q ↔ x_ga lo[2]? (fun v => WP P 6 52 lo (v :: st) w Q) := W_aload_n rfl rfl rfl
theorem wK_leaveLine_52 : WP P 6 52 lo st w Q ↔ x_ga lo[0]? (fun v => WP P 6 53 lo (v :: st) w Q) := W_aload_n rfl rfl rfl
theorem wK_leaveLine_53 : WP P 6 53 lo (.ref a :: r) w Q ↔ (x_has w a [2] ∧ WP P 6 56 lo (x_fd w a 11 :: r) w Q) := W_get rfl rfl rfl
theorem wK_leaveLine_56 : WP P 6 56 lo (v1 :: .ref a :: r) w Q ↔ ((x_has w a [2] ∧ x_fit 2 v1 = true) ∧ WP P 6 59 lo r (x_put w a 11 v1) Q) := W_put rfl rfl (by decide) rfl
theorem wK_leaveLine_59 : WP P 6 59 lo st w Q ↔ x_ga lo[1]? (fun v => WP P 6 60 lo (v :: st) w Q) := W_aload_n rfl rfl rfl
theorem wK_leaveLine_60 : WP P 6 60 lo (.ref a :: r) w Q ↔ (x_has w a [3] ∧ WP P 6 63 lo (x_fd w a 1 :: r) w Q) := W_get rfl rfl rfl
theorem wK_leaveLine_63 : WP P 6 63 lo st w Q ↔ x_ga lo[0]? (fun v => WP P 6 64 lo (v :: st) w Q) := W_aload_n rfl rfl rfl
theorem wK_leaveLine_64 {q1 q2 : Option Nat} (h1 : x_rv v2 = some q1) (h2 : x_rv v1 = some q2) : WP P 6 64 lo (v1 :: v2 :: r) w Q ↔ (if q1 = q2 then WP P 6 67 lo r w Q else WP P 6 72 lo r w Q) := W_acmp_ne rfl rfl rfl h1 h2
theorem wK_leaveLine_67 : WP P 6 67 lo st w Q ↔ x_ga lo[1]? (fun v => WP P 6 68 lo (v :: st) w Q) := W_aload_n rfl rfl rfl
theorem wK_leaveLine_68 : WP P 6 68 lo st w Q ↔ x_ga lo[2]? (fun v => WP P 6 69 lo (v :: st) w Q) := W_aload_n rfl rfl rfl
theorem wK_leaveLine_69 : WP P 6 69 lo (v1 :: .ref a :: r) w Q ↔ ((x_has w a [3] ∧ x_fit 2 v1 = true) ∧ WP P 6 72 lo r (x_put w a 1 v1) Q) := W_put rfl rfl (by decide) rfl
theorem wK_leaveLine_72 : WP P 6 72 lo st w Q ↔ x_ga lo[0]? (fun v => WP P 6 73 lo (v :: st) w Q) := W_aload_n rfl rfl rfl
theorem wK_leaveLine_73 : WP P 6 73 lo st w Q ↔ WP P 6 74 lo (.null :: st) w Q := W_null rfl rfl
theorem wK_leaveLine_74 : WP P 6 74 lo (v1 :: .ref a :: r) w Q ↔ ((x_has w a [2] ∧ x_fit 2 v1 = true) ∧ WP P 6 77 lo r (x_put w a 11 v1) Q) := W_put rfl rfl (by decide) rfl
theorem wK_leaveLine_77 : WP P 6 77 lo st w Q ↔ x_ga lo[0]? (fun v => WP P 6 78 lo (v :: st) w Q) := W_aload_n rfl rfl rfl
theorem wK_leaveLine_78 : WP P 6 78 lo st w Q ↔ WP P 6 79 lo (.null :: st) w Q := W_null rfl rfl
theorem wK_leaveLine_79 : WP P 6 79 lo (v1 :: .ref a :: r) w Q ↔ ((x_has w a [2] ∧ x_fit 2 v1 = true) ∧ WP P 6 82 lo r (x_put w a 10 v1) Q) := W_put rfl rfl (by decide) rfl
theorem wK_leaveLine_82 : WP P 6 82 lo [] w Q ↔ Q none w := WP_ret rfl rfl
-- 7 K_joinLine
theorem wK_joinLine_0 : WP P 7 0 lo st w Q ↔ x_ga lo[1]? (fun v => WP P 7 1 lo (v :: st) w Q) := W_aload_n rfl rfl rfl
theorem wK_joinLine_1 : WP P 7 1 lo (.ref a :: r) w Q ↔ (x_has w a [3] ∧ WP P 7 4 lo (x_fd w a 1 :: r) w Q) := W_get rfl rfl rfl
theorem wK_joinLine_4n : WP P 7 4 lo (.null :: r) w Q ↔ WP P 7 7 lo r w Q := W_ifnn_n rfl rfl rfl
theorem wK_joinLine_4 : WP P 7 4 lo (.ref a :: r) w Q ↔ WP P 7 15 lo r w Q := W_ifnn_r rfl rfl
theorem wK_joinLine_7 : WP P 7 7 lo st w Q ↔ x_ga lo[1]? (fun v => WP P 7 8 lo (v :: st) w Q) := W_aload_n rfl rfl rfl
theorem wK_joinLine_8 : WP P 7 8 lo st w Q ↔ x_ga lo[0]? (fun v => WP P 7 9 lo (v :: st) w Q) := W_aload_n rfl rfl rfl
theorem wK_joinLine_9 : WP P 7 9 lo (v1 :: .ref a :: r) w Q ↔ ((x_has w a [3] ∧ x_fit 2 v1 = true) ∧ WP P 7 12 lo r (x_put w a 0 v1) Q) := W_put rfl rfl (by decide) rfl
theorem wK_joinLine_12 : WP P 7 12 lo st w Q ↔ WP P 7 23 lo st w Q := W_goto rfl rfl
theorem wK_joinLine_15 : WP P 7 15 lo st w Q ↔ x_ga lo[1]? (fun v => WP P 7 16 lo (v :: st) w Q) := W_aload_n rfl rfl rfl
theorem wK_joinLine_16 : WP P 7 16 lo (.ref a :: r) w Q ↔ (x_has w a [3] ∧ WP P 7 19 lo (x_fd w a 1 :: r) w Q) := W_get rfl rfl rfl
theorem wK_joinLine_19 : WP P 7 19 lo st w Q ↔ x_ga lo[0]? (fun v => WP P 7 20 lo (v :: st) w Q) := W_aload_n rfl rfl rfl
theorem wK_joinLine_20 : WP P 7 20 lo (v1 :: .ref a :: r) w Q ↔ ((x_has w a [2] ∧ x_fit 2 v1 = true) ∧ WP P 7 23 lo r (x_put w a 11 v1) Q) := W_put rfl rfl (by decide) rfl
theorem wK_joinLine_23 : WP P 7 23 lo st w Q ↔ x_ga lo[1]? (fun v => WP P 7 24 lo (v :: st) w Q) := W_aload_n rfl rfl rfl
theorem wK_joinLine_24 : WP P 7 24 lo st w Q ↔ x_ga lo[0]? (fun v => WP P 7 25 lo (v :: st) w Q) := W_aload_n rfl rfl rfl
theorem wK_joinLine_25 : WP P 7 25 lo (v1 :: .ref a :: r) w Q ↔ ((x_has w a [3] ∧ x_fit 2 v1 = true) ∧ WP P 7 28 lo r (x_put w a 1 v1) Q) := W_put rfl rfl (by decide) rfl
theorem wK_joinLine_28 : WP P 7 28 lo st w Q ↔ x_ga lo[0]? (fun v => WP P 7 29 lo (v :: st) w Q) := W_aload_n rfl rfl rfl
theorem wK_joinLine_29 : WP P 7 29 lo st w Q ↔ x_ga lo[1]? (fun v => WP P 7 30 lo (v :: st) w Q) := W_aload_n rfl rfl rfl
theorem wK_joinLine_30 : WP P 7 30 lo (v1 :: .ref a :: r) w Q ↔ ((x_has w a [2] ∧ x_fit 2 v1 = true) ∧ WP P 7 33 lo r (x_put w a 10 v1) Q) := W_put rfl rfl (by decide) rfl
theorem wK_joinLine_33 : WP P 7 33 lo [] w Q ↔ Q none w := WP_ret rfl rfl
-- 8 Cap_init
theorem wCap_init_0 : WP P 8 0 lo st w Q ↔ x_ga lo[0]? (fun v => WP P 8 1 lo (v :: st) w Q) := W_aload_n rfl rfl rfl
theorem wCap_init_1 (hr : r.length ≤ 8) (hc2 : r.all x_cat1 = true) : WP P 8 1 lo (.ref a :: r) w Q ↔ WP P 8 4 lo r w Q := W_objinit rfl rfl hr hc2 (by decide) (by decide) rfl
theorem wCap_init_4 : WP P 8 4 lo st w Q ↔ x_ga lo[0]? (fun v => WP P 8 5 lo (v :: st) w Q) := W_aload_n rfl rfl rfl
theorem wCap_init_5 : WP P 8 5 lo st w Q ↔ x_ga lo[1]? (fun v => WP P 8 6 lo (v :: st) w Q) := W_aload_n rfl rfl rfl
theorem wCap_init_6 : WP P 8 6 lo (v1 :: .ref a :: r) w Q ↔ ((x_has w a [1] ∧ x_fit 2 v1 = true) ∧ WP P 8 9 lo r (x_put w a 0 v1) Q) := W_put rfl rfl (by decide) rfl
theorem wCap_init_9 : WP P 8 9 lo st w Q ↔ x_ga lo[0]? (fun v => WP P 8 10 lo (v :: st) w Q) := W_aload_n rfl rfl rfl
theorem wCap_init_10 : WP P 8 10 lo st w Q ↔ x_gi lo[2]? (fun x => WP P 8 11 lo (.int x :: st) w Q) := W_iload_n rfl rfl rfl
theorem wCap_init_11 : WP P 8 11 lo (v1 :: .ref a :: r) w Q ↔ ((x_has w a [1] ∧ x_fit 0 v1 = true) ∧ WP P 8 14 lo r (x_put w a 1 v1) Q) := W_put rfl rfl (by decide) rfl
theorem wCap_init_14 : WP P 8 14 lo st w Q ↔ x_ga lo[0]? (fun v => WP P 8 15 lo (v :: st) w Q) := W_aload_n rfl rfl rfl
theorem wCap_init_15 : WP P 8 15 lo st w Q ↔ x_gi lo[3]? (fun x => WP P 8 16 lo (.int x :: st) w Q) := W_iload_n rfl rfl rfl
theorem wCap_init_16 : WP P 8 16 lo (v1 :: .ref a :: r) w Q ↔ ((x_has w a [1] ∧ x_fit 0 v1 = true) ∧ WP P 8 19 lo r (x_put w a 2 v1) Q) := W_put rfl rfl (by decide) rfl
theorem wCap_init_19 : WP P 8 19 lo st w Q ↔ x_ga lo[0]? (fun v => WP P 8 20 lo (v :: st) w Q) := W_aload_n rfl rfl rfl
theorem wCap_init_20 : WP P 8 20 lo st w Q ↔ x_ga lo[4]? (fun v => WP P 8 22 lo (v :: st) w Q) := W_aload rfl rfl
theorem wCap_init_22 : WP P 8 22 lo (v1 :: .ref a :: r) w Q ↔ ((x_has w a [1] ∧ x_fit 2 v1 = true) ∧ WP P 8 25 lo r (x_put w a 3 v1) Q) := W_put rfl rfl (by decide) rfl
theorem wCap_init_25 : WP P 8 25 lo [] w Q ↔ Q none w := WP_ret rfl rfl
-- 9 K_put
theorem wK_put_0 : WP P 9 0 lo st w Q ↔ x_ga lo[0]? (fun v => WP P 9 1 lo (v :: st) w Q) := W_aload_n rfl rfl rfl
theorem wK_put_1 : WP P 9 1 lo (.ref a :: r) w Q ↔ (x_has w a [0] ∧ WP P 9 4 lo (x_fd w a 0 :: r) w Q) := W_get rfl rfl rfl
theorem wK_put_4 : WP P 9 4 lo st w Q ↔ x_gi lo[2]? (fun x => WP P 9 5 lo (.int x :: st) w Q) := W_iload_n rfl rfl rfl
theorem wK_put_5 : WP P 9 5 lo st w Q ↔ x_ga lo[1]? (fun v => WP P 9 6 lo (v :: st) w Q) := W_aload_n rfl rfl rfl
theorem wK_put_6n {t n : Nat} (h1 : x_tg w a = some (t, n)) (ht : 30 ≤ t) (h2 : ¬ x < 0) (h3 : x.toNatClampNeg < n) : WP P 9 6 lo (.null :: .int x :: .ref a :: r) w Q ↔ WP P 9 7 lo r (x_put w a x.toNatClampNeg .null) Q := W_aast_n rfl h1 ht h2 h3 rfl
theorem wK_put_6 {b t n nb : Nat} (h1 : x_tg w a = some (30 + t, n)) (hv : x_tg w b = some (t, nb)) (ht : t < 20) (h2 : ¬ x < 0) (h3 : x.toNatClampNeg < n) : WP P 9 6 lo (.ref b :: .int x :: .ref a :: r) w Q ↔ WP P 9 7 lo r (x_put w a x.toNatClampNeg (.ref b)) Q := W_aast_r rfl h1 hv ht h2 h3 rfl
theorem wK_put_7 : WP P 9 7 lo st w Q ↔ x_ga lo[1]? (fun v => WP P 9 8 lo (v :: st) w Q) := W_aload_n rfl rfl rfl
theorem wK_put_8 : WP P 9 8 lo st w Q ↔ x_gi lo[2]? (fun x => WP P 9 9 lo (.int x :: st) w Q) := W_iload_n rfl rfl rfl
theorem wK_put_9 : WP P 9 9 lo (v1 :: .ref a :: r) w Q ↔ ((x_has w a [1] ∧ x_fit 0 v1 = true) ∧ WP P 9 12 lo r (x_put w a 4 v1) Q) := W_put rfl rfl (by decide) rfl
theorem wK_put_12 : WP P 9 12 lo [] w Q ↔ Q none w := WP_ret rfl rfl
-- 10 Unt_init
theorem wUnt_init_0 : WP P 10 0 lo st w Q ↔ x_ga lo[0]? (fun v => WP P 10 1 lo (v :: st) w Q) := W_aload_n rfl rfl rfl
theorem wUnt_init_1 : WP P 10 1 lo st w Q ↔ WP P 10 2 lo (.int (xi 0) :: st) w Q := W_iconst rfl rfl rfl
theorem wUnt_init_2 : WP P 10 2 lo st w Q ↔ x_gi lo[1]? (fun x => WP P 10 3 lo (.int x :: st) w Q) := W_iload_n rfl rfl rfl
theorem wUnt_init_3 {u1 u2 : Value} {b : Nat} (hr : r.length ≤ 8) (hc : ([u1, u2] : List Value).all x_cat1 = true) (hc2 : r.all x_cat1 = true) (k : WP P 3 0 [some (.ref b), some u1, some u2] [] w (fun v w1 => WP P 10 6 lo (v.toList ++ r) w1 Q)) : WP P 10 3 lo (u2 :: u1 :: .ref b :: r) w Q := K_init (as := [u1, u2]) rfl rfl (by decide) rfl rfl (by decide) (by decide) rfl hr hc hc2 k
theorem wUnt_init_6 : WP P 10 6 lo st w Q ↔ x_ga lo[0]? (fun v => WP P 10 7 lo (v :: st) w Q) := W_aload_n rfl rfl rfl
theorem wUnt_init_7 : WP P 10 7 lo st w Q ↔ x_gi lo[2]? (fun x => WP P 10 8 lo (.int x :: st) w Q) := W_iload_n rfl rfl rfl
theorem wUnt_init_8 : WP P 10 8 lo (v1 :: .ref a :: r) w Q ↔ ((x_has w a [4] ∧ x_fit 0 v1 = true) ∧ WP P 10 11 lo r (x_put w a 2 v1) Q) := W_put rfl rfl (by decide) rfl
theorem wUnt_init_11 : WP P 10 11 lo [] w Q ↔ Q none w := WP_ret rfl rfl
-- 11 K_retype
theorem wK_retype_0 : WP P 11 0 lo st w Q ↔ x_ga lo[0]? (fun v => WP P 11 1 lo (v :: st) w Q) := W_aload_n rfl rfl rfl
theorem wK_retype_1 {b nb : Nat} (hb : x_tg w b = some (0, nb)) (hr : r.length ≤ 8) (hc : ([] : List Value).all x_cat1 = true) (hc2 : r.all x_cat1 = true) (k : WP P 12 0 [some (.ref b), none] [] w (fun v w1 => WP P 11 4 lo (v.toList ++ r) w1 Q)) : WP P 11 1 lo (.ref b :: r) w Q := K_virt (as := []) rfl rfl rfl rfl (by decide) (by decide) rfl hb hr hc hc2 k
theorem wK_retype_4 : WP P 11 4 lo (.ref a :: r) w Q ↔ (5 < lo.length ∧ WP P 11 6 (lo.set 5 (some (.ref a))) r w Q) := W_astore rfl rfl
theorem wK_retype_4n : WP P 11 4 lo (.null :: r) w Q ↔ (5 < lo.length ∧ WP P 11 6 (lo.set 5 (some .null)) r w Q) := W_astoreN rfl rfl
theorem wK_retype_6 : WP P 11 6 lo st w Q ↔ x_ga lo[5]? (fun v => WP P 11 8 lo (v :: st) w Q) := W_aload rfl rfl
theorem wK_retype_8n : WP P 11 8 lo (.null :: r) w Q ↔ WP P 11 11 lo r w Q := W_ifnn_n rfl rfl rfl
theorem wK_retype_8 : WP P 11 8 lo (.ref a :: r) w Q ↔ WP P 11 14 lo r w Q := W_ifnn_r rfl rfl
theorem wK_retype_11 : WP P 11 11 lo st w Q ↔ WP P 11 13 lo (.int (xi 8) :: st) w Q := W_bipush rfl rfl (by decide)
theorem wK_retype_13 : WP P 11 13 lo [.int x] w Q ↔ Q (some (.int x)) w := WP_ret rfl rfl
theorem wK_retype_14 : WP P 11 14 lo st w Q ↔ x_ga lo[0]? (fun v => WP P 11 15 lo (v :: st) w Q) := W_aload_n rfl rfl rfl
theorem wK_retype_15 : WP P 11 15 lo st w Q ↔ x_ga lo[5]? (fun v => WP P 11 17 lo (v :: st) w Q) := W_aload rfl rfl
theorem wK_retype_17 : WP P 11 17 lo st w Q ↔ x_gi lo[1]? (fun x => WP P 11 18 lo (.int x :: st) w Q) := W_iload_n rfl rfl rfl
theorem wK_retype_18 {u1 u2 : Value} {b nb : Nat} (hb : x_tg w b = some (0, nb)) (hr : r.length ≤ 8) (hc : ([u1, u2] : List Value).all x_cat1 = true) (hc2 : r.all x_cat1 = true) (k : WP P 13 0 [some (.ref b), some u1, some u2, none] [] w (fun v w1 => WP P 11 21 lo (v.toList ++ r) w1 Q)) : WP P 11 18 lo (u2 :: u1 :: .ref b :: r) w Q := K_virt (as := [u1, u2]) rfl rfl rfl rfl (by decide) (by decide) rfl hb hr hc hc2 k
theorem wK_retype_21 : WP P 11 21 lo (.ref a :: r) w Q ↔ (6 < lo.length ∧ WP P 11 23 (lo.set 6 (some (.ref a))) r w Q) := W_astore rfl rfl
theorem wK_retype_21n : WP P 11 21 lo (.null :: r) w Q ↔ (6 < lo.length ∧ WP P 11 23 (lo.set 6 (some .null)) r w Q) := W_astoreN rfl rfl
theorem wK_retype_23 : WP P 11 23 lo st w Q ↔ x_ga lo[6]? (fun v => WP P 11 25 lo (v :: st) w Q) := W_aload rfl rfl
theorem wK_retype_25n : WP P 11 25 lo (.null :: r) w Q ↔ WP P 11 53 lo r w Q := W_ifnull_n rfl rfl
theorem wK_retype_25 : WP P 11 25 lo (.ref a :: r) w Q ↔ WP P 11 28 lo r w Q := W_ifnull_r rfl rfl rfl
theorem wK_retype_28 : WP P 11 28 lo st w Q ↔ x_ga lo[6]? (fun v => WP P 11 30 lo (v :: st) w Q) := W_aload rfl rfl
theorem wK_retype_30 : WP P 11 30 lo (.ref a :: r) w Q ↔ (x_has w a [1] ∧ WP P 11 33 lo (x_fd w a 0 :: r) w Q) := W_get rfl rfl rfl
theorem wK_retype_33 : WP P 11 33 lo (.ref a :: r) w Q ↔ (8 < lo.length ∧ WP P 11 35 (lo.set 8 (some (.ref a))) r w Q) := W_astore rfl rfl
theorem wK_retype_33n : WP P 11 33 lo (.null :: r) w Q ↔ (8 < lo.length ∧ WP P 11 35 (lo.set 8 (some .null)) r w Q) := W_astoreN rfl rfl
theorem wK_retype_35 : WP P 11 35 lo st w Q ↔ x_ga lo[8]? (fun v => WP P 11 37 lo (v :: st) w Q) := W_aload rfl rfl
theorem wK_retype_37n : WP P 11 37 lo (.null :: r) w Q ↔ WP P 11 40 lo (.int (xi 0) :: r) w Q := W_inst_n rfl rfl
theorem wK_retype_37 {t n : Nat} (h1 : x_tg w a = some (t, n)) (ht : t ∈ x_things) : WP P 11 37 lo (.ref a :: r) w Q ↔ WP P 11 40 lo (.int (if t = 4 then xi 1 else xi 0) :: r) w Q := W_inst rfl rfl h1 ht rfl
theorem wK_retype_40 : WP P 11 40 lo (.int x :: r) w Q ↔ (if x = xi 0 then WP P 11 53 lo r w Q else WP P 11 43 lo r w Q) := W_if_eq rfl rfl rfl
theorem wK_retype_43 : WP P 11 43 lo st w Q ↔ x_ga lo[8]? (fun v => WP P 11 45 lo (v :: st) w Q) := W_aload rfl rfl
theorem wK_retype_45 {n : Nat} (h1 : x_tg w a = some (4, n)) : WP P 11 45 lo (.ref a :: r) w Q ↔ WP P 11 48 lo (.ref a :: r) w Q := W_cast rfl h1 rfl rfl
theorem wK_retype_48 : WP P 11 48 lo (.ref a :: r) w Q ↔ (7 < lo.length ∧ WP P 11 50 (lo.set 7 (some (.ref a))) r w Q) := W_astore rfl rfl
theorem wK_retype_48n : WP P 11 48 lo (.null :: r) w Q ↔ (7 < lo.length ∧ WP P 11 50 (lo.set 7 (some .null)) r w Q) := W_astoreN rfl rfl
theorem wK_retype_50 : WP P 11 50 lo st w Q ↔ WP P 11 55 lo st w Q := W_goto rfl rfl
theorem wK_retype_53 : WP P 11 53 lo st w Q ↔ WP P 11 54 lo (.int (xi 1) :: st) w Q := W_iconst rfl rfl rfl
theorem wK_retype_54 : WP P 11 54 lo [.int x] w Q ↔ Q (some (.int x)) w := WP_ret rfl rfl
theorem wK_retype_55 : WP P 11 55 lo st w Q ↔ x_gi lo[2]? (fun x => WP P 11 56 lo (.int x :: st) w Q) := W_iload_n rfl rfl rfl
theorem wK_retype_56 : WP P 11 56 lo (.int x :: r) w Q ↔ (if x < xi 0 then WP P 11 65 lo r w Q else WP P 11 59 lo r w Q) := W_if_lt rfl rfl rfl
theorem wK_retype_59 : WP P 11 59 lo st w Q ↔ x_gi lo[2]? (fun x => WP P 11 60 lo (.int x :: st) w Q) := W_iload_n rfl rfl rfl
theorem wK_retype_60 : WP P 11 60 lo st w Q ↔ WP P 11 62 lo (.int (xi 7) :: st) w Q := W_bipush rfl rfl (by decide)
theorem wK_retype_62 : WP P 11 62 lo (.int y :: .int x :: r) w Q ↔ (if y < x then WP P 11 65 lo r w Q else WP P 11 67 lo r w Q) := W_ic_le rfl rfl rfl
theorem wK_retype_65 : WP P 11 65 lo st w Q ↔ WP P 11 66 lo (.int (xi 4) :: st) w Q := W_iconst rfl rfl rfl
theorem wK_retype_66 : WP P 11 66 lo [.int x] w Q ↔ Q (some (.int x)) w := WP_ret rfl rfl
theorem wK_retype_67 : WP P 11 67 lo st w Q ↔ x_gi lo[2]? (fun x => WP P 11 68 lo (.int x :: st) w Q) := W_iload_n rfl rfl rfl
theorem wK_retype_68 : WP P 11 68 lo (.int x :: r) w Q ↔ (if x = xi 0 then WP P 11 71 lo r w Q else WP P 11 84 lo r w Q) := W_if_ne rfl rfl rfl
theorem wK_retype_71 : WP P 11 71 lo st w Q ↔ x_gi lo[3]? (fun x => WP P 11 72 lo (.int x :: st) w Q) := W_iload_n rfl rfl rfl
theorem wK_retype_72 : WP P 11 72 lo st w Q ↔ WP P 11 73 lo (.int (xi 1) :: st) w Q := W_iconst rfl rfl rfl
theorem wK_retype_73 : WP P 11 73 lo (.int y :: .int x :: r) w Q ↔ (if x < y then WP P 11 82 lo r w Q else WP P 11 76 lo r w Q) := W_ic_lt rfl rfl rfl
theorem wK_retype_76 : WP P 11 76 lo st w Q ↔ x_gi lo[3]? (fun x => WP P 11 77 lo (.int x :: st) w Q) := W_iload_n rfl rfl rfl
theorem wK_retype_77 : WP P 11 77 lo st w Q ↔ WP P 11 79 lo (.int (xi 6) :: st) w Q := W_bipush rfl rfl (by decide)
theorem wK_retype_79 : WP P 11 79 lo (.int y :: .int x :: r) w Q ↔ (if y < x then WP P 11 82 lo r w Q else WP P 11 84 lo r w Q) := W_ic_le rfl rfl rfl
theorem wK_retype_82 : WP P 11 82 lo st w Q ↔ WP P 11 83 lo (.int (xi 4) :: st) w Q := W_iconst rfl rfl rfl
theorem wK_retype_83 : WP P 11 83 lo [.int x] w Q ↔ Q (some (.int x)) w := WP_ret rfl rfl
theorem wK_retype_84 : WP P 11 84 lo st w Q ↔ x_ga lo[0]? (fun v => WP P 11 85 lo (v :: st) w Q) := W_aload_n rfl rfl rfl
theorem wK_retype_85 : WP P 11 85 lo st w Q ↔ x_ga lo[5]? (fun v => WP P 11 87 lo (v :: st) w Q) := W_aload rfl rfl
theorem wK_retype_87 : WP P 11 87 lo st w Q ↔ x_gi lo[4]? (fun x => WP P 11 89 lo (.int x :: st) w Q) := W_iload rfl rfl
theorem wK_retype_89 {u1 u2 : Value} {b nb : Nat} (hb : x_tg w b = some (0, nb)) (hr : r.length ≤ 8) (hc : ([u1, u2] : List Value).all x_cat1 = true) (hc2 : r.all x_cat1 = true) (k : WP P 14 0 [some (.ref b), some u1, some u2, none] [] w (fun v w1 => WP P 11 92 lo (v.toList ++ r) w1 Q)) : WP P 11 89 lo (u2 :: u1 :: .ref b :: r) w Q := K_virt (as := [u1, u2]) rfl rfl rfl rfl (by decide) (by decide) rfl hb hr hc hc2 k
theorem wK_retype_92 : WP P 11 92 lo (.int x :: r) w Q ↔ (8 < lo.length ∧ WP P 11 94 (lo.set 8 (some (.int x))) r w Q) := W_istore rfl rfl
theorem wK_retype_94 : WP P 11 94 lo st w Q ↔ x_ga lo[0]? (fun v => WP P 11 95 lo (v :: st) w Q) := W_aload_n rfl rfl rfl
theorem wK_retype_95 : WP P 11 95 lo st w Q ↔ x_gi lo[8]? (fun x => WP P 11 97 lo (.int x :: st) w Q) := W_iload rfl rfl
theorem wK_retype_97 {u1 : Value} {b nb : Nat} (hb : x_tg w b = some (0, nb)) (hr : r.length ≤ 8) (hc : ([u1] : List Value).all x_cat1 = true) (hc2 : r.all x_cat1 = true) (k : WP P 15 0 [some (.ref b), some u1] [] w (fun v w1 => WP P 11 100 lo (v.toList ++ r) w1 Q)) : WP P 11 97 lo (u1 :: .ref b :: r) w Q := K_virt (as := [u1]) rfl rfl rfl rfl (by decide) (by decide) rfl hb hr hc hc2 k
theorem wK_retype_100 : WP P 11 100 lo (.int x :: r) w Q ↔ (if x = xi 0 then WP P 11 103 lo r w Q else WP P 11 105 lo r w Q) := W_if_ne rfl rfl rfl
theorem wK_retype_103 : WP P 11 103 lo st w Q ↔ WP P 11 104 lo (.int (xi 3) :: st) w Q := W_iconst rfl rfl rfl
theorem wK_retype_104 : WP P 11 104 lo [.int x] w Q ↔ Q (some (.int x)) w := WP_ret rfl rfl
theorem wK_retype_105 : WP P 11 105 lo st w Q ↔ x_gi lo[2]? (fun x => WP P 11 106 lo (.int x :: st) w Q) := W_iload_n rfl rfl rfl
theorem wK_retype_106 : WP P 11 106 lo (.int x :: r) w Q ↔ (if x = xi 0 then WP P 11 109 lo r w Q else WP P 11 115 lo r w Q) := W_if_ne rfl rfl rfl
theorem wK_retype_109 : WP P 11 109 lo st w Q ↔ WP P 11 110 lo (.int (xi 1) :: st) w Q := W_iconst rfl rfl rfl
theorem wK_retype_110 : WP P 11 110 lo st w Q ↔ x_gi lo[3]? (fun x => WP P 11 111 lo (.int x :: st) w Q) := W_iload_n rfl rfl rfl
theorem wK_retype_111 : WP P 11 111 lo (.int y :: .int x :: r) w Q ↔ WP P 11 112 lo (.int (x <<< (y &&& 31)) :: r) w Q := W_ishl rfl rfl
theorem wK_retype_112 : WP P 11 112 lo st w Q ↔ WP P 11 120 lo st w Q := W_goto rfl rfl
theorem wK_retype_115 : WP P 11 115 lo st w Q ↔ WP P 11 118 lo (.ref P.2.1 :: st) w Q := W_gets rfl rfl rfl
theorem wK_retype_118 : WP P 11 118 lo st w Q ↔ x_gi lo[2]? (fun x => WP P 11 119 lo (.int x :: st) w Q) := W_iload_n rfl rfl rfl
theorem wK_retype_119 {n : Nat} (h1 : x_tg w a = some (20, n)) (h2 : ¬ x < 0) (h3 : x.toNatClampNeg < n) : WP P 11 119 lo (.int x :: .ref a :: r) w Q ↔ WP P 11 120 lo (x_fd w a x.toNatClampNeg :: r) w Q := W_iald rfl h1 h2 h3 rfl
theorem wK_retype_120 : WP P 11 120 lo (.int x :: r) w Q ↔ (9 < lo.length ∧ WP P 11 122 (lo.set 9 (some (.int x))) r w Q) := W_istore rfl rfl
theorem wK_retype_122 : WP P 11 122 lo st w Q ↔ x_ga lo[0]? (fun v => WP P 11 123 lo (v :: st) w Q) := W_aload_n rfl rfl rfl
theorem wK_retype_123 : WP P 11 123 lo st w Q ↔ x_ga lo[6]? (fun v => WP P 11 125 lo (v :: st) w Q) := W_aload rfl rfl
theorem wK_retype_125 : WP P 11 125 lo st w Q ↔ x_ga lo[7]? (fun v => WP P 11 127 lo (v :: st) w Q) := W_aload rfl rfl
theorem wK_retype_127 {u1 u2 : Value} {b nb : Nat} (hb : x_tg w b = some (0, nb)) (hr : r.length ≤ 8) (hc : ([u1, u2] : List Value).all x_cat1 = true) (hc2 : r.all x_cat1 = true) (k : WP P 16 0 [some (.ref b), some u1, some u2] [] w (fun v w1 => WP P 11 130 lo (v.toList ++ r) w1 Q)) : WP P 11 127 lo (u2 :: u1 :: .ref b :: r) w Q := K_virt (as := [u1, u2]) rfl rfl rfl rfl (by decide) (by decide) rfl hb hr hc hc2 k
theorem wK_retype_130 : WP P 11 130 lo st w Q ↔ x_gi lo[9]? (fun x => WP P 11 132 lo (.int x :: st) w Q) := W_iload rfl rfl
theorem wK_retype_132 {u1 u2 : Value} (hr : r.length ≤ 8) (hc : ([u1, u2] : List Value).all x_cat1 = true) (hc2 : r.all x_cat1 = true) (k : WP P 18 0 [some u1, some u2] [] w (fun v w1 => WP P 11 135 lo (v.toList ++ r) w1 Q)) : WP P 11 132 lo (u2 :: u1 :: r) w Q := K_stat (as := [u1, u2]) rfl rfl rfl rfl (by decide) (by decide) rfl hr hc hc2 k
theorem wK_retype_135 : WP P 11 135 lo (.int x :: r) w Q ↔ (10 < lo.length ∧ WP P 11 137 (lo.set 10 (some (.int x))) r w Q) := W_istore rfl rfl
theorem wK_retype_137 : WP P 11 137 lo st w Q ↔ x_gi lo[10]? (fun x => WP P 11 139 lo (.int x :: st) w Q) := W_iload rfl rfl
theorem wK_retype_139 : WP P 11 139 lo st w Q ↔ x_gi lo[9]? (fun x => WP P 11 141 lo (.int x :: st) w Q) := W_iload rfl rfl
theorem wK_retype_141 : WP P 11 141 lo (.int y :: .int x :: r) w Q ↔ WP P 11 142 lo (.int (x + y) :: r) w Q := W_iadd rfl rfl
theorem wK_retype_142 : WP P 11 142 lo st w Q ↔ x_ga lo[7]? (fun v => WP P 11 144 lo (v :: st) w Q) := W_aload rfl rfl
theorem wK_retype_144 : WP P 11 144 lo (.ref a :: r) w Q ↔ (x_has w a [4] ∧ WP P 11 147 lo (x_fd w a 1 :: r) w Q) := W_get rfl rfl rfl
theorem wK_retype_147 : WP P 11 147 lo st w Q ↔ x_ga lo[7]? (fun v => WP P 11 149 lo (v :: st) w Q) := W_aload rfl rfl
theorem wK_retype_149 : WP P 11 149 lo (.ref a :: r) w Q ↔ (x_has w a [4] ∧ WP P 11 152 lo (x_fd w a 2 :: r) w Q) := W_get rfl rfl rfl
theorem wK_retype_152 : WP P 11 152 lo (.int y :: .int x :: r) w Q ↔ WP P 11 153 lo (.int (x + y) :: r) w Q := W_iadd rfl rfl
theorem wK_retype_153 : WP P 11 153 lo (.int y :: .int x :: r) w Q ↔ (if y < x then WP P 11 156 lo r w Q else WP P 11 158 lo r w Q) := W_ic_le rfl rfl rfl
theorem wK_retype_156 : WP P 11 156 lo st w Q ↔ WP P 11 157 lo (.int (xi 5) :: st) w Q := W_iconst rfl rfl rfl
theorem wK_retype_157 : WP P 11 157 lo [.int x] w Q ↔ Q (some (.int x)) w := WP_ret rfl rfl
theorem wK_retype_158 : WP P 11 158 lo st w Q ↔ x_ga lo[7]? (fun v => WP P 11 160 lo (v :: st) w Q) := W_aload rfl rfl
theorem wK_retype_160 : WP P 11 160 lo st w Q ↔ x_gi lo[10]? (fun x => WP P 11 162 lo (.int x :: st) w Q) := W_iload rfl rfl
theorem wK_retype_162 : WP P 11 162 lo st w Q ↔ x_gi lo[9]? (fun x => WP P 11 164 lo (.int x :: st) w Q) := W_iload rfl rfl
theorem wK_retype_164 : WP P 11 164 lo (.int y :: .int x :: r) w Q ↔ WP P 11 165 lo (.int (x + y) :: r) w Q := W_iadd rfl rfl
theorem wK_retype_165 : WP P 11 165 lo (v1 :: .ref a :: r) w Q ↔ ((x_has w a [4] ∧ x_fit 0 v1 = true) ∧ WP P 11 168 lo r (x_put w a 3 v1) Q) := W_put rfl rfl (by decide) rfl
theorem wK_retype_168 : WP P 11 168 lo st w Q ↔ x_ga lo[0]? (fun v => WP P 11 169 lo (v :: st) w Q) := W_aload_n rfl rfl rfl
theorem wK_retype_169 : WP P 11 169 lo st w Q ↔ WP P 11 172 lo (.ref (x_sz w) :: st) (x_new w 1 8 (x_df 1)) Q := W_new rfl rfl rfl rfl rfl
theorem wK_retype_172 : WP P 11 172 lo (v1 :: r) w Q ↔ (x_cat1 v1 = true ∧ WP P 11 173 lo (v1 :: v1 :: r) w Q) := W_dup rfl rfl
theorem wK_retype_173 : WP P 11 173 lo st w Q ↔ x_ga lo[0]? (fun v => WP P 11 174 lo (v :: st) w Q) := W_aload_n rfl rfl rfl
theorem wK_retype_174 : WP P 11 174 lo st w Q ↔ x_gi lo[2]? (fun x => WP P 11 175 lo (.int x :: st) w Q) := W_iload_n rfl rfl rfl
theorem wK_retype_175 : WP P 11 175 lo st w Q ↔ x_gi lo[10]? (fun x => WP P 11 177 lo (.int x :: st) w Q) := W_iload rfl rfl
theorem wK_retype_177 : WP P 11 177 lo st w Q ↔ x_gi lo[9]? (fun x => WP P 11 179 lo (.int x :: st) w Q) := W_iload rfl rfl
theorem wK_retype_179 {u1 u2 u3 : Value} {b nb : Nat} (hb : x_tg w b = some (0, nb)) (hr : r.length ≤ 8) (hc : ([u1, u2, u3] : List Value).all x_cat1 = true) (hc2 : r.all x_cat1 = true) (k : WP P 19 0 [some (.ref b), some u1, some u2, some u3, none] [] w (fun v w1 => WP P 11 182 lo (v.toList ++ r) w1 Q)) : WP P 11 179 lo (u3 :: u2 :: u1 :: .ref b :: r) w Q := K_virt (as := [u1, u2, u3]) rfl rfl rfl rfl (by decide) (by decide) rfl hb hr hc hc2 k
theorem wK_retype_182 : WP P 11 182 lo st w Q ↔ WP P 11 184 lo (.int (xi 7) :: st) w Q := W_bipush rfl rfl (by decide)
theorem wK_retype_184 : WP P 11 184 lo st w Q ↔ WP P 11 185 lo (.int (xi 0) :: st) w Q := W_iconst rfl rfl rfl
theorem wK_retype_185 : WP P 11 185 lo st w Q ↔ x_ga lo[6]? (fun v => WP P 11 187 lo (v :: st) w Q) := W_aload rfl rfl
theorem wK_retype_187 {u1 u2 u3 u4 : Value} {b : Nat} (hr : r.length ≤ 8) (hc : ([u1, u2, u3, u4] : List Value).all x_cat1 = true) (hc2 : r.all x_cat1 = true) (k : WP P 8 0 [some (.ref b), some u1, some u2, some u3, some u4] [] w (fun v w1 => WP P 11 190 lo (v.toList ++ r) w1 Q)) : WP P 11 187 lo (u4 :: u3 :: u2 :: u1 :: .ref b :: r) w Q := K_init (as := [u1, u2, u3, u4]) rfl rfl (by decide) rfl rfl (by decide) (by decide) rfl hr hc hc2 k
theorem wK_retype_190 : WP P 11 190 lo st w Q ↔ x_gi lo[8]? (fun x => WP P 11 192 lo (.int x :: st) w Q) := W_iload rfl rfl
theorem wK_retype_192 {u1 u2 : Value} {b nb : Nat} (hb : x_tg w b = some (0, nb)) (hr : r.length ≤ 8) (hc : ([u1, u2] : List Value).all x_cat1 = true) (hc2 : r.all x_cat1 = true) (k : WP P 9 0 [some (.ref b), some u1, some u2] [] w (fun v w1 => WP P 11 195 lo (v.toList ++ r) w1 Q)) : WP P 11 192 lo (u2 :: u1 :: .ref b :: r) w Q := K_virt (as := [u1, u2]) rfl rfl rfl rfl (by decide) (by decide) rfl hb hr hc hc2 k
theorem wK_retype_195 : WP P 11 195 lo st w Q ↔ WP P 11 196 lo (.int (xi 0) :: st) w Q := W_iconst rfl rfl rfl
theorem wK_retype_196 : WP P 11 196 lo [.int x] w Q ↔ Q (some (.int x)) w := WP_ret rfl rfl
-- 12 K_currentThread
theorem wK_currentThread_0 : WP P 12 0 lo st w Q ↔ WP P 12 1 lo (.int (xi 3) :: st) w Q := W_iconst rfl rfl rfl
theorem wK_currentThread_1 : WP P 12 1 lo (.int x :: r) w Q ↔ (1 < lo.length ∧ WP P 12 2 (lo.set 1 (some (.int x))) r w Q) := W_istore_n rfl rfl rfl
theorem wK_currentThread_2 : WP P 12 2 lo st w Q ↔ x_gi lo[1]? (fun x => WP P 12 3 lo (.int x :: st) w Q) := W_iload_n rfl rfl rfl
theorem wK_currentThread_3 : WP P 12 3 lo (.int x :: r) w Q ↔ (if x < xi 0 then WP P 12 34 lo r w Q else WP P 12 6 lo r w Q) := W_if_lt rfl rfl rfl
theorem wK_currentThread_6 : WP P 12 6 lo st w Q ↔ x_ga lo[0]? (fun v => WP P 12 7 lo (v :: st) w Q) := W_aload_n rfl rfl rfl
theorem wK_currentThread_7 : WP P 12 7 lo (.ref a :: r) w Q ↔ (x_has w a [0] ∧ WP P 12 10 lo (x_fd w a 2 :: r) w Q) := W_get rfl rfl rfl
theorem wK_currentThread_10 : WP P 12 10 lo st w Q ↔ x_gi lo[1]? (fun x => WP P 12 11 lo (.int x :: st) w Q) := W_iload_n rfl rfl rfl
theorem wK_currentThread_11 {t n : Nat} (h1 : x_tg w a = some (t, n)) (ht : 30 ≤ t) (h2 : ¬ x < 0) (h3 : x.toNatClampNeg < n) : WP P 12 11 lo (.int x :: .ref a :: r) w Q ↔ WP P 12 12 lo (x_fd w a x.toNatClampNeg :: r) w Q := W_aald rfl h1 ht h2 h3 rfl
theorem wK_currentThread_12 : WP P 12 12 lo (.ref a :: r) w Q ↔ (x_has w a [3] ∧ WP P 12 15 lo (x_fd w a 0 :: r) w Q) := W_get rfl rfl rfl
theorem wK_currentThread_15n : WP P 12 15 lo (.null :: r) w Q ↔ WP P 12 28 lo r w Q := W_ifnull_n rfl rfl
theorem wK_currentThread_15 : WP P 12 15 lo (.ref a :: r) w Q ↔ WP P 12 18 lo r w Q := W_ifnull_r rfl rfl rfl
theorem wK_currentThread_18 : WP P 12 18 lo st w Q ↔ x_ga lo[0]? (fun v => WP P 12 19 lo (v :: st) w Q) := W_aload_n rfl rfl rfl
theorem wK_currentThread_19 : WP P 12 19 lo (.ref a :: r) w Q ↔ (x_has w a [0] ∧ WP P 12 22 lo (x_fd w a 2 :: r) w Q) := W_get rfl rfl rfl
theorem wK_currentThread_22 : WP P 12 22 lo st w Q ↔ x_gi lo[1]? (fun x => WP P 12 23 lo (.int x :: st) w Q) := W_iload_n rfl rfl rfl
theorem wK_currentThread_23 {t n : Nat} (h1 : x_tg w a = some (t, n)) (ht : 30 ≤ t) (h2 : ¬ x < 0) (h3 : x.toNatClampNeg < n) : WP P 12 23 lo (.int x :: .ref a :: r) w Q ↔ WP P 12 24 lo (x_fd w a x.toNatClampNeg :: r) w Q := W_aald rfl h1 ht h2 h3 rfl
theorem wK_currentThread_24 : WP P 12 24 lo (.ref a :: r) w Q ↔ (x_has w a [3] ∧ WP P 12 27 lo (x_fd w a 0 :: r) w Q) := W_get rfl rfl rfl
theorem wK_currentThread_27n : WP P 12 27 lo [.null] w Q ↔ Q (some .null) w := WP_ret rfl rfl
theorem wK_currentThread_27 : WP P 12 27 lo [.ref a] w Q ↔ Q (some (.ref a)) w := WP_ret rfl rfl
theorem wK_currentThread_28 : WP P 12 28 lo st w Q ↔ x_gi lo[1]? (fun x => WP P 12 31 (lo.set 1 (some (.int (x + xi (-1))))) st w Q) := W_iinc rfl rfl
theorem wK_currentThread_31 : WP P 12 31 lo st w Q ↔ WP P 12 2 lo st w Q := W_goto rfl rfl
theorem wK_currentThread_34 : WP P 12 34 lo st w Q ↔ WP P 12 35 lo (.null :: st) w Q := W_null rfl rfl
theorem wK_currentThread_35n : WP P 12 35 lo [.null] w Q ↔ Q (some .null) w := WP_ret rfl rfl
theorem wK_currentThread_35 : WP P 12 35 lo [.ref a] w Q ↔ Q (some (.ref a)) w := WP_ret rfl rfl
-- 13 K_capabilityAt
theorem wK_capabilityAt_0 : WP P 13 0 lo st w Q ↔ x_ga lo[0]? (fun v => WP P 13 1 lo (v :: st) w Q) := W_aload_n rfl rfl rfl
theorem wK_capabilityAt_1 : WP P 13 1 lo st w Q ↔ x_ga lo[1]? (fun v => WP P 13 2 lo (v :: st) w Q) := W_aload_n rfl rfl rfl
theorem wK_capabilityAt_2 : WP P 13 2 lo st w Q ↔ x_gi lo[2]? (fun x => WP P 13 3 lo (.int x :: st) w Q) := W_iload_n rfl rfl rfl
theorem wK_capabilityAt_3 {u1 u2 : Value} {b nb : Nat} (hb : x_tg w b = some (0, nb)) (hr : r.length ≤ 8) (hc : ([u1, u2] : List Value).all x_cat1 = true) (hc2 : r.all x_cat1 = true) (k : WP P 14 0 [some (.ref b), some u1, some u2, none] [] w (fun v w1 => WP P 13 6 lo (v.toList ++ r) w1 Q)) : WP P 13 3 lo (u2 :: u1 :: .ref b :: r) w Q := K_virt (as := [u1, u2]) rfl rfl rfl rfl (by decide) (by decide) rfl hb hr hc hc2 k
theorem wK_capabilityAt_6 : WP P 13 6 lo (.int x :: r) w Q ↔ (3 < lo.length ∧ WP P 13 7 (lo.set 3 (some (.int x))) r w Q) := W_istore_n rfl rfl rfl
theorem wK_capabilityAt_7 : WP P 13 7 lo st w Q ↔ x_gi lo[3]? (fun x => WP P 13 8 lo (.int x :: st) w Q) := W_iload_n rfl rfl rfl
theorem wK_capabilityAt_8 : WP P 13 8 lo st w Q ↔ WP P 13 9 lo (.int (xi (-1)) :: st) w Q := W_iconst rfl rfl rfl
theorem wK_capabilityAt_9 : WP P 13 9 lo (.int y :: .int x :: r) w Q ↔ (if x = y then WP P 13 12 lo r w Q else WP P 13 16 lo r w Q) := W_ic_ne rfl rfl rfl
theorem wK_capabilityAt_12 : WP P 13 12 lo st w Q ↔ WP P 13 13 lo (.null :: st) w Q := W_null rfl rfl
theorem wK_capabilityAt_13 : WP P 13 13 lo st w Q ↔ WP P 13 22 lo st w Q := W_goto rfl rfl
theorem wK_capabilityAt_16 : WP P 13 16 lo st w Q ↔ x_ga lo[0]? (fun v => WP P 13 17 lo (v :: st) w Q) := W_aload_n rfl rfl rfl
theorem wK_capabilityAt_17 : WP P 13 17 lo (.ref a :: r) w Q ↔ (x_has w a [0] ∧ WP P 13 20 lo (x_fd w a 0 :: r) w Q) := W_get rfl rfl rfl
theorem wK_capabilityAt_20 : WP P 13 20 lo st w Q ↔ x_gi lo[3]? (fun x => WP P 13 21 lo (.int x :: st) w Q) := W_iload_n rfl rfl rfl
theorem wK_capabilityAt_21 {t n : Nat} (h1 : x_tg w a = some (t, n)) (ht : 30 ≤ t) (h2 : ¬ x < 0) (h3 : x.toNatClampNeg < n) : WP P 13 21 lo (.int x :: .ref a :: r) w Q ↔ WP P 13 22 lo (x_fd w a x.toNatClampNeg :: r) w Q := W_aald rfl h1 ht h2 h3 rfl
theorem wK_capabilityAt_22n : WP P 13 22 lo [.null] w Q ↔ Q (some .null) w := WP_ret rfl rfl
theorem wK_capabilityAt_22 : WP P 13 22 lo [.ref a] w Q ↔ Q (some (.ref a)) w := WP_ret rfl rfl
-- 14 K_placeOf
theorem wK_placeOf_0 : WP P 14 0 lo st w Q ↔ x_ga lo[1]? (fun v => WP P 14 1 lo (v :: st) w Q) := W_aload_n rfl rfl rfl
theorem wK_placeOf_1 : WP P 14 1 lo (.ref a :: r) w Q ↔ (x_has w a [2] ∧ WP P 14 4 lo (x_fd w a 2 :: r) w Q) := W_get rfl rfl rfl
theorem wK_placeOf_4n : WP P 14 4 lo (.null :: r) w Q ↔ WP P 14 18 lo r w Q := W_ifnull_n rfl rfl
theorem wK_placeOf_4 : WP P 14 4 lo (.ref a :: r) w Q ↔ WP P 14 7 lo r w Q := W_ifnull_r rfl rfl rfl
theorem wK_placeOf_7 : WP P 14 7 lo st w Q ↔ x_gi lo[2]? (fun x => WP P 14 8 lo (.int x :: st) w Q) := W_iload_n rfl rfl rfl
theorem wK_placeOf_8 : WP P 14 8 lo (.int x :: r) w Q ↔ (if x < xi 0 then WP P 14 18 lo r w Q else WP P 14 11 lo r w Q) := W_if_lt rfl rfl rfl
theorem wK_placeOf_11 : WP P 14 11 lo st w Q ↔ x_gi lo[2]? (fun x => WP P 14 12 lo (.int x :: st) w Q) := W_iload_n rfl rfl rfl
theorem wK_placeOf_12 : WP P 14 12 lo st w Q ↔ WP P 14 15 lo (.int (xi 271) :: st) w Q := W_sipush rfl rfl (by decide)
theorem wK_placeOf_15 : WP P 14 15 lo (.int y :: .int x :: r) w Q ↔ (if y < x then WP P 14 18 lo r w Q else WP P 14 20 lo r w Q) := W_ic_le rfl rfl rfl
theorem wK_placeOf_18 : WP P 14 18 lo st w Q ↔ WP P 14 19 lo (.int (xi (-1)) :: st) w Q := W_iconst rfl rfl rfl
theorem wK_placeOf_19 : WP P 14 19 lo [.int x] w Q ↔ Q (some (.int x)) w := WP_ret rfl rfl
theorem wK_placeOf_20 : WP P 14 20 lo st w Q ↔ x_gi lo[2]? (fun x => WP P 14 21 lo (.int x :: st) w Q) := W_iload_n rfl rfl rfl
theorem wK_placeOf_21 : WP P 14 21 lo st w Q ↔ WP P 14 23 lo (.int (xi 16) :: st) w Q := W_bipush rfl rfl (by decide)
theorem wK_placeOf_23 : WP P 14 23 lo (.int y :: .int x :: r) w Q ↔ (if x < y then WP P 14 26 lo r w Q else WP P 14 36 lo r w Q) := W_ic_ge rfl rfl rfl
theorem wK_placeOf_26 : WP P 14 26 lo st w Q ↔ x_ga lo[1]? (fun v => WP P 14 27 lo (v :: st) w Q) := W_aload_n rfl rfl rfl
theorem wK_placeOf_27 : WP P 14 27 lo (.ref a :: r) w Q ↔ (x_has w a [2] ∧ WP P 14 30 lo (x_fd w a 2 :: r) w Q) := W_get rfl rfl rfl
theorem wK_placeOf_30 : WP P 14 30 lo (.ref a :: r) w Q ↔ (x_has w a [5] ∧ WP P 14 33 lo (x_fd w a 1 :: r) w Q) := W_get rfl rfl rfl
theorem wK_placeOf_33 : WP P 14 33 lo st w Q ↔ x_gi lo[2]? (fun x => WP P 14 34 lo (.int x :: st) w Q) := W_iload_n rfl rfl rfl
theorem wK_placeOf_34 : WP P 14 34 lo (.int y :: .int x :: r) w Q ↔ WP P 14 35 lo (.int (x + y) :: r) w Q := W_iadd rfl rfl
theorem wK_placeOf_35 : WP P 14 35 lo [.int x] w Q ↔ Q (some (.int x)) w := WP_ret rfl rfl
theorem wK_placeOf_36 : WP P 14 36 lo st w Q ↔ x_ga lo[0]? (fun v => WP P 14 37 lo (v :: st) w Q) := W_aload_n rfl rfl rfl
theorem wK_placeOf_37 : WP P 14 37 lo (.ref a :: r) w Q ↔ (x_has w a [0] ∧ WP P 14 40 lo (x_fd w a 0 :: r) w Q) := W_get rfl rfl rfl
theorem wK_placeOf_40 : WP P 14 40 lo st w Q ↔ x_ga lo[1]? (fun v => WP P 14 41 lo (v :: st) w Q) := W_aload_n rfl rfl rfl
theorem wK_placeOf_41 : WP P 14 41 lo (.ref a :: r) w Q ↔ (x_has w a [2] ∧ WP P 14 44 lo (x_fd w a 2 :: r) w Q) := W_get rfl rfl rfl
theorem wK_placeOf_44 : WP P 14 44 lo (.ref a :: r) w Q ↔ (x_has w a [5] ∧ WP P 14 47 lo (x_fd w a 1 :: r) w Q) := W_get rfl rfl rfl
theorem wK_placeOf_47 : WP P 14 47 lo st w Q ↔ x_gi lo[2]? (fun x => WP P 14 48 lo (.int x :: st) w Q) := W_iload_n rfl rfl rfl
theorem wK_placeOf_48 : WP P 14 48 lo st w Q ↔ WP P 14 50 lo (.int (xi 16) :: st) w Q := W_bipush rfl rfl (by decide)
theorem wK_placeOf_50 : WP P 14 50 lo (.int y :: .int x :: r) w Q ↔ (¬ y = 0 ∧ WP P 14 51 lo (.int (x / y) :: r) w Q) := W_idiv rfl rfl
theorem wK_placeOf_51 : WP P 14 51 lo (.int y :: .int x :: r) w Q ↔ WP P 14 52 lo (.int (x + y) :: r) w Q := W_iadd rfl rfl
theorem wK_placeOf_52 : WP P 14 52 lo st w Q ↔ WP P 14 53 lo (.int (xi 1) :: st) w Q := W_iconst rfl rfl rfl
theorem wK_placeOf_53 : WP P 14 53 lo (.int y :: .int x :: r) w Q ↔ WP P 14 54 lo (.int (x - y) :: r) w Q := W_isub rfl rfl
theorem wK_placeOf_54 {t n : Nat} (h1 : x_tg w a = some (t, n)) (ht : 30 ≤ t) (h2 : ¬ x < 0) (h3 : x.toNatClampNeg < n) : WP P 14 54 lo (.int x :: .ref a :: r) w Q ↔ WP P 14 55 lo (x_fd w a x.toNatClampNeg :: r) w Q := W_aald rfl h1 ht h2 h3 rfl
theorem wK_placeOf_55 : WP P 14 55 lo (.ref a :: r) w Q ↔ (3 < lo.length ∧ WP P 14 56 (lo.set 3 (some (.ref a))) r w Q) := W_astore_n rfl rfl rfl
theorem wK_placeOf_55n : WP P 14 55 lo (.null :: r) w Q ↔ (3 < lo.length ∧ WP P 14 56 (lo.set 3 (some .null)) r w Q) := W_astore_nN rfl rfl rfl
theorem wK_placeOf_56 : WP P 14 56 lo st w Q ↔ x_ga lo[3]? (fun v => WP P 14 57 lo (v :: st) w Q) := W_aload_n rfl rfl rfl
theorem wK_placeOf_57n : WP P 14 57 lo (.null :: r) w Q ↔ WP P 14 71 lo r w Q := W_ifnull_n rfl rfl
theorem wK_placeOf_57 : WP P 14 57 lo (.ref a :: r) w Q ↔ WP P 14 60 lo r w Q := W_ifnull_r rfl rfl rfl
theorem wK_placeOf_60 : WP P 14 60 lo st w Q ↔ x_ga lo[3]? (fun v => WP P 14 61 lo (v :: st) w Q) := W_aload_n rfl rfl rfl
theorem wK_placeOf_61 : WP P 14 61 lo (.ref a :: r) w Q ↔ (x_has w a [1] ∧ WP P 14 64 lo (x_fd w a 0 :: r) w Q) := W_get rfl rfl rfl
theorem wK_placeOf_64 : WP P 14 64 lo (.ref a :: r) w Q ↔ (x_has w a [2, 4, 5, 6, 7, 8, 9, 10] ∧ WP P 14 67 lo (x_fd w a 0 :: r) w Q) := W_get rfl rfl rfl
theorem wK_placeOf_67 : WP P 14 67 lo st w Q ↔ WP P 14 68 lo (.int (xi 1) :: st) w Q := W_iconst rfl rfl rfl
theorem wK_placeOf_68 : WP P 14 68 lo (.int y :: .int x :: r) w Q ↔ (if x = y then WP P 14 73 lo r w Q else WP P 14 71 lo r w Q) := W_ic_eq rfl rfl rfl
theorem wK_placeOf_71 : WP P 14 71 lo st w Q ↔ WP P 14 72 lo (.int (xi (-1)) :: st) w Q := W_iconst rfl rfl rfl
theorem wK_placeOf_72 : WP P 14 72 lo [.int x] w Q ↔ Q (some (.int x)) w := WP_ret rfl rfl
theorem wK_placeOf_73 : WP P 14 73 lo st w Q ↔ x_ga lo[3]? (fun v => WP P 14 74 lo (v :: st) w Q) := W_aload_n rfl rfl rfl
theorem wK_placeOf_74 : WP P 14 74 lo (.ref a :: r) w Q ↔ (x_has w a [1] ∧ WP P 14 77 lo (x_fd w a 0 :: r) w Q) := W_get rfl rfl rfl
theorem wK_placeOf_77 : WP P 14 77 lo (.ref a :: r) w Q ↔ (x_has w a [2, 4, 5, 6, 7, 8, 9, 10] ∧ WP P 14 80 lo (x_fd w a 1 :: r) w Q) := W_get rfl rfl rfl
theorem wK_placeOf_80 : WP P 14 80 lo st w Q ↔ x_gi lo[2]? (fun x => WP P 14 81 lo (.int x :: st) w Q) := W_iload_n rfl rfl rfl
theorem wK_placeOf_81 : WP P 14 81 lo st w Q ↔ WP P 14 83 lo (.int (xi 16) :: st) w Q := W_bipush rfl rfl (by decide)
theorem wK_placeOf_83 : WP P 14 83 lo (.int y :: .int x :: r) w Q ↔ (¬ y = 0 ∧ WP P 14 84 lo (.int (x_rmd x y) :: r) w Q) := W_irem rfl rfl
theorem wK_placeOf_84 : WP P 14 84 lo (.int y :: .int x :: r) w Q ↔ WP P 14 85 lo (.int (x + y) :: r) w Q := W_iadd rfl rfl
theorem wK_placeOf_85 : WP P 14 85 lo [.int x] w Q ↔ Q (some (.int x)) w := WP_ret rfl rfl
-- 15 K_isEmptySlot
theorem wK_isEmptySlot_0 : WP P 15 0 lo st w Q ↔ x_gi lo[1]? (fun x => WP P 15 1 lo (.int x :: st) w Q) := W_iload_n rfl rfl rfl
theorem wK_isEmptySlot_1 : WP P 15 1 lo st w Q ↔ WP P 15 2 lo (.int (xi (-1)) :: st) w Q := W_iconst rfl rfl rfl
theorem wK_isEmptySlot_2 : WP P 15 2 lo (.int y :: .int x :: r) w Q ↔ (if x = y then WP P 15 18 lo r w Q else WP P 15 5 lo r w Q) := W_ic_eq rfl rfl rfl
theorem wK_isEmptySlot_5 : WP P 15 5 lo st w Q ↔ x_ga lo[0]? (fun v => WP P 15 6 lo (v :: st) w Q) := W_aload_n rfl rfl rfl
theorem wK_isEmptySlot_6 : WP P 15 6 lo (.ref a :: r) w Q ↔ (x_has w a [0] ∧ WP P 15 9 lo (x_fd w a 0 :: r) w Q) := W_get rfl rfl rfl
theorem wK_isEmptySlot_9 : WP P 15 9 lo st w Q ↔ x_gi lo[1]? (fun x => WP P 15 10 lo (.int x :: st) w Q) := W_iload_n rfl rfl rfl
theorem wK_isEmptySlot_10 {t n : Nat} (h1 : x_tg w a = some (t, n)) (ht : 30 ≤ t) (h2 : ¬ x < 0) (h3 : x.toNatClampNeg < n) : WP P 15 10 lo (.int x :: .ref a :: r) w Q ↔ WP P 15 11 lo (x_fd w a x.toNatClampNeg :: r) w Q := W_aald rfl h1 ht h2 h3 rfl
theorem wK_isEmptySlot_11n : WP P 15 11 lo (.null :: r) w Q ↔ WP P 15 14 lo r w Q := W_ifnn_n rfl rfl rfl
theorem wK_isEmptySlot_11 : WP P 15 11 lo (.ref a :: r) w Q ↔ WP P 15 18 lo r w Q := W_ifnn_r rfl rfl
theorem wK_isEmptySlot_14 : WP P 15 14 lo st w Q ↔ WP P 15 15 lo (.int (xi 1) :: st) w Q := W_iconst rfl rfl rfl
theorem wK_isEmptySlot_15 : WP P 15 15 lo st w Q ↔ WP P 15 19 lo st w Q := W_goto rfl rfl
theorem wK_isEmptySlot_18 : WP P 15 18 lo st w Q ↔ WP P 15 19 lo (.int (xi 0) :: st) w Q := W_iconst rfl rfl rfl
theorem wK_isEmptySlot_19 (h : x = 0 ∨ x = 1) : WP P 15 19 lo [.int x] w Q ↔ Q (some (.int x)) w := WP_ret rfl (if_pos (Or.inr ⟨rfl, h⟩))
-- 16 K_freePoint
theorem wK_freePoint_0 : WP P 16 0 lo st w Q ↔ x_ga lo[0]? (fun v => WP P 16 1 lo (v :: st) w Q) := W_aload_n rfl rfl rfl
theorem wK_freePoint_1 : WP P 16 1 lo st w Q ↔ x_ga lo[1]? (fun v => WP P 16 2 lo (v :: st) w Q) := W_aload_n rfl rfl rfl
theorem wK_freePoint_2 {u1 : Value} {b nb : Nat} (hb : x_tg w b = some (0, nb)) (hr : r.length ≤ 8) (hc : ([u1] : List Value).all x_cat1 = true) (hc2 : r.all x_cat1 = true) (k : WP P 17 0 [some (.ref b), some u1, none, none, none] [] w (fun v w1 => WP P 16 5 lo (v.toList ++ r) w1 Q)) : WP P 16 2 lo (u1 :: .ref b :: r) w Q := K_virt (as := [u1]) rfl rfl rfl rfl (by decide) (by decide) rfl hb hr hc hc2 k
theorem wK_freePoint_5 : WP P 16 5 lo (.int x :: r) w Q ↔ (if x = xi 0 then WP P 16 8 lo r w Q else WP P 16 15 lo r w Q) := W_if_ne rfl rfl rfl
theorem wK_freePoint_8 : WP P 16 8 lo st w Q ↔ x_ga lo[2]? (fun v => WP P 16 9 lo (v :: st) w Q) := W_aload_n rfl rfl rfl
theorem wK_freePoint_9 : WP P 16 9 lo (.ref a :: r) w Q ↔ (x_has w a [4] ∧ WP P 16 12 lo (x_fd w a 1 :: r) w Q) := W_get rfl rfl rfl
theorem wK_freePoint_12 : WP P 16 12 lo st w Q ↔ WP P 16 19 lo st w Q := W_goto rfl rfl
theorem wK_freePoint_15 : WP P 16 15 lo st w Q ↔ x_ga lo[2]? (fun v => WP P 16 16 lo (v :: st) w Q) := W_aload_n rfl rfl rfl
theorem wK_freePoint_16 : WP P 16 16 lo (.ref a :: r) w Q ↔ (x_has w a [4] ∧ WP P 16 19 lo (x_fd w a 3 :: r) w Q) := W_get rfl rfl rfl
theorem wK_freePoint_19 : WP P 16 19 lo [.int x] w Q ↔ Q (some (.int x)) w := WP_ret rfl rfl
-- 17 K_childrenOf
theorem wK_childrenOf_0 : WP P 17 0 lo st w Q ↔ WP P 17 1 lo (.int (xi 0) :: st) w Q := W_iconst rfl rfl rfl
theorem wK_childrenOf_1 : WP P 17 1 lo (.int x :: r) w Q ↔ (2 < lo.length ∧ WP P 17 2 (lo.set 2 (some (.int x))) r w Q) := W_istore_n rfl rfl rfl
theorem wK_childrenOf_2 : WP P 17 2 lo st w Q ↔ WP P 17 3 lo (.int (xi 0) :: st) w Q := W_iconst rfl rfl rfl
theorem wK_childrenOf_3 : WP P 17 3 lo (.int x :: r) w Q ↔ (3 < lo.length ∧ WP P 17 4 (lo.set 3 (some (.int x))) r w Q) := W_istore_n rfl rfl rfl
theorem wK_childrenOf_4 : WP P 17 4 lo st w Q ↔ x_gi lo[3]? (fun x => WP P 17 5 lo (.int x :: st) w Q) := W_iload_n rfl rfl rfl
theorem wK_childrenOf_5 : WP P 17 5 lo st w Q ↔ WP P 17 8 lo (.int (xi 128) :: st) w Q := W_sipush rfl rfl (by decide)
theorem wK_childrenOf_8 : WP P 17 8 lo (.int y :: .int x :: r) w Q ↔ (if x < y then WP P 17 11 lo r w Q else WP P 17 42 lo r w Q) := W_ic_ge rfl rfl rfl
theorem wK_childrenOf_11 : WP P 17 11 lo st w Q ↔ x_ga lo[0]? (fun v => WP P 17 12 lo (v :: st) w Q) := W_aload_n rfl rfl rfl
theorem wK_childrenOf_12 : WP P 17 12 lo (.ref a :: r) w Q ↔ (x_has w a [0] ∧ WP P 17 15 lo (x_fd w a 0 :: r) w Q) := W_get rfl rfl rfl
theorem wK_childrenOf_15 : WP P 17 15 lo st w Q ↔ x_gi lo[3]? (fun x => WP P 17 16 lo (.int x :: st) w Q) := W_iload_n rfl rfl rfl
theorem wK_childrenOf_16 {t n : Nat} (h1 : x_tg w a = some (t, n)) (ht : 30 ≤ t) (h2 : ¬ x < 0) (h3 : x.toNatClampNeg < n) : WP P 17 16 lo (.int x :: .ref a :: r) w Q ↔ WP P 17 17 lo (x_fd w a x.toNatClampNeg :: r) w Q := W_aald rfl h1 ht h2 h3 rfl
theorem wK_childrenOf_17 : WP P 17 17 lo (.ref a :: r) w Q ↔ (4 < lo.length ∧ WP P 17 19 (lo.set 4 (some (.ref a))) r w Q) := W_astore rfl rfl
theorem wK_childrenOf_17n : WP P 17 17 lo (.null :: r) w Q ↔ (4 < lo.length ∧ WP P 17 19 (lo.set 4 (some .null)) r w Q) := W_astoreN rfl rfl
theorem wK_childrenOf_19 : WP P 17 19 lo st w Q ↔ x_ga lo[4]? (fun v => WP P 17 21 lo (v :: st) w Q) := W_aload rfl rfl
theorem wK_childrenOf_21n : WP P 17 21 lo (.null :: r) w Q ↔ WP P 17 36 lo r w Q := W_ifnull_n rfl rfl
theorem wK_childrenOf_21 : WP P 17 21 lo (.ref a :: r) w Q ↔ WP P 17 24 lo r w Q := W_ifnull_r rfl rfl rfl
theorem wK_childrenOf_24 : WP P 17 24 lo st w Q ↔ x_ga lo[4]? (fun v => WP P 17 26 lo (v :: st) w Q) := W_aload rfl rfl
theorem wK_childrenOf_26 : WP P 17 26 lo (.ref a :: r) w Q ↔ (x_has w a [1] ∧ WP P 17 29 lo (x_fd w a 3 :: r) w Q) := W_get rfl rfl rfl
theorem wK_childrenOf_29 : WP P 17 29 lo st w Q ↔ x_ga lo[1]? (fun v => WP P 17 30 lo (v :: st) w Q) := W_aload_n rfl rfl rfl
theorem wK_childrenOf_30 {q1 q2 : Option Nat} (h1 : x_rv v2 = some q1) (h2 : x_rv v1 = some q2) : WP P 17 30 lo (v1 :: v2 :: r) w Q ↔ (if q1 = q2 then WP P 17 33 lo r w Q else WP P 17 36 lo r w Q) := W_acmp_ne rfl rfl rfl h1 h2
theorem wK_childrenOf_33 : WP P 17 33 lo st w Q ↔ x_gi lo[2]? (fun x => WP P 17 36 (lo.set 2 (some (.int (x + xi 1)))) st w Q) := W_iinc rfl rfl
theorem wK_childrenOf_36 : WP P 17 36 lo st w Q ↔ x_gi lo[3]? (fun x => WP P 17 39 (lo.set 3 (some (.int (x + xi 1)))) st w Q) := W_iinc rfl rfl
theorem wK_childrenOf_39 : WP P 17 39 lo st w Q ↔ WP P 17 4 lo st w Q := W_goto rfl rfl
theorem wK_childrenOf_42 : WP P 17 42 lo st w Q ↔ x_gi lo[2]? (fun x => WP P 17 43 lo (.int x :: st) w Q) := W_iload_n rfl rfl rfl
theorem wK_childrenOf_43 : WP P 17 43 lo [.int x] w Q ↔ Q (some (.int x)) w := WP_ret rfl rfl
-- 18 K_roundUp
theorem wK_roundUp_0 : WP P 18 0 lo st w Q ↔ x_gi lo[0]? (fun x => WP P 18 1 lo (.int x :: st) w Q) := W_iload_n rfl rfl rfl
theorem wK_roundUp_1 : WP P 18 1 lo st w Q ↔ x_gi lo[1]? (fun x => WP P 18 2 lo (.int x :: st) w Q) := W_iload_n rfl rfl rfl
theorem wK_roundUp_2 : WP P 18 2 lo (.int y :: .int x :: r) w Q ↔ WP P 18 3 lo (.int (x + y) :: r) w Q := W_iadd rfl rfl
theorem wK_roundUp_3 : WP P 18 3 lo st w Q ↔ WP P 18 4 lo (.int (xi 1) :: st) w Q := W_iconst rfl rfl rfl
theorem wK_roundUp_4 : WP P 18 4 lo (.int y :: .int x :: r) w Q ↔ WP P 18 5 lo (.int (x - y) :: r) w Q := W_isub rfl rfl
theorem wK_roundUp_5 : WP P 18 5 lo st w Q ↔ x_gi lo[1]? (fun x => WP P 18 6 lo (.int x :: st) w Q) := W_iload_n rfl rfl rfl
theorem wK_roundUp_6 : WP P 18 6 lo (.int y :: .int x :: r) w Q ↔ (¬ y = 0 ∧ WP P 18 7 lo (.int (x / y) :: r) w Q) := W_idiv rfl rfl
theorem wK_roundUp_7 : WP P 18 7 lo st w Q ↔ x_gi lo[1]? (fun x => WP P 18 8 lo (.int x :: st) w Q) := W_iload_n rfl rfl rfl
theorem wK_roundUp_8 : WP P 18 8 lo (.int y :: .int x :: r) w Q ↔ WP P 18 9 lo (.int (x * y) :: r) w Q := W_imul rfl rfl
theorem wK_roundUp_9 : WP P 18 9 lo [.int x] w Q ↔ Q (some (.int x)) w := WP_ret rfl rfl
-- 19 K_makeThing
theorem wK_makeThing_0 : WP P 19 0 lo st w Q ↔ x_gi lo[1]? (fun x => WP P 19 1 lo (.int x :: st) w Q) := W_iload_n rfl rfl rfl
-- tsw wK_makeThing_1
theorem wK_makeThing_44 : WP P 19 44 lo st w Q ↔ WP P 19 47 lo (.ref (x_sz w) :: st) (x_new w 4 4 (x_df 4)) Q := W_new rfl rfl rfl rfl rfl
theorem wK_makeThing_47 : WP P 19 47 lo (v1 :: r) w Q ↔ (x_cat1 v1 = true ∧ WP P 19 48 lo (v1 :: v1 :: r) w Q) := W_dup rfl rfl
theorem wK_makeThing_48 : WP P 19 48 lo st w Q ↔ x_gi lo[2]? (fun x => WP P 19 49 lo (.int x :: st) w Q) := W_iload_n rfl rfl rfl
theorem wK_makeThing_49 : WP P 19 49 lo st w Q ↔ x_gi lo[3]? (fun x => WP P 19 50 lo (.int x :: st) w Q) := W_iload_n rfl rfl rfl
theorem wK_makeThing_50 {u1 u2 : Value} {b : Nat} (hr : r.length ≤ 8) (hc : ([u1, u2] : List Value).all x_cat1 = true) (hc2 : r.all x_cat1 = true) (k : WP P 10 0 [some (.ref b), some u1, some u2] [] w (fun v w1 => WP P 19 53 lo (v.toList ++ r) w1 Q)) : WP P 19 50 lo (u2 :: u1 :: .ref b :: r) w Q := K_init (as := [u1, u2]) rfl rfl (by decide) rfl rfl (by decide) (by decide) rfl hr hc hc2 k
theorem wK_makeThing_53n : WP P 19 53 lo [.null] w Q ↔ Q (some .null) w := WP_ret rfl rfl
theorem wK_makeThing_53 : WP P 19 53 lo [.ref a] w Q ↔ Q (some (.ref a)) w := WP_ret rfl rfl
theorem wK_makeThing_54 : WP P 19 54 lo st w Q ↔ WP P 19 57 lo (.ref (x_sz w) :: st) (x_new w 5 2 (x_df 5)) Q := W_new rfl rfl rfl rfl rfl
theorem wK_makeThing_57 : WP P 19 57 lo (v1 :: r) w Q ↔ (x_cat1 v1 = true ∧ WP P 19 58 lo (v1 :: v1 :: r) w Q) := W_dup rfl rfl
theorem wK_makeThing_58 : WP P 19 58 lo st w Q ↔ x_gi lo[2]? (fun x => WP P 19 59 lo (.int x :: st) w Q) := W_iload_n rfl rfl rfl
theorem wK_makeThing_59 {u1 : Value} {b : Nat} (hr : r.length ≤ 8) (hc : ([u1] : List Value).all x_cat1 = true) (hc2 : r.all x_cat1 = true) (k : WP P 2 0 [some (.ref b), some u1] [] w (fun v w1 => WP P 19 62 lo (v.toList ++ r) w1 Q)) : WP P 19 59 lo (u1 :: .ref b :: r) w Q := K_init (as := [u1]) rfl rfl (by decide) rfl rfl (by decide) (by decide) rfl hr hc hc2 k
theorem wK_makeThing_62n : WP P 19 62 lo [.null] w Q ↔ Q (some .null) w := WP_ret rfl rfl
theorem wK_makeThing_62 : WP P 19 62 lo [.ref a] w Q ↔ Q (some (.ref a)) w := WP_ret rfl rfl
theorem wK_makeThing_63 : WP P 19 63 lo st w Q ↔ WP P 19 66 lo (.ref (x_sz w) :: st) (x_new w 2 16 (x_df 2)) Q := W_new rfl rfl rfl rfl rfl
theorem wK_makeThing_66 : WP P 19 66 lo (v1 :: r) w Q ↔ (x_cat1 v1 = true ∧ WP P 19 67 lo (v1 :: v1 :: r) w Q) := W_dup rfl rfl
theorem wK_makeThing_67 : WP P 19 67 lo st w Q ↔ x_gi lo[2]? (fun x => WP P 19 68 lo (.int x :: st) w Q) := W_iload_n rfl rfl rfl
theorem wK_makeThing_68 {u1 : Value} {b : Nat} (hr : r.length ≤ 8) (hc : ([u1] : List Value).all x_cat1 = true) (hc2 : r.all x_cat1 = true) (k : WP P 4 0 [some (.ref b), some u1] [] w (fun v w1 => WP P 19 71 lo (v.toList ++ r) w1 Q)) : WP P 19 68 lo (u1 :: .ref b :: r) w Q := K_init (as := [u1]) rfl rfl (by decide) rfl rfl (by decide) (by decide) rfl hr hc hc2 k
theorem wK_makeThing_71 : WP P 19 71 lo (.ref a :: r) w Q ↔ (4 < lo.length ∧ WP P 19 73 (lo.set 4 (some (.ref a))) r w Q) := W_astore rfl rfl
theorem wK_makeThing_71n : WP P 19 71 lo (.null :: r) w Q ↔ (4 < lo.length ∧ WP P 19 73 (lo.set 4 (some .null)) r w Q) := W_astoreN rfl rfl
theorem wK_makeThing_73 : WP P 19 73 lo st w Q ↔ x_ga lo[0]? (fun v => WP P 19 74 lo (v :: st) w Q) := W_aload_n rfl rfl rfl
theorem wK_makeThing_74 : WP P 19 74 lo (.ref a :: r) w Q ↔ (x_has w a [0] ∧ WP P 19 77 lo (x_fd w a 1 :: r) w Q) := W_get rfl rfl rfl
theorem wK_makeThing_77 : WP P 19 77 lo st w Q ↔ x_gi lo[2]? (fun x => WP P 19 78 lo (.int x :: st) w Q) := W_iload_n rfl rfl rfl
theorem wK_makeThing_78 : WP P 19 78 lo st w Q ↔ WP P 19 80 lo (.int (xi 8) :: st) w Q := W_bipush rfl rfl (by decide)
theorem wK_makeThing_80 : WP P 19 80 lo (.int y :: .int x :: r) w Q ↔ (¬ y = 0 ∧ WP P 19 81 lo (.int (x / y) :: r) w Q) := W_idiv rfl rfl
theorem wK_makeThing_81 : WP P 19 81 lo st w Q ↔ x_ga lo[4]? (fun v => WP P 19 83 lo (v :: st) w Q) := W_aload rfl rfl
theorem wK_makeThing_83n {t n : Nat} (h1 : x_tg w a = some (t, n)) (ht : 30 ≤ t) (h2 : ¬ x < 0) (h3 : x.toNatClampNeg < n) : WP P 19 83 lo (.null :: .int x :: .ref a :: r) w Q ↔ WP P 19 84 lo r (x_put w a x.toNatClampNeg .null) Q := W_aast_n rfl h1 ht h2 h3 rfl
theorem wK_makeThing_83 {b t n nb : Nat} (h1 : x_tg w a = some (30 + t, n)) (hv : x_tg w b = some (t, nb)) (ht : t < 20) (h2 : ¬ x < 0) (h3 : x.toNatClampNeg < n) : WP P 19 83 lo (.ref b :: .int x :: .ref a :: r) w Q ↔ WP P 19 84 lo r (x_put w a x.toNatClampNeg (.ref b)) Q := W_aast_r rfl h1 hv ht h2 h3 rfl
theorem wK_makeThing_84 : WP P 19 84 lo st w Q ↔ x_ga lo[4]? (fun v => WP P 19 86 lo (v :: st) w Q) := W_aload rfl rfl
theorem wK_makeThing_86n : WP P 19 86 lo [.null] w Q ↔ Q (some .null) w := WP_ret rfl rfl
theorem wK_makeThing_86 : WP P 19 86 lo [.ref a] w Q ↔ Q (some (.ref a)) w := WP_ret rfl rfl
theorem wK_makeThing_87 : WP P 19 87 lo st w Q ↔ WP P 19 90 lo (.ref (x_sz w) :: st) (x_new w 6 3 (x_df 6)) Q := W_new rfl rfl rfl rfl rfl
theorem wK_makeThing_90 : WP P 19 90 lo (v1 :: r) w Q ↔ (x_cat1 v1 = true ∧ WP P 19 91 lo (v1 :: v1 :: r) w Q) := W_dup rfl rfl
theorem wK_makeThing_91 : WP P 19 91 lo st w Q ↔ x_gi lo[2]? (fun x => WP P 19 92 lo (.int x :: st) w Q) := W_iload_n rfl rfl rfl
theorem wK_makeThing_92 {u1 : Value} {b : Nat} (hr : r.length ≤ 8) (hc : ([u1] : List Value).all x_cat1 = true) (hc2 : r.all x_cat1 = true) (k : WP P 20 0 [some (.ref b), some u1] [] w (fun v w1 => WP P 19 95 lo (v.toList ++ r) w1 Q)) : WP P 19 92 lo (u1 :: .ref b :: r) w Q := K_init (as := [u1]) rfl rfl (by decide) rfl rfl (by decide) (by decide) rfl hr hc hc2 k
theorem wK_makeThing_95n : WP P 19 95 lo [.null] w Q ↔ Q (some .null) w := WP_ret rfl rfl
theorem wK_makeThing_95 : WP P 19 95 lo [.ref a] w Q ↔ Q (some (.ref a)) w := WP_ret rfl rfl
theorem wK_makeThing_96 : WP P 19 96 lo st w Q ↔ WP P 19 99 lo (.ref (x_sz w) :: st) (x_new w 7 4 (x_df 7)) Q := W_new rfl rfl rfl rfl rfl
theorem wK_makeThing_99 : WP P 19 99 lo (v1 :: r) w Q ↔ (x_cat1 v1 = true ∧ WP P 19 100 lo (v1 :: v1 :: r) w Q) := W_dup rfl rfl
theorem wK_makeThing_100 : WP P 19 100 lo st w Q ↔ x_gi lo[2]? (fun x => WP P 19 101 lo (.int x :: st) w Q) := W_iload_n rfl rfl rfl
theorem wK_makeThing_101 {u1 : Value} {b : Nat} (hr : r.length ≤ 8) (hc : ([u1] : List Value).all x_cat1 = true) (hc2 : r.all x_cat1 = true) (k : WP P 21 0 [some (.ref b), some u1] [] w (fun v w1 => WP P 19 104 lo (v.toList ++ r) w1 Q)) : WP P 19 101 lo (u1 :: .ref b :: r) w Q := K_init (as := [u1]) rfl rfl (by decide) rfl rfl (by decide) (by decide) rfl hr hc hc2 k
theorem wK_makeThing_104n : WP P 19 104 lo [.null] w Q ↔ Q (some .null) w := WP_ret rfl rfl
theorem wK_makeThing_104 : WP P 19 104 lo [.ref a] w Q ↔ Q (some (.ref a)) w := WP_ret rfl rfl
theorem wK_makeThing_105 : WP P 19 105 lo st w Q ↔ WP P 19 108 lo (.ref (x_sz w) :: st) (x_new w 8 3 (x_df 8)) Q := W_new rfl rfl rfl rfl rfl
theorem wK_makeThing_108 : WP P 19 108 lo (v1 :: r) w Q ↔ (x_cat1 v1 = true ∧ WP P 19 109 lo (v1 :: v1 :: r) w Q) := W_dup rfl rfl
theorem wK_makeThing_109 : WP P 19 109 lo st w Q ↔ x_gi lo[2]? (fun x => WP P 19 110 lo (.int x :: st) w Q) := W_iload_n rfl rfl rfl
theorem wK_makeThing_110 {u1 : Value} {b : Nat} (hr : r.length ≤ 8) (hc : ([u1] : List Value).all x_cat1 = true) (hc2 : r.all x_cat1 = true) (k : WP P 22 0 [some (.ref b), some u1] [] w (fun v w1 => WP P 19 113 lo (v.toList ++ r) w1 Q)) : WP P 19 110 lo (u1 :: .ref b :: r) w Q := K_init (as := [u1]) rfl rfl (by decide) rfl rfl (by decide) (by decide) rfl hr hc hc2 k
theorem wK_makeThing_113n : WP P 19 113 lo [.null] w Q ↔ Q (some .null) w := WP_ret rfl rfl
theorem wK_makeThing_113 : WP P 19 113 lo [.ref a] w Q ↔ Q (some (.ref a)) w := WP_ret rfl rfl
theorem wK_makeThing_114 : WP P 19 114 lo st w Q ↔ WP P 19 117 lo (.ref (x_sz w) :: st) (x_new w 9 5 (x_df 9)) Q := W_new rfl rfl rfl rfl rfl
theorem wK_makeThing_117 : WP P 19 117 lo (v1 :: r) w Q ↔ (x_cat1 v1 = true ∧ WP P 19 118 lo (v1 :: v1 :: r) w Q) := W_dup rfl rfl
theorem wK_makeThing_118 : WP P 19 118 lo st w Q ↔ x_gi lo[2]? (fun x => WP P 19 119 lo (.int x :: st) w Q) := W_iload_n rfl rfl rfl
theorem wK_makeThing_119 {u1 : Value} {b : Nat} (hr : r.length ≤ 8) (hc : ([u1] : List Value).all x_cat1 = true) (hc2 : r.all x_cat1 = true) (k : WP P 23 0 [some (.ref b), some u1] [] w (fun v w1 => WP P 19 122 lo (v.toList ++ r) w1 Q)) : WP P 19 119 lo (u1 :: .ref b :: r) w Q := K_init (as := [u1]) rfl rfl (by decide) rfl rfl (by decide) (by decide) rfl hr hc hc2 k
theorem wK_makeThing_122n : WP P 19 122 lo [.null] w Q ↔ Q (some .null) w := WP_ret rfl rfl
theorem wK_makeThing_122 : WP P 19 122 lo [.ref a] w Q ↔ Q (some (.ref a)) w := WP_ret rfl rfl
theorem wK_makeThing_123 : WP P 19 123 lo st w Q ↔ WP P 19 126 lo (.ref (x_sz w) :: st) (x_new w 10 2 (x_df 10)) Q := W_new rfl rfl rfl rfl rfl
theorem wK_makeThing_126 : WP P 19 126 lo (v1 :: r) w Q ↔ (x_cat1 v1 = true ∧ WP P 19 127 lo (v1 :: v1 :: r) w Q) := W_dup rfl rfl
theorem wK_makeThing_127 : WP P 19 127 lo st w Q ↔ x_gi lo[2]? (fun x => WP P 19 128 lo (.int x :: st) w Q) := W_iload_n rfl rfl rfl
theorem wK_makeThing_128 {u1 : Value} {b : Nat} (hr : r.length ≤ 8) (hc : ([u1] : List Value).all x_cat1 = true) (hc2 : r.all x_cat1 = true) (k : WP P 24 0 [some (.ref b), some u1] [] w (fun v w1 => WP P 19 131 lo (v.toList ++ r) w1 Q)) : WP P 19 128 lo (u1 :: .ref b :: r) w Q := K_init (as := [u1]) rfl rfl (by decide) rfl rfl (by decide) (by decide) rfl hr hc hc2 k
theorem wK_makeThing_131n : WP P 19 131 lo [.null] w Q ↔ Q (some .null) w := WP_ret rfl rfl
theorem wK_makeThing_131 : WP P 19 131 lo [.ref a] w Q ↔ Q (some (.ref a)) w := WP_ret rfl rfl
-- 20 Gat_init
theorem wGat_init_0 : WP P 20 0 lo st w Q ↔ x_ga lo[0]? (fun v => WP P 20 1 lo (v :: st) w Q) := W_aload_n rfl rfl rfl
theorem wGat_init_1 : WP P 20 1 lo st w Q ↔ WP P 20 2 lo (.int (xi 3) :: st) w Q := W_iconst rfl rfl rfl
theorem wGat_init_2 : WP P 20 2 lo st w Q ↔ x_gi lo[1]? (fun x => WP P 20 3 lo (.int x :: st) w Q) := W_iload_n rfl rfl rfl
theorem wGat_init_3 {u1 u2 : Value} {b : Nat} (hr : r.length ≤ 8) (hc : ([u1, u2] : List Value).all x_cat1 = true) (hc2 : r.all x_cat1 = true) (k : WP P 3 0 [some (.ref b), some u1, some u2] [] w (fun v w1 => WP P 20 6 lo (v.toList ++ r) w1 Q)) : WP P 20 3 lo (u2 :: u1 :: .ref b :: r) w Q := K_init (as := [u1, u2]) rfl rfl (by decide) rfl rfl (by decide) (by decide) rfl hr hc hc2 k
theorem wGat_init_6 : WP P 20 6 lo st w Q ↔ x_ga lo[0]? (fun v => WP P 20 7 lo (v :: st) w Q) := W_aload_n rfl rfl rfl
theorem wGat_init_7 : WP P 20 7 lo st w Q ↔ WP P 20 10 lo (.ref (x_sz w) :: st) (x_new w 3 2 (x_df 3)) Q := W_new rfl rfl rfl rfl rfl
theorem wGat_init_10 : WP P 20 10 lo (v1 :: r) w Q ↔ (x_cat1 v1 = true ∧ WP P 20 11 lo (v1 :: v1 :: r) w Q) := W_dup rfl rfl
theorem wGat_init_11 {b : Nat} (hr : r.length ≤ 8) (hc : ([] : List Value).all x_cat1 = true) (hc2 : r.all x_cat1 = true) (k : WP P 1 0 [some (.ref b)] [] w (fun v w1 => WP P 20 14 lo (v.toList ++ r) w1 Q)) : WP P 20 11 lo (.ref b :: r) w Q := K_init (as := []) rfl rfl (by decide) rfl rfl (by decide) (by decide) rfl hr hc hc2 k
theorem wGat_init_14 : WP P 20 14 lo (v1 :: .ref a :: r) w Q ↔ ((x_has w a [6] ∧ x_fit 2 v1 = true) ∧ WP P 20 17 lo r (x_put w a 2 v1) Q) := W_put rfl rfl (by decide) rfl
theorem wGat_init_17 : WP P 20 17 lo [] w Q ↔ Q none w := WP_ret rfl rfl
-- 21 Bel_init
theorem wBel_init_0 : WP P 21 0 lo st w Q ↔ x_ga lo[0]? (fun v => WP P 21 1 lo (v :: st) w Q) := W_aload_n rfl rfl rfl
theorem wBel_init_1 : WP P 21 1 lo st w Q ↔ WP P 21 2 lo (.int (xi 4) :: st) w Q := W_iconst rfl rfl rfl
theorem wBel_init_2 : WP P 21 2 lo st w Q ↔ x_gi lo[1]? (fun x => WP P 21 3 lo (.int x :: st) w Q) := W_iload_n rfl rfl rfl
theorem wBel_init_3 {u1 u2 : Value} {b : Nat} (hr : r.length ≤ 8) (hc : ([u1, u2] : List Value).all x_cat1 = true) (hc2 : r.all x_cat1 = true) (k : WP P 3 0 [some (.ref b), some u1, some u2] [] w (fun v w1 => WP P 21 6 lo (v.toList ++ r) w1 Q)) : WP P 21 3 lo (u2 :: u1 :: .ref b :: r) w Q := K_init (as := [u1, u2]) rfl rfl (by decide) rfl rfl (by decide) (by decide) rfl hr hc hc2 k
theorem wBel_init_6 : WP P 21 6 lo st w Q ↔ x_ga lo[0]? (fun v => WP P 21 7 lo (v :: st) w Q) := W_aload_n rfl rfl rfl
theorem wBel_init_7 : WP P 21 7 lo st w Q ↔ WP P 21 10 lo (.ref (x_sz w) :: st) (x_new w 3 2 (x_df 3)) Q := W_new rfl rfl rfl rfl rfl
theorem wBel_init_10 : WP P 21 10 lo (v1 :: r) w Q ↔ (x_cat1 v1 = true ∧ WP P 21 11 lo (v1 :: v1 :: r) w Q) := W_dup rfl rfl
theorem wBel_init_11 {b : Nat} (hr : r.length ≤ 8) (hc : ([] : List Value).all x_cat1 = true) (hc2 : r.all x_cat1 = true) (k : WP P 1 0 [some (.ref b)] [] w (fun v w1 => WP P 21 14 lo (v.toList ++ r) w1 Q)) : WP P 21 11 lo (.ref b :: r) w Q := K_init (as := []) rfl rfl (by decide) rfl rfl (by decide) (by decide) rfl hr hc hc2 k
theorem wBel_init_14 : WP P 21 14 lo (v1 :: .ref a :: r) w Q ↔ ((x_has w a [7] ∧ x_fit 2 v1 = true) ∧ WP P 21 17 lo r (x_put w a 2 v1) Q) := W_put rfl rfl (by decide) rfl
theorem wBel_init_17 : WP P 21 17 lo [] w Q ↔ Q none w := WP_ret rfl rfl
-- 22 Spa_init
theorem wSpa_init_0 : WP P 22 0 lo st w Q ↔ x_ga lo[0]? (fun v => WP P 22 1 lo (v :: st) w Q) := W_aload_n rfl rfl rfl
theorem wSpa_init_1 : WP P 22 1 lo st w Q ↔ WP P 22 2 lo (.int (xi 5) :: st) w Q := W_iconst rfl rfl rfl
theorem wSpa_init_2 : WP P 22 2 lo st w Q ↔ x_gi lo[1]? (fun x => WP P 22 3 lo (.int x :: st) w Q) := W_iload_n rfl rfl rfl
theorem wSpa_init_3 {u1 u2 : Value} {b : Nat} (hr : r.length ≤ 8) (hc : ([u1, u2] : List Value).all x_cat1 = true) (hc2 : r.all x_cat1 = true) (k : WP P 3 0 [some (.ref b), some u1, some u2] [] w (fun v w1 => WP P 22 6 lo (v.toList ++ r) w1 Q)) : WP P 22 3 lo (u2 :: u1 :: .ref b :: r) w Q := K_init (as := [u1, u2]) rfl rfl (by decide) rfl rfl (by decide) (by decide) rfl hr hc hc2 k
theorem wSpa_init_6 : WP P 22 6 lo st w Q ↔ x_ga lo[0]? (fun v => WP P 22 7 lo (v :: st) w Q) := W_aload_n rfl rfl rfl
theorem wSpa_init_7 : WP P 22 7 lo st w Q ↔ WP P 22 8 lo (.int (xi 4) :: st) w Q := W_iconst rfl rfl rfl
theorem wSpa_init_8 (h0 : 0 ≤ z) (h1 : z ≤ 1000) : WP P 22 8 lo (.int (xi z) :: r) w Q ↔ WP P 22 11 lo (.ref (x_sz w) :: r) (x_new w (30 + 9) z.toNat (fun _ => .null)) Q := W_newr rfl rfl h0 h1 rfl
theorem wSpa_init_11 : WP P 22 11 lo (v1 :: .ref a :: r) w Q ↔ ((x_has w a [8] ∧ x_fit 2 v1 = true) ∧ WP P 22 14 lo r (x_put w a 2 v1) Q) := W_put rfl rfl (by decide) rfl
theorem wSpa_init_14 : WP P 22 14 lo [] w Q ↔ Q none w := WP_ret rfl rfl
-- 23 Lea_init
theorem wLea_init_0 : WP P 23 0 lo st w Q ↔ x_ga lo[0]? (fun v => WP P 23 1 lo (v :: st) w Q) := W_aload_n rfl rfl rfl
theorem wLea_init_1 : WP P 23 1 lo st w Q ↔ WP P 23 3 lo (.int (xi 6) :: st) w Q := W_bipush rfl rfl (by decide)
theorem wLea_init_3 : WP P 23 3 lo st w Q ↔ x_gi lo[1]? (fun x => WP P 23 4 lo (.int x :: st) w Q) := W_iload_n rfl rfl rfl
theorem wLea_init_4 {u1 u2 : Value} {b : Nat} (hr : r.length ≤ 8) (hc : ([u1, u2] : List Value).all x_cat1 = true) (hc2 : r.all x_cat1 = true) (k : WP P 3 0 [some (.ref b), some u1, some u2] [] w (fun v w1 => WP P 23 7 lo (v.toList ++ r) w1 Q)) : WP P 23 4 lo (u2 :: u1 :: .ref b :: r) w Q := K_init (as := [u1, u2]) rfl rfl (by decide) rfl rfl (by decide) (by decide) rfl hr hc hc2 k
theorem wLea_init_7 : WP P 23 7 lo st w Q ↔ x_ga lo[0]? (fun v => WP P 23 8 lo (v :: st) w Q) := W_aload_n rfl rfl rfl
theorem wLea_init_8 : WP P 23 8 lo st w Q ↔ WP P 23 9 lo (.int (xi 4) :: st) w Q := W_iconst rfl rfl rfl
theorem wLea_init_9 (h0 : 0 ≤ z) (h1 : z ≤ 1000) : WP P 23 9 lo (.int (xi z) :: r) w Q ↔ WP P 23 12 lo (.ref (x_sz w) :: r) (x_new w (30 + 1) z.toNat (fun _ => .null)) Q := W_newr rfl rfl h0 h1 rfl
theorem wLea_init_12 : WP P 23 12 lo (v1 :: .ref a :: r) w Q ↔ ((x_has w a [9] ∧ x_fit 2 v1 = true) ∧ WP P 23 15 lo r (x_put w a 4 v1) Q) := W_put rfl rfl (by decide) rfl
theorem wLea_init_15 : WP P 23 15 lo [] w Q ↔ Q none w := WP_ret rfl rfl
-- 24 Fra_init
theorem wFra_init_0 : WP P 24 0 lo st w Q ↔ x_ga lo[0]? (fun v => WP P 24 1 lo (v :: st) w Q) := W_aload_n rfl rfl rfl
theorem wFra_init_1 : WP P 24 1 lo st w Q ↔ WP P 24 3 lo (.int (xi 7) :: st) w Q := W_bipush rfl rfl (by decide)
theorem wFra_init_3 : WP P 24 3 lo st w Q ↔ x_gi lo[1]? (fun x => WP P 24 4 lo (.int x :: st) w Q) := W_iload_n rfl rfl rfl
theorem wFra_init_4 {u1 u2 : Value} {b : Nat} (hr : r.length ≤ 8) (hc : ([u1, u2] : List Value).all x_cat1 = true) (hc2 : r.all x_cat1 = true) (k : WP P 3 0 [some (.ref b), some u1, some u2] [] w (fun v w1 => WP P 24 7 lo (v.toList ++ r) w1 Q)) : WP P 24 4 lo (u2 :: u1 :: .ref b :: r) w Q := K_init (as := [u1, u2]) rfl rfl (by decide) rfl rfl (by decide) (by decide) rfl hr hc hc2 k
theorem wFra_init_7 : WP P 24 7 lo [] w Q ↔ Q none w := WP_ret rfl rfl
-- 25 K_copy
theorem wK_copy_0 : WP P 25 0 lo st w Q ↔ x_ga lo[0]? (fun v => WP P 25 1 lo (v :: st) w Q) := W_aload_n rfl rfl rfl
theorem wK_copy_1 {b nb : Nat} (hb : x_tg w b = some (0, nb)) (hr : r.length ≤ 8) (hc : ([] : List Value).all x_cat1 = true) (hc2 : r.all x_cat1 = true) (k : WP P 12 0 [some (.ref b), none] [] w (fun v w1 => WP P 25 4 lo (v.toList ++ r) w1 Q)) : WP P 25 1 lo (.ref b :: r) w Q := K_virt (as := []) rfl rfl rfl rfl (by decide) (by decide) rfl hb hr hc hc2 k
theorem wK_copy_4 : WP P 25 4 lo (.ref a :: r) w Q ↔ (5 < lo.length ∧ WP P 25 6 (lo.set 5 (some (.ref a))) r w Q) := W_astore rfl rfl
theorem wK_copy_4n : WP P 25 4 lo (.null :: r) w Q ↔ (5 < lo.length ∧ WP P 25 6 (lo.set 5 (some .null)) r w Q) := W_astoreN rfl rfl
theorem wK_copy_6 : WP P 25 6 lo st w Q ↔ x_ga lo[5]? (fun v => WP P 25 8 lo (v :: st) w Q) := W_aload rfl rfl
theorem wK_copy_8n : WP P 25 8 lo (.null :: r) w Q ↔ WP P 25 11 lo r w Q := W_ifnn_n rfl rfl rfl
theorem wK_copy_8 : WP P 25 8 lo (.ref a :: r) w Q ↔ WP P 25 14 lo r w Q := W_ifnn_r rfl rfl
theorem wK_copy_11 : WP P 25 11 lo st w Q ↔ WP P 25 13 lo (.int (xi 8) :: st) w Q := W_bipush rfl rfl (by decide)
theorem wK_copy_13 : WP P 25 13 lo [.int x] w Q ↔ Q (some (.int x)) w := WP_ret rfl rfl
theorem wK_copy_14 : WP P 25 14 lo st w Q ↔ x_ga lo[0]? (fun v => WP P 25 15 lo (v :: st) w Q) := W_aload_n rfl rfl rfl
theorem wK_copy_15 : WP P 25 15 lo st w Q ↔ x_ga lo[5]? (fun v => WP P 25 17 lo (v :: st) w Q) := W_aload rfl rfl
theorem wK_copy_17 : WP P 25 17 lo st w Q ↔ x_gi lo[1]? (fun x => WP P 25 18 lo (.int x :: st) w Q) := W_iload_n rfl rfl rfl
theorem wK_copy_18 {u1 u2 : Value} {b nb : Nat} (hb : x_tg w b = some (0, nb)) (hr : r.length ≤ 8) (hc : ([u1, u2] : List Value).all x_cat1 = true) (hc2 : r.all x_cat1 = true) (k : WP P 13 0 [some (.ref b), some u1, some u2, none] [] w (fun v w1 => WP P 25 21 lo (v.toList ++ r) w1 Q)) : WP P 25 18 lo (u2 :: u1 :: .ref b :: r) w Q := K_virt (as := [u1, u2]) rfl rfl rfl rfl (by decide) (by decide) rfl hb hr hc hc2 k
theorem wK_copy_21 : WP P 25 21 lo (.ref a :: r) w Q ↔ (6 < lo.length ∧ WP P 25 23 (lo.set 6 (some (.ref a))) r w Q) := W_astore rfl rfl
theorem wK_copy_21n : WP P 25 21 lo (.null :: r) w Q ↔ (6 < lo.length ∧ WP P 25 23 (lo.set 6 (some .null)) r w Q) := W_astoreN rfl rfl
theorem wK_copy_23 : WP P 25 23 lo st w Q ↔ x_ga lo[6]? (fun v => WP P 25 25 lo (v :: st) w Q) := W_aload rfl rfl
theorem wK_copy_25n : WP P 25 25 lo (.null :: r) w Q ↔ WP P 25 28 lo r w Q := W_ifnn_n rfl rfl rfl
theorem wK_copy_25 : WP P 25 25 lo (.ref a :: r) w Q ↔ WP P 25 30 lo r w Q := W_ifnn_r rfl rfl
theorem wK_copy_28 : WP P 25 28 lo st w Q ↔ WP P 25 29 lo (.int (xi 1) :: st) w Q := W_iconst rfl rfl rfl
theorem wK_copy_29 : WP P 25 29 lo [.int x] w Q ↔ Q (some (.int x)) w := WP_ret rfl rfl
theorem wK_copy_30 : WP P 25 30 lo st w Q ↔ x_ga lo[6]? (fun v => WP P 25 32 lo (v :: st) w Q) := W_aload rfl rfl
theorem wK_copy_32 : WP P 25 32 lo (.ref a :: r) w Q ↔ (x_has w a [1] ∧ WP P 25 35 lo (x_fd w a 0 :: r) w Q) := W_get rfl rfl rfl
theorem wK_copy_35 : WP P 25 35 lo (.ref a :: r) w Q ↔ (x_has w a [2, 4, 5, 6, 7, 8, 9, 10] ∧ WP P 25 38 lo (x_fd w a 0 :: r) w Q) := W_get rfl rfl rfl
theorem wK_copy_38 : WP P 25 38 lo (.int x :: r) w Q ↔ (if x = xi 0 then WP P 25 41 lo r w Q else WP P 25 43 lo r w Q) := W_if_ne rfl rfl rfl
theorem wK_copy_41 : WP P 25 41 lo st w Q ↔ WP P 25 42 lo (.int (xi 2) :: st) w Q := W_iconst rfl rfl rfl
theorem wK_copy_42 : WP P 25 42 lo [.int x] w Q ↔ Q (some (.int x)) w := WP_ret rfl rfl
theorem wK_copy_43 : WP P 25 43 lo st w Q ↔ x_gi lo[3]? (fun x => WP P 25 44 lo (.int x :: st) w Q) := W_iload_n rfl rfl rfl
theorem wK_copy_44 : WP P 25 44 lo (.int x :: r) w Q ↔ (if x < xi 0 then WP P 25 66 lo r w Q else WP P 25 47 lo r w Q) := W_if_lt rfl rfl rfl
theorem wK_copy_47 : WP P 25 47 lo st w Q ↔ x_gi lo[3]? (fun x => WP P 25 48 lo (.int x :: st) w Q) := W_iload_n rfl rfl rfl
theorem wK_copy_48 : WP P 25 48 lo st w Q ↔ WP P 25 50 lo (.int (xi 7) :: st) w Q := W_bipush rfl rfl (by decide)
theorem wK_copy_50 : WP P 25 50 lo (.int y :: .int x :: r) w Q ↔ (if y < x then WP P 25 66 lo r w Q else WP P 25 53 lo r w Q) := W_ic_gt rfl rfl rfl
theorem wK_copy_53 : WP P 25 53 lo st w Q ↔ x_gi lo[4]? (fun x => WP P 25 55 lo (.int x :: st) w Q) := W_iload rfl rfl
theorem wK_copy_55 : WP P 25 55 lo (.int x :: r) w Q ↔ (if x < xi 0 then WP P 25 66 lo r w Q else WP P 25 58 lo r w Q) := W_if_lt rfl rfl rfl
theorem wK_copy_58 : WP P 25 58 lo st w Q ↔ x_gi lo[4]? (fun x => WP P 25 60 lo (.int x :: st) w Q) := W_iload rfl rfl
theorem wK_copy_60 : WP P 25 60 lo st w Q ↔ WP P 25 63 lo (.int (xi 255) :: st) w Q := W_sipush rfl rfl (by decide)
theorem wK_copy_63 : WP P 25 63 lo (.int y :: .int x :: r) w Q ↔ (if y < x then WP P 25 66 lo r w Q else WP P 25 68 lo r w Q) := W_ic_le rfl rfl rfl
theorem wK_copy_66 : WP P 25 66 lo st w Q ↔ WP P 25 67 lo (.int (xi 4) :: st) w Q := W_iconst rfl rfl rfl
theorem wK_copy_67 : WP P 25 67 lo [.int x] w Q ↔ Q (some (.int x)) w := WP_ret rfl rfl
theorem wK_copy_68 : WP P 25 68 lo st w Q ↔ x_ga lo[0]? (fun v => WP P 25 69 lo (v :: st) w Q) := W_aload_n rfl rfl rfl
theorem wK_copy_69 : WP P 25 69 lo st w Q ↔ x_ga lo[5]? (fun v => WP P 25 71 lo (v :: st) w Q) := W_aload rfl rfl
theorem wK_copy_71 : WP P 25 71 lo st w Q ↔ x_gi lo[2]? (fun x => WP P 25 72 lo (.int x :: st) w Q) := W_iload_n rfl rfl rfl
theorem wK_copy_72 {u1 u2 : Value} {b nb : Nat} (hb : x_tg w b = some (0, nb)) (hr : r.length ≤ 8) (hc : ([u1, u2] : List Value).all x_cat1 = true) (hc2 : r.all x_cat1 = true) (k : WP P 14 0 [some (.ref b), some u1, some u2, none] [] w (fun v w1 => WP P 25 75 lo (v.toList ++ r) w1 Q)) : WP P 25 72 lo (u2 :: u1 :: .ref b :: r) w Q := K_virt (as := [u1, u2]) rfl rfl rfl rfl (by decide) (by decide) rfl hb hr hc hc2 k
theorem wK_copy_75 : WP P 25 75 lo (.int x :: r) w Q ↔ (7 < lo.length ∧ WP P 25 77 (lo.set 7 (some (.int x))) r w Q) := W_istore rfl rfl
theorem wK_copy_77 : WP P 25 77 lo st w Q ↔ x_ga lo[0]? (fun v => WP P 25 78 lo (v :: st) w Q) := W_aload_n rfl rfl rfl
theorem wK_copy_78 : WP P 25 78 lo st w Q ↔ x_gi lo[7]? (fun x => WP P 25 80 lo (.int x :: st) w Q) := W_iload rfl rfl
theorem wK_copy_80 {u1 : Value} {b nb : Nat} (hb : x_tg w b = some (0, nb)) (hr : r.length ≤ 8) (hc : ([u1] : List Value).all x_cat1 = true) (hc2 : r.all x_cat1 = true) (k : WP P 15 0 [some (.ref b), some u1] [] w (fun v w1 => WP P 25 83 lo (v.toList ++ r) w1 Q)) : WP P 25 80 lo (u1 :: .ref b :: r) w Q := K_virt (as := [u1]) rfl rfl rfl rfl (by decide) (by decide) rfl hb hr hc hc2 k
theorem wK_copy_83 : WP P 25 83 lo (.int x :: r) w Q ↔ (if x = xi 0 then WP P 25 86 lo r w Q else WP P 25 88 lo r w Q) := W_if_ne rfl rfl rfl
theorem wK_copy_86 : WP P 25 86 lo st w Q ↔ WP P 25 87 lo (.int (xi 3) :: st) w Q := W_iconst rfl rfl rfl
theorem wK_copy_87 : WP P 25 87 lo [.int x] w Q ↔ Q (some (.int x)) w := WP_ret rfl rfl
theorem wK_copy_88 : WP P 25 88 lo st w Q ↔ x_ga lo[6]? (fun v => WP P 25 90 lo (v :: st) w Q) := W_aload rfl rfl
theorem wK_copy_90 : WP P 25 90 lo (.ref a :: r) w Q ↔ (x_has w a [1] ∧ WP P 25 93 lo (x_fd w a 0 :: r) w Q) := W_get rfl rfl rfl
theorem wK_copy_93 : WP P 25 93 lo (.ref a :: r) w Q ↔ (x_has w a [2, 4, 5, 6, 7, 8, 9, 10] ∧ WP P 25 96 lo (x_fd w a 0 :: r) w Q) := W_get rfl rfl rfl
theorem wK_copy_96 : WP P 25 96 lo (.int x :: r) w Q ↔ (8 < lo.length ∧ WP P 25 98 (lo.set 8 (some (.int x))) r w Q) := W_istore rfl rfl
theorem wK_copy_98 : WP P 25 98 lo st w Q ↔ x_ga lo[6]? (fun v => WP P 25 100 lo (v :: st) w Q) := W_aload rfl rfl
theorem wK_copy_100 : WP P 25 100 lo (.ref a :: r) w Q ↔ (x_has w a [1] ∧ WP P 25 103 lo (x_fd w a 2 :: r) w Q) := W_get rfl rfl rfl
theorem wK_copy_103 : WP P 25 103 lo (.int x :: r) w Q ↔ (if x = xi 0 then WP P 25 106 lo r w Q else WP P 25 122 lo r w Q) := W_if_ne rfl rfl rfl
theorem wK_copy_106 : WP P 25 106 lo st w Q ↔ x_gi lo[8]? (fun x => WP P 25 108 lo (.int x :: st) w Q) := W_iload rfl rfl
theorem wK_copy_108 : WP P 25 108 lo st w Q ↔ WP P 25 109 lo (.int (xi 3) :: st) w Q := W_iconst rfl rfl rfl
theorem wK_copy_109 : WP P 25 109 lo (.int y :: .int x :: r) w Q ↔ (if x = y then WP P 25 118 lo r w Q else WP P 25 112 lo r w Q) := W_ic_eq rfl rfl rfl
theorem wK_copy_112 : WP P 25 112 lo st w Q ↔ x_gi lo[8]? (fun x => WP P 25 114 lo (.int x :: st) w Q) := W_iload rfl rfl
theorem wK_copy_114 : WP P 25 114 lo st w Q ↔ WP P 25 115 lo (.int (xi 4) :: st) w Q := W_iconst rfl rfl rfl
theorem wK_copy_115 : WP P 25 115 lo (.int y :: .int x :: r) w Q ↔ (if x = y then WP P 25 118 lo r w Q else WP P 25 122 lo r w Q) := W_ic_ne rfl rfl rfl
theorem wK_copy_118 : WP P 25 118 lo st w Q ↔ WP P 25 119 lo (.int (xi 1) :: st) w Q := W_iconst rfl rfl rfl
theorem wK_copy_119 : WP P 25 119 lo st w Q ↔ WP P 25 123 lo st w Q := W_goto rfl rfl
theorem wK_copy_122 : WP P 25 122 lo st w Q ↔ WP P 25 123 lo (.int (xi 0) :: st) w Q := W_iconst rfl rfl rfl
theorem wK_copy_123 : WP P 25 123 lo (.int x :: r) w Q ↔ (9 < lo.length ∧ WP P 25 125 (lo.set 9 (some (.int x))) r w Q) := W_istore rfl rfl
theorem wK_copy_125 : WP P 25 125 lo st w Q ↔ x_gi lo[9]? (fun x => WP P 25 127 lo (.int x :: st) w Q) := W_iload rfl rfl
theorem wK_copy_127 : WP P 25 127 lo (.int x :: r) w Q ↔ (if x = xi 0 then WP P 25 135 lo r w Q else WP P 25 130 lo r w Q) := W_if_eq rfl rfl rfl
theorem wK_copy_130 : WP P 25 130 lo st w Q ↔ x_gi lo[4]? (fun x => WP P 25 132 lo (.int x :: st) w Q) := W_iload rfl rfl
theorem wK_copy_132 : WP P 25 132 lo st w Q ↔ WP P 25 140 lo st w Q := W_goto rfl rfl
theorem wK_copy_135 : WP P 25 135 lo st w Q ↔ x_ga lo[6]? (fun v => WP P 25 137 lo (v :: st) w Q) := W_aload rfl rfl
theorem wK_copy_137 : WP P 25 137 lo (.ref a :: r) w Q ↔ (x_has w a [1] ∧ WP P 25 140 lo (x_fd w a 2 :: r) w Q) := W_get rfl rfl rfl
theorem wK_copy_140 : WP P 25 140 lo (.int x :: r) w Q ↔ (10 < lo.length ∧ WP P 25 142 (lo.set 10 (some (.int x))) r w Q) := W_istore rfl rfl
theorem wK_copy_142 : WP P 25 142 lo st w Q ↔ x_ga lo[0]? (fun v => WP P 25 143 lo (v :: st) w Q) := W_aload_n rfl rfl rfl
theorem wK_copy_143 : WP P 25 143 lo st w Q ↔ WP P 25 146 lo (.ref (x_sz w) :: st) (x_new w 1 8 (x_df 1)) Q := W_new rfl rfl rfl rfl rfl
theorem wK_copy_146 : WP P 25 146 lo (v1 :: r) w Q ↔ (x_cat1 v1 = true ∧ WP P 25 147 lo (v1 :: v1 :: r) w Q) := W_dup rfl rfl
theorem wK_copy_147 : WP P 25 147 lo st w Q ↔ x_ga lo[6]? (fun v => WP P 25 149 lo (v :: st) w Q) := W_aload rfl rfl
theorem wK_copy_149 : WP P 25 149 lo (.ref a :: r) w Q ↔ (x_has w a [1] ∧ WP P 25 152 lo (x_fd w a 0 :: r) w Q) := W_get rfl rfl rfl
theorem wK_copy_152 : WP P 25 152 lo st w Q ↔ x_ga lo[6]? (fun v => WP P 25 154 lo (v :: st) w Q) := W_aload rfl rfl
theorem wK_copy_154 : WP P 25 154 lo (.ref a :: r) w Q ↔ (x_has w a [1] ∧ WP P 25 157 lo (x_fd w a 1 :: r) w Q) := W_get rfl rfl rfl
theorem wK_copy_157 : WP P 25 157 lo st w Q ↔ x_gi lo[3]? (fun x => WP P 25 158 lo (.int x :: st) w Q) := W_iload_n rfl rfl rfl
theorem wK_copy_158 : WP P 25 158 lo (.int y :: .int x :: r) w Q ↔ WP P 25 159 lo (.int (x &&& y) :: r) w Q := W_iand rfl rfl
theorem wK_copy_159 : WP P 25 159 lo st w Q ↔ x_gi lo[10]? (fun x => WP P 25 161 lo (.int x :: st) w Q) := W_iload rfl rfl
theorem wK_copy_161 : WP P 25 161 lo st w Q ↔ x_ga lo[6]? (fun v => WP P 25 163 lo (v :: st) w Q) := W_aload rfl rfl
theorem wK_copy_163 {u1 u2 u3 u4 : Value} {b : Nat} (hr : r.length ≤ 8) (hc : ([u1, u2, u3, u4] : List Value).all x_cat1 = true) (hc2 : r.all x_cat1 = true) (k : WP P 8 0 [some (.ref b), some u1, some u2, some u3, some u4] [] w (fun v w1 => WP P 25 166 lo (v.toList ++ r) w1 Q)) : WP P 25 163 lo (u4 :: u3 :: u2 :: u1 :: .ref b :: r) w Q := K_init (as := [u1, u2, u3, u4]) rfl rfl (by decide) rfl rfl (by decide) (by decide) rfl hr hc hc2 k
theorem wK_copy_166 : WP P 25 166 lo st w Q ↔ x_gi lo[7]? (fun x => WP P 25 168 lo (.int x :: st) w Q) := W_iload rfl rfl
theorem wK_copy_168 {u1 u2 : Value} {b nb : Nat} (hb : x_tg w b = some (0, nb)) (hr : r.length ≤ 8) (hc : ([u1, u2] : List Value).all x_cat1 = true) (hc2 : r.all x_cat1 = true) (k : WP P 9 0 [some (.ref b), some u1, some u2] [] w (fun v w1 => WP P 25 171 lo (v.toList ++ r) w1 Q)) : WP P 25 168 lo (u2 :: u1 :: .ref b :: r) w Q := K_virt (as := [u1, u2]) rfl rfl rfl rfl (by decide) (by decide) rfl hb hr hc hc2 k
theorem wK_copy_171 : WP P 25 171 lo st w Q ↔ WP P 25 172 lo (.int (xi 0) :: st) w Q := W_iconst rfl rfl rfl
theorem wK_copy_172 : WP P 25 172 lo [.int x] w Q ↔ Q (some (.int x)) w := WP_ret rfl rfl
-- 26 K_move
theorem wK_move_0 : WP P 26 0 lo st w Q ↔ x_ga lo[0]? (fun v => WP P 26 1 lo (v :: st) w Q) := W_aload_n rfl rfl rfl
theorem wK_move_1 {b nb : Nat} (hb : x_tg w b = some (0, nb)) (hr : r.length ≤ 8) (hc : ([] : List Value).all x_cat1 = true) (hc2 : r.all x_cat1 = true) (k : WP P 12 0 [some (.ref b), none] [] w (fun v w1 => WP P 26 4 lo (v.toList ++ r) w1 Q)) : WP P 26 1 lo (.ref b :: r) w Q := K_virt (as := []) rfl rfl rfl rfl (by decide) (by decide) rfl hb hr hc hc2 k
theorem wK_move_4 : WP P 26 4 lo (.ref a :: r) w Q ↔ (3 < lo.length ∧ WP P 26 5 (lo.set 3 (some (.ref a))) r w Q) := W_astore_n rfl rfl rfl
theorem wK_move_4n : WP P 26 4 lo (.null :: r) w Q ↔ (3 < lo.length ∧ WP P 26 5 (lo.set 3 (some .null)) r w Q) := W_astore_nN rfl rfl rfl
theorem wK_move_5 : WP P 26 5 lo st w Q ↔ x_ga lo[3]? (fun v => WP P 26 6 lo (v :: st) w Q) := W_aload_n rfl rfl rfl
theorem wK_move_6n : WP P 26 6 lo (.null :: r) w Q ↔ WP P 26 9 lo r w Q := W_ifnn_n rfl rfl rfl
theorem wK_move_6 : WP P 26 6 lo (.ref a :: r) w Q ↔ WP P 26 12 lo r w Q := W_ifnn_r rfl rfl
theorem wK_move_9 : WP P 26 9 lo st w Q ↔ WP P 26 11 lo (.int (xi 8) :: st) w Q := W_bipush rfl rfl (by decide)
theorem wK_move_11 : WP P 26 11 lo [.int x] w Q ↔ Q (some (.int x)) w := WP_ret rfl rfl
theorem wK_move_12 : WP P 26 12 lo st w Q ↔ x_ga lo[0]? (fun v => WP P 26 13 lo (v :: st) w Q) := W_aload_n rfl rfl rfl
theorem wK_move_13 : WP P 26 13 lo st w Q ↔ x_ga lo[3]? (fun v => WP P 26 14 lo (v :: st) w Q) := W_aload_n rfl rfl rfl
theorem wK_move_14 : WP P 26 14 lo st w Q ↔ x_gi lo[1]? (fun x => WP P 26 15 lo (.int x :: st) w Q) := W_iload_n rfl rfl rfl
theorem wK_move_15 {u1 u2 : Value} {b nb : Nat} (hb : x_tg w b = some (0, nb)) (hr : r.length ≤ 8) (hc : ([u1, u2] : List Value).all x_cat1 = true) (hc2 : r.all x_cat1 = true) (k : WP P 13 0 [some (.ref b), some u1, some u2, none] [] w (fun v w1 => WP P 26 18 lo (v.toList ++ r) w1 Q)) : WP P 26 15 lo (u2 :: u1 :: .ref b :: r) w Q := K_virt (as := [u1, u2]) rfl rfl rfl rfl (by decide) (by decide) rfl hb hr hc hc2 k
theorem wK_move_18 : WP P 26 18 lo (.ref a :: r) w Q ↔ (4 < lo.length ∧ WP P 26 20 (lo.set 4 (some (.ref a))) r w Q) := W_astore rfl rfl
theorem wK_move_18n : WP P 26 18 lo (.null :: r) w Q ↔ (4 < lo.length ∧ WP P 26 20 (lo.set 4 (some .null)) r w Q) := W_astoreN rfl rfl
theorem wK_move_20 : WP P 26 20 lo st w Q ↔ x_ga lo[4]? (fun v => WP P 26 22 lo (v :: st) w Q) := W_aload rfl rfl
theorem wK_move_22n : WP P 26 22 lo (.null :: r) w Q ↔ WP P 26 25 lo r w Q := W_ifnn_n rfl rfl rfl
theorem wK_move_22 : WP P 26 22 lo (.ref a :: r) w Q ↔ WP P 26 27 lo r w Q := W_ifnn_r rfl rfl
theorem wK_move_25 : WP P 26 25 lo st w Q ↔ WP P 26 26 lo (.int (xi 1) :: st) w Q := W_iconst rfl rfl rfl
theorem wK_move_26 : WP P 26 26 lo [.int x] w Q ↔ Q (some (.int x)) w := WP_ret rfl rfl
theorem wK_move_27 : WP P 26 27 lo st w Q ↔ x_ga lo[0]? (fun v => WP P 26 28 lo (v :: st) w Q) := W_aload_n rfl rfl rfl
theorem wK_move_28 : WP P 26 28 lo st w Q ↔ x_ga lo[3]? (fun v => WP P 26 29 lo (v :: st) w Q) := W_aload_n rfl rfl rfl
theorem wK_move_29 : WP P 26 29 lo st w Q ↔ x_gi lo[2]? (fun x => WP P 26 30 lo (.int x :: st) w Q) := W_iload_n rfl rfl rfl
theorem wK_move_30 {u1 u2 : Value} {b nb : Nat} (hb : x_tg w b = some (0, nb)) (hr : r.length ≤ 8) (hc : ([u1, u2] : List Value).all x_cat1 = true) (hc2 : r.all x_cat1 = true) (k : WP P 14 0 [some (.ref b), some u1, some u2, none] [] w (fun v w1 => WP P 26 33 lo (v.toList ++ r) w1 Q)) : WP P 26 30 lo (u2 :: u1 :: .ref b :: r) w Q := K_virt (as := [u1, u2]) rfl rfl rfl rfl (by decide) (by decide) rfl hb hr hc hc2 k
theorem wK_move_33 : WP P 26 33 lo (.int x :: r) w Q ↔ (5 < lo.length ∧ WP P 26 35 (lo.set 5 (some (.int x))) r w Q) := W_istore rfl rfl
theorem wK_move_35 : WP P 26 35 lo st w Q ↔ x_ga lo[0]? (fun v => WP P 26 36 lo (v :: st) w Q) := W_aload_n rfl rfl rfl
theorem wK_move_36 : WP P 26 36 lo st w Q ↔ x_gi lo[5]? (fun x => WP P 26 38 lo (.int x :: st) w Q) := W_iload rfl rfl
theorem wK_move_38 {u1 : Value} {b nb : Nat} (hb : x_tg w b = some (0, nb)) (hr : r.length ≤ 8) (hc : ([u1] : List Value).all x_cat1 = true) (hc2 : r.all x_cat1 = true) (k : WP P 15 0 [some (.ref b), some u1] [] w (fun v w1 => WP P 26 41 lo (v.toList ++ r) w1 Q)) : WP P 26 38 lo (u1 :: .ref b :: r) w Q := K_virt (as := [u1]) rfl rfl rfl rfl (by decide) (by decide) rfl hb hr hc hc2 k
theorem wK_move_41 : WP P 26 41 lo (.int x :: r) w Q ↔ (if x = xi 0 then WP P 26 44 lo r w Q else WP P 26 46 lo r w Q) := W_if_ne rfl rfl rfl
theorem wK_move_44 : WP P 26 44 lo st w Q ↔ WP P 26 45 lo (.int (xi 3) :: st) w Q := W_iconst rfl rfl rfl
theorem wK_move_45 : WP P 26 45 lo [.int x] w Q ↔ Q (some (.int x)) w := WP_ret rfl rfl
theorem wK_move_46 : WP P 26 46 lo st w Q ↔ x_ga lo[0]? (fun v => WP P 26 47 lo (v :: st) w Q) := W_aload_n rfl rfl rfl
theorem wK_move_47 : WP P 26 47 lo (.ref a :: r) w Q ↔ (x_has w a [0] ∧ WP P 26 50 lo (x_fd w a 0 :: r) w Q) := W_get rfl rfl rfl
theorem wK_move_50 : WP P 26 50 lo st w Q ↔ x_ga lo[4]? (fun v => WP P 26 52 lo (v :: st) w Q) := W_aload rfl rfl
theorem wK_move_52 : WP P 26 52 lo (.ref a :: r) w Q ↔ (x_has w a [1] ∧ WP P 26 55 lo (x_fd w a 4 :: r) w Q) := W_get rfl rfl rfl
theorem wK_move_55 : WP P 26 55 lo st w Q ↔ WP P 26 56 lo (.null :: st) w Q := W_null rfl rfl
theorem wK_move_56n {t n : Nat} (h1 : x_tg w a = some (t, n)) (ht : 30 ≤ t) (h2 : ¬ x < 0) (h3 : x.toNatClampNeg < n) : WP P 26 56 lo (.null :: .int x :: .ref a :: r) w Q ↔ WP P 26 57 lo r (x_put w a x.toNatClampNeg .null) Q := W_aast_n rfl h1 ht h2 h3 rfl
theorem wK_move_56 {b t n nb : Nat} (h1 : x_tg w a = some (30 + t, n)) (hv : x_tg w b = some (t, nb)) (ht : t < 20) (h2 : ¬ x < 0) (h3 : x.toNatClampNeg < n) : WP P 26 56 lo (.ref b :: .int x :: .ref a :: r) w Q ↔ WP P 26 57 lo r (x_put w a x.toNatClampNeg (.ref b)) Q := W_aast_r rfl h1 hv ht h2 h3 rfl
theorem wK_move_57 : WP P 26 57 lo st w Q ↔ x_ga lo[0]? (fun v => WP P 26 58 lo (v :: st) w Q) := W_aload_n rfl rfl rfl
theorem wK_move_58 : WP P 26 58 lo st w Q ↔ x_ga lo[4]? (fun v => WP P 26 60 lo (v :: st) w Q) := W_aload rfl rfl
theorem wK_move_60 : WP P 26 60 lo st w Q ↔ x_gi lo[5]? (fun x => WP P 26 62 lo (.int x :: st) w Q) := W_iload rfl rfl
theorem wK_move_62 {u1 u2 : Value} {b nb : Nat} (hb : x_tg w b = some (0, nb)) (hr : r.length ≤ 8) (hc : ([u1, u2] : List Value).all x_cat1 = true) (hc2 : r.all x_cat1 = true) (k : WP P 9 0 [some (.ref b), some u1, some u2] [] w (fun v w1 => WP P 26 65 lo (v.toList ++ r) w1 Q)) : WP P 26 62 lo (u2 :: u1 :: .ref b :: r) w Q := K_virt (as := [u1, u2]) rfl rfl rfl rfl (by decide) (by decide) rfl hb hr hc hc2 k
theorem wK_move_65 : WP P 26 65 lo st w Q ↔ WP P 26 66 lo (.int (xi 0) :: st) w Q := W_iconst rfl rfl rfl
theorem wK_move_66 : WP P 26 66 lo [.int x] w Q ↔ Q (some (.int x)) w := WP_ret rfl rfl
-- 27 K_delete
theorem wK_delete_0 : WP P 27 0 lo st w Q ↔ x_ga lo[0]? (fun v => WP P 27 1 lo (v :: st) w Q) := W_aload_n rfl rfl rfl
theorem wK_delete_1 {b nb : Nat} (hb : x_tg w b = some (0, nb)) (hr : r.length ≤ 8) (hc : ([] : List Value).all x_cat1 = true) (hc2 : r.all x_cat1 = true) (k : WP P 12 0 [some (.ref b), none] [] w (fun v w1 => WP P 27 4 lo (v.toList ++ r) w1 Q)) : WP P 27 1 lo (.ref b :: r) w Q := K_virt (as := []) rfl rfl rfl rfl (by decide) (by decide) rfl hb hr hc hc2 k
theorem wK_delete_4 : WP P 27 4 lo (.ref a :: r) w Q ↔ (2 < lo.length ∧ WP P 27 5 (lo.set 2 (some (.ref a))) r w Q) := W_astore_n rfl rfl rfl
theorem wK_delete_4n : WP P 27 4 lo (.null :: r) w Q ↔ (2 < lo.length ∧ WP P 27 5 (lo.set 2 (some .null)) r w Q) := W_astore_nN rfl rfl rfl
theorem wK_delete_5 : WP P 27 5 lo st w Q ↔ x_ga lo[2]? (fun v => WP P 27 6 lo (v :: st) w Q) := W_aload_n rfl rfl rfl
theorem wK_delete_6n : WP P 27 6 lo (.null :: r) w Q ↔ WP P 27 9 lo r w Q := W_ifnn_n rfl rfl rfl
theorem wK_delete_6 : WP P 27 6 lo (.ref a :: r) w Q ↔ WP P 27 12 lo r w Q := W_ifnn_r rfl rfl
theorem wK_delete_9 : WP P 27 9 lo st w Q ↔ WP P 27 11 lo (.int (xi 8) :: st) w Q := W_bipush rfl rfl (by decide)
theorem wK_delete_11 : WP P 27 11 lo [.int x] w Q ↔ Q (some (.int x)) w := WP_ret rfl rfl
theorem wK_delete_12 : WP P 27 12 lo st w Q ↔ x_ga lo[0]? (fun v => WP P 27 13 lo (v :: st) w Q) := W_aload_n rfl rfl rfl
theorem wK_delete_13 : WP P 27 13 lo st w Q ↔ x_ga lo[2]? (fun v => WP P 27 14 lo (v :: st) w Q) := W_aload_n rfl rfl rfl
theorem wK_delete_14 : WP P 27 14 lo st w Q ↔ x_gi lo[1]? (fun x => WP P 27 15 lo (.int x :: st) w Q) := W_iload_n rfl rfl rfl
theorem wK_delete_15 {u1 u2 : Value} {b nb : Nat} (hb : x_tg w b = some (0, nb)) (hr : r.length ≤ 8) (hc : ([u1, u2] : List Value).all x_cat1 = true) (hc2 : r.all x_cat1 = true) (k : WP P 13 0 [some (.ref b), some u1, some u2, none] [] w (fun v w1 => WP P 27 18 lo (v.toList ++ r) w1 Q)) : WP P 27 15 lo (u2 :: u1 :: .ref b :: r) w Q := K_virt (as := [u1, u2]) rfl rfl rfl rfl (by decide) (by decide) rfl hb hr hc hc2 k
theorem wK_delete_18 : WP P 27 18 lo (.ref a :: r) w Q ↔ (3 < lo.length ∧ WP P 27 19 (lo.set 3 (some (.ref a))) r w Q) := W_astore_n rfl rfl rfl
theorem wK_delete_18n : WP P 27 18 lo (.null :: r) w Q ↔ (3 < lo.length ∧ WP P 27 19 (lo.set 3 (some .null)) r w Q) := W_astore_nN rfl rfl rfl
theorem wK_delete_19 : WP P 27 19 lo st w Q ↔ x_ga lo[3]? (fun v => WP P 27 20 lo (v :: st) w Q) := W_aload_n rfl rfl rfl
theorem wK_delete_20n : WP P 27 20 lo (.null :: r) w Q ↔ WP P 27 23 lo r w Q := W_ifnn_n rfl rfl rfl
theorem wK_delete_20 : WP P 27 20 lo (.ref a :: r) w Q ↔ WP P 27 25 lo r w Q := W_ifnn_r rfl rfl
theorem wK_delete_23 : WP P 27 23 lo st w Q ↔ WP P 27 24 lo (.int (xi 1) :: st) w Q := W_iconst rfl rfl rfl
theorem wK_delete_24 : WP P 27 24 lo [.int x] w Q ↔ Q (some (.int x)) w := WP_ret rfl rfl
theorem wK_delete_25 : WP P 27 25 lo st w Q ↔ x_ga lo[3]? (fun v => WP P 27 26 lo (v :: st) w Q) := W_aload_n rfl rfl rfl
theorem wK_delete_26 : WP P 27 26 lo st w Q ↔ WP P 27 27 lo (.int (xi 1) :: st) w Q := W_iconst rfl rfl rfl
theorem wK_delete_27 : WP P 27 27 lo (v1 :: .ref a :: r) w Q ↔ ((x_has w a [1] ∧ x_fit 1 v1 = true) ∧ WP P 27 30 lo r (x_put w a 7 v1) Q) := W_put rfl rfl (by decide) rfl
theorem wK_delete_30 : WP P 27 30 lo st w Q ↔ x_ga lo[0]? (fun v => WP P 27 31 lo (v :: st) w Q) := W_aload_n rfl rfl rfl
theorem wK_delete_31 {b nb : Nat} (hb : x_tg w b = some (0, nb)) (hr : r.length ≤ 8) (hc : ([] : List Value).all x_cat1 = true) (hc2 : r.all x_cat1 = true) (k : WP P 28 0 [some (.ref b), none, none, none, none] [] w (fun v w1 => WP P 27 34 lo (v.toList ++ r) w1 Q)) : WP P 27 31 lo (.ref b :: r) w Q := K_virt (as := []) rfl rfl rfl rfl (by decide) (by decide) rfl hb hr hc hc2 k
theorem wK_delete_34 : WP P 27 34 lo st w Q ↔ WP P 27 35 lo (.int (xi 0) :: st) w Q := W_iconst rfl rfl rfl
theorem wK_delete_35 : WP P 27 35 lo [.int x] w Q ↔ Q (some (.int x)) w := WP_ret rfl rfl
-- 28 K_removeDoomed
theorem wK_removeDoomed_0 : WP P 28 0 lo st w Q ↔ WP P 28 1 lo (.int (xi 1) :: st) w Q := W_iconst rfl rfl rfl
theorem wK_removeDoomed_1 : WP P 28 1 lo (.int x :: r) w Q ↔ (1 < lo.length ∧ WP P 28 2 (lo.set 1 (some (.int x))) r w Q) := W_istore_n rfl rfl rfl
theorem wK_removeDoomed_2 : WP P 28 2 lo st w Q ↔ WP P 28 3 lo (.int (xi 0) :: st) w Q := W_iconst rfl rfl rfl
theorem wK_removeDoomed_3 : WP P 28 3 lo (.int x :: r) w Q ↔ (2 < lo.length ∧ WP P 28 4 (lo.set 2 (some (.int x))) r w Q) := W_istore_n rfl rfl rfl
theorem wK_removeDoomed_4 : WP P 28 4 lo st w Q ↔ x_gi lo[2]? (fun x => WP P 28 5 lo (.int x :: st) w Q) := W_iload_n rfl rfl rfl
theorem wK_removeDoomed_5 : WP P 28 5 lo st w Q ↔ WP P 28 8 lo (.int (xi 128) :: st) w Q := W_sipush rfl rfl (by decide)
theorem wK_removeDoomed_8 : WP P 28 8 lo (.int y :: .int x :: r) w Q ↔ (if y < x then WP P 28 67 lo r w Q else WP P 28 11 lo r w Q) := W_ic_gt rfl rfl rfl
theorem wK_removeDoomed_11 : WP P 28 11 lo st w Q ↔ x_gi lo[1]? (fun x => WP P 28 12 lo (.int x :: st) w Q) := W_iload_n rfl rfl rfl
theorem wK_removeDoomed_12 : WP P 28 12 lo (.int x :: r) w Q ↔ (if x = xi 0 then WP P 28 67 lo r w Q else WP P 28 15 lo r w Q) := W_if_eq rfl rfl rfl
theorem wK_removeDoomed_15 : WP P 28 15 lo st w Q ↔ WP P 28 16 lo (.int (xi 0) :: st) w Q := W_iconst rfl rfl rfl
theorem wK_removeDoomed_16 : WP P 28 16 lo (.int x :: r) w Q ↔ (1 < lo.length ∧ WP P 28 17 (lo.set 1 (some (.int x))) r w Q) := W_istore_n rfl rfl rfl
theorem wK_removeDoomed_17 : WP P 28 17 lo st w Q ↔ WP P 28 18 lo (.int (xi 0) :: st) w Q := W_iconst rfl rfl rfl
theorem wK_removeDoomed_18 : WP P 28 18 lo (.int x :: r) w Q ↔ (3 < lo.length ∧ WP P 28 19 (lo.set 3 (some (.int x))) r w Q) := W_istore_n rfl rfl rfl
theorem wK_removeDoomed_19 : WP P 28 19 lo st w Q ↔ x_gi lo[3]? (fun x => WP P 28 20 lo (.int x :: st) w Q) := W_iload_n rfl rfl rfl
theorem wK_removeDoomed_20 : WP P 28 20 lo st w Q ↔ WP P 28 23 lo (.int (xi 128) :: st) w Q := W_sipush rfl rfl (by decide)
theorem wK_removeDoomed_23 : WP P 28 23 lo (.int y :: .int x :: r) w Q ↔ (if x < y then WP P 28 26 lo r w Q else WP P 28 61 lo r w Q) := W_ic_ge rfl rfl rfl
theorem wK_removeDoomed_26 : WP P 28 26 lo st w Q ↔ x_ga lo[0]? (fun v => WP P 28 27 lo (v :: st) w Q) := W_aload_n rfl rfl rfl
theorem wK_removeDoomed_27 : WP P 28 27 lo (.ref a :: r) w Q ↔ (x_has w a [0] ∧ WP P 28 30 lo (x_fd w a 0 :: r) w Q) := W_get rfl rfl rfl
theorem wK_removeDoomed_30 : WP P 28 30 lo st w Q ↔ x_gi lo[3]? (fun x => WP P 28 31 lo (.int x :: st) w Q) := W_iload_n rfl rfl rfl
theorem wK_removeDoomed_31 {t n : Nat} (h1 : x_tg w a = some (t, n)) (ht : 30 ≤ t) (h2 : ¬ x < 0) (h3 : x.toNatClampNeg < n) : WP P 28 31 lo (.int x :: .ref a :: r) w Q ↔ WP P 28 32 lo (x_fd w a x.toNatClampNeg :: r) w Q := W_aald rfl h1 ht h2 h3 rfl
theorem wK_removeDoomed_32 : WP P 28 32 lo (.ref a :: r) w Q ↔ (4 < lo.length ∧ WP P 28 34 (lo.set 4 (some (.ref a))) r w Q) := W_astore rfl rfl
theorem wK_removeDoomed_32n : WP P 28 32 lo (.null :: r) w Q ↔ (4 < lo.length ∧ WP P 28 34 (lo.set 4 (some .null)) r w Q) := W_astoreN rfl rfl
theorem wK_removeDoomed_34 : WP P 28 34 lo st w Q ↔ x_ga lo[4]? (fun v => WP P 28 36 lo (v :: st) w Q) := W_aload rfl rfl
theorem wK_removeDoomed_36n : WP P 28 36 lo (.null :: r) w Q ↔ WP P 28 55 lo r w Q := W_ifnull_n rfl rfl
theorem wK_removeDoomed_36 : WP P 28 36 lo (.ref a :: r) w Q ↔ WP P 28 39 lo r w Q := W_ifnull_r rfl rfl rfl
theorem wK_removeDoomed_39 : WP P 28 39 lo st w Q ↔ x_ga lo[4]? (fun v => WP P 28 41 lo (v :: st) w Q) := W_aload rfl rfl
theorem wK_removeDoomed_41 : WP P 28 41 lo (.ref a :: r) w Q ↔ (x_has w a [1] ∧ WP P 28 44 lo (x_fd w a 7 :: r) w Q) := W_get rfl rfl rfl
theorem wK_removeDoomed_44 : WP P 28 44 lo (.int x :: r) w Q ↔ (if x = xi 0 then WP P 28 55 lo r w Q else WP P 28 47 lo r w Q) := W_if_eq rfl rfl rfl
theorem wK_removeDoomed_47 : WP P 28 47 lo st w Q ↔ x_ga lo[0]? (fun v => WP P 28 48 lo (v :: st) w Q) := W_aload_n rfl rfl rfl
theorem wK_removeDoomed_48 : WP P 28 48 lo st w Q ↔ x_ga lo[4]? (fun v => WP P 28 50 lo (v :: st) w Q) := W_aload rfl rfl
theorem wK_removeDoomed_50 {u1 : Value} {b nb : Nat} (hb : x_tg w b = some (0, nb)) (hr : r.length ≤ 8) (hc : ([u1] : List Value).all x_cat1 = true) (hc2 : r.all x_cat1 = true) (k : WP P 29 0 [some (.ref b), some u1, none, none] [] w (fun v w1 => WP P 28 53 lo (v.toList ++ r) w1 Q)) : WP P 28 50 lo (u1 :: .ref b :: r) w Q := K_virt (as := [u1]) rfl rfl rfl rfl (by decide) (by decide) rfl hb hr hc hc2 k
theorem wK_removeDoomed_53 : WP P 28 53 lo st w Q ↔ WP P 28 54 lo (.int (xi 1) :: st) w Q := W_iconst rfl rfl rfl
theorem wK_removeDoomed_54 : WP P 28 54 lo (.int x :: r) w Q ↔ (1 < lo.length ∧ WP P 28 55 (lo.set 1 (some (.int x))) r w Q) := W_istore_n rfl rfl rfl
theorem wK_removeDoomed_55 : WP P 28 55 lo st w Q ↔ x_gi lo[3]? (fun x => WP P 28 58 (lo.set 3 (some (.int (x + xi 1)))) st w Q) := W_iinc rfl rfl
theorem wK_removeDoomed_58 : WP P 28 58 lo st w Q ↔ WP P 28 19 lo st w Q := W_goto rfl rfl
theorem wK_removeDoomed_61 : WP P 28 61 lo st w Q ↔ x_gi lo[2]? (fun x => WP P 28 64 (lo.set 2 (some (.int (x + xi 1)))) st w Q) := W_iinc rfl rfl
theorem wK_removeDoomed_64 : WP P 28 64 lo st w Q ↔ WP P 28 4 lo st w Q := W_goto rfl rfl
theorem wK_removeDoomed_67 : WP P 28 67 lo [] w Q ↔ Q none w := WP_ret rfl rfl
-- 29 K_removeOne
theorem wK_removeOne_0 : WP P 29 0 lo st w Q ↔ x_ga lo[0]? (fun v => WP P 29 1 lo (v :: st) w Q) := W_aload_n rfl rfl rfl
theorem wK_removeOne_1 : WP P 29 1 lo (.ref a :: r) w Q ↔ (x_has w a [0] ∧ WP P 29 4 lo (x_fd w a 0 :: r) w Q) := W_get rfl rfl rfl
theorem wK_removeOne_4 : WP P 29 4 lo st w Q ↔ x_ga lo[1]? (fun v => WP P 29 5 lo (v :: st) w Q) := W_aload_n rfl rfl rfl
theorem wK_removeOne_5 : WP P 29 5 lo (.ref a :: r) w Q ↔ (x_has w a [1] ∧ WP P 29 8 lo (x_fd w a 4 :: r) w Q) := W_get rfl rfl rfl
theorem wK_removeOne_8 : WP P 29 8 lo st w Q ↔ WP P 29 9 lo (.null :: st) w Q := W_null rfl rfl
theorem wK_removeOne_9n {t n : Nat} (h1 : x_tg w a = some (t, n)) (ht : 30 ≤ t) (h2 : ¬ x < 0) (h3 : x.toNatClampNeg < n) : WP P 29 9 lo (.null :: .int x :: .ref a :: r) w Q ↔ WP P 29 10 lo r (x_put w a x.toNatClampNeg .null) Q := W_aast_n rfl h1 ht h2 h3 rfl
theorem wK_removeOne_9 {b t n nb : Nat} (h1 : x_tg w a = some (30 + t, n)) (hv : x_tg w b = some (t, nb)) (ht : t < 20) (h2 : ¬ x < 0) (h3 : x.toNatClampNeg < n) : WP P 29 9 lo (.ref b :: .int x :: .ref a :: r) w Q ↔ WP P 29 10 lo r (x_put w a x.toNatClampNeg (.ref b)) Q := W_aast_r rfl h1 hv ht h2 h3 rfl
theorem wK_removeOne_10 : WP P 29 10 lo st w Q ↔ WP P 29 11 lo (.int (xi 0) :: st) w Q := W_iconst rfl rfl rfl
theorem wK_removeOne_11 : WP P 29 11 lo (.int x :: r) w Q ↔ (2 < lo.length ∧ WP P 29 12 (lo.set 2 (some (.int x))) r w Q) := W_istore_n rfl rfl rfl
theorem wK_removeOne_12 : WP P 29 12 lo st w Q ↔ x_gi lo[2]? (fun x => WP P 29 13 lo (.int x :: st) w Q) := W_iload_n rfl rfl rfl
theorem wK_removeOne_13 : WP P 29 13 lo st w Q ↔ WP P 29 16 lo (.int (xi 128) :: st) w Q := W_sipush rfl rfl (by decide)
theorem wK_removeOne_16 : WP P 29 16 lo (.int y :: .int x :: r) w Q ↔ (if x < y then WP P 29 19 lo r w Q else WP P 29 52 lo r w Q) := W_ic_ge rfl rfl rfl
theorem wK_removeOne_19 : WP P 29 19 lo st w Q ↔ x_ga lo[0]? (fun v => WP P 29 20 lo (v :: st) w Q) := W_aload_n rfl rfl rfl
theorem wK_removeOne_20 : WP P 29 20 lo (.ref a :: r) w Q ↔ (x_has w a [0] ∧ WP P 29 23 lo (x_fd w a 0 :: r) w Q) := W_get rfl rfl rfl
theorem wK_removeOne_23 : WP P 29 23 lo st w Q ↔ x_gi lo[2]? (fun x => WP P 29 24 lo (.int x :: st) w Q) := W_iload_n rfl rfl rfl
theorem wK_removeOne_24 {t n : Nat} (h1 : x_tg w a = some (t, n)) (ht : 30 ≤ t) (h2 : ¬ x < 0) (h3 : x.toNatClampNeg < n) : WP P 29 24 lo (.int x :: .ref a :: r) w Q ↔ WP P 29 25 lo (x_fd w a x.toNatClampNeg :: r) w Q := W_aald rfl h1 ht h2 h3 rfl
theorem wK_removeOne_25 : WP P 29 25 lo (.ref a :: r) w Q ↔ (3 < lo.length ∧ WP P 29 26 (lo.set 3 (some (.ref a))) r w Q) := W_astore_n rfl rfl rfl
theorem wK_removeOne_25n : WP P 29 25 lo (.null :: r) w Q ↔ (3 < lo.length ∧ WP P 29 26 (lo.set 3 (some .null)) r w Q) := W_astore_nN rfl rfl rfl
theorem wK_removeOne_26 : WP P 29 26 lo st w Q ↔ x_ga lo[3]? (fun v => WP P 29 27 lo (v :: st) w Q) := W_aload_n rfl rfl rfl
theorem wK_removeOne_27n : WP P 29 27 lo (.null :: r) w Q ↔ WP P 29 46 lo r w Q := W_ifnull_n rfl rfl
theorem wK_removeOne_27 : WP P 29 27 lo (.ref a :: r) w Q ↔ WP P 29 30 lo r w Q := W_ifnull_r rfl rfl rfl
theorem wK_removeOne_30 : WP P 29 30 lo st w Q ↔ x_ga lo[3]? (fun v => WP P 29 31 lo (v :: st) w Q) := W_aload_n rfl rfl rfl
theorem wK_removeOne_31 : WP P 29 31 lo (.ref a :: r) w Q ↔ (x_has w a [1] ∧ WP P 29 34 lo (x_fd w a 3 :: r) w Q) := W_get rfl rfl rfl
theorem wK_removeOne_34 : WP P 29 34 lo st w Q ↔ x_ga lo[1]? (fun v => WP P 29 35 lo (v :: st) w Q) := W_aload_n rfl rfl rfl
theorem wK_removeOne_35 {q1 q2 : Option Nat} (h1 : x_rv v2 = some q1) (h2 : x_rv v1 = some q2) : WP P 29 35 lo (v1 :: v2 :: r) w Q ↔ (if q1 = q2 then WP P 29 38 lo r w Q else WP P 29 46 lo r w Q) := W_acmp_ne rfl rfl rfl h1 h2
theorem wK_removeOne_38 : WP P 29 38 lo st w Q ↔ x_ga lo[3]? (fun v => WP P 29 39 lo (v :: st) w Q) := W_aload_n rfl rfl rfl
theorem wK_removeOne_39 : WP P 29 39 lo st w Q ↔ x_ga lo[1]? (fun v => WP P 29 40 lo (v :: st) w Q) := W_aload_n rfl rfl rfl
theorem wK_removeOne_40 : WP P 29 40 lo (.ref a :: r) w Q ↔ (x_has w a [1] ∧ WP P 29 43 lo (x_fd w a 3 :: r) w Q) := W_get rfl rfl rfl
theorem wK_removeOne_43 : WP P 29 43 lo (v1 :: .ref a :: r) w Q ↔ ((x_has w a [1] ∧ x_fit 2 v1 = true) ∧ WP P 29 46 lo r (x_put w a 3 v1) Q) := W_put rfl rfl (by decide) rfl
theorem wK_removeOne_46 : WP P 29 46 lo st w Q ↔ x_gi lo[2]? (fun x => WP P 29 49 (lo.set 2 (some (.int (x + xi 1)))) st w Q) := W_iinc rfl rfl
theorem wK_removeOne_49 : WP P 29 49 lo st w Q ↔ WP P 29 12 lo st w Q := W_goto rfl rfl
theorem wK_removeOne_52 : WP P 29 52 lo st w Q ↔ x_ga lo[1]? (fun v => WP P 29 53 lo (v :: st) w Q) := W_aload_n rfl rfl rfl
theorem wK_removeOne_53 {u1 : Value} (hr : r.length ≤ 8) (hc : ([u1] : List Value).all x_cat1 = true) (hc2 : r.all x_cat1 = true) (k : WP P 30 0 [some u1] [] w (fun v w1 => WP P 29 56 lo (v.toList ++ r) w1 Q)) : WP P 29 53 lo (u1 :: r) w Q := K_stat (as := [u1]) rfl rfl rfl rfl (by decide) (by decide) rfl hr hc hc2 k
theorem wK_removeOne_56 : WP P 29 56 lo st w Q ↔ x_ga lo[0]? (fun v => WP P 29 57 lo (v :: st) w Q) := W_aload_n rfl rfl rfl
theorem wK_removeOne_57 : WP P 29 57 lo st w Q ↔ x_ga lo[1]? (fun v => WP P 29 58 lo (v :: st) w Q) := W_aload_n rfl rfl rfl
theorem wK_removeOne_58 : WP P 29 58 lo (.ref a :: r) w Q ↔ (x_has w a [1] ∧ WP P 29 61 lo (x_fd w a 0 :: r) w Q) := W_get rfl rfl rfl
theorem wK_removeOne_61 {u1 : Value} {b nb : Nat} (hb : x_tg w b = some (0, nb)) (hr : r.length ≤ 8) (hc : ([u1] : List Value).all x_cat1 = true) (hc2 : r.all x_cat1 = true) (k : WP P 31 0 [some (.ref b), some u1, none, none, none] [] w (fun v w1 => WP P 29 64 lo (v.toList ++ r) w1 Q)) : WP P 29 61 lo (u1 :: .ref b :: r) w Q := K_virt (as := [u1]) rfl rfl rfl rfl (by decide) (by decide) rfl hb hr hc hc2 k
theorem wK_removeOne_64 : WP P 29 64 lo (.int x :: r) w Q ↔ (if x = xi 0 then WP P 29 67 lo r w Q else WP P 29 75 lo r w Q) := W_if_ne rfl rfl rfl
theorem wK_removeOne_67 : WP P 29 67 lo st w Q ↔ x_ga lo[0]? (fun v => WP P 29 68 lo (v :: st) w Q) := W_aload_n rfl rfl rfl
theorem wK_removeOne_68 : WP P 29 68 lo st w Q ↔ x_ga lo[1]? (fun v => WP P 29 69 lo (v :: st) w Q) := W_aload_n rfl rfl rfl
theorem wK_removeOne_69 : WP P 29 69 lo (.ref a :: r) w Q ↔ (x_has w a [1] ∧ WP P 29 72 lo (x_fd w a 0 :: r) w Q) := W_get rfl rfl rfl
theorem wK_removeOne_72 {u1 : Value} {b nb : Nat} (hb : x_tg w b = some (0, nb)) (hr : r.length ≤ 8) (hc : ([u1] : List Value).all x_cat1 = true) (hc2 : r.all x_cat1 = true) (k : WP P 32 0 [some (.ref b), some u1, none, none, none, none, none, none] [] w (fun v w1 => WP P 29 75 lo (v.toList ++ r) w1 Q)) : WP P 29 72 lo (u1 :: .ref b :: r) w Q := K_virt (as := [u1]) rfl rfl rfl rfl (by decide) (by decide) rfl hb hr hc hc2 k
theorem wK_removeOne_75 : WP P 29 75 lo [] w Q ↔ Q none w := WP_ret rfl rfl
-- 30 K_leaveLeaf
theorem wK_leaveLeaf_0 : WP P 30 0 lo st w Q ↔ x_ga lo[0]? (fun v => WP P 30 1 lo (v :: st) w Q) := W_aload_n rfl rfl rfl
theorem wK_leaveLeaf_1 : WP P 30 1 lo (.ref a :: r) w Q ↔ (x_has w a [1] ∧ WP P 30 4 lo (x_fd w a 5 :: r) w Q) := W_get rfl rfl rfl
theorem wK_leaveLeaf_4n : WP P 30 4 lo (.null :: r) w Q ↔ WP P 30 25 lo r w Q := W_ifnull_n rfl rfl
theorem wK_leaveLeaf_4 : WP P 30 4 lo (.ref a :: r) w Q ↔ WP P 30 7 lo r w Q := W_ifnull_r rfl rfl rfl
theorem wK_leaveLeaf_7 : WP P 30 7 lo st w Q ↔ x_ga lo[0]? (fun v => WP P 30 8 lo (v :: st) w Q) := W_aload_n rfl rfl rfl
theorem wK_leaveLeaf_8 : WP P 30 8 lo (.ref a :: r) w Q ↔ (x_has w a [1] ∧ WP P 30 11 lo (x_fd w a 5 :: r) w Q) := W_get rfl rfl rfl
theorem wK_leaveLeaf_11 : WP P 30 11 lo (.ref a :: r) w Q ↔ (x_has w a [9] ∧ WP P 30 14 lo (x_fd w a 4 :: r) w Q) := W_get rfl rfl rfl
theorem wK_leaveLeaf_14 : WP P 30 14 lo st w Q ↔ x_ga lo[0]? (fun v => WP P 30 15 lo (v :: st) w Q) := W_aload_n rfl rfl rfl
theorem wK_leaveLeaf_15 : WP P 30 15 lo (.ref a :: r) w Q ↔ (x_has w a [1] ∧ WP P 30 18 lo (x_fd w a 6 :: r) w Q) := W_get rfl rfl rfl
theorem wK_leaveLeaf_18 : WP P 30 18 lo st w Q ↔ WP P 30 19 lo (.null :: st) w Q := W_null rfl rfl
theorem wK_leaveLeaf_19n {t n : Nat} (h1 : x_tg w a = some (t, n)) (ht : 30 ≤ t) (h2 : ¬ x < 0) (h3 : x.toNatClampNeg < n) : WP P 30 19 lo (.null :: .int x :: .ref a :: r) w Q ↔ WP P 30 20 lo r (x_put w a x.toNatClampNeg .null) Q := W_aast_n rfl h1 ht h2 h3 rfl
theorem wK_leaveLeaf_19 {b t n nb : Nat} (h1 : x_tg w a = some (30 + t, n)) (hv : x_tg w b = some (t, nb)) (ht : t < 20) (h2 : ¬ x < 0) (h3 : x.toNatClampNeg < n) : WP P 30 19 lo (.ref b :: .int x :: .ref a :: r) w Q ↔ WP P 30 20 lo r (x_put w a x.toNatClampNeg (.ref b)) Q := W_aast_r rfl h1 hv ht h2 h3 rfl
theorem wK_leaveLeaf_20 : WP P 30 20 lo st w Q ↔ x_ga lo[0]? (fun v => WP P 30 21 lo (v :: st) w Q) := W_aload_n rfl rfl rfl
theorem wK_leaveLeaf_21 : WP P 30 21 lo st w Q ↔ WP P 30 22 lo (.null :: st) w Q := W_null rfl rfl
theorem wK_leaveLeaf_22 : WP P 30 22 lo (v1 :: .ref a :: r) w Q ↔ ((x_has w a [1] ∧ x_fit 2 v1 = true) ∧ WP P 30 25 lo r (x_put w a 5 v1) Q) := W_put rfl rfl (by decide) rfl
theorem wK_leaveLeaf_25 : WP P 30 25 lo [] w Q ↔ Q none w := WP_ret rfl rfl
-- 31 K_capabilitiesFor
theorem wK_capabilitiesFor_0 : WP P 31 0 lo st w Q ↔ WP P 31 1 lo (.int (xi 0) :: st) w Q := W_iconst rfl rfl rfl
theorem wK_capabilitiesFor_1 : WP P 31 1 lo (.int x :: r) w Q ↔ (2 < lo.length ∧ WP P 31 2 (lo.set 2 (some (.int x))) r w Q) := W_istore_n rfl rfl rfl
theorem wK_capabilitiesFor_2 : WP P 31 2 lo st w Q ↔ WP P 31 3 lo (.int (xi 0) :: st) w Q := W_iconst rfl rfl rfl
theorem wK_capabilitiesFor_3 : WP P 31 3 lo (.int x :: r) w Q ↔ (3 < lo.length ∧ WP P 31 4 (lo.set 3 (some (.int x))) r w Q) := W_istore_n rfl rfl rfl
theorem wK_capabilitiesFor_4 : WP P 31 4 lo st w Q ↔ x_gi lo[3]? (fun x => WP P 31 5 lo (.int x :: st) w Q) := W_iload_n rfl rfl rfl
theorem wK_capabilitiesFor_5 : WP P 31 5 lo st w Q ↔ WP P 31 8 lo (.int (xi 128) :: st) w Q := W_sipush rfl rfl (by decide)
theorem wK_capabilitiesFor_8 : WP P 31 8 lo (.int y :: .int x :: r) w Q ↔ (if x < y then WP P 31 11 lo r w Q else WP P 31 42 lo r w Q) := W_ic_ge rfl rfl rfl
theorem wK_capabilitiesFor_11 : WP P 31 11 lo st w Q ↔ x_ga lo[0]? (fun v => WP P 31 12 lo (v :: st) w Q) := W_aload_n rfl rfl rfl
theorem wK_capabilitiesFor_12 : WP P 31 12 lo (.ref a :: r) w Q ↔ (x_has w a [0] ∧ WP P 31 15 lo (x_fd w a 0 :: r) w Q) := W_get rfl rfl rfl
theorem wK_capabilitiesFor_15 : WP P 31 15 lo st w Q ↔ x_gi lo[3]? (fun x => WP P 31 16 lo (.int x :: st) w Q) := W_iload_n rfl rfl rfl
theorem wK_capabilitiesFor_16 {t n : Nat} (h1 : x_tg w a = some (t, n)) (ht : 30 ≤ t) (h2 : ¬ x < 0) (h3 : x.toNatClampNeg < n) : WP P 31 16 lo (.int x :: .ref a :: r) w Q ↔ WP P 31 17 lo (x_fd w a x.toNatClampNeg :: r) w Q := W_aald rfl h1 ht h2 h3 rfl
theorem wK_capabilitiesFor_17 : WP P 31 17 lo (.ref a :: r) w Q ↔ (4 < lo.length ∧ WP P 31 19 (lo.set 4 (some (.ref a))) r w Q) := W_astore rfl rfl
theorem wK_capabilitiesFor_17n : WP P 31 17 lo (.null :: r) w Q ↔ (4 < lo.length ∧ WP P 31 19 (lo.set 4 (some .null)) r w Q) := W_astoreN rfl rfl
theorem wK_capabilitiesFor_19 : WP P 31 19 lo st w Q ↔ x_ga lo[4]? (fun v => WP P 31 21 lo (v :: st) w Q) := W_aload rfl rfl
theorem wK_capabilitiesFor_21n : WP P 31 21 lo (.null :: r) w Q ↔ WP P 31 36 lo r w Q := W_ifnull_n rfl rfl
theorem wK_capabilitiesFor_21 : WP P 31 21 lo (.ref a :: r) w Q ↔ WP P 31 24 lo r w Q := W_ifnull_r rfl rfl rfl
theorem wK_capabilitiesFor_24 : WP P 31 24 lo st w Q ↔ x_ga lo[4]? (fun v => WP P 31 26 lo (v :: st) w Q) := W_aload rfl rfl
theorem wK_capabilitiesFor_26 : WP P 31 26 lo (.ref a :: r) w Q ↔ (x_has w a [1] ∧ WP P 31 29 lo (x_fd w a 0 :: r) w Q) := W_get rfl rfl rfl
theorem wK_capabilitiesFor_29 : WP P 31 29 lo st w Q ↔ x_ga lo[1]? (fun v => WP P 31 30 lo (v :: st) w Q) := W_aload_n rfl rfl rfl
theorem wK_capabilitiesFor_30 {q1 q2 : Option Nat} (h1 : x_rv v2 = some q1) (h2 : x_rv v1 = some q2) : WP P 31 30 lo (v1 :: v2 :: r) w Q ↔ (if q1 = q2 then WP P 31 33 lo r w Q else WP P 31 36 lo r w Q) := W_acmp_ne rfl rfl rfl h1 h2
theorem wK_capabilitiesFor_33 : WP P 31 33 lo st w Q ↔ x_gi lo[2]? (fun x => WP P 31 36 (lo.set 2 (some (.int (x + xi 1)))) st w Q) := W_iinc rfl rfl
theorem wK_capabilitiesFor_36 : WP P 31 36 lo st w Q ↔ x_gi lo[3]? (fun x => WP P 31 39 (lo.set 3 (some (.int (x + xi 1)))) st w Q) := W_iinc rfl rfl
theorem wK_capabilitiesFor_39 : WP P 31 39 lo st w Q ↔ WP P 31 4 lo st w Q := W_goto rfl rfl
theorem wK_capabilitiesFor_42 : WP P 31 42 lo st w Q ↔ x_gi lo[2]? (fun x => WP P 31 43 lo (.int x :: st) w Q) := W_iload_n rfl rfl rfl
theorem wK_capabilitiesFor_43 : WP P 31 43 lo [.int x] w Q ↔ Q (some (.int x)) w := WP_ret rfl rfl
-- 32 K_destroy
theorem wK_destroy_0 : WP P 32 0 lo st w Q ↔ x_ga lo[1]? (fun v => WP P 32 1 lo (v :: st) w Q) := W_aload_n rfl rfl rfl
theorem wK_destroy_1n : WP P 32 1 lo (.null :: r) w Q ↔ WP P 32 4 lo (.int (xi 0) :: r) w Q := W_inst_n rfl rfl
theorem wK_destroy_1 {t n : Nat} (h1 : x_tg w a = some (t, n)) (ht : t ∈ x_things) : WP P 32 1 lo (.ref a :: r) w Q ↔ WP P 32 4 lo (.int (if t = 5 then xi 1 else xi 0) :: r) w Q := W_inst rfl rfl h1 ht rfl
theorem wK_destroy_4 : WP P 32 4 lo (.int x :: r) w Q ↔ (if x = xi 0 then WP P 32 20 lo r w Q else WP P 32 7 lo r w Q) := W_if_eq rfl rfl rfl
theorem wK_destroy_7 : WP P 32 7 lo st w Q ↔ x_ga lo[1]? (fun v => WP P 32 8 lo (v :: st) w Q) := W_aload_n rfl rfl rfl
theorem wK_destroy_8 {n : Nat} (h1 : x_tg w a = some (5, n)) : WP P 32 8 lo (.ref a :: r) w Q ↔ WP P 32 11 lo (.ref a :: r) w Q := W_cast rfl h1 rfl rfl
theorem wK_destroy_11 : WP P 32 11 lo (.ref a :: r) w Q ↔ (2 < lo.length ∧ WP P 32 12 (lo.set 2 (some (.ref a))) r w Q) := W_astore_n rfl rfl rfl
theorem wK_destroy_11n : WP P 32 11 lo (.null :: r) w Q ↔ (2 < lo.length ∧ WP P 32 12 (lo.set 2 (some .null)) r w Q) := W_astore_nN rfl rfl rfl
theorem wK_destroy_12 : WP P 32 12 lo st w Q ↔ x_ga lo[0]? (fun v => WP P 32 13 lo (v :: st) w Q) := W_aload_n rfl rfl rfl
theorem wK_destroy_13 : WP P 32 13 lo st w Q ↔ x_ga lo[2]? (fun v => WP P 32 14 lo (v :: st) w Q) := W_aload_n rfl rfl rfl
theorem wK_destroy_14 {u1 : Value} {b nb : Nat} (hb : x_tg w b = some (0, nb)) (hr : r.length ≤ 8) (hc : ([u1] : List Value).all x_cat1 = true) (hc2 : r.all x_cat1 = true) (k : WP P 33 0 [some (.ref b), some u1, none, none] [] w (fun v w1 => WP P 32 17 lo (v.toList ++ r) w1 Q)) : WP P 32 14 lo (u1 :: .ref b :: r) w Q := K_virt (as := [u1]) rfl rfl rfl rfl (by decide) (by decide) rfl hb hr hc hc2 k
theorem wK_destroy_17 : WP P 32 17 lo st w Q ↔ WP P 32 148 lo st w Q := W_goto rfl rfl
theorem wK_destroy_20 : WP P 32 20 lo st w Q ↔ x_ga lo[1]? (fun v => WP P 32 21 lo (v :: st) w Q) := W_aload_n rfl rfl rfl
theorem wK_destroy_21n : WP P 32 21 lo (.null :: r) w Q ↔ WP P 32 24 lo (.int (xi 0) :: r) w Q := W_inst_n rfl rfl
theorem wK_destroy_21 {t n : Nat} (h1 : x_tg w a = some (t, n)) (ht : t ∈ x_things) : WP P 32 21 lo (.ref a :: r) w Q ↔ WP P 32 24 lo (.int (if t = 2 then xi 1 else xi 0) :: r) w Q := W_inst rfl rfl h1 ht rfl
theorem wK_destroy_24 : WP P 32 24 lo (.int x :: r) w Q ↔ (if x = xi 0 then WP P 32 52 lo r w Q else WP P 32 27 lo r w Q) := W_if_eq rfl rfl rfl
theorem wK_destroy_27 : WP P 32 27 lo st w Q ↔ x_ga lo[1]? (fun v => WP P 32 28 lo (v :: st) w Q) := W_aload_n rfl rfl rfl
theorem wK_destroy_28 {n : Nat} (h1 : x_tg w a = some (2, n)) : WP P 32 28 lo (.ref a :: r) w Q ↔ WP P 32 31 lo (.ref a :: r) w Q := W_cast rfl h1 rfl rfl
theorem wK_destroy_31 : WP P 32 31 lo (.ref a :: r) w Q ↔ (3 < lo.length ∧ WP P 32 32 (lo.set 3 (some (.ref a))) r w Q) := W_astore_n rfl rfl rfl
theorem wK_destroy_31n : WP P 32 31 lo (.null :: r) w Q ↔ (3 < lo.length ∧ WP P 32 32 (lo.set 3 (some .null)) r w Q) := W_astore_nN rfl rfl rfl
theorem wK_destroy_32 : WP P 32 32 lo st w Q ↔ x_ga lo[3]? (fun v => WP P 32 33 lo (v :: st) w Q) := W_aload_n rfl rfl rfl
theorem wK_destroy_33 {u1 : Value} (hr : r.length ≤ 8) (hc : ([u1] : List Value).all x_cat1 = true) (hc2 : r.all x_cat1 = true) (k : WP P 6 0 [some u1, none, none, none] [] w (fun v w1 => WP P 32 36 lo (v.toList ++ r) w1 Q)) : WP P 32 33 lo (u1 :: r) w Q := K_stat (as := [u1]) rfl rfl rfl rfl (by decide) (by decide) rfl hr hc hc2 k
theorem wK_destroy_36 : WP P 32 36 lo st w Q ↔ x_ga lo[0]? (fun v => WP P 32 37 lo (v :: st) w Q) := W_aload_n rfl rfl rfl
theorem wK_destroy_37 : WP P 32 37 lo (.ref a :: r) w Q ↔ (x_has w a [0] ∧ WP P 32 40 lo (x_fd w a 1 :: r) w Q) := W_get rfl rfl rfl
theorem wK_destroy_40 : WP P 32 40 lo st w Q ↔ x_ga lo[3]? (fun v => WP P 32 41 lo (v :: st) w Q) := W_aload_n rfl rfl rfl
theorem wK_destroy_41 : WP P 32 41 lo (.ref a :: r) w Q ↔ (x_has w a [2] ∧ WP P 32 44 lo (x_fd w a 1 :: r) w Q) := W_get rfl rfl rfl
theorem wK_destroy_44 : WP P 32 44 lo st w Q ↔ WP P 32 46 lo (.int (xi 8) :: st) w Q := W_bipush rfl rfl (by decide)
theorem wK_destroy_46 : WP P 32 46 lo (.int y :: .int x :: r) w Q ↔ (¬ y = 0 ∧ WP P 32 47 lo (.int (x / y) :: r) w Q) := W_idiv rfl rfl
theorem wK_destroy_47 : WP P 32 47 lo st w Q ↔ WP P 32 48 lo (.null :: st) w Q := W_null rfl rfl
theorem wK_destroy_48n {t n : Nat} (h1 : x_tg w a = some (t, n)) (ht : 30 ≤ t) (h2 : ¬ x < 0) (h3 : x.toNatClampNeg < n) : WP P 32 48 lo (.null :: .int x :: .ref a :: r) w Q ↔ WP P 32 49 lo r (x_put w a x.toNatClampNeg .null) Q := W_aast_n rfl h1 ht h2 h3 rfl
theorem wK_destroy_48 {b t n nb : Nat} (h1 : x_tg w a = some (30 + t, n)) (hv : x_tg w b = some (t, nb)) (ht : t < 20) (h2 : ¬ x < 0) (h3 : x.toNatClampNeg < n) : WP P 32 48 lo (.ref b :: .int x :: .ref a :: r) w Q ↔ WP P 32 49 lo r (x_put w a x.toNatClampNeg (.ref b)) Q := W_aast_r rfl h1 hv ht h2 h3 rfl
theorem wK_destroy_49 : WP P 32 49 lo st w Q ↔ WP P 32 148 lo st w Q := W_goto rfl rfl
theorem wK_destroy_52 : WP P 32 52 lo st w Q ↔ x_ga lo[1]? (fun v => WP P 32 53 lo (v :: st) w Q) := W_aload_n rfl rfl rfl
theorem wK_destroy_53n : WP P 32 53 lo (.null :: r) w Q ↔ WP P 32 56 lo (.int (xi 0) :: r) w Q := W_inst_n rfl rfl
theorem wK_destroy_53 {t n : Nat} (h1 : x_tg w a = some (t, n)) (ht : t ∈ x_things) : WP P 32 53 lo (.ref a :: r) w Q ↔ WP P 32 56 lo (.int (if t = 6 then xi 1 else xi 0) :: r) w Q := W_inst rfl rfl h1 ht rfl
theorem wK_destroy_56 : WP P 32 56 lo (.int x :: r) w Q ↔ (if x = xi 0 then WP P 32 77 lo r w Q else WP P 32 59 lo r w Q) := W_if_eq rfl rfl rfl
theorem wK_destroy_59 : WP P 32 59 lo st w Q ↔ x_ga lo[1]? (fun v => WP P 32 60 lo (v :: st) w Q) := W_aload_n rfl rfl rfl
theorem wK_destroy_60 {n : Nat} (h1 : x_tg w a = some (6, n)) : WP P 32 60 lo (.ref a :: r) w Q ↔ WP P 32 63 lo (.ref a :: r) w Q := W_cast rfl h1 rfl rfl
theorem wK_destroy_63 : WP P 32 63 lo (.ref a :: r) w Q ↔ (4 < lo.length ∧ WP P 32 65 (lo.set 4 (some (.ref a))) r w Q) := W_astore rfl rfl
theorem wK_destroy_63n : WP P 32 63 lo (.null :: r) w Q ↔ (4 < lo.length ∧ WP P 32 65 (lo.set 4 (some .null)) r w Q) := W_astoreN rfl rfl
theorem wK_destroy_65 : WP P 32 65 lo st w Q ↔ x_ga lo[0]? (fun v => WP P 32 66 lo (v :: st) w Q) := W_aload_n rfl rfl rfl
theorem wK_destroy_66 : WP P 32 66 lo st w Q ↔ x_ga lo[4]? (fun v => WP P 32 68 lo (v :: st) w Q) := W_aload rfl rfl
theorem wK_destroy_68 : WP P 32 68 lo (.ref a :: r) w Q ↔ (x_has w a [6] ∧ WP P 32 71 lo (x_fd w a 2 :: r) w Q) := W_get rfl rfl rfl
theorem wK_destroy_71 {u1 : Value} {b nb : Nat} (hb : x_tg w b = some (0, nb)) (hr : r.length ≤ 8) (hc : ([u1] : List Value).all x_cat1 = true) (hc2 : r.all x_cat1 = true) (k : WP P 34 0 [some (.ref b), some u1, none, none] [] w (fun v w1 => WP P 32 74 lo (v.toList ++ r) w1 Q)) : WP P 32 71 lo (u1 :: .ref b :: r) w Q := K_virt (as := [u1]) rfl rfl rfl rfl (by decide) (by decide) rfl hb hr hc hc2 k
theorem wK_destroy_74 : WP P 32 74 lo st w Q ↔ WP P 32 148 lo st w Q := W_goto rfl rfl
theorem wK_destroy_77 : WP P 32 77 lo st w Q ↔ x_ga lo[1]? (fun v => WP P 32 78 lo (v :: st) w Q) := W_aload_n rfl rfl rfl
theorem wK_destroy_78n : WP P 32 78 lo (.null :: r) w Q ↔ WP P 32 81 lo (.int (xi 0) :: r) w Q := W_inst_n rfl rfl
theorem wK_destroy_78 {t n : Nat} (h1 : x_tg w a = some (t, n)) (ht : t ∈ x_things) : WP P 32 78 lo (.ref a :: r) w Q ↔ WP P 32 81 lo (.int (if t = 7 then xi 1 else xi 0) :: r) w Q := W_inst rfl rfl h1 ht rfl
theorem wK_destroy_81 : WP P 32 81 lo (.int x :: r) w Q ↔ (if x = xi 0 then WP P 32 108 lo r w Q else WP P 32 84 lo r w Q) := W_if_eq rfl rfl rfl
theorem wK_destroy_84 : WP P 32 84 lo st w Q ↔ x_ga lo[1]? (fun v => WP P 32 85 lo (v :: st) w Q) := W_aload_n rfl rfl rfl
theorem wK_destroy_85 {n : Nat} (h1 : x_tg w a = some (7, n)) : WP P 32 85 lo (.ref a :: r) w Q ↔ WP P 32 88 lo (.ref a :: r) w Q := W_cast rfl h1 rfl rfl
theorem wK_destroy_88 : WP P 32 88 lo (.ref a :: r) w Q ↔ (5 < lo.length ∧ WP P 32 90 (lo.set 5 (some (.ref a))) r w Q) := W_astore rfl rfl
theorem wK_destroy_88n : WP P 32 88 lo (.null :: r) w Q ↔ (5 < lo.length ∧ WP P 32 90 (lo.set 5 (some .null)) r w Q) := W_astoreN rfl rfl
theorem wK_destroy_90 : WP P 32 90 lo st w Q ↔ x_ga lo[0]? (fun v => WP P 32 91 lo (v :: st) w Q) := W_aload_n rfl rfl rfl
theorem wK_destroy_91 : WP P 32 91 lo st w Q ↔ x_ga lo[5]? (fun v => WP P 32 93 lo (v :: st) w Q) := W_aload rfl rfl
theorem wK_destroy_93 : WP P 32 93 lo (.ref a :: r) w Q ↔ (x_has w a [7] ∧ WP P 32 96 lo (x_fd w a 2 :: r) w Q) := W_get rfl rfl rfl
theorem wK_destroy_96 {u1 : Value} {b nb : Nat} (hb : x_tg w b = some (0, nb)) (hr : r.length ≤ 8) (hc : ([u1] : List Value).all x_cat1 = true) (hc2 : r.all x_cat1 = true) (k : WP P 34 0 [some (.ref b), some u1, none, none] [] w (fun v w1 => WP P 32 99 lo (v.toList ++ r) w1 Q)) : WP P 32 96 lo (u1 :: .ref b :: r) w Q := K_virt (as := [u1]) rfl rfl rfl rfl (by decide) (by decide) rfl hb hr hc hc2 k
theorem wK_destroy_99 : WP P 32 99 lo st w Q ↔ x_ga lo[0]? (fun v => WP P 32 100 lo (v :: st) w Q) := W_aload_n rfl rfl rfl
theorem wK_destroy_100 : WP P 32 100 lo st w Q ↔ x_ga lo[5]? (fun v => WP P 32 102 lo (v :: st) w Q) := W_aload rfl rfl
theorem wK_destroy_102 {u1 : Value} {b nb : Nat} (hb : x_tg w b = some (0, nb)) (hr : r.length ≤ 8) (hc : ([u1] : List Value).all x_cat1 = true) (hc2 : r.all x_cat1 = true) (k : WP P 36 0 [some (.ref b), some u1, none] [] w (fun v w1 => WP P 32 105 lo (v.toList ++ r) w1 Q)) : WP P 32 102 lo (u1 :: .ref b :: r) w Q := K_virt (as := [u1]) rfl rfl rfl rfl (by decide) (by decide) rfl hb hr hc hc2 k
theorem wK_destroy_105 : WP P 32 105 lo st w Q ↔ WP P 32 148 lo st w Q := W_goto rfl rfl
theorem wK_destroy_108 : WP P 32 108 lo st w Q ↔ x_ga lo[1]? (fun v => WP P 32 109 lo (v :: st) w Q) := W_aload_n rfl rfl rfl
theorem wK_destroy_109n : WP P 32 109 lo (.null :: r) w Q ↔ WP P 32 112 lo (.int (xi 0) :: r) w Q := W_inst_n rfl rfl
theorem wK_destroy_109 {t n : Nat} (h1 : x_tg w a = some (t, n)) (ht : t ∈ x_things) : WP P 32 109 lo (.ref a :: r) w Q ↔ WP P 32 112 lo (.int (if t = 8 then xi 1 else xi 0) :: r) w Q := W_inst rfl rfl h1 ht rfl
theorem wK_destroy_112 : WP P 32 112 lo (.int x :: r) w Q ↔ (if x = xi 0 then WP P 32 130 lo r w Q else WP P 32 115 lo r w Q) := W_if_eq rfl rfl rfl
theorem wK_destroy_115 : WP P 32 115 lo st w Q ↔ x_ga lo[1]? (fun v => WP P 32 116 lo (v :: st) w Q) := W_aload_n rfl rfl rfl
theorem wK_destroy_116 {n : Nat} (h1 : x_tg w a = some (8, n)) : WP P 32 116 lo (.ref a :: r) w Q ↔ WP P 32 119 lo (.ref a :: r) w Q := W_cast rfl h1 rfl rfl
theorem wK_destroy_119 : WP P 32 119 lo (.ref a :: r) w Q ↔ (6 < lo.length ∧ WP P 32 121 (lo.set 6 (some (.ref a))) r w Q) := W_astore rfl rfl
theorem wK_destroy_119n : WP P 32 119 lo (.null :: r) w Q ↔ (6 < lo.length ∧ WP P 32 121 (lo.set 6 (some .null)) r w Q) := W_astoreN rfl rfl
theorem wK_destroy_121 : WP P 32 121 lo st w Q ↔ x_ga lo[0]? (fun v => WP P 32 122 lo (v :: st) w Q) := W_aload_n rfl rfl rfl
theorem wK_destroy_122 : WP P 32 122 lo st w Q ↔ x_ga lo[6]? (fun v => WP P 32 124 lo (v :: st) w Q) := W_aload rfl rfl
theorem wK_destroy_124 {u1 : Value} {b nb : Nat} (hb : x_tg w b = some (0, nb)) (hr : r.length ≤ 8) (hc : ([u1] : List Value).all x_cat1 = true) (hc2 : r.all x_cat1 = true) (k : WP P 37 0 [some (.ref b), some u1, none, none] [] w (fun v w1 => WP P 32 127 lo (v.toList ++ r) w1 Q)) : WP P 32 124 lo (u1 :: .ref b :: r) w Q := K_virt (as := [u1]) rfl rfl rfl rfl (by decide) (by decide) rfl hb hr hc hc2 k
theorem wK_destroy_127 : WP P 32 127 lo st w Q ↔ WP P 32 148 lo st w Q := W_goto rfl rfl
theorem wK_destroy_130 : WP P 32 130 lo st w Q ↔ x_ga lo[1]? (fun v => WP P 32 131 lo (v :: st) w Q) := W_aload_n rfl rfl rfl
theorem wK_destroy_131n : WP P 32 131 lo (.null :: r) w Q ↔ WP P 32 134 lo (.int (xi 0) :: r) w Q := W_inst_n rfl rfl
theorem wK_destroy_131 {t n : Nat} (h1 : x_tg w a = some (t, n)) (ht : t ∈ x_things) : WP P 32 131 lo (.ref a :: r) w Q ↔ WP P 32 134 lo (.int (if t = 9 then xi 1 else xi 0) :: r) w Q := W_inst rfl rfl h1 ht rfl
theorem wK_destroy_134 : WP P 32 134 lo (.int x :: r) w Q ↔ (if x = xi 0 then WP P 32 148 lo r w Q else WP P 32 137 lo r w Q) := W_if_eq rfl rfl rfl
theorem wK_destroy_137 : WP P 32 137 lo st w Q ↔ x_ga lo[1]? (fun v => WP P 32 138 lo (v :: st) w Q) := W_aload_n rfl rfl rfl
theorem wK_destroy_138 {n : Nat} (h1 : x_tg w a = some (9, n)) : WP P 32 138 lo (.ref a :: r) w Q ↔ WP P 32 141 lo (.ref a :: r) w Q := W_cast rfl h1 rfl rfl
theorem wK_destroy_141 : WP P 32 141 lo (.ref a :: r) w Q ↔ (7 < lo.length ∧ WP P 32 143 (lo.set 7 (some (.ref a))) r w Q) := W_astore rfl rfl
theorem wK_destroy_141n : WP P 32 141 lo (.null :: r) w Q ↔ (7 < lo.length ∧ WP P 32 143 (lo.set 7 (some .null)) r w Q) := W_astoreN rfl rfl
theorem wK_destroy_143 : WP P 32 143 lo st w Q ↔ x_ga lo[7]? (fun v => WP P 32 145 lo (v :: st) w Q) := W_aload rfl rfl
theorem wK_destroy_145 {u1 : Value} (hr : r.length ≤ 8) (hc : ([u1] : List Value).all x_cat1 = true) (hc2 : r.all x_cat1 = true) (k : WP P 39 0 [some u1, none, none] [] w (fun v w1 => WP P 32 148 lo (v.toList ++ r) w1 Q)) : WP P 32 145 lo (u1 :: r) w Q := K_stat (as := [u1]) rfl rfl rfl rfl (by decide) (by decide) rfl hr hc hc2 k
theorem wK_destroy_148 : WP P 32 148 lo [] w Q ↔ Q none w := WP_ret rfl rfl
-- 33 K_destroyTable
theorem wK_destroyTable_0 : WP P 33 0 lo st w Q ↔ WP P 33 1 lo (.int (xi 0) :: st) w Q := W_iconst rfl rfl rfl
theorem wK_destroyTable_1 : WP P 33 1 lo (.int x :: r) w Q ↔ (2 < lo.length ∧ WP P 33 2 (lo.set 2 (some (.int x))) r w Q) := W_istore_n rfl rfl rfl
theorem wK_destroyTable_2 : WP P 33 2 lo st w Q ↔ x_gi lo[2]? (fun x => WP P 33 3 lo (.int x :: st) w Q) := W_iload_n rfl rfl rfl
theorem wK_destroyTable_3 : WP P 33 3 lo st w Q ↔ WP P 33 5 lo (.int (xi 16) :: st) w Q := W_bipush rfl rfl (by decide)
theorem wK_destroyTable_5 : WP P 33 5 lo (.int y :: .int x :: r) w Q ↔ (if x < y then WP P 33 8 lo r w Q else WP P 33 35 lo r w Q) := W_ic_ge rfl rfl rfl
theorem wK_destroyTable_8 : WP P 33 8 lo st w Q ↔ x_ga lo[0]? (fun v => WP P 33 9 lo (v :: st) w Q) := W_aload_n rfl rfl rfl
theorem wK_destroyTable_9 : WP P 33 9 lo (.ref a :: r) w Q ↔ (x_has w a [0] ∧ WP P 33 12 lo (x_fd w a 0 :: r) w Q) := W_get rfl rfl rfl
theorem wK_destroyTable_12 : WP P 33 12 lo st w Q ↔ x_ga lo[1]? (fun v => WP P 33 13 lo (v :: st) w Q) := W_aload_n rfl rfl rfl
theorem wK_destroyTable_13 : WP P 33 13 lo (.ref a :: r) w Q ↔ (x_has w a [5] ∧ WP P 33 16 lo (x_fd w a 1 :: r) w Q) := W_get rfl rfl rfl
theorem wK_destroyTable_16 : WP P 33 16 lo st w Q ↔ x_gi lo[2]? (fun x => WP P 33 17 lo (.int x :: st) w Q) := W_iload_n rfl rfl rfl
theorem wK_destroyTable_17 : WP P 33 17 lo (.int y :: .int x :: r) w Q ↔ WP P 33 18 lo (.int (x + y) :: r) w Q := W_iadd rfl rfl
theorem wK_destroyTable_18 {t n : Nat} (h1 : x_tg w a = some (t, n)) (ht : 30 ≤ t) (h2 : ¬ x < 0) (h3 : x.toNatClampNeg < n) : WP P 33 18 lo (.int x :: .ref a :: r) w Q ↔ WP P 33 19 lo (x_fd w a x.toNatClampNeg :: r) w Q := W_aald rfl h1 ht h2 h3 rfl
theorem wK_destroyTable_19 : WP P 33 19 lo (.ref a :: r) w Q ↔ (3 < lo.length ∧ WP P 33 20 (lo.set 3 (some (.ref a))) r w Q) := W_astore_n rfl rfl rfl
theorem wK_destroyTable_19n : WP P 33 19 lo (.null :: r) w Q ↔ (3 < lo.length ∧ WP P 33 20 (lo.set 3 (some .null)) r w Q) := W_astore_nN rfl rfl rfl
theorem wK_destroyTable_20 : WP P 33 20 lo st w Q ↔ x_ga lo[3]? (fun v => WP P 33 21 lo (v :: st) w Q) := W_aload_n rfl rfl rfl
theorem wK_destroyTable_21n : WP P 33 21 lo (.null :: r) w Q ↔ WP P 33 29 lo r w Q := W_ifnull_n rfl rfl
theorem wK_destroyTable_21 : WP P 33 21 lo (.ref a :: r) w Q ↔ WP P 33 24 lo r w Q := W_ifnull_r rfl rfl rfl
theorem wK_destroyTable_24 : WP P 33 24 lo st w Q ↔ x_ga lo[3]? (fun v => WP P 33 25 lo (v :: st) w Q) := W_aload_n rfl rfl rfl
theorem wK_destroyTable_25 : WP P 33 25 lo st w Q ↔ WP P 33 26 lo (.int (xi 1) :: st) w Q := W_iconst rfl rfl rfl
theorem wK_destroyTable_26 : WP P 33 26 lo (v1 :: .ref a :: r) w Q ↔ ((x_has w a [1] ∧ x_fit 1 v1 = true) ∧ WP P 33 29 lo r (x_put w a 7 v1) Q) := W_put rfl rfl (by decide) rfl
theorem wK_destroyTable_29 : WP P 33 29 lo st w Q ↔ x_gi lo[2]? (fun x => WP P 33 32 (lo.set 2 (some (.int (x + xi 1)))) st w Q) := W_iinc rfl rfl
theorem wK_destroyTable_32 : WP P 33 32 lo st w Q ↔ WP P 33 2 lo st w Q := W_goto rfl rfl
theorem wK_destroyTable_35 : WP P 33 35 lo st w Q ↔ WP P 33 36 lo (.int (xi 0) :: st) w Q := W_iconst rfl rfl rfl
theorem wK_destroyTable_36 : WP P 33 36 lo (.int x :: r) w Q ↔ (2 < lo.length ∧ WP P 33 37 (lo.set 2 (some (.int x))) r w Q) := W_istore_n rfl rfl rfl
theorem wK_destroyTable_37 : WP P 33 37 lo st w Q ↔ x_gi lo[2]? (fun x => WP P 33 38 lo (.int x :: st) w Q) := W_iload_n rfl rfl rfl
theorem wK_destroyTable_38 : WP P 33 38 lo st w Q ↔ WP P 33 40 lo (.int (xi 16) :: st) w Q := W_bipush rfl rfl (by decide)
theorem wK_destroyTable_40 : WP P 33 40 lo (.int y :: .int x :: r) w Q ↔ (if x < y then WP P 33 43 lo r w Q else WP P 33 73 lo r w Q) := W_ic_ge rfl rfl rfl
theorem wK_destroyTable_43 : WP P 33 43 lo st w Q ↔ x_ga lo[0]? (fun v => WP P 33 44 lo (v :: st) w Q) := W_aload_n rfl rfl rfl
theorem wK_destroyTable_44 : WP P 33 44 lo (.ref a :: r) w Q ↔ (x_has w a [0] ∧ WP P 33 47 lo (x_fd w a 1 :: r) w Q) := W_get rfl rfl rfl
theorem wK_destroyTable_47 : WP P 33 47 lo st w Q ↔ x_gi lo[2]? (fun x => WP P 33 48 lo (.int x :: st) w Q) := W_iload_n rfl rfl rfl
theorem wK_destroyTable_48 {t n : Nat} (h1 : x_tg w a = some (t, n)) (ht : 30 ≤ t) (h2 : ¬ x < 0) (h3 : x.toNatClampNeg < n) : WP P 33 48 lo (.int x :: .ref a :: r) w Q ↔ WP P 33 49 lo (x_fd w a x.toNatClampNeg :: r) w Q := W_aald rfl h1 ht h2 h3 rfl
theorem wK_destroyTable_49 : WP P 33 49 lo (.ref a :: r) w Q ↔ (3 < lo.length ∧ WP P 33 50 (lo.set 3 (some (.ref a))) r w Q) := W_astore_n rfl rfl rfl
theorem wK_destroyTable_49n : WP P 33 49 lo (.null :: r) w Q ↔ (3 < lo.length ∧ WP P 33 50 (lo.set 3 (some .null)) r w Q) := W_astore_nN rfl rfl rfl
theorem wK_destroyTable_50 : WP P 33 50 lo st w Q ↔ x_ga lo[3]? (fun v => WP P 33 51 lo (v :: st) w Q) := W_aload_n rfl rfl rfl
theorem wK_destroyTable_51n : WP P 33 51 lo (.null :: r) w Q ↔ WP P 33 67 lo r w Q := W_ifnull_n rfl rfl
theorem wK_destroyTable_51 : WP P 33 51 lo (.ref a :: r) w Q ↔ WP P 33 54 lo r w Q := W_ifnull_r rfl rfl rfl
theorem wK_destroyTable_54 : WP P 33 54 lo st w Q ↔ x_ga lo[3]? (fun v => WP P 33 55 lo (v :: st) w Q) := W_aload_n rfl rfl rfl
theorem wK_destroyTable_55 : WP P 33 55 lo (.ref a :: r) w Q ↔ (x_has w a [2] ∧ WP P 33 58 lo (x_fd w a 2 :: r) w Q) := W_get rfl rfl rfl
theorem wK_destroyTable_58 : WP P 33 58 lo st w Q ↔ x_ga lo[1]? (fun v => WP P 33 59 lo (v :: st) w Q) := W_aload_n rfl rfl rfl
theorem wK_destroyTable_59 {q1 q2 : Option Nat} (h1 : x_rv v2 = some q1) (h2 : x_rv v1 = some q2) : WP P 33 59 lo (v1 :: v2 :: r) w Q ↔ (if q1 = q2 then WP P 33 62 lo r w Q else WP P 33 67 lo r w Q) := W_acmp_ne rfl rfl rfl h1 h2
theorem wK_destroyTable_62 : WP P 33 62 lo st w Q ↔ x_ga lo[3]? (fun v => WP P 33 63 lo (v :: st) w Q) := W_aload_n rfl rfl rfl
theorem wK_destroyTable_63 : WP P 33 63 lo st w Q ↔ WP P 33 64 lo (.null :: st) w Q := W_null rfl rfl
theorem wK_destroyTable_64 : WP P 33 64 lo (v1 :: .ref a :: r) w Q ↔ ((x_has w a [2] ∧ x_fit 2 v1 = true) ∧ WP P 33 67 lo r (x_put w a 2 v1) Q) := W_put rfl rfl (by decide) rfl
theorem wK_destroyTable_67 : WP P 33 67 lo st w Q ↔ x_gi lo[2]? (fun x => WP P 33 70 (lo.set 2 (some (.int (x + xi 1)))) st w Q) := W_iinc rfl rfl
theorem wK_destroyTable_70 : WP P 33 70 lo st w Q ↔ WP P 33 37 lo st w Q := W_goto rfl rfl
theorem wK_destroyTable_73 : WP P 33 73 lo [] w Q ↔ Q none w := WP_ret rfl rfl
-- 34 K_stopAllAt
theorem wK_stopAllAt_0 : WP P 34 0 lo st w Q ↔ WP P 34 1 lo (.int (xi 0) :: st) w Q := W_iconst rfl rfl rfl
theorem wK_stopAllAt_1 : WP P 34 1 lo (.int x :: r) w Q ↔ (2 < lo.length ∧ WP P 34 2 (lo.set 2 (some (.int x))) r w Q) := W_istore_n rfl rfl rfl
theorem wK_stopAllAt_2 : WP P 34 2 lo st w Q ↔ x_gi lo[2]? (fun x => WP P 34 3 lo (.int x :: st) w Q) := W_iload_n rfl rfl rfl
theorem wK_stopAllAt_3 : WP P 34 3 lo st w Q ↔ WP P 34 5 lo (.int (xi 16) :: st) w Q := W_bipush rfl rfl (by decide)
theorem wK_stopAllAt_5 : WP P 34 5 lo (.int y :: .int x :: r) w Q ↔ (if x < y then WP P 34 8 lo r w Q else WP P 34 37 lo r w Q) := W_ic_ge rfl rfl rfl
theorem wK_stopAllAt_8 : WP P 34 8 lo st w Q ↔ x_ga lo[0]? (fun v => WP P 34 9 lo (v :: st) w Q) := W_aload_n rfl rfl rfl
theorem wK_stopAllAt_9 : WP P 34 9 lo (.ref a :: r) w Q ↔ (x_has w a [0] ∧ WP P 34 12 lo (x_fd w a 1 :: r) w Q) := W_get rfl rfl rfl
theorem wK_stopAllAt_12 : WP P 34 12 lo st w Q ↔ x_gi lo[2]? (fun x => WP P 34 13 lo (.int x :: st) w Q) := W_iload_n rfl rfl rfl
theorem wK_stopAllAt_13 {t n : Nat} (h1 : x_tg w a = some (t, n)) (ht : 30 ≤ t) (h2 : ¬ x < 0) (h3 : x.toNatClampNeg < n) : WP P 34 13 lo (.int x :: .ref a :: r) w Q ↔ WP P 34 14 lo (x_fd w a x.toNatClampNeg :: r) w Q := W_aald rfl h1 ht h2 h3 rfl
theorem wK_stopAllAt_14 : WP P 34 14 lo (.ref a :: r) w Q ↔ (3 < lo.length ∧ WP P 34 15 (lo.set 3 (some (.ref a))) r w Q) := W_astore_n rfl rfl rfl
theorem wK_stopAllAt_14n : WP P 34 14 lo (.null :: r) w Q ↔ (3 < lo.length ∧ WP P 34 15 (lo.set 3 (some .null)) r w Q) := W_astore_nN rfl rfl rfl
theorem wK_stopAllAt_15 : WP P 34 15 lo st w Q ↔ x_ga lo[3]? (fun v => WP P 34 16 lo (v :: st) w Q) := W_aload_n rfl rfl rfl
theorem wK_stopAllAt_16n : WP P 34 16 lo (.null :: r) w Q ↔ WP P 34 31 lo r w Q := W_ifnull_n rfl rfl
theorem wK_stopAllAt_16 : WP P 34 16 lo (.ref a :: r) w Q ↔ WP P 34 19 lo r w Q := W_ifnull_r rfl rfl rfl
theorem wK_stopAllAt_19 : WP P 34 19 lo st w Q ↔ x_ga lo[3]? (fun v => WP P 34 20 lo (v :: st) w Q) := W_aload_n rfl rfl rfl
theorem wK_stopAllAt_20 : WP P 34 20 lo (.ref a :: r) w Q ↔ (x_has w a [2] ∧ WP P 34 23 lo (x_fd w a 10 :: r) w Q) := W_get rfl rfl rfl
theorem wK_stopAllAt_23 : WP P 34 23 lo st w Q ↔ x_ga lo[1]? (fun v => WP P 34 24 lo (v :: st) w Q) := W_aload_n rfl rfl rfl
theorem wK_stopAllAt_24 {q1 q2 : Option Nat} (h1 : x_rv v2 = some q1) (h2 : x_rv v1 = some q2) : WP P 34 24 lo (v1 :: v2 :: r) w Q ↔ (if q1 = q2 then WP P 34 27 lo r w Q else WP P 34 31 lo r w Q) := W_acmp_ne rfl rfl rfl h1 h2
theorem wK_stopAllAt_27 : WP P 34 27 lo st w Q ↔ x_ga lo[3]? (fun v => WP P 34 28 lo (v :: st) w Q) := W_aload_n rfl rfl rfl
theorem wK_stopAllAt_28 {u1 : Value} (hr : r.length ≤ 8) (hc : ([u1] : List Value).all x_cat1 = true) (hc2 : r.all x_cat1 = true) (k : WP P 35 0 [some u1] [] w (fun v w1 => WP P 34 31 lo (v.toList ++ r) w1 Q)) : WP P 34 28 lo (u1 :: r) w Q := K_stat (as := [u1]) rfl rfl rfl rfl (by decide) (by decide) rfl hr hc hc2 k
theorem wK_stopAllAt_31 : WP P 34 31 lo st w Q ↔ x_gi lo[2]? (fun x => WP P 34 34 (lo.set 2 (some (.int (x + xi 1)))) st w Q) := W_iinc rfl rfl
theorem wK_stopAllAt_34 : WP P 34 34 lo st w Q ↔ WP P 34 2 lo st w Q := W_goto rfl rfl
theorem wK_stopAllAt_37 : WP P 34 37 lo [] w Q ↔ Q none w := WP_ret rfl rfl
-- 35 K_becomeStopped
theorem wK_becomeStopped_0 : WP P 35 0 lo st w Q ↔ x_ga lo[0]? (fun v => WP P 35 1 lo (v :: st) w Q) := W_aload_n rfl rfl rfl
theorem wK_becomeStopped_1 {u1 : Value} (hr : r.length ≤ 8) (hc : ([u1] : List Value).all x_cat1 = true) (hc2 : r.all x_cat1 = true) (k : WP P 6 0 [some u1, none, none, none] [] w (fun v w1 => WP P 35 4 lo (v.toList ++ r) w1 Q)) : WP P 35 1 lo (u1 :: r) w Q := K_stat (as := [u1]) rfl rfl rfl rfl (by decide) (by decide) rfl hr hc hc2 k
theorem wK_becomeStopped_4 : WP P 35 4 lo st w Q ↔ x_ga lo[0]? (fun v => WP P 35 5 lo (v :: st) w Q) := W_aload_n rfl rfl rfl
theorem wK_becomeStopped_5 : WP P 35 5 lo st w Q ↔ WP P 35 6 lo (.int (xi 1) :: st) w Q := W_iconst rfl rfl rfl
theorem wK_becomeStopped_6 : WP P 35 6 lo (v1 :: .ref a :: r) w Q ↔ ((x_has w a [2] ∧ x_fit 0 v1 = true) ∧ WP P 35 9 lo r (x_put w a 5 v1) Q) := W_put rfl rfl (by decide) rfl
theorem wK_becomeStopped_9 : WP P 35 9 lo [] w Q ↔ Q none w := WP_ret rfl rfl
-- 36 K_unbindAll
theorem wK_unbindAll_0 : WP P 36 0 lo st w Q ↔ WP P 36 1 lo (.int (xi 0) :: st) w Q := W_iconst rfl rfl rfl
theorem wK_unbindAll_1 : WP P 36 1 lo (.int x :: r) w Q ↔ (2 < lo.length ∧ WP P 36 2 (lo.set 2 (some (.int x))) r w Q) := W_istore_n rfl rfl rfl
theorem wK_unbindAll_2 : WP P 36 2 lo st w Q ↔ x_gi lo[2]? (fun x => WP P 36 3 lo (.int x :: st) w Q) := W_iload_n rfl rfl rfl
theorem wK_unbindAll_3 : WP P 36 3 lo st w Q ↔ WP P 36 4 lo (.int (xi 4) :: st) w Q := W_iconst rfl rfl rfl
theorem wK_unbindAll_4 : WP P 36 4 lo (.int y :: .int x :: r) w Q ↔ (if x < y then WP P 36 7 lo r w Q else WP P 36 30 lo r w Q) := W_ic_ge rfl rfl rfl
theorem wK_unbindAll_7 : WP P 36 7 lo st w Q ↔ x_ga lo[0]? (fun v => WP P 36 8 lo (v :: st) w Q) := W_aload_n rfl rfl rfl
theorem wK_unbindAll_8 : WP P 36 8 lo (.ref a :: r) w Q ↔ (x_has w a [0] ∧ WP P 36 11 lo (x_fd w a 3 :: r) w Q) := W_get rfl rfl rfl
theorem wK_unbindAll_11 : WP P 36 11 lo st w Q ↔ x_gi lo[2]? (fun x => WP P 36 12 lo (.int x :: st) w Q) := W_iload_n rfl rfl rfl
theorem wK_unbindAll_12 {t n : Nat} (h1 : x_tg w a = some (t, n)) (ht : 30 ≤ t) (h2 : ¬ x < 0) (h3 : x.toNatClampNeg < n) : WP P 36 12 lo (.int x :: .ref a :: r) w Q ↔ WP P 36 13 lo (x_fd w a x.toNatClampNeg :: r) w Q := W_aald rfl h1 ht h2 h3 rfl
theorem wK_unbindAll_13 : WP P 36 13 lo st w Q ↔ x_ga lo[1]? (fun v => WP P 36 14 lo (v :: st) w Q) := W_aload_n rfl rfl rfl
theorem wK_unbindAll_14 {q1 q2 : Option Nat} (h1 : x_rv v2 = some q1) (h2 : x_rv v1 = some q2) : WP P 36 14 lo (v1 :: v2 :: r) w Q ↔ (if q1 = q2 then WP P 36 17 lo r w Q else WP P 36 24 lo r w Q) := W_acmp_ne rfl rfl rfl h1 h2
theorem wK_unbindAll_17 : WP P 36 17 lo st w Q ↔ x_ga lo[0]? (fun v => WP P 36 18 lo (v :: st) w Q) := W_aload_n rfl rfl rfl
theorem wK_unbindAll_18 : WP P 36 18 lo (.ref a :: r) w Q ↔ (x_has w a [0] ∧ WP P 36 21 lo (x_fd w a 3 :: r) w Q) := W_get rfl rfl rfl
theorem wK_unbindAll_21 : WP P 36 21 lo st w Q ↔ x_gi lo[2]? (fun x => WP P 36 22 lo (.int x :: st) w Q) := W_iload_n rfl rfl rfl
theorem wK_unbindAll_22 : WP P 36 22 lo st w Q ↔ WP P 36 23 lo (.null :: st) w Q := W_null rfl rfl
theorem wK_unbindAll_23n {t n : Nat} (h1 : x_tg w a = some (t, n)) (ht : 30 ≤ t) (h2 : ¬ x < 0) (h3 : x.toNatClampNeg < n) : WP P 36 23 lo (.null :: .int x :: .ref a :: r) w Q ↔ WP P 36 24 lo r (x_put w a x.toNatClampNeg .null) Q := W_aast_n rfl h1 ht h2 h3 rfl
theorem wK_unbindAll_23 {b t n nb : Nat} (h1 : x_tg w a = some (30 + t, n)) (hv : x_tg w b = some (t, nb)) (ht : t < 20) (h2 : ¬ x < 0) (h3 : x.toNatClampNeg < n) : WP P 36 23 lo (.ref b :: .int x :: .ref a :: r) w Q ↔ WP P 36 24 lo r (x_put w a x.toNatClampNeg (.ref b)) Q := W_aast_r rfl h1 hv ht h2 h3 rfl
theorem wK_unbindAll_24 : WP P 36 24 lo st w Q ↔ x_gi lo[2]? (fun x => WP P 36 27 (lo.set 2 (some (.int (x + xi 1)))) st w Q) := W_iinc rfl rfl
theorem wK_unbindAll_27 : WP P 36 27 lo st w Q ↔ WP P 36 2 lo st w Q := W_goto rfl rfl
theorem wK_unbindAll_30 : WP P 36 30 lo [] w Q ↔ Q none w := WP_ret rfl rfl
-- 37 K_destroySpace
theorem wK_destroySpace_0 : WP P 37 0 lo st w Q ↔ WP P 37 1 lo (.int (xi 0) :: st) w Q := W_iconst rfl rfl rfl
theorem wK_destroySpace_1 : WP P 37 1 lo (.int x :: r) w Q ↔ (2 < lo.length ∧ WP P 37 2 (lo.set 2 (some (.int x))) r w Q) := W_istore_n rfl rfl rfl
theorem wK_destroySpace_2 : WP P 37 2 lo st w Q ↔ x_gi lo[2]? (fun x => WP P 37 3 lo (.int x :: st) w Q) := W_iload_n rfl rfl rfl
theorem wK_destroySpace_3 : WP P 37 3 lo st w Q ↔ WP P 37 5 lo (.int (xi 16) :: st) w Q := W_bipush rfl rfl (by decide)
theorem wK_destroySpace_5 : WP P 37 5 lo (.int y :: .int x :: r) w Q ↔ (if x < y then WP P 37 8 lo r w Q else WP P 37 38 lo r w Q) := W_ic_ge rfl rfl rfl
theorem wK_destroySpace_8 : WP P 37 8 lo st w Q ↔ x_ga lo[0]? (fun v => WP P 37 9 lo (v :: st) w Q) := W_aload_n rfl rfl rfl
theorem wK_destroySpace_9 : WP P 37 9 lo (.ref a :: r) w Q ↔ (x_has w a [0] ∧ WP P 37 12 lo (x_fd w a 1 :: r) w Q) := W_get rfl rfl rfl
theorem wK_destroySpace_12 : WP P 37 12 lo st w Q ↔ x_gi lo[2]? (fun x => WP P 37 13 lo (.int x :: st) w Q) := W_iload_n rfl rfl rfl
theorem wK_destroySpace_13 {t n : Nat} (h1 : x_tg w a = some (t, n)) (ht : 30 ≤ t) (h2 : ¬ x < 0) (h3 : x.toNatClampNeg < n) : WP P 37 13 lo (.int x :: .ref a :: r) w Q ↔ WP P 37 14 lo (x_fd w a x.toNatClampNeg :: r) w Q := W_aald rfl h1 ht h2 h3 rfl
theorem wK_destroySpace_14 : WP P 37 14 lo (.ref a :: r) w Q ↔ (3 < lo.length ∧ WP P 37 15 (lo.set 3 (some (.ref a))) r w Q) := W_astore_n rfl rfl rfl
theorem wK_destroySpace_14n : WP P 37 14 lo (.null :: r) w Q ↔ (3 < lo.length ∧ WP P 37 15 (lo.set 3 (some .null)) r w Q) := W_astore_nN rfl rfl rfl
theorem wK_destroySpace_15 : WP P 37 15 lo st w Q ↔ x_ga lo[3]? (fun v => WP P 37 16 lo (v :: st) w Q) := W_aload_n rfl rfl rfl
theorem wK_destroySpace_16n : WP P 37 16 lo (.null :: r) w Q ↔ WP P 37 32 lo r w Q := W_ifnull_n rfl rfl
theorem wK_destroySpace_16 : WP P 37 16 lo (.ref a :: r) w Q ↔ WP P 37 19 lo r w Q := W_ifnull_r rfl rfl rfl
theorem wK_destroySpace_19 : WP P 37 19 lo st w Q ↔ x_ga lo[3]? (fun v => WP P 37 20 lo (v :: st) w Q) := W_aload_n rfl rfl rfl
theorem wK_destroySpace_20 : WP P 37 20 lo (.ref a :: r) w Q ↔ (x_has w a [2] ∧ WP P 37 23 lo (x_fd w a 3 :: r) w Q) := W_get rfl rfl rfl
theorem wK_destroySpace_23 : WP P 37 23 lo st w Q ↔ x_ga lo[1]? (fun v => WP P 37 24 lo (v :: st) w Q) := W_aload_n rfl rfl rfl
theorem wK_destroySpace_24 {q1 q2 : Option Nat} (h1 : x_rv v2 = some q1) (h2 : x_rv v1 = some q2) : WP P 37 24 lo (v1 :: v2 :: r) w Q ↔ (if q1 = q2 then WP P 37 27 lo r w Q else WP P 37 32 lo r w Q) := W_acmp_ne rfl rfl rfl h1 h2
theorem wK_destroySpace_27 : WP P 37 27 lo st w Q ↔ x_ga lo[3]? (fun v => WP P 37 28 lo (v :: st) w Q) := W_aload_n rfl rfl rfl
theorem wK_destroySpace_28 : WP P 37 28 lo st w Q ↔ WP P 37 29 lo (.null :: st) w Q := W_null rfl rfl
theorem wK_destroySpace_29 : WP P 37 29 lo (v1 :: .ref a :: r) w Q ↔ ((x_has w a [2] ∧ x_fit 2 v1 = true) ∧ WP P 37 32 lo r (x_put w a 3 v1) Q) := W_put rfl rfl (by decide) rfl
theorem wK_destroySpace_32 : WP P 37 32 lo st w Q ↔ x_gi lo[2]? (fun x => WP P 37 35 (lo.set 2 (some (.int (x + xi 1)))) st w Q) := W_iinc rfl rfl
theorem wK_destroySpace_35 : WP P 37 35 lo st w Q ↔ WP P 37 2 lo st w Q := W_goto rfl rfl
theorem wK_destroySpace_38 : WP P 37 38 lo st w Q ↔ WP P 37 39 lo (.int (xi 0) :: st) w Q := W_iconst rfl rfl rfl
theorem wK_destroySpace_39 : WP P 37 39 lo (.int x :: r) w Q ↔ (2 < lo.length ∧ WP P 37 40 (lo.set 2 (some (.int x))) r w Q) := W_istore_n rfl rfl rfl
theorem wK_destroySpace_40 : WP P 37 40 lo st w Q ↔ x_gi lo[2]? (fun x => WP P 37 41 lo (.int x :: st) w Q) := W_iload_n rfl rfl rfl
theorem wK_destroySpace_41 : WP P 37 41 lo st w Q ↔ WP P 37 42 lo (.int (xi 4) :: st) w Q := W_iconst rfl rfl rfl
theorem wK_destroySpace_42 : WP P 37 42 lo (.int y :: .int x :: r) w Q ↔ (if x < y then WP P 37 45 lo r w Q else WP P 37 66 lo r w Q) := W_ic_ge rfl rfl rfl
theorem wK_destroySpace_45 : WP P 37 45 lo st w Q ↔ x_ga lo[1]? (fun v => WP P 37 46 lo (v :: st) w Q) := W_aload_n rfl rfl rfl
theorem wK_destroySpace_46 : WP P 37 46 lo (.ref a :: r) w Q ↔ (x_has w a [8] ∧ WP P 37 49 lo (x_fd w a 2 :: r) w Q) := W_get rfl rfl rfl
theorem wK_destroySpace_49 : WP P 37 49 lo st w Q ↔ x_gi lo[2]? (fun x => WP P 37 50 lo (.int x :: st) w Q) := W_iload_n rfl rfl rfl
theorem wK_destroySpace_50 {t n : Nat} (h1 : x_tg w a = some (t, n)) (ht : 30 ≤ t) (h2 : ¬ x < 0) (h3 : x.toNatClampNeg < n) : WP P 37 50 lo (.int x :: .ref a :: r) w Q ↔ WP P 37 51 lo (x_fd w a x.toNatClampNeg :: r) w Q := W_aald rfl h1 ht h2 h3 rfl
theorem wK_destroySpace_51 : WP P 37 51 lo (.ref a :: r) w Q ↔ (3 < lo.length ∧ WP P 37 52 (lo.set 3 (some (.ref a))) r w Q) := W_astore_n rfl rfl rfl
theorem wK_destroySpace_51n : WP P 37 51 lo (.null :: r) w Q ↔ (3 < lo.length ∧ WP P 37 52 (lo.set 3 (some .null)) r w Q) := W_astore_nN rfl rfl rfl
theorem wK_destroySpace_52 : WP P 37 52 lo st w Q ↔ x_ga lo[3]? (fun v => WP P 37 53 lo (v :: st) w Q) := W_aload_n rfl rfl rfl
theorem wK_destroySpace_53n : WP P 37 53 lo (.null :: r) w Q ↔ WP P 37 60 lo r w Q := W_ifnull_n rfl rfl
theorem wK_destroySpace_53 : WP P 37 53 lo (.ref a :: r) w Q ↔ WP P 37 56 lo r w Q := W_ifnull_r rfl rfl rfl
theorem wK_destroySpace_56 : WP P 37 56 lo st w Q ↔ x_ga lo[3]? (fun v => WP P 37 57 lo (v :: st) w Q) := W_aload_n rfl rfl rfl
theorem wK_destroySpace_57 {u1 : Value} (hr : r.length ≤ 8) (hc : ([u1] : List Value).all x_cat1 = true) (hc2 : r.all x_cat1 = true) (k : WP P 38 0 [some u1] [] w (fun v w1 => WP P 37 60 lo (v.toList ++ r) w1 Q)) : WP P 37 57 lo (u1 :: r) w Q := K_stat (as := [u1]) rfl rfl rfl rfl (by decide) (by decide) rfl hr hc hc2 k
theorem wK_destroySpace_60 : WP P 37 60 lo st w Q ↔ x_gi lo[2]? (fun x => WP P 37 63 (lo.set 2 (some (.int (x + xi 1)))) st w Q) := W_iinc rfl rfl
theorem wK_destroySpace_63 : WP P 37 63 lo st w Q ↔ WP P 37 40 lo st w Q := W_goto rfl rfl
theorem wK_destroySpace_66 : WP P 37 66 lo [] w Q ↔ Q none w := WP_ret rfl rfl
-- 38 K_leaveSpace
theorem wK_leaveSpace_0 : WP P 38 0 lo st w Q ↔ x_ga lo[0]? (fun v => WP P 38 1 lo (v :: st) w Q) := W_aload_n rfl rfl rfl
theorem wK_leaveSpace_1 : WP P 38 1 lo (.ref a :: r) w Q ↔ (x_has w a [9] ∧ WP P 38 4 lo (x_fd w a 2 :: r) w Q) := W_get rfl rfl rfl
theorem wK_leaveSpace_4n : WP P 38 4 lo (.null :: r) w Q ↔ WP P 38 25 lo r w Q := W_ifnull_n rfl rfl
theorem wK_leaveSpace_4 : WP P 38 4 lo (.ref a :: r) w Q ↔ WP P 38 7 lo r w Q := W_ifnull_r rfl rfl rfl
theorem wK_leaveSpace_7 : WP P 38 7 lo st w Q ↔ x_ga lo[0]? (fun v => WP P 38 8 lo (v :: st) w Q) := W_aload_n rfl rfl rfl
theorem wK_leaveSpace_8 : WP P 38 8 lo (.ref a :: r) w Q ↔ (x_has w a [9] ∧ WP P 38 11 lo (x_fd w a 2 :: r) w Q) := W_get rfl rfl rfl
theorem wK_leaveSpace_11 : WP P 38 11 lo (.ref a :: r) w Q ↔ (x_has w a [8] ∧ WP P 38 14 lo (x_fd w a 2 :: r) w Q) := W_get rfl rfl rfl
theorem wK_leaveSpace_14 : WP P 38 14 lo st w Q ↔ x_ga lo[0]? (fun v => WP P 38 15 lo (v :: st) w Q) := W_aload_n rfl rfl rfl
theorem wK_leaveSpace_15 : WP P 38 15 lo (.ref a :: r) w Q ↔ (x_has w a [9] ∧ WP P 38 18 lo (x_fd w a 3 :: r) w Q) := W_get rfl rfl rfl
theorem wK_leaveSpace_18 : WP P 38 18 lo st w Q ↔ WP P 38 19 lo (.null :: st) w Q := W_null rfl rfl
theorem wK_leaveSpace_19n {t n : Nat} (h1 : x_tg w a = some (t, n)) (ht : 30 ≤ t) (h2 : ¬ x < 0) (h3 : x.toNatClampNeg < n) : WP P 38 19 lo (.null :: .int x :: .ref a :: r) w Q ↔ WP P 38 20 lo r (x_put w a x.toNatClampNeg .null) Q := W_aast_n rfl h1 ht h2 h3 rfl
theorem wK_leaveSpace_19 {b t n nb : Nat} (h1 : x_tg w a = some (30 + t, n)) (hv : x_tg w b = some (t, nb)) (ht : t < 20) (h2 : ¬ x < 0) (h3 : x.toNatClampNeg < n) : WP P 38 19 lo (.ref b :: .int x :: .ref a :: r) w Q ↔ WP P 38 20 lo r (x_put w a x.toNatClampNeg (.ref b)) Q := W_aast_r rfl h1 hv ht h2 h3 rfl
theorem wK_leaveSpace_20 : WP P 38 20 lo st w Q ↔ x_ga lo[0]? (fun v => WP P 38 21 lo (v :: st) w Q) := W_aload_n rfl rfl rfl
theorem wK_leaveSpace_21 : WP P 38 21 lo st w Q ↔ WP P 38 22 lo (.null :: st) w Q := W_null rfl rfl
theorem wK_leaveSpace_22 : WP P 38 22 lo (v1 :: .ref a :: r) w Q ↔ ((x_has w a [9] ∧ x_fit 2 v1 = true) ∧ WP P 38 25 lo r (x_put w a 2 v1) Q) := W_put rfl rfl (by decide) rfl
theorem wK_leaveSpace_25 : WP P 38 25 lo [] w Q ↔ Q none w := WP_ret rfl rfl
-- 39 K_destroyLeaf
theorem wK_destroyLeaf_0 : WP P 39 0 lo st w Q ↔ x_ga lo[0]? (fun v => WP P 39 1 lo (v :: st) w Q) := W_aload_n rfl rfl rfl
theorem wK_destroyLeaf_1 {u1 : Value} (hr : r.length ≤ 8) (hc : ([u1] : List Value).all x_cat1 = true) (hc2 : r.all x_cat1 = true) (k : WP P 38 0 [some u1] [] w (fun v w1 => WP P 39 4 lo (v.toList ++ r) w1 Q)) : WP P 39 1 lo (u1 :: r) w Q := K_stat (as := [u1]) rfl rfl rfl rfl (by decide) (by decide) rfl hr hc hc2 k
theorem wK_destroyLeaf_4 : WP P 39 4 lo st w Q ↔ WP P 39 5 lo (.int (xi 0) :: st) w Q := W_iconst rfl rfl rfl
theorem wK_destroyLeaf_5 : WP P 39 5 lo (.int x :: r) w Q ↔ (1 < lo.length ∧ WP P 39 6 (lo.set 1 (some (.int x))) r w Q) := W_istore_n rfl rfl rfl
theorem wK_destroyLeaf_6 : WP P 39 6 lo st w Q ↔ x_gi lo[1]? (fun x => WP P 39 7 lo (.int x :: st) w Q) := W_iload_n rfl rfl rfl
theorem wK_destroyLeaf_7 : WP P 39 7 lo st w Q ↔ WP P 39 8 lo (.int (xi 4) :: st) w Q := W_iconst rfl rfl rfl
theorem wK_destroyLeaf_8 : WP P 39 8 lo (.int y :: .int x :: r) w Q ↔ (if x < y then WP P 39 11 lo r w Q else WP P 39 32 lo r w Q) := W_ic_ge rfl rfl rfl
theorem wK_destroyLeaf_11 : WP P 39 11 lo st w Q ↔ x_ga lo[0]? (fun v => WP P 39 12 lo (v :: st) w Q) := W_aload_n rfl rfl rfl
theorem wK_destroyLeaf_12 : WP P 39 12 lo (.ref a :: r) w Q ↔ (x_has w a [9] ∧ WP P 39 15 lo (x_fd w a 4 :: r) w Q) := W_get rfl rfl rfl
theorem wK_destroyLeaf_15 : WP P 39 15 lo st w Q ↔ x_gi lo[1]? (fun x => WP P 39 16 lo (.int x :: st) w Q) := W_iload_n rfl rfl rfl
theorem wK_destroyLeaf_16 {t n : Nat} (h1 : x_tg w a = some (t, n)) (ht : 30 ≤ t) (h2 : ¬ x < 0) (h3 : x.toNatClampNeg < n) : WP P 39 16 lo (.int x :: .ref a :: r) w Q ↔ WP P 39 17 lo (x_fd w a x.toNatClampNeg :: r) w Q := W_aald rfl h1 ht h2 h3 rfl
theorem wK_destroyLeaf_17 : WP P 39 17 lo (.ref a :: r) w Q ↔ (2 < lo.length ∧ WP P 39 18 (lo.set 2 (some (.ref a))) r w Q) := W_astore_n rfl rfl rfl
theorem wK_destroyLeaf_17n : WP P 39 17 lo (.null :: r) w Q ↔ (2 < lo.length ∧ WP P 39 18 (lo.set 2 (some .null)) r w Q) := W_astore_nN rfl rfl rfl
theorem wK_destroyLeaf_18 : WP P 39 18 lo st w Q ↔ x_ga lo[2]? (fun v => WP P 39 19 lo (v :: st) w Q) := W_aload_n rfl rfl rfl
theorem wK_destroyLeaf_19n : WP P 39 19 lo (.null :: r) w Q ↔ WP P 39 26 lo r w Q := W_ifnull_n rfl rfl
theorem wK_destroyLeaf_19 : WP P 39 19 lo (.ref a :: r) w Q ↔ WP P 39 22 lo r w Q := W_ifnull_r rfl rfl rfl
theorem wK_destroyLeaf_22 : WP P 39 22 lo st w Q ↔ x_ga lo[2]? (fun v => WP P 39 23 lo (v :: st) w Q) := W_aload_n rfl rfl rfl
theorem wK_destroyLeaf_23 {u1 : Value} (hr : r.length ≤ 8) (hc : ([u1] : List Value).all x_cat1 = true) (hc2 : r.all x_cat1 = true) (k : WP P 30 0 [some u1] [] w (fun v w1 => WP P 39 26 lo (v.toList ++ r) w1 Q)) : WP P 39 23 lo (u1 :: r) w Q := K_stat (as := [u1]) rfl rfl rfl rfl (by decide) (by decide) rfl hr hc hc2 k
theorem wK_destroyLeaf_26 : WP P 39 26 lo st w Q ↔ x_gi lo[1]? (fun x => WP P 39 29 (lo.set 1 (some (.int (x + xi 1)))) st w Q) := W_iinc rfl rfl
theorem wK_destroyLeaf_29 : WP P 39 29 lo st w Q ↔ WP P 39 6 lo st w Q := W_goto rfl rfl
theorem wK_destroyLeaf_32 : WP P 39 32 lo [] w Q ↔ Q none w := WP_ret rfl rfl
-- 40 K_revoke
theorem wK_revoke_0 : WP P 40 0 lo st w Q ↔ x_ga lo[0]? (fun v => WP P 40 1 lo (v :: st) w Q) := W_aload_n rfl rfl rfl
theorem wK_revoke_1 {b nb : Nat} (hb : x_tg w b = some (0, nb)) (hr : r.length ≤ 8) (hc : ([] : List Value).all x_cat1 = true) (hc2 : r.all x_cat1 = true) (k : WP P 12 0 [some (.ref b), none] [] w (fun v w1 => WP P 40 4 lo (v.toList ++ r) w1 Q)) : WP P 40 1 lo (.ref b :: r) w Q := K_virt (as := []) rfl rfl rfl rfl (by decide) (by decide) rfl hb hr hc hc2 k
theorem wK_revoke_4 : WP P 40 4 lo (.ref a :: r) w Q ↔ (2 < lo.length ∧ WP P 40 5 (lo.set 2 (some (.ref a))) r w Q) := W_astore_n rfl rfl rfl
theorem wK_revoke_4n : WP P 40 4 lo (.null :: r) w Q ↔ (2 < lo.length ∧ WP P 40 5 (lo.set 2 (some .null)) r w Q) := W_astore_nN rfl rfl rfl
theorem wK_revoke_5 : WP P 40 5 lo st w Q ↔ x_ga lo[2]? (fun v => WP P 40 6 lo (v :: st) w Q) := W_aload_n rfl rfl rfl
theorem wK_revoke_6n : WP P 40 6 lo (.null :: r) w Q ↔ WP P 40 9 lo r w Q := W_ifnn_n rfl rfl rfl
theorem wK_revoke_6 : WP P 40 6 lo (.ref a :: r) w Q ↔ WP P 40 12 lo r w Q := W_ifnn_r rfl rfl
theorem wK_revoke_9 : WP P 40 9 lo st w Q ↔ WP P 40 11 lo (.int (xi 8) :: st) w Q := W_bipush rfl rfl (by decide)
theorem wK_revoke_11 : WP P 40 11 lo [.int x] w Q ↔ Q (some (.int x)) w := WP_ret rfl rfl
theorem wK_revoke_12 : WP P 40 12 lo st w Q ↔ x_ga lo[0]? (fun v => WP P 40 13 lo (v :: st) w Q) := W_aload_n rfl rfl rfl
theorem wK_revoke_13 : WP P 40 13 lo st w Q ↔ x_ga lo[2]? (fun v => WP P 40 14 lo (v :: st) w Q) := W_aload_n rfl rfl rfl
theorem wK_revoke_14 : WP P 40 14 lo st w Q ↔ x_gi lo[1]? (fun x => WP P 40 15 lo (.int x :: st) w Q) := W_iload_n rfl rfl rfl
theorem wK_revoke_15 {u1 u2 : Value} {b nb : Nat} (hb : x_tg w b = some (0, nb)) (hr : r.length ≤ 8) (hc : ([u1, u2] : List Value).all x_cat1 = true) (hc2 : r.all x_cat1 = true) (k : WP P 13 0 [some (.ref b), some u1, some u2, none] [] w (fun v w1 => WP P 40 18 lo (v.toList ++ r) w1 Q)) : WP P 40 15 lo (u2 :: u1 :: .ref b :: r) w Q := K_virt (as := [u1, u2]) rfl rfl rfl rfl (by decide) (by decide) rfl hb hr hc hc2 k
theorem wK_revoke_18 : WP P 40 18 lo (.ref a :: r) w Q ↔ (3 < lo.length ∧ WP P 40 19 (lo.set 3 (some (.ref a))) r w Q) := W_astore_n rfl rfl rfl
theorem wK_revoke_18n : WP P 40 18 lo (.null :: r) w Q ↔ (3 < lo.length ∧ WP P 40 19 (lo.set 3 (some .null)) r w Q) := W_astore_nN rfl rfl rfl
theorem wK_revoke_19 : WP P 40 19 lo st w Q ↔ x_ga lo[3]? (fun v => WP P 40 20 lo (v :: st) w Q) := W_aload_n rfl rfl rfl
theorem wK_revoke_20n : WP P 40 20 lo (.null :: r) w Q ↔ WP P 40 23 lo r w Q := W_ifnn_n rfl rfl rfl
theorem wK_revoke_20 : WP P 40 20 lo (.ref a :: r) w Q ↔ WP P 40 25 lo r w Q := W_ifnn_r rfl rfl
theorem wK_revoke_23 : WP P 40 23 lo st w Q ↔ WP P 40 24 lo (.int (xi 1) :: st) w Q := W_iconst rfl rfl rfl
theorem wK_revoke_24 : WP P 40 24 lo [.int x] w Q ↔ Q (some (.int x)) w := WP_ret rfl rfl
theorem wK_revoke_25 : WP P 40 25 lo st w Q ↔ WP P 40 26 lo (.int (xi 0) :: st) w Q := W_iconst rfl rfl rfl
theorem wK_revoke_26 : WP P 40 26 lo (.int x :: r) w Q ↔ (4 < lo.length ∧ WP P 40 28 (lo.set 4 (some (.int x))) r w Q) := W_istore rfl rfl
theorem wK_revoke_28 : WP P 40 28 lo st w Q ↔ x_gi lo[4]? (fun x => WP P 40 30 lo (.int x :: st) w Q) := W_iload rfl rfl
theorem wK_revoke_30 : WP P 40 30 lo st w Q ↔ WP P 40 33 lo (.int (xi 128) :: st) w Q := W_sipush rfl rfl (by decide)
theorem wK_revoke_33 : WP P 40 33 lo (.int y :: .int x :: r) w Q ↔ (if x < y then WP P 40 36 lo r w Q else WP P 40 71 lo r w Q) := W_ic_ge rfl rfl rfl
theorem wK_revoke_36 : WP P 40 36 lo st w Q ↔ x_ga lo[0]? (fun v => WP P 40 37 lo (v :: st) w Q) := W_aload_n rfl rfl rfl
theorem wK_revoke_37 : WP P 40 37 lo (.ref a :: r) w Q ↔ (x_has w a [0] ∧ WP P 40 40 lo (x_fd w a 0 :: r) w Q) := W_get rfl rfl rfl
theorem wK_revoke_40 : WP P 40 40 lo st w Q ↔ x_gi lo[4]? (fun x => WP P 40 42 lo (.int x :: st) w Q) := W_iload rfl rfl
theorem wK_revoke_42 {t n : Nat} (h1 : x_tg w a = some (t, n)) (ht : 30 ≤ t) (h2 : ¬ x < 0) (h3 : x.toNatClampNeg < n) : WP P 40 42 lo (.int x :: .ref a :: r) w Q ↔ WP P 40 43 lo (x_fd w a x.toNatClampNeg :: r) w Q := W_aald rfl h1 ht h2 h3 rfl
theorem wK_revoke_43 : WP P 40 43 lo (.ref a :: r) w Q ↔ (5 < lo.length ∧ WP P 40 45 (lo.set 5 (some (.ref a))) r w Q) := W_astore rfl rfl
theorem wK_revoke_43n : WP P 40 43 lo (.null :: r) w Q ↔ (5 < lo.length ∧ WP P 40 45 (lo.set 5 (some .null)) r w Q) := W_astoreN rfl rfl
theorem wK_revoke_45 : WP P 40 45 lo st w Q ↔ x_ga lo[5]? (fun v => WP P 40 47 lo (v :: st) w Q) := W_aload rfl rfl
theorem wK_revoke_47n : WP P 40 47 lo (.null :: r) w Q ↔ WP P 40 65 lo r w Q := W_ifnull_n rfl rfl
theorem wK_revoke_47 : WP P 40 47 lo (.ref a :: r) w Q ↔ WP P 40 50 lo r w Q := W_ifnull_r rfl rfl rfl
theorem wK_revoke_50 : WP P 40 50 lo st w Q ↔ x_ga lo[5]? (fun v => WP P 40 52 lo (v :: st) w Q) := W_aload rfl rfl
theorem wK_revoke_52 : WP P 40 52 lo st w Q ↔ x_ga lo[3]? (fun v => WP P 40 53 lo (v :: st) w Q) := W_aload_n rfl rfl rfl
theorem wK_revoke_53 {u1 u2 : Value} (hr : r.length ≤ 8) (hc : ([u1, u2] : List Value).all x_cat1 = true) (hc2 : r.all x_cat1 = true) (k : WP P 41 0 [some u1, some u2, none] [] w (fun v w1 => WP P 40 56 lo (v.toList ++ r) w1 Q)) : WP P 40 53 lo (u2 :: u1 :: r) w Q := K_stat (as := [u1, u2]) rfl rfl rfl rfl (by decide) (by decide) rfl hr hc hc2 k
theorem wK_revoke_56 : WP P 40 56 lo (.int x :: r) w Q ↔ (if x = xi 0 then WP P 40 65 lo r w Q else WP P 40 59 lo r w Q) := W_if_eq rfl rfl rfl
theorem wK_revoke_59 : WP P 40 59 lo st w Q ↔ x_ga lo[5]? (fun v => WP P 40 61 lo (v :: st) w Q) := W_aload rfl rfl
theorem wK_revoke_61 : WP P 40 61 lo st w Q ↔ WP P 40 62 lo (.int (xi 1) :: st) w Q := W_iconst rfl rfl rfl
theorem wK_revoke_62 : WP P 40 62 lo (v1 :: .ref a :: r) w Q ↔ ((x_has w a [1] ∧ x_fit 1 v1 = true) ∧ WP P 40 65 lo r (x_put w a 7 v1) Q) := W_put rfl rfl (by decide) rfl
theorem wK_revoke_65 : WP P 40 65 lo st w Q ↔ x_gi lo[4]? (fun x => WP P 40 68 (lo.set 4 (some (.int (x + xi 1)))) st w Q) := W_iinc rfl rfl
theorem wK_revoke_68 : WP P 40 68 lo st w Q ↔ WP P 40 28 lo st w Q := W_goto rfl rfl
theorem wK_revoke_71 : WP P 40 71 lo st w Q ↔ x_ga lo[0]? (fun v => WP P 40 72 lo (v :: st) w Q) := W_aload_n rfl rfl rfl
theorem wK_revoke_72 {b nb : Nat} (hb : x_tg w b = some (0, nb)) (hr : r.length ≤ 8) (hc : ([] : List Value).all x_cat1 = true) (hc2 : r.all x_cat1 = true) (k : WP P 28 0 [some (.ref b), none, none, none, none] [] w (fun v w1 => WP P 40 75 lo (v.toList ++ r) w1 Q)) : WP P 40 72 lo (.ref b :: r) w Q := K_virt (as := []) rfl rfl rfl rfl (by decide) (by decide) rfl hb hr hc hc2 k
theorem wK_revoke_75 : WP P 40 75 lo st w Q ↔ WP P 40 76 lo (.int (xi 0) :: st) w Q := W_iconst rfl rfl rfl
theorem wK_revoke_76 : WP P 40 76 lo [.int x] w Q ↔ Q (some (.int x)) w := WP_ret rfl rfl
-- 41 K_descendsFrom
theorem wK_descendsFrom_0 : WP P 41 0 lo st w Q ↔ x_ga lo[0]? (fun v => WP P 41 1 lo (v :: st) w Q) := W_aload_n rfl rfl rfl
theorem wK_descendsFrom_1 : WP P 41 1 lo (.ref a :: r) w Q ↔ (x_has w a [1] ∧ WP P 41 4 lo (x_fd w a 3 :: r) w Q) := W_get rfl rfl rfl
theorem wK_descendsFrom_4 : WP P 41 4 lo (.ref a :: r) w Q ↔ (2 < lo.length ∧ WP P 41 5 (lo.set 2 (some (.ref a))) r w Q) := W_astore_n rfl rfl rfl
theorem wK_descendsFrom_4n : WP P 41 4 lo (.null :: r) w Q ↔ (2 < lo.length ∧ WP P 41 5 (lo.set 2 (some .null)) r w Q) := W_astore_nN rfl rfl rfl
theorem wK_descendsFrom_5 : WP P 41 5 lo st w Q ↔ x_ga lo[2]? (fun v => WP P 41 6 lo (v :: st) w Q) := W_aload_n rfl rfl rfl
theorem wK_descendsFrom_6n : WP P 41 6 lo (.null :: r) w Q ↔ WP P 41 24 lo r w Q := W_ifnull_n rfl rfl
theorem wK_descendsFrom_6 : WP P 41 6 lo (.ref a :: r) w Q ↔ WP P 41 9 lo r w Q := W_ifnull_r rfl rfl rfl
theorem wK_descendsFrom_9 : WP P 41 9 lo st w Q ↔ x_ga lo[2]? (fun v => WP P 41 10 lo (v :: st) w Q) := W_aload_n rfl rfl rfl
theorem wK_descendsFrom_10 : WP P 41 10 lo st w Q ↔ x_ga lo[1]? (fun v => WP P 41 11 lo (v :: st) w Q) := W_aload_n rfl rfl rfl
theorem wK_descendsFrom_11 {q1 q2 : Option Nat} (h1 : x_rv v2 = some q1) (h2 : x_rv v1 = some q2) : WP P 41 11 lo (v1 :: v2 :: r) w Q ↔ (if q1 = q2 then WP P 41 14 lo r w Q else WP P 41 16 lo r w Q) := W_acmp_ne rfl rfl rfl h1 h2
theorem wK_descendsFrom_14 : WP P 41 14 lo st w Q ↔ WP P 41 15 lo (.int (xi 1) :: st) w Q := W_iconst rfl rfl rfl
theorem wK_descendsFrom_15 (h : x = 0 ∨ x = 1) : WP P 41 15 lo [.int x] w Q ↔ Q (some (.int x)) w := WP_ret rfl (if_pos (Or.inr ⟨rfl, h⟩))
theorem wK_descendsFrom_16 : WP P 41 16 lo st w Q ↔ x_ga lo[2]? (fun v => WP P 41 17 lo (v :: st) w Q) := W_aload_n rfl rfl rfl
theorem wK_descendsFrom_17 : WP P 41 17 lo (.ref a :: r) w Q ↔ (x_has w a [1] ∧ WP P 41 20 lo (x_fd w a 3 :: r) w Q) := W_get rfl rfl rfl
theorem wK_descendsFrom_20 : WP P 41 20 lo (.ref a :: r) w Q ↔ (2 < lo.length ∧ WP P 41 21 (lo.set 2 (some (.ref a))) r w Q) := W_astore_n rfl rfl rfl
theorem wK_descendsFrom_20n : WP P 41 20 lo (.null :: r) w Q ↔ (2 < lo.length ∧ WP P 41 21 (lo.set 2 (some .null)) r w Q) := W_astore_nN rfl rfl rfl
theorem wK_descendsFrom_21 : WP P 41 21 lo st w Q ↔ WP P 41 5 lo st w Q := W_goto rfl rfl
theorem wK_descendsFrom_24 : WP P 41 24 lo st w Q ↔ WP P 41 25 lo (.int (xi 0) :: st) w Q := W_iconst rfl rfl rfl
theorem wK_descendsFrom_25 (h : x = 0 ∨ x = 1) : WP P 41 25 lo [.int x] w Q ↔ Q (some (.int x)) w := WP_ret rfl (if_pos (Or.inr ⟨rfl, h⟩))
-- 42 K_configure
theorem wK_configure_0 : WP P 42 0 lo st w Q ↔ x_ga lo[0]? (fun v => WP P 42 1 lo (v :: st) w Q) := W_aload_n rfl rfl rfl
theorem wK_configure_1 {b nb : Nat} (hb : x_tg w b = some (0, nb)) (hr : r.length ≤ 8) (hc : ([] : List Value).all x_cat1 = true) (hc2 : r.all x_cat1 = true) (k : WP P 12 0 [some (.ref b), none] [] w (fun v w1 => WP P 42 4 lo (v.toList ++ r) w1 Q)) : WP P 42 1 lo (.ref b :: r) w Q := K_virt (as := []) rfl rfl rfl rfl (by decide) (by decide) rfl hb hr hc hc2 k
theorem wK_configure_4 : WP P 42 4 lo (.ref a :: r) w Q ↔ (5 < lo.length ∧ WP P 42 6 (lo.set 5 (some (.ref a))) r w Q) := W_astore rfl rfl
theorem wK_configure_4n : WP P 42 4 lo (.null :: r) w Q ↔ (5 < lo.length ∧ WP P 42 6 (lo.set 5 (some .null)) r w Q) := W_astoreN rfl rfl
theorem wK_configure_6 : WP P 42 6 lo st w Q ↔ x_ga lo[5]? (fun v => WP P 42 8 lo (v :: st) w Q) := W_aload rfl rfl
theorem wK_configure_8n : WP P 42 8 lo (.null :: r) w Q ↔ WP P 42 11 lo r w Q := W_ifnn_n rfl rfl rfl
theorem wK_configure_8 : WP P 42 8 lo (.ref a :: r) w Q ↔ WP P 42 14 lo r w Q := W_ifnn_r rfl rfl
theorem wK_configure_11 : WP P 42 11 lo st w Q ↔ WP P 42 13 lo (.int (xi 8) :: st) w Q := W_bipush rfl rfl (by decide)
theorem wK_configure_13 : WP P 42 13 lo [.int x] w Q ↔ Q (some (.int x)) w := WP_ret rfl rfl
theorem wK_configure_14 : WP P 42 14 lo st w Q ↔ x_ga lo[0]? (fun v => WP P 42 15 lo (v :: st) w Q) := W_aload_n rfl rfl rfl
theorem wK_configure_15 : WP P 42 15 lo st w Q ↔ x_ga lo[5]? (fun v => WP P 42 17 lo (v :: st) w Q) := W_aload rfl rfl
theorem wK_configure_17 : WP P 42 17 lo st w Q ↔ x_gi lo[1]? (fun x => WP P 42 18 lo (.int x :: st) w Q) := W_iload_n rfl rfl rfl
theorem wK_configure_18 {u1 u2 : Value} {b nb : Nat} (hb : x_tg w b = some (0, nb)) (hr : r.length ≤ 8) (hc : ([u1, u2] : List Value).all x_cat1 = true) (hc2 : r.all x_cat1 = true) (k : WP P 43 0 [some (.ref b), some u1, some u2, none, none, none] [] w (fun v w1 => WP P 42 21 lo (v.toList ++ r) w1 Q)) : WP P 42 18 lo (u2 :: u1 :: .ref b :: r) w Q := K_virt (as := [u1, u2]) rfl rfl rfl rfl (by decide) (by decide) rfl hb hr hc hc2 k
theorem wK_configure_21 : WP P 42 21 lo (.ref a :: r) w Q ↔ (6 < lo.length ∧ WP P 42 23 (lo.set 6 (some (.ref a))) r w Q) := W_astore rfl rfl
theorem wK_configure_21n : WP P 42 21 lo (.null :: r) w Q ↔ (6 < lo.length ∧ WP P 42 23 (lo.set 6 (some .null)) r w Q) := W_astoreN rfl rfl
theorem wK_configure_23 : WP P 42 23 lo st w Q ↔ x_ga lo[6]? (fun v => WP P 42 25 lo (v :: st) w Q) := W_aload rfl rfl
theorem wK_configure_25n : WP P 42 25 lo (.null :: r) w Q ↔ WP P 42 28 lo r w Q := W_ifnn_n rfl rfl rfl
theorem wK_configure_25 : WP P 42 25 lo (.ref a :: r) w Q ↔ WP P 42 30 lo r w Q := W_ifnn_r rfl rfl
theorem wK_configure_28 : WP P 42 28 lo st w Q ↔ WP P 42 29 lo (.int (xi 1) :: st) w Q := W_iconst rfl rfl rfl
theorem wK_configure_29 : WP P 42 29 lo [.int x] w Q ↔ Q (some (.int x)) w := WP_ret rfl rfl
theorem wK_configure_30 : WP P 42 30 lo st w Q ↔ x_ga lo[0]? (fun v => WP P 42 31 lo (v :: st) w Q) := W_aload_n rfl rfl rfl
theorem wK_configure_31 : WP P 42 31 lo st w Q ↔ x_ga lo[5]? (fun v => WP P 42 33 lo (v :: st) w Q) := W_aload rfl rfl
theorem wK_configure_33 : WP P 42 33 lo st w Q ↔ x_gi lo[2]? (fun x => WP P 42 34 lo (.int x :: st) w Q) := W_iload_n rfl rfl rfl
theorem wK_configure_34 {u1 u2 : Value} {b nb : Nat} (hb : x_tg w b = some (0, nb)) (hr : r.length ≤ 8) (hc : ([u1, u2] : List Value).all x_cat1 = true) (hc2 : r.all x_cat1 = true) (k : WP P 44 0 [some (.ref b), some u1, some u2, none, none, none] [] w (fun v w1 => WP P 42 37 lo (v.toList ++ r) w1 Q)) : WP P 42 34 lo (u2 :: u1 :: .ref b :: r) w Q := K_virt (as := [u1, u2]) rfl rfl rfl rfl (by decide) (by decide) rfl hb hr hc hc2 k
theorem wK_configure_37 : WP P 42 37 lo (.ref a :: r) w Q ↔ (7 < lo.length ∧ WP P 42 39 (lo.set 7 (some (.ref a))) r w Q) := W_astore rfl rfl
theorem wK_configure_37n : WP P 42 37 lo (.null :: r) w Q ↔ (7 < lo.length ∧ WP P 42 39 (lo.set 7 (some .null)) r w Q) := W_astoreN rfl rfl
theorem wK_configure_39 : WP P 42 39 lo st w Q ↔ x_ga lo[7]? (fun v => WP P 42 41 lo (v :: st) w Q) := W_aload rfl rfl
theorem wK_configure_41n : WP P 42 41 lo (.null :: r) w Q ↔ WP P 42 44 lo r w Q := W_ifnn_n rfl rfl rfl
theorem wK_configure_41 : WP P 42 41 lo (.ref a :: r) w Q ↔ WP P 42 51 lo r w Q := W_ifnn_r rfl rfl
theorem wK_configure_44 : WP P 42 44 lo st w Q ↔ x_gi lo[2]? (fun x => WP P 42 45 lo (.int x :: st) w Q) := W_iload_n rfl rfl rfl
theorem wK_configure_45 : WP P 42 45 lo st w Q ↔ WP P 42 46 lo (.int (xi (-1)) :: st) w Q := W_iconst rfl rfl rfl
theorem wK_configure_46 : WP P 42 46 lo (.int y :: .int x :: r) w Q ↔ (if x = y then WP P 42 51 lo r w Q else WP P 42 49 lo r w Q) := W_ic_eq rfl rfl rfl
theorem wK_configure_49 : WP P 42 49 lo st w Q ↔ WP P 42 50 lo (.int (xi 1) :: st) w Q := W_iconst rfl rfl rfl
theorem wK_configure_50 : WP P 42 50 lo [.int x] w Q ↔ Q (some (.int x)) w := WP_ret rfl rfl
theorem wK_configure_51 : WP P 42 51 lo st w Q ↔ x_ga lo[0]? (fun v => WP P 42 52 lo (v :: st) w Q) := W_aload_n rfl rfl rfl
theorem wK_configure_52 : WP P 42 52 lo st w Q ↔ x_ga lo[5]? (fun v => WP P 42 54 lo (v :: st) w Q) := W_aload rfl rfl
theorem wK_configure_54 : WP P 42 54 lo st w Q ↔ x_gi lo[3]? (fun x => WP P 42 55 lo (.int x :: st) w Q) := W_iload_n rfl rfl rfl
theorem wK_configure_55 {u1 u2 : Value} {b nb : Nat} (hb : x_tg w b = some (0, nb)) (hr : r.length ≤ 8) (hc : ([u1, u2] : List Value).all x_cat1 = true) (hc2 : r.all x_cat1 = true) (k : WP P 45 0 [some (.ref b), some u1, some u2, none, none, none] [] w (fun v w1 => WP P 42 58 lo (v.toList ++ r) w1 Q)) : WP P 42 55 lo (u2 :: u1 :: .ref b :: r) w Q := K_virt (as := [u1, u2]) rfl rfl rfl rfl (by decide) (by decide) rfl hb hr hc hc2 k
theorem wK_configure_58 : WP P 42 58 lo (.ref a :: r) w Q ↔ (8 < lo.length ∧ WP P 42 60 (lo.set 8 (some (.ref a))) r w Q) := W_astore rfl rfl
theorem wK_configure_58n : WP P 42 58 lo (.null :: r) w Q ↔ (8 < lo.length ∧ WP P 42 60 (lo.set 8 (some .null)) r w Q) := W_astoreN rfl rfl
theorem wK_configure_60 : WP P 42 60 lo st w Q ↔ x_ga lo[8]? (fun v => WP P 42 62 lo (v :: st) w Q) := W_aload rfl rfl
theorem wK_configure_62n : WP P 42 62 lo (.null :: r) w Q ↔ WP P 42 65 lo r w Q := W_ifnn_n rfl rfl rfl
theorem wK_configure_62 : WP P 42 62 lo (.ref a :: r) w Q ↔ WP P 42 72 lo r w Q := W_ifnn_r rfl rfl
theorem wK_configure_65 : WP P 42 65 lo st w Q ↔ x_gi lo[3]? (fun x => WP P 42 66 lo (.int x :: st) w Q) := W_iload_n rfl rfl rfl
theorem wK_configure_66 : WP P 42 66 lo st w Q ↔ WP P 42 67 lo (.int (xi (-1)) :: st) w Q := W_iconst rfl rfl rfl
theorem wK_configure_67 : WP P 42 67 lo (.int y :: .int x :: r) w Q ↔ (if x = y then WP P 42 72 lo r w Q else WP P 42 70 lo r w Q) := W_ic_eq rfl rfl rfl
theorem wK_configure_70 : WP P 42 70 lo st w Q ↔ WP P 42 71 lo (.int (xi 1) :: st) w Q := W_iconst rfl rfl rfl
theorem wK_configure_71 : WP P 42 71 lo [.int x] w Q ↔ Q (some (.int x)) w := WP_ret rfl rfl
theorem wK_configure_72 : WP P 42 72 lo st w Q ↔ x_gi lo[4]? (fun x => WP P 42 74 lo (.int x :: st) w Q) := W_iload rfl rfl
theorem wK_configure_74 : WP P 42 74 lo (.int x :: r) w Q ↔ (if x < xi 0 then WP P 42 83 lo r w Q else WP P 42 77 lo r w Q) := W_if_lt rfl rfl rfl
theorem wK_configure_77 : WP P 42 77 lo st w Q ↔ x_gi lo[4]? (fun x => WP P 42 79 lo (.int x :: st) w Q) := W_iload rfl rfl
theorem wK_configure_79 : WP P 42 79 lo st w Q ↔ WP P 42 80 lo (.int (xi 4) :: st) w Q := W_iconst rfl rfl rfl
theorem wK_configure_80 : WP P 42 80 lo (.int y :: .int x :: r) w Q ↔ (if x < y then WP P 42 85 lo r w Q else WP P 42 83 lo r w Q) := W_ic_lt rfl rfl rfl
theorem wK_configure_83 : WP P 42 83 lo st w Q ↔ WP P 42 84 lo (.int (xi 4) :: st) w Q := W_iconst rfl rfl rfl
theorem wK_configure_84 : WP P 42 84 lo [.int x] w Q ↔ Q (some (.int x)) w := WP_ret rfl rfl
theorem wK_configure_85 : WP P 42 85 lo st w Q ↔ x_gi lo[4]? (fun x => WP P 42 87 lo (.int x :: st) w Q) := W_iload rfl rfl
theorem wK_configure_87 : WP P 42 87 lo st w Q ↔ x_ga lo[5]? (fun v => WP P 42 89 lo (v :: st) w Q) := W_aload rfl rfl
theorem wK_configure_89 : WP P 42 89 lo (.ref a :: r) w Q ↔ (x_has w a [2] ∧ WP P 42 92 lo (x_fd w a 4 :: r) w Q) := W_get rfl rfl rfl
theorem wK_configure_92 : WP P 42 92 lo (.int y :: .int x :: r) w Q ↔ (if y < x then WP P 42 95 lo r w Q else WP P 42 97 lo r w Q) := W_ic_le rfl rfl rfl
theorem wK_configure_95 : WP P 42 95 lo st w Q ↔ WP P 42 96 lo (.int (xi 2) :: st) w Q := W_iconst rfl rfl rfl
theorem wK_configure_96 : WP P 42 96 lo [.int x] w Q ↔ Q (some (.int x)) w := WP_ret rfl rfl
theorem wK_configure_97 : WP P 42 97 lo st w Q ↔ x_ga lo[6]? (fun v => WP P 42 99 lo (v :: st) w Q) := W_aload rfl rfl
theorem wK_configure_99 : WP P 42 99 lo st w Q ↔ x_ga lo[7]? (fun v => WP P 42 101 lo (v :: st) w Q) := W_aload rfl rfl
theorem wK_configure_101 : WP P 42 101 lo (v1 :: .ref a :: r) w Q ↔ ((x_has w a [2] ∧ x_fit 2 v1 = true) ∧ WP P 42 104 lo r (x_put w a 2 v1) Q) := W_put rfl rfl (by decide) rfl
theorem wK_configure_104 : WP P 42 104 lo st w Q ↔ x_ga lo[6]? (fun v => WP P 42 106 lo (v :: st) w Q) := W_aload rfl rfl
theorem wK_configure_106 : WP P 42 106 lo st w Q ↔ x_ga lo[8]? (fun v => WP P 42 108 lo (v :: st) w Q) := W_aload rfl rfl
theorem wK_configure_108 : WP P 42 108 lo (v1 :: .ref a :: r) w Q ↔ ((x_has w a [2] ∧ x_fit 2 v1 = true) ∧ WP P 42 111 lo r (x_put w a 3 v1) Q) := W_put rfl rfl (by decide) rfl
theorem wK_configure_111 : WP P 42 111 lo st w Q ↔ x_ga lo[0]? (fun v => WP P 42 112 lo (v :: st) w Q) := W_aload_n rfl rfl rfl
theorem wK_configure_112 : WP P 42 112 lo st w Q ↔ x_ga lo[6]? (fun v => WP P 42 114 lo (v :: st) w Q) := W_aload rfl rfl
theorem wK_configure_114 : WP P 42 114 lo st w Q ↔ x_gi lo[4]? (fun x => WP P 42 116 lo (.int x :: st) w Q) := W_iload rfl rfl
theorem wK_configure_116 {u1 u2 : Value} {b nb : Nat} (hb : x_tg w b = some (0, nb)) (hr : r.length ≤ 8) (hc : ([u1, u2] : List Value).all x_cat1 = true) (hc2 : r.all x_cat1 = true) (k : WP P 46 0 [some (.ref b), some u1, some u2] [] w (fun v w1 => WP P 42 119 lo (v.toList ++ r) w1 Q)) : WP P 42 116 lo (u2 :: u1 :: .ref b :: r) w Q := K_virt (as := [u1, u2]) rfl rfl rfl rfl (by decide) (by decide) rfl hb hr hc hc2 k
theorem wK_configure_119 : WP P 42 119 lo st w Q ↔ WP P 42 120 lo (.int (xi 0) :: st) w Q := W_iconst rfl rfl rfl
theorem wK_configure_120 : WP P 42 120 lo [.int x] w Q ↔ Q (some (.int x)) w := WP_ret rfl rfl
-- 43 K_threadAt
theorem wK_threadAt_0 : WP P 43 0 lo st w Q ↔ x_ga lo[0]? (fun v => WP P 43 1 lo (v :: st) w Q) := W_aload_n rfl rfl rfl
theorem wK_threadAt_1 : WP P 43 1 lo st w Q ↔ x_ga lo[1]? (fun v => WP P 43 2 lo (v :: st) w Q) := W_aload_n rfl rfl rfl
theorem wK_threadAt_2 : WP P 43 2 lo st w Q ↔ x_gi lo[2]? (fun x => WP P 43 3 lo (.int x :: st) w Q) := W_iload_n rfl rfl rfl
theorem wK_threadAt_3 {u1 u2 : Value} {b nb : Nat} (hb : x_tg w b = some (0, nb)) (hr : r.length ≤ 8) (hc : ([u1, u2] : List Value).all x_cat1 = true) (hc2 : r.all x_cat1 = true) (k : WP P 13 0 [some (.ref b), some u1, some u2, none] [] w (fun v w1 => WP P 43 6 lo (v.toList ++ r) w1 Q)) : WP P 43 3 lo (u2 :: u1 :: .ref b :: r) w Q := K_virt (as := [u1, u2]) rfl rfl rfl rfl (by decide) (by decide) rfl hb hr hc hc2 k
theorem wK_threadAt_6 : WP P 43 6 lo (.ref a :: r) w Q ↔ (3 < lo.length ∧ WP P 43 7 (lo.set 3 (some (.ref a))) r w Q) := W_astore_n rfl rfl rfl
theorem wK_threadAt_6n : WP P 43 6 lo (.null :: r) w Q ↔ (3 < lo.length ∧ WP P 43 7 (lo.set 3 (some .null)) r w Q) := W_astore_nN rfl rfl rfl
theorem wK_threadAt_7 : WP P 43 7 lo st w Q ↔ x_ga lo[3]? (fun v => WP P 43 8 lo (v :: st) w Q) := W_aload_n rfl rfl rfl
theorem wK_threadAt_8n : WP P 43 8 lo (.null :: r) w Q ↔ WP P 43 37 lo r w Q := W_ifnull_n rfl rfl
theorem wK_threadAt_8 : WP P 43 8 lo (.ref a :: r) w Q ↔ WP P 43 11 lo r w Q := W_ifnull_r rfl rfl rfl
theorem wK_threadAt_11 : WP P 43 11 lo st w Q ↔ x_ga lo[3]? (fun v => WP P 43 12 lo (v :: st) w Q) := W_aload_n rfl rfl rfl
theorem wK_threadAt_12 : WP P 43 12 lo (.ref a :: r) w Q ↔ (x_has w a [1] ∧ WP P 43 15 lo (x_fd w a 0 :: r) w Q) := W_get rfl rfl rfl
theorem wK_threadAt_15 : WP P 43 15 lo (.ref a :: r) w Q ↔ (5 < lo.length ∧ WP P 43 17 (lo.set 5 (some (.ref a))) r w Q) := W_astore rfl rfl
theorem wK_threadAt_15n : WP P 43 15 lo (.null :: r) w Q ↔ (5 < lo.length ∧ WP P 43 17 (lo.set 5 (some .null)) r w Q) := W_astoreN rfl rfl
theorem wK_threadAt_17 : WP P 43 17 lo st w Q ↔ x_ga lo[5]? (fun v => WP P 43 19 lo (v :: st) w Q) := W_aload rfl rfl
theorem wK_threadAt_19n : WP P 43 19 lo (.null :: r) w Q ↔ WP P 43 22 lo (.int (xi 0) :: r) w Q := W_inst_n rfl rfl
theorem wK_threadAt_19 {t n : Nat} (h1 : x_tg w a = some (t, n)) (ht : t ∈ x_things) : WP P 43 19 lo (.ref a :: r) w Q ↔ WP P 43 22 lo (.int (if t = 2 then xi 1 else xi 0) :: r) w Q := W_inst rfl rfl h1 ht rfl
theorem wK_threadAt_22 : WP P 43 22 lo (.int x :: r) w Q ↔ (if x = xi 0 then WP P 43 37 lo r w Q else WP P 43 25 lo r w Q) := W_if_eq rfl rfl rfl
theorem wK_threadAt_25 : WP P 43 25 lo st w Q ↔ x_ga lo[5]? (fun v => WP P 43 27 lo (v :: st) w Q) := W_aload rfl rfl
theorem wK_threadAt_27 {n : Nat} (h1 : x_tg w a = some (2, n)) : WP P 43 27 lo (.ref a :: r) w Q ↔ WP P 43 30 lo (.ref a :: r) w Q := W_cast rfl h1 rfl rfl
theorem wK_threadAt_30 : WP P 43 30 lo (.ref a :: r) w Q ↔ (4 < lo.length ∧ WP P 43 32 (lo.set 4 (some (.ref a))) r w Q) := W_astore rfl rfl
theorem wK_threadAt_30n : WP P 43 30 lo (.null :: r) w Q ↔ (4 < lo.length ∧ WP P 43 32 (lo.set 4 (some .null)) r w Q) := W_astoreN rfl rfl
theorem wK_threadAt_32 : WP P 43 32 lo st w Q ↔ x_ga lo[4]? (fun v => WP P 43 34 lo (v :: st) w Q) := W_aload rfl rfl
theorem wK_threadAt_34 : WP P 43 34 lo st w Q ↔ WP P 43 38 lo st w Q := W_goto rfl rfl
theorem wK_threadAt_37 : WP P 43 37 lo st w Q ↔ WP P 43 38 lo (.null :: st) w Q := W_null rfl rfl
theorem wK_threadAt_38n : WP P 43 38 lo [.null] w Q ↔ Q (some .null) w := WP_ret rfl rfl
theorem wK_threadAt_38 : WP P 43 38 lo [.ref a] w Q ↔ Q (some (.ref a)) w := WP_ret rfl rfl
-- 44 K_tableAt
theorem wK_tableAt_0 : WP P 44 0 lo st w Q ↔ x_ga lo[0]? (fun v => WP P 44 1 lo (v :: st) w Q) := W_aload_n rfl rfl rfl
theorem wK_tableAt_1 : WP P 44 1 lo st w Q ↔ x_ga lo[1]? (fun v => WP P 44 2 lo (v :: st) w Q) := W_aload_n rfl rfl rfl
theorem wK_tableAt_2 : WP P 44 2 lo st w Q ↔ x_gi lo[2]? (fun x => WP P 44 3 lo (.int x :: st) w Q) := W_iload_n rfl rfl rfl
theorem wK_tableAt_3 {u1 u2 : Value} {b nb : Nat} (hb : x_tg w b = some (0, nb)) (hr : r.length ≤ 8) (hc : ([u1, u2] : List Value).all x_cat1 = true) (hc2 : r.all x_cat1 = true) (k : WP P 13 0 [some (.ref b), some u1, some u2, none] [] w (fun v w1 => WP P 44 6 lo (v.toList ++ r) w1 Q)) : WP P 44 3 lo (u2 :: u1 :: .ref b :: r) w Q := K_virt (as := [u1, u2]) rfl rfl rfl rfl (by decide) (by decide) rfl hb hr hc hc2 k
theorem wK_tableAt_6 : WP P 44 6 lo (.ref a :: r) w Q ↔ (3 < lo.length ∧ WP P 44 7 (lo.set 3 (some (.ref a))) r w Q) := W_astore_n rfl rfl rfl
theorem wK_tableAt_6n : WP P 44 6 lo (.null :: r) w Q ↔ (3 < lo.length ∧ WP P 44 7 (lo.set 3 (some .null)) r w Q) := W_astore_nN rfl rfl rfl
theorem wK_tableAt_7 : WP P 44 7 lo st w Q ↔ x_ga lo[3]? (fun v => WP P 44 8 lo (v :: st) w Q) := W_aload_n rfl rfl rfl
theorem wK_tableAt_8n : WP P 44 8 lo (.null :: r) w Q ↔ WP P 44 37 lo r w Q := W_ifnull_n rfl rfl
theorem wK_tableAt_8 : WP P 44 8 lo (.ref a :: r) w Q ↔ WP P 44 11 lo r w Q := W_ifnull_r rfl rfl rfl
theorem wK_tableAt_11 : WP P 44 11 lo st w Q ↔ x_ga lo[3]? (fun v => WP P 44 12 lo (v :: st) w Q) := W_aload_n rfl rfl rfl
theorem wK_tableAt_12 : WP P 44 12 lo (.ref a :: r) w Q ↔ (x_has w a [1] ∧ WP P 44 15 lo (x_fd w a 0 :: r) w Q) := W_get rfl rfl rfl
theorem wK_tableAt_15 : WP P 44 15 lo (.ref a :: r) w Q ↔ (5 < lo.length ∧ WP P 44 17 (lo.set 5 (some (.ref a))) r w Q) := W_astore rfl rfl
theorem wK_tableAt_15n : WP P 44 15 lo (.null :: r) w Q ↔ (5 < lo.length ∧ WP P 44 17 (lo.set 5 (some .null)) r w Q) := W_astoreN rfl rfl
theorem wK_tableAt_17 : WP P 44 17 lo st w Q ↔ x_ga lo[5]? (fun v => WP P 44 19 lo (v :: st) w Q) := W_aload rfl rfl
theorem wK_tableAt_19n : WP P 44 19 lo (.null :: r) w Q ↔ WP P 44 22 lo (.int (xi 0) :: r) w Q := W_inst_n rfl rfl
theorem wK_tableAt_19 {t n : Nat} (h1 : x_tg w a = some (t, n)) (ht : t ∈ x_things) : WP P 44 19 lo (.ref a :: r) w Q ↔ WP P 44 22 lo (.int (if t = 5 then xi 1 else xi 0) :: r) w Q := W_inst rfl rfl h1 ht rfl
theorem wK_tableAt_22 : WP P 44 22 lo (.int x :: r) w Q ↔ (if x = xi 0 then WP P 44 37 lo r w Q else WP P 44 25 lo r w Q) := W_if_eq rfl rfl rfl
theorem wK_tableAt_25 : WP P 44 25 lo st w Q ↔ x_ga lo[5]? (fun v => WP P 44 27 lo (v :: st) w Q) := W_aload rfl rfl
theorem wK_tableAt_27 {n : Nat} (h1 : x_tg w a = some (5, n)) : WP P 44 27 lo (.ref a :: r) w Q ↔ WP P 44 30 lo (.ref a :: r) w Q := W_cast rfl h1 rfl rfl
theorem wK_tableAt_30 : WP P 44 30 lo (.ref a :: r) w Q ↔ (4 < lo.length ∧ WP P 44 32 (lo.set 4 (some (.ref a))) r w Q) := W_astore rfl rfl
theorem wK_tableAt_30n : WP P 44 30 lo (.null :: r) w Q ↔ (4 < lo.length ∧ WP P 44 32 (lo.set 4 (some .null)) r w Q) := W_astoreN rfl rfl
theorem wK_tableAt_32 : WP P 44 32 lo st w Q ↔ x_ga lo[4]? (fun v => WP P 44 34 lo (v :: st) w Q) := W_aload rfl rfl
theorem wK_tableAt_34 : WP P 44 34 lo st w Q ↔ WP P 44 38 lo st w Q := W_goto rfl rfl
theorem wK_tableAt_37 : WP P 44 37 lo st w Q ↔ WP P 44 38 lo (.null :: st) w Q := W_null rfl rfl
theorem wK_tableAt_38n : WP P 44 38 lo [.null] w Q ↔ Q (some .null) w := WP_ret rfl rfl
theorem wK_tableAt_38 : WP P 44 38 lo [.ref a] w Q ↔ Q (some (.ref a)) w := WP_ret rfl rfl
-- 45 K_spaceAt
theorem wK_spaceAt_0 : WP P 45 0 lo st w Q ↔ x_ga lo[0]? (fun v => WP P 45 1 lo (v :: st) w Q) := W_aload_n rfl rfl rfl
theorem wK_spaceAt_1 : WP P 45 1 lo st w Q ↔ x_ga lo[1]? (fun v => WP P 45 2 lo (v :: st) w Q) := W_aload_n rfl rfl rfl
theorem wK_spaceAt_2 : WP P 45 2 lo st w Q ↔ x_gi lo[2]? (fun x => WP P 45 3 lo (.int x :: st) w Q) := W_iload_n rfl rfl rfl
theorem wK_spaceAt_3 {u1 u2 : Value} {b nb : Nat} (hb : x_tg w b = some (0, nb)) (hr : r.length ≤ 8) (hc : ([u1, u2] : List Value).all x_cat1 = true) (hc2 : r.all x_cat1 = true) (k : WP P 13 0 [some (.ref b), some u1, some u2, none] [] w (fun v w1 => WP P 45 6 lo (v.toList ++ r) w1 Q)) : WP P 45 3 lo (u2 :: u1 :: .ref b :: r) w Q := K_virt (as := [u1, u2]) rfl rfl rfl rfl (by decide) (by decide) rfl hb hr hc hc2 k
theorem wK_spaceAt_6 : WP P 45 6 lo (.ref a :: r) w Q ↔ (3 < lo.length ∧ WP P 45 7 (lo.set 3 (some (.ref a))) r w Q) := W_astore_n rfl rfl rfl
theorem wK_spaceAt_6n : WP P 45 6 lo (.null :: r) w Q ↔ (3 < lo.length ∧ WP P 45 7 (lo.set 3 (some .null)) r w Q) := W_astore_nN rfl rfl rfl
theorem wK_spaceAt_7 : WP P 45 7 lo st w Q ↔ x_ga lo[3]? (fun v => WP P 45 8 lo (v :: st) w Q) := W_aload_n rfl rfl rfl
theorem wK_spaceAt_8n : WP P 45 8 lo (.null :: r) w Q ↔ WP P 45 37 lo r w Q := W_ifnull_n rfl rfl
theorem wK_spaceAt_8 : WP P 45 8 lo (.ref a :: r) w Q ↔ WP P 45 11 lo r w Q := W_ifnull_r rfl rfl rfl
theorem wK_spaceAt_11 : WP P 45 11 lo st w Q ↔ x_ga lo[3]? (fun v => WP P 45 12 lo (v :: st) w Q) := W_aload_n rfl rfl rfl
theorem wK_spaceAt_12 : WP P 45 12 lo (.ref a :: r) w Q ↔ (x_has w a [1] ∧ WP P 45 15 lo (x_fd w a 0 :: r) w Q) := W_get rfl rfl rfl
theorem wK_spaceAt_15 : WP P 45 15 lo (.ref a :: r) w Q ↔ (5 < lo.length ∧ WP P 45 17 (lo.set 5 (some (.ref a))) r w Q) := W_astore rfl rfl
theorem wK_spaceAt_15n : WP P 45 15 lo (.null :: r) w Q ↔ (5 < lo.length ∧ WP P 45 17 (lo.set 5 (some .null)) r w Q) := W_astoreN rfl rfl
theorem wK_spaceAt_17 : WP P 45 17 lo st w Q ↔ x_ga lo[5]? (fun v => WP P 45 19 lo (v :: st) w Q) := W_aload rfl rfl
theorem wK_spaceAt_19n : WP P 45 19 lo (.null :: r) w Q ↔ WP P 45 22 lo (.int (xi 0) :: r) w Q := W_inst_n rfl rfl
theorem wK_spaceAt_19 {t n : Nat} (h1 : x_tg w a = some (t, n)) (ht : t ∈ x_things) : WP P 45 19 lo (.ref a :: r) w Q ↔ WP P 45 22 lo (.int (if t = 8 then xi 1 else xi 0) :: r) w Q := W_inst rfl rfl h1 ht rfl
theorem wK_spaceAt_22 : WP P 45 22 lo (.int x :: r) w Q ↔ (if x = xi 0 then WP P 45 37 lo r w Q else WP P 45 25 lo r w Q) := W_if_eq rfl rfl rfl
theorem wK_spaceAt_25 : WP P 45 25 lo st w Q ↔ x_ga lo[5]? (fun v => WP P 45 27 lo (v :: st) w Q) := W_aload rfl rfl
theorem wK_spaceAt_27 {n : Nat} (h1 : x_tg w a = some (8, n)) : WP P 45 27 lo (.ref a :: r) w Q ↔ WP P 45 30 lo (.ref a :: r) w Q := W_cast rfl h1 rfl rfl
theorem wK_spaceAt_30 : WP P 45 30 lo (.ref a :: r) w Q ↔ (4 < lo.length ∧ WP P 45 32 (lo.set 4 (some (.ref a))) r w Q) := W_astore rfl rfl
theorem wK_spaceAt_30n : WP P 45 30 lo (.null :: r) w Q ↔ (4 < lo.length ∧ WP P 45 32 (lo.set 4 (some .null)) r w Q) := W_astoreN rfl rfl
theorem wK_spaceAt_32 : WP P 45 32 lo st w Q ↔ x_ga lo[4]? (fun v => WP P 45 34 lo (v :: st) w Q) := W_aload rfl rfl
theorem wK_spaceAt_34 : WP P 45 34 lo st w Q ↔ WP P 45 38 lo st w Q := W_goto rfl rfl
theorem wK_spaceAt_37 : WP P 45 37 lo st w Q ↔ WP P 45 38 lo (.null :: st) w Q := W_null rfl rfl
theorem wK_spaceAt_38n : WP P 45 38 lo [.null] w Q ↔ Q (some .null) w := WP_ret rfl rfl
theorem wK_spaceAt_38 : WP P 45 38 lo [.ref a] w Q ↔ Q (some (.ref a)) w := WP_ret rfl rfl
-- 46 K_changePriority
theorem wK_changePriority_0 : WP P 46 0 lo st w Q ↔ x_gi lo[2]? (fun x => WP P 46 1 lo (.int x :: st) w Q) := W_iload_n rfl rfl rfl
theorem wK_changePriority_1 : WP P 46 1 lo st w Q ↔ x_ga lo[1]? (fun v => WP P 46 2 lo (v :: st) w Q) := W_aload_n rfl rfl rfl
theorem wK_changePriority_2 : WP P 46 2 lo (.ref a :: r) w Q ↔ (x_has w a [2] ∧ WP P 46 5 lo (x_fd w a 4 :: r) w Q) := W_get rfl rfl rfl
theorem wK_changePriority_5 : WP P 46 5 lo (.int y :: .int x :: r) w Q ↔ (if x = y then WP P 46 8 lo r w Q else WP P 46 9 lo r w Q) := W_ic_ne rfl rfl rfl
theorem wK_changePriority_8 : WP P 46 8 lo [] w Q ↔ Q none w := WP_ret rfl rfl
theorem wK_changePriority_9 : WP P 46 9 lo st w Q ↔ x_ga lo[1]? (fun v => WP P 46 10 lo (v :: st) w Q) := W_aload_n rfl rfl rfl
theorem wK_changePriority_10 : WP P 46 10 lo st w Q ↔ x_gi lo[2]? (fun x => WP P 46 11 lo (.int x :: st) w Q) := W_iload_n rfl rfl rfl
theorem wK_changePriority_11 : WP P 46 11 lo (v1 :: .ref a :: r) w Q ↔ ((x_has w a [2] ∧ x_fit 0 v1 = true) ∧ WP P 46 14 lo r (x_put w a 4 v1) Q) := W_put rfl rfl (by decide) rfl
theorem wK_changePriority_14 : WP P 46 14 lo st w Q ↔ x_ga lo[1]? (fun v => WP P 46 15 lo (v :: st) w Q) := W_aload_n rfl rfl rfl
theorem wK_changePriority_15 : WP P 46 15 lo (.ref a :: r) w Q ↔ (x_has w a [2] ∧ WP P 46 18 lo (x_fd w a 5 :: r) w Q) := W_get rfl rfl rfl
theorem wK_changePriority_18 : WP P 46 18 lo st w Q ↔ WP P 46 19 lo (.int (xi 2) :: st) w Q := W_iconst rfl rfl rfl
theorem wK_changePriority_19 : WP P 46 19 lo (.int y :: .int x :: r) w Q ↔ (if x = y then WP P 46 22 lo r w Q else WP P 46 36 lo r w Q) := W_ic_ne rfl rfl rfl
theorem wK_changePriority_22 : WP P 46 22 lo st w Q ↔ x_ga lo[1]? (fun v => WP P 46 23 lo (v :: st) w Q) := W_aload_n rfl rfl rfl
theorem wK_changePriority_23 {u1 : Value} (hr : r.length ≤ 8) (hc : ([u1] : List Value).all x_cat1 = true) (hc2 : r.all x_cat1 = true) (k : WP P 6 0 [some u1, none, none, none] [] w (fun v w1 => WP P 46 26 lo (v.toList ++ r) w1 Q)) : WP P 46 23 lo (u1 :: r) w Q := K_stat (as := [u1]) rfl rfl rfl rfl (by decide) (by decide) rfl hr hc hc2 k
theorem wK_changePriority_26 : WP P 46 26 lo st w Q ↔ x_ga lo[1]? (fun v => WP P 46 27 lo (v :: st) w Q) := W_aload_n rfl rfl rfl
theorem wK_changePriority_27 : WP P 46 27 lo st w Q ↔ x_ga lo[0]? (fun v => WP P 46 28 lo (v :: st) w Q) := W_aload_n rfl rfl rfl
theorem wK_changePriority_28 : WP P 46 28 lo (.ref a :: r) w Q ↔ (x_has w a [0] ∧ WP P 46 31 lo (x_fd w a 2 :: r) w Q) := W_get rfl rfl rfl
theorem wK_changePriority_31 : WP P 46 31 lo st w Q ↔ x_gi lo[2]? (fun x => WP P 46 32 lo (.int x :: st) w Q) := W_iload_n rfl rfl rfl
theorem wK_changePriority_32 {t n : Nat} (h1 : x_tg w a = some (t, n)) (ht : 30 ≤ t) (h2 : ¬ x < 0) (h3 : x.toNatClampNeg < n) : WP P 46 32 lo (.int x :: .ref a :: r) w Q ↔ WP P 46 33 lo (x_fd w a x.toNatClampNeg :: r) w Q := W_aald rfl h1 ht h2 h3 rfl
theorem wK_changePriority_33 {u1 u2 : Value} (hr : r.length ≤ 8) (hc : ([u1, u2] : List Value).all x_cat1 = true) (hc2 : r.all x_cat1 = true) (k : WP P 7 0 [some u1, some u2] [] w (fun v w1 => WP P 46 36 lo (v.toList ++ r) w1 Q)) : WP P 46 33 lo (u2 :: u1 :: r) w Q := K_stat (as := [u1, u2]) rfl rfl rfl rfl (by decide) (by decide) rfl hr hc hc2 k
theorem wK_changePriority_36 : WP P 46 36 lo [] w Q ↔ Q none w := WP_ret rfl rfl
-- 47 K_run
theorem wK_run_0 : WP P 47 0 lo st w Q ↔ x_ga lo[0]? (fun v => WP P 47 1 lo (v :: st) w Q) := W_aload_n rfl rfl rfl
theorem wK_run_1 {b nb : Nat} (hb : x_tg w b = some (0, nb)) (hr : r.length ≤ 8) (hc : ([] : List Value).all x_cat1 = true) (hc2 : r.all x_cat1 = true) (k : WP P 12 0 [some (.ref b), none] [] w (fun v w1 => WP P 47 4 lo (v.toList ++ r) w1 Q)) : WP P 47 1 lo (.ref b :: r) w Q := K_virt (as := []) rfl rfl rfl rfl (by decide) (by decide) rfl hb hr hc hc2 k
theorem wK_run_4 : WP P 47 4 lo (.ref a :: r) w Q ↔ (3 < lo.length ∧ WP P 47 5 (lo.set 3 (some (.ref a))) r w Q) := W_astore_n rfl rfl rfl
theorem wK_run_4n : WP P 47 4 lo (.null :: r) w Q ↔ (3 < lo.length ∧ WP P 47 5 (lo.set 3 (some .null)) r w Q) := W_astore_nN rfl rfl rfl
theorem wK_run_5 : WP P 47 5 lo st w Q ↔ x_ga lo[3]? (fun v => WP P 47 6 lo (v :: st) w Q) := W_aload_n rfl rfl rfl
theorem wK_run_6n : WP P 47 6 lo (.null :: r) w Q ↔ WP P 47 9 lo r w Q := W_ifnn_n rfl rfl rfl
theorem wK_run_6 : WP P 47 6 lo (.ref a :: r) w Q ↔ WP P 47 12 lo r w Q := W_ifnn_r rfl rfl
theorem wK_run_9 : WP P 47 9 lo st w Q ↔ WP P 47 11 lo (.int (xi 8) :: st) w Q := W_bipush rfl rfl (by decide)
theorem wK_run_11 : WP P 47 11 lo [.int x] w Q ↔ Q (some (.int x)) w := WP_ret rfl rfl
theorem wK_run_12 : WP P 47 12 lo st w Q ↔ x_ga lo[0]? (fun v => WP P 47 13 lo (v :: st) w Q) := W_aload_n rfl rfl rfl
theorem wK_run_13 : WP P 47 13 lo st w Q ↔ x_ga lo[3]? (fun v => WP P 47 14 lo (v :: st) w Q) := W_aload_n rfl rfl rfl
theorem wK_run_14 : WP P 47 14 lo st w Q ↔ x_gi lo[1]? (fun x => WP P 47 15 lo (.int x :: st) w Q) := W_iload_n rfl rfl rfl
theorem wK_run_15 {u1 u2 : Value} {b nb : Nat} (hb : x_tg w b = some (0, nb)) (hr : r.length ≤ 8) (hc : ([u1, u2] : List Value).all x_cat1 = true) (hc2 : r.all x_cat1 = true) (k : WP P 43 0 [some (.ref b), some u1, some u2, none, none, none] [] w (fun v w1 => WP P 47 18 lo (v.toList ++ r) w1 Q)) : WP P 47 15 lo (u2 :: u1 :: .ref b :: r) w Q := K_virt (as := [u1, u2]) rfl rfl rfl rfl (by decide) (by decide) rfl hb hr hc hc2 k
theorem wK_run_18 : WP P 47 18 lo (.ref a :: r) w Q ↔ (4 < lo.length ∧ WP P 47 20 (lo.set 4 (some (.ref a))) r w Q) := W_astore rfl rfl
theorem wK_run_18n : WP P 47 18 lo (.null :: r) w Q ↔ (4 < lo.length ∧ WP P 47 20 (lo.set 4 (some .null)) r w Q) := W_astoreN rfl rfl
theorem wK_run_20 : WP P 47 20 lo st w Q ↔ x_ga lo[4]? (fun v => WP P 47 22 lo (v :: st) w Q) := W_aload rfl rfl
theorem wK_run_22n : WP P 47 22 lo (.null :: r) w Q ↔ WP P 47 25 lo r w Q := W_ifnn_n rfl rfl rfl
theorem wK_run_22 : WP P 47 22 lo (.ref a :: r) w Q ↔ WP P 47 27 lo r w Q := W_ifnn_r rfl rfl
theorem wK_run_25 : WP P 47 25 lo st w Q ↔ WP P 47 26 lo (.int (xi 1) :: st) w Q := W_iconst rfl rfl rfl
theorem wK_run_26 : WP P 47 26 lo [.int x] w Q ↔ Q (some (.int x)) w := WP_ret rfl rfl
theorem wK_run_27 : WP P 47 27 lo st w Q ↔ x_gi lo[2]? (fun x => WP P 47 28 lo (.int x :: st) w Q) := W_iload_n rfl rfl rfl
theorem wK_run_28 : WP P 47 28 lo (.int x :: r) w Q ↔ (if x = xi 0 then WP P 47 31 lo r w Q else WP P 47 39 lo r w Q) := W_if_ne rfl rfl rfl
theorem wK_run_31 : WP P 47 31 lo st w Q ↔ x_ga lo[4]? (fun v => WP P 47 33 lo (v :: st) w Q) := W_aload rfl rfl
theorem wK_run_33 {u1 : Value} (hr : r.length ≤ 8) (hc : ([u1] : List Value).all x_cat1 = true) (hc2 : r.all x_cat1 = true) (k : WP P 35 0 [some u1] [] w (fun v w1 => WP P 47 36 lo (v.toList ++ r) w1 Q)) : WP P 47 33 lo (u1 :: r) w Q := K_stat (as := [u1]) rfl rfl rfl rfl (by decide) (by decide) rfl hr hc hc2 k
theorem wK_run_36 : WP P 47 36 lo st w Q ↔ WP P 47 54 lo st w Q := W_goto rfl rfl
theorem wK_run_39 : WP P 47 39 lo st w Q ↔ x_ga lo[4]? (fun v => WP P 47 41 lo (v :: st) w Q) := W_aload rfl rfl
theorem wK_run_41 : WP P 47 41 lo (.ref a :: r) w Q ↔ (x_has w a [2] ∧ WP P 47 44 lo (x_fd w a 5 :: r) w Q) := W_get rfl rfl rfl
theorem wK_run_44 : WP P 47 44 lo st w Q ↔ WP P 47 45 lo (.int (xi 1) :: st) w Q := W_iconst rfl rfl rfl
theorem wK_run_45 : WP P 47 45 lo (.int y :: .int x :: r) w Q ↔ (if x = y then WP P 47 48 lo r w Q else WP P 47 54 lo r w Q) := W_ic_ne rfl rfl rfl
theorem wK_run_48 : WP P 47 48 lo st w Q ↔ x_ga lo[0]? (fun v => WP P 47 49 lo (v :: st) w Q) := W_aload_n rfl rfl rfl
theorem wK_run_49 : WP P 47 49 lo st w Q ↔ x_ga lo[4]? (fun v => WP P 47 51 lo (v :: st) w Q) := W_aload rfl rfl
theorem wK_run_51 {u1 : Value} {b nb : Nat} (hb : x_tg w b = some (0, nb)) (hr : r.length ≤ 8) (hc : ([u1] : List Value).all x_cat1 = true) (hc2 : r.all x_cat1 = true) (k : WP P 5 0 [some (.ref b), some u1] [] w (fun v w1 => WP P 47 54 lo (v.toList ++ r) w1 Q)) : WP P 47 51 lo (u1 :: .ref b :: r) w Q := K_virt (as := [u1]) rfl rfl rfl rfl (by decide) (by decide) rfl hb hr hc hc2 k
theorem wK_run_54 : WP P 47 54 lo st w Q ↔ WP P 47 55 lo (.int (xi 0) :: st) w Q := W_iconst rfl rfl rfl
theorem wK_run_55 : WP P 47 55 lo [.int x] w Q ↔ Q (some (.int x)) w := WP_ret rfl rfl
-- 48 K_send
theorem wK_send_0 : WP P 48 0 lo st w Q ↔ x_ga lo[0]? (fun v => WP P 48 1 lo (v :: st) w Q) := W_aload_n rfl rfl rfl
theorem wK_send_1 {b nb : Nat} (hb : x_tg w b = some (0, nb)) (hr : r.length ≤ 8) (hc : ([] : List Value).all x_cat1 = true) (hc2 : r.all x_cat1 = true) (k : WP P 12 0 [some (.ref b), none] [] w (fun v w1 => WP P 48 4 lo (v.toList ++ r) w1 Q)) : WP P 48 1 lo (.ref b :: r) w Q := K_virt (as := []) rfl rfl rfl rfl (by decide) (by decide) rfl hb hr hc hc2 k
theorem wK_send_4 : WP P 48 4 lo (.ref a :: r) w Q ↔ (5 < lo.length ∧ WP P 48 6 (lo.set 5 (some (.ref a))) r w Q) := W_astore rfl rfl
theorem wK_send_4n : WP P 48 4 lo (.null :: r) w Q ↔ (5 < lo.length ∧ WP P 48 6 (lo.set 5 (some .null)) r w Q) := W_astoreN rfl rfl
theorem wK_send_6 : WP P 48 6 lo st w Q ↔ x_ga lo[5]? (fun v => WP P 48 8 lo (v :: st) w Q) := W_aload rfl rfl
theorem wK_send_8n : WP P 48 8 lo (.null :: r) w Q ↔ WP P 48 11 lo r w Q := W_ifnn_n rfl rfl rfl
theorem wK_send_8 : WP P 48 8 lo (.ref a :: r) w Q ↔ WP P 48 14 lo r w Q := W_ifnn_r rfl rfl
theorem wK_send_11 : WP P 48 11 lo st w Q ↔ WP P 48 13 lo (.int (xi 8) :: st) w Q := W_bipush rfl rfl (by decide)
theorem wK_send_13 : WP P 48 13 lo [.int x] w Q ↔ Q (some (.int x)) w := WP_ret rfl rfl
theorem wK_send_14 : WP P 48 14 lo st w Q ↔ x_ga lo[0]? (fun v => WP P 48 15 lo (v :: st) w Q) := W_aload_n rfl rfl rfl
theorem wK_send_15 : WP P 48 15 lo st w Q ↔ x_ga lo[5]? (fun v => WP P 48 17 lo (v :: st) w Q) := W_aload rfl rfl
theorem wK_send_17 : WP P 48 17 lo st w Q ↔ x_gi lo[1]? (fun x => WP P 48 18 lo (.int x :: st) w Q) := W_iload_n rfl rfl rfl
theorem wK_send_18 {u1 u2 : Value} {b nb : Nat} (hb : x_tg w b = some (0, nb)) (hr : r.length ≤ 8) (hc : ([u1, u2] : List Value).all x_cat1 = true) (hc2 : r.all x_cat1 = true) (k : WP P 13 0 [some (.ref b), some u1, some u2, none] [] w (fun v w1 => WP P 48 21 lo (v.toList ++ r) w1 Q)) : WP P 48 18 lo (u2 :: u1 :: .ref b :: r) w Q := K_virt (as := [u1, u2]) rfl rfl rfl rfl (by decide) (by decide) rfl hb hr hc hc2 k
theorem wK_send_21 : WP P 48 21 lo (.ref a :: r) w Q ↔ (6 < lo.length ∧ WP P 48 23 (lo.set 6 (some (.ref a))) r w Q) := W_astore rfl rfl
theorem wK_send_21n : WP P 48 21 lo (.null :: r) w Q ↔ (6 < lo.length ∧ WP P 48 23 (lo.set 6 (some .null)) r w Q) := W_astoreN rfl rfl
theorem wK_send_23 : WP P 48 23 lo st w Q ↔ x_ga lo[6]? (fun v => WP P 48 25 lo (v :: st) w Q) := W_aload rfl rfl
theorem wK_send_25n : WP P 48 25 lo (.null :: r) w Q ↔ WP P 48 53 lo r w Q := W_ifnull_n rfl rfl
theorem wK_send_25 : WP P 48 25 lo (.ref a :: r) w Q ↔ WP P 48 28 lo r w Q := W_ifnull_r rfl rfl rfl
theorem wK_send_28 : WP P 48 28 lo st w Q ↔ x_ga lo[6]? (fun v => WP P 48 30 lo (v :: st) w Q) := W_aload rfl rfl
theorem wK_send_30 : WP P 48 30 lo (.ref a :: r) w Q ↔ (x_has w a [1] ∧ WP P 48 33 lo (x_fd w a 0 :: r) w Q) := W_get rfl rfl rfl
theorem wK_send_33 : WP P 48 33 lo (.ref a :: r) w Q ↔ (8 < lo.length ∧ WP P 48 35 (lo.set 8 (some (.ref a))) r w Q) := W_astore rfl rfl
theorem wK_send_33n : WP P 48 33 lo (.null :: r) w Q ↔ (8 < lo.length ∧ WP P 48 35 (lo.set 8 (some .null)) r w Q) := W_astoreN rfl rfl
theorem wK_send_35 : WP P 48 35 lo st w Q ↔ x_ga lo[8]? (fun v => WP P 48 37 lo (v :: st) w Q) := W_aload rfl rfl
theorem wK_send_37n : WP P 48 37 lo (.null :: r) w Q ↔ WP P 48 40 lo (.int (xi 0) :: r) w Q := W_inst_n rfl rfl
theorem wK_send_37 {t n : Nat} (h1 : x_tg w a = some (t, n)) (ht : t ∈ x_things) : WP P 48 37 lo (.ref a :: r) w Q ↔ WP P 48 40 lo (.int (if t = 6 then xi 1 else xi 0) :: r) w Q := W_inst rfl rfl h1 ht rfl
theorem wK_send_40 : WP P 48 40 lo (.int x :: r) w Q ↔ (if x = xi 0 then WP P 48 53 lo r w Q else WP P 48 43 lo r w Q) := W_if_eq rfl rfl rfl
theorem wK_send_43 : WP P 48 43 lo st w Q ↔ x_ga lo[8]? (fun v => WP P 48 45 lo (v :: st) w Q) := W_aload rfl rfl
theorem wK_send_45 {n : Nat} (h1 : x_tg w a = some (6, n)) : WP P 48 45 lo (.ref a :: r) w Q ↔ WP P 48 48 lo (.ref a :: r) w Q := W_cast rfl h1 rfl rfl
theorem wK_send_48 : WP P 48 48 lo (.ref a :: r) w Q ↔ (7 < lo.length ∧ WP P 48 50 (lo.set 7 (some (.ref a))) r w Q) := W_astore rfl rfl
theorem wK_send_48n : WP P 48 48 lo (.null :: r) w Q ↔ (7 < lo.length ∧ WP P 48 50 (lo.set 7 (some .null)) r w Q) := W_astoreN rfl rfl
theorem wK_send_50 : WP P 48 50 lo st w Q ↔ WP P 48 55 lo st w Q := W_goto rfl rfl
theorem wK_send_53 : WP P 48 53 lo st w Q ↔ WP P 48 54 lo (.int (xi 1) :: st) w Q := W_iconst rfl rfl rfl
theorem wK_send_54 : WP P 48 54 lo [.int x] w Q ↔ Q (some (.int x)) w := WP_ret rfl rfl
theorem wK_send_55 : WP P 48 55 lo st w Q ↔ x_ga lo[6]? (fun v => WP P 48 57 lo (v :: st) w Q) := W_aload rfl rfl
theorem wK_send_57 : WP P 48 57 lo (.ref a :: r) w Q ↔ (x_has w a [1] ∧ WP P 48 60 lo (x_fd w a 1 :: r) w Q) := W_get rfl rfl rfl
theorem wK_send_60 : WP P 48 60 lo st w Q ↔ WP P 48 61 lo (.int (xi 2) :: st) w Q := W_iconst rfl rfl rfl
theorem wK_send_61 : WP P 48 61 lo (.int y :: .int x :: r) w Q ↔ WP P 48 62 lo (.int (x &&& y) :: r) w Q := W_iand rfl rfl
theorem wK_send_62 : WP P 48 62 lo (.int x :: r) w Q ↔ (if x = xi 0 then WP P 48 65 lo r w Q else WP P 48 67 lo r w Q) := W_if_ne rfl rfl rfl
theorem wK_send_65 : WP P 48 65 lo st w Q ↔ WP P 48 66 lo (.int (xi 2) :: st) w Q := W_iconst rfl rfl rfl
theorem wK_send_66 : WP P 48 66 lo [.int x] w Q ↔ Q (some (.int x)) w := WP_ret rfl rfl
theorem wK_send_67 : WP P 48 67 lo st w Q ↔ x_ga lo[7]? (fun v => WP P 48 69 lo (v :: st) w Q) := W_aload rfl rfl
theorem wK_send_69 : WP P 48 69 lo (.ref a :: r) w Q ↔ (x_has w a [6] ∧ WP P 48 72 lo (x_fd w a 2 :: r) w Q) := W_get rfl rfl rfl
theorem wK_send_72 : WP P 48 72 lo st w Q ↔ WP P 48 73 lo (.int (xi 4) :: st) w Q := W_iconst rfl rfl rfl
theorem wK_send_73 {u1 u2 : Value} (hr : r.length ≤ 8) (hc : ([u1, u2] : List Value).all x_cat1 = true) (hc2 : r.all x_cat1 = true) (k : WP P 49 0 [some u1, some u2, none] [] w (fun v w1 => WP P 48 76 lo (v.toList ++ r) w1 Q)) : WP P 48 73 lo (u2 :: u1 :: r) w Q := K_stat (as := [u1, u2]) rfl rfl rfl rfl (by decide) (by decide) rfl hr hc hc2 k
theorem wK_send_76 : WP P 48 76 lo (.ref a :: r) w Q ↔ (8 < lo.length ∧ WP P 48 78 (lo.set 8 (some (.ref a))) r w Q) := W_astore rfl rfl
theorem wK_send_76n : WP P 48 76 lo (.null :: r) w Q ↔ (8 < lo.length ∧ WP P 48 78 (lo.set 8 (some .null)) r w Q) := W_astoreN rfl rfl
theorem wK_send_78 : WP P 48 78 lo st w Q ↔ x_ga lo[8]? (fun v => WP P 48 80 lo (v :: st) w Q) := W_aload rfl rfl
theorem wK_send_80n : WP P 48 80 lo (.null :: r) w Q ↔ WP P 48 83 lo r w Q := W_ifnn_n rfl rfl rfl
theorem wK_send_80 : WP P 48 80 lo (.ref a :: r) w Q ↔ WP P 48 91 lo r w Q := W_ifnn_r rfl rfl
theorem wK_send_83 : WP P 48 83 lo st w Q ↔ x_gi lo[4]? (fun x => WP P 48 85 lo (.int x :: st) w Q) := W_iload rfl rfl
theorem wK_send_85 : WP P 48 85 lo (.int x :: r) w Q ↔ (if x = xi 0 then WP P 48 88 lo r w Q else WP P 48 91 lo r w Q) := W_if_ne rfl rfl rfl
theorem wK_send_88 : WP P 48 88 lo st w Q ↔ WP P 48 90 lo (.int (xi 6) :: st) w Q := W_bipush rfl rfl (by decide)
theorem wK_send_90 : WP P 48 90 lo [.int x] w Q ↔ Q (some (.int x)) w := WP_ret rfl rfl
theorem wK_send_91 : WP P 48 91 lo st w Q ↔ x_ga lo[5]? (fun v => WP P 48 93 lo (v :: st) w Q) := W_aload rfl rfl
theorem wK_send_93 : WP P 48 93 lo st w Q ↔ x_gi lo[2]? (fun x => WP P 48 94 lo (.int x :: st) w Q) := W_iload_n rfl rfl rfl
theorem wK_send_94 : WP P 48 94 lo (v1 :: .ref a :: r) w Q ↔ ((x_has w a [2] ∧ x_fit 0 v1 = true) ∧ WP P 48 97 lo r (x_put w a 12 v1) Q) := W_put rfl rfl (by decide) rfl
theorem wK_send_97 : WP P 48 97 lo st w Q ↔ x_ga lo[5]? (fun v => WP P 48 99 lo (v :: st) w Q) := W_aload rfl rfl
theorem wK_send_99 : WP P 48 99 lo st w Q ↔ x_ga lo[6]? (fun v => WP P 48 101 lo (v :: st) w Q) := W_aload rfl rfl
theorem wK_send_101 : WP P 48 101 lo (.ref a :: r) w Q ↔ (x_has w a [1] ∧ WP P 48 104 lo (x_fd w a 2 :: r) w Q) := W_get rfl rfl rfl
theorem wK_send_104 : WP P 48 104 lo (v1 :: .ref a :: r) w Q ↔ ((x_has w a [2] ∧ x_fit 0 v1 = true) ∧ WP P 48 107 lo r (x_put w a 13 v1) Q) := W_put rfl rfl (by decide) rfl
theorem wK_send_107 : WP P 48 107 lo st w Q ↔ x_ga lo[5]? (fun v => WP P 48 109 lo (v :: st) w Q) := W_aload rfl rfl
theorem wK_send_109 : WP P 48 109 lo st w Q ↔ x_ga lo[6]? (fun v => WP P 48 111 lo (v :: st) w Q) := W_aload rfl rfl
theorem wK_send_111 : WP P 48 111 lo (.ref a :: r) w Q ↔ (x_has w a [1] ∧ WP P 48 114 lo (x_fd w a 1 :: r) w Q) := W_get rfl rfl rfl
theorem wK_send_114 : WP P 48 114 lo st w Q ↔ WP P 48 115 lo (.int (xi 4) :: st) w Q := W_iconst rfl rfl rfl
theorem wK_send_115 : WP P 48 115 lo (.int y :: .int x :: r) w Q ↔ WP P 48 116 lo (.int (x &&& y) :: r) w Q := W_iand rfl rfl
theorem wK_send_116 : WP P 48 116 lo (.int x :: r) w Q ↔ (if x = xi 0 then WP P 48 123 lo r w Q else WP P 48 119 lo r w Q) := W_if_eq rfl rfl rfl
theorem wK_send_119 : WP P 48 119 lo st w Q ↔ WP P 48 120 lo (.int (xi 1) :: st) w Q := W_iconst rfl rfl rfl
theorem wK_send_120 : WP P 48 120 lo st w Q ↔ WP P 48 124 lo st w Q := W_goto rfl rfl
theorem wK_send_123 : WP P 48 123 lo st w Q ↔ WP P 48 124 lo (.int (xi 0) :: st) w Q := W_iconst rfl rfl rfl
theorem wK_send_124 : WP P 48 124 lo (v1 :: .ref a :: r) w Q ↔ ((x_has w a [2] ∧ x_fit 1 v1 = true) ∧ WP P 48 127 lo r (x_put w a 14 v1) Q) := W_put rfl rfl (by decide) rfl
theorem wK_send_127 : WP P 48 127 lo st w Q ↔ x_ga lo[5]? (fun v => WP P 48 129 lo (v :: st) w Q) := W_aload rfl rfl
theorem wK_send_129 : WP P 48 129 lo st w Q ↔ x_gi lo[3]? (fun x => WP P 48 130 lo (.int x :: st) w Q) := W_iload_n rfl rfl rfl
theorem wK_send_130 : WP P 48 130 lo (v1 :: .ref a :: r) w Q ↔ ((x_has w a [2] ∧ x_fit 0 v1 = true) ∧ WP P 48 133 lo r (x_put w a 15 v1) Q) := W_put rfl rfl (by decide) rfl
theorem wK_send_133 : WP P 48 133 lo st w Q ↔ x_ga lo[8]? (fun v => WP P 48 135 lo (v :: st) w Q) := W_aload rfl rfl
theorem wK_send_135n : WP P 48 135 lo (.null :: r) w Q ↔ WP P 48 138 lo r w Q := W_ifnn_n rfl rfl rfl
theorem wK_send_135 : WP P 48 135 lo (.ref a :: r) w Q ↔ WP P 48 152 lo r w Q := W_ifnn_r rfl rfl
theorem wK_send_138 : WP P 48 138 lo st w Q ↔ x_ga lo[5]? (fun v => WP P 48 140 lo (v :: st) w Q) := W_aload rfl rfl
theorem wK_send_140 : WP P 48 140 lo st w Q ↔ WP P 48 141 lo (.int (xi 3) :: st) w Q := W_iconst rfl rfl rfl
theorem wK_send_141 : WP P 48 141 lo st w Q ↔ x_ga lo[7]? (fun v => WP P 48 143 lo (v :: st) w Q) := W_aload rfl rfl
theorem wK_send_143 : WP P 48 143 lo (.ref a :: r) w Q ↔ (x_has w a [6] ∧ WP P 48 146 lo (x_fd w a 2 :: r) w Q) := W_get rfl rfl rfl
theorem wK_send_146 {u1 u2 u3 : Value} (hr : r.length ≤ 8) (hc : ([u1, u2, u3] : List Value).all x_cat1 = true) (hc2 : r.all x_cat1 = true) (k : WP P 50 0 [some u1, some u2, some u3] [] w (fun v w1 => WP P 48 149 lo (v.toList ++ r) w1 Q)) : WP P 48 146 lo (u3 :: u2 :: u1 :: r) w Q := K_stat (as := [u1, u2, u3]) rfl rfl rfl rfl (by decide) (by decide) rfl hr hc hc2 k
theorem wK_send_149 : WP P 48 149 lo st w Q ↔ WP P 48 151 lo (.int (xi 10) :: st) w Q := W_bipush rfl rfl (by decide)
theorem wK_send_151 : WP P 48 151 lo [.int x] w Q ↔ Q (some (.int x)) w := WP_ret rfl rfl
theorem wK_send_152 : WP P 48 152 lo st w Q ↔ x_ga lo[0]? (fun v => WP P 48 153 lo (v :: st) w Q) := W_aload_n rfl rfl rfl
theorem wK_send_153 : WP P 48 153 lo st w Q ↔ x_ga lo[5]? (fun v => WP P 48 155 lo (v :: st) w Q) := W_aload rfl rfl
theorem wK_send_155 : WP P 48 155 lo st w Q ↔ x_ga lo[8]? (fun v => WP P 48 157 lo (v :: st) w Q) := W_aload rfl rfl
theorem wK_send_157 {u1 u2 : Value} {b nb : Nat} (hb : x_tg w b = some (0, nb)) (hr : r.length ≤ 8) (hc : ([u1, u2] : List Value).all x_cat1 = true) (hc2 : r.all x_cat1 = true) (k : WP P 51 0 [some (.ref b), some u1, some u2] [] w (fun v w1 => WP P 48 160 lo (v.toList ++ r) w1 Q)) : WP P 48 157 lo (u2 :: u1 :: .ref b :: r) w Q := K_virt (as := [u1, u2]) rfl rfl rfl rfl (by decide) (by decide) rfl hb hr hc hc2 k
theorem wK_send_160 : WP P 48 160 lo st w Q ↔ x_ga lo[0]? (fun v => WP P 48 161 lo (v :: st) w Q) := W_aload_n rfl rfl rfl
theorem wK_send_161 : WP P 48 161 lo st w Q ↔ x_ga lo[8]? (fun v => WP P 48 163 lo (v :: st) w Q) := W_aload rfl rfl
theorem wK_send_163 {u1 : Value} {b nb : Nat} (hb : x_tg w b = some (0, nb)) (hr : r.length ≤ 8) (hc : ([u1] : List Value).all x_cat1 = true) (hc2 : r.all x_cat1 = true) (k : WP P 5 0 [some (.ref b), some u1] [] w (fun v w1 => WP P 48 166 lo (v.toList ++ r) w1 Q)) : WP P 48 163 lo (u1 :: .ref b :: r) w Q := K_virt (as := [u1]) rfl rfl rfl rfl (by decide) (by decide) rfl hb hr hc hc2 k
theorem wK_send_166 : WP P 48 166 lo st w Q ↔ WP P 48 167 lo (.int (xi 0) :: st) w Q := W_iconst rfl rfl rfl
theorem wK_send_167 : WP P 48 167 lo [.int x] w Q ↔ Q (some (.int x)) w := WP_ret rfl rfl
-- 49 K_firstWaiting
theorem wK_firstWaiting_0 : WP P 49 0 lo st w Q ↔ x_ga lo[0]? (fun v => WP P 49 1 lo (v :: st) w Q) := W_aload_n rfl rfl rfl
theorem wK_firstWaiting_1 : WP P 49 1 lo (.ref a :: r) w Q ↔ (x_has w a [3] ∧ WP P 49 4 lo (x_fd w a 0 :: r) w Q) := W_get rfl rfl rfl
theorem wK_firstWaiting_4 : WP P 49 4 lo (.ref a :: r) w Q ↔ (2 < lo.length ∧ WP P 49 5 (lo.set 2 (some (.ref a))) r w Q) := W_astore_n rfl rfl rfl
theorem wK_firstWaiting_4n : WP P 49 4 lo (.null :: r) w Q ↔ (2 < lo.length ∧ WP P 49 5 (lo.set 2 (some .null)) r w Q) := W_astore_nN rfl rfl rfl
theorem wK_firstWaiting_5 : WP P 49 5 lo st w Q ↔ x_ga lo[2]? (fun v => WP P 49 6 lo (v :: st) w Q) := W_aload_n rfl rfl rfl
theorem wK_firstWaiting_6n : WP P 49 6 lo (.null :: r) w Q ↔ WP P 49 21 lo r w Q := W_ifnull_n rfl rfl
theorem wK_firstWaiting_6 : WP P 49 6 lo (.ref a :: r) w Q ↔ WP P 49 9 lo r w Q := W_ifnull_r rfl rfl rfl
theorem wK_firstWaiting_9 : WP P 49 9 lo st w Q ↔ x_ga lo[2]? (fun v => WP P 49 10 lo (v :: st) w Q) := W_aload_n rfl rfl rfl
theorem wK_firstWaiting_10 : WP P 49 10 lo (.ref a :: r) w Q ↔ (x_has w a [2] ∧ WP P 49 13 lo (x_fd w a 5 :: r) w Q) := W_get rfl rfl rfl
theorem wK_firstWaiting_13 : WP P 49 13 lo st w Q ↔ x_gi lo[1]? (fun x => WP P 49 14 lo (.int x :: st) w Q) := W_iload_n rfl rfl rfl
theorem wK_firstWaiting_14 : WP P 49 14 lo (.int y :: .int x :: r) w Q ↔ (if x = y then WP P 49 17 lo r w Q else WP P 49 21 lo r w Q) := W_ic_ne rfl rfl rfl
theorem wK_firstWaiting_17 : WP P 49 17 lo st w Q ↔ x_ga lo[2]? (fun v => WP P 49 18 lo (v :: st) w Q) := W_aload_n rfl rfl rfl
theorem wK_firstWaiting_18 : WP P 49 18 lo st w Q ↔ WP P 49 22 lo st w Q := W_goto rfl rfl
theorem wK_firstWaiting_21 : WP P 49 21 lo st w Q ↔ WP P 49 22 lo (.null :: st) w Q := W_null rfl rfl
theorem wK_firstWaiting_22n : WP P 49 22 lo [.null] w Q ↔ Q (some .null) w := WP_ret rfl rfl
theorem wK_firstWaiting_22 : WP P 49 22 lo [.ref a] w Q ↔ Q (some (.ref a)) w := WP_ret rfl rfl
-- 50 K_becomeWaiting
theorem wK_becomeWaiting_0 : WP P 50 0 lo st w Q ↔ x_ga lo[0]? (fun v => WP P 50 1 lo (v :: st) w Q) := W_aload_n rfl rfl rfl
theorem wK_becomeWaiting_1 {u1 : Value} (hr : r.length ≤ 8) (hc : ([u1] : List Value).all x_cat1 = true) (hc2 : r.all x_cat1 = true) (k : WP P 6 0 [some u1, none, none, none] [] w (fun v w1 => WP P 50 4 lo (v.toList ++ r) w1 Q)) : WP P 50 1 lo (u1 :: r) w Q := K_stat (as := [u1]) rfl rfl rfl rfl (by decide) (by decide) rfl hr hc hc2 k
theorem wK_becomeWaiting_4 : WP P 50 4 lo st w Q ↔ x_ga lo[0]? (fun v => WP P 50 5 lo (v :: st) w Q) := W_aload_n rfl rfl rfl
theorem wK_becomeWaiting_5 : WP P 50 5 lo st w Q ↔ x_gi lo[1]? (fun x => WP P 50 6 lo (.int x :: st) w Q) := W_iload_n rfl rfl rfl
theorem wK_becomeWaiting_6 : WP P 50 6 lo (v1 :: .ref a :: r) w Q ↔ ((x_has w a [2] ∧ x_fit 0 v1 = true) ∧ WP P 50 9 lo r (x_put w a 5 v1) Q) := W_put rfl rfl (by decide) rfl
theorem wK_becomeWaiting_9 : WP P 50 9 lo st w Q ↔ x_ga lo[0]? (fun v => WP P 50 10 lo (v :: st) w Q) := W_aload_n rfl rfl rfl
theorem wK_becomeWaiting_10 : WP P 50 10 lo st w Q ↔ x_ga lo[2]? (fun v => WP P 50 11 lo (v :: st) w Q) := W_aload_n rfl rfl rfl
theorem wK_becomeWaiting_11 {u1 u2 : Value} (hr : r.length ≤ 8) (hc : ([u1, u2] : List Value).all x_cat1 = true) (hc2 : r.all x_cat1 = true) (k : WP P 7 0 [some u1, some u2] [] w (fun v w1 => WP P 50 14 lo (v.toList ++ r) w1 Q)) : WP P 50 11 lo (u2 :: u1 :: r) w Q := K_stat (as := [u1, u2]) rfl rfl rfl rfl (by decide) (by decide) rfl hr hc hc2 k
theorem wK_becomeWaiting_14 : WP P 50 14 lo [] w Q ↔ Q none w := WP_ret rfl rfl
-- 51 K_transfer
theorem wK_transfer_0 : WP P 51 0 lo st w Q ↔ x_ga lo[2]? (fun v => WP P 51 1 lo (v :: st) w Q) := W_aload_n rfl rfl rfl
theorem wK_transfer_1 : WP P 51 1 lo st w Q ↔ x_ga lo[1]? (fun v => WP P 51 2 lo (v :: st) w Q) := W_aload_n rfl rfl rfl
theorem wK_transfer_2 : WP P 51 2 lo (.ref a :: r) w Q ↔ (x_has w a [2] ∧ WP P 51 5 lo (x_fd w a 12 :: r) w Q) := W_get rfl rfl rfl
theorem wK_transfer_5 : WP P 51 5 lo (v1 :: .ref a :: r) w Q ↔ ((x_has w a [2] ∧ x_fit 0 v1 = true) ∧ WP P 51 8 lo r (x_put w a 7 v1) Q) := W_put rfl rfl (by decide) rfl
theorem wK_transfer_8 : WP P 51 8 lo st w Q ↔ x_ga lo[2]? (fun v => WP P 51 9 lo (v :: st) w Q) := W_aload_n rfl rfl rfl
theorem wK_transfer_9 : WP P 51 9 lo st w Q ↔ x_ga lo[1]? (fun v => WP P 51 10 lo (v :: st) w Q) := W_aload_n rfl rfl rfl
theorem wK_transfer_10 : WP P 51 10 lo (.ref a :: r) w Q ↔ (x_has w a [2] ∧ WP P 51 13 lo (x_fd w a 13 :: r) w Q) := W_get rfl rfl rfl
theorem wK_transfer_13 : WP P 51 13 lo (v1 :: .ref a :: r) w Q ↔ ((x_has w a [2] ∧ x_fit 0 v1 = true) ∧ WP P 51 16 lo r (x_put w a 8 v1) Q) := W_put rfl rfl (by decide) rfl
theorem wK_transfer_16 : WP P 51 16 lo st w Q ↔ x_ga lo[2]? (fun v => WP P 51 17 lo (v :: st) w Q) := W_aload_n rfl rfl rfl
theorem wK_transfer_17 : WP P 51 17 lo st w Q ↔ x_ga lo[0]? (fun v => WP P 51 18 lo (v :: st) w Q) := W_aload_n rfl rfl rfl
theorem wK_transfer_18 : WP P 51 18 lo st w Q ↔ x_ga lo[1]? (fun v => WP P 51 19 lo (v :: st) w Q) := W_aload_n rfl rfl rfl
theorem wK_transfer_19 : WP P 51 19 lo st w Q ↔ x_ga lo[2]? (fun v => WP P 51 20 lo (v :: st) w Q) := W_aload_n rfl rfl rfl
theorem wK_transfer_20 {u1 u2 : Value} {b nb : Nat} (hb : x_tg w b = some (0, nb)) (hr : r.length ≤ 8) (hc : ([u1, u2] : List Value).all x_cat1 = true) (hc2 : r.all x_cat1 = true) (k : WP P 52 0 [some (.ref b), some u1, some u2, none, none] [] w (fun v w1 => WP P 51 23 lo (v.toList ++ r) w1 Q)) : WP P 51 20 lo (u2 :: u1 :: .ref b :: r) w Q := K_virt (as := [u1, u2]) rfl rfl rfl rfl (by decide) (by decide) rfl hb hr hc hc2 k
theorem wK_transfer_23 : WP P 51 23 lo (.int x :: r) w Q ↔ (if x = xi 0 then WP P 51 30 lo r w Q else WP P 51 26 lo r w Q) := W_if_eq rfl rfl rfl
theorem wK_transfer_26 : WP P 51 26 lo st w Q ↔ WP P 51 27 lo (.int (xi 1) :: st) w Q := W_iconst rfl rfl rfl
theorem wK_transfer_27 : WP P 51 27 lo st w Q ↔ WP P 51 31 lo st w Q := W_goto rfl rfl
theorem wK_transfer_30 : WP P 51 30 lo st w Q ↔ WP P 51 31 lo (.int (xi 0) :: st) w Q := W_iconst rfl rfl rfl
theorem wK_transfer_31 : WP P 51 31 lo (v1 :: .ref a :: r) w Q ↔ ((x_has w a [2] ∧ x_fit 0 v1 = true) ∧ WP P 51 34 lo r (x_put w a 9 v1) Q) := W_put rfl rfl (by decide) rfl
theorem wK_transfer_34 : WP P 51 34 lo [] w Q ↔ Q none w := WP_ret rfl rfl
-- 52 K_handOver
theorem wK_handOver_0 : WP P 52 0 lo st w Q ↔ x_ga lo[1]? (fun v => WP P 52 1 lo (v :: st) w Q) := W_aload_n rfl rfl rfl
theorem wK_handOver_1 : WP P 52 1 lo (.ref a :: r) w Q ↔ (x_has w a [2] ∧ WP P 52 4 lo (x_fd w a 14 :: r) w Q) := W_get rfl rfl rfl
theorem wK_handOver_4 : WP P 52 4 lo (.int x :: r) w Q ↔ (if x = xi 0 then WP P 52 7 lo r w Q else WP P 52 9 lo r w Q) := W_if_ne rfl rfl rfl
theorem wK_handOver_7 : WP P 52 7 lo st w Q ↔ WP P 52 8 lo (.int (xi 0) :: st) w Q := W_iconst rfl rfl rfl
theorem wK_handOver_8 (h : x = 0 ∨ x = 1) : WP P 52 8 lo [.int x] w Q ↔ Q (some (.int x)) w := WP_ret rfl (if_pos (Or.inr ⟨rfl, h⟩))
theorem wK_handOver_9 : WP P 52 9 lo st w Q ↔ x_ga lo[0]? (fun v => WP P 52 10 lo (v :: st) w Q) := W_aload_n rfl rfl rfl
theorem wK_handOver_10 : WP P 52 10 lo st w Q ↔ x_ga lo[1]? (fun v => WP P 52 11 lo (v :: st) w Q) := W_aload_n rfl rfl rfl
theorem wK_handOver_11 : WP P 52 11 lo st w Q ↔ x_ga lo[1]? (fun v => WP P 52 12 lo (v :: st) w Q) := W_aload_n rfl rfl rfl
theorem wK_handOver_12 : WP P 52 12 lo (.ref a :: r) w Q ↔ (x_has w a [2] ∧ WP P 52 15 lo (x_fd w a 15 :: r) w Q) := W_get rfl rfl rfl
theorem wK_handOver_15 {u1 u2 : Value} {b nb : Nat} (hb : x_tg w b = some (0, nb)) (hr : r.length ≤ 8) (hc : ([u1, u2] : List Value).all x_cat1 = true) (hc2 : r.all x_cat1 = true) (k : WP P 13 0 [some (.ref b), some u1, some u2, none] [] w (fun v w1 => WP P 52 18 lo (v.toList ++ r) w1 Q)) : WP P 52 15 lo (u2 :: u1 :: .ref b :: r) w Q := K_virt (as := [u1, u2]) rfl rfl rfl rfl (by decide) (by decide) rfl hb hr hc hc2 k
theorem wK_handOver_18 : WP P 52 18 lo (.ref a :: r) w Q ↔ (3 < lo.length ∧ WP P 52 19 (lo.set 3 (some (.ref a))) r w Q) := W_astore_n rfl rfl rfl
theorem wK_handOver_18n : WP P 52 18 lo (.null :: r) w Q ↔ (3 < lo.length ∧ WP P 52 19 (lo.set 3 (some .null)) r w Q) := W_astore_nN rfl rfl rfl
theorem wK_handOver_19 : WP P 52 19 lo st w Q ↔ x_ga lo[3]? (fun v => WP P 52 20 lo (v :: st) w Q) := W_aload_n rfl rfl rfl
theorem wK_handOver_20n : WP P 52 20 lo (.null :: r) w Q ↔ WP P 52 33 lo r w Q := W_ifnull_n rfl rfl
theorem wK_handOver_20 : WP P 52 20 lo (.ref a :: r) w Q ↔ WP P 52 23 lo r w Q := W_ifnull_r rfl rfl rfl
theorem wK_handOver_23 : WP P 52 23 lo st w Q ↔ x_ga lo[3]? (fun v => WP P 52 24 lo (v :: st) w Q) := W_aload_n rfl rfl rfl
theorem wK_handOver_24 : WP P 52 24 lo (.ref a :: r) w Q ↔ (x_has w a [1] ∧ WP P 52 27 lo (x_fd w a 0 :: r) w Q) := W_get rfl rfl rfl
theorem wK_handOver_27 : WP P 52 27 lo (.ref a :: r) w Q ↔ (x_has w a [2, 4, 5, 6, 7, 8, 9, 10] ∧ WP P 52 30 lo (x_fd w a 0 :: r) w Q) := W_get rfl rfl rfl
theorem wK_handOver_30 : WP P 52 30 lo (.int x :: r) w Q ↔ (if x = xi 0 then WP P 52 33 lo r w Q else WP P 52 35 lo r w Q) := W_if_ne rfl rfl rfl
theorem wK_handOver_33 : WP P 52 33 lo st w Q ↔ WP P 52 34 lo (.int (xi 0) :: st) w Q := W_iconst rfl rfl rfl
theorem wK_handOver_34 (h : x = 0 ∨ x = 1) : WP P 52 34 lo [.int x] w Q ↔ Q (some (.int x)) w := WP_ret rfl (if_pos (Or.inr ⟨rfl, h⟩))
theorem wK_handOver_35 : WP P 52 35 lo st w Q ↔ x_ga lo[0]? (fun v => WP P 52 36 lo (v :: st) w Q) := W_aload_n rfl rfl rfl
theorem wK_handOver_36 : WP P 52 36 lo st w Q ↔ x_ga lo[2]? (fun v => WP P 52 37 lo (v :: st) w Q) := W_aload_n rfl rfl rfl
theorem wK_handOver_37 : WP P 52 37 lo st w Q ↔ x_ga lo[2]? (fun v => WP P 52 38 lo (v :: st) w Q) := W_aload_n rfl rfl rfl
theorem wK_handOver_38 : WP P 52 38 lo (.ref a :: r) w Q ↔ (x_has w a [2] ∧ WP P 52 41 lo (x_fd w a 15 :: r) w Q) := W_get rfl rfl rfl
theorem wK_handOver_41 {u1 u2 : Value} {b nb : Nat} (hb : x_tg w b = some (0, nb)) (hr : r.length ≤ 8) (hc : ([u1, u2] : List Value).all x_cat1 = true) (hc2 : r.all x_cat1 = true) (k : WP P 14 0 [some (.ref b), some u1, some u2, none] [] w (fun v w1 => WP P 52 44 lo (v.toList ++ r) w1 Q)) : WP P 52 41 lo (u2 :: u1 :: .ref b :: r) w Q := K_virt (as := [u1, u2]) rfl rfl rfl rfl (by decide) (by decide) rfl hb hr hc hc2 k
theorem wK_handOver_44 : WP P 52 44 lo (.int x :: r) w Q ↔ (4 < lo.length ∧ WP P 52 46 (lo.set 4 (some (.int x))) r w Q) := W_istore rfl rfl
theorem wK_handOver_46 : WP P 52 46 lo st w Q ↔ x_ga lo[0]? (fun v => WP P 52 47 lo (v :: st) w Q) := W_aload_n rfl rfl rfl
theorem wK_handOver_47 : WP P 52 47 lo st w Q ↔ x_gi lo[4]? (fun x => WP P 52 49 lo (.int x :: st) w Q) := W_iload rfl rfl
theorem wK_handOver_49 {u1 : Value} {b nb : Nat} (hb : x_tg w b = some (0, nb)) (hr : r.length ≤ 8) (hc : ([u1] : List Value).all x_cat1 = true) (hc2 : r.all x_cat1 = true) (k : WP P 15 0 [some (.ref b), some u1] [] w (fun v w1 => WP P 52 52 lo (v.toList ++ r) w1 Q)) : WP P 52 49 lo (u1 :: .ref b :: r) w Q := K_virt (as := [u1]) rfl rfl rfl rfl (by decide) (by decide) rfl hb hr hc hc2 k
theorem wK_handOver_52 : WP P 52 52 lo (.int x :: r) w Q ↔ (if x = xi 0 then WP P 52 55 lo r w Q else WP P 52 57 lo r w Q) := W_if_ne rfl rfl rfl
theorem wK_handOver_55 : WP P 52 55 lo st w Q ↔ WP P 52 56 lo (.int (xi 0) :: st) w Q := W_iconst rfl rfl rfl
theorem wK_handOver_56 (h : x = 0 ∨ x = 1) : WP P 52 56 lo [.int x] w Q ↔ Q (some (.int x)) w := WP_ret rfl (if_pos (Or.inr ⟨rfl, h⟩))
theorem wK_handOver_57 : WP P 52 57 lo st w Q ↔ x_ga lo[0]? (fun v => WP P 52 58 lo (v :: st) w Q) := W_aload_n rfl rfl rfl
theorem wK_handOver_58 : WP P 52 58 lo st w Q ↔ WP P 52 61 lo (.ref (x_sz w) :: st) (x_new w 1 8 (x_df 1)) Q := W_new rfl rfl rfl rfl rfl
theorem wK_handOver_61 : WP P 52 61 lo (v1 :: r) w Q ↔ (x_cat1 v1 = true ∧ WP P 52 62 lo (v1 :: v1 :: r) w Q) := W_dup rfl rfl
theorem wK_handOver_62 : WP P 52 62 lo st w Q ↔ x_ga lo[3]? (fun v => WP P 52 63 lo (v :: st) w Q) := W_aload_n rfl rfl rfl
theorem wK_handOver_63 : WP P 52 63 lo (.ref a :: r) w Q ↔ (x_has w a [1] ∧ WP P 52 66 lo (x_fd w a 0 :: r) w Q) := W_get rfl rfl rfl
theorem wK_handOver_66 : WP P 52 66 lo st w Q ↔ x_ga lo[3]? (fun v => WP P 52 67 lo (v :: st) w Q) := W_aload_n rfl rfl rfl
theorem wK_handOver_67 : WP P 52 67 lo (.ref a :: r) w Q ↔ (x_has w a [1] ∧ WP P 52 70 lo (x_fd w a 1 :: r) w Q) := W_get rfl rfl rfl
theorem wK_handOver_70 : WP P 52 70 lo st w Q ↔ x_ga lo[3]? (fun v => WP P 52 71 lo (v :: st) w Q) := W_aload_n rfl rfl rfl
theorem wK_handOver_71 : WP P 52 71 lo (.ref a :: r) w Q ↔ (x_has w a [1] ∧ WP P 52 74 lo (x_fd w a 2 :: r) w Q) := W_get rfl rfl rfl
theorem wK_handOver_74 : WP P 52 74 lo st w Q ↔ x_ga lo[3]? (fun v => WP P 52 75 lo (v :: st) w Q) := W_aload_n rfl rfl rfl
theorem wK_handOver_75 {u1 u2 u3 u4 : Value} {b : Nat} (hr : r.length ≤ 8) (hc : ([u1, u2, u3, u4] : List Value).all x_cat1 = true) (hc2 : r.all x_cat1 = true) (k : WP P 8 0 [some (.ref b), some u1, some u2, some u3, some u4] [] w (fun v w1 => WP P 52 78 lo (v.toList ++ r) w1 Q)) : WP P 52 75 lo (u4 :: u3 :: u2 :: u1 :: .ref b :: r) w Q := K_init (as := [u1, u2, u3, u4]) rfl rfl (by decide) rfl rfl (by decide) (by decide) rfl hr hc hc2 k
theorem wK_handOver_78 : WP P 52 78 lo st w Q ↔ x_gi lo[4]? (fun x => WP P 52 80 lo (.int x :: st) w Q) := W_iload rfl rfl
theorem wK_handOver_80 {u1 u2 : Value} {b nb : Nat} (hb : x_tg w b = some (0, nb)) (hr : r.length ≤ 8) (hc : ([u1, u2] : List Value).all x_cat1 = true) (hc2 : r.all x_cat1 = true) (k : WP P 9 0 [some (.ref b), some u1, some u2] [] w (fun v w1 => WP P 52 83 lo (v.toList ++ r) w1 Q)) : WP P 52 80 lo (u2 :: u1 :: .ref b :: r) w Q := K_virt (as := [u1, u2]) rfl rfl rfl rfl (by decide) (by decide) rfl hb hr hc hc2 k
theorem wK_handOver_83 : WP P 52 83 lo st w Q ↔ WP P 52 84 lo (.int (xi 1) :: st) w Q := W_iconst rfl rfl rfl
theorem wK_handOver_84 (h : x = 0 ∨ x = 1) : WP P 52 84 lo [.int x] w Q ↔ Q (some (.int x)) w := WP_ret rfl (if_pos (Or.inr ⟨rfl, h⟩))
-- 53 K_receive
theorem wK_receive_0 : WP P 53 0 lo st w Q ↔ x_ga lo[0]? (fun v => WP P 53 1 lo (v :: st) w Q) := W_aload_n rfl rfl rfl
theorem wK_receive_1 {b nb : Nat} (hb : x_tg w b = some (0, nb)) (hr : r.length ≤ 8) (hc : ([] : List Value).all x_cat1 = true) (hc2 : r.all x_cat1 = true) (k : WP P 12 0 [some (.ref b), none] [] w (fun v w1 => WP P 53 4 lo (v.toList ++ r) w1 Q)) : WP P 53 1 lo (.ref b :: r) w Q := K_virt (as := []) rfl rfl rfl rfl (by decide) (by decide) rfl hb hr hc hc2 k
theorem wK_receive_4 : WP P 53 4 lo (.ref a :: r) w Q ↔ (4 < lo.length ∧ WP P 53 6 (lo.set 4 (some (.ref a))) r w Q) := W_astore rfl rfl
theorem wK_receive_4n : WP P 53 4 lo (.null :: r) w Q ↔ (4 < lo.length ∧ WP P 53 6 (lo.set 4 (some .null)) r w Q) := W_astoreN rfl rfl
theorem wK_receive_6 : WP P 53 6 lo st w Q ↔ x_ga lo[4]? (fun v => WP P 53 8 lo (v :: st) w Q) := W_aload rfl rfl
theorem wK_receive_8n : WP P 53 8 lo (.null :: r) w Q ↔ WP P 53 11 lo r w Q := W_ifnn_n rfl rfl rfl
theorem wK_receive_8 : WP P 53 8 lo (.ref a :: r) w Q ↔ WP P 53 14 lo r w Q := W_ifnn_r rfl rfl
theorem wK_receive_11 : WP P 53 11 lo st w Q ↔ WP P 53 13 lo (.int (xi 8) :: st) w Q := W_bipush rfl rfl (by decide)
theorem wK_receive_13 : WP P 53 13 lo [.int x] w Q ↔ Q (some (.int x)) w := WP_ret rfl rfl
theorem wK_receive_14 : WP P 53 14 lo st w Q ↔ x_ga lo[0]? (fun v => WP P 53 15 lo (v :: st) w Q) := W_aload_n rfl rfl rfl
theorem wK_receive_15 : WP P 53 15 lo st w Q ↔ x_ga lo[4]? (fun v => WP P 53 17 lo (v :: st) w Q) := W_aload rfl rfl
theorem wK_receive_17 : WP P 53 17 lo st w Q ↔ x_gi lo[1]? (fun x => WP P 53 18 lo (.int x :: st) w Q) := W_iload_n rfl rfl rfl
theorem wK_receive_18 {u1 u2 : Value} {b nb : Nat} (hb : x_tg w b = some (0, nb)) (hr : r.length ≤ 8) (hc : ([u1, u2] : List Value).all x_cat1 = true) (hc2 : r.all x_cat1 = true) (k : WP P 13 0 [some (.ref b), some u1, some u2, none] [] w (fun v w1 => WP P 53 21 lo (v.toList ++ r) w1 Q)) : WP P 53 18 lo (u2 :: u1 :: .ref b :: r) w Q := K_virt (as := [u1, u2]) rfl rfl rfl rfl (by decide) (by decide) rfl hb hr hc hc2 k
theorem wK_receive_21 : WP P 53 21 lo (.ref a :: r) w Q ↔ (5 < lo.length ∧ WP P 53 23 (lo.set 5 (some (.ref a))) r w Q) := W_astore rfl rfl
theorem wK_receive_21n : WP P 53 21 lo (.null :: r) w Q ↔ (5 < lo.length ∧ WP P 53 23 (lo.set 5 (some .null)) r w Q) := W_astoreN rfl rfl
theorem wK_receive_23 : WP P 53 23 lo st w Q ↔ x_ga lo[5]? (fun v => WP P 53 25 lo (v :: st) w Q) := W_aload rfl rfl
theorem wK_receive_25n : WP P 53 25 lo (.null :: r) w Q ↔ WP P 53 53 lo r w Q := W_ifnull_n rfl rfl
theorem wK_receive_25 : WP P 53 25 lo (.ref a :: r) w Q ↔ WP P 53 28 lo r w Q := W_ifnull_r rfl rfl rfl
theorem wK_receive_28 : WP P 53 28 lo st w Q ↔ x_ga lo[5]? (fun v => WP P 53 30 lo (v :: st) w Q) := W_aload rfl rfl
theorem wK_receive_30 : WP P 53 30 lo (.ref a :: r) w Q ↔ (x_has w a [1] ∧ WP P 53 33 lo (x_fd w a 0 :: r) w Q) := W_get rfl rfl rfl
theorem wK_receive_33 : WP P 53 33 lo (.ref a :: r) w Q ↔ (7 < lo.length ∧ WP P 53 35 (lo.set 7 (some (.ref a))) r w Q) := W_astore rfl rfl
theorem wK_receive_33n : WP P 53 33 lo (.null :: r) w Q ↔ (7 < lo.length ∧ WP P 53 35 (lo.set 7 (some .null)) r w Q) := W_astoreN rfl rfl
theorem wK_receive_35 : WP P 53 35 lo st w Q ↔ x_ga lo[7]? (fun v => WP P 53 37 lo (v :: st) w Q) := W_aload rfl rfl
theorem wK_receive_37n : WP P 53 37 lo (.null :: r) w Q ↔ WP P 53 40 lo (.int (xi 0) :: r) w Q := W_inst_n rfl rfl
theorem wK_receive_37 {t n : Nat} (h1 : x_tg w a = some (t, n)) (ht : t ∈ x_things) : WP P 53 37 lo (.ref a :: r) w Q ↔ WP P 53 40 lo (.int (if t = 6 then xi 1 else xi 0) :: r) w Q := W_inst rfl rfl h1 ht rfl
theorem wK_receive_40 : WP P 53 40 lo (.int x :: r) w Q ↔ (if x = xi 0 then WP P 53 53 lo r w Q else WP P 53 43 lo r w Q) := W_if_eq rfl rfl rfl
theorem wK_receive_43 : WP P 53 43 lo st w Q ↔ x_ga lo[7]? (fun v => WP P 53 45 lo (v :: st) w Q) := W_aload rfl rfl
theorem wK_receive_45 {n : Nat} (h1 : x_tg w a = some (6, n)) : WP P 53 45 lo (.ref a :: r) w Q ↔ WP P 53 48 lo (.ref a :: r) w Q := W_cast rfl h1 rfl rfl
theorem wK_receive_48 : WP P 53 48 lo (.ref a :: r) w Q ↔ (6 < lo.length ∧ WP P 53 50 (lo.set 6 (some (.ref a))) r w Q) := W_astore rfl rfl
theorem wK_receive_48n : WP P 53 48 lo (.null :: r) w Q ↔ (6 < lo.length ∧ WP P 53 50 (lo.set 6 (some .null)) r w Q) := W_astoreN rfl rfl
theorem wK_receive_50 : WP P 53 50 lo st w Q ↔ WP P 53 55 lo st w Q := W_goto rfl rfl
theorem wK_receive_53 : WP P 53 53 lo st w Q ↔ WP P 53 54 lo (.int (xi 1) :: st) w Q := W_iconst rfl rfl rfl
theorem wK_receive_54 : WP P 53 54 lo [.int x] w Q ↔ Q (some (.int x)) w := WP_ret rfl rfl
theorem wK_receive_55 : WP P 53 55 lo st w Q ↔ x_ga lo[5]? (fun v => WP P 53 57 lo (v :: st) w Q) := W_aload rfl rfl
theorem wK_receive_57 : WP P 53 57 lo (.ref a :: r) w Q ↔ (x_has w a [1] ∧ WP P 53 60 lo (x_fd w a 1 :: r) w Q) := W_get rfl rfl rfl
theorem wK_receive_60 : WP P 53 60 lo st w Q ↔ WP P 53 61 lo (.int (xi 1) :: st) w Q := W_iconst rfl rfl rfl
theorem wK_receive_61 : WP P 53 61 lo (.int y :: .int x :: r) w Q ↔ WP P 53 62 lo (.int (x &&& y) :: r) w Q := W_iand rfl rfl
theorem wK_receive_62 : WP P 53 62 lo (.int x :: r) w Q ↔ (if x = xi 0 then WP P 53 65 lo r w Q else WP P 53 67 lo r w Q) := W_if_ne rfl rfl rfl
theorem wK_receive_65 : WP P 53 65 lo st w Q ↔ WP P 53 66 lo (.int (xi 2) :: st) w Q := W_iconst rfl rfl rfl
theorem wK_receive_66 : WP P 53 66 lo [.int x] w Q ↔ Q (some (.int x)) w := WP_ret rfl rfl
theorem wK_receive_67 : WP P 53 67 lo st w Q ↔ x_ga lo[6]? (fun v => WP P 53 69 lo (v :: st) w Q) := W_aload rfl rfl
theorem wK_receive_69 : WP P 53 69 lo (.ref a :: r) w Q ↔ (x_has w a [6] ∧ WP P 53 72 lo (x_fd w a 2 :: r) w Q) := W_get rfl rfl rfl
theorem wK_receive_72 : WP P 53 72 lo st w Q ↔ WP P 53 73 lo (.int (xi 3) :: st) w Q := W_iconst rfl rfl rfl
theorem wK_receive_73 {u1 u2 : Value} (hr : r.length ≤ 8) (hc : ([u1, u2] : List Value).all x_cat1 = true) (hc2 : r.all x_cat1 = true) (k : WP P 49 0 [some u1, some u2, none] [] w (fun v w1 => WP P 53 76 lo (v.toList ++ r) w1 Q)) : WP P 53 73 lo (u2 :: u1 :: r) w Q := K_stat (as := [u1, u2]) rfl rfl rfl rfl (by decide) (by decide) rfl hr hc hc2 k
theorem wK_receive_76 : WP P 53 76 lo (.ref a :: r) w Q ↔ (7 < lo.length ∧ WP P 53 78 (lo.set 7 (some (.ref a))) r w Q) := W_astore rfl rfl
theorem wK_receive_76n : WP P 53 76 lo (.null :: r) w Q ↔ (7 < lo.length ∧ WP P 53 78 (lo.set 7 (some .null)) r w Q) := W_astoreN rfl rfl
theorem wK_receive_78 : WP P 53 78 lo st w Q ↔ x_ga lo[7]? (fun v => WP P 53 80 lo (v :: st) w Q) := W_aload rfl rfl
theorem wK_receive_80n : WP P 53 80 lo (.null :: r) w Q ↔ WP P 53 83 lo r w Q := W_ifnn_n rfl rfl rfl
theorem wK_receive_80 : WP P 53 80 lo (.ref a :: r) w Q ↔ WP P 53 90 lo r w Q := W_ifnn_r rfl rfl
theorem wK_receive_83 : WP P 53 83 lo st w Q ↔ x_gi lo[3]? (fun x => WP P 53 84 lo (.int x :: st) w Q) := W_iload_n rfl rfl rfl
theorem wK_receive_84 : WP P 53 84 lo (.int x :: r) w Q ↔ (if x = xi 0 then WP P 53 87 lo r w Q else WP P 53 90 lo r w Q) := W_if_ne rfl rfl rfl
theorem wK_receive_87 : WP P 53 87 lo st w Q ↔ WP P 53 89 lo (.int (xi 6) :: st) w Q := W_bipush rfl rfl (by decide)
theorem wK_receive_89 : WP P 53 89 lo [.int x] w Q ↔ Q (some (.int x)) w := WP_ret rfl rfl
theorem wK_receive_90 : WP P 53 90 lo st w Q ↔ x_ga lo[4]? (fun v => WP P 53 92 lo (v :: st) w Q) := W_aload rfl rfl
theorem wK_receive_92 : WP P 53 92 lo st w Q ↔ x_gi lo[2]? (fun x => WP P 53 93 lo (.int x :: st) w Q) := W_iload_n rfl rfl rfl
theorem wK_receive_93 : WP P 53 93 lo (v1 :: .ref a :: r) w Q ↔ ((x_has w a [2] ∧ x_fit 0 v1 = true) ∧ WP P 53 96 lo r (x_put w a 15 v1) Q) := W_put rfl rfl (by decide) rfl
theorem wK_receive_96 : WP P 53 96 lo st w Q ↔ x_ga lo[7]? (fun v => WP P 53 98 lo (v :: st) w Q) := W_aload rfl rfl
theorem wK_receive_98n : WP P 53 98 lo (.null :: r) w Q ↔ WP P 53 101 lo r w Q := W_ifnn_n rfl rfl rfl
theorem wK_receive_98 : WP P 53 98 lo (.ref a :: r) w Q ↔ WP P 53 115 lo r w Q := W_ifnn_r rfl rfl
theorem wK_receive_101 : WP P 53 101 lo st w Q ↔ x_ga lo[4]? (fun v => WP P 53 103 lo (v :: st) w Q) := W_aload rfl rfl
theorem wK_receive_103 : WP P 53 103 lo st w Q ↔ WP P 53 104 lo (.int (xi 4) :: st) w Q := W_iconst rfl rfl rfl
theorem wK_receive_104 : WP P 53 104 lo st w Q ↔ x_ga lo[6]? (fun v => WP P 53 106 lo (v :: st) w Q) := W_aload rfl rfl
theorem wK_receive_106 : WP P 53 106 lo (.ref a :: r) w Q ↔ (x_has w a [6] ∧ WP P 53 109 lo (x_fd w a 2 :: r) w Q) := W_get rfl rfl rfl
theorem wK_receive_109 {u1 u2 u3 : Value} (hr : r.length ≤ 8) (hc : ([u1, u2, u3] : List Value).all x_cat1 = true) (hc2 : r.all x_cat1 = true) (k : WP P 50 0 [some u1, some u2, some u3] [] w (fun v w1 => WP P 53 112 lo (v.toList ++ r) w1 Q)) : WP P 53 109 lo (u3 :: u2 :: u1 :: r) w Q := K_stat (as := [u1, u2, u3]) rfl rfl rfl rfl (by decide) (by decide) rfl hr hc hc2 k
theorem wK_receive_112 : WP P 53 112 lo st w Q ↔ WP P 53 114 lo (.int (xi 10) :: st) w Q := W_bipush rfl rfl (by decide)
theorem wK_receive_114 : WP P 53 114 lo [.int x] w Q ↔ Q (some (.int x)) w := WP_ret rfl rfl
theorem wK_receive_115 : WP P 53 115 lo st w Q ↔ x_ga lo[0]? (fun v => WP P 53 116 lo (v :: st) w Q) := W_aload_n rfl rfl rfl
theorem wK_receive_116 : WP P 53 116 lo st w Q ↔ x_ga lo[7]? (fun v => WP P 53 118 lo (v :: st) w Q) := W_aload rfl rfl
theorem wK_receive_118 : WP P 53 118 lo st w Q ↔ x_ga lo[4]? (fun v => WP P 53 120 lo (v :: st) w Q) := W_aload rfl rfl
theorem wK_receive_120 {u1 u2 : Value} {b nb : Nat} (hb : x_tg w b = some (0, nb)) (hr : r.length ≤ 8) (hc : ([u1, u2] : List Value).all x_cat1 = true) (hc2 : r.all x_cat1 = true) (k : WP P 51 0 [some (.ref b), some u1, some u2] [] w (fun v w1 => WP P 53 123 lo (v.toList ++ r) w1 Q)) : WP P 53 120 lo (u2 :: u1 :: .ref b :: r) w Q := K_virt (as := [u1, u2]) rfl rfl rfl rfl (by decide) (by decide) rfl hb hr hc hc2 k
theorem wK_receive_123 : WP P 53 123 lo st w Q ↔ x_ga lo[0]? (fun v => WP P 53 124 lo (v :: st) w Q) := W_aload_n rfl rfl rfl
theorem wK_receive_124 : WP P 53 124 lo st w Q ↔ x_ga lo[7]? (fun v => WP P 53 126 lo (v :: st) w Q) := W_aload rfl rfl
theorem wK_receive_126 {u1 : Value} {b nb : Nat} (hb : x_tg w b = some (0, nb)) (hr : r.length ≤ 8) (hc : ([u1] : List Value).all x_cat1 = true) (hc2 : r.all x_cat1 = true) (k : WP P 5 0 [some (.ref b), some u1] [] w (fun v w1 => WP P 53 129 lo (v.toList ++ r) w1 Q)) : WP P 53 126 lo (u1 :: .ref b :: r) w Q := K_virt (as := [u1]) rfl rfl rfl rfl (by decide) (by decide) rfl hb hr hc hc2 k
theorem wK_receive_129 : WP P 53 129 lo st w Q ↔ WP P 53 130 lo (.int (xi 0) :: st) w Q := W_iconst rfl rfl rfl
theorem wK_receive_130 : WP P 53 130 lo [.int x] w Q ↔ Q (some (.int x)) w := WP_ret rfl rfl
-- 54 K_signal
theorem wK_signal_0 : WP P 54 0 lo st w Q ↔ x_ga lo[0]? (fun v => WP P 54 1 lo (v :: st) w Q) := W_aload_n rfl rfl rfl
theorem wK_signal_1 {b nb : Nat} (hb : x_tg w b = some (0, nb)) (hr : r.length ≤ 8) (hc : ([] : List Value).all x_cat1 = true) (hc2 : r.all x_cat1 = true) (k : WP P 12 0 [some (.ref b), none] [] w (fun v w1 => WP P 54 4 lo (v.toList ++ r) w1 Q)) : WP P 54 1 lo (.ref b :: r) w Q := K_virt (as := []) rfl rfl rfl rfl (by decide) (by decide) rfl hb hr hc hc2 k
theorem wK_signal_4 : WP P 54 4 lo (.ref a :: r) w Q ↔ (2 < lo.length ∧ WP P 54 5 (lo.set 2 (some (.ref a))) r w Q) := W_astore_n rfl rfl rfl
theorem wK_signal_4n : WP P 54 4 lo (.null :: r) w Q ↔ (2 < lo.length ∧ WP P 54 5 (lo.set 2 (some .null)) r w Q) := W_astore_nN rfl rfl rfl
theorem wK_signal_5 : WP P 54 5 lo st w Q ↔ x_ga lo[2]? (fun v => WP P 54 6 lo (v :: st) w Q) := W_aload_n rfl rfl rfl
theorem wK_signal_6n : WP P 54 6 lo (.null :: r) w Q ↔ WP P 54 9 lo r w Q := W_ifnn_n rfl rfl rfl
theorem wK_signal_6 : WP P 54 6 lo (.ref a :: r) w Q ↔ WP P 54 12 lo r w Q := W_ifnn_r rfl rfl
theorem wK_signal_9 : WP P 54 9 lo st w Q ↔ WP P 54 11 lo (.int (xi 8) :: st) w Q := W_bipush rfl rfl (by decide)
theorem wK_signal_11 : WP P 54 11 lo [.int x] w Q ↔ Q (some (.int x)) w := WP_ret rfl rfl
theorem wK_signal_12 : WP P 54 12 lo st w Q ↔ x_ga lo[0]? (fun v => WP P 54 13 lo (v :: st) w Q) := W_aload_n rfl rfl rfl
theorem wK_signal_13 : WP P 54 13 lo st w Q ↔ x_ga lo[2]? (fun v => WP P 54 14 lo (v :: st) w Q) := W_aload_n rfl rfl rfl
theorem wK_signal_14 : WP P 54 14 lo st w Q ↔ x_gi lo[1]? (fun x => WP P 54 15 lo (.int x :: st) w Q) := W_iload_n rfl rfl rfl
theorem wK_signal_15 {u1 u2 : Value} {b nb : Nat} (hb : x_tg w b = some (0, nb)) (hr : r.length ≤ 8) (hc : ([u1, u2] : List Value).all x_cat1 = true) (hc2 : r.all x_cat1 = true) (k : WP P 13 0 [some (.ref b), some u1, some u2, none] [] w (fun v w1 => WP P 54 18 lo (v.toList ++ r) w1 Q)) : WP P 54 15 lo (u2 :: u1 :: .ref b :: r) w Q := K_virt (as := [u1, u2]) rfl rfl rfl rfl (by decide) (by decide) rfl hb hr hc hc2 k
theorem wK_signal_18 : WP P 54 18 lo (.ref a :: r) w Q ↔ (3 < lo.length ∧ WP P 54 19 (lo.set 3 (some (.ref a))) r w Q) := W_astore_n rfl rfl rfl
theorem wK_signal_18n : WP P 54 18 lo (.null :: r) w Q ↔ (3 < lo.length ∧ WP P 54 19 (lo.set 3 (some .null)) r w Q) := W_astore_nN rfl rfl rfl
theorem wK_signal_19 : WP P 54 19 lo st w Q ↔ x_ga lo[3]? (fun v => WP P 54 20 lo (v :: st) w Q) := W_aload_n rfl rfl rfl
theorem wK_signal_20n : WP P 54 20 lo (.null :: r) w Q ↔ WP P 54 47 lo r w Q := W_ifnull_n rfl rfl
theorem wK_signal_20 : WP P 54 20 lo (.ref a :: r) w Q ↔ WP P 54 23 lo r w Q := W_ifnull_r rfl rfl rfl
theorem wK_signal_23 : WP P 54 23 lo st w Q ↔ x_ga lo[3]? (fun v => WP P 54 24 lo (v :: st) w Q) := W_aload_n rfl rfl rfl
theorem wK_signal_24 : WP P 54 24 lo (.ref a :: r) w Q ↔ (x_has w a [1] ∧ WP P 54 27 lo (x_fd w a 0 :: r) w Q) := W_get rfl rfl rfl
theorem wK_signal_27 : WP P 54 27 lo (.ref a :: r) w Q ↔ (5 < lo.length ∧ WP P 54 29 (lo.set 5 (some (.ref a))) r w Q) := W_astore rfl rfl
theorem wK_signal_27n : WP P 54 27 lo (.null :: r) w Q ↔ (5 < lo.length ∧ WP P 54 29 (lo.set 5 (some .null)) r w Q) := W_astoreN rfl rfl
theorem wK_signal_29 : WP P 54 29 lo st w Q ↔ x_ga lo[5]? (fun v => WP P 54 31 lo (v :: st) w Q) := W_aload rfl rfl
theorem wK_signal_31n : WP P 54 31 lo (.null :: r) w Q ↔ WP P 54 34 lo (.int (xi 0) :: r) w Q := W_inst_n rfl rfl
theorem wK_signal_31 {t n : Nat} (h1 : x_tg w a = some (t, n)) (ht : t ∈ x_things) : WP P 54 31 lo (.ref a :: r) w Q ↔ WP P 54 34 lo (.int (if t = 7 then xi 1 else xi 0) :: r) w Q := W_inst rfl rfl h1 ht rfl
theorem wK_signal_34 : WP P 54 34 lo (.int x :: r) w Q ↔ (if x = xi 0 then WP P 54 47 lo r w Q else WP P 54 37 lo r w Q) := W_if_eq rfl rfl rfl
theorem wK_signal_37 : WP P 54 37 lo st w Q ↔ x_ga lo[5]? (fun v => WP P 54 39 lo (v :: st) w Q) := W_aload rfl rfl
theorem wK_signal_39 {n : Nat} (h1 : x_tg w a = some (7, n)) : WP P 54 39 lo (.ref a :: r) w Q ↔ WP P 54 42 lo (.ref a :: r) w Q := W_cast rfl h1 rfl rfl
theorem wK_signal_42 : WP P 54 42 lo (.ref a :: r) w Q ↔ (4 < lo.length ∧ WP P 54 44 (lo.set 4 (some (.ref a))) r w Q) := W_astore rfl rfl
theorem wK_signal_42n : WP P 54 42 lo (.null :: r) w Q ↔ (4 < lo.length ∧ WP P 54 44 (lo.set 4 (some .null)) r w Q) := W_astoreN rfl rfl
theorem wK_signal_44 : WP P 54 44 lo st w Q ↔ WP P 54 49 lo st w Q := W_goto rfl rfl
theorem wK_signal_47 : WP P 54 47 lo st w Q ↔ WP P 54 48 lo (.int (xi 1) :: st) w Q := W_iconst rfl rfl rfl
theorem wK_signal_48 : WP P 54 48 lo [.int x] w Q ↔ Q (some (.int x)) w := WP_ret rfl rfl
theorem wK_signal_49 : WP P 54 49 lo st w Q ↔ x_ga lo[3]? (fun v => WP P 54 50 lo (v :: st) w Q) := W_aload_n rfl rfl rfl
theorem wK_signal_50 : WP P 54 50 lo (.ref a :: r) w Q ↔ (x_has w a [1] ∧ WP P 54 53 lo (x_fd w a 1 :: r) w Q) := W_get rfl rfl rfl
theorem wK_signal_53 : WP P 54 53 lo st w Q ↔ WP P 54 54 lo (.int (xi 2) :: st) w Q := W_iconst rfl rfl rfl
theorem wK_signal_54 : WP P 54 54 lo (.int y :: .int x :: r) w Q ↔ WP P 54 55 lo (.int (x &&& y) :: r) w Q := W_iand rfl rfl
theorem wK_signal_55 : WP P 54 55 lo (.int x :: r) w Q ↔ (if x = xi 0 then WP P 54 58 lo r w Q else WP P 54 60 lo r w Q) := W_if_ne rfl rfl rfl
theorem wK_signal_58 : WP P 54 58 lo st w Q ↔ WP P 54 59 lo (.int (xi 2) :: st) w Q := W_iconst rfl rfl rfl
theorem wK_signal_59 : WP P 54 59 lo [.int x] w Q ↔ Q (some (.int x)) w := WP_ret rfl rfl
theorem wK_signal_60 : WP P 54 60 lo st w Q ↔ x_ga lo[0]? (fun v => WP P 54 61 lo (v :: st) w Q) := W_aload_n rfl rfl rfl
theorem wK_signal_61 : WP P 54 61 lo st w Q ↔ x_ga lo[4]? (fun v => WP P 54 63 lo (v :: st) w Q) := W_aload rfl rfl
theorem wK_signal_63 : WP P 54 63 lo st w Q ↔ x_ga lo[3]? (fun v => WP P 54 64 lo (v :: st) w Q) := W_aload_n rfl rfl rfl
theorem wK_signal_64 : WP P 54 64 lo (.ref a :: r) w Q ↔ (x_has w a [1] ∧ WP P 54 67 lo (x_fd w a 2 :: r) w Q) := W_get rfl rfl rfl
theorem wK_signal_67 : WP P 54 67 lo (.int x :: r) w Q ↔ (if x = xi 0 then WP P 54 70 lo r w Q else WP P 54 76 lo r w Q) := W_if_ne rfl rfl rfl
theorem wK_signal_70 : WP P 54 70 lo st w Q ↔ WP P 54 73 lo (.int (xi 256) :: st) w Q := W_sipush rfl rfl (by decide)
theorem wK_signal_73 : WP P 54 73 lo st w Q ↔ WP P 54 80 lo st w Q := W_goto rfl rfl
theorem wK_signal_76 : WP P 54 76 lo st w Q ↔ x_ga lo[3]? (fun v => WP P 54 77 lo (v :: st) w Q) := W_aload_n rfl rfl rfl
theorem wK_signal_77 : WP P 54 77 lo (.ref a :: r) w Q ↔ (x_has w a [1] ∧ WP P 54 80 lo (x_fd w a 2 :: r) w Q) := W_get rfl rfl rfl
theorem wK_signal_80 {u1 u2 : Value} {b nb : Nat} (hb : x_tg w b = some (0, nb)) (hr : r.length ≤ 8) (hc : ([u1, u2] : List Value).all x_cat1 = true) (hc2 : r.all x_cat1 = true) (k : WP P 55 0 [some (.ref b), some u1, some u2, none] [] w (fun v w1 => WP P 54 83 lo (v.toList ++ r) w1 Q)) : WP P 54 80 lo (u2 :: u1 :: .ref b :: r) w Q := K_virt (as := [u1, u2]) rfl rfl rfl rfl (by decide) (by decide) rfl hb hr hc hc2 k
theorem wK_signal_83 : WP P 54 83 lo st w Q ↔ WP P 54 84 lo (.int (xi 0) :: st) w Q := W_iconst rfl rfl rfl
theorem wK_signal_84 : WP P 54 84 lo [.int x] w Q ↔ Q (some (.int x)) w := WP_ret rfl rfl
-- 55 K_ring
theorem wK_ring_0 : WP P 55 0 lo st w Q ↔ x_ga lo[1]? (fun v => WP P 55 1 lo (v :: st) w Q) := W_aload_n rfl rfl rfl
theorem wK_ring_1 : WP P 55 1 lo (.ref a :: r) w Q ↔ (x_has w a [7] ∧ WP P 55 4 lo (x_fd w a 2 :: r) w Q) := W_get rfl rfl rfl
theorem wK_ring_4 : WP P 55 4 lo st w Q ↔ WP P 55 5 lo (.int (xi 5) :: st) w Q := W_iconst rfl rfl rfl
theorem wK_ring_5 {u1 u2 : Value} (hr : r.length ≤ 8) (hc : ([u1, u2] : List Value).all x_cat1 = true) (hc2 : r.all x_cat1 = true) (k : WP P 49 0 [some u1, some u2, none] [] w (fun v w1 => WP P 55 8 lo (v.toList ++ r) w1 Q)) : WP P 55 5 lo (u2 :: u1 :: r) w Q := K_stat (as := [u1, u2]) rfl rfl rfl rfl (by decide) (by decide) rfl hr hc hc2 k
theorem wK_ring_8 : WP P 55 8 lo (.ref a :: r) w Q ↔ (3 < lo.length ∧ WP P 55 9 (lo.set 3 (some (.ref a))) r w Q) := W_astore_n rfl rfl rfl
theorem wK_ring_8n : WP P 55 8 lo (.null :: r) w Q ↔ (3 < lo.length ∧ WP P 55 9 (lo.set 3 (some .null)) r w Q) := W_astore_nN rfl rfl rfl
theorem wK_ring_9 : WP P 55 9 lo st w Q ↔ x_ga lo[3]? (fun v => WP P 55 10 lo (v :: st) w Q) := W_aload_n rfl rfl rfl
theorem wK_ring_10n : WP P 55 10 lo (.null :: r) w Q ↔ WP P 55 13 lo r w Q := W_ifnn_n rfl rfl rfl
theorem wK_ring_10 : WP P 55 10 lo (.ref a :: r) w Q ↔ WP P 55 24 lo r w Q := W_ifnn_r rfl rfl
theorem wK_ring_13 : WP P 55 13 lo st w Q ↔ x_ga lo[1]? (fun v => WP P 55 14 lo (v :: st) w Q) := W_aload_n rfl rfl rfl
theorem wK_ring_14 : WP P 55 14 lo (v1 :: r) w Q ↔ (x_cat1 v1 = true ∧ WP P 55 15 lo (v1 :: v1 :: r) w Q) := W_dup rfl rfl
theorem wK_ring_15 : WP P 55 15 lo (.ref a :: r) w Q ↔ (x_has w a [7] ∧ WP P 55 18 lo (x_fd w a 3 :: r) w Q) := W_get rfl rfl rfl
theorem wK_ring_18 : WP P 55 18 lo st w Q ↔ x_gi lo[2]? (fun x => WP P 55 19 lo (.int x :: st) w Q) := W_iload_n rfl rfl rfl
theorem wK_ring_19 : WP P 55 19 lo (.int y :: .int x :: r) w Q ↔ WP P 55 20 lo (.int (x ||| y) :: r) w Q := W_ior rfl rfl
theorem wK_ring_20 : WP P 55 20 lo (v1 :: .ref a :: r) w Q ↔ ((x_has w a [7] ∧ x_fit 0 v1 = true) ∧ WP P 55 23 lo r (x_put w a 3 v1) Q) := W_put rfl rfl (by decide) rfl
theorem wK_ring_23 : WP P 55 23 lo [] w Q ↔ Q none w := WP_ret rfl rfl
theorem wK_ring_24 : WP P 55 24 lo st w Q ↔ x_ga lo[3]? (fun v => WP P 55 25 lo (v :: st) w Q) := W_aload_n rfl rfl rfl
theorem wK_ring_25 : WP P 55 25 lo st w Q ↔ x_gi lo[2]? (fun x => WP P 55 26 lo (.int x :: st) w Q) := W_iload_n rfl rfl rfl
theorem wK_ring_26 {u1 : Value} {b nb : Nat} (hb : x_tg w b = some (2, nb)) (hr : r.length ≤ 8) (hc : ([u1] : List Value).all x_cat1 = true) (hc2 : r.all x_cat1 = true) (k : WP P 56 0 [some (.ref b), some u1] [] w (fun v w1 => WP P 55 29 lo (v.toList ++ r) w1 Q)) : WP P 55 26 lo (u1 :: .ref b :: r) w Q := K_virt (as := [u1]) rfl rfl rfl rfl (by decide) (by decide) rfl hb hr hc hc2 k
theorem wK_ring_29 : WP P 55 29 lo st w Q ↔ x_ga lo[0]? (fun v => WP P 55 30 lo (v :: st) w Q) := W_aload_n rfl rfl rfl
theorem wK_ring_30 : WP P 55 30 lo st w Q ↔ x_ga lo[3]? (fun v => WP P 55 31 lo (v :: st) w Q) := W_aload_n rfl rfl rfl
theorem wK_ring_31 {u1 : Value} {b nb : Nat} (hb : x_tg w b = some (0, nb)) (hr : r.length ≤ 8) (hc : ([u1] : List Value).all x_cat1 = true) (hc2 : r.all x_cat1 = true) (k : WP P 5 0 [some (.ref b), some u1] [] w (fun v w1 => WP P 55 34 lo (v.toList ++ r) w1 Q)) : WP P 55 31 lo (u1 :: .ref b :: r) w Q := K_virt (as := [u1]) rfl rfl rfl rfl (by decide) (by decide) rfl hb hr hc hc2 k
theorem wK_ring_34 : WP P 55 34 lo [] w Q ↔ Q none w := WP_ret rfl rfl
-- 56 Thr_hear
theorem wThr_hear_0 : WP P 56 0 lo st w Q ↔ x_ga lo[0]? (fun v => WP P 56 1 lo (v :: st) w Q) := W_aload_n rfl rfl rfl
theorem wThr_hear_1 : WP P 56 1 lo st w Q ↔ x_gi lo[1]? (fun x => WP P 56 2 lo (.int x :: st) w Q) := W_iload_n rfl rfl rfl
theorem wThr_hear_2 : WP P 56 2 lo (v1 :: .ref a :: r) w Q ↔ ((x_has w a [2] ∧ x_fit 0 v1 = true) ∧ WP P 56 5 lo r (x_put w a 7 v1) Q) := W_put rfl rfl (by decide) rfl
theorem wThr_hear_5 : WP P 56 5 lo st w Q ↔ x_ga lo[0]? (fun v => WP P 56 6 lo (v :: st) w Q) := W_aload_n rfl rfl rfl
theorem wThr_hear_6 : WP P 56 6 lo st w Q ↔ WP P 56 7 lo (.int (xi 0) :: st) w Q := W_iconst rfl rfl rfl
theorem wThr_hear_7 : WP P 56 7 lo (v1 :: .ref a :: r) w Q ↔ ((x_has w a [2] ∧ x_fit 0 v1 = true) ∧ WP P 56 10 lo r (x_put w a 8 v1) Q) := W_put rfl rfl (by decide) rfl
theorem wThr_hear_10 : WP P 56 10 lo st w Q ↔ x_ga lo[0]? (fun v => WP P 56 11 lo (v :: st) w Q) := W_aload_n rfl rfl rfl
theorem wThr_hear_11 : WP P 56 11 lo st w Q ↔ WP P 56 12 lo (.int (xi 0) :: st) w Q := W_iconst rfl rfl rfl
theorem wThr_hear_12 : WP P 56 12 lo (v1 :: .ref a :: r) w Q ↔ ((x_has w a [2] ∧ x_fit 0 v1 = true) ∧ WP P 56 15 lo r (x_put w a 9 v1) Q) := W_put rfl rfl (by decide) rfl
theorem wThr_hear_15 : WP P 56 15 lo [] w Q ↔ Q none w := WP_ret rfl rfl
-- 57 K_listen
theorem wK_listen_0 : WP P 57 0 lo st w Q ↔ x_ga lo[0]? (fun v => WP P 57 1 lo (v :: st) w Q) := W_aload_n rfl rfl rfl
theorem wK_listen_1 {b nb : Nat} (hb : x_tg w b = some (0, nb)) (hr : r.length ≤ 8) (hc : ([] : List Value).all x_cat1 = true) (hc2 : r.all x_cat1 = true) (k : WP P 12 0 [some (.ref b), none] [] w (fun v w1 => WP P 57 4 lo (v.toList ++ r) w1 Q)) : WP P 57 1 lo (.ref b :: r) w Q := K_virt (as := []) rfl rfl rfl rfl (by decide) (by decide) rfl hb hr hc hc2 k
theorem wK_listen_4 : WP P 57 4 lo (.ref a :: r) w Q ↔ (3 < lo.length ∧ WP P 57 5 (lo.set 3 (some (.ref a))) r w Q) := W_astore_n rfl rfl rfl
theorem wK_listen_4n : WP P 57 4 lo (.null :: r) w Q ↔ (3 < lo.length ∧ WP P 57 5 (lo.set 3 (some .null)) r w Q) := W_astore_nN rfl rfl rfl
theorem wK_listen_5 : WP P 57 5 lo st w Q ↔ x_ga lo[3]? (fun v => WP P 57 6 lo (v :: st) w Q) := W_aload_n rfl rfl rfl
theorem wK_listen_6n : WP P 57 6 lo (.null :: r) w Q ↔ WP P 57 9 lo r w Q := W_ifnn_n rfl rfl rfl
theorem wK_listen_6 : WP P 57 6 lo (.ref a :: r) w Q ↔ WP P 57 12 lo r w Q := W_ifnn_r rfl rfl
theorem wK_listen_9 : WP P 57 9 lo st w Q ↔ WP P 57 11 lo (.int (xi 8) :: st) w Q := W_bipush rfl rfl (by decide)
theorem wK_listen_11 : WP P 57 11 lo [.int x] w Q ↔ Q (some (.int x)) w := WP_ret rfl rfl
theorem wK_listen_12 : WP P 57 12 lo st w Q ↔ x_ga lo[0]? (fun v => WP P 57 13 lo (v :: st) w Q) := W_aload_n rfl rfl rfl
theorem wK_listen_13 : WP P 57 13 lo st w Q ↔ x_ga lo[3]? (fun v => WP P 57 14 lo (v :: st) w Q) := W_aload_n rfl rfl rfl
theorem wK_listen_14 : WP P 57 14 lo st w Q ↔ x_gi lo[1]? (fun x => WP P 57 15 lo (.int x :: st) w Q) := W_iload_n rfl rfl rfl
theorem wK_listen_15 {u1 u2 : Value} {b nb : Nat} (hb : x_tg w b = some (0, nb)) (hr : r.length ≤ 8) (hc : ([u1, u2] : List Value).all x_cat1 = true) (hc2 : r.all x_cat1 = true) (k : WP P 13 0 [some (.ref b), some u1, some u2, none] [] w (fun v w1 => WP P 57 18 lo (v.toList ++ r) w1 Q)) : WP P 57 15 lo (u2 :: u1 :: .ref b :: r) w Q := K_virt (as := [u1, u2]) rfl rfl rfl rfl (by decide) (by decide) rfl hb hr hc hc2 k
theorem wK_listen_18 : WP P 57 18 lo (.ref a :: r) w Q ↔ (4 < lo.length ∧ WP P 57 20 (lo.set 4 (some (.ref a))) r w Q) := W_astore rfl rfl
theorem wK_listen_18n : WP P 57 18 lo (.null :: r) w Q ↔ (4 < lo.length ∧ WP P 57 20 (lo.set 4 (some .null)) r w Q) := W_astoreN rfl rfl
theorem wK_listen_20 : WP P 57 20 lo st w Q ↔ x_ga lo[4]? (fun v => WP P 57 22 lo (v :: st) w Q) := W_aload rfl rfl
theorem wK_listen_22n : WP P 57 22 lo (.null :: r) w Q ↔ WP P 57 50 lo r w Q := W_ifnull_n rfl rfl
theorem wK_listen_22 : WP P 57 22 lo (.ref a :: r) w Q ↔ WP P 57 25 lo r w Q := W_ifnull_r rfl rfl rfl
theorem wK_listen_25 : WP P 57 25 lo st w Q ↔ x_ga lo[4]? (fun v => WP P 57 27 lo (v :: st) w Q) := W_aload rfl rfl
theorem wK_listen_27 : WP P 57 27 lo (.ref a :: r) w Q ↔ (x_has w a [1] ∧ WP P 57 30 lo (x_fd w a 0 :: r) w Q) := W_get rfl rfl rfl
theorem wK_listen_30 : WP P 57 30 lo (.ref a :: r) w Q ↔ (6 < lo.length ∧ WP P 57 32 (lo.set 6 (some (.ref a))) r w Q) := W_astore rfl rfl
theorem wK_listen_30n : WP P 57 30 lo (.null :: r) w Q ↔ (6 < lo.length ∧ WP P 57 32 (lo.set 6 (some .null)) r w Q) := W_astoreN rfl rfl
theorem wK_listen_32 : WP P 57 32 lo st w Q ↔ x_ga lo[6]? (fun v => WP P 57 34 lo (v :: st) w Q) := W_aload rfl rfl
theorem wK_listen_34n : WP P 57 34 lo (.null :: r) w Q ↔ WP P 57 37 lo (.int (xi 0) :: r) w Q := W_inst_n rfl rfl
theorem wK_listen_34 {t n : Nat} (h1 : x_tg w a = some (t, n)) (ht : t ∈ x_things) : WP P 57 34 lo (.ref a :: r) w Q ↔ WP P 57 37 lo (.int (if t = 7 then xi 1 else xi 0) :: r) w Q := W_inst rfl rfl h1 ht rfl
theorem wK_listen_37 : WP P 57 37 lo (.int x :: r) w Q ↔ (if x = xi 0 then WP P 57 50 lo r w Q else WP P 57 40 lo r w Q) := W_if_eq rfl rfl rfl
theorem wK_listen_40 : WP P 57 40 lo st w Q ↔ x_ga lo[6]? (fun v => WP P 57 42 lo (v :: st) w Q) := W_aload rfl rfl
theorem wK_listen_42 {n : Nat} (h1 : x_tg w a = some (7, n)) : WP P 57 42 lo (.ref a :: r) w Q ↔ WP P 57 45 lo (.ref a :: r) w Q := W_cast rfl h1 rfl rfl
theorem wK_listen_45 : WP P 57 45 lo (.ref a :: r) w Q ↔ (5 < lo.length ∧ WP P 57 47 (lo.set 5 (some (.ref a))) r w Q) := W_astore rfl rfl
theorem wK_listen_45n : WP P 57 45 lo (.null :: r) w Q ↔ (5 < lo.length ∧ WP P 57 47 (lo.set 5 (some .null)) r w Q) := W_astoreN rfl rfl
theorem wK_listen_47 : WP P 57 47 lo st w Q ↔ WP P 57 52 lo st w Q := W_goto rfl rfl
theorem wK_listen_50 : WP P 57 50 lo st w Q ↔ WP P 57 51 lo (.int (xi 1) :: st) w Q := W_iconst rfl rfl rfl
theorem wK_listen_51 : WP P 57 51 lo [.int x] w Q ↔ Q (some (.int x)) w := WP_ret rfl rfl
theorem wK_listen_52 : WP P 57 52 lo st w Q ↔ x_ga lo[4]? (fun v => WP P 57 54 lo (v :: st) w Q) := W_aload rfl rfl
theorem wK_listen_54 : WP P 57 54 lo (.ref a :: r) w Q ↔ (x_has w a [1] ∧ WP P 57 57 lo (x_fd w a 1 :: r) w Q) := W_get rfl rfl rfl
theorem wK_listen_57 : WP P 57 57 lo st w Q ↔ WP P 57 58 lo (.int (xi 1) :: st) w Q := W_iconst rfl rfl rfl
theorem wK_listen_58 : WP P 57 58 lo (.int y :: .int x :: r) w Q ↔ WP P 57 59 lo (.int (x &&& y) :: r) w Q := W_iand rfl rfl
theorem wK_listen_59 : WP P 57 59 lo (.int x :: r) w Q ↔ (if x = xi 0 then WP P 57 62 lo r w Q else WP P 57 64 lo r w Q) := W_if_ne rfl rfl rfl
theorem wK_listen_62 : WP P 57 62 lo st w Q ↔ WP P 57 63 lo (.int (xi 2) :: st) w Q := W_iconst rfl rfl rfl
theorem wK_listen_63 : WP P 57 63 lo [.int x] w Q ↔ Q (some (.int x)) w := WP_ret rfl rfl
theorem wK_listen_64 : WP P 57 64 lo st w Q ↔ x_ga lo[5]? (fun v => WP P 57 66 lo (v :: st) w Q) := W_aload rfl rfl
theorem wK_listen_66 : WP P 57 66 lo (.ref a :: r) w Q ↔ (x_has w a [7] ∧ WP P 57 69 lo (x_fd w a 3 :: r) w Q) := W_get rfl rfl rfl
theorem wK_listen_69 : WP P 57 69 lo (.int x :: r) w Q ↔ (if x = xi 0 then WP P 57 89 lo r w Q else WP P 57 72 lo r w Q) := W_if_eq rfl rfl rfl
theorem wK_listen_72 : WP P 57 72 lo st w Q ↔ x_ga lo[3]? (fun v => WP P 57 73 lo (v :: st) w Q) := W_aload_n rfl rfl rfl
theorem wK_listen_73 : WP P 57 73 lo st w Q ↔ x_ga lo[5]? (fun v => WP P 57 75 lo (v :: st) w Q) := W_aload rfl rfl
theorem wK_listen_75 : WP P 57 75 lo (.ref a :: r) w Q ↔ (x_has w a [7] ∧ WP P 57 78 lo (x_fd w a 3 :: r) w Q) := W_get rfl rfl rfl
theorem wK_listen_78 {u1 : Value} {b nb : Nat} (hb : x_tg w b = some (2, nb)) (hr : r.length ≤ 8) (hc : ([u1] : List Value).all x_cat1 = true) (hc2 : r.all x_cat1 = true) (k : WP P 56 0 [some (.ref b), some u1] [] w (fun v w1 => WP P 57 81 lo (v.toList ++ r) w1 Q)) : WP P 57 78 lo (u1 :: .ref b :: r) w Q := K_virt (as := [u1]) rfl rfl rfl rfl (by decide) (by decide) rfl hb hr hc hc2 k
theorem wK_listen_81 : WP P 57 81 lo st w Q ↔ x_ga lo[5]? (fun v => WP P 57 83 lo (v :: st) w Q) := W_aload rfl rfl
theorem wK_listen_83 : WP P 57 83 lo st w Q ↔ WP P 57 84 lo (.int (xi 0) :: st) w Q := W_iconst rfl rfl rfl
theorem wK_listen_84 : WP P 57 84 lo (v1 :: .ref a :: r) w Q ↔ ((x_has w a [7] ∧ x_fit 0 v1 = true) ∧ WP P 57 87 lo r (x_put w a 3 v1) Q) := W_put rfl rfl (by decide) rfl
theorem wK_listen_87 : WP P 57 87 lo st w Q ↔ WP P 57 88 lo (.int (xi 0) :: st) w Q := W_iconst rfl rfl rfl
theorem wK_listen_88 : WP P 57 88 lo [.int x] w Q ↔ Q (some (.int x)) w := WP_ret rfl rfl
theorem wK_listen_89 : WP P 57 89 lo st w Q ↔ x_gi lo[2]? (fun x => WP P 57 90 lo (.int x :: st) w Q) := W_iload_n rfl rfl rfl
theorem wK_listen_90 : WP P 57 90 lo (.int x :: r) w Q ↔ (if x = xi 0 then WP P 57 93 lo r w Q else WP P 57 96 lo r w Q) := W_if_ne rfl rfl rfl
theorem wK_listen_93 : WP P 57 93 lo st w Q ↔ WP P 57 95 lo (.int (xi 6) :: st) w Q := W_bipush rfl rfl (by decide)
theorem wK_listen_95 : WP P 57 95 lo [.int x] w Q ↔ Q (some (.int x)) w := WP_ret rfl rfl
theorem wK_listen_96 : WP P 57 96 lo st w Q ↔ x_ga lo[3]? (fun v => WP P 57 97 lo (v :: st) w Q) := W_aload_n rfl rfl rfl
theorem wK_listen_97 : WP P 57 97 lo st w Q ↔ WP P 57 98 lo (.int (xi 5) :: st) w Q := W_iconst rfl rfl rfl
theorem wK_listen_98 : WP P 57 98 lo st w Q ↔ x_ga lo[5]? (fun v => WP P 57 100 lo (v :: st) w Q) := W_aload rfl rfl
theorem wK_listen_100 : WP P 57 100 lo (.ref a :: r) w Q ↔ (x_has w a [7] ∧ WP P 57 103 lo (x_fd w a 2 :: r) w Q) := W_get rfl rfl rfl
theorem wK_listen_103 {u1 u2 u3 : Value} (hr : r.length ≤ 8) (hc : ([u1, u2, u3] : List Value).all x_cat1 = true) (hc2 : r.all x_cat1 = true) (k : WP P 50 0 [some u1, some u2, some u3] [] w (fun v w1 => WP P 57 106 lo (v.toList ++ r) w1 Q)) : WP P 57 103 lo (u3 :: u2 :: u1 :: r) w Q := K_stat (as := [u1, u2, u3]) rfl rfl rfl rfl (by decide) (by decide) rfl hr hc hc2 k
theorem wK_listen_106 : WP P 57 106 lo st w Q ↔ WP P 57 108 lo (.int (xi 10) :: st) w Q := W_bipush rfl rfl (by decide)
theorem wK_listen_108 : WP P 57 108 lo [.int x] w Q ↔ Q (some (.int x)) w := WP_ret rfl rfl
-- 58 K_map
theorem wK_map_0 : WP P 58 0 lo st w Q ↔ x_ga lo[0]? (fun v => WP P 58 1 lo (v :: st) w Q) := W_aload_n rfl rfl rfl
theorem wK_map_1 {b nb : Nat} (hb : x_tg w b = some (0, nb)) (hr : r.length ≤ 8) (hc : ([] : List Value).all x_cat1 = true) (hc2 : r.all x_cat1 = true) (k : WP P 12 0 [some (.ref b), none] [] w (fun v w1 => WP P 58 4 lo (v.toList ++ r) w1 Q)) : WP P 58 1 lo (.ref b :: r) w Q := K_virt (as := []) rfl rfl rfl rfl (by decide) (by decide) rfl hb hr hc hc2 k
theorem wK_map_4 : WP P 58 4 lo (.ref a :: r) w Q ↔ (4 < lo.length ∧ WP P 58 6 (lo.set 4 (some (.ref a))) r w Q) := W_astore rfl rfl
theorem wK_map_4n : WP P 58 4 lo (.null :: r) w Q ↔ (4 < lo.length ∧ WP P 58 6 (lo.set 4 (some .null)) r w Q) := W_astoreN rfl rfl
theorem wK_map_6 : WP P 58 6 lo st w Q ↔ x_ga lo[4]? (fun v => WP P 58 8 lo (v :: st) w Q) := W_aload rfl rfl
theorem wK_map_8n : WP P 58 8 lo (.null :: r) w Q ↔ WP P 58 11 lo r w Q := W_ifnn_n rfl rfl rfl
theorem wK_map_8 : WP P 58 8 lo (.ref a :: r) w Q ↔ WP P 58 14 lo r w Q := W_ifnn_r rfl rfl
theorem wK_map_11 : WP P 58 11 lo st w Q ↔ WP P 58 13 lo (.int (xi 8) :: st) w Q := W_bipush rfl rfl (by decide)
theorem wK_map_13 : WP P 58 13 lo [.int x] w Q ↔ Q (some (.int x)) w := WP_ret rfl rfl
theorem wK_map_14 : WP P 58 14 lo st w Q ↔ x_ga lo[0]? (fun v => WP P 58 15 lo (v :: st) w Q) := W_aload_n rfl rfl rfl
theorem wK_map_15 : WP P 58 15 lo st w Q ↔ x_ga lo[4]? (fun v => WP P 58 17 lo (v :: st) w Q) := W_aload rfl rfl
theorem wK_map_17 : WP P 58 17 lo st w Q ↔ x_gi lo[1]? (fun x => WP P 58 18 lo (.int x :: st) w Q) := W_iload_n rfl rfl rfl
theorem wK_map_18 {u1 u2 : Value} {b nb : Nat} (hb : x_tg w b = some (0, nb)) (hr : r.length ≤ 8) (hc : ([u1, u2] : List Value).all x_cat1 = true) (hc2 : r.all x_cat1 = true) (k : WP P 59 0 [some (.ref b), some u1, some u2, none] [] w (fun v w1 => WP P 58 21 lo (v.toList ++ r) w1 Q)) : WP P 58 18 lo (u2 :: u1 :: .ref b :: r) w Q := K_virt (as := [u1, u2]) rfl rfl rfl rfl (by decide) (by decide) rfl hb hr hc hc2 k
theorem wK_map_21 : WP P 58 21 lo (.ref a :: r) w Q ↔ (5 < lo.length ∧ WP P 58 23 (lo.set 5 (some (.ref a))) r w Q) := W_astore rfl rfl
theorem wK_map_21n : WP P 58 21 lo (.null :: r) w Q ↔ (5 < lo.length ∧ WP P 58 23 (lo.set 5 (some .null)) r w Q) := W_astoreN rfl rfl
theorem wK_map_23 : WP P 58 23 lo st w Q ↔ x_ga lo[5]? (fun v => WP P 58 25 lo (v :: st) w Q) := W_aload rfl rfl
theorem wK_map_25n : WP P 58 25 lo (.null :: r) w Q ↔ WP P 58 28 lo r w Q := W_ifnn_n rfl rfl rfl
theorem wK_map_25 : WP P 58 25 lo (.ref a :: r) w Q ↔ WP P 58 30 lo r w Q := W_ifnn_r rfl rfl
theorem wK_map_28 : WP P 58 28 lo st w Q ↔ WP P 58 29 lo (.int (xi 1) :: st) w Q := W_iconst rfl rfl rfl
theorem wK_map_29 : WP P 58 29 lo [.int x] w Q ↔ Q (some (.int x)) w := WP_ret rfl rfl
theorem wK_map_30 : WP P 58 30 lo st w Q ↔ x_ga lo[0]? (fun v => WP P 58 31 lo (v :: st) w Q) := W_aload_n rfl rfl rfl
theorem wK_map_31 : WP P 58 31 lo st w Q ↔ x_ga lo[4]? (fun v => WP P 58 33 lo (v :: st) w Q) := W_aload rfl rfl
theorem wK_map_33 : WP P 58 33 lo st w Q ↔ x_gi lo[2]? (fun x => WP P 58 34 lo (.int x :: st) w Q) := W_iload_n rfl rfl rfl
theorem wK_map_34 {u1 u2 : Value} {b nb : Nat} (hb : x_tg w b = some (0, nb)) (hr : r.length ≤ 8) (hc : ([u1, u2] : List Value).all x_cat1 = true) (hc2 : r.all x_cat1 = true) (k : WP P 45 0 [some (.ref b), some u1, some u2, none, none, none] [] w (fun v w1 => WP P 58 37 lo (v.toList ++ r) w1 Q)) : WP P 58 34 lo (u2 :: u1 :: .ref b :: r) w Q := K_virt (as := [u1, u2]) rfl rfl rfl rfl (by decide) (by decide) rfl hb hr hc hc2 k
theorem wK_map_37 : WP P 58 37 lo (.ref a :: r) w Q ↔ (6 < lo.length ∧ WP P 58 39 (lo.set 6 (some (.ref a))) r w Q) := W_astore rfl rfl
theorem wK_map_37n : WP P 58 37 lo (.null :: r) w Q ↔ (6 < lo.length ∧ WP P 58 39 (lo.set 6 (some .null)) r w Q) := W_astoreN rfl rfl
theorem wK_map_39 : WP P 58 39 lo st w Q ↔ x_ga lo[6]? (fun v => WP P 58 41 lo (v :: st) w Q) := W_aload rfl rfl
theorem wK_map_41n : WP P 58 41 lo (.null :: r) w Q ↔ WP P 58 44 lo r w Q := W_ifnn_n rfl rfl rfl
theorem wK_map_41 : WP P 58 41 lo (.ref a :: r) w Q ↔ WP P 58 46 lo r w Q := W_ifnn_r rfl rfl
theorem wK_map_44 : WP P 58 44 lo st w Q ↔ WP P 58 45 lo (.int (xi 1) :: st) w Q := W_iconst rfl rfl rfl
theorem wK_map_45 : WP P 58 45 lo [.int x] w Q ↔ Q (some (.int x)) w := WP_ret rfl rfl
theorem wK_map_46 : WP P 58 46 lo st w Q ↔ x_gi lo[3]? (fun x => WP P 58 47 lo (.int x :: st) w Q) := W_iload_n rfl rfl rfl
theorem wK_map_47 : WP P 58 47 lo (.int x :: r) w Q ↔ (if x < xi 0 then WP P 58 56 lo r w Q else WP P 58 50 lo r w Q) := W_if_lt rfl rfl rfl
theorem wK_map_50 : WP P 58 50 lo st w Q ↔ x_gi lo[3]? (fun x => WP P 58 51 lo (.int x :: st) w Q) := W_iload_n rfl rfl rfl
theorem wK_map_51 : WP P 58 51 lo st w Q ↔ WP P 58 53 lo (.int (xi 16) :: st) w Q := W_bipush rfl rfl (by decide)
theorem wK_map_53 : WP P 58 53 lo (.int y :: .int x :: r) w Q ↔ (if x < y then WP P 58 58 lo r w Q else WP P 58 56 lo r w Q) := W_ic_lt rfl rfl rfl
theorem wK_map_56 : WP P 58 56 lo st w Q ↔ WP P 58 57 lo (.int (xi 4) :: st) w Q := W_iconst rfl rfl rfl
theorem wK_map_57 : WP P 58 57 lo [.int x] w Q ↔ Q (some (.int x)) w := WP_ret rfl rfl
theorem wK_map_58 : WP P 58 58 lo st w Q ↔ x_ga lo[5]? (fun v => WP P 58 60 lo (v :: st) w Q) := W_aload rfl rfl
theorem wK_map_60 : WP P 58 60 lo (.ref a :: r) w Q ↔ (x_has w a [1] ∧ WP P 58 63 lo (x_fd w a 0 :: r) w Q) := W_get rfl rfl rfl
theorem wK_map_63 : WP P 58 63 lo (.ref a :: r) w Q ↔ (8 < lo.length ∧ WP P 58 65 (lo.set 8 (some (.ref a))) r w Q) := W_astore rfl rfl
theorem wK_map_63n : WP P 58 63 lo (.null :: r) w Q ↔ (8 < lo.length ∧ WP P 58 65 (lo.set 8 (some .null)) r w Q) := W_astoreN rfl rfl
theorem wK_map_65 : WP P 58 65 lo st w Q ↔ x_ga lo[8]? (fun v => WP P 58 67 lo (v :: st) w Q) := W_aload rfl rfl
theorem wK_map_67n : WP P 58 67 lo (.null :: r) w Q ↔ WP P 58 70 lo (.int (xi 0) :: r) w Q := W_inst_n rfl rfl
theorem wK_map_67 {t n : Nat} (h1 : x_tg w a = some (t, n)) (ht : t ∈ x_things) : WP P 58 67 lo (.ref a :: r) w Q ↔ WP P 58 70 lo (.int (if t = 9 then xi 1 else xi 0) :: r) w Q := W_inst rfl rfl h1 ht rfl
theorem wK_map_70 : WP P 58 70 lo (.int x :: r) w Q ↔ (if x = xi 0 then WP P 58 91 lo r w Q else WP P 58 73 lo r w Q) := W_if_eq rfl rfl rfl
theorem wK_map_73 : WP P 58 73 lo st w Q ↔ x_ga lo[8]? (fun v => WP P 58 75 lo (v :: st) w Q) := W_aload rfl rfl
theorem wK_map_75 {n : Nat} (h1 : x_tg w a = some (9, n)) : WP P 58 75 lo (.ref a :: r) w Q ↔ WP P 58 78 lo (.ref a :: r) w Q := W_cast rfl h1 rfl rfl
theorem wK_map_78 : WP P 58 78 lo (.ref a :: r) w Q ↔ (7 < lo.length ∧ WP P 58 80 (lo.set 7 (some (.ref a))) r w Q) := W_astore rfl rfl
theorem wK_map_78n : WP P 58 78 lo (.null :: r) w Q ↔ (7 < lo.length ∧ WP P 58 80 (lo.set 7 (some .null)) r w Q) := W_astoreN rfl rfl
theorem wK_map_80 : WP P 58 80 lo st w Q ↔ x_ga lo[7]? (fun v => WP P 58 82 lo (v :: st) w Q) := W_aload rfl rfl
theorem wK_map_82 : WP P 58 82 lo st w Q ↔ x_ga lo[6]? (fun v => WP P 58 84 lo (v :: st) w Q) := W_aload rfl rfl
theorem wK_map_84 : WP P 58 84 lo st w Q ↔ x_gi lo[3]? (fun x => WP P 58 85 lo (.int x :: st) w Q) := W_iload_n rfl rfl rfl
theorem wK_map_85 : WP P 58 85 lo st w Q ↔ WP P 58 86 lo (.int (xi 4) :: st) w Q := W_iconst rfl rfl rfl
theorem wK_map_86 : WP P 58 86 lo (.int y :: .int x :: r) w Q ↔ (¬ y = 0 ∧ WP P 58 87 lo (.int (x / y) :: r) w Q) := W_idiv rfl rfl
theorem wK_map_87 {u1 u2 u3 : Value} (hr : r.length ≤ 8) (hc : ([u1, u2, u3] : List Value).all x_cat1 = true) (hc2 : r.all x_cat1 = true) (k : WP P 60 0 [some u1, some u2, some u3] [] w (fun v w1 => WP P 58 90 lo (v.toList ++ r) w1 Q)) : WP P 58 87 lo (u3 :: u2 :: u1 :: r) w Q := K_stat (as := [u1, u2, u3]) rfl rfl rfl rfl (by decide) (by decide) rfl hr hc hc2 k
theorem wK_map_90 : WP P 58 90 lo [.int x] w Q ↔ Q (some (.int x)) w := WP_ret rfl rfl
theorem wK_map_91 : WP P 58 91 lo st w Q ↔ x_ga lo[5]? (fun v => WP P 58 93 lo (v :: st) w Q) := W_aload rfl rfl
theorem wK_map_93 : WP P 58 93 lo st w Q ↔ x_ga lo[6]? (fun v => WP P 58 95 lo (v :: st) w Q) := W_aload rfl rfl
theorem wK_map_95 : WP P 58 95 lo (.ref a :: r) w Q ↔ (x_has w a [8] ∧ WP P 58 98 lo (x_fd w a 2 :: r) w Q) := W_get rfl rfl rfl
theorem wK_map_98 : WP P 58 98 lo st w Q ↔ x_gi lo[3]? (fun x => WP P 58 99 lo (.int x :: st) w Q) := W_iload_n rfl rfl rfl
theorem wK_map_99 : WP P 58 99 lo st w Q ↔ WP P 58 100 lo (.int (xi 4) :: st) w Q := W_iconst rfl rfl rfl
theorem wK_map_100 : WP P 58 100 lo (.int y :: .int x :: r) w Q ↔ (¬ y = 0 ∧ WP P 58 101 lo (.int (x / y) :: r) w Q) := W_idiv rfl rfl
theorem wK_map_101 {t n : Nat} (h1 : x_tg w a = some (t, n)) (ht : 30 ≤ t) (h2 : ¬ x < 0) (h3 : x.toNatClampNeg < n) : WP P 58 101 lo (.int x :: .ref a :: r) w Q ↔ WP P 58 102 lo (x_fd w a x.toNatClampNeg :: r) w Q := W_aald rfl h1 ht h2 h3 rfl
theorem wK_map_102 : WP P 58 102 lo st w Q ↔ x_gi lo[3]? (fun x => WP P 58 103 lo (.int x :: st) w Q) := W_iload_n rfl rfl rfl
theorem wK_map_103 : WP P 58 103 lo st w Q ↔ WP P 58 104 lo (.int (xi 4) :: st) w Q := W_iconst rfl rfl rfl
theorem wK_map_104 : WP P 58 104 lo (.int y :: .int x :: r) w Q ↔ (¬ y = 0 ∧ WP P 58 105 lo (.int (x_rmd x y) :: r) w Q) := W_irem rfl rfl
theorem wK_map_105 {u1 u2 u3 : Value} (hr : r.length ≤ 8) (hc : ([u1, u2, u3] : List Value).all x_cat1 = true) (hc2 : r.all x_cat1 = true) (k : WP P 61 0 [some u1, some u2, some u3] [] w (fun v w1 => WP P 58 108 lo (v.toList ++ r) w1 Q)) : WP P 58 105 lo (u3 :: u2 :: u1 :: r) w Q := K_stat (as := [u1, u2, u3]) rfl rfl rfl rfl (by decide) (by decide) rfl hr hc hc2 k
theorem wK_map_108 : WP P 58 108 lo [.int x] w Q ↔ Q (some (.int x)) w := WP_ret rfl rfl
-- 59 K_mappableAt
theorem wK_mappableAt_0 : WP P 59 0 lo st w Q ↔ x_ga lo[0]? (fun v => WP P 59 1 lo (v :: st) w Q) := W_aload_n rfl rfl rfl
theorem wK_mappableAt_1 : WP P 59 1 lo st w Q ↔ x_ga lo[1]? (fun v => WP P 59 2 lo (v :: st) w Q) := W_aload_n rfl rfl rfl
theorem wK_mappableAt_2 : WP P 59 2 lo st w Q ↔ x_gi lo[2]? (fun x => WP P 59 3 lo (.int x :: st) w Q) := W_iload_n rfl rfl rfl
theorem wK_mappableAt_3 {u1 u2 : Value} {b nb : Nat} (hb : x_tg w b = some (0, nb)) (hr : r.length ≤ 8) (hc : ([u1, u2] : List Value).all x_cat1 = true) (hc2 : r.all x_cat1 = true) (k : WP P 13 0 [some (.ref b), some u1, some u2, none] [] w (fun v w1 => WP P 59 6 lo (v.toList ++ r) w1 Q)) : WP P 59 3 lo (u2 :: u1 :: .ref b :: r) w Q := K_virt (as := [u1, u2]) rfl rfl rfl rfl (by decide) (by decide) rfl hb hr hc hc2 k
theorem wK_mappableAt_6 : WP P 59 6 lo (.ref a :: r) w Q ↔ (3 < lo.length ∧ WP P 59 7 (lo.set 3 (some (.ref a))) r w Q) := W_astore_n rfl rfl rfl
theorem wK_mappableAt_6n : WP P 59 6 lo (.null :: r) w Q ↔ (3 < lo.length ∧ WP P 59 7 (lo.set 3 (some .null)) r w Q) := W_astore_nN rfl rfl rfl
theorem wK_mappableAt_7 : WP P 59 7 lo st w Q ↔ x_ga lo[3]? (fun v => WP P 59 8 lo (v :: st) w Q) := W_aload_n rfl rfl rfl
theorem wK_mappableAt_8n : WP P 59 8 lo (.null :: r) w Q ↔ WP P 59 35 lo r w Q := W_ifnull_n rfl rfl
theorem wK_mappableAt_8 : WP P 59 8 lo (.ref a :: r) w Q ↔ WP P 59 11 lo r w Q := W_ifnull_r rfl rfl rfl
theorem wK_mappableAt_11 : WP P 59 11 lo st w Q ↔ x_ga lo[3]? (fun v => WP P 59 12 lo (v :: st) w Q) := W_aload_n rfl rfl rfl
theorem wK_mappableAt_12 : WP P 59 12 lo (.ref a :: r) w Q ↔ (x_has w a [1] ∧ WP P 59 15 lo (x_fd w a 0 :: r) w Q) := W_get rfl rfl rfl
theorem wK_mappableAt_15 : WP P 59 15 lo (.ref a :: r) w Q ↔ (x_has w a [2, 4, 5, 6, 7, 8, 9, 10] ∧ WP P 59 18 lo (x_fd w a 0 :: r) w Q) := W_get rfl rfl rfl
theorem wK_mappableAt_18 : WP P 59 18 lo st w Q ↔ WP P 59 20 lo (.int (xi 6) :: st) w Q := W_bipush rfl rfl (by decide)
theorem wK_mappableAt_20 : WP P 59 20 lo (.int y :: .int x :: r) w Q ↔ (if x = y then WP P 59 37 lo r w Q else WP P 59 23 lo r w Q) := W_ic_eq rfl rfl rfl
theorem wK_mappableAt_23 : WP P 59 23 lo st w Q ↔ x_ga lo[3]? (fun v => WP P 59 24 lo (v :: st) w Q) := W_aload_n rfl rfl rfl
theorem wK_mappableAt_24 : WP P 59 24 lo (.ref a :: r) w Q ↔ (x_has w a [1] ∧ WP P 59 27 lo (x_fd w a 0 :: r) w Q) := W_get rfl rfl rfl
theorem wK_mappableAt_27 : WP P 59 27 lo (.ref a :: r) w Q ↔ (x_has w a [2, 4, 5, 6, 7, 8, 9, 10] ∧ WP P 59 30 lo (x_fd w a 0 :: r) w Q) := W_get rfl rfl rfl
theorem wK_mappableAt_30 : WP P 59 30 lo st w Q ↔ WP P 59 32 lo (.int (xi 7) :: st) w Q := W_bipush rfl rfl (by decide)
theorem wK_mappableAt_32 : WP P 59 32 lo (.int y :: .int x :: r) w Q ↔ (if x = y then WP P 59 37 lo r w Q else WP P 59 35 lo r w Q) := W_ic_eq rfl rfl rfl
theorem wK_mappableAt_35 : WP P 59 35 lo st w Q ↔ WP P 59 36 lo (.null :: st) w Q := W_null rfl rfl
theorem wK_mappableAt_36n : WP P 59 36 lo [.null] w Q ↔ Q (some .null) w := WP_ret rfl rfl
theorem wK_mappableAt_36 : WP P 59 36 lo [.ref a] w Q ↔ Q (some (.ref a)) w := WP_ret rfl rfl
theorem wK_mappableAt_37 : WP P 59 37 lo st w Q ↔ x_ga lo[3]? (fun v => WP P 59 38 lo (v :: st) w Q) := W_aload_n rfl rfl rfl
theorem wK_mappableAt_38n : WP P 59 38 lo [.null] w Q ↔ Q (some .null) w := WP_ret rfl rfl
theorem wK_mappableAt_38 : WP P 59 38 lo [.ref a] w Q ↔ Q (some (.ref a)) w := WP_ret rfl rfl
-- 60 K_mapLeaf
theorem wK_mapLeaf_0 : WP P 60 0 lo st w Q ↔ x_ga lo[0]? (fun v => WP P 60 1 lo (v :: st) w Q) := W_aload_n rfl rfl rfl
theorem wK_mapLeaf_1 : WP P 60 1 lo (.ref a :: r) w Q ↔ (x_has w a [9] ∧ WP P 60 4 lo (x_fd w a 2 :: r) w Q) := W_get rfl rfl rfl
theorem wK_mapLeaf_4n : WP P 60 4 lo (.null :: r) w Q ↔ WP P 60 7 lo r w Q := W_ifnn_n rfl rfl rfl
theorem wK_mapLeaf_4 : WP P 60 4 lo (.ref a :: r) w Q ↔ WP P 60 16 lo r w Q := W_ifnn_r rfl rfl
theorem wK_mapLeaf_7 : WP P 60 7 lo st w Q ↔ x_ga lo[1]? (fun v => WP P 60 8 lo (v :: st) w Q) := W_aload_n rfl rfl rfl
theorem wK_mapLeaf_8 : WP P 60 8 lo (.ref a :: r) w Q ↔ (x_has w a [8] ∧ WP P 60 11 lo (x_fd w a 2 :: r) w Q) := W_get rfl rfl rfl
theorem wK_mapLeaf_11 : WP P 60 11 lo st w Q ↔ x_gi lo[2]? (fun x => WP P 60 12 lo (.int x :: st) w Q) := W_iload_n rfl rfl rfl
theorem wK_mapLeaf_12 {t n : Nat} (h1 : x_tg w a = some (t, n)) (ht : 30 ≤ t) (h2 : ¬ x < 0) (h3 : x.toNatClampNeg < n) : WP P 60 12 lo (.int x :: .ref a :: r) w Q ↔ WP P 60 13 lo (x_fd w a x.toNatClampNeg :: r) w Q := W_aald rfl h1 ht h2 h3 rfl
theorem wK_mapLeaf_13n : WP P 60 13 lo (.null :: r) w Q ↔ WP P 60 19 lo r w Q := W_ifnull_n rfl rfl
theorem wK_mapLeaf_13 : WP P 60 13 lo (.ref a :: r) w Q ↔ WP P 60 16 lo r w Q := W_ifnull_r rfl rfl rfl
theorem wK_mapLeaf_16 : WP P 60 16 lo st w Q ↔ WP P 60 18 lo (.int (xi 7) :: st) w Q := W_bipush rfl rfl (by decide)
theorem wK_mapLeaf_18 : WP P 60 18 lo [.int x] w Q ↔ Q (some (.int x)) w := WP_ret rfl rfl
theorem wK_mapLeaf_19 : WP P 60 19 lo st w Q ↔ x_ga lo[1]? (fun v => WP P 60 20 lo (v :: st) w Q) := W_aload_n rfl rfl rfl
theorem wK_mapLeaf_20 : WP P 60 20 lo (.ref a :: r) w Q ↔ (x_has w a [8] ∧ WP P 60 23 lo (x_fd w a 2 :: r) w Q) := W_get rfl rfl rfl
theorem wK_mapLeaf_23 : WP P 60 23 lo st w Q ↔ x_gi lo[2]? (fun x => WP P 60 24 lo (.int x :: st) w Q) := W_iload_n rfl rfl rfl
theorem wK_mapLeaf_24 : WP P 60 24 lo st w Q ↔ x_ga lo[0]? (fun v => WP P 60 25 lo (v :: st) w Q) := W_aload_n rfl rfl rfl
theorem wK_mapLeaf_25n {t n : Nat} (h1 : x_tg w a = some (t, n)) (ht : 30 ≤ t) (h2 : ¬ x < 0) (h3 : x.toNatClampNeg < n) : WP P 60 25 lo (.null :: .int x :: .ref a :: r) w Q ↔ WP P 60 26 lo r (x_put w a x.toNatClampNeg .null) Q := W_aast_n rfl h1 ht h2 h3 rfl
theorem wK_mapLeaf_25 {b t n nb : Nat} (h1 : x_tg w a = some (30 + t, n)) (hv : x_tg w b = some (t, nb)) (ht : t < 20) (h2 : ¬ x < 0) (h3 : x.toNatClampNeg < n) : WP P 60 25 lo (.ref b :: .int x :: .ref a :: r) w Q ↔ WP P 60 26 lo r (x_put w a x.toNatClampNeg (.ref b)) Q := W_aast_r rfl h1 hv ht h2 h3 rfl
theorem wK_mapLeaf_26 : WP P 60 26 lo st w Q ↔ x_ga lo[0]? (fun v => WP P 60 27 lo (v :: st) w Q) := W_aload_n rfl rfl rfl
theorem wK_mapLeaf_27 : WP P 60 27 lo st w Q ↔ x_ga lo[1]? (fun v => WP P 60 28 lo (v :: st) w Q) := W_aload_n rfl rfl rfl
theorem wK_mapLeaf_28 : WP P 60 28 lo (v1 :: .ref a :: r) w Q ↔ ((x_has w a [9] ∧ x_fit 2 v1 = true) ∧ WP P 60 31 lo r (x_put w a 2 v1) Q) := W_put rfl rfl (by decide) rfl
theorem wK_mapLeaf_31 : WP P 60 31 lo st w Q ↔ x_ga lo[0]? (fun v => WP P 60 32 lo (v :: st) w Q) := W_aload_n rfl rfl rfl
theorem wK_mapLeaf_32 : WP P 60 32 lo st w Q ↔ x_gi lo[2]? (fun x => WP P 60 33 lo (.int x :: st) w Q) := W_iload_n rfl rfl rfl
theorem wK_mapLeaf_33 : WP P 60 33 lo (v1 :: .ref a :: r) w Q ↔ ((x_has w a [9] ∧ x_fit 0 v1 = true) ∧ WP P 60 36 lo r (x_put w a 3 v1) Q) := W_put rfl rfl (by decide) rfl
theorem wK_mapLeaf_36 : WP P 60 36 lo st w Q ↔ WP P 60 37 lo (.int (xi 0) :: st) w Q := W_iconst rfl rfl rfl
theorem wK_mapLeaf_37 : WP P 60 37 lo [.int x] w Q ↔ Q (some (.int x)) w := WP_ret rfl rfl
-- 61 K_mapFrame
theorem wK_mapFrame_0 : WP P 61 0 lo st w Q ↔ x_ga lo[0]? (fun v => WP P 61 1 lo (v :: st) w Q) := W_aload_n rfl rfl rfl
theorem wK_mapFrame_1 : WP P 61 1 lo (.ref a :: r) w Q ↔ (x_has w a [1] ∧ WP P 61 4 lo (x_fd w a 5 :: r) w Q) := W_get rfl rfl rfl
theorem wK_mapFrame_4n : WP P 61 4 lo (.null :: r) w Q ↔ WP P 61 7 lo r w Q := W_ifnn_n rfl rfl rfl
theorem wK_mapFrame_4 : WP P 61 4 lo (.ref a :: r) w Q ↔ WP P 61 20 lo r w Q := W_ifnn_r rfl rfl
theorem wK_mapFrame_7 : WP P 61 7 lo st w Q ↔ x_ga lo[1]? (fun v => WP P 61 8 lo (v :: st) w Q) := W_aload_n rfl rfl rfl
theorem wK_mapFrame_8n : WP P 61 8 lo (.null :: r) w Q ↔ WP P 61 20 lo r w Q := W_ifnull_n rfl rfl
theorem wK_mapFrame_8 : WP P 61 8 lo (.ref a :: r) w Q ↔ WP P 61 11 lo r w Q := W_ifnull_r rfl rfl rfl
theorem wK_mapFrame_11 : WP P 61 11 lo st w Q ↔ x_ga lo[1]? (fun v => WP P 61 12 lo (v :: st) w Q) := W_aload_n rfl rfl rfl
theorem wK_mapFrame_12 : WP P 61 12 lo (.ref a :: r) w Q ↔ (x_has w a [9] ∧ WP P 61 15 lo (x_fd w a 4 :: r) w Q) := W_get rfl rfl rfl
theorem wK_mapFrame_15 : WP P 61 15 lo st w Q ↔ x_gi lo[2]? (fun x => WP P 61 16 lo (.int x :: st) w Q) := W_iload_n rfl rfl rfl
theorem wK_mapFrame_16 {t n : Nat} (h1 : x_tg w a = some (t, n)) (ht : 30 ≤ t) (h2 : ¬ x < 0) (h3 : x.toNatClampNeg < n) : WP P 61 16 lo (.int x :: .ref a :: r) w Q ↔ WP P 61 17 lo (x_fd w a x.toNatClampNeg :: r) w Q := W_aald rfl h1 ht h2 h3 rfl
theorem wK_mapFrame_17n : WP P 61 17 lo (.null :: r) w Q ↔ WP P 61 23 lo r w Q := W_ifnull_n rfl rfl
theorem wK_mapFrame_17 : WP P 61 17 lo (.ref a :: r) w Q ↔ WP P 61 20 lo r w Q := W_ifnull_r rfl rfl rfl
theorem wK_mapFrame_20 : WP P 61 20 lo st w Q ↔ WP P 61 22 lo (.int (xi 7) :: st) w Q := W_bipush rfl rfl (by decide)
theorem wK_mapFrame_22 : WP P 61 22 lo [.int x] w Q ↔ Q (some (.int x)) w := WP_ret rfl rfl
theorem wK_mapFrame_23 : WP P 61 23 lo st w Q ↔ x_ga lo[1]? (fun v => WP P 61 24 lo (v :: st) w Q) := W_aload_n rfl rfl rfl
theorem wK_mapFrame_24 : WP P 61 24 lo (.ref a :: r) w Q ↔ (x_has w a [9] ∧ WP P 61 27 lo (x_fd w a 4 :: r) w Q) := W_get rfl rfl rfl
theorem wK_mapFrame_27 : WP P 61 27 lo st w Q ↔ x_gi lo[2]? (fun x => WP P 61 28 lo (.int x :: st) w Q) := W_iload_n rfl rfl rfl
theorem wK_mapFrame_28 : WP P 61 28 lo st w Q ↔ x_ga lo[0]? (fun v => WP P 61 29 lo (v :: st) w Q) := W_aload_n rfl rfl rfl
theorem wK_mapFrame_29n {t n : Nat} (h1 : x_tg w a = some (t, n)) (ht : 30 ≤ t) (h2 : ¬ x < 0) (h3 : x.toNatClampNeg < n) : WP P 61 29 lo (.null :: .int x :: .ref a :: r) w Q ↔ WP P 61 30 lo r (x_put w a x.toNatClampNeg .null) Q := W_aast_n rfl h1 ht h2 h3 rfl
theorem wK_mapFrame_29 {b t n nb : Nat} (h1 : x_tg w a = some (30 + t, n)) (hv : x_tg w b = some (t, nb)) (ht : t < 20) (h2 : ¬ x < 0) (h3 : x.toNatClampNeg < n) : WP P 61 29 lo (.ref b :: .int x :: .ref a :: r) w Q ↔ WP P 61 30 lo r (x_put w a x.toNatClampNeg (.ref b)) Q := W_aast_r rfl h1 hv ht h2 h3 rfl
theorem wK_mapFrame_30 : WP P 61 30 lo st w Q ↔ x_ga lo[0]? (fun v => WP P 61 31 lo (v :: st) w Q) := W_aload_n rfl rfl rfl
theorem wK_mapFrame_31 : WP P 61 31 lo st w Q ↔ x_ga lo[1]? (fun v => WP P 61 32 lo (v :: st) w Q) := W_aload_n rfl rfl rfl
theorem wK_mapFrame_32 : WP P 61 32 lo (v1 :: .ref a :: r) w Q ↔ ((x_has w a [1] ∧ x_fit 2 v1 = true) ∧ WP P 61 35 lo r (x_put w a 5 v1) Q) := W_put rfl rfl (by decide) rfl
theorem wK_mapFrame_35 : WP P 61 35 lo st w Q ↔ x_ga lo[0]? (fun v => WP P 61 36 lo (v :: st) w Q) := W_aload_n rfl rfl rfl
theorem wK_mapFrame_36 : WP P 61 36 lo st w Q ↔ x_gi lo[2]? (fun x => WP P 61 37 lo (.int x :: st) w Q) := W_iload_n rfl rfl rfl
theorem wK_mapFrame_37 : WP P 61 37 lo (v1 :: .ref a :: r) w Q ↔ ((x_has w a [1] ∧ x_fit 0 v1 = true) ∧ WP P 61 40 lo r (x_put w a 6 v1) Q) := W_put rfl rfl (by decide) rfl
theorem wK_mapFrame_40 : WP P 61 40 lo st w Q ↔ WP P 61 41 lo (.int (xi 0) :: st) w Q := W_iconst rfl rfl rfl
theorem wK_mapFrame_41 : WP P 61 41 lo [.int x] w Q ↔ Q (some (.int x)) w := WP_ret rfl rfl
-- 62 K_unmap
theorem wK_unmap_0 : WP P 62 0 lo st w Q ↔ x_ga lo[0]? (fun v => WP P 62 1 lo (v :: st) w Q) := W_aload_n rfl rfl rfl
theorem wK_unmap_1 {b nb : Nat} (hb : x_tg w b = some (0, nb)) (hr : r.length ≤ 8) (hc : ([] : List Value).all x_cat1 = true) (hc2 : r.all x_cat1 = true) (k : WP P 12 0 [some (.ref b), none] [] w (fun v w1 => WP P 62 4 lo (v.toList ++ r) w1 Q)) : WP P 62 1 lo (.ref b :: r) w Q := K_virt (as := []) rfl rfl rfl rfl (by decide) (by decide) rfl hb hr hc hc2 k
theorem wK_unmap_4 : WP P 62 4 lo (.ref a :: r) w Q ↔ (2 < lo.length ∧ WP P 62 5 (lo.set 2 (some (.ref a))) r w Q) := W_astore_n rfl rfl rfl
theorem wK_unmap_4n : WP P 62 4 lo (.null :: r) w Q ↔ (2 < lo.length ∧ WP P 62 5 (lo.set 2 (some .null)) r w Q) := W_astore_nN rfl rfl rfl
theorem wK_unmap_5 : WP P 62 5 lo st w Q ↔ x_ga lo[2]? (fun v => WP P 62 6 lo (v :: st) w Q) := W_aload_n rfl rfl rfl
theorem wK_unmap_6n : WP P 62 6 lo (.null :: r) w Q ↔ WP P 62 9 lo r w Q := W_ifnn_n rfl rfl rfl
theorem wK_unmap_6 : WP P 62 6 lo (.ref a :: r) w Q ↔ WP P 62 12 lo r w Q := W_ifnn_r rfl rfl
theorem wK_unmap_9 : WP P 62 9 lo st w Q ↔ WP P 62 11 lo (.int (xi 8) :: st) w Q := W_bipush rfl rfl (by decide)
theorem wK_unmap_11 : WP P 62 11 lo [.int x] w Q ↔ Q (some (.int x)) w := WP_ret rfl rfl
theorem wK_unmap_12 : WP P 62 12 lo st w Q ↔ x_ga lo[0]? (fun v => WP P 62 13 lo (v :: st) w Q) := W_aload_n rfl rfl rfl
theorem wK_unmap_13 : WP P 62 13 lo st w Q ↔ x_ga lo[2]? (fun v => WP P 62 14 lo (v :: st) w Q) := W_aload_n rfl rfl rfl
theorem wK_unmap_14 : WP P 62 14 lo st w Q ↔ x_gi lo[1]? (fun x => WP P 62 15 lo (.int x :: st) w Q) := W_iload_n rfl rfl rfl
theorem wK_unmap_15 {u1 u2 : Value} {b nb : Nat} (hb : x_tg w b = some (0, nb)) (hr : r.length ≤ 8) (hc : ([u1, u2] : List Value).all x_cat1 = true) (hc2 : r.all x_cat1 = true) (k : WP P 59 0 [some (.ref b), some u1, some u2, none] [] w (fun v w1 => WP P 62 18 lo (v.toList ++ r) w1 Q)) : WP P 62 15 lo (u2 :: u1 :: .ref b :: r) w Q := K_virt (as := [u1, u2]) rfl rfl rfl rfl (by decide) (by decide) rfl hb hr hc hc2 k
theorem wK_unmap_18 : WP P 62 18 lo (.ref a :: r) w Q ↔ (3 < lo.length ∧ WP P 62 19 (lo.set 3 (some (.ref a))) r w Q) := W_astore_n rfl rfl rfl
theorem wK_unmap_18n : WP P 62 18 lo (.null :: r) w Q ↔ (3 < lo.length ∧ WP P 62 19 (lo.set 3 (some .null)) r w Q) := W_astore_nN rfl rfl rfl
theorem wK_unmap_19 : WP P 62 19 lo st w Q ↔ x_ga lo[3]? (fun v => WP P 62 20 lo (v :: st) w Q) := W_aload_n rfl rfl rfl
theorem wK_unmap_20n : WP P 62 20 lo (.null :: r) w Q ↔ WP P 62 23 lo r w Q := W_ifnn_n rfl rfl rfl
theorem wK_unmap_20 : WP P 62 20 lo (.ref a :: r) w Q ↔ WP P 62 25 lo r w Q := W_ifnn_r rfl rfl
theorem wK_unmap_23 : WP P 62 23 lo st w Q ↔ WP P 62 24 lo (.int (xi 1) :: st) w Q := W_iconst rfl rfl rfl
theorem wK_unmap_24 : WP P 62 24 lo [.int x] w Q ↔ Q (some (.int x)) w := WP_ret rfl rfl
theorem wK_unmap_25 : WP P 62 25 lo st w Q ↔ x_ga lo[3]? (fun v => WP P 62 26 lo (v :: st) w Q) := W_aload_n rfl rfl rfl
theorem wK_unmap_26 {u1 : Value} (hr : r.length ≤ 8) (hc : ([u1] : List Value).all x_cat1 = true) (hc2 : r.all x_cat1 = true) (k : WP P 63 0 [some u1, none, none] [] w (fun v w1 => WP P 62 29 lo (v.toList ++ r) w1 Q)) : WP P 62 26 lo (u1 :: r) w Q := K_stat (as := [u1]) rfl rfl rfl rfl (by decide) (by decide) rfl hr hc hc2 k
theorem wK_unmap_29 : WP P 62 29 lo (.int x :: r) w Q ↔ (if x = xi 0 then WP P 62 32 lo r w Q else WP P 62 35 lo r w Q) := W_if_ne rfl rfl rfl
theorem wK_unmap_32 : WP P 62 32 lo st w Q ↔ WP P 62 34 lo (.int (xi 7) :: st) w Q := W_bipush rfl rfl (by decide)
theorem wK_unmap_34 : WP P 62 34 lo [.int x] w Q ↔ Q (some (.int x)) w := WP_ret rfl rfl
theorem wK_unmap_35 : WP P 62 35 lo st w Q ↔ x_ga lo[3]? (fun v => WP P 62 36 lo (v :: st) w Q) := W_aload_n rfl rfl rfl
theorem wK_unmap_36 : WP P 62 36 lo (.ref a :: r) w Q ↔ (x_has w a [1] ∧ WP P 62 39 lo (x_fd w a 0 :: r) w Q) := W_get rfl rfl rfl
theorem wK_unmap_39 : WP P 62 39 lo (.ref a :: r) w Q ↔ (5 < lo.length ∧ WP P 62 41 (lo.set 5 (some (.ref a))) r w Q) := W_astore rfl rfl
theorem wK_unmap_39n : WP P 62 39 lo (.null :: r) w Q ↔ (5 < lo.length ∧ WP P 62 41 (lo.set 5 (some .null)) r w Q) := W_astoreN rfl rfl
theorem wK_unmap_41 : WP P 62 41 lo st w Q ↔ x_ga lo[5]? (fun v => WP P 62 43 lo (v :: st) w Q) := W_aload rfl rfl
theorem wK_unmap_43n : WP P 62 43 lo (.null :: r) w Q ↔ WP P 62 46 lo (.int (xi 0) :: r) w Q := W_inst_n rfl rfl
theorem wK_unmap_43 {t n : Nat} (h1 : x_tg w a = some (t, n)) (ht : t ∈ x_things) : WP P 62 43 lo (.ref a :: r) w Q ↔ WP P 62 46 lo (.int (if t = 9 then xi 1 else xi 0) :: r) w Q := W_inst rfl rfl h1 ht rfl
theorem wK_unmap_46 : WP P 62 46 lo (.int x :: r) w Q ↔ (if x = xi 0 then WP P 62 64 lo r w Q else WP P 62 49 lo r w Q) := W_if_eq rfl rfl rfl
theorem wK_unmap_49 : WP P 62 49 lo st w Q ↔ x_ga lo[5]? (fun v => WP P 62 51 lo (v :: st) w Q) := W_aload rfl rfl
theorem wK_unmap_51 {n : Nat} (h1 : x_tg w a = some (9, n)) : WP P 62 51 lo (.ref a :: r) w Q ↔ WP P 62 54 lo (.ref a :: r) w Q := W_cast rfl h1 rfl rfl
theorem wK_unmap_54 : WP P 62 54 lo (.ref a :: r) w Q ↔ (4 < lo.length ∧ WP P 62 56 (lo.set 4 (some (.ref a))) r w Q) := W_astore rfl rfl
theorem wK_unmap_54n : WP P 62 54 lo (.null :: r) w Q ↔ (4 < lo.length ∧ WP P 62 56 (lo.set 4 (some .null)) r w Q) := W_astoreN rfl rfl
theorem wK_unmap_56 : WP P 62 56 lo st w Q ↔ x_ga lo[4]? (fun v => WP P 62 58 lo (v :: st) w Q) := W_aload rfl rfl
theorem wK_unmap_58 {u1 : Value} (hr : r.length ≤ 8) (hc : ([u1] : List Value).all x_cat1 = true) (hc2 : r.all x_cat1 = true) (k : WP P 38 0 [some u1] [] w (fun v w1 => WP P 62 61 lo (v.toList ++ r) w1 Q)) : WP P 62 58 lo (u1 :: r) w Q := K_stat (as := [u1]) rfl rfl rfl rfl (by decide) (by decide) rfl hr hc hc2 k
theorem wK_unmap_61 : WP P 62 61 lo st w Q ↔ WP P 62 68 lo st w Q := W_goto rfl rfl
theorem wK_unmap_64 : WP P 62 64 lo st w Q ↔ x_ga lo[3]? (fun v => WP P 62 65 lo (v :: st) w Q) := W_aload_n rfl rfl rfl
theorem wK_unmap_65 {u1 : Value} (hr : r.length ≤ 8) (hc : ([u1] : List Value).all x_cat1 = true) (hc2 : r.all x_cat1 = true) (k : WP P 30 0 [some u1] [] w (fun v w1 => WP P 62 68 lo (v.toList ++ r) w1 Q)) : WP P 62 65 lo (u1 :: r) w Q := K_stat (as := [u1]) rfl rfl rfl rfl (by decide) (by decide) rfl hr hc hc2 k
theorem wK_unmap_68 : WP P 62 68 lo st w Q ↔ WP P 62 69 lo (.int (xi 0) :: st) w Q := W_iconst rfl rfl rfl
theorem wK_unmap_69 : WP P 62 69 lo [.int x] w Q ↔ Q (some (.int x)) w := WP_ret rfl rfl
-- 63 K_isMapped
theorem wK_isMapped_0 : WP P 63 0 lo st w Q ↔ x_ga lo[0]? (fun v => WP P 63 1 lo (v :: st) w Q) := W_aload_n rfl rfl rfl
theorem wK_isMapped_1 : WP P 63 1 lo (.ref a :: r) w Q ↔ (x_has w a [1] ∧ WP P 63 4 lo (x_fd w a 0 :: r) w Q) := W_get rfl rfl rfl
theorem wK_isMapped_4 : WP P 63 4 lo (.ref a :: r) w Q ↔ (2 < lo.length ∧ WP P 63 5 (lo.set 2 (some (.ref a))) r w Q) := W_astore_n rfl rfl rfl
theorem wK_isMapped_4n : WP P 63 4 lo (.null :: r) w Q ↔ (2 < lo.length ∧ WP P 63 5 (lo.set 2 (some .null)) r w Q) := W_astore_nN rfl rfl rfl
theorem wK_isMapped_5 : WP P 63 5 lo st w Q ↔ x_ga lo[2]? (fun v => WP P 63 6 lo (v :: st) w Q) := W_aload_n rfl rfl rfl
theorem wK_isMapped_6n : WP P 63 6 lo (.null :: r) w Q ↔ WP P 63 9 lo (.int (xi 0) :: r) w Q := W_inst_n rfl rfl
theorem wK_isMapped_6 {t n : Nat} (h1 : x_tg w a = some (t, n)) (ht : t ∈ x_things) : WP P 63 6 lo (.ref a :: r) w Q ↔ WP P 63 9 lo (.int (if t = 9 then xi 1 else xi 0) :: r) w Q := W_inst rfl rfl h1 ht rfl
theorem wK_isMapped_9 : WP P 63 9 lo (.int x :: r) w Q ↔ (if x = xi 0 then WP P 63 32 lo r w Q else WP P 63 12 lo r w Q) := W_if_eq rfl rfl rfl
theorem wK_isMapped_12 : WP P 63 12 lo st w Q ↔ x_ga lo[2]? (fun v => WP P 63 13 lo (v :: st) w Q) := W_aload_n rfl rfl rfl
theorem wK_isMapped_13 {n : Nat} (h1 : x_tg w a = some (9, n)) : WP P 63 13 lo (.ref a :: r) w Q ↔ WP P 63 16 lo (.ref a :: r) w Q := W_cast rfl h1 rfl rfl
theorem wK_isMapped_16 : WP P 63 16 lo (.ref a :: r) w Q ↔ (1 < lo.length ∧ WP P 63 17 (lo.set 1 (some (.ref a))) r w Q) := W_astore_n rfl rfl rfl
theorem wK_isMapped_16n : WP P 63 16 lo (.null :: r) w Q ↔ (1 < lo.length ∧ WP P 63 17 (lo.set 1 (some .null)) r w Q) := W_astore_nN rfl rfl rfl
theorem wK_isMapped_17 : WP P 63 17 lo st w Q ↔ x_ga lo[1]? (fun v => WP P 63 18 lo (v :: st) w Q) := W_aload_n rfl rfl rfl
theorem wK_isMapped_18 : WP P 63 18 lo (.ref a :: r) w Q ↔ (x_has w a [9] ∧ WP P 63 21 lo (x_fd w a 2 :: r) w Q) := W_get rfl rfl rfl
theorem wK_isMapped_21n : WP P 63 21 lo (.null :: r) w Q ↔ WP P 63 28 lo r w Q := W_ifnull_n rfl rfl
theorem wK_isMapped_21 : WP P 63 21 lo (.ref a :: r) w Q ↔ WP P 63 24 lo r w Q := W_ifnull_r rfl rfl rfl
theorem wK_isMapped_24 : WP P 63 24 lo st w Q ↔ WP P 63 25 lo (.int (xi 1) :: st) w Q := W_iconst rfl rfl rfl
theorem wK_isMapped_25 : WP P 63 25 lo st w Q ↔ WP P 63 44 lo st w Q := W_goto rfl rfl
theorem wK_isMapped_28 : WP P 63 28 lo st w Q ↔ WP P 63 29 lo (.int (xi 0) :: st) w Q := W_iconst rfl rfl rfl
theorem wK_isMapped_29 : WP P 63 29 lo st w Q ↔ WP P 63 44 lo st w Q := W_goto rfl rfl
theorem wK_isMapped_32 : WP P 63 32 lo st w Q ↔ x_ga lo[0]? (fun v => WP P 63 33 lo (v :: st) w Q) := W_aload_n rfl rfl rfl
theorem wK_isMapped_33 : WP P 63 33 lo (.ref a :: r) w Q ↔ (x_has w a [1] ∧ WP P 63 36 lo (x_fd w a 5 :: r) w Q) := W_get rfl rfl rfl
theorem wK_isMapped_36n : WP P 63 36 lo (.null :: r) w Q ↔ WP P 63 43 lo r w Q := W_ifnull_n rfl rfl
theorem wK_isMapped_36 : WP P 63 36 lo (.ref a :: r) w Q ↔ WP P 63 39 lo r w Q := W_ifnull_r rfl rfl rfl
theorem wK_isMapped_39 : WP P 63 39 lo st w Q ↔ WP P 63 40 lo (.int (xi 1) :: st) w Q := W_iconst rfl rfl rfl
theorem wK_isMapped_40 : WP P 63 40 lo st w Q ↔ WP P 63 44 lo st w Q := W_goto rfl rfl
theorem wK_isMapped_43 : WP P 63 43 lo st w Q ↔ WP P 63 44 lo (.int (xi 0) :: st) w Q := W_iconst rfl rfl rfl
theorem wK_isMapped_44 (h : x = 0 ∨ x = 1) : WP P 63 44 lo [.int x] w Q ↔ Q (some (.int x)) w := WP_ret rfl (if_pos (Or.inr ⟨rfl, h⟩))
-- 64 K_bind
theorem wK_bind_0 : WP P 64 0 lo st w Q ↔ x_ga lo[0]? (fun v => WP P 64 1 lo (v :: st) w Q) := W_aload_n rfl rfl rfl
theorem wK_bind_1 {b nb : Nat} (hb : x_tg w b = some (0, nb)) (hr : r.length ≤ 8) (hc : ([] : List Value).all x_cat1 = true) (hc2 : r.all x_cat1 = true) (k : WP P 12 0 [some (.ref b), none] [] w (fun v w1 => WP P 64 4 lo (v.toList ++ r) w1 Q)) : WP P 64 1 lo (.ref b :: r) w Q := K_virt (as := []) rfl rfl rfl rfl (by decide) (by decide) rfl hb hr hc hc2 k
theorem wK_bind_4 : WP P 64 4 lo (.ref a :: r) w Q ↔ (3 < lo.length ∧ WP P 64 5 (lo.set 3 (some (.ref a))) r w Q) := W_astore_n rfl rfl rfl
theorem wK_bind_4n : WP P 64 4 lo (.null :: r) w Q ↔ (3 < lo.length ∧ WP P 64 5 (lo.set 3 (some .null)) r w Q) := W_astore_nN rfl rfl rfl
theorem wK_bind_5 : WP P 64 5 lo st w Q ↔ x_ga lo[3]? (fun v => WP P 64 6 lo (v :: st) w Q) := W_aload_n rfl rfl rfl
theorem wK_bind_6n : WP P 64 6 lo (.null :: r) w Q ↔ WP P 64 9 lo r w Q := W_ifnn_n rfl rfl rfl
theorem wK_bind_6 : WP P 64 6 lo (.ref a :: r) w Q ↔ WP P 64 12 lo r w Q := W_ifnn_r rfl rfl
theorem wK_bind_9 : WP P 64 9 lo st w Q ↔ WP P 64 11 lo (.int (xi 8) :: st) w Q := W_bipush rfl rfl (by decide)
theorem wK_bind_11 : WP P 64 11 lo [.int x] w Q ↔ Q (some (.int x)) w := WP_ret rfl rfl
theorem wK_bind_12 : WP P 64 12 lo st w Q ↔ x_gi lo[1]? (fun x => WP P 64 13 lo (.int x :: st) w Q) := W_iload_n rfl rfl rfl
theorem wK_bind_13 : WP P 64 13 lo (.int x :: r) w Q ↔ (if x < xi 0 then WP P 64 21 lo r w Q else WP P 64 16 lo r w Q) := W_if_lt rfl rfl rfl
theorem wK_bind_16 : WP P 64 16 lo st w Q ↔ x_gi lo[1]? (fun x => WP P 64 17 lo (.int x :: st) w Q) := W_iload_n rfl rfl rfl
theorem wK_bind_17 : WP P 64 17 lo st w Q ↔ WP P 64 18 lo (.int (xi 4) :: st) w Q := W_iconst rfl rfl rfl
theorem wK_bind_18 : WP P 64 18 lo (.int y :: .int x :: r) w Q ↔ (if x < y then WP P 64 23 lo r w Q else WP P 64 21 lo r w Q) := W_ic_lt rfl rfl rfl
theorem wK_bind_21 : WP P 64 21 lo st w Q ↔ WP P 64 22 lo (.int (xi 4) :: st) w Q := W_iconst rfl rfl rfl
theorem wK_bind_22 : WP P 64 22 lo [.int x] w Q ↔ Q (some (.int x)) w := WP_ret rfl rfl
theorem wK_bind_23 : WP P 64 23 lo st w Q ↔ x_ga lo[0]? (fun v => WP P 64 24 lo (v :: st) w Q) := W_aload_n rfl rfl rfl
theorem wK_bind_24 : WP P 64 24 lo st w Q ↔ x_ga lo[3]? (fun v => WP P 64 25 lo (v :: st) w Q) := W_aload_n rfl rfl rfl
theorem wK_bind_25 : WP P 64 25 lo st w Q ↔ x_gi lo[2]? (fun x => WP P 64 26 lo (.int x :: st) w Q) := W_iload_n rfl rfl rfl
theorem wK_bind_26 {u1 u2 : Value} {b nb : Nat} (hb : x_tg w b = some (0, nb)) (hr : r.length ≤ 8) (hc : ([u1, u2] : List Value).all x_cat1 = true) (hc2 : r.all x_cat1 = true) (k : WP P 65 0 [some (.ref b), some u1, some u2, none, none, none] [] w (fun v w1 => WP P 64 29 lo (v.toList ++ r) w1 Q)) : WP P 64 26 lo (u2 :: u1 :: .ref b :: r) w Q := K_virt (as := [u1, u2]) rfl rfl rfl rfl (by decide) (by decide) rfl hb hr hc hc2 k
theorem wK_bind_29 : WP P 64 29 lo (.ref a :: r) w Q ↔ (4 < lo.length ∧ WP P 64 31 (lo.set 4 (some (.ref a))) r w Q) := W_astore rfl rfl
theorem wK_bind_29n : WP P 64 29 lo (.null :: r) w Q ↔ (4 < lo.length ∧ WP P 64 31 (lo.set 4 (some .null)) r w Q) := W_astoreN rfl rfl
theorem wK_bind_31 : WP P 64 31 lo st w Q ↔ x_ga lo[4]? (fun v => WP P 64 33 lo (v :: st) w Q) := W_aload rfl rfl
theorem wK_bind_33n : WP P 64 33 lo (.null :: r) w Q ↔ WP P 64 36 lo r w Q := W_ifnn_n rfl rfl rfl
theorem wK_bind_33 : WP P 64 33 lo (.ref a :: r) w Q ↔ WP P 64 43 lo r w Q := W_ifnn_r rfl rfl
theorem wK_bind_36 : WP P 64 36 lo st w Q ↔ x_gi lo[2]? (fun x => WP P 64 37 lo (.int x :: st) w Q) := W_iload_n rfl rfl rfl
theorem wK_bind_37 : WP P 64 37 lo st w Q ↔ WP P 64 38 lo (.int (xi (-1)) :: st) w Q := W_iconst rfl rfl rfl
theorem wK_bind_38 : WP P 64 38 lo (.int y :: .int x :: r) w Q ↔ (if x = y then WP P 64 43 lo r w Q else WP P 64 41 lo r w Q) := W_ic_eq rfl rfl rfl
theorem wK_bind_41 : WP P 64 41 lo st w Q ↔ WP P 64 42 lo (.int (xi 1) :: st) w Q := W_iconst rfl rfl rfl
theorem wK_bind_42 : WP P 64 42 lo [.int x] w Q ↔ Q (some (.int x)) w := WP_ret rfl rfl
theorem wK_bind_43 : WP P 64 43 lo st w Q ↔ x_ga lo[0]? (fun v => WP P 64 44 lo (v :: st) w Q) := W_aload_n rfl rfl rfl
theorem wK_bind_44 : WP P 64 44 lo (.ref a :: r) w Q ↔ (x_has w a [0] ∧ WP P 64 47 lo (x_fd w a 3 :: r) w Q) := W_get rfl rfl rfl
theorem wK_bind_47 : WP P 64 47 lo st w Q ↔ x_gi lo[1]? (fun x => WP P 64 48 lo (.int x :: st) w Q) := W_iload_n rfl rfl rfl
theorem wK_bind_48 : WP P 64 48 lo st w Q ↔ x_ga lo[4]? (fun v => WP P 64 50 lo (v :: st) w Q) := W_aload rfl rfl
theorem wK_bind_50n {t n : Nat} (h1 : x_tg w a = some (t, n)) (ht : 30 ≤ t) (h2 : ¬ x < 0) (h3 : x.toNatClampNeg < n) : WP P 64 50 lo (.null :: .int x :: .ref a :: r) w Q ↔ WP P 64 51 lo r (x_put w a x.toNatClampNeg .null) Q := W_aast_n rfl h1 ht h2 h3 rfl
theorem wK_bind_50 {b t n nb : Nat} (h1 : x_tg w a = some (30 + t, n)) (hv : x_tg w b = some (t, nb)) (ht : t < 20) (h2 : ¬ x < 0) (h3 : x.toNatClampNeg < n) : WP P 64 50 lo (.ref b :: .int x :: .ref a :: r) w Q ↔ WP P 64 51 lo r (x_put w a x.toNatClampNeg (.ref b)) Q := W_aast_r rfl h1 hv ht h2 h3 rfl
theorem wK_bind_51 : WP P 64 51 lo st w Q ↔ WP P 64 52 lo (.int (xi 0) :: st) w Q := W_iconst rfl rfl rfl
theorem wK_bind_52 : WP P 64 52 lo [.int x] w Q ↔ Q (some (.int x)) w := WP_ret rfl rfl
-- 65 K_bellAt
theorem wK_bellAt_0 : WP P 65 0 lo st w Q ↔ x_ga lo[0]? (fun v => WP P 65 1 lo (v :: st) w Q) := W_aload_n rfl rfl rfl
theorem wK_bellAt_1 : WP P 65 1 lo st w Q ↔ x_ga lo[1]? (fun v => WP P 65 2 lo (v :: st) w Q) := W_aload_n rfl rfl rfl
theorem wK_bellAt_2 : WP P 65 2 lo st w Q ↔ x_gi lo[2]? (fun x => WP P 65 3 lo (.int x :: st) w Q) := W_iload_n rfl rfl rfl
theorem wK_bellAt_3 {u1 u2 : Value} {b nb : Nat} (hb : x_tg w b = some (0, nb)) (hr : r.length ≤ 8) (hc : ([u1, u2] : List Value).all x_cat1 = true) (hc2 : r.all x_cat1 = true) (k : WP P 13 0 [some (.ref b), some u1, some u2, none] [] w (fun v w1 => WP P 65 6 lo (v.toList ++ r) w1 Q)) : WP P 65 3 lo (u2 :: u1 :: .ref b :: r) w Q := K_virt (as := [u1, u2]) rfl rfl rfl rfl (by decide) (by decide) rfl hb hr hc hc2 k
theorem wK_bellAt_6 : WP P 65 6 lo (.ref a :: r) w Q ↔ (3 < lo.length ∧ WP P 65 7 (lo.set 3 (some (.ref a))) r w Q) := W_astore_n rfl rfl rfl
theorem wK_bellAt_6n : WP P 65 6 lo (.null :: r) w Q ↔ (3 < lo.length ∧ WP P 65 7 (lo.set 3 (some .null)) r w Q) := W_astore_nN rfl rfl rfl
theorem wK_bellAt_7 : WP P 65 7 lo st w Q ↔ x_ga lo[3]? (fun v => WP P 65 8 lo (v :: st) w Q) := W_aload_n rfl rfl rfl
theorem wK_bellAt_8n : WP P 65 8 lo (.null :: r) w Q ↔ WP P 65 37 lo r w Q := W_ifnull_n rfl rfl
theorem wK_bellAt_8 : WP P 65 8 lo (.ref a :: r) w Q ↔ WP P 65 11 lo r w Q := W_ifnull_r rfl rfl rfl
theorem wK_bellAt_11 : WP P 65 11 lo st w Q ↔ x_ga lo[3]? (fun v => WP P 65 12 lo (v :: st) w Q) := W_aload_n rfl rfl rfl
theorem wK_bellAt_12 : WP P 65 12 lo (.ref a :: r) w Q ↔ (x_has w a [1] ∧ WP P 65 15 lo (x_fd w a 0 :: r) w Q) := W_get rfl rfl rfl
theorem wK_bellAt_15 : WP P 65 15 lo (.ref a :: r) w Q ↔ (5 < lo.length ∧ WP P 65 17 (lo.set 5 (some (.ref a))) r w Q) := W_astore rfl rfl
theorem wK_bellAt_15n : WP P 65 15 lo (.null :: r) w Q ↔ (5 < lo.length ∧ WP P 65 17 (lo.set 5 (some .null)) r w Q) := W_astoreN rfl rfl
theorem wK_bellAt_17 : WP P 65 17 lo st w Q ↔ x_ga lo[5]? (fun v => WP P 65 19 lo (v :: st) w Q) := W_aload rfl rfl
theorem wK_bellAt_19n : WP P 65 19 lo (.null :: r) w Q ↔ WP P 65 22 lo (.int (xi 0) :: r) w Q := W_inst_n rfl rfl
theorem wK_bellAt_19 {t n : Nat} (h1 : x_tg w a = some (t, n)) (ht : t ∈ x_things) : WP P 65 19 lo (.ref a :: r) w Q ↔ WP P 65 22 lo (.int (if t = 7 then xi 1 else xi 0) :: r) w Q := W_inst rfl rfl h1 ht rfl
theorem wK_bellAt_22 : WP P 65 22 lo (.int x :: r) w Q ↔ (if x = xi 0 then WP P 65 37 lo r w Q else WP P 65 25 lo r w Q) := W_if_eq rfl rfl rfl
theorem wK_bellAt_25 : WP P 65 25 lo st w Q ↔ x_ga lo[5]? (fun v => WP P 65 27 lo (v :: st) w Q) := W_aload rfl rfl
theorem wK_bellAt_27 {n : Nat} (h1 : x_tg w a = some (7, n)) : WP P 65 27 lo (.ref a :: r) w Q ↔ WP P 65 30 lo (.ref a :: r) w Q := W_cast rfl h1 rfl rfl
theorem wK_bellAt_30 : WP P 65 30 lo (.ref a :: r) w Q ↔ (4 < lo.length ∧ WP P 65 32 (lo.set 4 (some (.ref a))) r w Q) := W_astore rfl rfl
theorem wK_bellAt_30n : WP P 65 30 lo (.null :: r) w Q ↔ (4 < lo.length ∧ WP P 65 32 (lo.set 4 (some .null)) r w Q) := W_astoreN rfl rfl
theorem wK_bellAt_32 : WP P 65 32 lo st w Q ↔ x_ga lo[4]? (fun v => WP P 65 34 lo (v :: st) w Q) := W_aload rfl rfl
theorem wK_bellAt_34 : WP P 65 34 lo st w Q ↔ WP P 65 38 lo st w Q := W_goto rfl rfl
theorem wK_bellAt_37 : WP P 65 37 lo st w Q ↔ WP P 65 38 lo (.null :: st) w Q := W_null rfl rfl
theorem wK_bellAt_38n : WP P 65 38 lo [.null] w Q ↔ Q (some .null) w := WP_ret rfl rfl
theorem wK_bellAt_38 : WP P 65 38 lo [.ref a] w Q ↔ Q (some (.ref a)) w := WP_ret rfl rfl
-- 66 K_interrupt
theorem wK_interrupt_0 : WP P 66 0 lo st w Q ↔ x_gi lo[1]? (fun x => WP P 66 1 lo (.int x :: st) w Q) := W_iload_n rfl rfl rfl
theorem wK_interrupt_1 : WP P 66 1 lo (.int x :: r) w Q ↔ (if x < xi 0 then WP P 66 9 lo r w Q else WP P 66 4 lo r w Q) := W_if_lt rfl rfl rfl
theorem wK_interrupt_4 : WP P 66 4 lo st w Q ↔ x_gi lo[1]? (fun x => WP P 66 5 lo (.int x :: st) w Q) := W_iload_n rfl rfl rfl
theorem wK_interrupt_5 : WP P 66 5 lo st w Q ↔ WP P 66 6 lo (.int (xi 4) :: st) w Q := W_iconst rfl rfl rfl
theorem wK_interrupt_6 : WP P 66 6 lo (.int y :: .int x :: r) w Q ↔ (if x < y then WP P 66 11 lo r w Q else WP P 66 9 lo r w Q) := W_ic_lt rfl rfl rfl
theorem wK_interrupt_9 : WP P 66 9 lo st w Q ↔ WP P 66 10 lo (.int (xi 0) :: st) w Q := W_iconst rfl rfl rfl
theorem wK_interrupt_10 : WP P 66 10 lo [.int x] w Q ↔ Q (some (.int x)) w := WP_ret rfl rfl
theorem wK_interrupt_11 : WP P 66 11 lo st w Q ↔ x_ga lo[0]? (fun v => WP P 66 12 lo (v :: st) w Q) := W_aload_n rfl rfl rfl
theorem wK_interrupt_12 : WP P 66 12 lo (.ref a :: r) w Q ↔ (x_has w a [0] ∧ WP P 66 15 lo (x_fd w a 3 :: r) w Q) := W_get rfl rfl rfl
theorem wK_interrupt_15 : WP P 66 15 lo st w Q ↔ x_gi lo[1]? (fun x => WP P 66 16 lo (.int x :: st) w Q) := W_iload_n rfl rfl rfl
theorem wK_interrupt_16 {t n : Nat} (h1 : x_tg w a = some (t, n)) (ht : 30 ≤ t) (h2 : ¬ x < 0) (h3 : x.toNatClampNeg < n) : WP P 66 16 lo (.int x :: .ref a :: r) w Q ↔ WP P 66 17 lo (x_fd w a x.toNatClampNeg :: r) w Q := W_aald rfl h1 ht h2 h3 rfl
theorem wK_interrupt_17 : WP P 66 17 lo (.ref a :: r) w Q ↔ (2 < lo.length ∧ WP P 66 18 (lo.set 2 (some (.ref a))) r w Q) := W_astore_n rfl rfl rfl
theorem wK_interrupt_17n : WP P 66 17 lo (.null :: r) w Q ↔ (2 < lo.length ∧ WP P 66 18 (lo.set 2 (some .null)) r w Q) := W_astore_nN rfl rfl rfl
theorem wK_interrupt_18 : WP P 66 18 lo st w Q ↔ x_ga lo[2]? (fun v => WP P 66 19 lo (v :: st) w Q) := W_aload_n rfl rfl rfl
theorem wK_interrupt_19n : WP P 66 19 lo (.null :: r) w Q ↔ WP P 66 22 lo r w Q := W_ifnn_n rfl rfl rfl
theorem wK_interrupt_19 : WP P 66 19 lo (.ref a :: r) w Q ↔ WP P 66 24 lo r w Q := W_ifnn_r rfl rfl
theorem wK_interrupt_22 : WP P 66 22 lo st w Q ↔ WP P 66 23 lo (.int (xi 0) :: st) w Q := W_iconst rfl rfl rfl
theorem wK_interrupt_23 : WP P 66 23 lo [.int x] w Q ↔ Q (some (.int x)) w := WP_ret rfl rfl
theorem wK_interrupt_24 : WP P 66 24 lo st w Q ↔ x_ga lo[0]? (fun v => WP P 66 25 lo (v :: st) w Q) := W_aload_n rfl rfl rfl
theorem wK_interrupt_25 : WP P 66 25 lo st w Q ↔ x_ga lo[2]? (fun v => WP P 66 26 lo (v :: st) w Q) := W_aload_n rfl rfl rfl
theorem wK_interrupt_26 : WP P 66 26 lo st w Q ↔ WP P 66 27 lo (.int (xi 1) :: st) w Q := W_iconst rfl rfl rfl
theorem wK_interrupt_27 : WP P 66 27 lo st w Q ↔ x_gi lo[1]? (fun x => WP P 66 28 lo (.int x :: st) w Q) := W_iload_n rfl rfl rfl
theorem wK_interrupt_28 : WP P 66 28 lo (.int y :: .int x :: r) w Q ↔ WP P 66 29 lo (.int (x <<< (y &&& 31)) :: r) w Q := W_ishl rfl rfl
theorem wK_interrupt_29 {u1 u2 : Value} {b nb : Nat} (hb : x_tg w b = some (0, nb)) (hr : r.length ≤ 8) (hc : ([u1, u2] : List Value).all x_cat1 = true) (hc2 : r.all x_cat1 = true) (k : WP P 55 0 [some (.ref b), some u1, some u2, none] [] w (fun v w1 => WP P 66 32 lo (v.toList ++ r) w1 Q)) : WP P 66 29 lo (u2 :: u1 :: .ref b :: r) w Q := K_virt (as := [u1, u2]) rfl rfl rfl rfl (by decide) (by decide) rfl hb hr hc hc2 k
theorem wK_interrupt_32 : WP P 66 32 lo st w Q ↔ WP P 66 33 lo (.int (xi 1) :: st) w Q := W_iconst rfl rfl rfl
theorem wK_interrupt_33 : WP P 66 33 lo [.int x] w Q ↔ Q (some (.int x)) w := WP_ret rfl rfl
-- 67 K_tick
theorem wK_tick_0 : WP P 67 0 lo st w Q ↔ x_ga lo[0]? (fun v => WP P 67 1 lo (v :: st) w Q) := W_aload_n rfl rfl rfl
theorem wK_tick_1 {b nb : Nat} (hb : x_tg w b = some (0, nb)) (hr : r.length ≤ 8) (hc : ([] : List Value).all x_cat1 = true) (hc2 : r.all x_cat1 = true) (k : WP P 12 0 [some (.ref b), none] [] w (fun v w1 => WP P 67 4 lo (v.toList ++ r) w1 Q)) : WP P 67 1 lo (.ref b :: r) w Q := K_virt (as := []) rfl rfl rfl rfl (by decide) (by decide) rfl hb hr hc hc2 k
theorem wK_tick_4 : WP P 67 4 lo (.ref a :: r) w Q ↔ (1 < lo.length ∧ WP P 67 5 (lo.set 1 (some (.ref a))) r w Q) := W_astore_n rfl rfl rfl
theorem wK_tick_4n : WP P 67 4 lo (.null :: r) w Q ↔ (1 < lo.length ∧ WP P 67 5 (lo.set 1 (some .null)) r w Q) := W_astore_nN rfl rfl rfl
theorem wK_tick_5 : WP P 67 5 lo st w Q ↔ x_ga lo[1]? (fun v => WP P 67 6 lo (v :: st) w Q) := W_aload_n rfl rfl rfl
theorem wK_tick_6n : WP P 67 6 lo (.null :: r) w Q ↔ WP P 67 31 lo r w Q := W_ifnull_n rfl rfl
theorem wK_tick_6 : WP P 67 6 lo (.ref a :: r) w Q ↔ WP P 67 9 lo r w Q := W_ifnull_r rfl rfl rfl
theorem wK_tick_9 : WP P 67 9 lo st w Q ↔ x_ga lo[1]? (fun v => WP P 67 10 lo (v :: st) w Q) := W_aload_n rfl rfl rfl
theorem wK_tick_10 : WP P 67 10 lo (v1 :: r) w Q ↔ (x_cat1 v1 = true ∧ WP P 67 11 lo (v1 :: v1 :: r) w Q) := W_dup rfl rfl
theorem wK_tick_11 : WP P 67 11 lo (.ref a :: r) w Q ↔ (x_has w a [2] ∧ WP P 67 14 lo (x_fd w a 6 :: r) w Q) := W_get rfl rfl rfl
theorem wK_tick_14 : WP P 67 14 lo st w Q ↔ WP P 67 15 lo (.int (xi 1) :: st) w Q := W_iconst rfl rfl rfl
theorem wK_tick_15 : WP P 67 15 lo (.int y :: .int x :: r) w Q ↔ WP P 67 16 lo (.int (x - y) :: r) w Q := W_isub rfl rfl
theorem wK_tick_16 : WP P 67 16 lo (v1 :: .ref a :: r) w Q ↔ ((x_has w a [2] ∧ x_fit 0 v1 = true) ∧ WP P 67 19 lo r (x_put w a 6 v1) Q) := W_put rfl rfl (by decide) rfl
theorem wK_tick_19 : WP P 67 19 lo st w Q ↔ x_ga lo[1]? (fun v => WP P 67 20 lo (v :: st) w Q) := W_aload_n rfl rfl rfl
theorem wK_tick_20 : WP P 67 20 lo (.ref a :: r) w Q ↔ (x_has w a [2] ∧ WP P 67 23 lo (x_fd w a 6 :: r) w Q) := W_get rfl rfl rfl
theorem wK_tick_23 : WP P 67 23 lo (.int x :: r) w Q ↔ (if x = xi 0 then WP P 67 26 lo r w Q else WP P 67 31 lo r w Q) := W_if_ne rfl rfl rfl
theorem wK_tick_26 : WP P 67 26 lo st w Q ↔ x_ga lo[0]? (fun v => WP P 67 27 lo (v :: st) w Q) := W_aload_n rfl rfl rfl
theorem wK_tick_27 : WP P 67 27 lo st w Q ↔ x_ga lo[1]? (fun v => WP P 67 28 lo (v :: st) w Q) := W_aload_n rfl rfl rfl
theorem wK_tick_28 {u1 : Value} {b nb : Nat} (hb : x_tg w b = some (0, nb)) (hr : r.length ≤ 8) (hc : ([u1] : List Value).all x_cat1 = true) (hc2 : r.all x_cat1 = true) (k : WP P 5 0 [some (.ref b), some u1] [] w (fun v w1 => WP P 67 31 lo (v.toList ++ r) w1 Q)) : WP P 67 28 lo (u1 :: .ref b :: r) w Q := K_virt (as := [u1]) rfl rfl rfl rfl (by decide) (by decide) rfl hb hr hc hc2 k
theorem wK_tick_31 : WP P 67 31 lo st w Q ↔ x_ga lo[0]? (fun v => WP P 67 32 lo (v :: st) w Q) := W_aload_n rfl rfl rfl
theorem wK_tick_32 {b nb : Nat} (hb : x_tg w b = some (0, nb)) (hr : r.length ≤ 8) (hc : ([] : List Value).all x_cat1 = true) (hc2 : r.all x_cat1 = true) (k : WP P 12 0 [some (.ref b), none] [] w (fun v w1 => WP P 67 35 lo (v.toList ++ r) w1 Q)) : WP P 67 32 lo (.ref b :: r) w Q := K_virt (as := []) rfl rfl rfl rfl (by decide) (by decide) rfl hb hr hc hc2 k
theorem wK_tick_35 {u1 : Value} (hr : r.length ≤ 8) (hc : ([u1] : List Value).all x_cat1 = true) (hc2 : r.all x_cat1 = true) (k : WP P 68 0 [some u1] [] w (fun v w1 => WP P 67 38 lo (v.toList ++ r) w1 Q)) : WP P 67 35 lo (u1 :: r) w Q := K_stat (as := [u1]) rfl rfl rfl rfl (by decide) (by decide) rfl hr hc hc2 k
theorem wK_tick_38 : WP P 67 38 lo [.int x] w Q ↔ Q (some (.int x)) w := WP_ret rfl rfl
-- 68 K_unitOf
theorem wK_unitOf_0 : WP P 68 0 lo st w Q ↔ x_ga lo[0]? (fun v => WP P 68 1 lo (v :: st) w Q) := W_aload_n rfl rfl rfl
theorem wK_unitOf_1n : WP P 68 1 lo (.null :: r) w Q ↔ WP P 68 4 lo r w Q := W_ifnn_n rfl rfl rfl
theorem wK_unitOf_1 : WP P 68 1 lo (.ref a :: r) w Q ↔ WP P 68 8 lo r w Q := W_ifnn_r rfl rfl
theorem wK_unitOf_4 : WP P 68 4 lo st w Q ↔ WP P 68 5 lo (.int (xi (-1)) :: st) w Q := W_iconst rfl rfl rfl
theorem wK_unitOf_5 : WP P 68 5 lo st w Q ↔ WP P 68 12 lo st w Q := W_goto rfl rfl
theorem wK_unitOf_8 : WP P 68 8 lo st w Q ↔ x_ga lo[0]? (fun v => WP P 68 9 lo (v :: st) w Q) := W_aload_n rfl rfl rfl
theorem wK_unitOf_9 : WP P 68 9 lo (.ref a :: r) w Q ↔ (x_has w a [2, 4, 5, 6, 7, 8, 9, 10] ∧ WP P 68 12 lo (x_fd w a 1 :: r) w Q) := W_get rfl rfl rfl
theorem wK_unitOf_12 : WP P 68 12 lo [.int x] w Q ↔ Q (some (.int x)) w := WP_ret rfl rfl
-- 69 K_current
theorem wK_current_0 : WP P 69 0 lo st w Q ↔ x_ga lo[0]? (fun v => WP P 69 1 lo (v :: st) w Q) := W_aload_n rfl rfl rfl
theorem wK_current_1 {b nb : Nat} (hb : x_tg w b = some (0, nb)) (hr : r.length ≤ 8) (hc : ([] : List Value).all x_cat1 = true) (hc2 : r.all x_cat1 = true) (k : WP P 12 0 [some (.ref b), none] [] w (fun v w1 => WP P 69 4 lo (v.toList ++ r) w1 Q)) : WP P 69 1 lo (.ref b :: r) w Q := K_virt (as := []) rfl rfl rfl rfl (by decide) (by decide) rfl hb hr hc hc2 k
theorem wK_current_4 {u1 : Value} (hr : r.length ≤ 8) (hc : ([u1] : List Value).all x_cat1 = true) (hc2 : r.all x_cat1 = true) (k : WP P 68 0 [some u1] [] w (fun v w1 => WP P 69 7 lo (v.toList ++ r) w1 Q)) : WP P 69 4 lo (u1 :: r) w Q := K_stat (as := [u1]) rfl rfl rfl rfl (by decide) (by decide) rfl hr hc hc2 k
theorem wK_current_7 : WP P 69 7 lo [.int x] w Q ↔ Q (some (.int x)) w := WP_ret rfl rfl
-- 70 K_slot
theorem wK_slot_0 : WP P 70 0 lo st w Q ↔ x_gi lo[1]? (fun x => WP P 70 1 lo (.int x :: st) w Q) := W_iload_n rfl rfl rfl
theorem wK_slot_1 : WP P 70 1 lo (.int x :: r) w Q ↔ (if x < xi 0 then WP P 70 28 lo r w Q else WP P 70 4 lo r w Q) := W_if_lt rfl rfl rfl
theorem wK_slot_4 : WP P 70 4 lo st w Q ↔ x_gi lo[1]? (fun x => WP P 70 5 lo (.int x :: st) w Q) := W_iload_n rfl rfl rfl
theorem wK_slot_5 : WP P 70 5 lo st w Q ↔ WP P 70 8 lo (.int (xi 128) :: st) w Q := W_sipush rfl rfl (by decide)
theorem wK_slot_8 : WP P 70 8 lo (.int y :: .int x :: r) w Q ↔ (if x < y then WP P 70 11 lo r w Q else WP P 70 28 lo r w Q) := W_ic_ge rfl rfl rfl
theorem wK_slot_11 : WP P 70 11 lo st w Q ↔ x_gi lo[1]? (fun x => WP P 70 12 lo (.int x :: st) w Q) := W_iload_n rfl rfl rfl
theorem wK_slot_12 : WP P 70 12 lo st w Q ↔ WP P 70 14 lo (.int (xi 16) :: st) w Q := W_bipush rfl rfl (by decide)
theorem wK_slot_14 : WP P 70 14 lo (.int y :: .int x :: r) w Q ↔ (¬ y = 0 ∧ WP P 70 15 lo (.int (x_rmd x y) :: r) w Q) := W_irem rfl rfl
theorem wK_slot_15 : WP P 70 15 lo (.int x :: r) w Q ↔ (if x = xi 0 then WP P 70 18 lo r w Q else WP P 70 28 lo r w Q) := W_if_ne rfl rfl rfl
theorem wK_slot_18 : WP P 70 18 lo st w Q ↔ x_gi lo[2]? (fun x => WP P 70 19 lo (.int x :: st) w Q) := W_iload_n rfl rfl rfl
theorem wK_slot_19 : WP P 70 19 lo (.int x :: r) w Q ↔ (if x < xi 0 then WP P 70 28 lo r w Q else WP P 70 22 lo r w Q) := W_if_lt rfl rfl rfl
theorem wK_slot_22 : WP P 70 22 lo st w Q ↔ x_gi lo[2]? (fun x => WP P 70 23 lo (.int x :: st) w Q) := W_iload_n rfl rfl rfl
theorem wK_slot_23 : WP P 70 23 lo st w Q ↔ WP P 70 25 lo (.int (xi 16) :: st) w Q := W_bipush rfl rfl (by decide)
theorem wK_slot_25 : WP P 70 25 lo (.int y :: .int x :: r) w Q ↔ (if x < y then WP P 70 30 lo r w Q else WP P 70 28 lo r w Q) := W_ic_lt rfl rfl rfl
theorem wK_slot_28 : WP P 70 28 lo st w Q ↔ WP P 70 29 lo (.int (xi (-1)) :: st) w Q := W_iconst rfl rfl rfl
theorem wK_slot_29 : WP P 70 29 lo [.int x] w Q ↔ Q (some (.int x)) w := WP_ret rfl rfl
theorem wK_slot_30 : WP P 70 30 lo st w Q ↔ x_ga lo[0]? (fun v => WP P 70 31 lo (v :: st) w Q) := W_aload_n rfl rfl rfl
theorem wK_slot_31 : WP P 70 31 lo (.ref a :: r) w Q ↔ (x_has w a [0] ∧ WP P 70 34 lo (x_fd w a 0 :: r) w Q) := W_get rfl rfl rfl
theorem wK_slot_34 : WP P 70 34 lo st w Q ↔ x_gi lo[1]? (fun x => WP P 70 35 lo (.int x :: st) w Q) := W_iload_n rfl rfl rfl
theorem wK_slot_35 : WP P 70 35 lo st w Q ↔ x_gi lo[2]? (fun x => WP P 70 36 lo (.int x :: st) w Q) := W_iload_n rfl rfl rfl
theorem wK_slot_36 : WP P 70 36 lo (.int y :: .int x :: r) w Q ↔ WP P 70 37 lo (.int (x + y) :: r) w Q := W_iadd rfl rfl
theorem wK_slot_37 {t n : Nat} (h1 : x_tg w a = some (t, n)) (ht : 30 ≤ t) (h2 : ¬ x < 0) (h3 : x.toNatClampNeg < n) : WP P 70 37 lo (.int x :: .ref a :: r) w Q ↔ WP P 70 38 lo (x_fd w a x.toNatClampNeg :: r) w Q := W_aald rfl h1 ht h2 h3 rfl
theorem wK_slot_38 : WP P 70 38 lo (.ref a :: r) w Q ↔ (4 < lo.length ∧ WP P 70 40 (lo.set 4 (some (.ref a))) r w Q) := W_astore rfl rfl
theorem wK_slot_38n : WP P 70 38 lo (.null :: r) w Q ↔ (4 < lo.length ∧ WP P 70 40 (lo.set 4 (some .null)) r w Q) := W_astoreN rfl rfl
theorem wK_slot_40 : WP P 70 40 lo st w Q ↔ x_ga lo[4]? (fun v => WP P 70 42 lo (v :: st) w Q) := W_aload rfl rfl
theorem wK_slot_42n : WP P 70 42 lo (.null :: r) w Q ↔ WP P 70 45 lo r w Q := W_ifnn_n rfl rfl rfl
theorem wK_slot_42 : WP P 70 42 lo (.ref a :: r) w Q ↔ WP P 70 47 lo r w Q := W_ifnn_r rfl rfl
theorem wK_slot_45 : WP P 70 45 lo st w Q ↔ WP P 70 46 lo (.int (xi (-1)) :: st) w Q := W_iconst rfl rfl rfl
theorem wK_slot_46 : WP P 70 46 lo [.int x] w Q ↔ Q (some (.int x)) w := WP_ret rfl rfl
theorem wK_slot_47 : WP P 70 47 lo st w Q ↔ x_gi lo[3]? (fun x => WP P 70 48 lo (.int x :: st) w Q) := W_iload_n rfl rfl rfl
-- tsw wK_slot_48
theorem wK_slot_96 : WP P 70 96 lo st w Q ↔ x_ga lo[4]? (fun v => WP P 70 98 lo (v :: st) w Q) := W_aload rfl rfl
theorem wK_slot_98 : WP P 70 98 lo (.ref a :: r) w Q ↔ (x_has w a [1] ∧ WP P 70 101 lo (x_fd w a 0 :: r) w Q) := W_get rfl rfl rfl
theorem wK_slot_101 : WP P 70 101 lo (.ref a :: r) w Q ↔ (x_has w a [2, 4, 5, 6, 7, 8, 9, 10] ∧ WP P 70 104 lo (x_fd w a 0 :: r) w Q) := W_get rfl rfl rfl
theorem wK_slot_104 : WP P 70 104 lo [.int x] w Q ↔ Q (some (.int x)) w := WP_ret rfl rfl
theorem wK_slot_105 : WP P 70 105 lo st w Q ↔ x_ga lo[4]? (fun v => WP P 70 107 lo (v :: st) w Q) := W_aload rfl rfl
theorem wK_slot_107 : WP P 70 107 lo (.ref a :: r) w Q ↔ (x_has w a [1] ∧ WP P 70 110 lo (x_fd w a 0 :: r) w Q) := W_get rfl rfl rfl
theorem wK_slot_110 : WP P 70 110 lo (.ref a :: r) w Q ↔ (x_has w a [2, 4, 5, 6, 7, 8, 9, 10] ∧ WP P 70 113 lo (x_fd w a 1 :: r) w Q) := W_get rfl rfl rfl
theorem wK_slot_113 : WP P 70 113 lo [.int x] w Q ↔ Q (some (.int x)) w := WP_ret rfl rfl
theorem wK_slot_114 : WP P 70 114 lo st w Q ↔ x_ga lo[4]? (fun v => WP P 70 116 lo (v :: st) w Q) := W_aload rfl rfl
theorem wK_slot_116 : WP P 70 116 lo (.ref a :: r) w Q ↔ (x_has w a [1] ∧ WP P 70 119 lo (x_fd w a 1 :: r) w Q) := W_get rfl rfl rfl
theorem wK_slot_119 : WP P 70 119 lo [.int x] w Q ↔ Q (some (.int x)) w := WP_ret rfl rfl
theorem wK_slot_120 : WP P 70 120 lo st w Q ↔ x_ga lo[4]? (fun v => WP P 70 122 lo (v :: st) w Q) := W_aload rfl rfl
theorem wK_slot_122 : WP P 70 122 lo (.ref a :: r) w Q ↔ (x_has w a [1] ∧ WP P 70 125 lo (x_fd w a 2 :: r) w Q) := W_get rfl rfl rfl
theorem wK_slot_125 : WP P 70 125 lo [.int x] w Q ↔ Q (some (.int x)) w := WP_ret rfl rfl
theorem wK_slot_126 : WP P 70 126 lo st w Q ↔ x_ga lo[0]? (fun v => WP P 70 127 lo (v :: st) w Q) := W_aload_n rfl rfl rfl
theorem wK_slot_127 : WP P 70 127 lo st w Q ↔ x_ga lo[4]? (fun v => WP P 70 129 lo (v :: st) w Q) := W_aload rfl rfl
theorem wK_slot_129 {u1 : Value} {b nb : Nat} (hb : x_tg w b = some (0, nb)) (hr : r.length ≤ 8) (hc : ([u1] : List Value).all x_cat1 = true) (hc2 : r.all x_cat1 = true) (k : WP P 17 0 [some (.ref b), some u1, none, none, none] [] w (fun v w1 => WP P 70 132 lo (v.toList ++ r) w1 Q)) : WP P 70 129 lo (u1 :: .ref b :: r) w Q := K_virt (as := [u1]) rfl rfl rfl rfl (by decide) (by decide) rfl hb hr hc hc2 k
theorem wK_slot_132 : WP P 70 132 lo [.int x] w Q ↔ Q (some (.int x)) w := WP_ret rfl rfl
theorem wK_slot_133 : WP P 70 133 lo st w Q ↔ x_ga lo[4]? (fun v => WP P 70 135 lo (v :: st) w Q) := W_aload rfl rfl
theorem wK_slot_135 : WP P 70 135 lo (.ref a :: r) w Q ↔ (x_has w a [1] ∧ WP P 70 138 lo (x_fd w a 3 :: r) w Q) := W_get rfl rfl rfl
theorem wK_slot_138 {u1 : Value} (hr : r.length ≤ 8) (hc : ([u1] : List Value).all x_cat1 = true) (hc2 : r.all x_cat1 = true) (k : WP P 71 0 [some u1, none] [] w (fun v w1 => WP P 70 141 lo (v.toList ++ r) w1 Q)) : WP P 70 138 lo (u1 :: r) w Q := K_stat (as := [u1]) rfl rfl rfl rfl (by decide) (by decide) rfl hr hc hc2 k
theorem wK_slot_141 : WP P 70 141 lo [.int x] w Q ↔ Q (some (.int x)) w := WP_ret rfl rfl
theorem wK_slot_142 : WP P 70 142 lo st w Q ↔ x_ga lo[0]? (fun v => WP P 70 143 lo (v :: st) w Q) := W_aload_n rfl rfl rfl
theorem wK_slot_143 : WP P 70 143 lo st w Q ↔ x_ga lo[4]? (fun v => WP P 70 145 lo (v :: st) w Q) := W_aload rfl rfl
theorem wK_slot_145 {u1 : Value} {b nb : Nat} (hb : x_tg w b = some (0, nb)) (hr : r.length ≤ 8) (hc : ([u1] : List Value).all x_cat1 = true) (hc2 : r.all x_cat1 = true) (k : WP P 72 0 [some (.ref b), some u1, none, none] [] w (fun v w1 => WP P 70 148 lo (v.toList ++ r) w1 Q)) : WP P 70 145 lo (u1 :: .ref b :: r) w Q := K_virt (as := [u1]) rfl rfl rfl rfl (by decide) (by decide) rfl hb hr hc hc2 k
theorem wK_slot_148 : WP P 70 148 lo [.int x] w Q ↔ Q (some (.int x)) w := WP_ret rfl rfl
theorem wK_slot_149 : WP P 70 149 lo st w Q ↔ x_ga lo[0]? (fun v => WP P 70 150 lo (v :: st) w Q) := W_aload_n rfl rfl rfl
theorem wK_slot_150 : WP P 70 150 lo st w Q ↔ x_ga lo[4]? (fun v => WP P 70 152 lo (v :: st) w Q) := W_aload rfl rfl
theorem wK_slot_152 : WP P 70 152 lo (.ref a :: r) w Q ↔ (x_has w a [1] ∧ WP P 70 155 lo (x_fd w a 0 :: r) w Q) := W_get rfl rfl rfl
theorem wK_slot_155 {u1 : Value} {b nb : Nat} (hb : x_tg w b = some (0, nb)) (hr : r.length ≤ 8) (hc : ([u1] : List Value).all x_cat1 = true) (hc2 : r.all x_cat1 = true) (k : WP P 31 0 [some (.ref b), some u1, none, none, none] [] w (fun v w1 => WP P 70 158 lo (v.toList ++ r) w1 Q)) : WP P 70 155 lo (u1 :: .ref b :: r) w Q := K_virt (as := [u1]) rfl rfl rfl rfl (by decide) (by decide) rfl hb hr hc hc2 k
theorem wK_slot_158 : WP P 70 158 lo [.int x] w Q ↔ Q (some (.int x)) w := WP_ret rfl rfl
theorem wK_slot_159 : WP P 70 159 lo st w Q ↔ WP P 70 160 lo (.int (xi (-1)) :: st) w Q := W_iconst rfl rfl rfl
theorem wK_slot_160 : WP P 70 160 lo [.int x] w Q ↔ Q (some (.int x)) w := WP_ret rfl rfl
-- 71 K_whereIs
theorem wK_whereIs_0 : WP P 71 0 lo st w Q ↔ x_ga lo[0]? (fun v => WP P 71 1 lo (v :: st) w Q) := W_aload_n rfl rfl rfl
theorem wK_whereIs_1n : WP P 71 1 lo (.null :: r) w Q ↔ WP P 71 4 lo r w Q := W_ifnn_n rfl rfl rfl
theorem wK_whereIs_1 : WP P 71 1 lo (.ref a :: r) w Q ↔ WP P 71 6 lo r w Q := W_ifnn_r rfl rfl
theorem wK_whereIs_4 : WP P 71 4 lo st w Q ↔ WP P 71 5 lo (.int (xi (-1)) :: st) w Q := W_iconst rfl rfl rfl
theorem wK_whereIs_5 : WP P 71 5 lo [.int x] w Q ↔ Q (some (.int x)) w := WP_ret rfl rfl
theorem wK_whereIs_6 : WP P 71 6 lo st w Q ↔ x_ga lo[0]? (fun v => WP P 71 7 lo (v :: st) w Q) := W_aload_n rfl rfl rfl
theorem wK_whereIs_7 : WP P 71 7 lo (.ref a :: r) w Q ↔ (x_has w a [1] ∧ WP P 71 10 lo (x_fd w a 4 :: r) w Q) := W_get rfl rfl rfl
theorem wK_whereIs_10 : WP P 71 10 lo st w Q ↔ WP P 71 12 lo (.int (xi 16) :: st) w Q := W_bipush rfl rfl (by decide)
theorem wK_whereIs_12 : WP P 71 12 lo (.int y :: .int x :: r) w Q ↔ (¬ y = 0 ∧ WP P 71 13 lo (.int (x_rmd x y) :: r) w Q) := W_irem rfl rfl
theorem wK_whereIs_13 : WP P 71 13 lo (.int x :: r) w Q ↔ (1 < lo.length ∧ WP P 71 14 (lo.set 1 (some (.int x))) r w Q) := W_istore_n rfl rfl rfl
theorem wK_whereIs_14 : WP P 71 14 lo st w Q ↔ WP P 71 16 lo (.int (xi 16) :: st) w Q := W_bipush rfl rfl (by decide)
theorem wK_whereIs_16 : WP P 71 16 lo st w Q ↔ x_ga lo[0]? (fun v => WP P 71 17 lo (v :: st) w Q) := W_aload_n rfl rfl rfl
theorem wK_whereIs_17 : WP P 71 17 lo (.ref a :: r) w Q ↔ (x_has w a [1] ∧ WP P 71 20 lo (x_fd w a 4 :: r) w Q) := W_get rfl rfl rfl
theorem wK_whereIs_20 : WP P 71 20 lo st w Q ↔ x_gi lo[1]? (fun x => WP P 71 21 lo (.int x :: st) w Q) := W_iload_n rfl rfl rfl
theorem wK_whereIs_21 : WP P 71 21 lo (.int y :: .int x :: r) w Q ↔ WP P 71 22 lo (.int (x - y) :: r) w Q := W_isub rfl rfl
theorem wK_whereIs_22 : WP P 71 22 lo (.int y :: .int x :: r) w Q ↔ WP P 71 23 lo (.int (x * y) :: r) w Q := W_imul rfl rfl
theorem wK_whereIs_23 : WP P 71 23 lo st w Q ↔ x_gi lo[1]? (fun x => WP P 71 24 lo (.int x :: st) w Q) := W_iload_n rfl rfl rfl
theorem wK_whereIs_24 : WP P 71 24 lo (.int y :: .int x :: r) w Q ↔ WP P 71 25 lo (.int (x + y) :: r) w Q := W_iadd rfl rfl
theorem wK_whereIs_25 : WP P 71 25 lo [.int x] w Q ↔ Q (some (.int x)) w := WP_ret rfl rfl
-- 72 K_useOf
theorem wK_useOf_0 : WP P 72 0 lo st w Q ↔ x_ga lo[1]? (fun v => WP P 72 1 lo (v :: st) w Q) := W_aload_n rfl rfl rfl
theorem wK_useOf_1 : WP P 72 1 lo (.ref a :: r) w Q ↔ (x_has w a [1] ∧ WP P 72 4 lo (x_fd w a 0 :: r) w Q) := W_get rfl rfl rfl
theorem wK_useOf_4 : WP P 72 4 lo (.ref a :: r) w Q ↔ (3 < lo.length ∧ WP P 72 5 (lo.set 3 (some (.ref a))) r w Q) := W_astore_n rfl rfl rfl
theorem wK_useOf_4n : WP P 72 4 lo (.null :: r) w Q ↔ (3 < lo.length ∧ WP P 72 5 (lo.set 3 (some .null)) r w Q) := W_astore_nN rfl rfl rfl
theorem wK_useOf_5 : WP P 72 5 lo st w Q ↔ x_ga lo[3]? (fun v => WP P 72 6 lo (v :: st) w Q) := W_aload_n rfl rfl rfl
theorem wK_useOf_6n : WP P 72 6 lo (.null :: r) w Q ↔ WP P 72 9 lo (.int (xi 0) :: r) w Q := W_inst_n rfl rfl
theorem wK_useOf_6 {t n : Nat} (h1 : x_tg w a = some (t, n)) (ht : t ∈ x_things) : WP P 72 6 lo (.ref a :: r) w Q ↔ WP P 72 9 lo (.int (if t = 4 then xi 1 else xi 0) :: r) w Q := W_inst rfl rfl h1 ht rfl
theorem wK_useOf_9 : WP P 72 9 lo (.int x :: r) w Q ↔ (if x = xi 0 then WP P 72 24 lo r w Q else WP P 72 12 lo r w Q) := W_if_eq rfl rfl rfl
theorem wK_useOf_12 : WP P 72 12 lo st w Q ↔ x_ga lo[3]? (fun v => WP P 72 13 lo (v :: st) w Q) := W_aload_n rfl rfl rfl
theorem wK_useOf_13 {n : Nat} (h1 : x_tg w a = some (4, n)) : WP P 72 13 lo (.ref a :: r) w Q ↔ WP P 72 16 lo (.ref a :: r) w Q := W_cast rfl h1 rfl rfl
theorem wK_useOf_16 : WP P 72 16 lo (.ref a :: r) w Q ↔ (2 < lo.length ∧ WP P 72 17 (lo.set 2 (some (.ref a))) r w Q) := W_astore_n rfl rfl rfl
theorem wK_useOf_16n : WP P 72 16 lo (.null :: r) w Q ↔ (2 < lo.length ∧ WP P 72 17 (lo.set 2 (some .null)) r w Q) := W_astore_nN rfl rfl rfl
theorem wK_useOf_17 : WP P 72 17 lo st w Q ↔ x_ga lo[0]? (fun v => WP P 72 18 lo (v :: st) w Q) := W_aload_n rfl rfl rfl
theorem wK_useOf_18 : WP P 72 18 lo st w Q ↔ x_ga lo[1]? (fun v => WP P 72 19 lo (v :: st) w Q) := W_aload_n rfl rfl rfl
theorem wK_useOf_19 : WP P 72 19 lo st w Q ↔ x_ga lo[2]? (fun v => WP P 72 20 lo (v :: st) w Q) := W_aload_n rfl rfl rfl
theorem wK_useOf_20 {u1 u2 : Value} {b nb : Nat} (hb : x_tg w b = some (0, nb)) (hr : r.length ≤ 8) (hc : ([u1, u2] : List Value).all x_cat1 = true) (hc2 : r.all x_cat1 = true) (k : WP P 16 0 [some (.ref b), some u1, some u2] [] w (fun v w1 => WP P 72 23 lo (v.toList ++ r) w1 Q)) : WP P 72 20 lo (u2 :: u1 :: .ref b :: r) w Q := K_virt (as := [u1, u2]) rfl rfl rfl rfl (by decide) (by decide) rfl hb hr hc hc2 k
theorem wK_useOf_23 : WP P 72 23 lo [.int x] w Q ↔ Q (some (.int x)) w := WP_ret rfl rfl
theorem wK_useOf_24 : WP P 72 24 lo st w Q ↔ x_ga lo[1]? (fun v => WP P 72 25 lo (v :: st) w Q) := W_aload_n rfl rfl rfl
theorem wK_useOf_25 {u1 : Value} (hr : r.length ≤ 8) (hc : ([u1] : List Value).all x_cat1 = true) (hc2 : r.all x_cat1 = true) (k : WP P 63 0 [some u1, none, none] [] w (fun v w1 => WP P 72 28 lo (v.toList ++ r) w1 Q)) : WP P 72 25 lo (u1 :: r) w Q := K_stat (as := [u1]) rfl rfl rfl rfl (by decide) (by decide) rfl hr hc hc2 k
theorem wK_useOf_28 : WP P 72 28 lo (.int x :: r) w Q ↔ (if x = xi 0 then WP P 72 35 lo r w Q else WP P 72 31 lo r w Q) := W_if_eq rfl rfl rfl
theorem wK_useOf_31 : WP P 72 31 lo st w Q ↔ WP P 72 32 lo (.int (xi 1) :: st) w Q := W_iconst rfl rfl rfl
theorem wK_useOf_32 : WP P 72 32 lo st w Q ↔ WP P 72 36 lo st w Q := W_goto rfl rfl
theorem wK_useOf_35 : WP P 72 35 lo st w Q ↔ WP P 72 36 lo (.int (xi 0) :: st) w Q := W_iconst rfl rfl rfl
theorem wK_useOf_36 : WP P 72 36 lo [.int x] w Q ↔ Q (some (.int x)) w := WP_ret rfl rfl
-- 73 K_thread
theorem wK_thread_0 : WP P 73 0 lo st w Q ↔ x_ga lo[0]? (fun v => WP P 73 1 lo (v :: st) w Q) := W_aload_n rfl rfl rfl
theorem wK_thread_1 : WP P 73 1 lo st w Q ↔ x_gi lo[1]? (fun x => WP P 73 2 lo (.int x :: st) w Q) := W_iload_n rfl rfl rfl
theorem wK_thread_2 {u1 : Value} {b nb : Nat} (hb : x_tg w b = some (0, nb)) (hr : r.length ≤ 8) (hc : ([u1] : List Value).all x_cat1 = true) (hc2 : r.all x_cat1 = true) (k : WP P 74 0 [some (.ref b), some u1] [] w (fun v w1 => WP P 73 5 lo (v.toList ++ r) w1 Q)) : WP P 73 2 lo (u1 :: .ref b :: r) w Q := K_virt (as := [u1]) rfl rfl rfl rfl (by decide) (by decide) rfl hb hr hc hc2 k
theorem wK_thread_5 : WP P 73 5 lo (.ref a :: r) w Q ↔ (3 < lo.length ∧ WP P 73 6 (lo.set 3 (some (.ref a))) r w Q) := W_astore_n rfl rfl rfl
theorem wK_thread_5n : WP P 73 5 lo (.null :: r) w Q ↔ (3 < lo.length ∧ WP P 73 6 (lo.set 3 (some .null)) r w Q) := W_astore_nN rfl rfl rfl
theorem wK_thread_6 : WP P 73 6 lo st w Q ↔ x_ga lo[3]? (fun v => WP P 73 7 lo (v :: st) w Q) := W_aload_n rfl rfl rfl
theorem wK_thread_7n : WP P 73 7 lo (.null :: r) w Q ↔ WP P 73 10 lo r w Q := W_ifnn_n rfl rfl rfl
theorem wK_thread_7 : WP P 73 7 lo (.ref a :: r) w Q ↔ WP P 73 12 lo r w Q := W_ifnn_r rfl rfl
theorem wK_thread_10 : WP P 73 10 lo st w Q ↔ WP P 73 11 lo (.int (xi (-1)) :: st) w Q := W_iconst rfl rfl rfl
theorem wK_thread_11 : WP P 73 11 lo [.int x] w Q ↔ Q (some (.int x)) w := WP_ret rfl rfl
theorem wK_thread_12 : WP P 73 12 lo st w Q ↔ x_gi lo[2]? (fun x => WP P 73 13 lo (.int x :: st) w Q) := W_iload_n rfl rfl rfl
-- tsw wK_thread_13
theorem wK_thread_60 : WP P 73 60 lo st w Q ↔ x_ga lo[3]? (fun v => WP P 73 61 lo (v :: st) w Q) := W_aload_n rfl rfl rfl
theorem wK_thread_61 : WP P 73 61 lo (.ref a :: r) w Q ↔ (x_has w a [2] ∧ WP P 73 64 lo (x_fd w a 5 :: r) w Q) := W_get rfl rfl rfl
theorem wK_thread_64 : WP P 73 64 lo [.int x] w Q ↔ Q (some (.int x)) w := WP_ret rfl rfl
theorem wK_thread_65 : WP P 73 65 lo st w Q ↔ x_ga lo[3]? (fun v => WP P 73 66 lo (v :: st) w Q) := W_aload_n rfl rfl rfl
theorem wK_thread_66 : WP P 73 66 lo (.ref a :: r) w Q ↔ (x_has w a [2] ∧ WP P 73 69 lo (x_fd w a 4 :: r) w Q) := W_get rfl rfl rfl
theorem wK_thread_69 : WP P 73 69 lo [.int x] w Q ↔ Q (some (.int x)) w := WP_ret rfl rfl
theorem wK_thread_70 : WP P 73 70 lo st w Q ↔ x_ga lo[3]? (fun v => WP P 73 71 lo (v :: st) w Q) := W_aload_n rfl rfl rfl
theorem wK_thread_71 : WP P 73 71 lo (.ref a :: r) w Q ↔ (x_has w a [2] ∧ WP P 73 74 lo (x_fd w a 7 :: r) w Q) := W_get rfl rfl rfl
theorem wK_thread_74 : WP P 73 74 lo [.int x] w Q ↔ Q (some (.int x)) w := WP_ret rfl rfl
theorem wK_thread_75 : WP P 73 75 lo st w Q ↔ x_ga lo[3]? (fun v => WP P 73 76 lo (v :: st) w Q) := W_aload_n rfl rfl rfl
theorem wK_thread_76 : WP P 73 76 lo (.ref a :: r) w Q ↔ (x_has w a [2] ∧ WP P 73 79 lo (x_fd w a 8 :: r) w Q) := W_get rfl rfl rfl
theorem wK_thread_79 : WP P 73 79 lo [.int x] w Q ↔ Q (some (.int x)) w := WP_ret rfl rfl
theorem wK_thread_80 : WP P 73 80 lo st w Q ↔ x_ga lo[3]? (fun v => WP P 73 81 lo (v :: st) w Q) := W_aload_n rfl rfl rfl
theorem wK_thread_81 : WP P 73 81 lo (.ref a :: r) w Q ↔ (x_has w a [2] ∧ WP P 73 84 lo (x_fd w a 9 :: r) w Q) := W_get rfl rfl rfl
theorem wK_thread_84 : WP P 73 84 lo [.int x] w Q ↔ Q (some (.int x)) w := WP_ret rfl rfl
theorem wK_thread_85 : WP P 73 85 lo st w Q ↔ x_ga lo[3]? (fun v => WP P 73 86 lo (v :: st) w Q) := W_aload_n rfl rfl rfl
theorem wK_thread_86 : WP P 73 86 lo (.ref a :: r) w Q ↔ (x_has w a [2] ∧ WP P 73 89 lo (x_fd w a 6 :: r) w Q) := W_get rfl rfl rfl
theorem wK_thread_89 : WP P 73 89 lo [.int x] w Q ↔ Q (some (.int x)) w := WP_ret rfl rfl
theorem wK_thread_90 : WP P 73 90 lo st w Q ↔ x_ga lo[3]? (fun v => WP P 73 91 lo (v :: st) w Q) := W_aload_n rfl rfl rfl
theorem wK_thread_91 : WP P 73 91 lo (.ref a :: r) w Q ↔ (x_has w a [2] ∧ WP P 73 94 lo (x_fd w a 2 :: r) w Q) := W_get rfl rfl rfl
theorem wK_thread_94 {u1 : Value} (hr : r.length ≤ 8) (hc : ([u1] : List Value).all x_cat1 = true) (hc2 : r.all x_cat1 = true) (k : WP P 68 0 [some u1] [] w (fun v w1 => WP P 73 97 lo (v.toList ++ r) w1 Q)) : WP P 73 94 lo (u1 :: r) w Q := K_stat (as := [u1]) rfl rfl rfl rfl (by decide) (by decide) rfl hr hc hc2 k
theorem wK_thread_97 : WP P 73 97 lo [.int x] w Q ↔ Q (some (.int x)) w := WP_ret rfl rfl
theorem wK_thread_98 : WP P 73 98 lo st w Q ↔ x_ga lo[3]? (fun v => WP P 73 99 lo (v :: st) w Q) := W_aload_n rfl rfl rfl
theorem wK_thread_99 : WP P 73 99 lo (.ref a :: r) w Q ↔ (x_has w a [2] ∧ WP P 73 102 lo (x_fd w a 3 :: r) w Q) := W_get rfl rfl rfl
theorem wK_thread_102 {u1 : Value} (hr : r.length ≤ 8) (hc : ([u1] : List Value).all x_cat1 = true) (hc2 : r.all x_cat1 = true) (k : WP P 68 0 [some u1] [] w (fun v w1 => WP P 73 105 lo (v.toList ++ r) w1 Q)) : WP P 73 102 lo (u1 :: r) w Q := K_stat (as := [u1]) rfl rfl rfl rfl (by decide) (by decide) rfl hr hc hc2 k
theorem wK_thread_105 : WP P 73 105 lo [.int x] w Q ↔ Q (some (.int x)) w := WP_ret rfl rfl
theorem wK_thread_106 : WP P 73 106 lo st w Q ↔ WP P 73 107 lo (.int (xi (-1)) :: st) w Q := W_iconst rfl rfl rfl
theorem wK_thread_107 : WP P 73 107 lo [.int x] w Q ↔ Q (some (.int x)) w := WP_ret rfl rfl
-- 74 K_threadOfUnit
theorem wK_threadOfUnit_0 : WP P 74 0 lo st w Q ↔ x_gi lo[1]? (fun x => WP P 74 1 lo (.int x :: st) w Q) := W_iload_n rfl rfl rfl
theorem wK_threadOfUnit_1 : WP P 74 1 lo (.int x :: r) w Q ↔ (if x < xi 0 then WP P 74 18 lo r w Q else WP P 74 4 lo r w Q) := W_if_lt rfl rfl rfl
theorem wK_threadOfUnit_4 : WP P 74 4 lo st w Q ↔ x_gi lo[1]? (fun x => WP P 74 5 lo (.int x :: st) w Q) := W_iload_n rfl rfl rfl
theorem wK_threadOfUnit_5 : WP P 74 5 lo st w Q ↔ WP P 74 8 lo (.int (xi 128) :: st) w Q := W_sipush rfl rfl (by decide)
theorem wK_threadOfUnit_8 : WP P 74 8 lo (.int y :: .int x :: r) w Q ↔ (if x < y then WP P 74 11 lo r w Q else WP P 74 18 lo r w Q) := W_ic_ge rfl rfl rfl
theorem wK_threadOfUnit_11 : WP P 74 11 lo st w Q ↔ x_gi lo[1]? (fun x => WP P 74 12 lo (.int x :: st) w Q) := W_iload_n rfl rfl rfl
theorem wK_threadOfUnit_12 : WP P 74 12 lo st w Q ↔ WP P 74 14 lo (.int (xi 8) :: st) w Q := W_bipush rfl rfl (by decide)
theorem wK_threadOfUnit_14 : WP P 74 14 lo (.int y :: .int x :: r) w Q ↔ (¬ y = 0 ∧ WP P 74 15 lo (.int (x_rmd x y) :: r) w Q) := W_irem rfl rfl
theorem wK_threadOfUnit_15 : WP P 74 15 lo (.int x :: r) w Q ↔ (if x = xi 0 then WP P 74 20 lo r w Q else WP P 74 18 lo r w Q) := W_if_eq rfl rfl rfl
theorem wK_threadOfUnit_18 : WP P 74 18 lo st w Q ↔ WP P 74 19 lo (.null :: st) w Q := W_null rfl rfl
theorem wK_threadOfUnit_19n : WP P 74 19 lo [.null] w Q ↔ Q (some .null) w := WP_ret rfl rfl
theorem wK_threadOfUnit_19 : WP P 74 19 lo [.ref a] w Q ↔ Q (some (.ref a)) w := WP_ret rfl rfl
theorem wK_threadOfUnit_20 : WP P 74 20 lo st w Q ↔ x_ga lo[0]? (fun v => WP P 74 21 lo (v :: st) w Q) := W_aload_n rfl rfl rfl
theorem wK_threadOfUnit_21 : WP P 74 21 lo (.ref a :: r) w Q ↔ (x_has w a [0] ∧ WP P 74 24 lo (x_fd w a 1 :: r) w Q) := W_get rfl rfl rfl
theorem wK_threadOfUnit_24 : WP P 74 24 lo st w Q ↔ x_gi lo[1]? (fun x => WP P 74 25 lo (.int x :: st) w Q) := W_iload_n rfl rfl rfl
theorem wK_threadOfUnit_25 : WP P 74 25 lo st w Q ↔ WP P 74 27 lo (.int (xi 8) :: st) w Q := W_bipush rfl rfl (by decide)
theorem wK_threadOfUnit_27 : WP P 74 27 lo (.int y :: .int x :: r) w Q ↔ (¬ y = 0 ∧ WP P 74 28 lo (.int (x / y) :: r) w Q) := W_idiv rfl rfl
theorem wK_threadOfUnit_28 {t n : Nat} (h1 : x_tg w a = some (t, n)) (ht : 30 ≤ t) (h2 : ¬ x < 0) (h3 : x.toNatClampNeg < n) : WP P 74 28 lo (.int x :: .ref a :: r) w Q ↔ WP P 74 29 lo (x_fd w a x.toNatClampNeg :: r) w Q := W_aald rfl h1 ht h2 h3 rfl
theorem wK_threadOfUnit_29n : WP P 74 29 lo [.null] w Q ↔ Q (some .null) w := WP_ret rfl rfl
theorem wK_threadOfUnit_29 : WP P 74 29 lo [.ref a] w Q ↔ Q (some (.ref a)) w := WP_ret rfl rfl
-- 75 K_page
theorem wK_page_0 : WP P 75 0 lo st w Q ↔ x_ga lo[0]? (fun v => WP P 75 1 lo (v :: st) w Q) := W_aload_n rfl rfl rfl
theorem wK_page_1 : WP P 75 1 lo st w Q ↔ x_gi lo[1]? (fun x => WP P 75 2 lo (.int x :: st) w Q) := W_iload_n rfl rfl rfl
theorem wK_page_2 {u1 : Value} {b nb : Nat} (hb : x_tg w b = some (0, nb)) (hr : r.length ≤ 8) (hc : ([u1] : List Value).all x_cat1 = true) (hc2 : r.all x_cat1 = true) (k : WP P 74 0 [some (.ref b), some u1] [] w (fun v w1 => WP P 75 5 lo (v.toList ++ r) w1 Q)) : WP P 75 2 lo (u1 :: .ref b :: r) w Q := K_virt (as := [u1]) rfl rfl rfl rfl (by decide) (by decide) rfl hb hr hc hc2 k
theorem wK_page_5 : WP P 75 5 lo (.ref a :: r) w Q ↔ (3 < lo.length ∧ WP P 75 6 (lo.set 3 (some (.ref a))) r w Q) := W_astore_n rfl rfl rfl
theorem wK_page_5n : WP P 75 5 lo (.null :: r) w Q ↔ (3 < lo.length ∧ WP P 75 6 (lo.set 3 (some .null)) r w Q) := W_astore_nN rfl rfl rfl
theorem wK_page_6 : WP P 75 6 lo st w Q ↔ x_ga lo[3]? (fun v => WP P 75 7 lo (v :: st) w Q) := W_aload_n rfl rfl rfl
theorem wK_page_7n : WP P 75 7 lo (.null :: r) w Q ↔ WP P 75 27 lo r w Q := W_ifnull_n rfl rfl
theorem wK_page_7 : WP P 75 7 lo (.ref a :: r) w Q ↔ WP P 75 10 lo r w Q := W_ifnull_r rfl rfl rfl
theorem wK_page_10 : WP P 75 10 lo st w Q ↔ x_ga lo[3]? (fun v => WP P 75 11 lo (v :: st) w Q) := W_aload_n rfl rfl rfl
theorem wK_page_11 : WP P 75 11 lo (.ref a :: r) w Q ↔ (x_has w a [2] ∧ WP P 75 14 lo (x_fd w a 3 :: r) w Q) := W_get rfl rfl rfl
theorem wK_page_14n : WP P 75 14 lo (.null :: r) w Q ↔ WP P 75 27 lo r w Q := W_ifnull_n rfl rfl
theorem wK_page_14 : WP P 75 14 lo (.ref a :: r) w Q ↔ WP P 75 17 lo r w Q := W_ifnull_r rfl rfl rfl
theorem wK_page_17 : WP P 75 17 lo st w Q ↔ x_gi lo[2]? (fun x => WP P 75 18 lo (.int x :: st) w Q) := W_iload_n rfl rfl rfl
theorem wK_page_18 : WP P 75 18 lo (.int x :: r) w Q ↔ (if x < xi 0 then WP P 75 27 lo r w Q else WP P 75 21 lo r w Q) := W_if_lt rfl rfl rfl
theorem wK_page_21 : WP P 75 21 lo st w Q ↔ x_gi lo[2]? (fun x => WP P 75 22 lo (.int x :: st) w Q) := W_iload_n rfl rfl rfl
theorem wK_page_22 : WP P 75 22 lo st w Q ↔ WP P 75 24 lo (.int (xi 16) :: st) w Q := W_bipush rfl rfl (by decide)
theorem wK_page_24 : WP P 75 24 lo (.int y :: .int x :: r) w Q ↔ (if x < y then WP P 75 29 lo r w Q else WP P 75 27 lo r w Q) := W_ic_lt rfl rfl rfl
theorem wK_page_27 : WP P 75 27 lo st w Q ↔ WP P 75 28 lo (.int (xi (-1)) :: st) w Q := W_iconst rfl rfl rfl
theorem wK_page_28 : WP P 75 28 lo [.int x] w Q ↔ Q (some (.int x)) w := WP_ret rfl rfl
theorem wK_page_29 : WP P 75 29 lo st w Q ↔ x_ga lo[3]? (fun v => WP P 75 30 lo (v :: st) w Q) := W_aload_n rfl rfl rfl
theorem wK_page_30 : WP P 75 30 lo (.ref a :: r) w Q ↔ (x_has w a [2] ∧ WP P 75 33 lo (x_fd w a 3 :: r) w Q) := W_get rfl rfl rfl
theorem wK_page_33 : WP P 75 33 lo (.ref a :: r) w Q ↔ (x_has w a [8] ∧ WP P 75 36 lo (x_fd w a 2 :: r) w Q) := W_get rfl rfl rfl
theorem wK_page_36 : WP P 75 36 lo st w Q ↔ x_gi lo[2]? (fun x => WP P 75 37 lo (.int x :: st) w Q) := W_iload_n rfl rfl rfl
theorem wK_page_37 : WP P 75 37 lo st w Q ↔ WP P 75 38 lo (.int (xi 4) :: st) w Q := W_iconst rfl rfl rfl
theorem wK_page_38 : WP P 75 38 lo (.int y :: .int x :: r) w Q ↔ (¬ y = 0 ∧ WP P 75 39 lo (.int (x / y) :: r) w Q) := W_idiv rfl rfl
theorem wK_page_39 {t n : Nat} (h1 : x_tg w a = some (t, n)) (ht : 30 ≤ t) (h2 : ¬ x < 0) (h3 : x.toNatClampNeg < n) : WP P 75 39 lo (.int x :: .ref a :: r) w Q ↔ WP P 75 40 lo (x_fd w a x.toNatClampNeg :: r) w Q := W_aald rfl h1 ht h2 h3 rfl
theorem wK_page_40 : WP P 75 40 lo (.ref a :: r) w Q ↔ (4 < lo.length ∧ WP P 75 42 (lo.set 4 (some (.ref a))) r w Q) := W_astore rfl rfl
theorem wK_page_40n : WP P 75 40 lo (.null :: r) w Q ↔ (4 < lo.length ∧ WP P 75 42 (lo.set 4 (some .null)) r w Q) := W_astoreN rfl rfl
theorem wK_page_42 : WP P 75 42 lo st w Q ↔ x_ga lo[4]? (fun v => WP P 75 44 lo (v :: st) w Q) := W_aload rfl rfl
theorem wK_page_44n : WP P 75 44 lo (.null :: r) w Q ↔ WP P 75 47 lo r w Q := W_ifnn_n rfl rfl rfl
theorem wK_page_44 : WP P 75 44 lo (.ref a :: r) w Q ↔ WP P 75 49 lo r w Q := W_ifnn_r rfl rfl
theorem wK_page_47 : WP P 75 47 lo st w Q ↔ WP P 75 48 lo (.int (xi (-1)) :: st) w Q := W_iconst rfl rfl rfl
theorem wK_page_48 : WP P 75 48 lo [.int x] w Q ↔ Q (some (.int x)) w := WP_ret rfl rfl
theorem wK_page_49 : WP P 75 49 lo st w Q ↔ x_ga lo[4]? (fun v => WP P 75 51 lo (v :: st) w Q) := W_aload rfl rfl
theorem wK_page_51 : WP P 75 51 lo (.ref a :: r) w Q ↔ (x_has w a [9] ∧ WP P 75 54 lo (x_fd w a 4 :: r) w Q) := W_get rfl rfl rfl
theorem wK_page_54 : WP P 75 54 lo st w Q ↔ x_gi lo[2]? (fun x => WP P 75 55 lo (.int x :: st) w Q) := W_iload_n rfl rfl rfl
theorem wK_page_55 : WP P 75 55 lo st w Q ↔ WP P 75 56 lo (.int (xi 4) :: st) w Q := W_iconst rfl rfl rfl
theorem wK_page_56 : WP P 75 56 lo (.int y :: .int x :: r) w Q ↔ (¬ y = 0 ∧ WP P 75 57 lo (.int (x_rmd x y) :: r) w Q) := W_irem rfl rfl
theorem wK_page_57 {t n : Nat} (h1 : x_tg w a = some (t, n)) (ht : 30 ≤ t) (h2 : ¬ x < 0) (h3 : x.toNatClampNeg < n) : WP P 75 57 lo (.int x :: .ref a :: r) w Q ↔ WP P 75 58 lo (x_fd w a x.toNatClampNeg :: r) w Q := W_aald rfl h1 ht h2 h3 rfl
theorem wK_page_58 : WP P 75 58 lo (.ref a :: r) w Q ↔ (5 < lo.length ∧ WP P 75 60 (lo.set 5 (some (.ref a))) r w Q) := W_astore rfl rfl
theorem wK_page_58n : WP P 75 58 lo (.null :: r) w Q ↔ (5 < lo.length ∧ WP P 75 60 (lo.set 5 (some .null)) r w Q) := W_astoreN rfl rfl
theorem wK_page_60 : WP P 75 60 lo st w Q ↔ x_ga lo[5]? (fun v => WP P 75 62 lo (v :: st) w Q) := W_aload rfl rfl
theorem wK_page_62n : WP P 75 62 lo (.null :: r) w Q ↔ WP P 75 65 lo r w Q := W_ifnn_n rfl rfl rfl
theorem wK_page_62 : WP P 75 62 lo (.ref a :: r) w Q ↔ WP P 75 67 lo r w Q := W_ifnn_r rfl rfl
theorem wK_page_65 : WP P 75 65 lo st w Q ↔ WP P 75 66 lo (.int (xi (-1)) :: st) w Q := W_iconst rfl rfl rfl
theorem wK_page_66 : WP P 75 66 lo [.int x] w Q ↔ Q (some (.int x)) w := WP_ret rfl rfl
theorem wK_page_67 : WP P 75 67 lo st w Q ↔ x_ga lo[5]? (fun v => WP P 75 69 lo (v :: st) w Q) := W_aload rfl rfl
theorem wK_page_69 : WP P 75 69 lo (.ref a :: r) w Q ↔ (x_has w a [1] ∧ WP P 75 72 lo (x_fd w a 0 :: r) w Q) := W_get rfl rfl rfl
theorem wK_page_72 : WP P 75 72 lo (.ref a :: r) w Q ↔ (x_has w a [2, 4, 5, 6, 7, 8, 9, 10] ∧ WP P 75 75 lo (x_fd w a 1 :: r) w Q) := W_get rfl rfl rfl
theorem wK_page_75 : WP P 75 75 lo st w Q ↔ WP P 75 78 lo (.int (xi 128) :: st) w Q := W_sipush rfl rfl (by decide)
theorem wK_page_78 : WP P 75 78 lo st w Q ↔ x_ga lo[5]? (fun v => WP P 75 80 lo (v :: st) w Q) := W_aload rfl rfl
theorem wK_page_80 : WP P 75 80 lo (.ref a :: r) w Q ↔ (x_has w a [1] ∧ WP P 75 83 lo (x_fd w a 1 :: r) w Q) := W_get rfl rfl rfl
theorem wK_page_83 : WP P 75 83 lo (.int y :: .int x :: r) w Q ↔ WP P 75 84 lo (.int (x * y) :: r) w Q := W_imul rfl rfl
theorem wK_page_84 : WP P 75 84 lo (.int y :: .int x :: r) w Q ↔ WP P 75 85 lo (.int (x + y) :: r) w Q := W_iadd rfl rfl
theorem wK_page_85 : WP P 75 85 lo [.int x] w Q ↔ Q (some (.int x)) w := WP_ret rfl rfl
end WR

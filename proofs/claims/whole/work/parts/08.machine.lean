/-! ===== THE SMALL MACHINE: what a method does to a pictured heap. A world is (size, slots used, tags, contents): an address has a tag (a class below 20, an array from 20 on) and a length, its contents are values by number. ===== -/
abbrev xH : Type := Nat × Nat × (Nat → Option (Nat × Nat)) × (Nat → Nat → Value)
def x_sz (w : xH) : Nat := w.1
def x_sl (w : xH) : Nat := w.2.1
def x_tg (w : xH) (a : Nat) : Option (Nat × Nat) := w.2.2.1 a
def x_fd (w : xH) (a k : Nat) : Value := w.2.2.2 a k
def x_put (w : xH) (a k : Nat) (v : Value) : xH := (w.1, w.2.1, w.2.2.1, fun b j => if b = a ∧ j = k then v else w.2.2.2 b j)
def x_new (w : xH) (t n : Nat) (F : Nat → Value) : xH := (w.1 + 1, w.2.1 + n, fun b => if b = w.1 then some (t, n) else w.2.2.1 b, fun b j => if b = w.1 then F j else w.2.2.2 b j)
theorem x_sz_put (w : xH) (a k : Nat) (v : Value) : x_sz (x_put w a k v) = x_sz w := rfl
theorem x_sl_put (w : xH) (a k : Nat) (v : Value) : x_sl (x_put w a k v) = x_sl w := rfl
theorem x_tg_put (w : xH) (a k : Nat) (v : Value) (b : Nat) : x_tg (x_put w a k v) b = x_tg w b := rfl
theorem x_fd_put (w : xH) (a k : Nat) (v : Value) (b j : Nat) : x_fd (x_put w a k v) b j = if b = a ∧ j = k then v else x_fd w b j := rfl
theorem x_sz_new (w : xH) (t n : Nat) (F : Nat → Value) : x_sz (x_new w t n F) = x_sz w + 1 := rfl
theorem x_sl_new (w : xH) (t n : Nat) (F : Nat → Value) : x_sl (x_new w t n F) = x_sl w + n := rfl
theorem x_tg_new (w : xH) (t n : Nat) (F : Nat → Value) (b : Nat) : x_tg (x_new w t n F) b = if b = x_sz w then some (t, n) else x_tg w b := rfl
theorem x_fd_new (w : xH) (t n : Nat) (F : Nat → Value) (b j : Nat) : x_fd (x_new w t n F) b j = if b = x_sz w then F j else x_fd w b j := rfl
/-- what doesn't change: arrays of ints that can only be read, the address of the table of sizes, the address of the script -/
abbrev xP : Type := (Nat → Option (Nat × (Nat → Int32))) × Nat × Nat
/-- an instruction's outcome: on, with (pc, locals, stack, world) -/
abbrev xO : Type := Nat × List (Option Value) × List Value × xH
def x_go (pc : Nat) (lo : List (Option Value)) (st : List Value) (w : xH) : Option xO := some (pc, lo, st, w)
def x_ldi (pc i : Nat) (lo : List (Option Value)) (st : List Value) (w : xH) : Option xO := match lo[i]? with
  | some (some (.int x)) => x_go pc lo (.int x :: st) w
  | _ => none
def x_lda (pc i : Nat) (lo : List (Option Value)) (st : List Value) (w : xH) : Option xO := match lo[i]? with
  | some (some (.ref a)) => x_go pc lo (.ref a :: st) w
  | some (some .null) => x_go pc lo (.null :: st) w
  | _ => none
def x_sti (pc i : Nat) (lo : List (Option Value)) (st : List Value) (w : xH) : Option xO := match st with
  | .int x :: r => if i < lo.length then x_go pc (lo.set i (some (.int x))) r w else none
  | _ => none
def x_sta (pc i : Nat) (lo : List (Option Value)) (st : List Value) (w : xH) : Option xO := match st with
  | .ref a :: r => if i < lo.length then x_go pc (lo.set i (some (.ref a))) r w else none
  | .null :: r => if i < lo.length then x_go pc (lo.set i (some .null)) r w else none
  | _ => none
def x_b2 (f : Int32 → Int32 → Int32) (pc : Nat) (lo : List (Option Value)) (st : List Value) (w : xH) : Option xO := match st with
  | .int y :: .int x :: r => x_go (pc + 1) lo (.int (f x y) :: r) w
  | _ => none
def x_d2 (f : Int32 → Int32 → Int32) (pc : Nat) (lo : List (Option Value)) (st : List Value) (w : xH) : Option xO := match st with
  | .int y :: .int x :: r => if y = 0 then none else x_go (pc + 1) lo (.int (f x y) :: r) w
  | _ => none
def x_br (c : Jvm.ClassFile.Cond) (x y : Int32) (t : Int) (pc : Nat) (lo : List (Option Value)) (st : List Value) (w : xH) : Option xO := if 0 ≤ t then (match c with
  | .eq => if x = y then x_go t.toNat lo st w else x_go (pc + 3) lo st w
  | .ne => if x = y then x_go (pc + 3) lo st w else x_go t.toNat lo st w
  | .lt => if x < y then x_go t.toNat lo st w else x_go (pc + 3) lo st w
  | .ge => if x < y then x_go (pc + 3) lo st w else x_go t.toNat lo st w
  | .gt => if y < x then x_go t.toNat lo st w else x_go (pc + 3) lo st w
  | .le => if y < x then x_go (pc + 3) lo st w else x_go t.toNat lo st w) else none
def x_rv : Value → Option (Option Nat)
  | .ref a => some (some a)
  | .null => some none
  | _ => none
def x_fit : Nat → Value → Bool
  | 0, .int _ => true
  | 1, .int x => x == 0 || x == 1
  | 2, .null => true
  | 2, .ref _ => true
  | _, _ => false
def x_in (i : Int32) (n : Nat) : Prop := ¬ i < 0 ∧ i.toNatClampNeg < n
def x_cat1 : Value → Bool
  | .int _ => true
  | .null => true
  | .ref _ => true
  | _ => false
def x_en (mj : Nat) (args : List Value) : List (Option Value) := args.map some ++ List.replicate (xm_max mj - args.length) none
/-- a call: the method, its arguments, the rest of the stack -/
def x_call (mi mj : Nat) (st : List Value) : Option (Nat × List Value × List Value) :=
  if xm_na mj ≤ st.length ∧ (st.drop (xm_na mj)).length ≤ 8 ∧ xm_dep mj < xm_dep mi ∧ 19 + xm_max mj + xm_loc mj ≤ xm_loc mi ∧ st.all x_cat1 = true then some (mj, (st.take (xm_na mj)).reverse, st.drop (xm_na mj)) else none
def x_inv (ins : Instr) (mi : Nat) (st : List Value) (w : xH) : Option (Nat × List Value × List Value) := match ins with
  | .invokevirtual idx => (match x_tM (xm_own mi) idx with
    | some (0, mj) => (match st[xm_na mj - 1]? with
      | some (.ref b) => (match x_tg w b with
        | some (t, _) => if t = xm_own mj then x_call mi mj st else none
        | none => none)
      | _ => none)
    | _ => none)
  | .invokespecial idx => (match x_tM (xm_own mi) idx with
    | some (1, mj) => (match st[xm_na mj - 1]? with
      | some (.ref _) => x_call mi mj st
      | _ => none)
    | some (4, mj) => (match st[xm_na mj - 1]? with
      | some (.ref _) => x_call mi mj st
      | _ => none)
    | _ => none)
  | .invokestatic idx => (match x_tM (xm_own mi) idx with
    | some (2, mj) => x_call mi mj st
    | _ => none)
  | _ => none
/-- an answer -/
def x_ret (ins : Instr) (mi : Nat) (st : List Value) : Option (Option Value) := match ins with
  | .ireturn => (match st with
    | [.int x] => if xm_rk mi = 1 ∨ (xm_rk mi = 2 ∧ (x = 0 ∨ x = 1)) then some (some (.int x)) else none
    | _ => none)
  | .areturn => (match st with
    | [.ref a] => if xm_rk mi = 3 then some (some (.ref a)) else none
    | [.null] => if xm_rk mi = 3 then some (some .null) else none
    | _ => none)
  | .return_ => (match st with
    | [] => if xm_rk mi = 0 then some none else none
    | _ => none)
  | _ => none
section XI
variable (P : xP)
noncomputable def xI (ins : Instr) (mi pc : Nat) (lo : List (Option Value)) (st : List Value) (w : xH) : Option xO := match ins with
  | .iconst n => x_go (pc + 1) lo (.int (Int32.ofInt n) :: st) w
  | .bipush n => x_go (pc + 2) lo (.int (Int8.ofInt n).toInt32 :: st) w
  | .sipush n => x_go (pc + 3) lo (.int (Int16.ofInt n).toInt32 :: st) w
  | .aconst_null => x_go (pc + 1) lo (.null :: st) w
  | .iload i => x_ldi (pc + 2) i lo st w
  | .iload_n k => x_ldi (pc + 1) k.val lo st w
  | .aload i => x_lda (pc + 2) i lo st w
  | .aload_n k => x_lda (pc + 1) k.val lo st w
  | .istore i => x_sti (pc + 2) i lo st w
  | .istore_n k => x_sti (pc + 1) k.val lo st w
  | .astore i => x_sta (pc + 2) i lo st w
  | .astore_n k => x_sta (pc + 1) k.val lo st w
  | .iinc i n => (match lo[i]? with
    | some (some (.int x)) => x_go (pc + 3) (lo.set i (some (.int (x + Int32.ofInt n)))) st w
    | _ => none)
  | .iadd => x_b2 (fun x y => x + y) pc lo st w
  | .isub => x_b2 (fun x y => x - y) pc lo st w
  | .imul => x_b2 (fun x y => x * y) pc lo st w
  | .iand => x_b2 (fun x y => x &&& y) pc lo st w
  | .ior => x_b2 (fun x y => x ||| y) pc lo st w
  | .ishl => x_b2 (fun x y => x <<< (y &&& 31)) pc lo st w
  | .idiv => x_d2 (fun x y => x / y) pc lo st w
  | .irem => x_d2 (fun x y => x - x / y * y) pc lo st w
  | .dup => (match st with
    | v :: r => if x_cat1 v = true then x_go (pc + 1) lo (v :: v :: r) w else none
    | _ => none)
  | .dup_x1 => (match st with
    | v :: u :: r => if x_cat1 v = true ∧ x_cat1 u = true then x_go (pc + 1) lo (v :: u :: v :: r) w else none
    | _ => none)
  | .dup2 => (match st with
    | v :: u :: r => if x_cat1 v = true ∧ x_cat1 u = true then x_go (pc + 1) lo (v :: u :: v :: u :: r) w else none
    | _ => none)
  | .pop => (match st with
    | v :: r => if x_cat1 v = true then x_go (pc + 1) lo r w else none
    | _ => none)
  | .ifCond c off => (match st with
    | .int x :: r => x_br c x 0 ((pc : Int) + off) pc lo r w
    | _ => none)
  | .if_icmp c off => (match st with
    | .int y :: .int x :: r => x_br c x y ((pc : Int) + off) pc lo r w
    | _ => none)
  | .if_acmp c off => (match st with
    | v :: u :: r => (match x_rv u, x_rv v with
      | some x, some y => if 0 ≤ (pc : Int) + off then (match c with
        | .eq => if x = y then x_go ((pc : Int) + off).toNat lo r w else x_go (pc + 3) lo r w
        | .ne => if x = y then x_go (pc + 3) lo r w else x_go ((pc : Int) + off).toNat lo r w) else none
      | _, _ => none)
    | _ => none)
  | .ifnull off => if 0 ≤ (pc : Int) + off then (match st with
    | .null :: r => x_go ((pc : Int) + off).toNat lo r w
    | .ref _ :: r => x_go (pc + 3) lo r w
    | _ => none) else none
  | .ifnonnull off => if 0 ≤ (pc : Int) + off then (match st with
    | .null :: r => x_go (pc + 3) lo r w
    | .ref _ :: r => x_go ((pc : Int) + off).toNat lo r w
    | _ => none) else none
  | .goto off => if 0 ≤ (pc : Int) + off then x_go ((pc : Int) + off).toNat lo st w else none
  | .tableswitch dflt lw hi offs => (match st with
    | .int x :: r => if x.toInt < lw ∨ hi < x.toInt then (if 0 ≤ (pc : Int) + dflt then x_go ((pc : Int) + dflt).toNat lo r w else none)
      else (match offs[(x.toInt - lw).toNat]? with
        | some off => if 0 ≤ (pc : Int) + off then x_go ((pc : Int) + off).toNat lo r w else none
        | none => none)
    | _ => none)
  | .getfield idx => (match st with
    | .ref a :: r => (match x_tg w a, x_tF (xm_own mi) idx with
      | some (t, _), some (k, cs, _, _) => if t ∈ cs then x_go (pc + 3) lo (x_fd w a k :: r) w else none
      | _, _ => none)
    | _ => none)
  | .putfield idx => (match st with
    | v :: .ref a :: r => (match x_tg w a, x_tF (xm_own mi) idx with
      | some (t, _), some (k, cs, kd, fin) => if t ∈ cs ∧ x_fit kd v = true ∧ (fin = 0 ∨ (fin = 1 ∧ xm_ini mi = true)) then x_go (pc + 3) lo r (x_put w a k v) else none
      | _, _ => none)
    | _ => none)
  | .getstatic idx => if x_tG (xm_own mi) idx = true then x_go (pc + 3) lo (.ref P.2.1 :: st) w else none
  | .new idx => (match x_tN (xm_own mi) idx with
    | some t => x_go (pc + 3) lo (.ref (x_sz w) :: st) (x_new w t (x_N t) (x_df t))
    | none => none)
  | .newarray ty => (match st with
    | .int n :: r => if ¬ n < 0 ∧ n.toNatClampNeg ≤ 1000 then (match ty with
      | .int => x_go (pc + 2) lo (.ref (x_sz w) :: r) (x_new w 20 n.toNatClampNeg (fun _ => .int 0))
      | .boolean => x_go (pc + 2) lo (.ref (x_sz w) :: r) (x_new w 21 n.toNatClampNeg (fun _ => .int 0))
      | _ => none) else none
    | _ => none)
  | .anewarray idx => (match st with
    | .int n :: r => if ¬ n < 0 ∧ n.toNatClampNeg ≤ 1000 then (match x_tA (xm_own mi) idx with
      | some t => x_go (pc + 3) lo (.ref (x_sz w) :: r) (x_new w (30 + t) n.toNatClampNeg (fun _ => .null))
      | none => none) else none
    | _ => none)
  | .arraylength => (match st with
    | .ref a :: r => (match x_tg w a with
      | some (t, n) => if 20 ≤ t then x_go (pc + 1) lo (.int (Int32.ofNat n) :: r) w else none
      | none => (match P.1 a with
        | some (n, _) => if a = P.2.2 then x_go (pc + 1) lo (.int (Int32.ofNat n) :: r) w else none
        | none => none))
    | _ => none)
  | .iaload => (match st with
    | .int i :: .ref a :: r => (match x_tg w a with
      | some (t, n) => if t = 20 ∧ ¬ i < 0 ∧ i.toNatClampNeg < n then x_go (pc + 1) lo (x_fd w a i.toNatClampNeg :: r) w else none
      | none => (match P.1 a with
        | some (n, f) => if ¬ i < 0 ∧ i.toNatClampNeg < n then x_go (pc + 1) lo (.int (f i.toNatClampNeg) :: r) w else none
        | none => none))
    | _ => none)
  | .baload => (match st with
    | .int i :: .ref a :: r => (match x_tg w a with
      | some (t, n) => if t = 21 ∧ ¬ i < 0 ∧ i.toNatClampNeg < n then x_go (pc + 1) lo (x_fd w a i.toNatClampNeg :: r) w else none
      | none => none)
    | _ => none)
  | .aaload => (match st with
    | .int i :: .ref a :: r => (match x_tg w a with
      | some (t, n) => if 30 ≤ t ∧ ¬ i < 0 ∧ i.toNatClampNeg < n then x_go (pc + 1) lo (x_fd w a i.toNatClampNeg :: r) w else none
      | none => none)
    | _ => none)
  | .iastore => (match st with
    | .int x :: .int i :: .ref a :: r => (match x_tg w a with
      | some (t, n) => if t = 20 ∧ ¬ i < 0 ∧ i.toNatClampNeg < n then x_go (pc + 1) lo r (x_put w a i.toNatClampNeg (.int x)) else none
      | none => none)
    | _ => none)
  | .bastore => (match st with
    | .int x :: .int i :: .ref a :: r => (match x_tg w a with
      | some (t, n) => if (x = 0 ∨ x = 1) ∧ t = 21 ∧ ¬ i < 0 ∧ i.toNatClampNeg < n then x_go (pc + 1) lo r (x_put w a i.toNatClampNeg (.int x)) else none
      | none => none)
    | _ => none)
  | .aastore => (match st with
    | .null :: .int i :: .ref a :: r => (match x_tg w a with
      | some (t, n) => if 30 ≤ t ∧ ¬ i < 0 ∧ i.toNatClampNeg < n then x_go (pc + 1) lo r (x_put w a i.toNatClampNeg .null) else none
      | none => none)
    | .ref v :: .int i :: .ref a :: r => (match x_tg w a, x_tg w v with
      | some (t, n), some (tv, _) => if t = 30 + tv ∧ tv < 20 ∧ ¬ i < 0 ∧ i.toNatClampNeg < n then x_go (pc + 1) lo r (x_put w a i.toNatClampNeg (.ref v)) else none
      | _, _ => none)
    | _ => none)
  | .instanceof idx => (match st with
    | .null :: r => x_go (pc + 3) lo (.int 0 :: r) w
    | .ref a :: r => (match x_tg w a, x_tC (xm_own mi) idx with
      | some (t, _), some u => if t ∈ x_things then (if t = u then x_go (pc + 3) lo (.int 1 :: r) w else x_go (pc + 3) lo (.int 0 :: r) w) else none
      | _, _ => none)
    | _ => none)
  | .checkcast idx => (match st with
    | .null :: r => x_go (pc + 3) lo (.null :: r) w
    | .ref a :: r => (match x_tg w a, x_tC (xm_own mi) idx with
      | some (t, _), some u => if t = u then x_go (pc + 3) lo (.ref a :: r) w else none
      | _, _ => none)
    | _ => none)
  | .invokespecial idx => (match x_tM (xm_own mi) idx with
    | some (3, _) => (match st with
      | .ref _ :: r => if r.length ≤ 8 ∧ r.all x_cat1 = true ∧ 1 ≤ xm_dep mi ∧ 20 ≤ xm_loc mi then x_go (pc + 3) lo r w else none
      | _ => none)
    | _ => none)
  | _ => none
/-- the machine with fuel: from pc to the method's answer -/
noncomputable def ex : Nat → Nat → Nat → List (Option Value) → List Value → xH → Option (Option Value × xH)
  | 0, _, _, _, _, _ => none
  | n + 1, mi, pc, lo, st, w => match x_ct mi pc with
    | none => none
    | some ins => match x_ret ins mi st with
      | some v => some (v, w)
      | none => match x_inv ins mi st w with
        | some (mj, as, rest) => (match ex n mj 0 (x_en mj as) [] w with
          | some (v, w') => ex n mi (pc + 3) lo (v.toList ++ rest) w'
          | none => none)
        | none => match xI P ins mi pc lo st w with
          | some (pc', lo', st', w') => ex n mi pc' lo' st' w'
          | none => none
/-- it ends, and its answer and world have Q -/
def WP (mi pc : Nat) (lo : List (Option Value)) (st : List Value) (w : xH) (Q : Option Value → xH → Prop) : Prop := ∃ (n : Nat) (v : Option Value) (w' : xH), ex P n mi pc lo st w = some (v, w') ∧ Q v w'
end XI

/-! THE SMALL MACHINE: the heap by abstract addresses (0: the law's script), a step an instruction, method calls by their numbers -/
/-- cells made, slots made, (tag, length) of a cell, contents -/
abbrev zm_H : Type := Nat × Nat × (Nat → Nat × Nat) × (Nat → Nat → Value)
def zm_nx (h : zm_H) : Nat := h.1
def zm_sl (h : zm_H) : Nat := h.2.1
def zm_tg (h : zm_H) (a : Nat) : Nat := (h.2.2.1 a).1
def zm_ln (h : zm_H) (a : Nat) : Nat := (h.2.2.1 a).2
def zm_at (h : zm_H) (a i : Nat) : Value := h.2.2.2 a i
def zm_put (h : zm_H) (a i : Nat) (v : Value) : zm_H := (h.1, h.2.1, h.2.2.1, fun b j => if b = a ∧ j = i then v else h.2.2.2 b j)
def zm_mk (h : zm_H) (t n : Nat) (f : Nat → Value) : zm_H := (h.1 + 1, h.2.1 + n, fun b => if b = h.1 then (t, n) else h.2.2.1 b, fun b j => if b = h.1 then f j else h.2.2.2 b j)
def zm_cp (h : zm_H) (s sp d dp n : Nat) : zm_H := (h.1, h.2.1, h.2.2.1, fun b j => if b = d ∧ dp ≤ j ∧ j < dp + n then h.2.2.2 s (sp + (j - dp)) else h.2.2.2 b j)
/-- a cell of that tag that may be written -/
def zm_is (h : zm_H) (a t : Nat) : Prop := 0 < a ∧ a < zm_nx h ∧ zm_tg h a = t
/-- a place that holds nothing -/
def zm_un : Value := .float 0
/-- what a field of that type takes -/
def zm_fit : FieldType → Value → Bool
  | .int, .int _ => true
  | .long, .long _ => true
  | .object _, .null => true
  | .object _, .ref _ => true
  | .array _, .null => true
  | .array _, .ref _ => true
  | .boolean, .int v => v == 0 || v == 1
  | .byte, .int v => v.toInt8.toInt32 == v && fits .byte (.int v)
  | _, _ => false
def zm_isK : Nat → Value → Bool
  | 0, .int _ => true
  | 1, .long _ => true
  | 2, .ref _ => true
  | 2, .null => true
  | _, _ => false
def zm_c1 : Value → Bool
  | .long _ => false
  | .double _ => false
  | _ => true
def zm_nl (ls : List Value) : Nat → Bool
  | 0 => true
  | j + 1 => match ls[j]? with
    | some v => zm_c1 v
    | none => true
def zm_ld (k : Nat) (ls : List Value) (j : Nat) (K : Value → Prop) : Prop := match ls[j]? with
  | some v => zm_isK k v = true ∧ K v
  | none => False
def zm_sto (k : Nat) (ls st : List Value) (j : Nat) (K : List Value → List Value → Prop) : Prop := match st with
  | v :: t => zm_isK k v = true ∧ j < ls.length ∧ zm_nl ls j = true ∧ K (ls.set j v) t
  | [] => False
def zm_stoL (ls st : List Value) (j : Nat) (K : List Value → List Value → Prop) : Prop := match st with
  | v :: t => zm_isK 1 v = true ∧ j + 1 < ls.length ∧ zm_nl ls j = true ∧ K ((ls.set j v).set (j + 1) zm_un) t
  | [] => False
def zm_s1 (st : List Value) (f : Int32 → Value) (K : List Value → Prop) : Prop := match st with
  | .int x :: t => K (f x :: t)
  | _ => False
def zm_s2 (st : List Value) (f : Int32 → Int32 → Value) (K : List Value → Prop) : Prop := match st with
  | .int y :: .int x :: t => K (f x y :: t)
  | _ => False
def zm_l1 (st : List Value) (f : Int64 → Value) (K : List Value → Prop) : Prop := match st with
  | .long x :: t => K (f x :: t)
  | _ => False
def zm_l2 (st : List Value) (f : Int64 → Int64 → Value) (K : List Value → Prop) : Prop := match st with
  | .long y :: .long x :: t => K (f x y :: t)
  | _ => False
def zm_lsh (st : List Value) (f : Int64 → Int32 → Value) (K : List Value → Prop) : Prop := match st with
  | .int y :: .long x :: t => K (f x y :: t)
  | _ => False
def zm_cd : Jvm.ClassFile.Cond → Int32 → Int32 → Prop
  | .eq, x, y => x = y
  | .ne, x, y => ¬ x = y
  | .lt, x, y => x < y
  | .ge, x, y => y ≤ x
  | .gt, x, y => y < x
  | .le, x, y => x ≤ y
/-- the default of an array's places, by its tag -/
def zm_df (t : Nat) : Value := if t = 102 then .long 0 else if t < 200 then .int 0 else .null
/-- tags of arrays of references -/
def zm_ro (t : Nat) : Bool := match zt_at t with
  | some (.object _) => true
  | _ => false
/-- where a switch goes -/
def zm_sw (d : Nat) : List (Int × Nat) → Int → Nat
  | [], _ => d
  | (k, t) :: l, x => if k = x then t else zm_sw d l x
/-- an array's place read -/
def zm_rd (st : List Value) (h : zm_H) (T : Nat → Bool) (K : List Value → Prop) : Prop := match st with
  | .int i :: .ref a :: t => a < zm_nx h ∧ T (zm_tg h a) = true ∧ vp_in i (zm_ln h a) ∧ K (zm_at h a i.toNatClampNeg :: t)
  | _ => False
/-- an array's place written with an int -/
def zm_wr (st : List Value) (h : zm_H) (tag : Nat) (f : Int32 → Int32) (K : List Value → zm_H → Prop) : Prop := match st with
  | .int v :: .int i :: .ref a :: t => zm_is h a tag ∧ vp_in i (zm_ln h a) ∧ K t (zm_put h a i.toNatClampNeg (.int (f v)))
  | _ => False
/-- arguments and rest: n values off the stack -/
def zm_ar (n : Nat) (st : List Value) : List Value := (st.take n).reverse
section
variable (C : Nat → List Value → zm_H → Option Value → zm_H → Prop) (k : Nat → List Value → List Value → zm_H → Prop) (np x y : Nat) (sw : List (Int × Nat)) (ls st : List Value) (h : zm_H)
/-- a call of the method x with n values off the stack -/
def zm_cl (n : Nat) : Prop := n ≤ st.length ∧ (st.drop n).length ≤ 4 ∧ ∃ r1 h1, C x (zm_ar n st) h r1 h1 ∧ k np ls (r1.toList ++ st.drop n) h1
/-- Math.max, Math.min, System.arraycopy of bytes, by their numbers -/
def zm_in : Prop := match x, st with
  | 1001, .int b :: .int a :: t => t.length ≤ 4 ∧ k np ls (.int (if a < b then b else a) :: t) h
  | 1002, .int b :: .int a :: t => t.length ≤ 4 ∧ k np ls (.int (if b < a then b else a) :: t) h
  | 1003, .int n :: .int dp :: .ref d :: .int sp :: .ref a :: t => t.length ≤ 4 ∧ zm_is h a 100 ∧ zm_is h d 100 ∧ ¬ sp < 0 ∧ ¬ dp < 0 ∧ ¬ n < 0 ∧ sp.toNatClampNeg + n.toNatClampNeg ≤ zm_ln h a ∧ dp.toNatClampNeg + n.toNatClampNeg ≤ zm_ln h d ∧ (∀ i, i < n.toNatClampNeg → zm_fit .byte (zm_at h a (sp.toNatClampNeg + i)) = true) ∧ k np ls t (zm_cp h a sp.toNatClampNeg d dp.toNatClampNeg n.toNatClampNeg)
  | _, _ => False
def zm_ex (ret : Option FieldType) (r : Option Value) (h' : zm_H) (i : Instr) : Prop := match i with
  | .iconst v => k np ls (.int (Int32.ofInt v) :: st) h
  | .bipush v => k np ls (.int (Int8.ofInt v).toInt32 :: st) h
  | .sipush v => k np ls (.int (Int16.ofInt v).toInt32 :: st) h
  | .ldc _ => match sw with
    | [(v, _)] => k np ls (.int (Int32.ofInt v) :: st) h
    | _ => False
  | .ldc2_w _ => match sw with
    | [(v, _)] => k np ls (.long (Int64.ofInt v) :: st) h
    | _ => False
  | .lconst n => k np ls (.long (Int64.ofNat n) :: st) h
  | .aconst_null => k np ls (.null :: st) h
  | .iload j => zm_ld 0 ls j (fun v => k np ls (v :: st) h)
  | .iload_n j => zm_ld 0 ls j (fun v => k np ls (v :: st) h)
  | .lload j => zm_ld 1 ls j (fun v => k np ls (v :: st) h)
  | .lload_n j => zm_ld 1 ls j (fun v => k np ls (v :: st) h)
  | .aload j => zm_ld 2 ls j (fun v => k np ls (v :: st) h)
  | .aload_n j => zm_ld 2 ls j (fun v => k np ls (v :: st) h)
  | .istore j => zm_sto 0 ls st j (fun ls' t => k np ls' t h)
  | .istore_n j => zm_sto 0 ls st j (fun ls' t => k np ls' t h)
  | .astore j => zm_sto 2 ls st j (fun ls' t => k np ls' t h)
  | .astore_n j => zm_sto 2 ls st j (fun ls' t => k np ls' t h)
  | .lstore j => zm_stoL ls st j (fun ls' t => k np ls' t h)
  | .lstore_n j => zm_stoL ls st j (fun ls' t => k np ls' t h)
  | .iinc j n => zm_ld 0 ls j (fun v => match v with
    | .int z => j < ls.length ∧ zm_nl ls j = true ∧ k np (ls.set j (.int (z + Int32.ofInt n))) st h
    | _ => False)
  | .iadd => zm_s2 st (fun a b => .int (a + b)) (fun t => k np ls t h)
  | .isub => zm_s2 st (fun a b => .int (a - b)) (fun t => k np ls t h)
  | .imul => zm_s2 st (fun a b => .int (a * b)) (fun t => k np ls t h)
  | .iand => zm_s2 st (fun a b => .int (a &&& b)) (fun t => k np ls t h)
  | .ior => zm_s2 st (fun a b => .int (a ||| b)) (fun t => k np ls t h)
  | .ixor => zm_s2 st (fun a b => .int (a ^^^ b)) (fun t => k np ls t h)
  | .land => zm_l2 st (fun a b => .long (a &&& b)) (fun t => k np ls t h)
  | .lor => zm_l2 st (fun a b => .long (a ||| b)) (fun t => k np ls t h)
  | .lushr => zm_lsh st (fun a b => .long (a.toUInt64 >>> (b.toInt64.toUInt64 &&& Int64.toUInt64 63)).toInt64) (fun t => k np ls t h)
  | .lshl => zm_lsh st (fun a b => .long (a <<< (b.toInt64 &&& 63))) (fun t => k np ls t h)
  | .lshr => zm_lsh st (fun a b => .long (a >>> (b.toInt64 &&& 63))) (fun t => k np ls t h)
  | .l2i => zm_l1 st (fun a => .int a.toInt32) (fun t => k np ls t h)
  | .i2l => zm_s1 st (fun a => .long a.toInt64) (fun t => k np ls t h)
  | .i2b => zm_s1 st (fun a => .int a.toInt8.toInt32) (fun t => k np ls t h)
  | .dup => match st with
    | v :: t => zm_c1 v = true ∧ k np ls (v :: v :: t) h
    | _ => False
  | .pop => match st with
    | v :: t => zm_c1 v = true ∧ k np ls t h
    | _ => False
  | .dup_x1 => match st with
    | v :: w :: t => zm_c1 v = true ∧ zm_c1 w = true ∧ k np ls (v :: w :: v :: t) h
    | _ => False
  | .dup2 => match st with
    | v :: w :: t => zm_c1 v = true ∧ zm_c1 w = true ∧ k np ls (v :: w :: v :: w :: t) h
    | _ => False
  | .ifCond cd _ => match st with
    | .int a :: t => (zm_cd cd a 0 → k x ls t h) ∧ (¬ zm_cd cd a 0 → k np ls t h)
    | _ => False
  | .if_icmp cd _ => match st with
    | .int b :: .int a :: t => (zm_cd cd a b → k x ls t h) ∧ (¬ zm_cd cd a b → k np ls t h)
    | _ => False
  | .if_acmp .eq _ => match st with
    | b :: a :: t => zm_isK 2 a = true ∧ zm_isK 2 b = true ∧ (a = b → k x ls t h) ∧ (¬ a = b → k np ls t h)
    | _ => False
  | .if_acmp .ne _ => match st with
    | b :: a :: t => zm_isK 2 a = true ∧ zm_isK 2 b = true ∧ (¬ a = b → k x ls t h) ∧ (a = b → k np ls t h)
    | _ => False
  | .ifnull _ => match st with
    | .null :: t => k x ls t h
    | .ref _ :: t => k np ls t h
    | _ => False
  | .ifnonnull _ => match st with
    | .null :: t => k np ls t h
    | .ref _ :: t => k x ls t h
    | _ => False
  | .goto _ => k x ls st h
  | .tableswitch .. => match st with
    | .int a :: t => k (zm_sw x sw a.toInt) ls t h
    | _ => False
  | .getfield _ => match st with
    | .ref a :: t => zm_is h a x ∧ k np ls (zm_at h a y :: t) h
    | _ => False
  | .putfield _ => match st with
    | v :: .ref a :: t => zm_is h a x ∧ zm_fit (zt_ty x y) v = true ∧ k np ls t (zm_put h a y v)
    | _ => False
  | .new _ => k np ls (.ref (zm_nx h) :: st) (zm_mk h x y (zt_df x))
  | .newarray _ => match st with
    | .int n :: t => ¬ n < 0 ∧ n.toNatClampNeg ≤ 60000000 ∧ k np ls (.ref (zm_nx h) :: t) (zm_mk h x n.toNatClampNeg (fun _ => zm_df x))
    | _ => False
  | .anewarray _ => match st with
    | .int n :: t => ¬ n < 0 ∧ n.toNatClampNeg ≤ 60000000 ∧ k np ls (.ref (zm_nx h) :: t) (zm_mk h x n.toNatClampNeg (fun _ => zm_df x))
    | _ => False
  | .arraylength => match st with
    | .ref a :: t => a < zm_nx h ∧ (zt_at (zm_tg h a)).isSome = true ∧ k np ls (.int (Int32.ofNat (zm_ln h a)) :: t) h
    | _ => False
  | .iaload => zm_rd st h (fun t => t == 101) (fun t => k np ls t h)
  | .baload => zm_rd st h (fun t => t == 100) (fun t => k np ls t h)
  | .aaload => zm_rd st h zm_ro (fun t => k np ls t h)
  | .iastore => zm_wr st h 101 id (fun t h1 => k np ls t h1)
  | .bastore => zm_wr st h 100 (fun v => v.toInt8.toInt32) (fun t h1 => k np ls t h1)
  | .aastore => match st with
    | .null :: .int i :: .ref a :: t => zm_ro (zm_tg h a) = true ∧ zm_is h a (zm_tg h a) ∧ vp_in i (zm_ln h a) ∧ k np ls t (zm_put h a i.toNatClampNeg .null)
    | .ref b :: .int i :: .ref a :: t => zm_ro (zm_tg h a) = true ∧ zm_is h a (zm_tg h a) ∧ zm_is h b (zm_tg h a - 200) ∧ vp_in i (zm_ln h a) ∧ k np ls t (zm_put h a i.toNatClampNeg (.ref b))
    | _ => False
  | .invokestatic _ => if 1000 < x then zm_in k np x ls st h else zm_cl C k np x ls st h y
  | .invokevirtual _ => (∃ a, st[y]? = some (.ref a) ∧ zm_is h a (zt_mc x)) ∧ zm_cl C k np x ls st h (y + 1)
  | .invokespecial _ => if x = 1000 then (match st with
      | .ref _ :: t => t.length ≤ 4 ∧ k np ls t h
      | _ => False)
    else (∃ a, st[y]? = some (.ref a)) ∧ zm_cl C k np x ls st h (y + 1)
  | .ireturn => match st with
    | [.int v] => r = some (.int v) ∧ h' = h ∧ ∃ ty, ret = some ty ∧ zm_fit ty (.int v) = true
    | _ => False
  | .areturn => match st with
    | [v] => r = some v ∧ h' = h ∧ zm_isK 2 v = true ∧ ∃ ty, ret = some ty ∧ zm_fit ty v = true
    | _ => False
  | .return_ => st = [] ∧ r = none ∧ h' = h ∧ ret = none
  | _ => False
end
/-- n instructions of method M, from pc on, end with r and h' -/
def zm_rn (C : Nat → List Value → zm_H → Option Value → zm_H → Prop) (M : Nat) (r : Option Value) (h' : zm_H) : Nat → Nat → List Value → List Value → zm_H → Prop
  | 0 => fun _ _ _ _ => False
  | n + 1 => fun pc ls st h => ∃ E : zm_E, zt_code M pc = some E ∧ zm_ex C (zm_rn C M r h' n) E.2.1 E.2.2.1 E.2.2.2.1 E.2.2.2.2 ls st h (zt_rt M) r h' E.1
/-- the places with which a method begins -/
def zm_fl (args : List Value) : List Value := args.flatMap fun v => if zm_c1 v = true then [v] else [v, zm_un]
def zm_lo (args : List Value) (n : Nat) : List Value := zm_fl args ++ List.replicate (n - (zm_fl args).length) zm_un
/-- method M, called with these values, ends with r and h' (calls at most d deep) -/
def zm_ca : Nat → Nat → List Value → zm_H → Option Value → zm_H → Prop
  | 0 => fun _ _ _ _ _ => False
  | d + 1 => fun M args h r h' => (zm_fl args).length ≤ zt_ml M ∧ ∃ n, zm_rn (zm_ca d) M r h' n 0 (zm_lo args (zt_ml M)) [] h

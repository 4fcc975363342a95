/-! ===== the abstract machine: memory in banks, references by numbers (32 times the bank, and the place; from 1000 on what was there before) ===== -/
abbrev am_E : Type := (Nat × vp_A) ⊕ (Nat × List Value)
abbrev am_M : Type := List (List am_E)
abbrev am_L : Type := List (Option Value)
abbrev am_C : Type := Nat × am_L × List Value × am_M
abbrev am_Sc : Type := Nat × (Nat → Int32)
def am_get (M : am_M) (n : Nat) : Option am_E := match Nat.ble 1000 n with
  | true => none
  | false => match M[n / 32]? with
    | some L => L[n % 32]?
    | none => none
def am_set (M : am_M) (n : Nat) (e : am_E) : am_M := match M[n / 32]? with
  | some L => M.set (n / 32) (L.set (n % 32) e)
  | none => M
def am_tot (M : am_M) : Nat := match M with
  | [] => 0
  | L :: M => L.length + am_tot M
def am_esl (e : am_E) : Nat := match e with
  | .inl (_, n, _) => n
  | .inr (_, fs) => fs.length
def am_lsl (L : List am_E) : Nat := match L with
  | [] => 0
  | e :: L => am_esl e + am_lsl L
def am_sl (M : am_M) : Nat := match M with
  | [] => 0
  | L :: M => am_lsl L + am_sl M
def am_okst (ls : am_L) (i : Nat) : Bool := match i with
  | 0 => Nat.ble 1 ls.length
  | i + 1 => match ls[i]? with
    | some (some (.long _)) => false
    | some (some (.double _)) => false
    | _ => Nat.ble (i + 2) ls.length
def am_okst2 (ls : am_L) (i : Nat) : Bool := am_okst ls i && Nat.ble (i + 2) ls.length
def am_inb (i : Int32) (n : Nat) : Prop := vp_in i n
def am_cats (st : List Value) : Nat := (st.map fun v => v.category).sum
def am_push (M : am_M) (e : am_E) : am_M := match M with
  | [] => []
  | [L0] => [L0 ++ [e]]
  | L0 :: L1 :: M => L0 :: am_push (L1 :: M) e
/-- the last bank's number and size -/
def am_last (M : am_M) : Nat × Nat := match M with
  | [] => (0, 0)
  | [L0] => (0, L0.length)
  | _ :: L1 :: M => ((am_last (L1 :: M)).1 + 1, (am_last (L1 :: M)).2)
def am_i1 (C : am_C) (x : Value) (st : List Value) : Option (Prop × am_C) := match C with
  | (j, ls, _, M) => some (True, (j + 1, ls, x :: st, M))
def am_br (C : am_C) (st : List Value) (n : Nat) : Option (Prop × am_C) := match C with
  | (_, ls, _, M) => some (True, (n, ls, st, M))
def am_ldi (C : am_C) (i : Nat) : Option (Prop × am_C) := match C with
  | (j, ls, st, M) => match ls[i]? with
    | some (some (.int x)) => some (True, (j + 1, ls, .int x :: st, M))
    | _ => none
def am_lda (C : am_C) (i : Nat) : Option (Prop × am_C) := match C with
  | (j, ls, st, M) => match ls[i]? with
    | some (some (.ref x)) => some (True, (j + 1, ls, .ref x :: st, M))
    | _ => none
def am_ldl (C : am_C) (i : Nat) : Option (Prop × am_C) := match C with
  | (j, ls, st, M) => match ls[i]? with
    | some (some (.long x)) => some (True, (j + 1, ls, .long x :: st, M))
    | _ => none
def am_sw (l : List (Int32 × Nat)) (d : Nat) (x : Int32) : Nat := match l with
  | [] => d
  | (v, n) :: l => if x = v then n else am_sw l d x
def am_pfk (k : Nat) (v : Value) : Option Prop := match k, v with
  | 0, .int _ => some True
  | 1, .int x => some (x = 0 ∨ x = 1)
  | 2, .long _ => some True
  | 3, .ref n => match Nat.ble 1000 n with
    | true => none
    | false => some True
  | _, _ => none
def am_getf0 (C : am_C) (a b : Nat) (n : Nat) (st : List Value) : Option (Prop × am_C) := match am_get C.2.2.2 n with
  | some (.inr (ci, fs)) => match Nat.beq ci a with
    | true => match fs[b]? with
      | some v => am_i1 C v st
      | none => none
    | false => none
  | _ => none
def am_getfS (C : am_C) (b : Nat) (n : Nat) (st : List Value) : Option (Prop × am_C) := match Nat.beq n 1010 with
  | true => match b with
    | 0 => am_i1 C (.ref 1011) st
    | _ => am_i1 C (.int 0) st
  | false => none
def am_putf (C : am_C) (a b k : Nat) (v : Value) (n : Nat) (st : List Value) : Option (Prop × am_C) := match C with
  | (j, ls, _, M) => match am_get M n with
    | some (.inr (ci, fs)) => match Nat.beq ci a, am_pfk k v, Nat.blt b fs.length with
      | true, some P, true => some (P, (j + 1, ls, st, am_set M n (.inr (ci, fs.set b v))))
      | _, _, _ => none
    | _ => none
/-- an array of whole numbers that was there before: its kind (0 int, 1 byte), length, contents -/
def am_old (sc : am_Sc) (n : Nat) : Option (Nat × Nat × (Nat → Int32)) := match Nat.beq n 1030 with
  | true => some (0, sc.1, sc.2)
  | false => match am_sta[n - 1000]? with
    | some (0, len, l) => some (0, len, fun j => l.getD j 0)
    | some (1, len, l) => some (1, len, fun j => l.getD j 0)
    | _ => none
def am_arr (sc : am_Sc) (M : am_M) (n : Nat) : Option (Nat × Nat × (Nat → Int32)) := match Nat.ble 1000 n with
  | true => am_old sc n
  | false => match am_get M n with
    | some (.inl (ty, len, .inl f)) => some (ty, len, f)
    | _ => none
def am_ald (sc : am_Sc) (C : am_C) (is : Nat → Bool) (i : Int32) (n : Nat) (st : List Value) : Option (Prop × am_C) := match C with
  | (j, ls, _, M) => match am_arr sc M n with
    | some (ty, len, f) => match is ty with
      | true => some (am_inb i len, (j + 1, ls, .int (f i.toNatClampNeg) :: st, M))
      | false => none
    | none => none
def am_asti (C : am_C) (x i : Int32) (n : Nat) (st : List Value) : Option (Prop × am_C) := match C with
  | (j, ls, _, M) => match am_get M n with
    | some (.inl (0, len, .inl f)) => some (am_inb i len, (j + 1, ls, st, am_set M n (.inl (0, len, .inl (upd f i.toNatClampNeg x)))))
    | _ => none
def am_astb (C : am_C) (x i : Int32) (n : Nat) (st : List Value) : Option (Prop × am_C) := match C with
  | (j, ls, _, M) => match am_get M n with
    | some (.inl (1, len, .inl f)) => some (am_inb i len, (j + 1, ls, st, am_set M n (.inl (1, len, .inl (upd f i.toNatClampNeg (vp_nar .byte x))))))
    | some (.inl (2, len, .inl f)) => some (am_inb i len, (j + 1, ls, st, am_set M n (.inl (2, len, .inl (upd f i.toNatClampNeg (vp_nar .boolean x))))))
    | _ => none
def am_copy (sc : am_Sc) (C : am_C) (st : List Value) : Option (Prop × am_C) := match C, st with
  | (j, ls, _, M), .int n :: .int dp :: .ref a :: .int sp :: .ref a0 :: st => match am_arr sc M a0, am_get M a, Nat.beq a0 a, Nat.ble (am_cats st) 8 with
    | some (0, n0, f), some (.inl (0, n1, .inl g)), false, true => some ((¬ sp < 0 ∧ ¬ dp < 0 ∧ ¬ n < 0) ∧ sp.toNatClampNeg + n.toNatClampNeg ≤ n0 ∧ dp.toNatClampNeg + n.toNatClampNeg ≤ n1, (j + 1, ls, st, am_set M a (.inl (0, n1, .inl (va_cpy f g sp.toNatClampNeg dp.toNatClampNeg n.toNatClampNeg)))))
    | _, _, _, _ => none
  | _, _ => none
def am_math (sc : am_Sc) (C : am_C) (k : Nat) (st : List Value) : Option (Prop × am_C) := match k, st with
  | 1, .int y :: .int x :: st => match Nat.ble (am_cats st) 8 with
    | true => am_i1 C (.int (if x < y then y else x)) st
    | false => none
  | 2, .int y :: .int x :: st => match Nat.ble (am_cats st) 8 with
    | true => am_i1 C (.int (if y < x then y else x)) st
    | false => none
  | 3, .int x :: st => match Nat.ble (am_cats st) 8 with
    | true => am_i1 C (.int (if 0 ≤ x then x else 0 - x)) st
    | false => none
  | 4, st => am_copy sc C st
  | _, _ => none
/-- what an answer of a small type must be -/
def am_rp (a : Nat) (x : Int32) : Prop := match a with
  | 0 => True
  | 1 => x = 0 ∨ x = 1
  | 2 => narrow .char (.int x) = .int x
  | _ => narrow .byte (.int x) = .int x
def am_exp (vs : List Value) : am_L := match vs with
  | [] => []
  | v :: vs => match v with
    | .long _ => some v :: none :: am_exp vs
    | .double _ => some v :: none :: am_exp vs
    | _ => some v :: am_exp vs
def am_call (C : am_C) (z n : Nat) (st : List Value) : Option (Nat × List Value × am_C) := match C with
  | (j, ls, _, M) => match Nat.ble n st.length, Nat.ble (am_cats (st.drop n)) 8, Nat.ble (am_exp (st.take n).reverse).length (am_ml z) with
    | true, true, true => some (z, (st.take n).reverse, (j + 1, ls, st.drop n, M))
    | _, _, _ => none
/-- the receiver, under n values, is an object of class a (100: the constant text) -/
def am_recv (M : am_M) (a n : Nat) (st : List Value) : Bool := match st[n]? with
  | some (.ref o) => match Nat.beq a 100 with
    | true => Nat.beq o 1010
    | false => match am_get M o with
      | some (.inr (ci, _)) => Nat.beq ci a
      | _ => false
  | _ => false
/-- under n values lies an object of ours -/
def am_rcI (n : Nat) (st : List Value) : Bool := match st[n]? with
  | some (.ref o) => Nat.blt o 1000
  | _ => false
def am_new (C : am_C) (a : Nat) : Option (Prop × am_C) := match C with
  | (j, ls, st, M) => match am_df[a]? with
    | some fs => match Nat.beq (am_tot M) (am_of M.length) && Nat.blt (32 * M.length) 1000 with
      | true => some (True, (j + 1, ls, .ref (32 * M.length) :: st, M ++ [[.inr (a, fs)]]))
      | false => none
    | none => none
def am_newa (C : am_C) (ty : Nat) (n : Int32) (st : List Value) : Option (Prop × am_C) := match C with
  | (j, ls, _, M) => match Nat.beq (am_tot M) (am_of (am_last M).1 + (am_last M).2), Nat.blt 0 M.length, Nat.blt (am_last M).2 32 && Nat.blt (32 * (am_last M).1 + (am_last M).2) 1000, Nat.ble n.toNatClampNeg 1000 with
    | true, true, true, true => some (¬ n < 0, (j + 1, ls, .ref (32 * (am_last M).1 + (am_last M).2) :: st, am_push M (.inl (ty, n.toNatClampNeg, .inl (fun _ => 0)))))
    | _, _, _, _ => none
def am_aty (t : ArrayType) : Option Nat := match t with
  | .int => some 0
  | .byte => some 1
  | .boolean => some 2
  | _ => none
def am_psh (C : am_C) (v : Value) : Option (Prop × am_C) := match C with
  | (j, ls, st, M) => some (True, (j + 1, ls, v :: st, M))
def am_ii (C : am_C) (f : Int32 → Int32 → Value) : Option (Prop × am_C) := match C with
  | (j, ls, .int y :: .int x :: st, M) => some (True, (j + 1, ls, f x y :: st, M))
  | _ => none
def am_iid (C : am_C) (f : Int32 → Int32 → Value) : Option (Prop × am_C) := match C with
  | (j, ls, .int y :: .int x :: st, M) => some (¬ y = 0, (j + 1, ls, f x y :: st, M))
  | _ => none
def am_i_ (C : am_C) (f : Int32 → Value) : Option (Prop × am_C) := match C with
  | (j, ls, .int x :: st, M) => some (True, (j + 1, ls, f x :: st, M))
  | _ => none
def am_ll (C : am_C) (f : Int64 → Int64 → Value) : Option (Prop × am_C) := match C with
  | (j, ls, .long y :: .long x :: st, M) => some (True, (j + 1, ls, f x y :: st, M))
  | _ => none
def am_lld (C : am_C) (f : Int64 → Int64 → Value) : Option (Prop × am_C) := match C with
  | (j, ls, .long y :: .long x :: st, M) => some (¬ y = 0, (j + 1, ls, f x y :: st, M))
  | _ => none
def am_li (C : am_C) (f : Int64 → Int32 → Value) : Option (Prop × am_C) := match C with
  | (j, ls, .int y :: .long x :: st, M) => some (True, (j + 1, ls, f x y :: st, M))
  | _ => none
def am_l_ (C : am_C) (f : Int64 → Value) : Option (Prop × am_C) := match C with
  | (j, ls, .long x :: st, M) => some (True, (j + 1, ls, f x :: st, M))
  | _ => none
def am_c1 (C : am_C) (f : Nat → Int32 → Nat) : Option (Prop × am_C) := match C with
  | (j, ls, .int x :: st, M) => some (True, (f j x, ls, st, M))
  | _ => none
def am_c2 (C : am_C) (f : Nat → Int32 → Int32 → Nat) : Option (Prop × am_C) := match C with
  | (j, ls, .int y :: .int x :: st, M) => some (True, (f j x y, ls, st, M))
  | _ => none
def am_dup (C : am_C) : Option (Prop × am_C) := match C with
  | (j, ls, .int x :: st, M) => some (True, (j + 1, ls, .int x :: .int x :: st, M))
  | (j, ls, .ref x :: st, M) => some (True, (j + 1, ls, .ref x :: .ref x :: st, M))
  | _ => none
def am_dup2 (C : am_C) : Option (Prop × am_C) := match C with
  | (j, ls, .int y :: .int x :: st, M) => some (True, (j + 1, ls, .int y :: .int x :: .int y :: .int x :: st, M))
  | (j, ls, .int y :: .ref x :: st, M) => some (True, (j + 1, ls, .int y :: .ref x :: .int y :: .ref x :: st, M))
  | _ => none
def am_pop (C : am_C) : Option (Prop × am_C) := match C with
  | (j, ls, .int _ :: st, M) => some (True, (j + 1, ls, st, M))
  | _ => none
def am_iinc (C : am_C) (i : Nat) (z : Int32) : Option (Prop × am_C) := match C with
  | (j, ls, st, M) => match ls[i]? with
    | some (some (.int x)) => match am_okst ls i with
      | true => some (True, (j + 1, ls.set i (some (.int (x + z))), st, M))
      | false => none
    | _ => none
def am_si (C : am_C) (i : Nat) : Option (Prop × am_C) := match C with
  | (j, ls, .int x :: st, M) => match am_okst ls i with
    | true => some (True, (j + 1, ls.set i (some (.int x)), st, M))
    | false => none
  | _ => none
def am_sa (C : am_C) (i : Nat) : Option (Prop × am_C) := match C with
  | (j, ls, .ref x :: st, M) => match am_okst ls i with
    | true => some (True, (j + 1, ls.set i (some (.ref x)), st, M))
    | false => none
  | _ => none
def am_sl2 (C : am_C) (i : Nat) : Option (Prop × am_C) := match C with
  | (j, ls, .long x :: st, M) => match am_okst2 ls i with
    | true => some (True, (j + 1, (ls.set i (some (.long x))).set (i + 1) none, st, M))
    | false => none
  | _ => none
def am_gf (C : am_C) (a b k : Nat) : Option (Prop × am_C) := match C with
  | (j, ls, .ref n :: st, M) => match k with
    | 0 => am_getf0 (j, ls, [], M) a b n st
    | _ => am_getfS (j, ls, [], M) b n st
  | _ => none
def am_pf (C : am_C) (a b k : Nat) : Option (Prop × am_C) := match C with
  | (j, ls, v :: .ref n :: st, M) => am_putf (j, ls, [], M) a b k v n st
  | _ => none
def am_ia (sc : am_Sc) (C : am_C) : Option (Prop × am_C) := match C with
  | (j, ls, .int i :: .ref n :: st, M) => am_ald sc (j, ls, [], M) (fun ty => Nat.beq ty 0) i n st
  | _ => none
def am_ba (sc : am_Sc) (C : am_C) : Option (Prop × am_C) := match C with
  | (j, ls, .int i :: .ref n :: st, M) => am_ald sc (j, ls, [], M) (fun ty => Nat.beq ty 1 || Nat.beq ty 2) i n st
  | _ => none
def am_is (C : am_C) : Option (Prop × am_C) := match C with
  | (j, ls, .int x :: .int i :: .ref n :: st, M) => am_asti (j, ls, [], M) x i n st
  | _ => none
def am_bs (C : am_C) : Option (Prop × am_C) := match C with
  | (j, ls, .int x :: .int i :: .ref n :: st, M) => am_astb (j, ls, [], M) x i n st
  | _ => none
def am_aln (sc : am_Sc) (C : am_C) : Option (Prop × am_C) := match C with
  | (j, ls, .ref n :: st, M) => match am_arr sc M n with
    | some (ty, len, _) => match Nat.blt ty 3 with
      | true => some (True, (j + 1, ls, .int (Int32.ofNat len) :: st, M))
      | false => none
    | none => none
  | _ => none
def am_na (C : am_C) (at_ : ArrayType) : Option (Prop × am_C) := match C with
  | (j, ls, .int n :: st, M) => match am_aty at_ with
    | some ty => am_newa (j, ls, [], M) ty n st
    | none => none
  | _ => none
def am_oi (C : am_C) (k : Nat) : Option (Prop × am_C) := match C with
  | (j, ls, .ref n :: st, M) => match Nat.beq k 5, Nat.ble (am_cats st) 8, Nat.blt n 1000 with
    | true, true, true => some (True, (j + 1, ls, st, M))
    | _, _, _ => none
  | _ => none
def am_lk (C : am_C) (k : Nat) (z : Int32) : Option (Prop × am_C) := match k with
  | 0 => am_psh C (.int z)
  | 1 => am_psh C (.ref 1010)
  | _ => none
def am_l2 (C : am_C) (a : Nat) : Option (Prop × am_C) := match am_lc[a]? with
  | some v => am_psh C (.long v)
  | none => none
def am_gst (C : am_C) (a : Nat) : Option (Prop × am_C) := match am_gs[a]? with
  | some (_, _, _, v) => am_psh C v
  | none => none
def am_sws (C : am_C) (a : Nat) : Option (Prop × am_C) := match am_swt[a]? with
  | some (l, d) => am_c1 C (fun _ x => am_sw l d x)
  | none => none
def am_gt (C : am_C) (a : Nat) : Option (Prop × am_C) := match C with
  | (_, ls, st, M) => some (True, (a, ls, st, M))
def am_step (t : List am_I) (sc : am_Sc) (C : am_C) : Option (Prop × am_C) := match t[C.1]? with
  | none => none
  | some (_, ins, a, b, _, k, _, z) => match ins with
    | .iconst _ => am_psh C (.int z)
    | .bipush _ => am_psh C (.int z)
    | .sipush _ => am_psh C (.int z)
    | .ldc _ => am_lk C k z
    | .lconst n => am_psh C (.long (Int64.ofNat (n : Nat)))
    | .ldc2_w _ => am_l2 C a
    | .iload_n n => am_ldi C n
    | .iload n => am_ldi C n
    | .aload_n n => am_lda C n
    | .aload n => am_lda C n
    | .lload_n n => am_ldl C n
    | .lload n => am_ldl C n
    | .istore_n n => am_si C n
    | .istore n => am_si C n
    | .astore_n n => am_sa C n
    | .astore n => am_sa C n
    | .lstore_n n => am_sl2 C n
    | .lstore n => am_sl2 C n
    | .iinc i _ => am_iinc C i z
    | .iadd => am_ii C (fun x y => .int (x + y))
    | .isub => am_ii C (fun x y => .int (x - y))
    | .imul => am_ii C (fun x y => .int (x * y))
    | .iand => am_ii C (fun x y => .int (x &&& y))
    | .ior => am_ii C (fun x y => .int (x ||| y))
    | .ishl => am_ii C (fun x y => .int (x <<< (y &&& 31)))
    | .ishr => am_ii C (fun x y => .int (x >>> (y &&& 31)))
    | .iushr => am_ii C (fun x y => .int (x.toUInt32 >>> (y.toUInt32 &&& Int32.toUInt32 31)).toInt32)
    | .ineg => am_i_ C (fun x => .int (-x))
    | .idiv => am_iid C (fun x y => .int (x / y))
    | .irem => am_iid C (fun x y => .int (x - x / y * y))
    | .ladd => am_ll C (fun x y => .long (x + y))
    | .lmul => am_ll C (fun x y => .long (x * y))
    | .land => am_ll C (fun x y => .long (x &&& y))
    | .lor => am_ll C (fun x y => .long (x ||| y))
    | .ldiv => am_lld C (fun x y => .long (x / y))
    | .lshl => am_li C (fun x y => .long (x <<< (y.toInt64 &&& 63)))
    | .lshr => am_li C (fun x y => .long (x >>> (y.toInt64 &&& 63)))
    | .lcmp => am_ll C (fun x y => .int (lg_cmp x y))
    | .i2l => am_i_ C (fun x => .long x.toInt64)
    | .l2i => am_l_ C (fun x => .int x.toInt32)
    | .i2b => am_i_ C (fun x => .int x.toInt8.toInt32)
    | .i2c => am_i_ C (fun x => .int (x.toUInt32 % 65536).toInt32)
    | .dup => am_dup C
    | .dup2 => am_dup2 C
    | .pop => am_pop C
    | .ifCond cnd _ => match cnd with
      | .eq => am_c1 C (fun j x => if x = 0 then a else j + 1)
      | .ne => am_c1 C (fun j x => if x = 0 then j + 1 else a)
      | .lt => am_c1 C (fun j x => if x < 0 then a else j + 1)
      | .ge => am_c1 C (fun j x => if 0 ≤ x then a else j + 1)
      | .gt => am_c1 C (fun j x => if 0 < x then a else j + 1)
      | .le => am_c1 C (fun j x => if x ≤ 0 then a else j + 1)
    | .if_icmp cnd _ => match cnd with
      | .eq => am_c2 C (fun j x y => if x = y then a else j + 1)
      | .ne => am_c2 C (fun j x y => if x = y then j + 1 else a)
      | .lt => am_c2 C (fun j x y => if x < y then a else j + 1)
      | .ge => am_c2 C (fun j x y => if y ≤ x then a else j + 1)
      | .gt => am_c2 C (fun j x y => if y < x then a else j + 1)
      | .le => am_c2 C (fun j x y => if x ≤ y then a else j + 1)
    | .goto _ => am_gt C a
    | .tableswitch _ _ _ _ => am_sws C a
    | .lookupswitch _ _ => am_sws C a
    | .getfield _ => am_gf C a b k
    | .putfield _ => am_pf C a b k
    | .getstatic _ => am_gst C a
    | .iaload => am_ia sc C
    | .baload => am_ba sc C
    | .iastore => am_is C
    | .bastore => am_bs C
    | .arraylength => am_aln sc C
    | .new _ => am_new C a
    | .newarray at_ => am_na C at_
    | .invokespecial _ => am_oi C k
    | .invokestatic _ => am_math sc C k C.2.2.1
    | _ => none
/-- a call of a method of the tables: its number, its values, and where it comes back -/
def am_inv (t : List am_I) (C : am_C) : Option (Nat × List Value × am_C) := match t[C.1]? with
  | none => none
  | some (_, ins, a, b, c, k, _, _) => match ins with
    | .invokevirtual _ => match k, am_recv C.2.2.2 c (b - 1) C.2.2.1 with
      | 0, true => am_call C a b C.2.2.1
      | _, _ => none
    | .invokespecial _ => match k, am_rcI (b - 1) C.2.2.1 with
      | 0, true => am_call C a b C.2.2.1
      | 6, true => am_call C a b C.2.2.1
      | _, _ => none
    | .invokestatic _ => match k with
      | 0 => am_call C a b C.2.2.1
      | _ => none
    | _ => none
/-- a return: what it asks, what comes back -/
def am_rtn (t : List am_I) (C : am_C) : Option (Prop × Option Value) := match t[C.1]? with
  | none => none
  | some (_, ins, a, _, _, _, _, _) => match ins with
    | .ireturn => match C.2.2.1 with
      | .int x :: [] => some (am_rp a x, some (.int x))
      | _ => none
    | .lreturn => match C.2.2.1 with
      | .long x :: [] => some (True, some (.long x))
      | _ => none
    | .areturn => match C.2.2.1 with
      | .ref x :: [] => some (True, some (.ref x))
      | _ => none
    | .return_ => match C.2.2.1 with
      | [] => some (True, none)
      | _ => none
    | _ => none
def am_entry (k : Nat) (args : List Value) : am_L := am_exp args ++ List.replicate (am_ml k - (am_exp args).length) none
/-- the run of method k from C ends with r and memory M, within n steps -/
def am_run (sc : am_Sc) (n : Nat) (k : Nat) (C : am_C) (r : Option Value) (M : am_M) : Prop := match n with
  | 0 => False
  | n + 1 => (∃ (P : Prop) (C' : am_C), am_step (am_tab k) sc C = some (P, C') ∧ P ∧ am_run sc n k C' r M) ∨
    (∃ (z : Nat) (args : List Value) (j : Nat) (ls : am_L) (st : List Value) (M1 : am_M) (r1 : Option Value) (M2 : am_M), am_inv (am_tab k) C = some (z, args, (j, ls, st, M1)) ∧ am_run sc n z (0, am_entry z args, [], M1) r1 M2 ∧ am_run sc n k (j, ls, r1.toList ++ st, M2) r M) ∨
    (∃ P : Prop, am_rtn (am_tab k) C = some (P, r) ∧ P ∧ C.2.2.2 = M)
/-- from C method k comes to an end with K -/
def am_Rn (sc : am_Sc) (k : Nat) (C : am_C) (K : Option Value → am_M → Prop) : Prop := ∃ (n : Nat) (r : Option Value) (M : am_M), am_run sc n k C r M ∧ K r M
theorem am_run_mono (sc : am_Sc) : ∀ (n k : Nat) (C : am_C) (r : Option Value) (M : am_M), am_run sc n k C r M → ∀ m, n ≤ m → am_run sc m k C r M := by
  intro n
  induction n with
  | zero => intro k C r M h; exact h.elim
  | succ n ih =>
    intro k C r M h m hm
    obtain ⟨m, rfl⟩ : ∃ m', m = m' + 1 := ⟨m - 1, by omega⟩
    unfold am_run at h ⊢
    rcases h with ⟨P, C', e, hP, h⟩ | ⟨z, args, j, ls, st, M1, r1, M2, e, h1, h2⟩ | h
    · exact Or.inl ⟨P, C', e, hP, ih _ _ _ _ h m (by omega)⟩
    · exact Or.inr (Or.inl ⟨z, args, j, ls, st, M1, r1, M2, e, ih _ _ _ _ h1 m (by omega), ih _ _ _ _ h2 m (by omega)⟩)
    · exact Or.inr (Or.inr h)
/-- j plain steps, what they ask, and where they come to -/
def am_go (t : List am_I) (sc : am_Sc) (n : Nat) (C : am_C) : Option (Prop × am_C) := match n with
  | 0 => some (True, C)
  | n + 1 => match am_step t sc C with
    | some (P, C') => match am_go t sc n C' with
      | some (Q, C'') => some (P ∧ Q, C'')
      | none => none
    | _ => none
theorem am_Rn.one {sc : am_Sc} {k : Nat} {C C' : am_C} {P : Prop} {K : Option Value → am_M → Prop} (h : am_step (am_tab k) sc C = some (P, C')) (hP : P) (hk : am_Rn sc k C' K) : am_Rn sc k C K := by
  obtain ⟨n, r, M, h1, h2⟩ := hk
  refine ⟨n + 1, r, M, ?_, h2⟩
  unfold am_run
  exact Or.inl ⟨P, C', h, hP, h1⟩
theorem am_Rn.go {sc : am_Sc} {k : Nat} {t : List am_I} (ht : am_tab k = t) (n : Nat) {C C' : am_C} {P : Prop} {K : Option Value → am_M → Prop} (h : am_go t sc n C = some (P, C')) (hP : P) (hk : am_Rn sc k C' K) : am_Rn sc k C K := by
  subst ht
  induction n generalizing C P with
  | zero =>
    have e := Prod.mk.inj (Option.some.inj h)
    rw [e.2]
    exact hk
  | succ n ih =>
    unfold am_go at h
    split at h
    · next P1 C1 e1 =>
      split at h
      · next Q C2 e2 =>
        have e := Prod.mk.inj (Option.some.inj h)
        have e0 : (P1 ∧ Q) := by rw [e.1]; exact hP
        refine am_Rn.one e1 e0.1 ?_
        exact ih (P := Q) e0.2 (by rw [e2, e.2])
      · cases h
    · cases h
theorem am_Rn.ret {sc : am_Sc} {k : Nat} {t : List am_I} (ht : am_tab k = t) {j : Nat} {ls : am_L} {st : List Value} {r : Option Value} {M : am_M} {K : Option Value → am_M → Prop} {P : Prop} (h : am_rtn t (j, ls, st, M) = some (P, r)) (hP : P) (hK : K r M) : am_Rn sc k (j, ls, st, M) K := by
  subst ht
  refine ⟨1, r, M, ?_, hK⟩
  unfold am_run
  exact Or.inr (Or.inr ⟨P, h, hP, rfl⟩)
theorem am_Rn.call {sc : am_Sc} {k : Nat} {t : List am_I} (ht : am_tab k = t) {C : am_C} {z j : Nat} {args st : List Value} {ls : am_L} {M : am_M} {K1 K : Option Value → am_M → Prop} (h : am_inv t C = some (z, args, (j, ls, st, M))) (hc : am_Rn sc z (0, am_entry z args, [], M) K1) (hk : ∀ r M', K1 r M' → am_Rn sc k (j, ls, r.toList ++ st, M') K) : am_Rn sc k C K := by
  subst ht
  obtain ⟨n1, r1, M1, h1, h2⟩ := hc
  obtain ⟨n2, r2, M2, h3, h4⟩ := hk r1 M1 h2
  refine ⟨(n1 + n2) + 1, r2, M2, ?_, h4⟩
  unfold am_run
  exact Or.inr (Or.inl ⟨z, args, j, ls, st, M, r1, M1, h, am_run_mono sc _ _ _ _ _ h1 _ (by omega), am_run_mono sc _ _ _ _ _ h3 _ (by omega)⟩)
theorem am_Rn.br {sc : am_Sc} {k a b : Nat} {ls : am_L} {st : List Value} {M : am_M} {K : Option Value → am_M → Prop} {c : Prop} {d : Decidable c} (h1 : c → am_Rn sc k (a, ls, st, M) K) (h2 : ¬ c → am_Rn sc k (b, ls, st, M) K) : am_Rn sc k (@ite Nat c d a b, ls, st, M) K := by
  by_cases h : c
  · rw [if_pos h]; exact h1 h
  · rw [if_neg h]; exact h2 h
theorem am_Rn.imp {sc : am_Sc} {k : Nat} {C : am_C} {K K' : Option Value → am_M → Prop} (h : am_Rn sc k C K) (hk : ∀ r M, K r M → K' r M) : am_Rn sc k C K' := by
  obtain ⟨n, r, M, h1, h2⟩ := h
  exact ⟨n, r, M, h1, hk r M h2⟩

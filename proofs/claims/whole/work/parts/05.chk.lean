/-! ===== each entry of the tables is what the bytes say (checked by program) ===== -/
def am_d (k pc : Nat) (ins : Instr) (n : Nat) : Bool := decide (decode (am_cd k) pc = .ok (ins, n))
def am_dl (k pc : Nat) (ins : Instr) : Bool := match decode (am_cd k) pc with
  | .ok (i, _) => decide (i = ins)
  | .error _ => false
def am_dn (k j pc : Nat) (ins : Instr) (n : Nat) : Bool := am_d k pc ins n && Nat.beq (am_pc k (j + 1)) (pc + n)
def am_off (k pc : Nat) (off : Int) (t : Nat) : Bool := decide ((pc : Int) + off = (am_pc k t : Int))
def am_flb (lk k i a b : Nat) : Bool := match am_fls[lk]? with
  | some (o, i', a', b', _) => Nat.beq o (am_ow k) && Nat.beq i' i && Nat.beq a' a && Nat.beq b' b
  | none => false
def am_slb (lk k i a : Nat) : Bool := match am_sls[lk]? with
  | some (o, i', a', _, _) => Nat.beq o (am_ow k) && Nat.beq i' i && Nat.beq a' a
  | none => false
def am_kb (lk k i : Nat) (z : Int32) : Bool := match am_kls[lk]? with
  | some (o, i', z', _) => Nat.beq o (am_ow k) && Nat.beq i' i && decide (z' = z)
  | none => false
def am_lb (a k i : Nat) : Bool := match am_lls[a]?, am_lc[a]? with
  | some (o, i', z', _), some v => Nat.beq o (am_ow k) && Nat.beq i' i && decide (z' = v)
  | _, _ => false
def am_nlb (lk k i a : Nat) : Bool := match am_nls[lk]? with
  | some (o, i', a', _) => Nat.beq o (am_ow k) && Nat.beq i' i && Nat.beq a' a
  | none => false
def am_mlb (lk k i a : Nat) (nest : Bool) : Bool := match am_mls2[lk]? with
  | some (o, i', a', ne, _) => Nat.beq o (am_ow k) && Nat.beq i' i && Nat.beq a' a && (nest || Nat.beq ne 0)
  | none => false
def am_cal (k z b kind rc : Nat) : Bool := Nat.blt z 172 && Nat.beq (am_pl z).1 kind && Nat.beq ((am_pl z).2.2.2.2.2 + rc) b && Nat.ble (am_fr z + 1) (am_fr k) && Nat.ble (8 + (am_ml z + 11) + am_lo z) (am_lo k)
def am_ckt (k pc : Nat) (lo : Int) (L : List (Int32 × Nat)) (os : List Int) : Bool := match L, os with
  | [], _ => true
  | (v, n) :: L, o :: os => decide (v.toInt = lo) && am_off k pc o n && am_ckt k pc (lo + 1) L os
  | _ :: _, [] => false
def am_ckl (k pc : Nat) (L : List (Int32 × Nat)) (ps : List (Int × Int)) : Bool := match L, ps with
  | [], [] => true
  | (v, n) :: L, (a, o) :: ps => decide (v.toInt = a) && am_off k pc o n && am_ckl k pc L ps
  | _, _ => false
def am_okb (k j : Nat) (e : am_I) : Bool := match e with
  | (pc, ins, a, b, c, kd, lk, z) => match ins with
    | .iconst n => am_dn k j pc ins 1 && decide (Int32.ofInt n = z)
    | .bipush n => am_dn k j pc ins 2 && decide ((Int8.ofInt n).toInt32 = z)
    | .sipush n => am_dn k j pc ins 3 && decide ((Int16.ofInt n).toInt32 = z)
    | .lconst _ => am_dn k j pc ins 1
    | .ldc i => am_dn k j pc ins 2 && (match kd with
      | 0 => am_kb lk k i z
      | _ => Nat.beq (am_ow k) 2 && Nat.beq i 118)
    | .ldc2_w i => am_dn k j pc ins 3 && am_lb a k i
    | .iload_n _ => am_dn k j pc ins 1
    | .iload _ => am_dn k j pc ins 2
    | .aload_n _ => am_dn k j pc ins 1
    | .aload _ => am_dn k j pc ins 2
    | .lload_n _ => am_dn k j pc ins 1
    | .lload _ => am_dn k j pc ins 2
    | .istore_n _ => am_dn k j pc ins 1
    | .istore _ => am_dn k j pc ins 2
    | .astore_n _ => am_dn k j pc ins 1
    | .astore _ => am_dn k j pc ins 2
    | .lstore_n _ => am_dn k j pc ins 1
    | .lstore _ => am_dn k j pc ins 2
    | .iinc _ d => am_dn k j pc ins 3 && decide (Int32.ofInt d = z)
    | .iadd => am_dn k j pc ins 1
    | .isub => am_dn k j pc ins 1
    | .imul => am_dn k j pc ins 1
    | .iand => am_dn k j pc ins 1
    | .ior => am_dn k j pc ins 1
    | .ishl => am_dn k j pc ins 1
    | .ishr => am_dn k j pc ins 1
    | .iushr => am_dn k j pc ins 1
    | .ineg => am_dn k j pc ins 1
    | .idiv => am_dn k j pc ins 1
    | .irem => am_dn k j pc ins 1
    | .ladd => am_dn k j pc ins 1
    | .lmul => am_dn k j pc ins 1
    | .land => am_dn k j pc ins 1
    | .lor => am_dn k j pc ins 1
    | .ldiv => am_dn k j pc ins 1
    | .lshl => am_dn k j pc ins 1
    | .lshr => am_dn k j pc ins 1
    | .lcmp => am_dn k j pc ins 1
    | .i2l => am_dn k j pc ins 1
    | .l2i => am_dn k j pc ins 1
    | .i2b => am_dn k j pc ins 1
    | .i2c => am_dn k j pc ins 1
    | .dup => am_dn k j pc ins 1
    | .dup2 => am_dn k j pc ins 1
    | .pop => am_dn k j pc ins 1
    | .iaload => am_dn k j pc ins 1
    | .baload => am_dn k j pc ins 1
    | .iastore => am_dn k j pc ins 1
    | .bastore => am_dn k j pc ins 1
    | .arraylength => am_dn k j pc ins 1
    | .ifCond _ off => am_dn k j pc ins 3 && am_off k pc off a
    | .if_icmp _ off => am_dn k j pc ins 3 && am_off k pc off a
    | .goto off => am_d k pc ins 3 && am_off k pc off a
    | .tableswitch d lo hi offs => am_dl k pc ins && (match am_swt[a]? with
      | some (L, dd) => am_off k pc d dd && decide (hi = lo + L.length - 1) && am_ckt k pc lo L offs.toList
      | none => true)
    | .lookupswitch d ps => am_dl k pc ins && (match am_swt[a]? with
      | some (L, dd) => am_off k pc d dd && am_ckl k pc L ps.toList && (ps.toList.zip (ps.toList.drop 1)).all (fun (a, next) => a.1 < next.1)
      | none => true)
    | .getfield i => am_dn k j pc ins 3 && (match kd with
      | 0 => am_flb lk k i a b && Nat.blt a 8
      | _ => am_flb lk k i 9 b)
    | .putfield i => am_dn k j pc ins 3 && am_flb lk k i a b && Nat.blt a 8 && Nat.beq (am_fkd a b) kd && Nat.ble kd 3 && (Nat.ble kd 2 || (am_isI k && Nat.beq a (am_ow k)))
    | .getstatic i => am_dn k j pc ins 3 && am_slb lk k i a
    | .new i => am_dn k j pc ins 3 && am_nlb lk k i a && Nat.blt a 8
    | .newarray _ => am_dn k j pc ins 2
    | .invokevirtual i => am_dn k j pc ins 3 && (match kd with
      | 0 => am_mlb lk k i a false && Nat.blt a 1000 && am_cal k a b 1 1 && ((Nat.beq c 100 && Nat.beq (am_ow a) 9) || (Nat.beq c (am_ow a) && Nat.blt c 8))
      | _ => true)
    | .invokespecial i => am_dn k j pc ins 3 && (match kd with
      | 0 => am_mlb lk k i a true && Nat.blt a 1000 && am_cal k a b 2 1
      | 5 => am_mlb lk k i 1005 false && Nat.ble 1 (am_fr k) && Nat.ble 20 (am_lo k)
      | 6 => am_mlb lk k i a true && Nat.blt a 1000 && am_cal k a b 2 1
      | _ => true)
    | .invokestatic i => am_dn k j pc ins 3 && (match kd with
      | 0 => am_mlb lk k i a false && Nat.blt a 1000 && am_cal k a b 0 0
      | n + 1 => (match Nat.ble n 3 with
        | true => am_mlb lk k i (1001 + n) false && Nat.ble 1 (am_fr k) && Nat.ble 26 (am_lo k)
        | false => true))
    | .ireturn => am_d k pc ins 1 && (match a with
      | 0 => decide (am_rt k = some .int)
      | 1 => decide (am_rt k = some .boolean)
      | 2 => decide (am_rt k = some .char)
      | _ => decide (am_rt k = some .byte))
    | .lreturn => am_d k pc ins 1 && decide (am_rt k = some .long)
    | .areturn => am_d k pc ins 1 && (match am_rt k with
      | some (.object _) => true
      | _ => false)
    | .return_ => am_d k pc ins 1 && decide (am_rt k = none)
    | _ => true
def am_ckg (k j : Nat) (t : List am_I) : Bool := match t with
  | [] => true
  | e :: t => am_okb k j e && am_ckg k (j + 1) t
theorem am_ckg_spec (k : Nat) : ∀ (t : List am_I) (j : Nat), am_ckg k j t = true → ∀ (i : Nat) (e : am_I), t[i]? = some e → am_okb k (j + i) e = true := by
  intro t
  induction t with
  | nil => intro j _ i e h; simp at h
  | cons a t ih =>
    intro j h i e he
    simp only [am_ckg, Bool.and_eq_true] at h
    cases i with
    | zero => simp at he; subst he; exact h.1
    | succ i =>
      simp at he
      have := ih (j + 1) h.2 i e he
      rw [show j + (i + 1) = j + 1 + i by omega]
      exact this

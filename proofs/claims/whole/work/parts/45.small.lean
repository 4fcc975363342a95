theorem am_maxT {a b : Int32} (h : a ≤ b) : (if a < b then b else a) = b := by
  split
  · rfl
  · next q => exact Int32.le_antisymm h (Int32.not_lt.mp q)
theorem am_maxF {a b : Int32} (h : ¬ a ≤ b) : (if a < b then b else a) = a := if_neg (fun q => h (Int32.le_of_lt q))
theorem mm_of0 (sc : am_Sc) (p : Nat) (hp : p < 9) (tr : Int64) (ty nx tk pl va fa dp cm : Int32) (tx nu dn la me tc ts ps : Nat → Int32) (P : Nat) (rd pr pv sa pd lo : Int32) (bo co sh se si er of_ sp ke ik bi bt so nr ou ho cl : Nat → Int32) (B0 B1 B2 B3 B4 B5 B6 B7 B8 B9 B10 B11 B12 : List am_E) (Bs : am_M) : am_Rn sc 113 (0, am_entry 113 [.ref 416, .int (Int32.ofNat p), .int 0], [], B0 :: B1 :: B2 :: B3 :: B4 :: B5 :: B6 :: B7 :: B8 :: B9 :: B10 :: B11 :: B12 :: bkModel tr ty nx tk pl va fa (Int32.ofNat P) dp cm tx (mp_ru nu dn) (mp_ps (mp_q la me tc ts) ps) (mp_s rd pr pv sa pd lo bo co sh se si er of_) sp ke ik bi bt so nr ou ho cl :: Bs) (fun r M' => r = some (.int (co p)) ∧ M' = B0 :: B1 :: B2 :: B3 :: B4 :: B5 :: B6 :: B7 :: B8 :: B9 :: B10 :: B11 :: B12 :: bkModel tr ty nx tk pl va fa (Int32.ofNat P) dp cm tx (mp_ru nu dn) (mp_ps (mp_q la me tc ts) ps) (mp_s rd pr pv sa pd lo bo co sh se si er of_) sp ke ik bi bt so nr ou ho cl :: Bs) := by
  show am_Rn sc 113 (0, [some (.ref 416), some (.int (Int32.ofNat p)), some (.int 0)], [], _) _
  refine am_Rn.go (t := am_t113) rfl 10 rfl ⟨trivial, trivial, trivial, trivial, trivial, trivial, trivial, trivial, trivial, (by exact am_inb6 (k := 0) hp (by omega)), trivial⟩ ?_
  refine am_Rn.ret (t := am_t113) rfl rfl trivial ?_
  refine ⟨congrArg (fun z => some (Value.int z)) ?_, rfl⟩
  show (mp_s rd pr pv sa pd lo bo co sh se si er of_) (26 + 6 * Int32.ofNat p + Int32.ofNat 0).toNatClampNeg = _
  rw [am_tn6 hp (by omega), mp_of _ _ _ _ _ _ _ _ _ _ _ _ _ hp (by omega)]
  rfl
theorem mm_puts0 (sc : am_Sc) (p : Nat) (hp : p < 9) (v : Int32) (tr : Int64) (ty nx tk pl va fa dp cm : Int32) (tx nu dn la me tc ts ps : Nat → Int32) (P : Nat) (rd pr pv sa pd lo : Int32) (bo co sh se si er of_ sp ke ik bi bt so nr ou ho cl : Nat → Int32) (B0 B1 B2 B3 B4 B5 B6 B7 B8 B9 B10 B11 B12 : List am_E) (Bs : am_M) : am_Rn sc 114 (0, am_entry 114 [.ref 416, .int (Int32.ofNat p), .int 0, .int v], [], B0 :: B1 :: B2 :: B3 :: B4 :: B5 :: B6 :: B7 :: B8 :: B9 :: B10 :: B11 :: B12 :: bkModel tr ty nx tk pl va fa (Int32.ofNat P) dp cm tx (mp_ru nu dn) (mp_ps (mp_q la me tc ts) ps) (mp_s rd pr pv sa pd lo bo co sh se si er of_) sp ke ik bi bt so nr ou ho cl :: Bs) (fun r M' => r = none ∧ M' = B0 :: B1 :: B2 :: B3 :: B4 :: B5 :: B6 :: B7 :: B8 :: B9 :: B10 :: B11 :: B12 :: bkModel tr ty nx tk pl va fa (Int32.ofNat P) dp cm tx (mp_ru nu dn) (mp_ps (mp_q la me tc ts) ps) (mp_s rd pr pv sa pd lo bo (upd co p v) sh se si er of_) sp ke ik bi bt so nr ou ho cl :: Bs) := by
  show am_Rn sc 114 (0, [some (.ref 416), some (.int (Int32.ofNat p)), some (.int 0), some (.int v)], [], _) _
  refine am_Rn.go (t := am_t114) rfl 11 rfl ⟨trivial, trivial, trivial, trivial, trivial, trivial, trivial, trivial, trivial, trivial, (by exact am_inb6 (k := 0) hp (by omega)), trivial⟩ ?_
  show am_Rn sc 114 (11, _, _, B0 :: B1 :: B2 :: B3 :: B4 :: B5 :: B6 :: B7 :: B8 :: B9 :: B10 :: B11 :: B12 :: bkModel tr ty nx tk pl va fa (Int32.ofNat P) dp cm tx (mp_ru nu dn) (mp_ps (mp_q la me tc ts) ps) (upd (mp_s rd pr pv sa pd lo bo co sh se si er of_) (26 + 6 * Int32.ofNat p + Int32.ofNat 0).toNatClampNeg v) sp ke ik bi bt so nr ou ho cl :: Bs) _
  rw [am_tn6 hp (by omega), mp_puts0 _ _ _ _ _ _ _ _ _ _ _ _ _ hp]
  refine am_Rn.ret (t := am_t114) rfl rfl trivial ?_
  exact ⟨rfl, rfl⟩
theorem mm_of1 (sc : am_Sc) (p : Nat) (hp : p < 9) (tr : Int64) (ty nx tk pl va fa dp cm : Int32) (tx nu dn la me tc ts ps : Nat → Int32) (P : Nat) (rd pr pv sa pd lo : Int32) (bo co sh se si er of_ sp ke ik bi bt so nr ou ho cl : Nat → Int32) (B0 B1 B2 B3 B4 B5 B6 B7 B8 B9 B10 B11 B12 : List am_E) (Bs : am_M) : am_Rn sc 113 (0, am_entry 113 [.ref 416, .int (Int32.ofNat p), .int 1], [], B0 :: B1 :: B2 :: B3 :: B4 :: B5 :: B6 :: B7 :: B8 :: B9 :: B10 :: B11 :: B12 :: bkModel tr ty nx tk pl va fa (Int32.ofNat P) dp cm tx (mp_ru nu dn) (mp_ps (mp_q la me tc ts) ps) (mp_s rd pr pv sa pd lo bo co sh se si er of_) sp ke ik bi bt so nr ou ho cl :: Bs) (fun r M' => r = some (.int (sh p)) ∧ M' = B0 :: B1 :: B2 :: B3 :: B4 :: B5 :: B6 :: B7 :: B8 :: B9 :: B10 :: B11 :: B12 :: bkModel tr ty nx tk pl va fa (Int32.ofNat P) dp cm tx (mp_ru nu dn) (mp_ps (mp_q la me tc ts) ps) (mp_s rd pr pv sa pd lo bo co sh se si er of_) sp ke ik bi bt so nr ou ho cl :: Bs) := by
  show am_Rn sc 113 (0, [some (.ref 416), some (.int (Int32.ofNat p)), some (.int 1)], [], _) _
  refine am_Rn.go (t := am_t113) rfl 10 rfl ⟨trivial, trivial, trivial, trivial, trivial, trivial, trivial, trivial, trivial, (by exact am_inb6 (k := 1) hp (by omega)), trivial⟩ ?_
  refine am_Rn.ret (t := am_t113) rfl rfl trivial ?_
  refine ⟨congrArg (fun z => some (Value.int z)) ?_, rfl⟩
  show (mp_s rd pr pv sa pd lo bo co sh se si er of_) (26 + 6 * Int32.ofNat p + Int32.ofNat 1).toNatClampNeg = _
  rw [am_tn6 hp (by omega), mp_of _ _ _ _ _ _ _ _ _ _ _ _ _ hp (by omega)]
  rfl
theorem mm_puts1 (sc : am_Sc) (p : Nat) (hp : p < 9) (v : Int32) (tr : Int64) (ty nx tk pl va fa dp cm : Int32) (tx nu dn la me tc ts ps : Nat → Int32) (P : Nat) (rd pr pv sa pd lo : Int32) (bo co sh se si er of_ sp ke ik bi bt so nr ou ho cl : Nat → Int32) (B0 B1 B2 B3 B4 B5 B6 B7 B8 B9 B10 B11 B12 : List am_E) (Bs : am_M) : am_Rn sc 114 (0, am_entry 114 [.ref 416, .int (Int32.ofNat p), .int 1, .int v], [], B0 :: B1 :: B2 :: B3 :: B4 :: B5 :: B6 :: B7 :: B8 :: B9 :: B10 :: B11 :: B12 :: bkModel tr ty nx tk pl va fa (Int32.ofNat P) dp cm tx (mp_ru nu dn) (mp_ps (mp_q la me tc ts) ps) (mp_s rd pr pv sa pd lo bo co sh se si er of_) sp ke ik bi bt so nr ou ho cl :: Bs) (fun r M' => r = none ∧ M' = B0 :: B1 :: B2 :: B3 :: B4 :: B5 :: B6 :: B7 :: B8 :: B9 :: B10 :: B11 :: B12 :: bkModel tr ty nx tk pl va fa (Int32.ofNat P) dp cm tx (mp_ru nu dn) (mp_ps (mp_q la me tc ts) ps) (mp_s rd pr pv sa pd lo bo co (upd sh p v) se si er of_) sp ke ik bi bt so nr ou ho cl :: Bs) := by
  show am_Rn sc 114 (0, [some (.ref 416), some (.int (Int32.ofNat p)), some (.int 1), some (.int v)], [], _) _
  refine am_Rn.go (t := am_t114) rfl 11 rfl ⟨trivial, trivial, trivial, trivial, trivial, trivial, trivial, trivial, trivial, trivial, (by exact am_inb6 (k := 1) hp (by omega)), trivial⟩ ?_
  show am_Rn sc 114 (11, _, _, B0 :: B1 :: B2 :: B3 :: B4 :: B5 :: B6 :: B7 :: B8 :: B9 :: B10 :: B11 :: B12 :: bkModel tr ty nx tk pl va fa (Int32.ofNat P) dp cm tx (mp_ru nu dn) (mp_ps (mp_q la me tc ts) ps) (upd (mp_s rd pr pv sa pd lo bo co sh se si er of_) (26 + 6 * Int32.ofNat p + Int32.ofNat 1).toNatClampNeg v) sp ke ik bi bt so nr ou ho cl :: Bs) _
  rw [am_tn6 hp (by omega), mp_puts1 _ _ _ _ _ _ _ _ _ _ _ _ _ hp]
  refine am_Rn.ret (t := am_t114) rfl rfl trivial ?_
  exact ⟨rfl, rfl⟩
theorem mm_of2 (sc : am_Sc) (p : Nat) (hp : p < 9) (tr : Int64) (ty nx tk pl va fa dp cm : Int32) (tx nu dn la me tc ts ps : Nat → Int32) (P : Nat) (rd pr pv sa pd lo : Int32) (bo co sh se si er of_ sp ke ik bi bt so nr ou ho cl : Nat → Int32) (B0 B1 B2 B3 B4 B5 B6 B7 B8 B9 B10 B11 B12 : List am_E) (Bs : am_M) : am_Rn sc 113 (0, am_entry 113 [.ref 416, .int (Int32.ofNat p), .int 2], [], B0 :: B1 :: B2 :: B3 :: B4 :: B5 :: B6 :: B7 :: B8 :: B9 :: B10 :: B11 :: B12 :: bkModel tr ty nx tk pl va fa (Int32.ofNat P) dp cm tx (mp_ru nu dn) (mp_ps (mp_q la me tc ts) ps) (mp_s rd pr pv sa pd lo bo co sh se si er of_) sp ke ik bi bt so nr ou ho cl :: Bs) (fun r M' => r = some (.int (se p)) ∧ M' = B0 :: B1 :: B2 :: B3 :: B4 :: B5 :: B6 :: B7 :: B8 :: B9 :: B10 :: B11 :: B12 :: bkModel tr ty nx tk pl va fa (Int32.ofNat P) dp cm tx (mp_ru nu dn) (mp_ps (mp_q la me tc ts) ps) (mp_s rd pr pv sa pd lo bo co sh se si er of_) sp ke ik bi bt so nr ou ho cl :: Bs) := by
  show am_Rn sc 113 (0, [some (.ref 416), some (.int (Int32.ofNat p)), some (.int 2)], [], _) _
  refine am_Rn.go (t := am_t113) rfl 10 rfl ⟨trivial, trivial, trivial, trivial, trivial, trivial, trivial, trivial, trivial, (by exact am_inb6 (k := 2) hp (by omega)), trivial⟩ ?_
  refine am_Rn.ret (t := am_t113) rfl rfl trivial ?_
  refine ⟨congrArg (fun z => some (Value.int z)) ?_, rfl⟩
  show (mp_s rd pr pv sa pd lo bo co sh se si er of_) (26 + 6 * Int32.ofNat p + Int32.ofNat 2).toNatClampNeg = _
  rw [am_tn6 hp (by omega), mp_of _ _ _ _ _ _ _ _ _ _ _ _ _ hp (by omega)]
  rfl
theorem mm_puts2 (sc : am_Sc) (p : Nat) (hp : p < 9) (v : Int32) (tr : Int64) (ty nx tk pl va fa dp cm : Int32) (tx nu dn la me tc ts ps : Nat → Int32) (P : Nat) (rd pr pv sa pd lo : Int32) (bo co sh se si er of_ sp ke ik bi bt so nr ou ho cl : Nat → Int32) (B0 B1 B2 B3 B4 B5 B6 B7 B8 B9 B10 B11 B12 : List am_E) (Bs : am_M) : am_Rn sc 114 (0, am_entry 114 [.ref 416, .int (Int32.ofNat p), .int 2, .int v], [], B0 :: B1 :: B2 :: B3 :: B4 :: B5 :: B6 :: B7 :: B8 :: B9 :: B10 :: B11 :: B12 :: bkModel tr ty nx tk pl va fa (Int32.ofNat P) dp cm tx (mp_ru nu dn) (mp_ps (mp_q la me tc ts) ps) (mp_s rd pr pv sa pd lo bo co sh se si er of_) sp ke ik bi bt so nr ou ho cl :: Bs) (fun r M' => r = none ∧ M' = B0 :: B1 :: B2 :: B3 :: B4 :: B5 :: B6 :: B7 :: B8 :: B9 :: B10 :: B11 :: B12 :: bkModel tr ty nx tk pl va fa (Int32.ofNat P) dp cm tx (mp_ru nu dn) (mp_ps (mp_q la me tc ts) ps) (mp_s rd pr pv sa pd lo bo co sh (upd se p v) si er of_) sp ke ik bi bt so nr ou ho cl :: Bs) := by
  show am_Rn sc 114 (0, [some (.ref 416), some (.int (Int32.ofNat p)), some (.int 2), some (.int v)], [], _) _
  refine am_Rn.go (t := am_t114) rfl 11 rfl ⟨trivial, trivial, trivial, trivial, trivial, trivial, trivial, trivial, trivial, trivial, (by exact am_inb6 (k := 2) hp (by omega)), trivial⟩ ?_
  show am_Rn sc 114 (11, _, _, B0 :: B1 :: B2 :: B3 :: B4 :: B5 :: B6 :: B7 :: B8 :: B9 :: B10 :: B11 :: B12 :: bkModel tr ty nx tk pl va fa (Int32.ofNat P) dp cm tx (mp_ru nu dn) (mp_ps (mp_q la me tc ts) ps) (upd (mp_s rd pr pv sa pd lo bo co sh se si er of_) (26 + 6 * Int32.ofNat p + Int32.ofNat 2).toNatClampNeg v) sp ke ik bi bt so nr ou ho cl :: Bs) _
  rw [am_tn6 hp (by omega), mp_puts2 _ _ _ _ _ _ _ _ _ _ _ _ _ hp]
  refine am_Rn.ret (t := am_t114) rfl rfl trivial ?_
  exact ⟨rfl, rfl⟩
theorem mm_of3 (sc : am_Sc) (p : Nat) (hp : p < 9) (tr : Int64) (ty nx tk pl va fa dp cm : Int32) (tx nu dn la me tc ts ps : Nat → Int32) (P : Nat) (rd pr pv sa pd lo : Int32) (bo co sh se si er of_ sp ke ik bi bt so nr ou ho cl : Nat → Int32) (B0 B1 B2 B3 B4 B5 B6 B7 B8 B9 B10 B11 B12 : List am_E) (Bs : am_M) : am_Rn sc 113 (0, am_entry 113 [.ref 416, .int (Int32.ofNat p), .int 3], [], B0 :: B1 :: B2 :: B3 :: B4 :: B5 :: B6 :: B7 :: B8 :: B9 :: B10 :: B11 :: B12 :: bkModel tr ty nx tk pl va fa (Int32.ofNat P) dp cm tx (mp_ru nu dn) (mp_ps (mp_q la me tc ts) ps) (mp_s rd pr pv sa pd lo bo co sh se si er of_) sp ke ik bi bt so nr ou ho cl :: Bs) (fun r M' => r = some (.int (si p)) ∧ M' = B0 :: B1 :: B2 :: B3 :: B4 :: B5 :: B6 :: B7 :: B8 :: B9 :: B10 :: B11 :: B12 :: bkModel tr ty nx tk pl va fa (Int32.ofNat P) dp cm tx (mp_ru nu dn) (mp_ps (mp_q la me tc ts) ps) (mp_s rd pr pv sa pd lo bo co sh se si er of_) sp ke ik bi bt so nr ou ho cl :: Bs) := by
  show am_Rn sc 113 (0, [some (.ref 416), some (.int (Int32.ofNat p)), some (.int 3)], [], _) _
  refine am_Rn.go (t := am_t113) rfl 10 rfl ⟨trivial, trivial, trivial, trivial, trivial, trivial, trivial, trivial, trivial, (by exact am_inb6 (k := 3) hp (by omega)), trivial⟩ ?_
  refine am_Rn.ret (t := am_t113) rfl rfl trivial ?_
  refine ⟨congrArg (fun z => some (Value.int z)) ?_, rfl⟩
  show (mp_s rd pr pv sa pd lo bo co sh se si er of_) (26 + 6 * Int32.ofNat p + Int32.ofNat 3).toNatClampNeg = _
  rw [am_tn6 hp (by omega), mp_of _ _ _ _ _ _ _ _ _ _ _ _ _ hp (by omega)]
  rfl
theorem mm_puts3 (sc : am_Sc) (p : Nat) (hp : p < 9) (v : Int32) (tr : Int64) (ty nx tk pl va fa dp cm : Int32) (tx nu dn la me tc ts ps : Nat → Int32) (P : Nat) (rd pr pv sa pd lo : Int32) (bo co sh se si er of_ sp ke ik bi bt so nr ou ho cl : Nat → Int32) (B0 B1 B2 B3 B4 B5 B6 B7 B8 B9 B10 B11 B12 : List am_E) (Bs : am_M) : am_Rn sc 114 (0, am_entry 114 [.ref 416, .int (Int32.ofNat p), .int 3, .int v], [], B0 :: B1 :: B2 :: B3 :: B4 :: B5 :: B6 :: B7 :: B8 :: B9 :: B10 :: B11 :: B12 :: bkModel tr ty nx tk pl va fa (Int32.ofNat P) dp cm tx (mp_ru nu dn) (mp_ps (mp_q la me tc ts) ps) (mp_s rd pr pv sa pd lo bo co sh se si er of_) sp ke ik bi bt so nr ou ho cl :: Bs) (fun r M' => r = none ∧ M' = B0 :: B1 :: B2 :: B3 :: B4 :: B5 :: B6 :: B7 :: B8 :: B9 :: B10 :: B11 :: B12 :: bkModel tr ty nx tk pl va fa (Int32.ofNat P) dp cm tx (mp_ru nu dn) (mp_ps (mp_q la me tc ts) ps) (mp_s rd pr pv sa pd lo bo co sh se (upd si p v) er of_) sp ke ik bi bt so nr ou ho cl :: Bs) := by
  show am_Rn sc 114 (0, [some (.ref 416), some (.int (Int32.ofNat p)), some (.int 3), some (.int v)], [], _) _
  refine am_Rn.go (t := am_t114) rfl 11 rfl ⟨trivial, trivial, trivial, trivial, trivial, trivial, trivial, trivial, trivial, trivial, (by exact am_inb6 (k := 3) hp (by omega)), trivial⟩ ?_
  show am_Rn sc 114 (11, _, _, B0 :: B1 :: B2 :: B3 :: B4 :: B5 :: B6 :: B7 :: B8 :: B9 :: B10 :: B11 :: B12 :: bkModel tr ty nx tk pl va fa (Int32.ofNat P) dp cm tx (mp_ru nu dn) (mp_ps (mp_q la me tc ts) ps) (upd (mp_s rd pr pv sa pd lo bo co sh se si er of_) (26 + 6 * Int32.ofNat p + Int32.ofNat 3).toNatClampNeg v) sp ke ik bi bt so nr ou ho cl :: Bs) _
  rw [am_tn6 hp (by omega), mp_puts3 _ _ _ _ _ _ _ _ _ _ _ _ _ hp]
  refine am_Rn.ret (t := am_t114) rfl rfl trivial ?_
  exact ⟨rfl, rfl⟩
theorem mm_of4 (sc : am_Sc) (p : Nat) (hp : p < 9) (tr : Int64) (ty nx tk pl va fa dp cm : Int32) (tx nu dn la me tc ts ps : Nat → Int32) (P : Nat) (rd pr pv sa pd lo : Int32) (bo co sh se si er of_ sp ke ik bi bt so nr ou ho cl : Nat → Int32) (B0 B1 B2 B3 B4 B5 B6 B7 B8 B9 B10 B11 B12 : List am_E) (Bs : am_M) : am_Rn sc 113 (0, am_entry 113 [.ref 416, .int (Int32.ofNat p), .int 4], [], B0 :: B1 :: B2 :: B3 :: B4 :: B5 :: B6 :: B7 :: B8 :: B9 :: B10 :: B11 :: B12 :: bkModel tr ty nx tk pl va fa (Int32.ofNat P) dp cm tx (mp_ru nu dn) (mp_ps (mp_q la me tc ts) ps) (mp_s rd pr pv sa pd lo bo co sh se si er of_) sp ke ik bi bt so nr ou ho cl :: Bs) (fun r M' => r = some (.int (er p)) ∧ M' = B0 :: B1 :: B2 :: B3 :: B4 :: B5 :: B6 :: B7 :: B8 :: B9 :: B10 :: B11 :: B12 :: bkModel tr ty nx tk pl va fa (Int32.ofNat P) dp cm tx (mp_ru nu dn) (mp_ps (mp_q la me tc ts) ps) (mp_s rd pr pv sa pd lo bo co sh se si er of_) sp ke ik bi bt so nr ou ho cl :: Bs) := by
  show am_Rn sc 113 (0, [some (.ref 416), some (.int (Int32.ofNat p)), some (.int 4)], [], _) _
  refine am_Rn.go (t := am_t113) rfl 10 rfl ⟨trivial, trivial, trivial, trivial, trivial, trivial, trivial, trivial, trivial, (by exact am_inb6 (k := 4) hp (by omega)), trivial⟩ ?_
  refine am_Rn.ret (t := am_t113) rfl rfl trivial ?_
  refine ⟨congrArg (fun z => some (Value.int z)) ?_, rfl⟩
  show (mp_s rd pr pv sa pd lo bo co sh se si er of_) (26 + 6 * Int32.ofNat p + Int32.ofNat 4).toNatClampNeg = _
  rw [am_tn6 hp (by omega), mp_of _ _ _ _ _ _ _ _ _ _ _ _ _ hp (by omega)]
  rfl
theorem mm_puts4 (sc : am_Sc) (p : Nat) (hp : p < 9) (v : Int32) (tr : Int64) (ty nx tk pl va fa dp cm : Int32) (tx nu dn la me tc ts ps : Nat → Int32) (P : Nat) (rd pr pv sa pd lo : Int32) (bo co sh se si er of_ sp ke ik bi bt so nr ou ho cl : Nat → Int32) (B0 B1 B2 B3 B4 B5 B6 B7 B8 B9 B10 B11 B12 : List am_E) (Bs : am_M) : am_Rn sc 114 (0, am_entry 114 [.ref 416, .int (Int32.ofNat p), .int 4, .int v], [], B0 :: B1 :: B2 :: B3 :: B4 :: B5 :: B6 :: B7 :: B8 :: B9 :: B10 :: B11 :: B12 :: bkModel tr ty nx tk pl va fa (Int32.ofNat P) dp cm tx (mp_ru nu dn) (mp_ps (mp_q la me tc ts) ps) (mp_s rd pr pv sa pd lo bo co sh se si er of_) sp ke ik bi bt so nr ou ho cl :: Bs) (fun r M' => r = none ∧ M' = B0 :: B1 :: B2 :: B3 :: B4 :: B5 :: B6 :: B7 :: B8 :: B9 :: B10 :: B11 :: B12 :: bkModel tr ty nx tk pl va fa (Int32.ofNat P) dp cm tx (mp_ru nu dn) (mp_ps (mp_q la me tc ts) ps) (mp_s rd pr pv sa pd lo bo co sh se si (upd er p v) of_) sp ke ik bi bt so nr ou ho cl :: Bs) := by
  show am_Rn sc 114 (0, [some (.ref 416), some (.int (Int32.ofNat p)), some (.int 4), some (.int v)], [], _) _
  refine am_Rn.go (t := am_t114) rfl 11 rfl ⟨trivial, trivial, trivial, trivial, trivial, trivial, trivial, trivial, trivial, trivial, (by exact am_inb6 (k := 4) hp (by omega)), trivial⟩ ?_
  show am_Rn sc 114 (11, _, _, B0 :: B1 :: B2 :: B3 :: B4 :: B5 :: B6 :: B7 :: B8 :: B9 :: B10 :: B11 :: B12 :: bkModel tr ty nx tk pl va fa (Int32.ofNat P) dp cm tx (mp_ru nu dn) (mp_ps (mp_q la me tc ts) ps) (upd (mp_s rd pr pv sa pd lo bo co sh se si er of_) (26 + 6 * Int32.ofNat p + Int32.ofNat 4).toNatClampNeg v) sp ke ik bi bt so nr ou ho cl :: Bs) _
  rw [am_tn6 hp (by omega), mp_puts4 _ _ _ _ _ _ _ _ _ _ _ _ _ hp]
  refine am_Rn.ret (t := am_t114) rfl rfl trivial ?_
  exact ⟨rfl, rfl⟩
theorem mm_of5 (sc : am_Sc) (p : Nat) (hp : p < 9) (tr : Int64) (ty nx tk pl va fa dp cm : Int32) (tx nu dn la me tc ts ps : Nat → Int32) (P : Nat) (rd pr pv sa pd lo : Int32) (bo co sh se si er of_ sp ke ik bi bt so nr ou ho cl : Nat → Int32) (B0 B1 B2 B3 B4 B5 B6 B7 B8 B9 B10 B11 B12 : List am_E) (Bs : am_M) : am_Rn sc 113 (0, am_entry 113 [.ref 416, .int (Int32.ofNat p), .int 5], [], B0 :: B1 :: B2 :: B3 :: B4 :: B5 :: B6 :: B7 :: B8 :: B9 :: B10 :: B11 :: B12 :: bkModel tr ty nx tk pl va fa (Int32.ofNat P) dp cm tx (mp_ru nu dn) (mp_ps (mp_q la me tc ts) ps) (mp_s rd pr pv sa pd lo bo co sh se si er of_) sp ke ik bi bt so nr ou ho cl :: Bs) (fun r M' => r = some (.int (of_ p)) ∧ M' = B0 :: B1 :: B2 :: B3 :: B4 :: B5 :: B6 :: B7 :: B8 :: B9 :: B10 :: B11 :: B12 :: bkModel tr ty nx tk pl va fa (Int32.ofNat P) dp cm tx (mp_ru nu dn) (mp_ps (mp_q la me tc ts) ps) (mp_s rd pr pv sa pd lo bo co sh se si er of_) sp ke ik bi bt so nr ou ho cl :: Bs) := by
  show am_Rn sc 113 (0, [some (.ref 416), some (.int (Int32.ofNat p)), some (.int 5)], [], _) _
  refine am_Rn.go (t := am_t113) rfl 10 rfl ⟨trivial, trivial, trivial, trivial, trivial, trivial, trivial, trivial, trivial, (by exact am_inb6 (k := 5) hp (by omega)), trivial⟩ ?_
  refine am_Rn.ret (t := am_t113) rfl rfl trivial ?_
  refine ⟨congrArg (fun z => some (Value.int z)) ?_, rfl⟩
  show (mp_s rd pr pv sa pd lo bo co sh se si er of_) (26 + 6 * Int32.ofNat p + Int32.ofNat 5).toNatClampNeg = _
  rw [am_tn6 hp (by omega), mp_of _ _ _ _ _ _ _ _ _ _ _ _ _ hp (by omega)]
  rfl
theorem mm_puts5 (sc : am_Sc) (p : Nat) (hp : p < 9) (v : Int32) (tr : Int64) (ty nx tk pl va fa dp cm : Int32) (tx nu dn la me tc ts ps : Nat → Int32) (P : Nat) (rd pr pv sa pd lo : Int32) (bo co sh se si er of_ sp ke ik bi bt so nr ou ho cl : Nat → Int32) (B0 B1 B2 B3 B4 B5 B6 B7 B8 B9 B10 B11 B12 : List am_E) (Bs : am_M) : am_Rn sc 114 (0, am_entry 114 [.ref 416, .int (Int32.ofNat p), .int 5, .int v], [], B0 :: B1 :: B2 :: B3 :: B4 :: B5 :: B6 :: B7 :: B8 :: B9 :: B10 :: B11 :: B12 :: bkModel tr ty nx tk pl va fa (Int32.ofNat P) dp cm tx (mp_ru nu dn) (mp_ps (mp_q la me tc ts) ps) (mp_s rd pr pv sa pd lo bo co sh se si er of_) sp ke ik bi bt so nr ou ho cl :: Bs) (fun r M' => r = none ∧ M' = B0 :: B1 :: B2 :: B3 :: B4 :: B5 :: B6 :: B7 :: B8 :: B9 :: B10 :: B11 :: B12 :: bkModel tr ty nx tk pl va fa (Int32.ofNat P) dp cm tx (mp_ru nu dn) (mp_ps (mp_q la me tc ts) ps) (mp_s rd pr pv sa pd lo bo co sh se si er (upd of_ p v)) sp ke ik bi bt so nr ou ho cl :: Bs) := by
  show am_Rn sc 114 (0, [some (.ref 416), some (.int (Int32.ofNat p)), some (.int 5), some (.int v)], [], _) _
  refine am_Rn.go (t := am_t114) rfl 11 rfl ⟨trivial, trivial, trivial, trivial, trivial, trivial, trivial, trivial, trivial, trivial, (by exact am_inb6 (k := 5) hp (by omega)), trivial⟩ ?_
  show am_Rn sc 114 (11, _, _, B0 :: B1 :: B2 :: B3 :: B4 :: B5 :: B6 :: B7 :: B8 :: B9 :: B10 :: B11 :: B12 :: bkModel tr ty nx tk pl va fa (Int32.ofNat P) dp cm tx (mp_ru nu dn) (mp_ps (mp_q la me tc ts) ps) (upd (mp_s rd pr pv sa pd lo bo co sh se si er of_) (26 + 6 * Int32.ofNat p + Int32.ofNat 5).toNatClampNeg v) sp ke ik bi bt so nr ou ho cl :: Bs) _
  rw [am_tn6 hp (by omega), mp_puts5 _ _ _ _ _ _ _ _ _ _ _ _ _ hp]
  refine am_Rn.ret (t := am_t114) rfl rfl trivial ?_
  exact ⟨rfl, rfl⟩
theorem mm_worthIn (sc : am_Sc) (r0 : Int32) (tr : Int64) (ty nx tk pl va fa dp cm : Int32) (tx nu dn la me tc ts ps : Nat → Int32) (P : Nat) (rd pr pv sa pd lo : Int32) (bo co sh se si er of_ sp ke ik bi bt so nr ou ho cl : Nat → Int32) (B0 B1 B2 B3 B4 B5 B6 B7 B8 B9 B10 B11 B12 : List am_E) (Bs : am_M) : am_Rn sc 119 (0, am_entry 119 [.ref 416, .int r0], [], B0 :: B1 :: B2 :: B3 :: B4 :: B5 :: B6 :: B7 :: B8 :: B9 :: B10 :: B11 :: B12 :: bkModel tr ty nx tk pl va fa (Int32.ofNat P) dp cm tx (mp_ru nu dn) (mp_ps (mp_q la me tc ts) ps) (mp_s rd pr pv sa pd lo bo co sh se si er of_) sp ke ik bi bt so nr ou ho cl :: Bs) (fun r M' => r = some (.int (sp_worth nu r0)) ∧ M' = B0 :: B1 :: B2 :: B3 :: B4 :: B5 :: B6 :: B7 :: B8 :: B9 :: B10 :: B11 :: B12 :: bkModel tr ty nx tk pl va fa (Int32.ofNat P) dp cm tx (mp_ru nu dn) (mp_ps (mp_q la me tc ts) ps) (mp_s rd pr pv sa pd lo bo co sh se si er of_) sp ke ik bi bt so nr ou ho cl :: Bs) := by
  show am_Rn sc 119 (0, [some (.ref 416), some (.int r0)], [], _) _
  refine am_Rn.go (t := am_t119) rfl 23 rfl ⟨trivial, trivial, trivial, (by first | exact am_inb_lit rfl | exact am_inb_of (by omega) (by omega)), trivial, trivial, trivial, trivial, trivial, (by first | exact am_inb_lit rfl | exact am_inb_of (by omega) (by omega)), trivial, trivial, trivial, (by first | exact am_inb_lit rfl | exact am_inb_of (by omega) (by omega)), trivial, trivial, trivial, (by decide), trivial, trivial, trivial, (by first | exact am_inb_lit rfl | exact am_inb_of (by omega) (by omega)), trivial, trivial⟩ ?_
  refine am_Rn.ret (t := am_t119) rfl rfl trivial ?_
  exact ⟨rfl, rfl⟩
theorem mm_halvesIn (sc : am_Sc) (r0 : Int32) (tr : Int64) (ty nx tk pl va fa dp cm : Int32) (tx nu dn la me tc ts ps : Nat → Int32) (P : Nat) (rd pr pv sa pd lo : Int32) (bo co sh se si er of_ sp ke ik bi bt so nr ou ho cl : Nat → Int32) (B0 B1 B2 B3 B4 B5 B6 B7 B8 B9 B10 B11 B12 : List am_E) (Bs : am_M) : am_Rn sc 118 (0, am_entry 118 [.ref 416, .int r0], [], B0 :: B1 :: B2 :: B3 :: B4 :: B5 :: B6 :: B7 :: B8 :: B9 :: B10 :: B11 :: B12 :: bkModel tr ty nx tk pl va fa (Int32.ofNat P) dp cm tx (mp_ru nu dn) (mp_ps (mp_q la me tc ts) ps) (mp_s rd pr pv sa pd lo bo co sh se si er of_) sp ke ik bi bt so nr ou ho cl :: Bs) (fun r M' => r = some (.int (sp_halves nu r0)) ∧ M' = B0 :: B1 :: B2 :: B3 :: B4 :: B5 :: B6 :: B7 :: B8 :: B9 :: B10 :: B11 :: B12 :: bkModel tr ty nx tk pl va fa (Int32.ofNat P) dp cm tx (mp_ru nu dn) (mp_ps (mp_q la me tc ts) ps) (mp_s rd pr pv sa pd lo bo co sh se si er of_) sp ke ik bi bt so nr ou ho cl :: Bs) := by
  show am_Rn sc 118 (0, [some (.ref 416), some (.int r0)], [], _) _
  refine am_Rn.go (t := am_t118) rfl 23 rfl ⟨trivial, trivial, trivial, (by first | exact am_inb_lit rfl | exact am_inb_of (by omega) (by omega)), trivial, trivial, trivial, trivial, trivial, (by first | exact am_inb_lit rfl | exact am_inb_of (by omega) (by omega)), trivial, trivial, trivial, (by first | exact am_inb_lit rfl | exact am_inb_of (by omega) (by omega)), trivial, trivial, trivial, trivial, trivial, trivial, (by first | exact am_inb_lit rfl | exact am_inb_of (by omega) (by omega)), trivial, trivial, trivial⟩ ?_
  refine am_Rn.ret (t := am_t118) rfl rfl trivial ?_
  exact ⟨rfl, rfl⟩
theorem mm_isPerson (sc : am_Sc) (q0 : Int32) (tr : Int64) (ty nx tk pl va fa dp cm : Int32) (tx nu dn la me tc ts ps : Nat → Int32) (P : Nat) (rd pr pv sa pd lo : Int32) (bo co sh se si er of_ sp ke ik bi bt so nr ou ho cl : Nat → Int32) (B0 B1 B2 B3 B4 B5 B6 B7 B8 B9 B10 B11 B12 : List am_E) (Bs : am_M) : am_Rn sc 117 (0, am_entry 117 [.ref 416, .int q0], [], B0 :: B1 :: B2 :: B3 :: B4 :: B5 :: B6 :: B7 :: B8 :: B9 :: B10 :: B11 :: B12 :: bkModel tr ty nx tk pl va fa (Int32.ofNat P) dp cm tx (mp_ru nu dn) (mp_ps (mp_q la me tc ts) ps) (mp_s rd pr pv sa pd lo bo co sh se si er of_) sp ke ik bi bt so nr ou ho cl :: Bs) (fun r M' => r = some (.int (am_b (0 ≤ q0 ∧ q0 ≤ Int32.ofNat P - 1))) ∧ M' = B0 :: B1 :: B2 :: B3 :: B4 :: B5 :: B6 :: B7 :: B8 :: B9 :: B10 :: B11 :: B12 :: bkModel tr ty nx tk pl va fa (Int32.ofNat P) dp cm tx (mp_ru nu dn) (mp_ps (mp_q la me tc ts) ps) (mp_s rd pr pv sa pd lo bo co sh se si er of_) sp ke ik bi bt so nr ou ho cl :: Bs) := by
  show am_Rn sc 117 (0, [some (.ref 416), some (.int q0)], [], _) _
  refine am_Rn.go (t := am_t117) rfl 6 rfl ⟨trivial, trivial, trivial, trivial, trivial, trivial, trivial⟩ ?_
  refine am_Rn.call (t := am_t117) rfl rfl (sx_in ..) ?_
  rintro _ _ ⟨rfl, rfl⟩
  refine am_Rn.ret (t := am_t117) rfl rfl (by first | exact Or.inl rfl | exact Or.inr rfl | exact am_b01 _) ?_
  exact ⟨rfl, rfl⟩
theorem mm_isOver (sc : am_Sc) (tr : Int64) (ty nx tk pl va fa dp cm : Int32) (tx nu dn la me tc ts ps : Nat → Int32) (P : Nat) (rd pr pv sa pd lo : Int32) (bo co sh se si er of_ sp ke ik bi bt so nr ou ho cl : Nat → Int32) (B0 B1 B2 B3 B4 B5 B6 B7 B8 B9 B10 B11 B12 : List am_E) (Bs : am_M) : am_Rn sc 125 (0, am_entry 125 [.ref 416], [], B0 :: B1 :: B2 :: B3 :: B4 :: B5 :: B6 :: B7 :: B8 :: B9 :: B10 :: B11 :: B12 :: bkModel tr ty nx tk pl va fa (Int32.ofNat P) dp cm tx (mp_ru nu dn) (mp_ps (mp_q la me tc ts) ps) (mp_s rd pr pv sa pd lo bo co sh se si er of_) sp ke ik bi bt so nr ou ho cl :: Bs) (fun r M' => r = some (.int (am_b (rd = nu 0))) ∧ M' = B0 :: B1 :: B2 :: B3 :: B4 :: B5 :: B6 :: B7 :: B8 :: B9 :: B10 :: B11 :: B12 :: bkModel tr ty nx tk pl va fa (Int32.ofNat P) dp cm tx (mp_ru nu dn) (mp_ps (mp_q la me tc ts) ps) (mp_s rd pr pv sa pd lo bo co sh se si er of_) sp ke ik bi bt so nr ou ho cl :: Bs) := by
  show am_Rn sc 125 (0, [some (.ref 416)], [], _) _
  refine am_Rn.go (t := am_t125) rfl 9 rfl ⟨trivial, trivial, trivial, (by first | exact am_inb_lit rfl | exact am_inb_of (by omega) (by omega)), trivial, trivial, trivial, (by first | exact am_inb_lit rfl | exact am_inb_of (by omega) (by omega)), trivial, trivial⟩ ?_
  refine am_Rn.br (fun h1 => ?_) (fun h1 => ?_)
  · skip
    refine am_Rn.go (t := am_t125) rfl 2 rfl ⟨trivial, trivial, trivial⟩ ?_
    refine am_Rn.ret (t := am_t125) rfl rfl (by first | exact Or.inl rfl | exact Or.inr rfl | exact am_b01 _) ?_
    refine ⟨congrArg (fun z => some (Value.int z)) ?_, rfl⟩
    first | exact (am_bT (by assumption)).symm | exact (am_bF (by assumption)).symm
  · skip
    refine am_Rn.go (t := am_t125) rfl 1 rfl ⟨trivial, trivial⟩ ?_
    refine am_Rn.ret (t := am_t125) rfl rfl (by first | exact Or.inl rfl | exact Or.inr rfl | exact am_b01 _) ?_
    refine ⟨congrArg (fun z => some (Value.int z)) ?_, rfl⟩
    first | exact (am_bT (by assumption)).symm | exact (am_bF (by assumption)).symm
theorem mm_riding (sc : am_Sc) (n0 : Int32) (tr : Int64) (ty nx tk pl va fa dp cm : Int32) (tx nu dn la me tc ts ps : Nat → Int32) (P : Nat) (rd pr pv sa pd lo : Int32) (bo co sh se si er of_ sp ke ik bi bt so nr ou ho cl : Nat → Int32) (B0 B1 B2 B3 B4 B5 B6 B7 B8 B9 B10 B11 B12 : List am_E) (Bs : am_M) : am_Rn sc 120 (0, am_entry 120 [.ref 416, .int n0], [], B0 :: B1 :: B2 :: B3 :: B4 :: B5 :: B6 :: B7 :: B8 :: B9 :: B10 :: B11 :: B12 :: bkModel tr ty nx tk pl va fa (Int32.ofNat P) dp cm tx (mp_ru nu dn) (mp_ps (mp_q la me tc ts) ps) (mp_s rd pr pv sa pd lo bo co sh se si er of_) sp ke ik bi bt so nr ou ho cl :: Bs) (fun r M' => r = some (.int (sp_byLaw nu rd pr pv 2 n0)) ∧ M' = B0 :: B1 :: B2 :: B3 :: B4 :: B5 :: B6 :: B7 :: B8 :: B9 :: B10 :: B11 :: B12 :: bkModel tr ty nx tk pl va fa (Int32.ofNat P) dp cm tx (mp_ru nu dn) (mp_ps (mp_q la me tc ts) ps) (mp_s rd pr pv sa pd lo bo co sh se si er of_) sp ke ik bi bt so nr ou ho cl :: Bs) := by
  show am_Rn sc 120 (0, [some (.ref 416), some (.int n0), none], [], _) _
  refine am_Rn.go (t := am_t120) rfl 5 rfl ⟨trivial, trivial, trivial, trivial, (by first | exact am_inb_lit rfl | exact am_inb_of (by omega) (by omega)), trivial⟩ ?_
  refine am_Rn.call (t := am_t120) rfl rfl (mm_worthIn ..) ?_
  rintro _ _ ⟨rfl, rfl⟩
  refine am_Rn.go (t := am_t120) rfl 12 rfl ⟨trivial, trivial, trivial, trivial, (by first | exact am_inb_lit rfl | exact am_inb_of (by omega) (by omega)), trivial, trivial, trivial, (by first | exact am_inb_lit rfl | exact am_inb_of (by omega) (by omega)), trivial, trivial, trivial, trivial⟩ ?_
  refine am_Rn.br (fun h1 => ?_) (fun h1 => ?_)
  · skip
    have k1 : nu 0 - rd ≤ n0 := h1
    refine am_Rn.go (t := am_t120) rfl 1 rfl ⟨trivial, trivial⟩ ?_
    refine am_Rn.ret (t := am_t120) rfl rfl trivial ?_
    refine ⟨congrArg (fun z => some (Value.int z)) ?_, rfl⟩
    unfold sp_byLaw
    rw [if_neg (by decide), if_pos rfl]
    first
      | (rw [if_pos k1] <;> rfl)
      | (rw [if_neg k1, am_maxT k2] <;> rfl)
      | (rw [if_neg k1, am_maxF k2] <;> rfl)
  · skip
    have k1 : ¬ nu 0 - rd ≤ n0 := h1
    refine am_Rn.go (t := am_t120) rfl 6 rfl ⟨trivial, trivial, trivial, trivial, (by first | exact am_inb_lit rfl | exact am_inb_of (by omega) (by omega)), trivial, trivial⟩ ?_
    refine am_Rn.br (fun h2 => ?_) (fun h2 => ?_)
    · skip
      have k2 : sp_worth nu rd ≤ pr := h2
      refine am_Rn.go (t := am_t120) rfl 7 rfl ⟨trivial, trivial, trivial, (by first | exact am_inb_lit rfl | exact am_inb_of (by omega) (by omega)), trivial, trivial, trivial, trivial⟩ ?_
      refine am_Rn.ret (t := am_t120) rfl rfl trivial ?_
      refine ⟨congrArg (fun z => some (Value.int z)) ?_, rfl⟩
      unfold sp_byLaw
      rw [if_neg (by decide), if_pos rfl]
      first
        | (rw [if_pos k1] <;> rfl)
        | (rw [if_neg k1, am_maxT k2] <;> rfl)
        | (rw [if_neg k1, am_maxF k2] <;> rfl)
    · skip
      have k2 : ¬ sp_worth nu rd ≤ pr := h2
      refine am_Rn.go (t := am_t120) rfl 5 rfl ⟨trivial, trivial, trivial, trivial, trivial, trivial⟩ ?_
      refine am_Rn.ret (t := am_t120) rfl rfl trivial ?_
      refine ⟨congrArg (fun z => some (Value.int z)) ?_, rfl⟩
      unfold sp_byLaw
      rw [if_neg (by decide), if_pos rfl]
      first
        | (rw [if_pos k1] <;> rfl)
        | (rw [if_neg k1, am_maxT k2] <;> rfl)
        | (rw [if_neg k1, am_maxF k2] <;> rfl)
theorem sp_byLaw1 (nu : Nat → Int32) (rd pr pv n : Int32) : sp_byLaw nu rd pr pv 1 n = pr + n * (pr - pv) / 10 := rfl
theorem sp_byLaw3 (nu : Nat → Int32) (rd pr pv n : Int32) : sp_byLaw nu rd pr pv 3 n = n := rfl
theorem sp_byLaw4 (nu : Nat → Int32) (rd pr pv n : Int32) : sp_byLaw nu rd pr pv 4 n = (pr + sp_worth nu rd) / 2 + n := rfl
theorem sp_byLaw0 (nu : Nat → Int32) (rd pr pv n : Int32) : sp_byLaw nu rd pr pv 0 n = sp_worth nu rd := rfl
theorem sp_valT {nu la me se : Nat → Int32} {rd pr pv : Int32} {p : Nat} (h1 : ¬ se p ≤ 0) (h2 : la p = 1 ∨ la p = 4) : sp_val nu la me se rd pr pv p = sp_lim nu (sp_byLaw nu rd pr pv 2 (2 * se p)) := by
  unfold sp_val
  rw [if_pos ⟨Int32.not_le.mp h1, h2⟩]
theorem sp_valF {nu la me se : Nat → Int32} {rd pr pv : Int32} {p : Nat} {l : Int32} (hl : la p = l) (h : se p ≤ 0 ∨ ¬ (l = 1 ∨ l = 4)) : sp_val nu la me se rd pr pv p = sp_lim nu (sp_byLaw nu rd pr pv l (me p)) := by
  unfold sp_val
  rw [if_neg, hl]
  rw [hl]
  intro q
  rcases h with h | h
  · exact absurd h (Int32.not_le.mpr q.1)
  · exact h q.2
theorem sp_lim_a {nu : Nat → Int32} {v : Int32} (h7 : 0 ≤ nu 7) (h : v < 0) : sp_lim nu v = 0 := by
  unfold sp_lim
  have hl : 0 < sp_lid nu := by
    unfold sp_lid
    split
    · decide
    · next q => exact Int32.not_le.mp q
  rw [if_pos (Int32.lt_trans h hl), if_neg (fun q => Int32.lt_irrefl (Int32.lt_trans q h))]
theorem sp_lim_b {nu : Nat → Int32} {v : Int32} (h7 : 0 ≤ nu 7) (h : ¬ v < 0) (h2 : sp_lid nu < v) : sp_lim nu v = sp_lid nu := by
  unfold sp_lim
  have hl : 0 < sp_lid nu := by
    unfold sp_lid
    split
    · decide
    · next q => exact Int32.not_le.mp q
  rw [if_neg (fun q => Int32.lt_irrefl (Int32.lt_trans q h2)), if_pos hl]
theorem sp_lim_c {nu : Nat → Int32} {v : Int32} (h7 : 0 ≤ nu 7) (h : ¬ v < 0) (h2 : ¬ sp_lid nu < v) : sp_lim nu v = v := by
  unfold sp_lim
  have hl : 0 < sp_lid nu := by
    unfold sp_lid
    split
    · decide
    · next q => exact Int32.not_le.mp q
  by_cases g : v < sp_lid nu
  · rw [if_pos g]
    split
    · rfl
    · next q => exact (Int32.le_antisymm (Int32.not_lt.mp q) (Int32.not_lt.mp h)).symm
  · rw [if_neg g]
    have e := Int32.le_antisymm (Int32.not_lt.mp g) (Int32.not_lt.mp h2)
    rw [if_pos hl, e]
theorem sp_lid0 {nu : Nat → Int32} (h : nu 7 = 0) : sp_lid nu = 999 := by unfold sp_lid; rw [if_pos (by rw [h]; decide)]
theorem sp_lid1 {nu : Nat → Int32} (h7 : 0 ≤ nu 7) (h : ¬ nu 7 = 0) : sp_lid nu = nu 7 := by unfold sp_lid; rw [if_neg (fun q => h (Int32.le_antisymm q h7))]
theorem mm_valueOf (sc : am_Sc) (tr : Int64) (ty nx tk pl va fa dp cm : Int32) (tx nu dn la me tc ts ps : Nat → Int32) (P : Nat) (rd pr pv sa pd lo : Int32) (bo co sh se si er of_ sp ke ik bi bt so nr ou ho cl : Nat → Int32) (B0 B1 B2 B3 B4 B5 B6 B7 B8 B9 B10 B11 B12 : List am_E) (Bs : am_M) (q : Nat) (hq : q < 9) (h7 : 0 ≤ nu 7) (hla : la q = 0 ∨ la q = 1 ∨ la q = 2 ∨ la q = 3 ∨ la q = 4) : am_Rn sc 121 (0, am_entry 121 [.ref 416, .int (Int32.ofNat q)], [], B0 :: B1 :: B2 :: B3 :: B4 :: B5 :: B6 :: B7 :: B8 :: B9 :: B10 :: B11 :: B12 :: bkModel tr ty nx tk pl va fa (Int32.ofNat P) dp cm tx (mp_ru nu dn) (mp_ps (mp_q la me tc ts) ps) (mp_s rd pr pv sa pd lo bo co sh se si er of_) sp ke ik bi bt so nr ou ho cl :: Bs) (fun r M' => r = some (.int (sp_val nu la me se rd pr pv q)) ∧ M' = B0 :: B1 :: B2 :: B3 :: B4 :: B5 :: B6 :: B7 :: B8 :: B9 :: B10 :: B11 :: B12 :: bkModel tr ty nx tk pl va fa (Int32.ofNat P) dp cm tx (mp_ru nu dn) (mp_ps (mp_q la me tc ts) ps) (mp_s rd pr pv sa pd lo bo co sh se si er of_) sp ke ik bi bt so nr ou ho cl :: Bs) := by
  show am_Rn sc 121 (0, [some (.ref 416), some (.int (Int32.ofNat q)), none, none, none, none, none, none], [], _) _
  have eL : mp_ps (mp_q la me tc ts) ps (4 * Int32.ofNat q).toNatClampNeg = la q := by rw [am_tn40 hq, mp_pers _ _ _ _ _ hq (by omega)]; rfl
  have eM : mp_ps (mp_q la me tc ts) ps (4 * Int32.ofNat q + 1).toNatClampNeg = me q := by
    show mp_ps (mp_q la me tc ts) ps (4 * Int32.ofNat q + Int32.ofNat 1).toNatClampNeg = me q
    rw [am_tn4 hq (by omega), mp_pers _ _ _ _ _ hq (by omega)]
    rfl
  have L97 : ∀ (a2 a3 a4 a5 v : Int32), am_Rn sc 121 (97, [some (.ref 416), some (.int (Int32.ofNat q)), some (.int a2), some (.int a3), some (.int a4), some (.int a5), none, none], [.int v], B0 :: B1 :: B2 :: B3 :: B4 :: B5 :: B6 :: B7 :: B8 :: B9 :: B10 :: B11 :: B12 :: bkModel tr ty nx tk pl va fa (Int32.ofNat P) dp cm tx (mp_ru nu dn) (mp_ps (mp_q la me tc ts) ps) (mp_s rd pr pv sa pd lo bo co sh se si er of_) sp ke ik bi bt so nr ou ho cl :: Bs) (fun r M' => r = some (.int (sp_lim nu v)) ∧ M' = B0 :: B1 :: B2 :: B3 :: B4 :: B5 :: B6 :: B7 :: B8 :: B9 :: B10 :: B11 :: B12 :: bkModel tr ty nx tk pl va fa (Int32.ofNat P) dp cm tx (mp_ru nu dn) (mp_ps (mp_q la me tc ts) ps) (mp_s rd pr pv sa pd lo bo co sh se si er of_) sp ke ik bi bt so nr ou ho cl :: Bs) := by
    intro a2 a3 a4 a5 v
    refine am_Rn.go (t := am_t121) rfl 6 rfl ⟨trivial, trivial, trivial, trivial, (by first | exact am_inb_lit rfl | exact am_inb_of (by omega) (by omega)), trivial, trivial⟩ ?_
    refine am_Rn.br (fun h1 => ?_) (fun h1 => ?_)
    · skip
      have k1 : nu 7 = 0 := h1
      have kl := sp_lid0 k1
      refine am_Rn.go (t := am_t121) rfl 5 rfl ⟨trivial, trivial, trivial, trivial, trivial, trivial⟩ ?_
      refine am_Rn.br (fun h2 => ?_) (fun h2 => ?_)
      · skip
        have k2 : ¬ v < 0 := Int32.not_lt.mpr h2
        refine am_Rn.go (t := am_t121) rfl 3 rfl ⟨trivial, trivial, trivial, trivial⟩ ?_
        refine am_Rn.br (fun h3 => ?_) (fun h3 => ?_)
        · skip
          refine am_Rn.go (t := am_t121) rfl 1 rfl ⟨trivial, trivial⟩ ?_
          refine am_Rn.ret (t := am_t121) rfl rfl trivial ?_
          refine ⟨congrArg (fun z => some (Value.int z)) ?_, rfl⟩
          first
            | exact (sp_lim_a h7 k2).symm
            | exact ((sp_lim_b h7 k2 (by rw [kl]; exact Int32.not_le.mp (by assumption))).trans kl).symm
            | exact (sp_lim_c h7 k2 (by rw [kl]; exact Int32.not_lt.mpr (by assumption))).symm
        · skip
          refine am_Rn.go (t := am_t121) rfl 2 rfl ⟨trivial, trivial, trivial⟩ ?_
          refine am_Rn.ret (t := am_t121) rfl rfl trivial ?_
          refine ⟨congrArg (fun z => some (Value.int z)) ?_, rfl⟩
          first
            | exact (sp_lim_a h7 k2).symm
            | exact ((sp_lim_b h7 k2 (by rw [kl]; exact Int32.not_le.mp (by assumption))).trans kl).symm
            | exact (sp_lim_c h7 k2 (by rw [kl]; exact Int32.not_lt.mpr (by assumption))).symm
      · skip
        have k2 : v < 0 := Int32.not_le.mp h2
        refine am_Rn.go (t := am_t121) rfl 2 rfl ⟨trivial, trivial, trivial⟩ ?_
        refine am_Rn.ret (t := am_t121) rfl rfl trivial ?_
        refine ⟨congrArg (fun z => some (Value.int z)) ?_, rfl⟩
        first
          | exact (sp_lim_a h7 k2).symm
          | exact ((sp_lim_b h7 k2 (by rw [kl]; exact Int32.not_le.mp (by assumption))).trans kl).symm
          | exact (sp_lim_c h7 k2 (by rw [kl]; exact Int32.not_lt.mpr (by assumption))).symm
    · skip
      have k1 : ¬ nu 7 = 0 := h1
      have kl := sp_lid1 h7 k1
      refine am_Rn.go (t := am_t121) rfl 7 rfl ⟨trivial, trivial, trivial, (by first | exact am_inb_lit rfl | exact am_inb_of (by omega) (by omega)), trivial, trivial, trivial, trivial⟩ ?_
      refine am_Rn.br (fun h4 => ?_) (fun h4 => ?_)
      · skip
        have k2 : ¬ v < 0 := Int32.not_lt.mpr h4
        refine am_Rn.go (t := am_t121) rfl 3 rfl ⟨trivial, trivial, trivial, trivial⟩ ?_
        refine am_Rn.br (fun h5 => ?_) (fun h5 => ?_)
        · skip
          refine am_Rn.go (t := am_t121) rfl 1 rfl ⟨trivial, trivial⟩ ?_
          refine am_Rn.ret (t := am_t121) rfl rfl trivial ?_
          refine ⟨congrArg (fun z => some (Value.int z)) ?_, rfl⟩
          first
            | exact (sp_lim_a h7 k2).symm
            | exact ((sp_lim_b h7 k2 (by rw [kl]; exact Int32.not_le.mp (by assumption))).trans kl).symm
            | exact (sp_lim_c h7 k2 (by rw [kl]; exact Int32.not_lt.mpr (by assumption))).symm
        · skip
          refine am_Rn.go (t := am_t121) rfl 2 rfl ⟨trivial, trivial, trivial⟩ ?_
          refine am_Rn.ret (t := am_t121) rfl rfl trivial ?_
          refine ⟨congrArg (fun z => some (Value.int z)) ?_, rfl⟩
          first
            | exact (sp_lim_a h7 k2).symm
            | exact ((sp_lim_b h7 k2 (by rw [kl]; exact Int32.not_le.mp (by assumption))).trans kl).symm
            | exact (sp_lim_c h7 k2 (by rw [kl]; exact Int32.not_lt.mpr (by assumption))).symm
      · skip
        have k2 : v < 0 := Int32.not_le.mp h4
        refine am_Rn.go (t := am_t121) rfl 2 rfl ⟨trivial, trivial, trivial⟩ ?_
        refine am_Rn.ret (t := am_t121) rfl rfl trivial ?_
        refine ⟨congrArg (fun z => some (Value.int z)) ?_, rfl⟩
        first
          | exact (sp_lim_a h7 k2).symm
          | exact ((sp_lim_b h7 k2 (by rw [kl]; exact Int32.not_le.mp (by assumption))).trans kl).symm
          | exact (sp_lim_c h7 k2 (by rw [kl]; exact Int32.not_lt.mpr (by assumption))).symm
  rcases hla with hL | hL | hL | hL | hL <;> by_cases k1 : se q ≤ 0
  · skip
    refine am_Rn.go (t := am_t121) rfl 21 rfl ⟨trivial, trivial, trivial, trivial, trivial, (by exact am_inb40 hq), trivial, trivial, trivial, trivial, trivial, trivial, trivial, trivial, (by exact am_inb4 (k := 1) hq (by omega)), trivial, trivial, trivial, trivial, trivial, (by first | exact am_inb_lit rfl | exact am_inb_of (by omega) (by omega)), trivial⟩ ?_
    refine am_Rn.call (t := am_t121) rfl rfl (mm_worthIn ..) ?_
    rintro _ _ ⟨rfl, rfl⟩
    refine am_Rn.go (t := am_t121) rfl 4 rfl ⟨trivial, trivial, trivial, trivial, trivial⟩ ?_
    refine am_Rn.call (t := am_t121) rfl rfl (mm_of2 sc q hq ..) ?_
    rintro _ _ ⟨rfl, rfl⟩
    refine am_Rn.go (t := am_t121) rfl 1 rfl ⟨trivial, trivial⟩ ?_
    refine am_Rn.brT k1 ?_
    refine am_Rn.go (t := am_t121) rfl 4 rfl ⟨trivial, trivial, trivial, trivial, trivial⟩ ?_
    refine am_Rn.brT (by decide) ?_
    refine am_Rn.go (t := am_t121) rfl 2 rfl ⟨trivial, trivial, trivial⟩ ?_
    refine am_Rn.brT (by rw [eL, hL]) ?_
    refine am_Rn.go (t := am_t121) rfl 2 rfl ⟨trivial, trivial, trivial⟩ ?_
    rw [sp_valF hL (Or.inl k1), sp_byLaw0]
    exact L97 _ _ _ _ _
  · skip
    refine am_Rn.go (t := am_t121) rfl 21 rfl ⟨trivial, trivial, trivial, trivial, trivial, (by exact am_inb40 hq), trivial, trivial, trivial, trivial, trivial, trivial, trivial, trivial, (by exact am_inb4 (k := 1) hq (by omega)), trivial, trivial, trivial, trivial, trivial, (by first | exact am_inb_lit rfl | exact am_inb_of (by omega) (by omega)), trivial⟩ ?_
    refine am_Rn.call (t := am_t121) rfl rfl (mm_worthIn ..) ?_
    rintro _ _ ⟨rfl, rfl⟩
    refine am_Rn.go (t := am_t121) rfl 4 rfl ⟨trivial, trivial, trivial, trivial, trivial⟩ ?_
    refine am_Rn.call (t := am_t121) rfl rfl (mm_of2 sc q hq ..) ?_
    rintro _ _ ⟨rfl, rfl⟩
    refine am_Rn.go (t := am_t121) rfl 1 rfl ⟨trivial, trivial⟩ ?_
    refine am_Rn.brF k1 ?_
    refine am_Rn.go (t := am_t121) rfl 3 rfl ⟨trivial, trivial, trivial, trivial⟩ ?_
    refine am_Rn.brF (by rw [eL, hL]; decide) ?_
    refine am_Rn.go (t := am_t121) rfl 3 rfl ⟨trivial, trivial, trivial, trivial⟩ ?_
    refine am_Rn.brF (by rw [eL, hL]; decide) ?_
    refine am_Rn.go (t := am_t121) rfl 4 rfl ⟨trivial, trivial, trivial, trivial, trivial⟩ ?_
    refine am_Rn.brT (by decide) ?_
    refine am_Rn.go (t := am_t121) rfl 2 rfl ⟨trivial, trivial, trivial⟩ ?_
    refine am_Rn.brT (by rw [eL, hL]) ?_
    refine am_Rn.go (t := am_t121) rfl 2 rfl ⟨trivial, trivial, trivial⟩ ?_
    rw [sp_valF hL (Or.inr (by decide)), sp_byLaw0]
    exact L97 _ _ _ _ _
  · skip
    refine am_Rn.go (t := am_t121) rfl 21 rfl ⟨trivial, trivial, trivial, trivial, trivial, (by exact am_inb40 hq), trivial, trivial, trivial, trivial, trivial, trivial, trivial, trivial, (by exact am_inb4 (k := 1) hq (by omega)), trivial, trivial, trivial, trivial, trivial, (by first | exact am_inb_lit rfl | exact am_inb_of (by omega) (by omega)), trivial⟩ ?_
    refine am_Rn.call (t := am_t121) rfl rfl (mm_worthIn ..) ?_
    rintro _ _ ⟨rfl, rfl⟩
    refine am_Rn.go (t := am_t121) rfl 4 rfl ⟨trivial, trivial, trivial, trivial, trivial⟩ ?_
    refine am_Rn.call (t := am_t121) rfl rfl (mm_of2 sc q hq ..) ?_
    rintro _ _ ⟨rfl, rfl⟩
    refine am_Rn.go (t := am_t121) rfl 1 rfl ⟨trivial, trivial⟩ ?_
    refine am_Rn.brT k1 ?_
    refine am_Rn.go (t := am_t121) rfl 4 rfl ⟨trivial, trivial, trivial, trivial, trivial⟩ ?_
    refine am_Rn.brT (by decide) ?_
    refine am_Rn.go (t := am_t121) rfl 2 rfl ⟨trivial, trivial, trivial⟩ ?_
    refine am_Rn.brF (by rw [eL, hL]; decide) ?_
    refine am_Rn.go (t := am_t121) rfl 3 rfl ⟨trivial, trivial, trivial, trivial⟩ ?_
    refine am_Rn.brT (by rw [eL, hL]) ?_
    refine am_Rn.go (t := am_t121) rfl 19 rfl ⟨trivial, trivial, trivial, (by first | exact am_inb_lit rfl | exact am_inb_of (by omega) (by omega)), trivial, trivial, trivial, trivial, (by first | exact am_inb_lit rfl | exact am_inb_of (by omega) (by omega)), trivial, trivial, trivial, (by first | exact am_inb_lit rfl | exact am_inb_of (by omega) (by omega)), trivial, trivial, trivial, (by decide), trivial, trivial, trivial⟩ ?_
    rw [sp_valF hL (Or.inl k1), sp_byLaw1]
    rw [← eM]
    exact L97 _ _ _ _ _
  · skip
    refine am_Rn.go (t := am_t121) rfl 21 rfl ⟨trivial, trivial, trivial, trivial, trivial, (by exact am_inb40 hq), trivial, trivial, trivial, trivial, trivial, trivial, trivial, trivial, (by exact am_inb4 (k := 1) hq (by omega)), trivial, trivial, trivial, trivial, trivial, (by first | exact am_inb_lit rfl | exact am_inb_of (by omega) (by omega)), trivial⟩ ?_
    refine am_Rn.call (t := am_t121) rfl rfl (mm_worthIn ..) ?_
    rintro _ _ ⟨rfl, rfl⟩
    refine am_Rn.go (t := am_t121) rfl 4 rfl ⟨trivial, trivial, trivial, trivial, trivial⟩ ?_
    refine am_Rn.call (t := am_t121) rfl rfl (mm_of2 sc q hq ..) ?_
    rintro _ _ ⟨rfl, rfl⟩
    refine am_Rn.go (t := am_t121) rfl 1 rfl ⟨trivial, trivial⟩ ?_
    refine am_Rn.brF k1 ?_
    refine am_Rn.go (t := am_t121) rfl 3 rfl ⟨trivial, trivial, trivial, trivial⟩ ?_
    refine am_Rn.brT (by rw [eL, hL]) ?_
    refine am_Rn.go (t := am_t121) rfl 5 rfl ⟨trivial, trivial, trivial, trivial, trivial, trivial⟩ ?_
    refine am_Rn.brF (by decide) ?_
    refine am_Rn.go (t := am_t121) rfl 5 rfl ⟨trivial, trivial, trivial, trivial, trivial, trivial⟩ ?_
    refine am_Rn.call (t := am_t121) rfl rfl (mm_of2 sc q hq ..) ?_
    rintro _ _ ⟨rfl, rfl⟩
    refine am_Rn.go (t := am_t121) rfl 1 rfl ⟨trivial, trivial⟩ ?_
    refine am_Rn.call (t := am_t121) rfl rfl (mm_riding ..) ?_
    rintro _ _ ⟨rfl, rfl⟩
    refine am_Rn.go (t := am_t121) rfl 1 rfl ⟨trivial, trivial⟩ ?_
    rw [sp_valT k1 (Or.inl hL)]
    exact L97 _ _ _ _ _
  · skip
    refine am_Rn.go (t := am_t121) rfl 21 rfl ⟨trivial, trivial, trivial, trivial, trivial, (by exact am_inb40 hq), trivial, trivial, trivial, trivial, trivial, trivial, trivial, trivial, (by exact am_inb4 (k := 1) hq (by omega)), trivial, trivial, trivial, trivial, trivial, (by first | exact am_inb_lit rfl | exact am_inb_of (by omega) (by omega)), trivial⟩ ?_
    refine am_Rn.call (t := am_t121) rfl rfl (mm_worthIn ..) ?_
    rintro _ _ ⟨rfl, rfl⟩
    refine am_Rn.go (t := am_t121) rfl 4 rfl ⟨trivial, trivial, trivial, trivial, trivial⟩ ?_
    refine am_Rn.call (t := am_t121) rfl rfl (mm_of2 sc q hq ..) ?_
    rintro _ _ ⟨rfl, rfl⟩
    refine am_Rn.go (t := am_t121) rfl 1 rfl ⟨trivial, trivial⟩ ?_
    refine am_Rn.brT k1 ?_
    refine am_Rn.go (t := am_t121) rfl 4 rfl ⟨trivial, trivial, trivial, trivial, trivial⟩ ?_
    refine am_Rn.brT (by decide) ?_
    refine am_Rn.go (t := am_t121) rfl 2 rfl ⟨trivial, trivial, trivial⟩ ?_
    refine am_Rn.brF (by rw [eL, hL]; decide) ?_
    refine am_Rn.go (t := am_t121) rfl 3 rfl ⟨trivial, trivial, trivial, trivial⟩ ?_
    refine am_Rn.brF (by rw [eL, hL]; decide) ?_
    refine am_Rn.go (t := am_t121) rfl 3 rfl ⟨trivial, trivial, trivial, trivial⟩ ?_
    refine am_Rn.brT (by rw [eL, hL]) ?_
    refine am_Rn.go (t := am_t121) rfl 2 rfl ⟨trivial, trivial, trivial⟩ ?_
    refine am_Rn.call (t := am_t121) rfl rfl (mm_riding ..) ?_
    rintro _ _ ⟨rfl, rfl⟩
    refine am_Rn.go (t := am_t121) rfl 1 rfl ⟨trivial, trivial⟩ ?_
    rw [sp_valF hL (Or.inl k1)]
    rw [← eM]
    exact L97 _ _ _ _ _
  · skip
    refine am_Rn.go (t := am_t121) rfl 21 rfl ⟨trivial, trivial, trivial, trivial, trivial, (by exact am_inb40 hq), trivial, trivial, trivial, trivial, trivial, trivial, trivial, trivial, (by exact am_inb4 (k := 1) hq (by omega)), trivial, trivial, trivial, trivial, trivial, (by first | exact am_inb_lit rfl | exact am_inb_of (by omega) (by omega)), trivial⟩ ?_
    refine am_Rn.call (t := am_t121) rfl rfl (mm_worthIn ..) ?_
    rintro _ _ ⟨rfl, rfl⟩
    refine am_Rn.go (t := am_t121) rfl 4 rfl ⟨trivial, trivial, trivial, trivial, trivial⟩ ?_
    refine am_Rn.call (t := am_t121) rfl rfl (mm_of2 sc q hq ..) ?_
    rintro _ _ ⟨rfl, rfl⟩
    refine am_Rn.go (t := am_t121) rfl 1 rfl ⟨trivial, trivial⟩ ?_
    refine am_Rn.brF k1 ?_
    refine am_Rn.go (t := am_t121) rfl 3 rfl ⟨trivial, trivial, trivial, trivial⟩ ?_
    refine am_Rn.brF (by rw [eL, hL]; decide) ?_
    refine am_Rn.go (t := am_t121) rfl 3 rfl ⟨trivial, trivial, trivial, trivial⟩ ?_
    refine am_Rn.brF (by rw [eL, hL]; decide) ?_
    refine am_Rn.go (t := am_t121) rfl 4 rfl ⟨trivial, trivial, trivial, trivial, trivial⟩ ?_
    refine am_Rn.brT (by decide) ?_
    refine am_Rn.go (t := am_t121) rfl 2 rfl ⟨trivial, trivial, trivial⟩ ?_
    refine am_Rn.brF (by rw [eL, hL]; decide) ?_
    refine am_Rn.go (t := am_t121) rfl 3 rfl ⟨trivial, trivial, trivial, trivial⟩ ?_
    refine am_Rn.brF (by rw [eL, hL]; decide) ?_
    refine am_Rn.go (t := am_t121) rfl 3 rfl ⟨trivial, trivial, trivial, trivial⟩ ?_
    refine am_Rn.brT (by rw [eL, hL]) ?_
    refine am_Rn.go (t := am_t121) rfl 2 rfl ⟨trivial, trivial, trivial⟩ ?_
    refine am_Rn.call (t := am_t121) rfl rfl (mm_riding ..) ?_
    rintro _ _ ⟨rfl, rfl⟩
    refine am_Rn.go (t := am_t121) rfl 1 rfl ⟨trivial, trivial⟩ ?_
    rw [sp_valF hL (Or.inr (by decide))]
    rw [← eM]
    exact L97 _ _ _ _ _
  · skip
    refine am_Rn.go (t := am_t121) rfl 21 rfl ⟨trivial, trivial, trivial, trivial, trivial, (by exact am_inb40 hq), trivial, trivial, trivial, trivial, trivial, trivial, trivial, trivial, (by exact am_inb4 (k := 1) hq (by omega)), trivial, trivial, trivial, trivial, trivial, (by first | exact am_inb_lit rfl | exact am_inb_of (by omega) (by omega)), trivial⟩ ?_
    refine am_Rn.call (t := am_t121) rfl rfl (mm_worthIn ..) ?_
    rintro _ _ ⟨rfl, rfl⟩
    refine am_Rn.go (t := am_t121) rfl 4 rfl ⟨trivial, trivial, trivial, trivial, trivial⟩ ?_
    refine am_Rn.call (t := am_t121) rfl rfl (mm_of2 sc q hq ..) ?_
    rintro _ _ ⟨rfl, rfl⟩
    refine am_Rn.go (t := am_t121) rfl 1 rfl ⟨trivial, trivial⟩ ?_
    refine am_Rn.brT k1 ?_
    refine am_Rn.go (t := am_t121) rfl 4 rfl ⟨trivial, trivial, trivial, trivial, trivial⟩ ?_
    refine am_Rn.brT (by decide) ?_
    refine am_Rn.go (t := am_t121) rfl 2 rfl ⟨trivial, trivial, trivial⟩ ?_
    refine am_Rn.brF (by rw [eL, hL]; decide) ?_
    refine am_Rn.go (t := am_t121) rfl 3 rfl ⟨trivial, trivial, trivial, trivial⟩ ?_
    refine am_Rn.brF (by rw [eL, hL]; decide) ?_
    refine am_Rn.go (t := am_t121) rfl 3 rfl ⟨trivial, trivial, trivial, trivial⟩ ?_
    refine am_Rn.brF (by rw [eL, hL]; decide) ?_
    refine am_Rn.go (t := am_t121) rfl 3 rfl ⟨trivial, trivial, trivial, trivial⟩ ?_
    refine am_Rn.brT (by rw [eL, hL]) ?_
    refine am_Rn.go (t := am_t121) rfl 2 rfl ⟨trivial, trivial, trivial⟩ ?_
    rw [sp_valF hL (Or.inl k1), sp_byLaw3]
    rw [← eM]
    exact L97 _ _ _ _ _
  · skip
    refine am_Rn.go (t := am_t121) rfl 21 rfl ⟨trivial, trivial, trivial, trivial, trivial, (by exact am_inb40 hq), trivial, trivial, trivial, trivial, trivial, trivial, trivial, trivial, (by exact am_inb4 (k := 1) hq (by omega)), trivial, trivial, trivial, trivial, trivial, (by first | exact am_inb_lit rfl | exact am_inb_of (by omega) (by omega)), trivial⟩ ?_
    refine am_Rn.call (t := am_t121) rfl rfl (mm_worthIn ..) ?_
    rintro _ _ ⟨rfl, rfl⟩
    refine am_Rn.go (t := am_t121) rfl 4 rfl ⟨trivial, trivial, trivial, trivial, trivial⟩ ?_
    refine am_Rn.call (t := am_t121) rfl rfl (mm_of2 sc q hq ..) ?_
    rintro _ _ ⟨rfl, rfl⟩
    refine am_Rn.go (t := am_t121) rfl 1 rfl ⟨trivial, trivial⟩ ?_
    refine am_Rn.brF k1 ?_
    refine am_Rn.go (t := am_t121) rfl 3 rfl ⟨trivial, trivial, trivial, trivial⟩ ?_
    refine am_Rn.brF (by rw [eL, hL]; decide) ?_
    refine am_Rn.go (t := am_t121) rfl 3 rfl ⟨trivial, trivial, trivial, trivial⟩ ?_
    refine am_Rn.brF (by rw [eL, hL]; decide) ?_
    refine am_Rn.go (t := am_t121) rfl 4 rfl ⟨trivial, trivial, trivial, trivial, trivial⟩ ?_
    refine am_Rn.brT (by decide) ?_
    refine am_Rn.go (t := am_t121) rfl 2 rfl ⟨trivial, trivial, trivial⟩ ?_
    refine am_Rn.brF (by rw [eL, hL]; decide) ?_
    refine am_Rn.go (t := am_t121) rfl 3 rfl ⟨trivial, trivial, trivial, trivial⟩ ?_
    refine am_Rn.brF (by rw [eL, hL]; decide) ?_
    refine am_Rn.go (t := am_t121) rfl 3 rfl ⟨trivial, trivial, trivial, trivial⟩ ?_
    refine am_Rn.brF (by rw [eL, hL]; decide) ?_
    refine am_Rn.go (t := am_t121) rfl 3 rfl ⟨trivial, trivial, trivial, trivial⟩ ?_
    refine am_Rn.brT (by rw [eL, hL]) ?_
    refine am_Rn.go (t := am_t121) rfl 2 rfl ⟨trivial, trivial, trivial⟩ ?_
    rw [sp_valF hL (Or.inr (by decide)), sp_byLaw3]
    rw [← eM]
    exact L97 _ _ _ _ _
  · skip
    refine am_Rn.go (t := am_t121) rfl 21 rfl ⟨trivial, trivial, trivial, trivial, trivial, (by exact am_inb40 hq), trivial, trivial, trivial, trivial, trivial, trivial, trivial, trivial, (by exact am_inb4 (k := 1) hq (by omega)), trivial, trivial, trivial, trivial, trivial, (by first | exact am_inb_lit rfl | exact am_inb_of (by omega) (by omega)), trivial⟩ ?_
    refine am_Rn.call (t := am_t121) rfl rfl (mm_worthIn ..) ?_
    rintro _ _ ⟨rfl, rfl⟩
    refine am_Rn.go (t := am_t121) rfl 4 rfl ⟨trivial, trivial, trivial, trivial, trivial⟩ ?_
    refine am_Rn.call (t := am_t121) rfl rfl (mm_of2 sc q hq ..) ?_
    rintro _ _ ⟨rfl, rfl⟩
    refine am_Rn.go (t := am_t121) rfl 1 rfl ⟨trivial, trivial⟩ ?_
    refine am_Rn.brT k1 ?_
    refine am_Rn.go (t := am_t121) rfl 4 rfl ⟨trivial, trivial, trivial, trivial, trivial⟩ ?_
    refine am_Rn.brT (by decide) ?_
    refine am_Rn.go (t := am_t121) rfl 2 rfl ⟨trivial, trivial, trivial⟩ ?_
    refine am_Rn.brF (by rw [eL, hL]; decide) ?_
    refine am_Rn.go (t := am_t121) rfl 3 rfl ⟨trivial, trivial, trivial, trivial⟩ ?_
    refine am_Rn.brF (by rw [eL, hL]; decide) ?_
    refine am_Rn.go (t := am_t121) rfl 3 rfl ⟨trivial, trivial, trivial, trivial⟩ ?_
    refine am_Rn.brF (by rw [eL, hL]; decide) ?_
    refine am_Rn.go (t := am_t121) rfl 3 rfl ⟨trivial, trivial, trivial, trivial⟩ ?_
    refine am_Rn.brF (by rw [eL, hL]; decide) ?_
    refine am_Rn.go (t := am_t121) rfl 10 rfl ⟨trivial, trivial, trivial, (by first | exact am_inb_lit rfl | exact am_inb_of (by omega) (by omega)), trivial, trivial, trivial, (by decide), trivial, trivial, trivial⟩ ?_
    rw [sp_valF hL (Or.inl k1), sp_byLaw4]
    rw [← eM]
    exact L97 _ _ _ _ _
  · skip
    refine am_Rn.go (t := am_t121) rfl 21 rfl ⟨trivial, trivial, trivial, trivial, trivial, (by exact am_inb40 hq), trivial, trivial, trivial, trivial, trivial, trivial, trivial, trivial, (by exact am_inb4 (k := 1) hq (by omega)), trivial, trivial, trivial, trivial, trivial, (by first | exact am_inb_lit rfl | exact am_inb_of (by omega) (by omega)), trivial⟩ ?_
    refine am_Rn.call (t := am_t121) rfl rfl (mm_worthIn ..) ?_
    rintro _ _ ⟨rfl, rfl⟩
    refine am_Rn.go (t := am_t121) rfl 4 rfl ⟨trivial, trivial, trivial, trivial, trivial⟩ ?_
    refine am_Rn.call (t := am_t121) rfl rfl (mm_of2 sc q hq ..) ?_
    rintro _ _ ⟨rfl, rfl⟩
    refine am_Rn.go (t := am_t121) rfl 1 rfl ⟨trivial, trivial⟩ ?_
    refine am_Rn.brF k1 ?_
    refine am_Rn.go (t := am_t121) rfl 3 rfl ⟨trivial, trivial, trivial, trivial⟩ ?_
    refine am_Rn.brF (by rw [eL, hL]; decide) ?_
    refine am_Rn.go (t := am_t121) rfl 3 rfl ⟨trivial, trivial, trivial, trivial⟩ ?_
    refine am_Rn.brT (by rw [eL, hL]) ?_
    refine am_Rn.go (t := am_t121) rfl 5 rfl ⟨trivial, trivial, trivial, trivial, trivial, trivial⟩ ?_
    refine am_Rn.brF (by decide) ?_
    refine am_Rn.go (t := am_t121) rfl 5 rfl ⟨trivial, trivial, trivial, trivial, trivial, trivial⟩ ?_
    refine am_Rn.call (t := am_t121) rfl rfl (mm_of2 sc q hq ..) ?_
    rintro _ _ ⟨rfl, rfl⟩
    refine am_Rn.go (t := am_t121) rfl 1 rfl ⟨trivial, trivial⟩ ?_
    refine am_Rn.call (t := am_t121) rfl rfl (mm_riding ..) ?_
    rintro _ _ ⟨rfl, rfl⟩
    refine am_Rn.go (t := am_t121) rfl 1 rfl ⟨trivial, trivial⟩ ?_
    rw [sp_valT k1 (Or.inr hL)]
    exact L97 _ _ _ _ _


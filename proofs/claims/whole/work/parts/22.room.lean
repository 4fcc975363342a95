theorem sx_valueBy_A (sc : am_Sc) (law n : Int32) (nu la me tc ts : Nat → Int32) (pe : Int32) (rd pr pv sa pd lo : Int32) (bo co sh se si er of_ bi bt so : Nat → Int32) (B0 B2 B3 : List am_E) (Bs : am_M) : am_Rn sc 33 (0, am_entry 33 [.ref 128, .int law, .int n], [], B0 :: bkRules 32 nu la me tc ts pe :: B2 :: B3 :: bkRoom 128 32 rd pr pv sa pd lo bo co sh se si er of_ bi bt so :: Bs) (fun r M' => r = some (.int (sp_byLaw nu rd pr pv law n)) ∧ M' = B0 :: bkRules 32 nu la me tc ts pe :: B2 :: B3 :: bkRoom 128 32 rd pr pv sa pd lo bo co sh se si er of_ bi bt so :: Bs) := by
  show am_Rn sc 33 (0, [some (.ref 128), some (.int law), some (.int n), none], [], _) _
  refine am_Rn.go (t := am_t33) rfl 4 rfl ⟨trivial, trivial, trivial, trivial, trivial⟩ ?_
  refine am_Rn.call (t := am_t33) rfl rfl (sx_worthIn_t ..) ?_
  rintro _ _ ⟨rfl, rfl⟩
  refine am_Rn.go (t := am_t33) rfl 3 rfl ⟨trivial, trivial, trivial, trivial⟩ ?_
  refine am_Rn.br (fun h1_0 => ?_) (fun h1_0 => ?_)
  · skip
    refine am_Rn.go (t := am_t33) rfl 12 rfl ⟨trivial, trivial, trivial, trivial, trivial, trivial, trivial, trivial, trivial, trivial, (by decide), trivial, trivial⟩ ?_
    refine am_Rn.ret (t := am_t33) rfl rfl trivial ?_
    refine ⟨congrArg (fun z => some (Value.int z)) ?_, rfl⟩
    (try simp only [Int32.reduceToNatClampNeg] at *)
    unfold sp_byLaw
    (first | simp only [if_pos (show law = 1 by (simp only [Int32.lt_iff_toInt_lt, Int32.le_iff_toInt_le, ← Int32.toInt_inj, Int32.reduceToInt, Int32.not_lt, Int32.not_le] at *; omega))] | simp only [if_neg (show ¬ (law = 1) by (simp only [Int32.lt_iff_toInt_lt, Int32.le_iff_toInt_le, ← Int32.toInt_inj, Int32.reduceToInt, Int32.not_lt, Int32.not_le] at *; omega))] | skip)
    (first | simp only [if_pos (show law = 2 by (simp only [Int32.lt_iff_toInt_lt, Int32.le_iff_toInt_le, ← Int32.toInt_inj, Int32.reduceToInt, Int32.not_lt, Int32.not_le] at *; omega))] | simp only [if_neg (show ¬ (law = 2) by (simp only [Int32.lt_iff_toInt_lt, Int32.le_iff_toInt_le, ← Int32.toInt_inj, Int32.reduceToInt, Int32.not_lt, Int32.not_le] at *; omega))] | skip)
    (first | simp only [if_pos (show nu 0 - rd ≤ n by (simp only [Int32.lt_iff_toInt_lt, Int32.le_iff_toInt_le, ← Int32.toInt_inj, Int32.reduceToInt, Int32.not_lt, Int32.not_le] at *; omega))] | simp only [if_neg (show ¬ (nu 0 - rd ≤ n) by (simp only [Int32.lt_iff_toInt_lt, Int32.le_iff_toInt_le, ← Int32.toInt_inj, Int32.reduceToInt, Int32.not_lt, Int32.not_le] at *; omega))] | skip)
    (first | simp only [if_pos (show law = 3 by (simp only [Int32.lt_iff_toInt_lt, Int32.le_iff_toInt_le, ← Int32.toInt_inj, Int32.reduceToInt, Int32.not_lt, Int32.not_le] at *; omega))] | simp only [if_neg (show ¬ (law = 3) by (simp only [Int32.lt_iff_toInt_lt, Int32.le_iff_toInt_le, ← Int32.toInt_inj, Int32.reduceToInt, Int32.not_lt, Int32.not_le] at *; omega))] | skip)
    (first | simp only [if_pos (show law = 4 by (simp only [Int32.lt_iff_toInt_lt, Int32.le_iff_toInt_le, ← Int32.toInt_inj, Int32.reduceToInt, Int32.not_lt, Int32.not_le] at *; omega))] | simp only [if_neg (show ¬ (law = 4) by (simp only [Int32.lt_iff_toInt_lt, Int32.le_iff_toInt_le, ← Int32.toInt_inj, Int32.reduceToInt, Int32.not_lt, Int32.not_le] at *; omega))] | skip)
    (try rfl)
  refine am_Rn.br (fun h1_1 => ?_) (fun h1_1 => ?_)
  · skip
    refine am_Rn.go (t := am_t33) rfl 10 rfl ⟨trivial, trivial, trivial, trivial, (by first | exact am_inb_lit rfl | exact am_inb_of (by omega) (by omega)), trivial, trivial, trivial, trivial, trivial, trivial⟩ ?_
    refine am_Rn.br (fun h2 => ?_) (fun h2 => ?_)
    · skip
      refine am_Rn.go (t := am_t33) rfl 1 rfl ⟨trivial, trivial⟩ ?_
      refine am_Rn.ret (t := am_t33) rfl rfl trivial ?_
      refine ⟨congrArg (fun z => some (Value.int z)) ?_, rfl⟩
      (try simp only [Int32.reduceToNatClampNeg] at *)
      unfold sp_byLaw
      (first | simp only [if_pos (show law = 1 by (simp only [Int32.lt_iff_toInt_lt, Int32.le_iff_toInt_le, ← Int32.toInt_inj, Int32.reduceToInt, Int32.not_lt, Int32.not_le] at *; omega))] | simp only [if_neg (show ¬ (law = 1) by (simp only [Int32.lt_iff_toInt_lt, Int32.le_iff_toInt_le, ← Int32.toInt_inj, Int32.reduceToInt, Int32.not_lt, Int32.not_le] at *; omega))] | skip)
      (first | simp only [if_pos (show law = 2 by (simp only [Int32.lt_iff_toInt_lt, Int32.le_iff_toInt_le, ← Int32.toInt_inj, Int32.reduceToInt, Int32.not_lt, Int32.not_le] at *; omega))] | simp only [if_neg (show ¬ (law = 2) by (simp only [Int32.lt_iff_toInt_lt, Int32.le_iff_toInt_le, ← Int32.toInt_inj, Int32.reduceToInt, Int32.not_lt, Int32.not_le] at *; omega))] | skip)
      (first | simp only [if_pos (show nu 0 - rd ≤ n by (simp only [Int32.lt_iff_toInt_lt, Int32.le_iff_toInt_le, ← Int32.toInt_inj, Int32.reduceToInt, Int32.not_lt, Int32.not_le] at *; omega))] | simp only [if_neg (show ¬ (nu 0 - rd ≤ n) by (simp only [Int32.lt_iff_toInt_lt, Int32.le_iff_toInt_le, ← Int32.toInt_inj, Int32.reduceToInt, Int32.not_lt, Int32.not_le] at *; omega))] | skip)
      (first | simp only [if_pos (show law = 3 by (simp only [Int32.lt_iff_toInt_lt, Int32.le_iff_toInt_le, ← Int32.toInt_inj, Int32.reduceToInt, Int32.not_lt, Int32.not_le] at *; omega))] | simp only [if_neg (show ¬ (law = 3) by (simp only [Int32.lt_iff_toInt_lt, Int32.le_iff_toInt_le, ← Int32.toInt_inj, Int32.reduceToInt, Int32.not_lt, Int32.not_le] at *; omega))] | skip)
      (first | simp only [if_pos (show law = 4 by (simp only [Int32.lt_iff_toInt_lt, Int32.le_iff_toInt_le, ← Int32.toInt_inj, Int32.reduceToInt, Int32.not_lt, Int32.not_le] at *; omega))] | simp only [if_neg (show ¬ (law = 4) by (simp only [Int32.lt_iff_toInt_lt, Int32.le_iff_toInt_le, ← Int32.toInt_inj, Int32.reduceToInt, Int32.not_lt, Int32.not_le] at *; omega))] | skip)
      (try rfl)
    · skip
      refine am_Rn.go (t := am_t33) rfl 7 rfl ⟨trivial, trivial, trivial, trivial, trivial, trivial, trivial, trivial⟩ ?_
      refine am_Rn.ret (t := am_t33) rfl rfl trivial ?_
      refine ⟨congrArg (fun z => some (Value.int z)) ?_, rfl⟩
      (try simp only [Int32.reduceToNatClampNeg] at *)
      unfold sp_byLaw
      (first | simp only [if_pos (show law = 1 by (simp only [Int32.lt_iff_toInt_lt, Int32.le_iff_toInt_le, ← Int32.toInt_inj, Int32.reduceToInt, Int32.not_lt, Int32.not_le] at *; omega))] | simp only [if_neg (show ¬ (law = 1) by (simp only [Int32.lt_iff_toInt_lt, Int32.le_iff_toInt_le, ← Int32.toInt_inj, Int32.reduceToInt, Int32.not_lt, Int32.not_le] at *; omega))] | skip)
      (first | simp only [if_pos (show law = 2 by (simp only [Int32.lt_iff_toInt_lt, Int32.le_iff_toInt_le, ← Int32.toInt_inj, Int32.reduceToInt, Int32.not_lt, Int32.not_le] at *; omega))] | simp only [if_neg (show ¬ (law = 2) by (simp only [Int32.lt_iff_toInt_lt, Int32.le_iff_toInt_le, ← Int32.toInt_inj, Int32.reduceToInt, Int32.not_lt, Int32.not_le] at *; omega))] | skip)
      (first | simp only [if_pos (show nu 0 - rd ≤ n by (simp only [Int32.lt_iff_toInt_lt, Int32.le_iff_toInt_le, ← Int32.toInt_inj, Int32.reduceToInt, Int32.not_lt, Int32.not_le] at *; omega))] | simp only [if_neg (show ¬ (nu 0 - rd ≤ n) by (simp only [Int32.lt_iff_toInt_lt, Int32.le_iff_toInt_le, ← Int32.toInt_inj, Int32.reduceToInt, Int32.not_lt, Int32.not_le] at *; omega))] | skip)
      (first | simp only [if_pos (show law = 3 by (simp only [Int32.lt_iff_toInt_lt, Int32.le_iff_toInt_le, ← Int32.toInt_inj, Int32.reduceToInt, Int32.not_lt, Int32.not_le] at *; omega))] | simp only [if_neg (show ¬ (law = 3) by (simp only [Int32.lt_iff_toInt_lt, Int32.le_iff_toInt_le, ← Int32.toInt_inj, Int32.reduceToInt, Int32.not_lt, Int32.not_le] at *; omega))] | skip)
      (first | simp only [if_pos (show law = 4 by (simp only [Int32.lt_iff_toInt_lt, Int32.le_iff_toInt_le, ← Int32.toInt_inj, Int32.reduceToInt, Int32.not_lt, Int32.not_le] at *; omega))] | simp only [if_neg (show ¬ (law = 4) by (simp only [Int32.lt_iff_toInt_lt, Int32.le_iff_toInt_le, ← Int32.toInt_inj, Int32.reduceToInt, Int32.not_lt, Int32.not_le] at *; omega))] | skip)
      (try rfl)
  refine am_Rn.br (fun h1_2 => ?_) (fun h1_2 => ?_)
  · skip
    refine am_Rn.go (t := am_t33) rfl 1 rfl ⟨trivial, trivial⟩ ?_
    refine am_Rn.ret (t := am_t33) rfl rfl trivial ?_
    refine ⟨congrArg (fun z => some (Value.int z)) ?_, rfl⟩
    (try simp only [Int32.reduceToNatClampNeg] at *)
    unfold sp_byLaw
    (first | simp only [if_pos (show law = 1 by (simp only [Int32.lt_iff_toInt_lt, Int32.le_iff_toInt_le, ← Int32.toInt_inj, Int32.reduceToInt, Int32.not_lt, Int32.not_le] at *; omega))] | simp only [if_neg (show ¬ (law = 1) by (simp only [Int32.lt_iff_toInt_lt, Int32.le_iff_toInt_le, ← Int32.toInt_inj, Int32.reduceToInt, Int32.not_lt, Int32.not_le] at *; omega))] | skip)
    (first | simp only [if_pos (show law = 2 by (simp only [Int32.lt_iff_toInt_lt, Int32.le_iff_toInt_le, ← Int32.toInt_inj, Int32.reduceToInt, Int32.not_lt, Int32.not_le] at *; omega))] | simp only [if_neg (show ¬ (law = 2) by (simp only [Int32.lt_iff_toInt_lt, Int32.le_iff_toInt_le, ← Int32.toInt_inj, Int32.reduceToInt, Int32.not_lt, Int32.not_le] at *; omega))] | skip)
    (first | simp only [if_pos (show nu 0 - rd ≤ n by (simp only [Int32.lt_iff_toInt_lt, Int32.le_iff_toInt_le, ← Int32.toInt_inj, Int32.reduceToInt, Int32.not_lt, Int32.not_le] at *; omega))] | simp only [if_neg (show ¬ (nu 0 - rd ≤ n) by (simp only [Int32.lt_iff_toInt_lt, Int32.le_iff_toInt_le, ← Int32.toInt_inj, Int32.reduceToInt, Int32.not_lt, Int32.not_le] at *; omega))] | skip)
    (first | simp only [if_pos (show law = 3 by (simp only [Int32.lt_iff_toInt_lt, Int32.le_iff_toInt_le, ← Int32.toInt_inj, Int32.reduceToInt, Int32.not_lt, Int32.not_le] at *; omega))] | simp only [if_neg (show ¬ (law = 3) by (simp only [Int32.lt_iff_toInt_lt, Int32.le_iff_toInt_le, ← Int32.toInt_inj, Int32.reduceToInt, Int32.not_lt, Int32.not_le] at *; omega))] | skip)
    (first | simp only [if_pos (show law = 4 by (simp only [Int32.lt_iff_toInt_lt, Int32.le_iff_toInt_le, ← Int32.toInt_inj, Int32.reduceToInt, Int32.not_lt, Int32.not_le] at *; omega))] | simp only [if_neg (show ¬ (law = 4) by (simp only [Int32.lt_iff_toInt_lt, Int32.le_iff_toInt_le, ← Int32.toInt_inj, Int32.reduceToInt, Int32.not_lt, Int32.not_le] at *; omega))] | skip)
    (try rfl)
  refine am_Rn.br (fun h1_3 => ?_) (fun h1_3 => ?_)
  · skip
    refine am_Rn.go (t := am_t33) rfl 8 rfl ⟨trivial, trivial, trivial, trivial, trivial, (by decide), trivial, trivial, trivial⟩ ?_
    refine am_Rn.ret (t := am_t33) rfl rfl trivial ?_
    refine ⟨congrArg (fun z => some (Value.int z)) ?_, rfl⟩
    (try simp only [Int32.reduceToNatClampNeg] at *)
    unfold sp_byLaw
    (first | simp only [if_pos (show law = 1 by (simp only [Int32.lt_iff_toInt_lt, Int32.le_iff_toInt_le, ← Int32.toInt_inj, Int32.reduceToInt, Int32.not_lt, Int32.not_le] at *; omega))] | simp only [if_neg (show ¬ (law = 1) by (simp only [Int32.lt_iff_toInt_lt, Int32.le_iff_toInt_le, ← Int32.toInt_inj, Int32.reduceToInt, Int32.not_lt, Int32.not_le] at *; omega))] | skip)
    (first | simp only [if_pos (show law = 2 by (simp only [Int32.lt_iff_toInt_lt, Int32.le_iff_toInt_le, ← Int32.toInt_inj, Int32.reduceToInt, Int32.not_lt, Int32.not_le] at *; omega))] | simp only [if_neg (show ¬ (law = 2) by (simp only [Int32.lt_iff_toInt_lt, Int32.le_iff_toInt_le, ← Int32.toInt_inj, Int32.reduceToInt, Int32.not_lt, Int32.not_le] at *; omega))] | skip)
    (first | simp only [if_pos (show nu 0 - rd ≤ n by (simp only [Int32.lt_iff_toInt_lt, Int32.le_iff_toInt_le, ← Int32.toInt_inj, Int32.reduceToInt, Int32.not_lt, Int32.not_le] at *; omega))] | simp only [if_neg (show ¬ (nu 0 - rd ≤ n) by (simp only [Int32.lt_iff_toInt_lt, Int32.le_iff_toInt_le, ← Int32.toInt_inj, Int32.reduceToInt, Int32.not_lt, Int32.not_le] at *; omega))] | skip)
    (first | simp only [if_pos (show law = 3 by (simp only [Int32.lt_iff_toInt_lt, Int32.le_iff_toInt_le, ← Int32.toInt_inj, Int32.reduceToInt, Int32.not_lt, Int32.not_le] at *; omega))] | simp only [if_neg (show ¬ (law = 3) by (simp only [Int32.lt_iff_toInt_lt, Int32.le_iff_toInt_le, ← Int32.toInt_inj, Int32.reduceToInt, Int32.not_lt, Int32.not_le] at *; omega))] | skip)
    (first | simp only [if_pos (show law = 4 by (simp only [Int32.lt_iff_toInt_lt, Int32.le_iff_toInt_le, ← Int32.toInt_inj, Int32.reduceToInt, Int32.not_lt, Int32.not_le] at *; omega))] | simp only [if_neg (show ¬ (law = 4) by (simp only [Int32.lt_iff_toInt_lt, Int32.le_iff_toInt_le, ← Int32.toInt_inj, Int32.reduceToInt, Int32.not_lt, Int32.not_le] at *; omega))] | skip)
    (try rfl)
  refine am_Rn.go (t := am_t33) rfl 1 rfl ⟨trivial, trivial⟩ ?_
  refine am_Rn.ret (t := am_t33) rfl rfl trivial ?_
  refine ⟨congrArg (fun z => some (Value.int z)) ?_, rfl⟩
  (try simp only [Int32.reduceToNatClampNeg] at *)
  unfold sp_byLaw
  (first | simp only [if_pos (show law = 1 by (simp only [Int32.lt_iff_toInt_lt, Int32.le_iff_toInt_le, ← Int32.toInt_inj, Int32.reduceToInt, Int32.not_lt, Int32.not_le] at *; omega))] | simp only [if_neg (show ¬ (law = 1) by (simp only [Int32.lt_iff_toInt_lt, Int32.le_iff_toInt_le, ← Int32.toInt_inj, Int32.reduceToInt, Int32.not_lt, Int32.not_le] at *; omega))] | skip)
  (first | simp only [if_pos (show law = 2 by (simp only [Int32.lt_iff_toInt_lt, Int32.le_iff_toInt_le, ← Int32.toInt_inj, Int32.reduceToInt, Int32.not_lt, Int32.not_le] at *; omega))] | simp only [if_neg (show ¬ (law = 2) by (simp only [Int32.lt_iff_toInt_lt, Int32.le_iff_toInt_le, ← Int32.toInt_inj, Int32.reduceToInt, Int32.not_lt, Int32.not_le] at *; omega))] | skip)
  (first | simp only [if_pos (show nu 0 - rd ≤ n by (simp only [Int32.lt_iff_toInt_lt, Int32.le_iff_toInt_le, ← Int32.toInt_inj, Int32.reduceToInt, Int32.not_lt, Int32.not_le] at *; omega))] | simp only [if_neg (show ¬ (nu 0 - rd ≤ n) by (simp only [Int32.lt_iff_toInt_lt, Int32.le_iff_toInt_le, ← Int32.toInt_inj, Int32.reduceToInt, Int32.not_lt, Int32.not_le] at *; omega))] | skip)
  (first | simp only [if_pos (show law = 3 by (simp only [Int32.lt_iff_toInt_lt, Int32.le_iff_toInt_le, ← Int32.toInt_inj, Int32.reduceToInt, Int32.not_lt, Int32.not_le] at *; omega))] | simp only [if_neg (show ¬ (law = 3) by (simp only [Int32.lt_iff_toInt_lt, Int32.le_iff_toInt_le, ← Int32.toInt_inj, Int32.reduceToInt, Int32.not_lt, Int32.not_le] at *; omega))] | skip)
  (first | simp only [if_pos (show law = 4 by (simp only [Int32.lt_iff_toInt_lt, Int32.le_iff_toInt_le, ← Int32.toInt_inj, Int32.reduceToInt, Int32.not_lt, Int32.not_le] at *; omega))] | simp only [if_neg (show ¬ (law = 4) by (simp only [Int32.lt_iff_toInt_lt, Int32.le_iff_toInt_le, ← Int32.toInt_inj, Int32.reduceToInt, Int32.not_lt, Int32.not_le] at *; omega))] | skip)
  (try rfl)
theorem sx_valueOf_A (sc : am_Sc) (q : Nat) (hq : q < 9) (nu la me tc ts : Nat → Int32) (pe : Int32) (rd pr pv sa pd lo : Int32) (bo co sh se si er of_ bi bt so : Nat → Int32) (B0 B2 B3 : List am_E) (Bs : am_M) : am_Rn sc 32 (0, am_entry 32 [.ref 128, .int (Int32.ofNat q)], [], B0 :: bkRules 32 nu la me tc ts pe :: B2 :: B3 :: bkRoom 128 32 rd pr pv sa pd lo bo co sh se si er of_ bi bt so :: Bs) (fun r M' => r = some (.int (sp_val nu la me se rd pr pv q)) ∧ M' = B0 :: bkRules 32 nu la me tc ts pe :: B2 :: B3 :: bkRoom 128 32 rd pr pv sa pd lo bo co sh se si er of_ bi bt so :: Bs) := by
  show am_Rn sc 32 (0, [some (.ref 128), some (.int (Int32.ofNat q)), none, none, none], [], _) _
  have e1 : (Int32.ofNat q).toNatClampNeg = q := am_tn q (by omega)
  refine am_Rn.go (t := am_t32) rfl 17 rfl ⟨trivial, trivial, trivial, trivial, (by first | exact am_inb_lit rfl | exact am_inb_of (by omega) (by omega)), trivial, trivial, trivial, trivial, trivial, (by first | exact am_inb_lit rfl | exact am_inb_of (by omega) (by omega)), trivial, trivial, trivial, trivial, (by first | exact am_inb_lit rfl | exact am_inb_of (by omega) (by omega)), trivial, trivial⟩ ?_
  refine am_Rn.br (fun h1 => ?_) (fun h1 => ?_)
  · skip
    refine am_Rn.go (t := am_t32) rfl 6 rfl ⟨trivial, trivial, trivial, trivial, (by first | exact am_inb_lit rfl | exact am_inb_of (by omega) (by omega)), trivial, trivial⟩ ?_
    refine am_Rn.br (fun h2 => ?_) (fun h2 => ?_)
    · skip
      refine am_Rn.go (t := am_t32) rfl 7 rfl ⟨trivial, trivial, trivial, trivial, trivial, trivial, trivial, trivial⟩ ?_
      refine am_Rn.call (t := am_t32) rfl rfl (sx_valueBy_A ..) ?_
      rintro _ _ ⟨rfl, rfl⟩
      refine am_Rn.go (t := am_t32) rfl 2 rfl ⟨trivial, trivial, trivial⟩ ?_
      refine am_Rn.ret (t := am_t32) rfl rfl trivial ?_
      refine ⟨congrArg (fun z => some (Value.int z)) ?_, rfl⟩
      (try simp only [e1, Int32.reduceToNatClampNeg] at *)
      unfold sp_val
      (first | simp only [if_pos (show 0 < se q ∧ (la q = 1 ∨ la q = 4) by (simp only [Int32.lt_iff_toInt_lt, Int32.le_iff_toInt_le, ← Int32.toInt_inj, Int32.reduceToInt, Int32.not_lt, Int32.not_le] at *; omega))] | simp only [if_neg (show ¬ (0 < se q ∧ (la q = 1 ∨ la q = 4)) by (simp only [Int32.lt_iff_toInt_lt, Int32.le_iff_toInt_le, ← Int32.toInt_inj, Int32.reduceToInt, Int32.not_lt, Int32.not_le] at *; omega))] | skip)
      unfold sp_lim sp_lid
      (first | simp only [if_pos (show nu 7 ≤ 0 by (simp only [Int32.lt_iff_toInt_lt, Int32.le_iff_toInt_le, ← Int32.toInt_inj, Int32.reduceToInt, Int32.not_lt, Int32.not_le] at *; omega))] | simp only [if_neg (show ¬ (nu 7 ≤ 0) by (simp only [Int32.lt_iff_toInt_lt, Int32.le_iff_toInt_le, ← Int32.toInt_inj, Int32.reduceToInt, Int32.not_lt, Int32.not_le] at *; omega))] | skip)
      (try rfl)
    · skip
      refine am_Rn.go (t := am_t32) rfl 12 rfl ⟨trivial, trivial, trivial, trivial, (by first | exact am_inb_lit rfl | exact am_inb_of (by omega) (by omega)), trivial, trivial, trivial, trivial, trivial, trivial, trivial, trivial⟩ ?_
      refine am_Rn.call (t := am_t32) rfl rfl (sx_valueBy_A ..) ?_
      rintro _ _ ⟨rfl, rfl⟩
      refine am_Rn.go (t := am_t32) rfl 2 rfl ⟨trivial, trivial, trivial⟩ ?_
      refine am_Rn.ret (t := am_t32) rfl rfl trivial ?_
      refine ⟨congrArg (fun z => some (Value.int z)) ?_, rfl⟩
      (try simp only [e1, Int32.reduceToNatClampNeg] at *)
      unfold sp_val
      (first | simp only [if_pos (show 0 < se q ∧ (la q = 1 ∨ la q = 4) by (simp only [Int32.lt_iff_toInt_lt, Int32.le_iff_toInt_le, ← Int32.toInt_inj, Int32.reduceToInt, Int32.not_lt, Int32.not_le] at *; omega))] | simp only [if_neg (show ¬ (0 < se q ∧ (la q = 1 ∨ la q = 4)) by (simp only [Int32.lt_iff_toInt_lt, Int32.le_iff_toInt_le, ← Int32.toInt_inj, Int32.reduceToInt, Int32.not_lt, Int32.not_le] at *; omega))] | skip)
      unfold sp_lim sp_lid
      (first | simp only [if_pos (show nu 7 ≤ 0 by (simp only [Int32.lt_iff_toInt_lt, Int32.le_iff_toInt_le, ← Int32.toInt_inj, Int32.reduceToInt, Int32.not_lt, Int32.not_le] at *; omega))] | simp only [if_neg (show ¬ (nu 7 ≤ 0) by (simp only [Int32.lt_iff_toInt_lt, Int32.le_iff_toInt_le, ← Int32.toInt_inj, Int32.reduceToInt, Int32.not_lt, Int32.not_le] at *; omega))] | skip)
      (try rfl)
  · skip
    refine am_Rn.go (t := am_t32) rfl 3 rfl ⟨trivial, trivial, trivial, trivial⟩ ?_
    refine am_Rn.br (fun h3 => ?_) (fun h3 => ?_)
    · skip
      refine am_Rn.go (t := am_t32) rfl 15 rfl ⟨trivial, trivial, trivial, trivial, trivial, trivial, (by first | exact am_inb_lit rfl | exact am_inb_of (by omega) (by omega)), trivial, trivial, trivial, trivial, trivial, trivial, (by first | exact am_inb_lit rfl | exact am_inb_of (by omega) (by omega)), trivial, trivial⟩ ?_
      refine am_Rn.br (fun h4 => ?_) (fun h4 => ?_)
      · skip
        refine am_Rn.go (t := am_t32) rfl 7 rfl ⟨trivial, trivial, trivial, trivial, trivial, trivial, trivial, trivial⟩ ?_
        refine am_Rn.call (t := am_t32) rfl rfl (sx_valueBy_A ..) ?_
        rintro _ _ ⟨rfl, rfl⟩
        refine am_Rn.go (t := am_t32) rfl 2 rfl ⟨trivial, trivial, trivial⟩ ?_
        refine am_Rn.ret (t := am_t32) rfl rfl trivial ?_
        refine ⟨congrArg (fun z => some (Value.int z)) ?_, rfl⟩
        (try simp only [e1, Int32.reduceToNatClampNeg] at *)
        unfold sp_val
        (first | simp only [if_pos (show 0 < se q ∧ (la q = 1 ∨ la q = 4) by (simp only [Int32.lt_iff_toInt_lt, Int32.le_iff_toInt_le, ← Int32.toInt_inj, Int32.reduceToInt, Int32.not_lt, Int32.not_le] at *; omega))] | simp only [if_neg (show ¬ (0 < se q ∧ (la q = 1 ∨ la q = 4)) by (simp only [Int32.lt_iff_toInt_lt, Int32.le_iff_toInt_le, ← Int32.toInt_inj, Int32.reduceToInt, Int32.not_lt, Int32.not_le] at *; omega))] | skip)
        unfold sp_lim sp_lid
        (first | simp only [if_pos (show nu 7 ≤ 0 by (simp only [Int32.lt_iff_toInt_lt, Int32.le_iff_toInt_le, ← Int32.toInt_inj, Int32.reduceToInt, Int32.not_lt, Int32.not_le] at *; omega))] | simp only [if_neg (show ¬ (nu 7 ≤ 0) by (simp only [Int32.lt_iff_toInt_lt, Int32.le_iff_toInt_le, ← Int32.toInt_inj, Int32.reduceToInt, Int32.not_lt, Int32.not_le] at *; omega))] | skip)
        (try rfl)
      · skip
        refine am_Rn.go (t := am_t32) rfl 12 rfl ⟨trivial, trivial, trivial, trivial, (by first | exact am_inb_lit rfl | exact am_inb_of (by omega) (by omega)), trivial, trivial, trivial, trivial, trivial, trivial, trivial, trivial⟩ ?_
        refine am_Rn.call (t := am_t32) rfl rfl (sx_valueBy_A ..) ?_
        rintro _ _ ⟨rfl, rfl⟩
        refine am_Rn.go (t := am_t32) rfl 2 rfl ⟨trivial, trivial, trivial⟩ ?_
        refine am_Rn.ret (t := am_t32) rfl rfl trivial ?_
        refine ⟨congrArg (fun z => some (Value.int z)) ?_, rfl⟩
        (try simp only [e1, Int32.reduceToNatClampNeg] at *)
        unfold sp_val
        (first | simp only [if_pos (show 0 < se q ∧ (la q = 1 ∨ la q = 4) by (simp only [Int32.lt_iff_toInt_lt, Int32.le_iff_toInt_le, ← Int32.toInt_inj, Int32.reduceToInt, Int32.not_lt, Int32.not_le] at *; omega))] | simp only [if_neg (show ¬ (0 < se q ∧ (la q = 1 ∨ la q = 4)) by (simp only [Int32.lt_iff_toInt_lt, Int32.le_iff_toInt_le, ← Int32.toInt_inj, Int32.reduceToInt, Int32.not_lt, Int32.not_le] at *; omega))] | skip)
        unfold sp_lim sp_lid
        (first | simp only [if_pos (show nu 7 ≤ 0 by (simp only [Int32.lt_iff_toInt_lt, Int32.le_iff_toInt_le, ← Int32.toInt_inj, Int32.reduceToInt, Int32.not_lt, Int32.not_le] at *; omega))] | simp only [if_neg (show ¬ (nu 7 ≤ 0) by (simp only [Int32.lt_iff_toInt_lt, Int32.le_iff_toInt_le, ← Int32.toInt_inj, Int32.reduceToInt, Int32.not_lt, Int32.not_le] at *; omega))] | skip)
        (try rfl)
    · skip
      refine am_Rn.go (t := am_t32) rfl 3 rfl ⟨trivial, trivial, trivial, trivial⟩ ?_
      refine am_Rn.br (fun h5 => ?_) (fun h5 => ?_)
      · skip
        refine am_Rn.go (t := am_t32) rfl 15 rfl ⟨trivial, trivial, trivial, trivial, trivial, trivial, (by first | exact am_inb_lit rfl | exact am_inb_of (by omega) (by omega)), trivial, trivial, trivial, trivial, trivial, trivial, (by first | exact am_inb_lit rfl | exact am_inb_of (by omega) (by omega)), trivial, trivial⟩ ?_
        refine am_Rn.br (fun h6 => ?_) (fun h6 => ?_)
        · skip
          refine am_Rn.go (t := am_t32) rfl 7 rfl ⟨trivial, trivial, trivial, trivial, trivial, trivial, trivial, trivial⟩ ?_
          refine am_Rn.call (t := am_t32) rfl rfl (sx_valueBy_A ..) ?_
          rintro _ _ ⟨rfl, rfl⟩
          refine am_Rn.go (t := am_t32) rfl 2 rfl ⟨trivial, trivial, trivial⟩ ?_
          refine am_Rn.ret (t := am_t32) rfl rfl trivial ?_
          refine ⟨congrArg (fun z => some (Value.int z)) ?_, rfl⟩
          (try simp only [e1, Int32.reduceToNatClampNeg] at *)
          unfold sp_val
          (first | simp only [if_pos (show 0 < se q ∧ (la q = 1 ∨ la q = 4) by (simp only [Int32.lt_iff_toInt_lt, Int32.le_iff_toInt_le, ← Int32.toInt_inj, Int32.reduceToInt, Int32.not_lt, Int32.not_le] at *; omega))] | simp only [if_neg (show ¬ (0 < se q ∧ (la q = 1 ∨ la q = 4)) by (simp only [Int32.lt_iff_toInt_lt, Int32.le_iff_toInt_le, ← Int32.toInt_inj, Int32.reduceToInt, Int32.not_lt, Int32.not_le] at *; omega))] | skip)
          unfold sp_lim sp_lid
          (first | simp only [if_pos (show nu 7 ≤ 0 by (simp only [Int32.lt_iff_toInt_lt, Int32.le_iff_toInt_le, ← Int32.toInt_inj, Int32.reduceToInt, Int32.not_lt, Int32.not_le] at *; omega))] | simp only [if_neg (show ¬ (nu 7 ≤ 0) by (simp only [Int32.lt_iff_toInt_lt, Int32.le_iff_toInt_le, ← Int32.toInt_inj, Int32.reduceToInt, Int32.not_lt, Int32.not_le] at *; omega))] | skip)
          (try rfl)
        · skip
          refine am_Rn.go (t := am_t32) rfl 12 rfl ⟨trivial, trivial, trivial, trivial, (by first | exact am_inb_lit rfl | exact am_inb_of (by omega) (by omega)), trivial, trivial, trivial, trivial, trivial, trivial, trivial, trivial⟩ ?_
          refine am_Rn.call (t := am_t32) rfl rfl (sx_valueBy_A ..) ?_
          rintro _ _ ⟨rfl, rfl⟩
          refine am_Rn.go (t := am_t32) rfl 2 rfl ⟨trivial, trivial, trivial⟩ ?_
          refine am_Rn.ret (t := am_t32) rfl rfl trivial ?_
          refine ⟨congrArg (fun z => some (Value.int z)) ?_, rfl⟩
          (try simp only [e1, Int32.reduceToNatClampNeg] at *)
          unfold sp_val
          (first | simp only [if_pos (show 0 < se q ∧ (la q = 1 ∨ la q = 4) by (simp only [Int32.lt_iff_toInt_lt, Int32.le_iff_toInt_le, ← Int32.toInt_inj, Int32.reduceToInt, Int32.not_lt, Int32.not_le] at *; omega))] | simp only [if_neg (show ¬ (0 < se q ∧ (la q = 1 ∨ la q = 4)) by (simp only [Int32.lt_iff_toInt_lt, Int32.le_iff_toInt_le, ← Int32.toInt_inj, Int32.reduceToInt, Int32.not_lt, Int32.not_le] at *; omega))] | skip)
          unfold sp_lim sp_lid
          (first | simp only [if_pos (show nu 7 ≤ 0 by (simp only [Int32.lt_iff_toInt_lt, Int32.le_iff_toInt_le, ← Int32.toInt_inj, Int32.reduceToInt, Int32.not_lt, Int32.not_le] at *; omega))] | simp only [if_neg (show ¬ (nu 7 ≤ 0) by (simp only [Int32.lt_iff_toInt_lt, Int32.le_iff_toInt_le, ← Int32.toInt_inj, Int32.reduceToInt, Int32.not_lt, Int32.not_le] at *; omega))] | skip)
          (try rfl)
      · skip
        refine am_Rn.go (t := am_t32) rfl 6 rfl ⟨trivial, trivial, trivial, trivial, (by first | exact am_inb_lit rfl | exact am_inb_of (by omega) (by omega)), trivial, trivial⟩ ?_
        refine am_Rn.br (fun h7 => ?_) (fun h7 => ?_)
        · skip
          refine am_Rn.go (t := am_t32) rfl 7 rfl ⟨trivial, trivial, trivial, trivial, trivial, trivial, trivial, trivial⟩ ?_
          refine am_Rn.call (t := am_t32) rfl rfl (sx_valueBy_A ..) ?_
          rintro _ _ ⟨rfl, rfl⟩
          refine am_Rn.go (t := am_t32) rfl 2 rfl ⟨trivial, trivial, trivial⟩ ?_
          refine am_Rn.ret (t := am_t32) rfl rfl trivial ?_
          refine ⟨congrArg (fun z => some (Value.int z)) ?_, rfl⟩
          (try simp only [e1, Int32.reduceToNatClampNeg] at *)
          unfold sp_val
          (first | simp only [if_pos (show 0 < se q ∧ (la q = 1 ∨ la q = 4) by (simp only [Int32.lt_iff_toInt_lt, Int32.le_iff_toInt_le, ← Int32.toInt_inj, Int32.reduceToInt, Int32.not_lt, Int32.not_le] at *; omega))] | simp only [if_neg (show ¬ (0 < se q ∧ (la q = 1 ∨ la q = 4)) by (simp only [Int32.lt_iff_toInt_lt, Int32.le_iff_toInt_le, ← Int32.toInt_inj, Int32.reduceToInt, Int32.not_lt, Int32.not_le] at *; omega))] | skip)
          unfold sp_lim sp_lid
          (first | simp only [if_pos (show nu 7 ≤ 0 by (simp only [Int32.lt_iff_toInt_lt, Int32.le_iff_toInt_le, ← Int32.toInt_inj, Int32.reduceToInt, Int32.not_lt, Int32.not_le] at *; omega))] | simp only [if_neg (show ¬ (nu 7 ≤ 0) by (simp only [Int32.lt_iff_toInt_lt, Int32.le_iff_toInt_le, ← Int32.toInt_inj, Int32.reduceToInt, Int32.not_lt, Int32.not_le] at *; omega))] | skip)
          (try rfl)
        · skip
          refine am_Rn.go (t := am_t32) rfl 12 rfl ⟨trivial, trivial, trivial, trivial, (by first | exact am_inb_lit rfl | exact am_inb_of (by omega) (by omega)), trivial, trivial, trivial, trivial, trivial, trivial, trivial, trivial⟩ ?_
          refine am_Rn.call (t := am_t32) rfl rfl (sx_valueBy_A ..) ?_
          rintro _ _ ⟨rfl, rfl⟩
          refine am_Rn.go (t := am_t32) rfl 2 rfl ⟨trivial, trivial, trivial⟩ ?_
          refine am_Rn.ret (t := am_t32) rfl rfl trivial ?_
          refine ⟨congrArg (fun z => some (Value.int z)) ?_, rfl⟩
          (try simp only [e1, Int32.reduceToNatClampNeg] at *)
          unfold sp_val
          (first | simp only [if_pos (show 0 < se q ∧ (la q = 1 ∨ la q = 4) by (simp only [Int32.lt_iff_toInt_lt, Int32.le_iff_toInt_le, ← Int32.toInt_inj, Int32.reduceToInt, Int32.not_lt, Int32.not_le] at *; omega))] | simp only [if_neg (show ¬ (0 < se q ∧ (la q = 1 ∨ la q = 4)) by (simp only [Int32.lt_iff_toInt_lt, Int32.le_iff_toInt_le, ← Int32.toInt_inj, Int32.reduceToInt, Int32.not_lt, Int32.not_le] at *; omega))] | skip)
          unfold sp_lim sp_lid
          (first | simp only [if_pos (show nu 7 ≤ 0 by (simp only [Int32.lt_iff_toInt_lt, Int32.le_iff_toInt_le, ← Int32.toInt_inj, Int32.reduceToInt, Int32.not_lt, Int32.not_le] at *; omega))] | simp only [if_neg (show ¬ (nu 7 ≤ 0) by (simp only [Int32.lt_iff_toInt_lt, Int32.le_iff_toInt_le, ← Int32.toInt_inj, Int32.reduceToInt, Int32.not_lt, Int32.not_le] at *; omega))] | skip)
          (try rfl)
theorem sx_payEach_A (sc : am_Sc) (each : Int32) (nu la me tc ts : Nat → Int32) (P : Nat) (hP : P ≤ 9) (rd pr pv sa pd lo : Int32) (bo co sh se si er of_ bi bt so : Nat → Int32) (B0 B2 B3 : List am_E) (Bs : am_M) : am_Rn sc 39 (0, am_entry 39 [.ref 128, .int each], [], B0 :: bkRules 32 nu la me tc ts (Int32.ofNat P) :: B2 :: B3 :: bkRoom 128 32 rd pr pv sa pd lo bo co sh se si er of_ bi bt so :: Bs) (fun r M' => r = none ∧ M' = B0 :: bkRules 32 nu la me tc ts (Int32.ofNat P) :: B2 :: B3 :: bkRoom 128 32 rd pr pv sa (pd + each) lo bo (am_fold P (sp_pay sh each) co) sh se si er of_ bi bt so :: Bs) := by
  show am_Rn sc 39 (0, [some (.ref 128), some (.int each), none], [], _) _
  have L : ∀ (d i : Nat), i + d = P → am_Rn sc 39 (8, [some (.ref 128), some (.int each), some (.int (Int32.ofNat i))], [], B0 :: bkRules 32 nu la me tc ts (Int32.ofNat P) :: B2 :: B3 :: bkRoom 128 32 rd pr pv sa (pd + each) lo bo (am_fold i (sp_pay sh each) co) sh se si er of_ bi bt so :: Bs) (fun r M' => r = none ∧ M' = B0 :: bkRules 32 nu la me tc ts (Int32.ofNat P) :: B2 :: B3 :: bkRoom 128 32 rd pr pv sa (pd + each) lo bo (am_fold P (sp_pay sh each) co) sh se si er of_ bi bt so :: Bs) := by
    intro d
    induction d with
    | zero =>
      intro i  hi
      obtain rfl : i = P := by omega
      refine am_Rn.go (t := am_t39) rfl 5 rfl ⟨trivial, trivial, trivial, trivial, trivial, trivial⟩ ?_
      refine am_Rn.brT (by first | exact (am_le (by omega) (by omega)).mpr (Nat.le_refl _) | exact fun q => absurd ((am_lt (by omega) (by omega)).mp q) (Nat.lt_irrefl _) | decide) ?_
      refine am_Rn.ret (t := am_t39) rfl rfl trivial ?_
      exact ⟨rfl, rfl⟩
    | succ d ih =>
      intro i  hi
      have hiP : i < P := by omega
      have e1 : (Int32.ofNat i).toNatClampNeg = i := am_tn i (by omega)
      refine am_Rn.go (t := am_t39) rfl 5 rfl ⟨trivial, trivial, trivial, trivial, trivial, trivial⟩ ?_
      refine am_Rn.brF (by first | exact fun q => absurd ((am_le (by omega) (by omega)).mp q) (by omega) | exact fun q => absurd ((am_le (i := 9) (by omega) (by omega)).mp q) (by omega) | exact fun q => absurd ((am_le (i := 10) (by omega) (by omega)).mp q) (by omega) | exact (am_lt (by omega) (by omega)).mpr hiP) ?_
      refine am_Rn.go (t := am_t39) rfl 15 rfl ⟨trivial, trivial, trivial, trivial, (by first | exact am_inb_lit rfl | exact am_inb_of (by omega) (by omega)), trivial, trivial, trivial, (by first | exact am_inb_lit rfl | exact am_inb_of (by omega) (by omega)), trivial, trivial, trivial, (by first | exact am_inb_lit rfl | exact am_inb_of (by omega) (by omega)), trivial, trivial, trivial⟩ ?_
      have g := ih (i + 1) (by omega)
      rw [← am_inc] at g
      simp only [e1]
      exact g
  refine am_Rn.go (t := am_t39) rfl 8 rfl ⟨trivial, trivial, trivial, trivial, trivial, trivial, trivial, trivial, trivial⟩ ?_
  exact L P 0 (by omega)
theorem sx_valueBy_B (sc : am_Sc) (law n : Int32) (nu la me tc ts : Nat → Int32) (pe : Int32) (rd pr pv sa pd lo : Int32) (bo co sh se si er of_ bi bt so : Nat → Int32) (B0 B1 B2 B3 B4 : List am_E) (Bs : am_M) : am_Rn sc 33 (0, am_entry 33 [.ref 192, .int law, .int n], [], B0 :: B1 :: B2 :: B3 :: B4 :: bkRules 160 nu la me tc ts pe :: bkRoom 192 160 rd pr pv sa pd lo bo co sh se si er of_ bi bt so :: Bs) (fun r M' => r = some (.int (sp_byLaw nu rd pr pv law n)) ∧ M' = B0 :: B1 :: B2 :: B3 :: B4 :: bkRules 160 nu la me tc ts pe :: bkRoom 192 160 rd pr pv sa pd lo bo co sh se si er of_ bi bt so :: Bs) := by
  show am_Rn sc 33 (0, [some (.ref 192), some (.int law), some (.int n), none], [], _) _
  refine am_Rn.go (t := am_t33) rfl 4 rfl ⟨trivial, trivial, trivial, trivial, trivial⟩ ?_
  refine am_Rn.call (t := am_t33) rfl rfl (sx_worthIn_v ..) ?_
  rintro _ _ ⟨rfl, rfl⟩
  refine am_Rn.go (t := am_t33) rfl 3 rfl ⟨trivial, trivial, trivial, trivial⟩ ?_
  refine am_Rn.br (fun h1_0 => ?_) (fun h1_0 => ?_)
  · skip
    refine am_Rn.go (t := am_t33) rfl 12 rfl ⟨trivial, trivial, trivial, trivial, trivial, trivial, trivial, trivial, trivial, trivial, (by decide), trivial, trivial⟩ ?_
    refine am_Rn.ret (t := am_t33) rfl rfl trivial ?_
    refine ⟨congrArg (fun z => some (Value.int z)) ?_, rfl⟩
    (try simp only [Int32.reduceToNatClampNeg] at *)
    unfold sp_byLaw
    (first | simp only [if_pos (show law = 1 by (simp only [Int32.lt_iff_toInt_lt, Int32.le_iff_toInt_le, ← Int32.toInt_inj, Int32.reduceToInt, Int32.not_lt, Int32.not_le] at *; omega))] | simp only [if_neg (show ¬ (law = 1) by (simp only [Int32.lt_iff_toInt_lt, Int32.le_iff_toInt_le, ← Int32.toInt_inj, Int32.reduceToInt, Int32.not_lt, Int32.not_le] at *; omega))] | skip)
    (first | simp only [if_pos (show law = 2 by (simp only [Int32.lt_iff_toInt_lt, Int32.le_iff_toInt_le, ← Int32.toInt_inj, Int32.reduceToInt, Int32.not_lt, Int32.not_le] at *; omega))] | simp only [if_neg (show ¬ (law = 2) by (simp only [Int32.lt_iff_toInt_lt, Int32.le_iff_toInt_le, ← Int32.toInt_inj, Int32.reduceToInt, Int32.not_lt, Int32.not_le] at *; omega))] | skip)
    (first | simp only [if_pos (show nu 0 - rd ≤ n by (simp only [Int32.lt_iff_toInt_lt, Int32.le_iff_toInt_le, ← Int32.toInt_inj, Int32.reduceToInt, Int32.not_lt, Int32.not_le] at *; omega))] | simp only [if_neg (show ¬ (nu 0 - rd ≤ n) by (simp only [Int32.lt_iff_toInt_lt, Int32.le_iff_toInt_le, ← Int32.toInt_inj, Int32.reduceToInt, Int32.not_lt, Int32.not_le] at *; omega))] | skip)
    (first | simp only [if_pos (show law = 3 by (simp only [Int32.lt_iff_toInt_lt, Int32.le_iff_toInt_le, ← Int32.toInt_inj, Int32.reduceToInt, Int32.not_lt, Int32.not_le] at *; omega))] | simp only [if_neg (show ¬ (law = 3) by (simp only [Int32.lt_iff_toInt_lt, Int32.le_iff_toInt_le, ← Int32.toInt_inj, Int32.reduceToInt, Int32.not_lt, Int32.not_le] at *; omega))] | skip)
    (first | simp only [if_pos (show law = 4 by (simp only [Int32.lt_iff_toInt_lt, Int32.le_iff_toInt_le, ← Int32.toInt_inj, Int32.reduceToInt, Int32.not_lt, Int32.not_le] at *; omega))] | simp only [if_neg (show ¬ (law = 4) by (simp only [Int32.lt_iff_toInt_lt, Int32.le_iff_toInt_le, ← Int32.toInt_inj, Int32.reduceToInt, Int32.not_lt, Int32.not_le] at *; omega))] | skip)
    (try rfl)
  refine am_Rn.br (fun h1_1 => ?_) (fun h1_1 => ?_)
  · skip
    refine am_Rn.go (t := am_t33) rfl 10 rfl ⟨trivial, trivial, trivial, trivial, (by first | exact am_inb_lit rfl | exact am_inb_of (by omega) (by omega)), trivial, trivial, trivial, trivial, trivial, trivial⟩ ?_
    refine am_Rn.br (fun h2 => ?_) (fun h2 => ?_)
    · skip
      refine am_Rn.go (t := am_t33) rfl 1 rfl ⟨trivial, trivial⟩ ?_
      refine am_Rn.ret (t := am_t33) rfl rfl trivial ?_
      refine ⟨congrArg (fun z => some (Value.int z)) ?_, rfl⟩
      (try simp only [Int32.reduceToNatClampNeg] at *)
      unfold sp_byLaw
      (first | simp only [if_pos (show law = 1 by (simp only [Int32.lt_iff_toInt_lt, Int32.le_iff_toInt_le, ← Int32.toInt_inj, Int32.reduceToInt, Int32.not_lt, Int32.not_le] at *; omega))] | simp only [if_neg (show ¬ (law = 1) by (simp only [Int32.lt_iff_toInt_lt, Int32.le_iff_toInt_le, ← Int32.toInt_inj, Int32.reduceToInt, Int32.not_lt, Int32.not_le] at *; omega))] | skip)
      (first | simp only [if_pos (show law = 2 by (simp only [Int32.lt_iff_toInt_lt, Int32.le_iff_toInt_le, ← Int32.toInt_inj, Int32.reduceToInt, Int32.not_lt, Int32.not_le] at *; omega))] | simp only [if_neg (show ¬ (law = 2) by (simp only [Int32.lt_iff_toInt_lt, Int32.le_iff_toInt_le, ← Int32.toInt_inj, Int32.reduceToInt, Int32.not_lt, Int32.not_le] at *; omega))] | skip)
      (first | simp only [if_pos (show nu 0 - rd ≤ n by (simp only [Int32.lt_iff_toInt_lt, Int32.le_iff_toInt_le, ← Int32.toInt_inj, Int32.reduceToInt, Int32.not_lt, Int32.not_le] at *; omega))] | simp only [if_neg (show ¬ (nu 0 - rd ≤ n) by (simp only [Int32.lt_iff_toInt_lt, Int32.le_iff_toInt_le, ← Int32.toInt_inj, Int32.reduceToInt, Int32.not_lt, Int32.not_le] at *; omega))] | skip)
      (first | simp only [if_pos (show law = 3 by (simp only [Int32.lt_iff_toInt_lt, Int32.le_iff_toInt_le, ← Int32.toInt_inj, Int32.reduceToInt, Int32.not_lt, Int32.not_le] at *; omega))] | simp only [if_neg (show ¬ (law = 3) by (simp only [Int32.lt_iff_toInt_lt, Int32.le_iff_toInt_le, ← Int32.toInt_inj, Int32.reduceToInt, Int32.not_lt, Int32.not_le] at *; omega))] | skip)
      (first | simp only [if_pos (show law = 4 by (simp only [Int32.lt_iff_toInt_lt, Int32.le_iff_toInt_le, ← Int32.toInt_inj, Int32.reduceToInt, Int32.not_lt, Int32.not_le] at *; omega))] | simp only [if_neg (show ¬ (law = 4) by (simp only [Int32.lt_iff_toInt_lt, Int32.le_iff_toInt_le, ← Int32.toInt_inj, Int32.reduceToInt, Int32.not_lt, Int32.not_le] at *; omega))] | skip)
      (try rfl)
    · skip
      refine am_Rn.go (t := am_t33) rfl 7 rfl ⟨trivial, trivial, trivial, trivial, trivial, trivial, trivial, trivial⟩ ?_
      refine am_Rn.ret (t := am_t33) rfl rfl trivial ?_
      refine ⟨congrArg (fun z => some (Value.int z)) ?_, rfl⟩
      (try simp only [Int32.reduceToNatClampNeg] at *)
      unfold sp_byLaw
      (first | simp only [if_pos (show law = 1 by (simp only [Int32.lt_iff_toInt_lt, Int32.le_iff_toInt_le, ← Int32.toInt_inj, Int32.reduceToInt, Int32.not_lt, Int32.not_le] at *; omega))] | simp only [if_neg (show ¬ (law = 1) by (simp only [Int32.lt_iff_toInt_lt, Int32.le_iff_toInt_le, ← Int32.toInt_inj, Int32.reduceToInt, Int32.not_lt, Int32.not_le] at *; omega))] | skip)
      (first | simp only [if_pos (show law = 2 by (simp only [Int32.lt_iff_toInt_lt, Int32.le_iff_toInt_le, ← Int32.toInt_inj, Int32.reduceToInt, Int32.not_lt, Int32.not_le] at *; omega))] | simp only [if_neg (show ¬ (law = 2) by (simp only [Int32.lt_iff_toInt_lt, Int32.le_iff_toInt_le, ← Int32.toInt_inj, Int32.reduceToInt, Int32.not_lt, Int32.not_le] at *; omega))] | skip)
      (first | simp only [if_pos (show nu 0 - rd ≤ n by (simp only [Int32.lt_iff_toInt_lt, Int32.le_iff_toInt_le, ← Int32.toInt_inj, Int32.reduceToInt, Int32.not_lt, Int32.not_le] at *; omega))] | simp only [if_neg (show ¬ (nu 0 - rd ≤ n) by (simp only [Int32.lt_iff_toInt_lt, Int32.le_iff_toInt_le, ← Int32.toInt_inj, Int32.reduceToInt, Int32.not_lt, Int32.not_le] at *; omega))] | skip)
      (first | simp only [if_pos (show law = 3 by (simp only [Int32.lt_iff_toInt_lt, Int32.le_iff_toInt_le, ← Int32.toInt_inj, Int32.reduceToInt, Int32.not_lt, Int32.not_le] at *; omega))] | simp only [if_neg (show ¬ (law = 3) by (simp only [Int32.lt_iff_toInt_lt, Int32.le_iff_toInt_le, ← Int32.toInt_inj, Int32.reduceToInt, Int32.not_lt, Int32.not_le] at *; omega))] | skip)
      (first | simp only [if_pos (show law = 4 by (simp only [Int32.lt_iff_toInt_lt, Int32.le_iff_toInt_le, ← Int32.toInt_inj, Int32.reduceToInt, Int32.not_lt, Int32.not_le] at *; omega))] | simp only [if_neg (show ¬ (law = 4) by (simp only [Int32.lt_iff_toInt_lt, Int32.le_iff_toInt_le, ← Int32.toInt_inj, Int32.reduceToInt, Int32.not_lt, Int32.not_le] at *; omega))] | skip)
      (try rfl)
  refine am_Rn.br (fun h1_2 => ?_) (fun h1_2 => ?_)
  · skip
    refine am_Rn.go (t := am_t33) rfl 1 rfl ⟨trivial, trivial⟩ ?_
    refine am_Rn.ret (t := am_t33) rfl rfl trivial ?_
    refine ⟨congrArg (fun z => some (Value.int z)) ?_, rfl⟩
    (try simp only [Int32.reduceToNatClampNeg] at *)
    unfold sp_byLaw
    (first | simp only [if_pos (show law = 1 by (simp only [Int32.lt_iff_toInt_lt, Int32.le_iff_toInt_le, ← Int32.toInt_inj, Int32.reduceToInt, Int32.not_lt, Int32.not_le] at *; omega))] | simp only [if_neg (show ¬ (law = 1) by (simp only [Int32.lt_iff_toInt_lt, Int32.le_iff_toInt_le, ← Int32.toInt_inj, Int32.reduceToInt, Int32.not_lt, Int32.not_le] at *; omega))] | skip)
    (first | simp only [if_pos (show law = 2 by (simp only [Int32.lt_iff_toInt_lt, Int32.le_iff_toInt_le, ← Int32.toInt_inj, Int32.reduceToInt, Int32.not_lt, Int32.not_le] at *; omega))] | simp only [if_neg (show ¬ (law = 2) by (simp only [Int32.lt_iff_toInt_lt, Int32.le_iff_toInt_le, ← Int32.toInt_inj, Int32.reduceToInt, Int32.not_lt, Int32.not_le] at *; omega))] | skip)
    (first | simp only [if_pos (show nu 0 - rd ≤ n by (simp only [Int32.lt_iff_toInt_lt, Int32.le_iff_toInt_le, ← Int32.toInt_inj, Int32.reduceToInt, Int32.not_lt, Int32.not_le] at *; omega))] | simp only [if_neg (show ¬ (nu 0 - rd ≤ n) by (simp only [Int32.lt_iff_toInt_lt, Int32.le_iff_toInt_le, ← Int32.toInt_inj, Int32.reduceToInt, Int32.not_lt, Int32.not_le] at *; omega))] | skip)
    (first | simp only [if_pos (show law = 3 by (simp only [Int32.lt_iff_toInt_lt, Int32.le_iff_toInt_le, ← Int32.toInt_inj, Int32.reduceToInt, Int32.not_lt, Int32.not_le] at *; omega))] | simp only [if_neg (show ¬ (law = 3) by (simp only [Int32.lt_iff_toInt_lt, Int32.le_iff_toInt_le, ← Int32.toInt_inj, Int32.reduceToInt, Int32.not_lt, Int32.not_le] at *; omega))] | skip)
    (first | simp only [if_pos (show law = 4 by (simp only [Int32.lt_iff_toInt_lt, Int32.le_iff_toInt_le, ← Int32.toInt_inj, Int32.reduceToInt, Int32.not_lt, Int32.not_le] at *; omega))] | simp only [if_neg (show ¬ (law = 4) by (simp only [Int32.lt_iff_toInt_lt, Int32.le_iff_toInt_le, ← Int32.toInt_inj, Int32.reduceToInt, Int32.not_lt, Int32.not_le] at *; omega))] | skip)
    (try rfl)
  refine am_Rn.br (fun h1_3 => ?_) (fun h1_3 => ?_)
  · skip
    refine am_Rn.go (t := am_t33) rfl 8 rfl ⟨trivial, trivial, trivial, trivial, trivial, (by decide), trivial, trivial, trivial⟩ ?_
    refine am_Rn.ret (t := am_t33) rfl rfl trivial ?_
    refine ⟨congrArg (fun z => some (Value.int z)) ?_, rfl⟩
    (try simp only [Int32.reduceToNatClampNeg] at *)
    unfold sp_byLaw
    (first | simp only [if_pos (show law = 1 by (simp only [Int32.lt_iff_toInt_lt, Int32.le_iff_toInt_le, ← Int32.toInt_inj, Int32.reduceToInt, Int32.not_lt, Int32.not_le] at *; omega))] | simp only [if_neg (show ¬ (law = 1) by (simp only [Int32.lt_iff_toInt_lt, Int32.le_iff_toInt_le, ← Int32.toInt_inj, Int32.reduceToInt, Int32.not_lt, Int32.not_le] at *; omega))] | skip)
    (first | simp only [if_pos (show law = 2 by (simp only [Int32.lt_iff_toInt_lt, Int32.le_iff_toInt_le, ← Int32.toInt_inj, Int32.reduceToInt, Int32.not_lt, Int32.not_le] at *; omega))] | simp only [if_neg (show ¬ (law = 2) by (simp only [Int32.lt_iff_toInt_lt, Int32.le_iff_toInt_le, ← Int32.toInt_inj, Int32.reduceToInt, Int32.not_lt, Int32.not_le] at *; omega))] | skip)
    (first | simp only [if_pos (show nu 0 - rd ≤ n by (simp only [Int32.lt_iff_toInt_lt, Int32.le_iff_toInt_le, ← Int32.toInt_inj, Int32.reduceToInt, Int32.not_lt, Int32.not_le] at *; omega))] | simp only [if_neg (show ¬ (nu 0 - rd ≤ n) by (simp only [Int32.lt_iff_toInt_lt, Int32.le_iff_toInt_le, ← Int32.toInt_inj, Int32.reduceToInt, Int32.not_lt, Int32.not_le] at *; omega))] | skip)
    (first | simp only [if_pos (show law = 3 by (simp only [Int32.lt_iff_toInt_lt, Int32.le_iff_toInt_le, ← Int32.toInt_inj, Int32.reduceToInt, Int32.not_lt, Int32.not_le] at *; omega))] | simp only [if_neg (show ¬ (law = 3) by (simp only [Int32.lt_iff_toInt_lt, Int32.le_iff_toInt_le, ← Int32.toInt_inj, Int32.reduceToInt, Int32.not_lt, Int32.not_le] at *; omega))] | skip)
    (first | simp only [if_pos (show law = 4 by (simp only [Int32.lt_iff_toInt_lt, Int32.le_iff_toInt_le, ← Int32.toInt_inj, Int32.reduceToInt, Int32.not_lt, Int32.not_le] at *; omega))] | simp only [if_neg (show ¬ (law = 4) by (simp only [Int32.lt_iff_toInt_lt, Int32.le_iff_toInt_le, ← Int32.toInt_inj, Int32.reduceToInt, Int32.not_lt, Int32.not_le] at *; omega))] | skip)
    (try rfl)
  refine am_Rn.go (t := am_t33) rfl 1 rfl ⟨trivial, trivial⟩ ?_
  refine am_Rn.ret (t := am_t33) rfl rfl trivial ?_
  refine ⟨congrArg (fun z => some (Value.int z)) ?_, rfl⟩
  (try simp only [Int32.reduceToNatClampNeg] at *)
  unfold sp_byLaw
  (first | simp only [if_pos (show law = 1 by (simp only [Int32.lt_iff_toInt_lt, Int32.le_iff_toInt_le, ← Int32.toInt_inj, Int32.reduceToInt, Int32.not_lt, Int32.not_le] at *; omega))] | simp only [if_neg (show ¬ (law = 1) by (simp only [Int32.lt_iff_toInt_lt, Int32.le_iff_toInt_le, ← Int32.toInt_inj, Int32.reduceToInt, Int32.not_lt, Int32.not_le] at *; omega))] | skip)
  (first | simp only [if_pos (show law = 2 by (simp only [Int32.lt_iff_toInt_lt, Int32.le_iff_toInt_le, ← Int32.toInt_inj, Int32.reduceToInt, Int32.not_lt, Int32.not_le] at *; omega))] | simp only [if_neg (show ¬ (law = 2) by (simp only [Int32.lt_iff_toInt_lt, Int32.le_iff_toInt_le, ← Int32.toInt_inj, Int32.reduceToInt, Int32.not_lt, Int32.not_le] at *; omega))] | skip)
  (first | simp only [if_pos (show nu 0 - rd ≤ n by (simp only [Int32.lt_iff_toInt_lt, Int32.le_iff_toInt_le, ← Int32.toInt_inj, Int32.reduceToInt, Int32.not_lt, Int32.not_le] at *; omega))] | simp only [if_neg (show ¬ (nu 0 - rd ≤ n) by (simp only [Int32.lt_iff_toInt_lt, Int32.le_iff_toInt_le, ← Int32.toInt_inj, Int32.reduceToInt, Int32.not_lt, Int32.not_le] at *; omega))] | skip)
  (first | simp only [if_pos (show law = 3 by (simp only [Int32.lt_iff_toInt_lt, Int32.le_iff_toInt_le, ← Int32.toInt_inj, Int32.reduceToInt, Int32.not_lt, Int32.not_le] at *; omega))] | simp only [if_neg (show ¬ (law = 3) by (simp only [Int32.lt_iff_toInt_lt, Int32.le_iff_toInt_le, ← Int32.toInt_inj, Int32.reduceToInt, Int32.not_lt, Int32.not_le] at *; omega))] | skip)
  (first | simp only [if_pos (show law = 4 by (simp only [Int32.lt_iff_toInt_lt, Int32.le_iff_toInt_le, ← Int32.toInt_inj, Int32.reduceToInt, Int32.not_lt, Int32.not_le] at *; omega))] | simp only [if_neg (show ¬ (law = 4) by (simp only [Int32.lt_iff_toInt_lt, Int32.le_iff_toInt_le, ← Int32.toInt_inj, Int32.reduceToInt, Int32.not_lt, Int32.not_le] at *; omega))] | skip)
  (try rfl)
theorem sx_valueOf_B (sc : am_Sc) (q : Nat) (hq : q < 9) (nu la me tc ts : Nat → Int32) (pe : Int32) (rd pr pv sa pd lo : Int32) (bo co sh se si er of_ bi bt so : Nat → Int32) (B0 B1 B2 B3 B4 : List am_E) (Bs : am_M) : am_Rn sc 32 (0, am_entry 32 [.ref 192, .int (Int32.ofNat q)], [], B0 :: B1 :: B2 :: B3 :: B4 :: bkRules 160 nu la me tc ts pe :: bkRoom 192 160 rd pr pv sa pd lo bo co sh se si er of_ bi bt so :: Bs) (fun r M' => r = some (.int (sp_val nu la me se rd pr pv q)) ∧ M' = B0 :: B1 :: B2 :: B3 :: B4 :: bkRules 160 nu la me tc ts pe :: bkRoom 192 160 rd pr pv sa pd lo bo co sh se si er of_ bi bt so :: Bs) := by
  show am_Rn sc 32 (0, [some (.ref 192), some (.int (Int32.ofNat q)), none, none, none], [], _) _
  have e1 : (Int32.ofNat q).toNatClampNeg = q := am_tn q (by omega)
  refine am_Rn.go (t := am_t32) rfl 17 rfl ⟨trivial, trivial, trivial, trivial, (by first | exact am_inb_lit rfl | exact am_inb_of (by omega) (by omega)), trivial, trivial, trivial, trivial, trivial, (by first | exact am_inb_lit rfl | exact am_inb_of (by omega) (by omega)), trivial, trivial, trivial, trivial, (by first | exact am_inb_lit rfl | exact am_inb_of (by omega) (by omega)), trivial, trivial⟩ ?_
  refine am_Rn.br (fun h1 => ?_) (fun h1 => ?_)
  · skip
    refine am_Rn.go (t := am_t32) rfl 6 rfl ⟨trivial, trivial, trivial, trivial, (by first | exact am_inb_lit rfl | exact am_inb_of (by omega) (by omega)), trivial, trivial⟩ ?_
    refine am_Rn.br (fun h2 => ?_) (fun h2 => ?_)
    · skip
      refine am_Rn.go (t := am_t32) rfl 7 rfl ⟨trivial, trivial, trivial, trivial, trivial, trivial, trivial, trivial⟩ ?_
      refine am_Rn.call (t := am_t32) rfl rfl (sx_valueBy_B ..) ?_
      rintro _ _ ⟨rfl, rfl⟩
      refine am_Rn.go (t := am_t32) rfl 2 rfl ⟨trivial, trivial, trivial⟩ ?_
      refine am_Rn.ret (t := am_t32) rfl rfl trivial ?_
      refine ⟨congrArg (fun z => some (Value.int z)) ?_, rfl⟩
      (try simp only [e1, Int32.reduceToNatClampNeg] at *)
      unfold sp_val
      (first | simp only [if_pos (show 0 < se q ∧ (la q = 1 ∨ la q = 4) by (simp only [Int32.lt_iff_toInt_lt, Int32.le_iff_toInt_le, ← Int32.toInt_inj, Int32.reduceToInt, Int32.not_lt, Int32.not_le] at *; omega))] | simp only [if_neg (show ¬ (0 < se q ∧ (la q = 1 ∨ la q = 4)) by (simp only [Int32.lt_iff_toInt_lt, Int32.le_iff_toInt_le, ← Int32.toInt_inj, Int32.reduceToInt, Int32.not_lt, Int32.not_le] at *; omega))] | skip)
      unfold sp_lim sp_lid
      (first | simp only [if_pos (show nu 7 ≤ 0 by (simp only [Int32.lt_iff_toInt_lt, Int32.le_iff_toInt_le, ← Int32.toInt_inj, Int32.reduceToInt, Int32.not_lt, Int32.not_le] at *; omega))] | simp only [if_neg (show ¬ (nu 7 ≤ 0) by (simp only [Int32.lt_iff_toInt_lt, Int32.le_iff_toInt_le, ← Int32.toInt_inj, Int32.reduceToInt, Int32.not_lt, Int32.not_le] at *; omega))] | skip)
      (try rfl)
    · skip
      refine am_Rn.go (t := am_t32) rfl 12 rfl ⟨trivial, trivial, trivial, trivial, (by first | exact am_inb_lit rfl | exact am_inb_of (by omega) (by omega)), trivial, trivial, trivial, trivial, trivial, trivial, trivial, trivial⟩ ?_
      refine am_Rn.call (t := am_t32) rfl rfl (sx_valueBy_B ..) ?_
      rintro _ _ ⟨rfl, rfl⟩
      refine am_Rn.go (t := am_t32) rfl 2 rfl ⟨trivial, trivial, trivial⟩ ?_
      refine am_Rn.ret (t := am_t32) rfl rfl trivial ?_
      refine ⟨congrArg (fun z => some (Value.int z)) ?_, rfl⟩
      (try simp only [e1, Int32.reduceToNatClampNeg] at *)
      unfold sp_val
      (first | simp only [if_pos (show 0 < se q ∧ (la q = 1 ∨ la q = 4) by (simp only [Int32.lt_iff_toInt_lt, Int32.le_iff_toInt_le, ← Int32.toInt_inj, Int32.reduceToInt, Int32.not_lt, Int32.not_le] at *; omega))] | simp only [if_neg (show ¬ (0 < se q ∧ (la q = 1 ∨ la q = 4)) by (simp only [Int32.lt_iff_toInt_lt, Int32.le_iff_toInt_le, ← Int32.toInt_inj, Int32.reduceToInt, Int32.not_lt, Int32.not_le] at *; omega))] | skip)
      unfold sp_lim sp_lid
      (first | simp only [if_pos (show nu 7 ≤ 0 by (simp only [Int32.lt_iff_toInt_lt, Int32.le_iff_toInt_le, ← Int32.toInt_inj, Int32.reduceToInt, Int32.not_lt, Int32.not_le] at *; omega))] | simp only [if_neg (show ¬ (nu 7 ≤ 0) by (simp only [Int32.lt_iff_toInt_lt, Int32.le_iff_toInt_le, ← Int32.toInt_inj, Int32.reduceToInt, Int32.not_lt, Int32.not_le] at *; omega))] | skip)
      (try rfl)
  · skip
    refine am_Rn.go (t := am_t32) rfl 3 rfl ⟨trivial, trivial, trivial, trivial⟩ ?_
    refine am_Rn.br (fun h3 => ?_) (fun h3 => ?_)
    · skip
      refine am_Rn.go (t := am_t32) rfl 15 rfl ⟨trivial, trivial, trivial, trivial, trivial, trivial, (by first | exact am_inb_lit rfl | exact am_inb_of (by omega) (by omega)), trivial, trivial, trivial, trivial, trivial, trivial, (by first | exact am_inb_lit rfl | exact am_inb_of (by omega) (by omega)), trivial, trivial⟩ ?_
      refine am_Rn.br (fun h4 => ?_) (fun h4 => ?_)
      · skip
        refine am_Rn.go (t := am_t32) rfl 7 rfl ⟨trivial, trivial, trivial, trivial, trivial, trivial, trivial, trivial⟩ ?_
        refine am_Rn.call (t := am_t32) rfl rfl (sx_valueBy_B ..) ?_
        rintro _ _ ⟨rfl, rfl⟩
        refine am_Rn.go (t := am_t32) rfl 2 rfl ⟨trivial, trivial, trivial⟩ ?_
        refine am_Rn.ret (t := am_t32) rfl rfl trivial ?_
        refine ⟨congrArg (fun z => some (Value.int z)) ?_, rfl⟩
        (try simp only [e1, Int32.reduceToNatClampNeg] at *)
        unfold sp_val
        (first | simp only [if_pos (show 0 < se q ∧ (la q = 1 ∨ la q = 4) by (simp only [Int32.lt_iff_toInt_lt, Int32.le_iff_toInt_le, ← Int32.toInt_inj, Int32.reduceToInt, Int32.not_lt, Int32.not_le] at *; omega))] | simp only [if_neg (show ¬ (0 < se q ∧ (la q = 1 ∨ la q = 4)) by (simp only [Int32.lt_iff_toInt_lt, Int32.le_iff_toInt_le, ← Int32.toInt_inj, Int32.reduceToInt, Int32.not_lt, Int32.not_le] at *; omega))] | skip)
        unfold sp_lim sp_lid
        (first | simp only [if_pos (show nu 7 ≤ 0 by (simp only [Int32.lt_iff_toInt_lt, Int32.le_iff_toInt_le, ← Int32.toInt_inj, Int32.reduceToInt, Int32.not_lt, Int32.not_le] at *; omega))] | simp only [if_neg (show ¬ (nu 7 ≤ 0) by (simp only [Int32.lt_iff_toInt_lt, Int32.le_iff_toInt_le, ← Int32.toInt_inj, Int32.reduceToInt, Int32.not_lt, Int32.not_le] at *; omega))] | skip)
        (try rfl)
      · skip
        refine am_Rn.go (t := am_t32) rfl 12 rfl ⟨trivial, trivial, trivial, trivial, (by first | exact am_inb_lit rfl | exact am_inb_of (by omega) (by omega)), trivial, trivial, trivial, trivial, trivial, trivial, trivial, trivial⟩ ?_
        refine am_Rn.call (t := am_t32) rfl rfl (sx_valueBy_B ..) ?_
        rintro _ _ ⟨rfl, rfl⟩
        refine am_Rn.go (t := am_t32) rfl 2 rfl ⟨trivial, trivial, trivial⟩ ?_
        refine am_Rn.ret (t := am_t32) rfl rfl trivial ?_
        refine ⟨congrArg (fun z => some (Value.int z)) ?_, rfl⟩
        (try simp only [e1, Int32.reduceToNatClampNeg] at *)
        unfold sp_val
        (first | simp only [if_pos (show 0 < se q ∧ (la q = 1 ∨ la q = 4) by (simp only [Int32.lt_iff_toInt_lt, Int32.le_iff_toInt_le, ← Int32.toInt_inj, Int32.reduceToInt, Int32.not_lt, Int32.not_le] at *; omega))] | simp only [if_neg (show ¬ (0 < se q ∧ (la q = 1 ∨ la q = 4)) by (simp only [Int32.lt_iff_toInt_lt, Int32.le_iff_toInt_le, ← Int32.toInt_inj, Int32.reduceToInt, Int32.not_lt, Int32.not_le] at *; omega))] | skip)
        unfold sp_lim sp_lid
        (first | simp only [if_pos (show nu 7 ≤ 0 by (simp only [Int32.lt_iff_toInt_lt, Int32.le_iff_toInt_le, ← Int32.toInt_inj, Int32.reduceToInt, Int32.not_lt, Int32.not_le] at *; omega))] | simp only [if_neg (show ¬ (nu 7 ≤ 0) by (simp only [Int32.lt_iff_toInt_lt, Int32.le_iff_toInt_le, ← Int32.toInt_inj, Int32.reduceToInt, Int32.not_lt, Int32.not_le] at *; omega))] | skip)
        (try rfl)
    · skip
      refine am_Rn.go (t := am_t32) rfl 3 rfl ⟨trivial, trivial, trivial, trivial⟩ ?_
      refine am_Rn.br (fun h5 => ?_) (fun h5 => ?_)
      · skip
        refine am_Rn.go (t := am_t32) rfl 15 rfl ⟨trivial, trivial, trivial, trivial, trivial, trivial, (by first | exact am_inb_lit rfl | exact am_inb_of (by omega) (by omega)), trivial, trivial, trivial, trivial, trivial, trivial, (by first | exact am_inb_lit rfl | exact am_inb_of (by omega) (by omega)), trivial, trivial⟩ ?_
        refine am_Rn.br (fun h6 => ?_) (fun h6 => ?_)
        · skip
          refine am_Rn.go (t := am_t32) rfl 7 rfl ⟨trivial, trivial, trivial, trivial, trivial, trivial, trivial, trivial⟩ ?_
          refine am_Rn.call (t := am_t32) rfl rfl (sx_valueBy_B ..) ?_
          rintro _ _ ⟨rfl, rfl⟩
          refine am_Rn.go (t := am_t32) rfl 2 rfl ⟨trivial, trivial, trivial⟩ ?_
          refine am_Rn.ret (t := am_t32) rfl rfl trivial ?_
          refine ⟨congrArg (fun z => some (Value.int z)) ?_, rfl⟩
          (try simp only [e1, Int32.reduceToNatClampNeg] at *)
          unfold sp_val
          (first | simp only [if_pos (show 0 < se q ∧ (la q = 1 ∨ la q = 4) by (simp only [Int32.lt_iff_toInt_lt, Int32.le_iff_toInt_le, ← Int32.toInt_inj, Int32.reduceToInt, Int32.not_lt, Int32.not_le] at *; omega))] | simp only [if_neg (show ¬ (0 < se q ∧ (la q = 1 ∨ la q = 4)) by (simp only [Int32.lt_iff_toInt_lt, Int32.le_iff_toInt_le, ← Int32.toInt_inj, Int32.reduceToInt, Int32.not_lt, Int32.not_le] at *; omega))] | skip)
          unfold sp_lim sp_lid
          (first | simp only [if_pos (show nu 7 ≤ 0 by (simp only [Int32.lt_iff_toInt_lt, Int32.le_iff_toInt_le, ← Int32.toInt_inj, Int32.reduceToInt, Int32.not_lt, Int32.not_le] at *; omega))] | simp only [if_neg (show ¬ (nu 7 ≤ 0) by (simp only [Int32.lt_iff_toInt_lt, Int32.le_iff_toInt_le, ← Int32.toInt_inj, Int32.reduceToInt, Int32.not_lt, Int32.not_le] at *; omega))] | skip)
          (try rfl)
        · skip
          refine am_Rn.go (t := am_t32) rfl 12 rfl ⟨trivial, trivial, trivial, trivial, (by first | exact am_inb_lit rfl | exact am_inb_of (by omega) (by omega)), trivial, trivial, trivial, trivial, trivial, trivial, trivial, trivial⟩ ?_
          refine am_Rn.call (t := am_t32) rfl rfl (sx_valueBy_B ..) ?_
          rintro _ _ ⟨rfl, rfl⟩
          refine am_Rn.go (t := am_t32) rfl 2 rfl ⟨trivial, trivial, trivial⟩ ?_
          refine am_Rn.ret (t := am_t32) rfl rfl trivial ?_
          refine ⟨congrArg (fun z => some (Value.int z)) ?_, rfl⟩
          (try simp only [e1, Int32.reduceToNatClampNeg] at *)
          unfold sp_val
          (first | simp only [if_pos (show 0 < se q ∧ (la q = 1 ∨ la q = 4) by (simp only [Int32.lt_iff_toInt_lt, Int32.le_iff_toInt_le, ← Int32.toInt_inj, Int32.reduceToInt, Int32.not_lt, Int32.not_le] at *; omega))] | simp only [if_neg (show ¬ (0 < se q ∧ (la q = 1 ∨ la q = 4)) by (simp only [Int32.lt_iff_toInt_lt, Int32.le_iff_toInt_le, ← Int32.toInt_inj, Int32.reduceToInt, Int32.not_lt, Int32.not_le] at *; omega))] | skip)
          unfold sp_lim sp_lid
          (first | simp only [if_pos (show nu 7 ≤ 0 by (simp only [Int32.lt_iff_toInt_lt, Int32.le_iff_toInt_le, ← Int32.toInt_inj, Int32.reduceToInt, Int32.not_lt, Int32.not_le] at *; omega))] | simp only [if_neg (show ¬ (nu 7 ≤ 0) by (simp only [Int32.lt_iff_toInt_lt, Int32.le_iff_toInt_le, ← Int32.toInt_inj, Int32.reduceToInt, Int32.not_lt, Int32.not_le] at *; omega))] | skip)
          (try rfl)
      · skip
        refine am_Rn.go (t := am_t32) rfl 6 rfl ⟨trivial, trivial, trivial, trivial, (by first | exact am_inb_lit rfl | exact am_inb_of (by omega) (by omega)), trivial, trivial⟩ ?_
        refine am_Rn.br (fun h7 => ?_) (fun h7 => ?_)
        · skip
          refine am_Rn.go (t := am_t32) rfl 7 rfl ⟨trivial, trivial, trivial, trivial, trivial, trivial, trivial, trivial⟩ ?_
          refine am_Rn.call (t := am_t32) rfl rfl (sx_valueBy_B ..) ?_
          rintro _ _ ⟨rfl, rfl⟩
          refine am_Rn.go (t := am_t32) rfl 2 rfl ⟨trivial, trivial, trivial⟩ ?_
          refine am_Rn.ret (t := am_t32) rfl rfl trivial ?_
          refine ⟨congrArg (fun z => some (Value.int z)) ?_, rfl⟩
          (try simp only [e1, Int32.reduceToNatClampNeg] at *)
          unfold sp_val
          (first | simp only [if_pos (show 0 < se q ∧ (la q = 1 ∨ la q = 4) by (simp only [Int32.lt_iff_toInt_lt, Int32.le_iff_toInt_le, ← Int32.toInt_inj, Int32.reduceToInt, Int32.not_lt, Int32.not_le] at *; omega))] | simp only [if_neg (show ¬ (0 < se q ∧ (la q = 1 ∨ la q = 4)) by (simp only [Int32.lt_iff_toInt_lt, Int32.le_iff_toInt_le, ← Int32.toInt_inj, Int32.reduceToInt, Int32.not_lt, Int32.not_le] at *; omega))] | skip)
          unfold sp_lim sp_lid
          (first | simp only [if_pos (show nu 7 ≤ 0 by (simp only [Int32.lt_iff_toInt_lt, Int32.le_iff_toInt_le, ← Int32.toInt_inj, Int32.reduceToInt, Int32.not_lt, Int32.not_le] at *; omega))] | simp only [if_neg (show ¬ (nu 7 ≤ 0) by (simp only [Int32.lt_iff_toInt_lt, Int32.le_iff_toInt_le, ← Int32.toInt_inj, Int32.reduceToInt, Int32.not_lt, Int32.not_le] at *; omega))] | skip)
          (try rfl)
        · skip
          refine am_Rn.go (t := am_t32) rfl 12 rfl ⟨trivial, trivial, trivial, trivial, (by first | exact am_inb_lit rfl | exact am_inb_of (by omega) (by omega)), trivial, trivial, trivial, trivial, trivial, trivial, trivial, trivial⟩ ?_
          refine am_Rn.call (t := am_t32) rfl rfl (sx_valueBy_B ..) ?_
          rintro _ _ ⟨rfl, rfl⟩
          refine am_Rn.go (t := am_t32) rfl 2 rfl ⟨trivial, trivial, trivial⟩ ?_
          refine am_Rn.ret (t := am_t32) rfl rfl trivial ?_
          refine ⟨congrArg (fun z => some (Value.int z)) ?_, rfl⟩
          (try simp only [e1, Int32.reduceToNatClampNeg] at *)
          unfold sp_val
          (first | simp only [if_pos (show 0 < se q ∧ (la q = 1 ∨ la q = 4) by (simp only [Int32.lt_iff_toInt_lt, Int32.le_iff_toInt_le, ← Int32.toInt_inj, Int32.reduceToInt, Int32.not_lt, Int32.not_le] at *; omega))] | simp only [if_neg (show ¬ (0 < se q ∧ (la q = 1 ∨ la q = 4)) by (simp only [Int32.lt_iff_toInt_lt, Int32.le_iff_toInt_le, ← Int32.toInt_inj, Int32.reduceToInt, Int32.not_lt, Int32.not_le] at *; omega))] | skip)
          unfold sp_lim sp_lid
          (first | simp only [if_pos (show nu 7 ≤ 0 by (simp only [Int32.lt_iff_toInt_lt, Int32.le_iff_toInt_le, ← Int32.toInt_inj, Int32.reduceToInt, Int32.not_lt, Int32.not_le] at *; omega))] | simp only [if_neg (show ¬ (nu 7 ≤ 0) by (simp only [Int32.lt_iff_toInt_lt, Int32.le_iff_toInt_le, ← Int32.toInt_inj, Int32.reduceToInt, Int32.not_lt, Int32.not_le] at *; omega))] | skip)
          (try rfl)
theorem sx_payEach_B (sc : am_Sc) (each : Int32) (nu la me tc ts : Nat → Int32) (P : Nat) (hP : P ≤ 9) (rd pr pv sa pd lo : Int32) (bo co sh se si er of_ bi bt so : Nat → Int32) (B0 B1 B2 B3 B4 : List am_E) (Bs : am_M) : am_Rn sc 39 (0, am_entry 39 [.ref 192, .int each], [], B0 :: B1 :: B2 :: B3 :: B4 :: bkRules 160 nu la me tc ts (Int32.ofNat P) :: bkRoom 192 160 rd pr pv sa pd lo bo co sh se si er of_ bi bt so :: Bs) (fun r M' => r = none ∧ M' = B0 :: B1 :: B2 :: B3 :: B4 :: bkRules 160 nu la me tc ts (Int32.ofNat P) :: bkRoom 192 160 rd pr pv sa (pd + each) lo bo (am_fold P (sp_pay sh each) co) sh se si er of_ bi bt so :: Bs) := by
  show am_Rn sc 39 (0, [some (.ref 192), some (.int each), none], [], _) _
  have L : ∀ (d i : Nat), i + d = P → am_Rn sc 39 (8, [some (.ref 192), some (.int each), some (.int (Int32.ofNat i))], [], B0 :: B1 :: B2 :: B3 :: B4 :: bkRules 160 nu la me tc ts (Int32.ofNat P) :: bkRoom 192 160 rd pr pv sa (pd + each) lo bo (am_fold i (sp_pay sh each) co) sh se si er of_ bi bt so :: Bs) (fun r M' => r = none ∧ M' = B0 :: B1 :: B2 :: B3 :: B4 :: bkRules 160 nu la me tc ts (Int32.ofNat P) :: bkRoom 192 160 rd pr pv sa (pd + each) lo bo (am_fold P (sp_pay sh each) co) sh se si er of_ bi bt so :: Bs) := by
    intro d
    induction d with
    | zero =>
      intro i  hi
      obtain rfl : i = P := by omega
      refine am_Rn.go (t := am_t39) rfl 5 rfl ⟨trivial, trivial, trivial, trivial, trivial, trivial⟩ ?_
      refine am_Rn.brT (by first | exact (am_le (by omega) (by omega)).mpr (Nat.le_refl _) | exact fun q => absurd ((am_lt (by omega) (by omega)).mp q) (Nat.lt_irrefl _) | decide) ?_
      refine am_Rn.ret (t := am_t39) rfl rfl trivial ?_
      exact ⟨rfl, rfl⟩
    | succ d ih =>
      intro i  hi
      have hiP : i < P := by omega
      have e1 : (Int32.ofNat i).toNatClampNeg = i := am_tn i (by omega)
      refine am_Rn.go (t := am_t39) rfl 5 rfl ⟨trivial, trivial, trivial, trivial, trivial, trivial⟩ ?_
      refine am_Rn.brF (by first | exact fun q => absurd ((am_le (by omega) (by omega)).mp q) (by omega) | exact fun q => absurd ((am_le (i := 9) (by omega) (by omega)).mp q) (by omega) | exact fun q => absurd ((am_le (i := 10) (by omega) (by omega)).mp q) (by omega) | exact (am_lt (by omega) (by omega)).mpr hiP) ?_
      refine am_Rn.go (t := am_t39) rfl 15 rfl ⟨trivial, trivial, trivial, trivial, (by first | exact am_inb_lit rfl | exact am_inb_of (by omega) (by omega)), trivial, trivial, trivial, (by first | exact am_inb_lit rfl | exact am_inb_of (by omega) (by omega)), trivial, trivial, trivial, (by first | exact am_inb_lit rfl | exact am_inb_of (by omega) (by omega)), trivial, trivial, trivial⟩ ?_
      have g := ih (i + 1) (by omega)
      rw [← am_inc] at g
      simp only [e1]
      exact g
  refine am_Rn.go (t := am_t39) rfl 8 rfl ⟨trivial, trivial, trivial, trivial, trivial, trivial, trivial, trivial, trivial⟩ ?_
  exact L P 0 (by omega)
theorem sx_buyer_A (sc : am_Sc) (nu la me tc ts : Nat → Int32) (P : Nat) (hP : P ≤ 9) (rd pr pv sa pd lo : Int32) (bo co sh se si er of_ bi bt so : Nat → Int32) (B0 B2 B3 : List am_E) (Bs : am_M) : am_Rn sc 37 (0, am_entry 37 [.ref 128], [], B0 :: bkRules 32 nu la me tc ts (Int32.ofNat P) :: B2 :: B3 :: bkRoom 128 32 rd pr pv sa pd lo bo co sh se si er of_ bi bt so :: Bs) (fun r M' => r = some (.int (am_on (-1) (am_fold P (sp_bestB (sp_mayB nu co bi bt) bi) none))) ∧ M' = B0 :: bkRules 32 nu la me tc ts (Int32.ofNat P) :: B2 :: B3 :: bkRoom 128 32 rd pr pv sa pd lo bo co sh se si er of_ bi bt so :: Bs) := by
  show am_Rn sc 37 (0, [some (.ref 128), none, none, none], [], _) _
  have L : ∀ (d i : Nat) (x3 : Option Value), i + d = P → am_Rn sc 37 (4, [some (.ref 128), some (.int (am_on (-1) (am_fold i (sp_bestB (sp_mayB nu co bi bt) bi) none))), some (.int (Int32.ofNat i)), x3], [], B0 :: bkRules 32 nu la me tc ts (Int32.ofNat P) :: B2 :: B3 :: bkRoom 128 32 rd pr pv sa pd lo bo co sh se si er of_ bi bt so :: Bs) (fun r M' => r = some (.int (am_on (-1) (am_fold P (sp_bestB (sp_mayB nu co bi bt) bi) none))) ∧ M' = B0 :: bkRules 32 nu la me tc ts (Int32.ofNat P) :: B2 :: B3 :: bkRoom 128 32 rd pr pv sa pd lo bo co sh se si er of_ bi bt so :: Bs) := by
    intro d
    induction d with
    | zero =>
      intro i x3 hi
      obtain rfl : i = P := by omega
      refine am_Rn.go (t := am_t37) rfl 5 rfl ⟨trivial, trivial, trivial, trivial, trivial, trivial⟩ ?_
      refine am_Rn.brT (by first | exact (am_le (by omega) (by omega)).mpr (Nat.le_refl _) | exact fun q => absurd ((am_lt (by omega) (by omega)).mp q) (Nat.lt_irrefl _) | decide) ?_
      refine am_Rn.go (t := am_t37) rfl 1 rfl ⟨trivial, trivial⟩ ?_
      refine am_Rn.ret (t := am_t37) rfl rfl trivial ?_
      exact ⟨rfl, rfl⟩
    | succ d ih =>
      intro i x3 hi
      have hiP : i < P := by omega
      have e1 : (Int32.ofNat i).toNatClampNeg = i := am_tn i (by omega)
      have hq := sp_bestB_lt (sp_mayB nu co bi bt) bi i
      generalize hF : (am_fold i (sp_bestB (sp_mayB nu co bi bt) bi) none) = o at hq ⊢
      cases o with
      | none =>
        have e2 := e1
        refine am_Rn.go (t := am_t37) rfl 5 rfl ⟨trivial, trivial, trivial, trivial, trivial, trivial⟩ ?_
        refine am_Rn.brF (by first | exact fun q => absurd ((am_le (by omega) (by omega)).mp q) (by omega) | exact fun q => absurd ((am_le (i := 9) (by omega) (by omega)).mp q) (by omega) | exact fun q => absurd ((am_le (i := 10) (by omega) (by omega)).mp q) (by omega) | exact (am_lt (by omega) (by omega)).mpr hiP) ?_
        refine am_Rn.go (t := am_t37) rfl 21 rfl ⟨trivial, trivial, trivial, (by first | exact am_inb_lit rfl | exact am_inb_of (by omega) (by omega)), trivial, trivial, trivial, trivial, (by first | exact am_inb_lit rfl | exact am_inb_of (by omega) (by omega)), trivial, trivial, trivial, trivial, (by first | exact am_inb_lit rfl | exact am_inb_of (by omega) (by omega)), trivial, trivial, trivial, trivial, (by first | exact am_inb_lit rfl | exact am_inb_of (by omega) (by omega)), trivial, trivial, trivial⟩ ?_
        refine am_Rn.br (fun h2 => ?_) (fun h2 => ?_)
        · skip
          refine am_Rn.go (t := am_t37) rfl 8 rfl ⟨trivial, trivial, trivial, trivial, trivial, (by first | exact am_inb_lit rfl | exact am_inb_of (by omega) (by omega)), trivial, trivial, trivial⟩ ?_
          refine am_Rn.br (fun h3 => ?_) (fun h3 => ?_)
          · skip
            refine am_Rn.go (t := am_t37) rfl 2 rfl ⟨trivial, trivial, trivial⟩ ?_
            first
            | (have g := ih (i + 1) (some (.int 0)) (by omega)
               rw [am_fold_succ, hF, ← am_inc] at g
               (try simp only [e1, e2, am_on, Int32.reduceToNatClampNeg] at *)
               first
                 | (exfalso; first | contradiction | (simp only [Int32.lt_iff_toInt_lt, Int32.le_iff_toInt_le, ← Int32.toInt_inj, Int32.reduceToInt, Int32.not_lt, Int32.not_le] at *; omega))
                 | (rw [sp_bestB_T (by simp only [sp_mayB, sp_over, Bool.and_eq_true, decide_eq_true_eq, and_true, ne_eq, Option.some.injEq, reduceCtorEq, not_false_eq_true]; (simp only [Int32.lt_iff_toInt_lt, Int32.le_iff_toInt_le, ← Int32.toInt_inj, Int32.reduceToInt, Int32.not_lt, Int32.not_le] at *; omega))] at g; exact g)
                 | (rw [sp_bestB_F (by simp only [sp_mayB, sp_over, Bool.and_eq_true, decide_eq_true_eq, and_true, ne_eq, Option.some.injEq, reduceCtorEq, not_false_eq_true]; (simp only [Int32.lt_iff_toInt_lt, Int32.le_iff_toInt_le, ← Int32.toInt_inj, Int32.reduceToInt, Int32.not_lt, Int32.not_le] at *; omega))] at g; exact g))
            | (have g := ih (i + 1) (some (.int 1)) (by omega)
               rw [am_fold_succ, hF, ← am_inc] at g
               (try simp only [e1, e2, am_on, Int32.reduceToNatClampNeg] at *)
               first
                 | (exfalso; first | contradiction | (simp only [Int32.lt_iff_toInt_lt, Int32.le_iff_toInt_le, ← Int32.toInt_inj, Int32.reduceToInt, Int32.not_lt, Int32.not_le] at *; omega))
                 | (rw [sp_bestB_T (by simp only [sp_mayB, sp_over, Bool.and_eq_true, decide_eq_true_eq, and_true, ne_eq, Option.some.injEq, reduceCtorEq, not_false_eq_true]; (simp only [Int32.lt_iff_toInt_lt, Int32.le_iff_toInt_le, ← Int32.toInt_inj, Int32.reduceToInt, Int32.not_lt, Int32.not_le] at *; omega))] at g; exact g)
                 | (rw [sp_bestB_F (by simp only [sp_mayB, sp_over, Bool.and_eq_true, decide_eq_true_eq, and_true, ne_eq, Option.some.injEq, reduceCtorEq, not_false_eq_true]; (simp only [Int32.lt_iff_toInt_lt, Int32.le_iff_toInt_le, ← Int32.toInt_inj, Int32.reduceToInt, Int32.not_lt, Int32.not_le] at *; omega))] at g; exact g))
          · skip
            refine am_Rn.go (t := am_t37) rfl 2 rfl ⟨trivial, trivial, trivial⟩ ?_
            refine am_Rn.br (fun h4 => ?_) (fun h4 => ?_)
            · skip
              refine am_Rn.go (t := am_t37) rfl 2 rfl ⟨trivial, trivial, trivial⟩ ?_
              first
              | (have g := ih (i + 1) (some (.int 0)) (by omega)
                 rw [am_fold_succ, hF, ← am_inc] at g
                 (try simp only [e1, e2, am_on, Int32.reduceToNatClampNeg] at *)
                 first
                   | (exfalso; first | contradiction | (simp only [Int32.lt_iff_toInt_lt, Int32.le_iff_toInt_le, ← Int32.toInt_inj, Int32.reduceToInt, Int32.not_lt, Int32.not_le] at *; omega))
                   | (rw [sp_bestB_T (by simp only [sp_mayB, sp_over, Bool.and_eq_true, decide_eq_true_eq, and_true, ne_eq, Option.some.injEq, reduceCtorEq, not_false_eq_true]; (simp only [Int32.lt_iff_toInt_lt, Int32.le_iff_toInt_le, ← Int32.toInt_inj, Int32.reduceToInt, Int32.not_lt, Int32.not_le] at *; omega))] at g; exact g)
                   | (rw [sp_bestB_F (by simp only [sp_mayB, sp_over, Bool.and_eq_true, decide_eq_true_eq, and_true, ne_eq, Option.some.injEq, reduceCtorEq, not_false_eq_true]; (simp only [Int32.lt_iff_toInt_lt, Int32.le_iff_toInt_le, ← Int32.toInt_inj, Int32.reduceToInt, Int32.not_lt, Int32.not_le] at *; omega))] at g; exact g))
              | (have g := ih (i + 1) (some (.int 1)) (by omega)
                 rw [am_fold_succ, hF, ← am_inc] at g
                 (try simp only [e1, e2, am_on, Int32.reduceToNatClampNeg] at *)
                 first
                   | (exfalso; first | contradiction | (simp only [Int32.lt_iff_toInt_lt, Int32.le_iff_toInt_le, ← Int32.toInt_inj, Int32.reduceToInt, Int32.not_lt, Int32.not_le] at *; omega))
                   | (rw [sp_bestB_T (by simp only [sp_mayB, sp_over, Bool.and_eq_true, decide_eq_true_eq, and_true, ne_eq, Option.some.injEq, reduceCtorEq, not_false_eq_true]; (simp only [Int32.lt_iff_toInt_lt, Int32.le_iff_toInt_le, ← Int32.toInt_inj, Int32.reduceToInt, Int32.not_lt, Int32.not_le] at *; omega))] at g; exact g)
                   | (rw [sp_bestB_F (by simp only [sp_mayB, sp_over, Bool.and_eq_true, decide_eq_true_eq, and_true, ne_eq, Option.some.injEq, reduceCtorEq, not_false_eq_true]; (simp only [Int32.lt_iff_toInt_lt, Int32.le_iff_toInt_le, ← Int32.toInt_inj, Int32.reduceToInt, Int32.not_lt, Int32.not_le] at *; omega))] at g; exact g))
            · skip
              refine am_Rn.go (t := am_t37) rfl 2 rfl ⟨trivial, trivial, trivial⟩ ?_
              refine am_Rn.brT (show (-1 : Int32) < 0 by decide) ?_
              refine am_Rn.go (t := am_t37) rfl 4 rfl ⟨trivial, trivial, trivial, trivial, trivial⟩ ?_
              first
              | (have g := ih (i + 1) (some (.int 0)) (by omega)
                 rw [am_fold_succ, hF, ← am_inc] at g
                 (try simp only [e1, e2, am_on, Int32.reduceToNatClampNeg] at *)
                 first
                   | (exfalso; first | contradiction | (simp only [Int32.lt_iff_toInt_lt, Int32.le_iff_toInt_le, ← Int32.toInt_inj, Int32.reduceToInt, Int32.not_lt, Int32.not_le] at *; omega))
                   | (rw [sp_bestB_T (by simp only [sp_mayB, sp_over, Bool.and_eq_true, decide_eq_true_eq, and_true, ne_eq, Option.some.injEq, reduceCtorEq, not_false_eq_true]; (simp only [Int32.lt_iff_toInt_lt, Int32.le_iff_toInt_le, ← Int32.toInt_inj, Int32.reduceToInt, Int32.not_lt, Int32.not_le] at *; omega))] at g; exact g)
                   | (rw [sp_bestB_F (by simp only [sp_mayB, sp_over, Bool.and_eq_true, decide_eq_true_eq, and_true, ne_eq, Option.some.injEq, reduceCtorEq, not_false_eq_true]; (simp only [Int32.lt_iff_toInt_lt, Int32.le_iff_toInt_le, ← Int32.toInt_inj, Int32.reduceToInt, Int32.not_lt, Int32.not_le] at *; omega))] at g; exact g))
              | (have g := ih (i + 1) (some (.int 1)) (by omega)
                 rw [am_fold_succ, hF, ← am_inc] at g
                 (try simp only [e1, e2, am_on, Int32.reduceToNatClampNeg] at *)
                 first
                   | (exfalso; first | contradiction | (simp only [Int32.lt_iff_toInt_lt, Int32.le_iff_toInt_le, ← Int32.toInt_inj, Int32.reduceToInt, Int32.not_lt, Int32.not_le] at *; omega))
                   | (rw [sp_bestB_T (by simp only [sp_mayB, sp_over, Bool.and_eq_true, decide_eq_true_eq, and_true, ne_eq, Option.some.injEq, reduceCtorEq, not_false_eq_true]; (simp only [Int32.lt_iff_toInt_lt, Int32.le_iff_toInt_le, ← Int32.toInt_inj, Int32.reduceToInt, Int32.not_lt, Int32.not_le] at *; omega))] at g; exact g)
                   | (rw [sp_bestB_F (by simp only [sp_mayB, sp_over, Bool.and_eq_true, decide_eq_true_eq, and_true, ne_eq, Option.some.injEq, reduceCtorEq, not_false_eq_true]; (simp only [Int32.lt_iff_toInt_lt, Int32.le_iff_toInt_le, ← Int32.toInt_inj, Int32.reduceToInt, Int32.not_lt, Int32.not_le] at *; omega))] at g; exact g))
        · skip
          refine am_Rn.go (t := am_t37) rfl 9 rfl ⟨trivial, trivial, trivial, trivial, trivial, trivial, (by first | exact am_inb_lit rfl | exact am_inb_of (by omega) (by omega)), trivial, trivial, trivial⟩ ?_
          refine am_Rn.br (fun h6 => ?_) (fun h6 => ?_)
          · skip
            refine am_Rn.go (t := am_t37) rfl 2 rfl ⟨trivial, trivial, trivial⟩ ?_
            first
            | (have g := ih (i + 1) (some (.int 0)) (by omega)
               rw [am_fold_succ, hF, ← am_inc] at g
               (try simp only [e1, e2, am_on, Int32.reduceToNatClampNeg] at *)
               first
                 | (exfalso; first | contradiction | (simp only [Int32.lt_iff_toInt_lt, Int32.le_iff_toInt_le, ← Int32.toInt_inj, Int32.reduceToInt, Int32.not_lt, Int32.not_le] at *; omega))
                 | (rw [sp_bestB_T (by simp only [sp_mayB, sp_over, Bool.and_eq_true, decide_eq_true_eq, and_true, ne_eq, Option.some.injEq, reduceCtorEq, not_false_eq_true]; (simp only [Int32.lt_iff_toInt_lt, Int32.le_iff_toInt_le, ← Int32.toInt_inj, Int32.reduceToInt, Int32.not_lt, Int32.not_le] at *; omega))] at g; exact g)
                 | (rw [sp_bestB_F (by simp only [sp_mayB, sp_over, Bool.and_eq_true, decide_eq_true_eq, and_true, ne_eq, Option.some.injEq, reduceCtorEq, not_false_eq_true]; (simp only [Int32.lt_iff_toInt_lt, Int32.le_iff_toInt_le, ← Int32.toInt_inj, Int32.reduceToInt, Int32.not_lt, Int32.not_le] at *; omega))] at g; exact g))
            | (have g := ih (i + 1) (some (.int 1)) (by omega)
               rw [am_fold_succ, hF, ← am_inc] at g
               (try simp only [e1, e2, am_on, Int32.reduceToNatClampNeg] at *)
               first
                 | (exfalso; first | contradiction | (simp only [Int32.lt_iff_toInt_lt, Int32.le_iff_toInt_le, ← Int32.toInt_inj, Int32.reduceToInt, Int32.not_lt, Int32.not_le] at *; omega))
                 | (rw [sp_bestB_T (by simp only [sp_mayB, sp_over, Bool.and_eq_true, decide_eq_true_eq, and_true, ne_eq, Option.some.injEq, reduceCtorEq, not_false_eq_true]; (simp only [Int32.lt_iff_toInt_lt, Int32.le_iff_toInt_le, ← Int32.toInt_inj, Int32.reduceToInt, Int32.not_lt, Int32.not_le] at *; omega))] at g; exact g)
                 | (rw [sp_bestB_F (by simp only [sp_mayB, sp_over, Bool.and_eq_true, decide_eq_true_eq, and_true, ne_eq, Option.some.injEq, reduceCtorEq, not_false_eq_true]; (simp only [Int32.lt_iff_toInt_lt, Int32.le_iff_toInt_le, ← Int32.toInt_inj, Int32.reduceToInt, Int32.not_lt, Int32.not_le] at *; omega))] at g; exact g))
          · skip
            refine am_Rn.go (t := am_t37) rfl 2 rfl ⟨trivial, trivial, trivial⟩ ?_
            refine am_Rn.br (fun h7 => ?_) (fun h7 => ?_)
            · skip
              refine am_Rn.go (t := am_t37) rfl 2 rfl ⟨trivial, trivial, trivial⟩ ?_
              first
              | (have g := ih (i + 1) (some (.int 0)) (by omega)
                 rw [am_fold_succ, hF, ← am_inc] at g
                 (try simp only [e1, e2, am_on, Int32.reduceToNatClampNeg] at *)
                 first
                   | (exfalso; first | contradiction | (simp only [Int32.lt_iff_toInt_lt, Int32.le_iff_toInt_le, ← Int32.toInt_inj, Int32.reduceToInt, Int32.not_lt, Int32.not_le] at *; omega))
                   | (rw [sp_bestB_T (by simp only [sp_mayB, sp_over, Bool.and_eq_true, decide_eq_true_eq, and_true, ne_eq, Option.some.injEq, reduceCtorEq, not_false_eq_true]; (simp only [Int32.lt_iff_toInt_lt, Int32.le_iff_toInt_le, ← Int32.toInt_inj, Int32.reduceToInt, Int32.not_lt, Int32.not_le] at *; omega))] at g; exact g)
                   | (rw [sp_bestB_F (by simp only [sp_mayB, sp_over, Bool.and_eq_true, decide_eq_true_eq, and_true, ne_eq, Option.some.injEq, reduceCtorEq, not_false_eq_true]; (simp only [Int32.lt_iff_toInt_lt, Int32.le_iff_toInt_le, ← Int32.toInt_inj, Int32.reduceToInt, Int32.not_lt, Int32.not_le] at *; omega))] at g; exact g))
              | (have g := ih (i + 1) (some (.int 1)) (by omega)
                 rw [am_fold_succ, hF, ← am_inc] at g
                 (try simp only [e1, e2, am_on, Int32.reduceToNatClampNeg] at *)
                 first
                   | (exfalso; first | contradiction | (simp only [Int32.lt_iff_toInt_lt, Int32.le_iff_toInt_le, ← Int32.toInt_inj, Int32.reduceToInt, Int32.not_lt, Int32.not_le] at *; omega))
                   | (rw [sp_bestB_T (by simp only [sp_mayB, sp_over, Bool.and_eq_true, decide_eq_true_eq, and_true, ne_eq, Option.some.injEq, reduceCtorEq, not_false_eq_true]; (simp only [Int32.lt_iff_toInt_lt, Int32.le_iff_toInt_le, ← Int32.toInt_inj, Int32.reduceToInt, Int32.not_lt, Int32.not_le] at *; omega))] at g; exact g)
                   | (rw [sp_bestB_F (by simp only [sp_mayB, sp_over, Bool.and_eq_true, decide_eq_true_eq, and_true, ne_eq, Option.some.injEq, reduceCtorEq, not_false_eq_true]; (simp only [Int32.lt_iff_toInt_lt, Int32.le_iff_toInt_le, ← Int32.toInt_inj, Int32.reduceToInt, Int32.not_lt, Int32.not_le] at *; omega))] at g; exact g))
            · skip
              refine am_Rn.go (t := am_t37) rfl 2 rfl ⟨trivial, trivial, trivial⟩ ?_
              refine am_Rn.brT (show (-1 : Int32) < 0 by decide) ?_
              refine am_Rn.go (t := am_t37) rfl 4 rfl ⟨trivial, trivial, trivial, trivial, trivial⟩ ?_
              first
              | (have g := ih (i + 1) (some (.int 0)) (by omega)
                 rw [am_fold_succ, hF, ← am_inc] at g
                 (try simp only [e1, e2, am_on, Int32.reduceToNatClampNeg] at *)
                 first
                   | (exfalso; first | contradiction | (simp only [Int32.lt_iff_toInt_lt, Int32.le_iff_toInt_le, ← Int32.toInt_inj, Int32.reduceToInt, Int32.not_lt, Int32.not_le] at *; omega))
                   | (rw [sp_bestB_T (by simp only [sp_mayB, sp_over, Bool.and_eq_true, decide_eq_true_eq, and_true, ne_eq, Option.some.injEq, reduceCtorEq, not_false_eq_true]; (simp only [Int32.lt_iff_toInt_lt, Int32.le_iff_toInt_le, ← Int32.toInt_inj, Int32.reduceToInt, Int32.not_lt, Int32.not_le] at *; omega))] at g; exact g)
                   | (rw [sp_bestB_F (by simp only [sp_mayB, sp_over, Bool.and_eq_true, decide_eq_true_eq, and_true, ne_eq, Option.some.injEq, reduceCtorEq, not_false_eq_true]; (simp only [Int32.lt_iff_toInt_lt, Int32.le_iff_toInt_le, ← Int32.toInt_inj, Int32.reduceToInt, Int32.not_lt, Int32.not_le] at *; omega))] at g; exact g))
              | (have g := ih (i + 1) (some (.int 1)) (by omega)
                 rw [am_fold_succ, hF, ← am_inc] at g
                 (try simp only [e1, e2, am_on, Int32.reduceToNatClampNeg] at *)
                 first
                   | (exfalso; first | contradiction | (simp only [Int32.lt_iff_toInt_lt, Int32.le_iff_toInt_le, ← Int32.toInt_inj, Int32.reduceToInt, Int32.not_lt, Int32.not_le] at *; omega))
                   | (rw [sp_bestB_T (by simp only [sp_mayB, sp_over, Bool.and_eq_true, decide_eq_true_eq, and_true, ne_eq, Option.some.injEq, reduceCtorEq, not_false_eq_true]; (simp only [Int32.lt_iff_toInt_lt, Int32.le_iff_toInt_le, ← Int32.toInt_inj, Int32.reduceToInt, Int32.not_lt, Int32.not_le] at *; omega))] at g; exact g)
                   | (rw [sp_bestB_F (by simp only [sp_mayB, sp_over, Bool.and_eq_true, decide_eq_true_eq, and_true, ne_eq, Option.some.injEq, reduceCtorEq, not_false_eq_true]; (simp only [Int32.lt_iff_toInt_lt, Int32.le_iff_toInt_le, ← Int32.toInt_inj, Int32.reduceToInt, Int32.not_lt, Int32.not_le] at *; omega))] at g; exact g))
      | some q =>
        have hq1 := hq q rfl
        have e2 : (Int32.ofNat q).toNatClampNeg = q := am_tn q (by omega)
        have hq2 : ¬ Int32.ofNat q < 0 := fun h => absurd ((am_lt (i := q) (j := 0) (by omega) (by omega)).mp h) (by omega)
        refine am_Rn.go (t := am_t37) rfl 5 rfl ⟨trivial, trivial, trivial, trivial, trivial, trivial⟩ ?_
        refine am_Rn.brF (by first | exact fun q => absurd ((am_le (by omega) (by omega)).mp q) (by omega) | exact fun q => absurd ((am_le (i := 9) (by omega) (by omega)).mp q) (by omega) | exact fun q => absurd ((am_le (i := 10) (by omega) (by omega)).mp q) (by omega) | exact (am_lt (by omega) (by omega)).mpr hiP) ?_
        refine am_Rn.go (t := am_t37) rfl 21 rfl ⟨trivial, trivial, trivial, (by first | exact am_inb_lit rfl | exact am_inb_of (by omega) (by omega)), trivial, trivial, trivial, trivial, (by first | exact am_inb_lit rfl | exact am_inb_of (by omega) (by omega)), trivial, trivial, trivial, trivial, (by first | exact am_inb_lit rfl | exact am_inb_of (by omega) (by omega)), trivial, trivial, trivial, trivial, (by first | exact am_inb_lit rfl | exact am_inb_of (by omega) (by omega)), trivial, trivial, trivial⟩ ?_
        refine am_Rn.br (fun h2 => ?_) (fun h2 => ?_)
        · skip
          refine am_Rn.go (t := am_t37) rfl 8 rfl ⟨trivial, trivial, trivial, trivial, trivial, (by first | exact am_inb_lit rfl | exact am_inb_of (by omega) (by omega)), trivial, trivial, trivial⟩ ?_
          refine am_Rn.br (fun h3 => ?_) (fun h3 => ?_)
          · skip
            refine am_Rn.go (t := am_t37) rfl 2 rfl ⟨trivial, trivial, trivial⟩ ?_
            first
            | (have g := ih (i + 1) (some (.int 0)) (by omega)
               rw [am_fold_succ, hF, ← am_inc] at g
               (try simp only [e1, e2, am_on, Int32.reduceToNatClampNeg] at *)
               first
                 | (exfalso; first | contradiction | (simp only [Int32.lt_iff_toInt_lt, Int32.le_iff_toInt_le, ← Int32.toInt_inj, Int32.reduceToInt, Int32.not_lt, Int32.not_le] at *; omega))
                 | (rw [sp_bestB_T (by simp only [sp_mayB, sp_over, Bool.and_eq_true, decide_eq_true_eq, and_true, ne_eq, Option.some.injEq, reduceCtorEq, not_false_eq_true]; (simp only [Int32.lt_iff_toInt_lt, Int32.le_iff_toInt_le, ← Int32.toInt_inj, Int32.reduceToInt, Int32.not_lt, Int32.not_le] at *; omega))] at g; exact g)
                 | (rw [sp_bestB_F (by simp only [sp_mayB, sp_over, Bool.and_eq_true, decide_eq_true_eq, and_true, ne_eq, Option.some.injEq, reduceCtorEq, not_false_eq_true]; (simp only [Int32.lt_iff_toInt_lt, Int32.le_iff_toInt_le, ← Int32.toInt_inj, Int32.reduceToInt, Int32.not_lt, Int32.not_le] at *; omega))] at g; exact g))
            | (have g := ih (i + 1) (some (.int 1)) (by omega)
               rw [am_fold_succ, hF, ← am_inc] at g
               (try simp only [e1, e2, am_on, Int32.reduceToNatClampNeg] at *)
               first
                 | (exfalso; first | contradiction | (simp only [Int32.lt_iff_toInt_lt, Int32.le_iff_toInt_le, ← Int32.toInt_inj, Int32.reduceToInt, Int32.not_lt, Int32.not_le] at *; omega))
                 | (rw [sp_bestB_T (by simp only [sp_mayB, sp_over, Bool.and_eq_true, decide_eq_true_eq, and_true, ne_eq, Option.some.injEq, reduceCtorEq, not_false_eq_true]; (simp only [Int32.lt_iff_toInt_lt, Int32.le_iff_toInt_le, ← Int32.toInt_inj, Int32.reduceToInt, Int32.not_lt, Int32.not_le] at *; omega))] at g; exact g)
                 | (rw [sp_bestB_F (by simp only [sp_mayB, sp_over, Bool.and_eq_true, decide_eq_true_eq, and_true, ne_eq, Option.some.injEq, reduceCtorEq, not_false_eq_true]; (simp only [Int32.lt_iff_toInt_lt, Int32.le_iff_toInt_le, ← Int32.toInt_inj, Int32.reduceToInt, Int32.not_lt, Int32.not_le] at *; omega))] at g; exact g))
          · skip
            refine am_Rn.go (t := am_t37) rfl 2 rfl ⟨trivial, trivial, trivial⟩ ?_
            refine am_Rn.br (fun h4 => ?_) (fun h4 => ?_)
            · skip
              refine am_Rn.go (t := am_t37) rfl 2 rfl ⟨trivial, trivial, trivial⟩ ?_
              first
              | (have g := ih (i + 1) (some (.int 0)) (by omega)
                 rw [am_fold_succ, hF, ← am_inc] at g
                 (try simp only [e1, e2, am_on, Int32.reduceToNatClampNeg] at *)
                 first
                   | (exfalso; first | contradiction | (simp only [Int32.lt_iff_toInt_lt, Int32.le_iff_toInt_le, ← Int32.toInt_inj, Int32.reduceToInt, Int32.not_lt, Int32.not_le] at *; omega))
                   | (rw [sp_bestB_T (by simp only [sp_mayB, sp_over, Bool.and_eq_true, decide_eq_true_eq, and_true, ne_eq, Option.some.injEq, reduceCtorEq, not_false_eq_true]; (simp only [Int32.lt_iff_toInt_lt, Int32.le_iff_toInt_le, ← Int32.toInt_inj, Int32.reduceToInt, Int32.not_lt, Int32.not_le] at *; omega))] at g; exact g)
                   | (rw [sp_bestB_F (by simp only [sp_mayB, sp_over, Bool.and_eq_true, decide_eq_true_eq, and_true, ne_eq, Option.some.injEq, reduceCtorEq, not_false_eq_true]; (simp only [Int32.lt_iff_toInt_lt, Int32.le_iff_toInt_le, ← Int32.toInt_inj, Int32.reduceToInt, Int32.not_lt, Int32.not_le] at *; omega))] at g; exact g))
              | (have g := ih (i + 1) (some (.int 1)) (by omega)
                 rw [am_fold_succ, hF, ← am_inc] at g
                 (try simp only [e1, e2, am_on, Int32.reduceToNatClampNeg] at *)
                 first
                   | (exfalso; first | contradiction | (simp only [Int32.lt_iff_toInt_lt, Int32.le_iff_toInt_le, ← Int32.toInt_inj, Int32.reduceToInt, Int32.not_lt, Int32.not_le] at *; omega))
                   | (rw [sp_bestB_T (by simp only [sp_mayB, sp_over, Bool.and_eq_true, decide_eq_true_eq, and_true, ne_eq, Option.some.injEq, reduceCtorEq, not_false_eq_true]; (simp only [Int32.lt_iff_toInt_lt, Int32.le_iff_toInt_le, ← Int32.toInt_inj, Int32.reduceToInt, Int32.not_lt, Int32.not_le] at *; omega))] at g; exact g)
                   | (rw [sp_bestB_F (by simp only [sp_mayB, sp_over, Bool.and_eq_true, decide_eq_true_eq, and_true, ne_eq, Option.some.injEq, reduceCtorEq, not_false_eq_true]; (simp only [Int32.lt_iff_toInt_lt, Int32.le_iff_toInt_le, ← Int32.toInt_inj, Int32.reduceToInt, Int32.not_lt, Int32.not_le] at *; omega))] at g; exact g))
            · skip
              refine am_Rn.go (t := am_t37) rfl 2 rfl ⟨trivial, trivial, trivial⟩ ?_
              refine am_Rn.brF hq2 ?_
              refine am_Rn.go (t := am_t37) rfl 9 rfl ⟨trivial, trivial, trivial, (by first | exact am_inb_lit rfl | exact am_inb_of (by omega) (by omega)), trivial, trivial, trivial, (by first | exact am_inb_lit rfl | exact am_inb_of (by omega) (by omega)), trivial, trivial⟩ ?_
              refine am_Rn.br (fun h6 => ?_) (fun h6 => ?_)
              · skip
                refine am_Rn.go (t := am_t37) rfl 2 rfl ⟨trivial, trivial, trivial⟩ ?_
                first
                | (have g := ih (i + 1) (some (.int 0)) (by omega)
                   rw [am_fold_succ, hF, ← am_inc] at g
                   (try simp only [e1, e2, am_on, Int32.reduceToNatClampNeg] at *)
                   first
                     | (exfalso; first | contradiction | (simp only [Int32.lt_iff_toInt_lt, Int32.le_iff_toInt_le, ← Int32.toInt_inj, Int32.reduceToInt, Int32.not_lt, Int32.not_le] at *; omega))
                     | (rw [sp_bestB_T (by simp only [sp_mayB, sp_over, Bool.and_eq_true, decide_eq_true_eq, and_true, ne_eq, Option.some.injEq, reduceCtorEq, not_false_eq_true]; (simp only [Int32.lt_iff_toInt_lt, Int32.le_iff_toInt_le, ← Int32.toInt_inj, Int32.reduceToInt, Int32.not_lt, Int32.not_le] at *; omega))] at g; exact g)
                     | (rw [sp_bestB_F (by simp only [sp_mayB, sp_over, Bool.and_eq_true, decide_eq_true_eq, and_true, ne_eq, Option.some.injEq, reduceCtorEq, not_false_eq_true]; (simp only [Int32.lt_iff_toInt_lt, Int32.le_iff_toInt_le, ← Int32.toInt_inj, Int32.reduceToInt, Int32.not_lt, Int32.not_le] at *; omega))] at g; exact g))
                | (have g := ih (i + 1) (some (.int 1)) (by omega)
                   rw [am_fold_succ, hF, ← am_inc] at g
                   (try simp only [e1, e2, am_on, Int32.reduceToNatClampNeg] at *)
                   first
                     | (exfalso; first | contradiction | (simp only [Int32.lt_iff_toInt_lt, Int32.le_iff_toInt_le, ← Int32.toInt_inj, Int32.reduceToInt, Int32.not_lt, Int32.not_le] at *; omega))
                     | (rw [sp_bestB_T (by simp only [sp_mayB, sp_over, Bool.and_eq_true, decide_eq_true_eq, and_true, ne_eq, Option.some.injEq, reduceCtorEq, not_false_eq_true]; (simp only [Int32.lt_iff_toInt_lt, Int32.le_iff_toInt_le, ← Int32.toInt_inj, Int32.reduceToInt, Int32.not_lt, Int32.not_le] at *; omega))] at g; exact g)
                     | (rw [sp_bestB_F (by simp only [sp_mayB, sp_over, Bool.and_eq_true, decide_eq_true_eq, and_true, ne_eq, Option.some.injEq, reduceCtorEq, not_false_eq_true]; (simp only [Int32.lt_iff_toInt_lt, Int32.le_iff_toInt_le, ← Int32.toInt_inj, Int32.reduceToInt, Int32.not_lt, Int32.not_le] at *; omega))] at g; exact g))
              · skip
                refine am_Rn.go (t := am_t37) rfl 4 rfl ⟨trivial, trivial, trivial, trivial, trivial⟩ ?_
                first
                | (have g := ih (i + 1) (some (.int 0)) (by omega)
                   rw [am_fold_succ, hF, ← am_inc] at g
                   (try simp only [e1, e2, am_on, Int32.reduceToNatClampNeg] at *)
                   first
                     | (exfalso; first | contradiction | (simp only [Int32.lt_iff_toInt_lt, Int32.le_iff_toInt_le, ← Int32.toInt_inj, Int32.reduceToInt, Int32.not_lt, Int32.not_le] at *; omega))
                     | (rw [sp_bestB_T (by simp only [sp_mayB, sp_over, Bool.and_eq_true, decide_eq_true_eq, and_true, ne_eq, Option.some.injEq, reduceCtorEq, not_false_eq_true]; (simp only [Int32.lt_iff_toInt_lt, Int32.le_iff_toInt_le, ← Int32.toInt_inj, Int32.reduceToInt, Int32.not_lt, Int32.not_le] at *; omega))] at g; exact g)
                     | (rw [sp_bestB_F (by simp only [sp_mayB, sp_over, Bool.and_eq_true, decide_eq_true_eq, and_true, ne_eq, Option.some.injEq, reduceCtorEq, not_false_eq_true]; (simp only [Int32.lt_iff_toInt_lt, Int32.le_iff_toInt_le, ← Int32.toInt_inj, Int32.reduceToInt, Int32.not_lt, Int32.not_le] at *; omega))] at g; exact g))
                | (have g := ih (i + 1) (some (.int 1)) (by omega)
                   rw [am_fold_succ, hF, ← am_inc] at g
                   (try simp only [e1, e2, am_on, Int32.reduceToNatClampNeg] at *)
                   first
                     | (exfalso; first | contradiction | (simp only [Int32.lt_iff_toInt_lt, Int32.le_iff_toInt_le, ← Int32.toInt_inj, Int32.reduceToInt, Int32.not_lt, Int32.not_le] at *; omega))
                     | (rw [sp_bestB_T (by simp only [sp_mayB, sp_over, Bool.and_eq_true, decide_eq_true_eq, and_true, ne_eq, Option.some.injEq, reduceCtorEq, not_false_eq_true]; (simp only [Int32.lt_iff_toInt_lt, Int32.le_iff_toInt_le, ← Int32.toInt_inj, Int32.reduceToInt, Int32.not_lt, Int32.not_le] at *; omega))] at g; exact g)
                     | (rw [sp_bestB_F (by simp only [sp_mayB, sp_over, Bool.and_eq_true, decide_eq_true_eq, and_true, ne_eq, Option.some.injEq, reduceCtorEq, not_false_eq_true]; (simp only [Int32.lt_iff_toInt_lt, Int32.le_iff_toInt_le, ← Int32.toInt_inj, Int32.reduceToInt, Int32.not_lt, Int32.not_le] at *; omega))] at g; exact g))
        · skip
          refine am_Rn.go (t := am_t37) rfl 9 rfl ⟨trivial, trivial, trivial, trivial, trivial, trivial, (by first | exact am_inb_lit rfl | exact am_inb_of (by omega) (by omega)), trivial, trivial, trivial⟩ ?_
          refine am_Rn.br (fun h7 => ?_) (fun h7 => ?_)
          · skip
            refine am_Rn.go (t := am_t37) rfl 2 rfl ⟨trivial, trivial, trivial⟩ ?_
            first
            | (have g := ih (i + 1) (some (.int 0)) (by omega)
               rw [am_fold_succ, hF, ← am_inc] at g
               (try simp only [e1, e2, am_on, Int32.reduceToNatClampNeg] at *)
               first
                 | (exfalso; first | contradiction | (simp only [Int32.lt_iff_toInt_lt, Int32.le_iff_toInt_le, ← Int32.toInt_inj, Int32.reduceToInt, Int32.not_lt, Int32.not_le] at *; omega))
                 | (rw [sp_bestB_T (by simp only [sp_mayB, sp_over, Bool.and_eq_true, decide_eq_true_eq, and_true, ne_eq, Option.some.injEq, reduceCtorEq, not_false_eq_true]; (simp only [Int32.lt_iff_toInt_lt, Int32.le_iff_toInt_le, ← Int32.toInt_inj, Int32.reduceToInt, Int32.not_lt, Int32.not_le] at *; omega))] at g; exact g)
                 | (rw [sp_bestB_F (by simp only [sp_mayB, sp_over, Bool.and_eq_true, decide_eq_true_eq, and_true, ne_eq, Option.some.injEq, reduceCtorEq, not_false_eq_true]; (simp only [Int32.lt_iff_toInt_lt, Int32.le_iff_toInt_le, ← Int32.toInt_inj, Int32.reduceToInt, Int32.not_lt, Int32.not_le] at *; omega))] at g; exact g))
            | (have g := ih (i + 1) (some (.int 1)) (by omega)
               rw [am_fold_succ, hF, ← am_inc] at g
               (try simp only [e1, e2, am_on, Int32.reduceToNatClampNeg] at *)
               first
                 | (exfalso; first | contradiction | (simp only [Int32.lt_iff_toInt_lt, Int32.le_iff_toInt_le, ← Int32.toInt_inj, Int32.reduceToInt, Int32.not_lt, Int32.not_le] at *; omega))
                 | (rw [sp_bestB_T (by simp only [sp_mayB, sp_over, Bool.and_eq_true, decide_eq_true_eq, and_true, ne_eq, Option.some.injEq, reduceCtorEq, not_false_eq_true]; (simp only [Int32.lt_iff_toInt_lt, Int32.le_iff_toInt_le, ← Int32.toInt_inj, Int32.reduceToInt, Int32.not_lt, Int32.not_le] at *; omega))] at g; exact g)
                 | (rw [sp_bestB_F (by simp only [sp_mayB, sp_over, Bool.and_eq_true, decide_eq_true_eq, and_true, ne_eq, Option.some.injEq, reduceCtorEq, not_false_eq_true]; (simp only [Int32.lt_iff_toInt_lt, Int32.le_iff_toInt_le, ← Int32.toInt_inj, Int32.reduceToInt, Int32.not_lt, Int32.not_le] at *; omega))] at g; exact g))
          · skip
            refine am_Rn.go (t := am_t37) rfl 2 rfl ⟨trivial, trivial, trivial⟩ ?_
            refine am_Rn.br (fun h8 => ?_) (fun h8 => ?_)
            · skip
              refine am_Rn.go (t := am_t37) rfl 2 rfl ⟨trivial, trivial, trivial⟩ ?_
              first
              | (have g := ih (i + 1) (some (.int 0)) (by omega)
                 rw [am_fold_succ, hF, ← am_inc] at g
                 (try simp only [e1, e2, am_on, Int32.reduceToNatClampNeg] at *)
                 first
                   | (exfalso; first | contradiction | (simp only [Int32.lt_iff_toInt_lt, Int32.le_iff_toInt_le, ← Int32.toInt_inj, Int32.reduceToInt, Int32.not_lt, Int32.not_le] at *; omega))
                   | (rw [sp_bestB_T (by simp only [sp_mayB, sp_over, Bool.and_eq_true, decide_eq_true_eq, and_true, ne_eq, Option.some.injEq, reduceCtorEq, not_false_eq_true]; (simp only [Int32.lt_iff_toInt_lt, Int32.le_iff_toInt_le, ← Int32.toInt_inj, Int32.reduceToInt, Int32.not_lt, Int32.not_le] at *; omega))] at g; exact g)
                   | (rw [sp_bestB_F (by simp only [sp_mayB, sp_over, Bool.and_eq_true, decide_eq_true_eq, and_true, ne_eq, Option.some.injEq, reduceCtorEq, not_false_eq_true]; (simp only [Int32.lt_iff_toInt_lt, Int32.le_iff_toInt_le, ← Int32.toInt_inj, Int32.reduceToInt, Int32.not_lt, Int32.not_le] at *; omega))] at g; exact g))
              | (have g := ih (i + 1) (some (.int 1)) (by omega)
                 rw [am_fold_succ, hF, ← am_inc] at g
                 (try simp only [e1, e2, am_on, Int32.reduceToNatClampNeg] at *)
                 first
                   | (exfalso; first | contradiction | (simp only [Int32.lt_iff_toInt_lt, Int32.le_iff_toInt_le, ← Int32.toInt_inj, Int32.reduceToInt, Int32.not_lt, Int32.not_le] at *; omega))
                   | (rw [sp_bestB_T (by simp only [sp_mayB, sp_over, Bool.and_eq_true, decide_eq_true_eq, and_true, ne_eq, Option.some.injEq, reduceCtorEq, not_false_eq_true]; (simp only [Int32.lt_iff_toInt_lt, Int32.le_iff_toInt_le, ← Int32.toInt_inj, Int32.reduceToInt, Int32.not_lt, Int32.not_le] at *; omega))] at g; exact g)
                   | (rw [sp_bestB_F (by simp only [sp_mayB, sp_over, Bool.and_eq_true, decide_eq_true_eq, and_true, ne_eq, Option.some.injEq, reduceCtorEq, not_false_eq_true]; (simp only [Int32.lt_iff_toInt_lt, Int32.le_iff_toInt_le, ← Int32.toInt_inj, Int32.reduceToInt, Int32.not_lt, Int32.not_le] at *; omega))] at g; exact g))
            · skip
              refine am_Rn.go (t := am_t37) rfl 2 rfl ⟨trivial, trivial, trivial⟩ ?_
              refine am_Rn.brF hq2 ?_
              refine am_Rn.go (t := am_t37) rfl 9 rfl ⟨trivial, trivial, trivial, (by first | exact am_inb_lit rfl | exact am_inb_of (by omega) (by omega)), trivial, trivial, trivial, (by first | exact am_inb_lit rfl | exact am_inb_of (by omega) (by omega)), trivial, trivial⟩ ?_
              refine am_Rn.br (fun h10 => ?_) (fun h10 => ?_)
              · skip
                refine am_Rn.go (t := am_t37) rfl 2 rfl ⟨trivial, trivial, trivial⟩ ?_
                first
                | (have g := ih (i + 1) (some (.int 0)) (by omega)
                   rw [am_fold_succ, hF, ← am_inc] at g
                   (try simp only [e1, e2, am_on, Int32.reduceToNatClampNeg] at *)
                   first
                     | (exfalso; first | contradiction | (simp only [Int32.lt_iff_toInt_lt, Int32.le_iff_toInt_le, ← Int32.toInt_inj, Int32.reduceToInt, Int32.not_lt, Int32.not_le] at *; omega))
                     | (rw [sp_bestB_T (by simp only [sp_mayB, sp_over, Bool.and_eq_true, decide_eq_true_eq, and_true, ne_eq, Option.some.injEq, reduceCtorEq, not_false_eq_true]; (simp only [Int32.lt_iff_toInt_lt, Int32.le_iff_toInt_le, ← Int32.toInt_inj, Int32.reduceToInt, Int32.not_lt, Int32.not_le] at *; omega))] at g; exact g)
                     | (rw [sp_bestB_F (by simp only [sp_mayB, sp_over, Bool.and_eq_true, decide_eq_true_eq, and_true, ne_eq, Option.some.injEq, reduceCtorEq, not_false_eq_true]; (simp only [Int32.lt_iff_toInt_lt, Int32.le_iff_toInt_le, ← Int32.toInt_inj, Int32.reduceToInt, Int32.not_lt, Int32.not_le] at *; omega))] at g; exact g))
                | (have g := ih (i + 1) (some (.int 1)) (by omega)
                   rw [am_fold_succ, hF, ← am_inc] at g
                   (try simp only [e1, e2, am_on, Int32.reduceToNatClampNeg] at *)
                   first
                     | (exfalso; first | contradiction | (simp only [Int32.lt_iff_toInt_lt, Int32.le_iff_toInt_le, ← Int32.toInt_inj, Int32.reduceToInt, Int32.not_lt, Int32.not_le] at *; omega))
                     | (rw [sp_bestB_T (by simp only [sp_mayB, sp_over, Bool.and_eq_true, decide_eq_true_eq, and_true, ne_eq, Option.some.injEq, reduceCtorEq, not_false_eq_true]; (simp only [Int32.lt_iff_toInt_lt, Int32.le_iff_toInt_le, ← Int32.toInt_inj, Int32.reduceToInt, Int32.not_lt, Int32.not_le] at *; omega))] at g; exact g)
                     | (rw [sp_bestB_F (by simp only [sp_mayB, sp_over, Bool.and_eq_true, decide_eq_true_eq, and_true, ne_eq, Option.some.injEq, reduceCtorEq, not_false_eq_true]; (simp only [Int32.lt_iff_toInt_lt, Int32.le_iff_toInt_le, ← Int32.toInt_inj, Int32.reduceToInt, Int32.not_lt, Int32.not_le] at *; omega))] at g; exact g))
              · skip
                refine am_Rn.go (t := am_t37) rfl 4 rfl ⟨trivial, trivial, trivial, trivial, trivial⟩ ?_
                first
                | (have g := ih (i + 1) (some (.int 0)) (by omega)
                   rw [am_fold_succ, hF, ← am_inc] at g
                   (try simp only [e1, e2, am_on, Int32.reduceToNatClampNeg] at *)
                   first
                     | (exfalso; first | contradiction | (simp only [Int32.lt_iff_toInt_lt, Int32.le_iff_toInt_le, ← Int32.toInt_inj, Int32.reduceToInt, Int32.not_lt, Int32.not_le] at *; omega))
                     | (rw [sp_bestB_T (by simp only [sp_mayB, sp_over, Bool.and_eq_true, decide_eq_true_eq, and_true, ne_eq, Option.some.injEq, reduceCtorEq, not_false_eq_true]; (simp only [Int32.lt_iff_toInt_lt, Int32.le_iff_toInt_le, ← Int32.toInt_inj, Int32.reduceToInt, Int32.not_lt, Int32.not_le] at *; omega))] at g; exact g)
                     | (rw [sp_bestB_F (by simp only [sp_mayB, sp_over, Bool.and_eq_true, decide_eq_true_eq, and_true, ne_eq, Option.some.injEq, reduceCtorEq, not_false_eq_true]; (simp only [Int32.lt_iff_toInt_lt, Int32.le_iff_toInt_le, ← Int32.toInt_inj, Int32.reduceToInt, Int32.not_lt, Int32.not_le] at *; omega))] at g; exact g))
                | (have g := ih (i + 1) (some (.int 1)) (by omega)
                   rw [am_fold_succ, hF, ← am_inc] at g
                   (try simp only [e1, e2, am_on, Int32.reduceToNatClampNeg] at *)
                   first
                     | (exfalso; first | contradiction | (simp only [Int32.lt_iff_toInt_lt, Int32.le_iff_toInt_le, ← Int32.toInt_inj, Int32.reduceToInt, Int32.not_lt, Int32.not_le] at *; omega))
                     | (rw [sp_bestB_T (by simp only [sp_mayB, sp_over, Bool.and_eq_true, decide_eq_true_eq, and_true, ne_eq, Option.some.injEq, reduceCtorEq, not_false_eq_true]; (simp only [Int32.lt_iff_toInt_lt, Int32.le_iff_toInt_le, ← Int32.toInt_inj, Int32.reduceToInt, Int32.not_lt, Int32.not_le] at *; omega))] at g; exact g)
                     | (rw [sp_bestB_F (by simp only [sp_mayB, sp_over, Bool.and_eq_true, decide_eq_true_eq, and_true, ne_eq, Option.some.injEq, reduceCtorEq, not_false_eq_true]; (simp only [Int32.lt_iff_toInt_lt, Int32.le_iff_toInt_le, ← Int32.toInt_inj, Int32.reduceToInt, Int32.not_lt, Int32.not_le] at *; omega))] at g; exact g))
  refine am_Rn.go (t := am_t37) rfl 4 rfl ⟨trivial, trivial, trivial, trivial, trivial⟩ ?_
  exact L P 0 _ (by omega)
theorem sx_seller_A (sc : am_Sc) (b : Option Nat) (hb : ∀ q, b = some q → q < 9) (nu la me tc ts : Nat → Int32) (P : Nat) (hP : P ≤ 9) (rd pr pv sa pd lo : Int32) (bo co sh se si er of_ bi bt so : Nat → Int32) (B0 B2 B3 : List am_E) (Bs : am_M) : am_Rn sc 38 (0, am_entry 38 [.ref 128, .int (am_on (-1) b)], [], B0 :: bkRules 32 nu la me tc ts (Int32.ofNat P) :: B2 :: B3 :: bkRoom 128 32 rd pr pv sa pd lo bo co sh se si er of_ bi bt so :: Bs) (fun r M' => r = some (.int (am_on (-1) (am_fold P (sp_bestS (sp_mayS nu sh so b) bi) none))) ∧ M' = B0 :: bkRules 32 nu la me tc ts (Int32.ofNat P) :: B2 :: B3 :: bkRoom 128 32 rd pr pv sa pd lo bo co sh se si er of_ bi bt so :: Bs) := by
  show am_Rn sc 38 (0, [some (.ref 128), some (.int (am_on (-1) b)), none, none, none], [], _) _
  have L : ∀ (d i : Nat) (x3 : Option Value), i + d = P → am_Rn sc 38 (4, [some (.ref 128), some (.int (am_on (-1) b)), some (.int (am_on (-1) (am_fold i (sp_bestS (sp_mayS nu sh so b) bi) none))), some (.int (Int32.ofNat i)), x3], [], B0 :: bkRules 32 nu la me tc ts (Int32.ofNat P) :: B2 :: B3 :: bkRoom 128 32 rd pr pv sa pd lo bo co sh se si er of_ bi bt so :: Bs) (fun r M' => r = some (.int (am_on (-1) (am_fold P (sp_bestS (sp_mayS nu sh so b) bi) none))) ∧ M' = B0 :: bkRules 32 nu la me tc ts (Int32.ofNat P) :: B2 :: B3 :: bkRoom 128 32 rd pr pv sa pd lo bo co sh se si er of_ bi bt so :: Bs) := by
    intro d
    induction d with
    | zero =>
      intro i x3 hi
      obtain rfl : i = P := by omega
      refine am_Rn.go (t := am_t38) rfl 5 rfl ⟨trivial, trivial, trivial, trivial, trivial, trivial⟩ ?_
      refine am_Rn.brT (by first | exact (am_le (by omega) (by omega)).mpr (Nat.le_refl _) | exact fun q => absurd ((am_lt (by omega) (by omega)).mp q) (Nat.lt_irrefl _) | decide) ?_
      refine am_Rn.go (t := am_t38) rfl 1 rfl ⟨trivial, trivial⟩ ?_
      refine am_Rn.ret (t := am_t38) rfl rfl trivial ?_
      exact ⟨rfl, rfl⟩
    | succ d ih =>
      intro i x3 hi
      have hiP : i < P := by omega
      have e1 : (Int32.ofNat i).toNatClampNeg = i := am_tn i (by omega)
      have hq := sp_bestS_lt (sp_mayS nu sh so b) bi i
      generalize hF : (am_fold i (sp_bestS (sp_mayS nu sh so b) bi) none) = o at hq ⊢
      rcases o with _ | q <;> rcases b with _ | r
      · skip
        have e3 := am_ofN i (by omega)
        have e2 := e1
        refine am_Rn.go (t := am_t38) rfl 5 rfl ⟨trivial, trivial, trivial, trivial, trivial, trivial⟩ ?_
        refine am_Rn.brF (by first | exact fun q => absurd ((am_le (by omega) (by omega)).mp q) (by omega) | exact fun q => absurd ((am_le (i := 9) (by omega) (by omega)).mp q) (by omega) | exact fun q => absurd ((am_le (i := 10) (by omega) (by omega)).mp q) (by omega) | exact (am_lt (by omega) (by omega)).mpr hiP) ?_
        refine am_Rn.go (t := am_t38) rfl 3 rfl ⟨trivial, trivial, trivial, trivial⟩ ?_
        refine am_Rn.br (fun h2 => ?_) (fun h2 => ?_)
        · skip
          refine am_Rn.go (t := am_t38) rfl 8 rfl ⟨trivial, trivial, trivial, trivial, trivial, (by first | exact am_inb_lit rfl | exact am_inb_of (by omega) (by omega)), trivial, trivial, trivial⟩ ?_
          refine am_Rn.br (fun h3 => ?_) (fun h3 => ?_)
          · skip
            refine am_Rn.go (t := am_t38) rfl 2 rfl ⟨trivial, trivial, trivial⟩ ?_
            first
            | (have g := ih (i + 1) (some (.int 0)) (by omega)
               rw [am_fold_succ, hF, ← am_inc] at g
               (try simp only [e1, e2, am_on, Int32.reduceToNatClampNeg] at *)
               first
                 | (exfalso; first | contradiction | (simp only [Int32.lt_iff_toInt_lt, Int32.le_iff_toInt_le, ← Int32.toInt_inj, Int32.reduceToInt, Int32.not_lt, Int32.not_le] at *; omega))
                 | (rw [sp_bestS_T (by simp only [sp_mayS, sp_under, Bool.and_eq_true, decide_eq_true_eq, and_true, ne_eq, Option.some.injEq, reduceCtorEq, not_false_eq_true]; (simp only [Int32.lt_iff_toInt_lt, Int32.le_iff_toInt_le, ← Int32.toInt_inj, Int32.reduceToInt, Int32.not_lt, Int32.not_le] at *; omega))] at g; exact g)
                 | (rw [sp_bestS_F (by simp only [sp_mayS, sp_under, Bool.and_eq_true, decide_eq_true_eq, and_true, ne_eq, Option.some.injEq, reduceCtorEq, not_false_eq_true]; (simp only [Int32.lt_iff_toInt_lt, Int32.le_iff_toInt_le, ← Int32.toInt_inj, Int32.reduceToInt, Int32.not_lt, Int32.not_le] at *; omega))] at g; exact g))
            | (have g := ih (i + 1) (some (.int 1)) (by omega)
               rw [am_fold_succ, hF, ← am_inc] at g
               (try simp only [e1, e2, am_on, Int32.reduceToNatClampNeg] at *)
               first
                 | (exfalso; first | contradiction | (simp only [Int32.lt_iff_toInt_lt, Int32.le_iff_toInt_le, ← Int32.toInt_inj, Int32.reduceToInt, Int32.not_lt, Int32.not_le] at *; omega))
                 | (rw [sp_bestS_T (by simp only [sp_mayS, sp_under, Bool.and_eq_true, decide_eq_true_eq, and_true, ne_eq, Option.some.injEq, reduceCtorEq, not_false_eq_true]; (simp only [Int32.lt_iff_toInt_lt, Int32.le_iff_toInt_le, ← Int32.toInt_inj, Int32.reduceToInt, Int32.not_lt, Int32.not_le] at *; omega))] at g; exact g)
                 | (rw [sp_bestS_F (by simp only [sp_mayS, sp_under, Bool.and_eq_true, decide_eq_true_eq, and_true, ne_eq, Option.some.injEq, reduceCtorEq, not_false_eq_true]; (simp only [Int32.lt_iff_toInt_lt, Int32.le_iff_toInt_le, ← Int32.toInt_inj, Int32.reduceToInt, Int32.not_lt, Int32.not_le] at *; omega))] at g; exact g))
          · skip
            refine am_Rn.go (t := am_t38) rfl 2 rfl ⟨trivial, trivial, trivial⟩ ?_
            refine am_Rn.br (fun h4 => ?_) (fun h4 => ?_)
            · skip
              refine am_Rn.go (t := am_t38) rfl 2 rfl ⟨trivial, trivial, trivial⟩ ?_
              first
              | (have g := ih (i + 1) (some (.int 0)) (by omega)
                 rw [am_fold_succ, hF, ← am_inc] at g
                 (try simp only [e1, e2, am_on, Int32.reduceToNatClampNeg] at *)
                 first
                   | (exfalso; first | contradiction | (simp only [Int32.lt_iff_toInt_lt, Int32.le_iff_toInt_le, ← Int32.toInt_inj, Int32.reduceToInt, Int32.not_lt, Int32.not_le] at *; omega))
                   | (rw [sp_bestS_T (by simp only [sp_mayS, sp_under, Bool.and_eq_true, decide_eq_true_eq, and_true, ne_eq, Option.some.injEq, reduceCtorEq, not_false_eq_true]; (simp only [Int32.lt_iff_toInt_lt, Int32.le_iff_toInt_le, ← Int32.toInt_inj, Int32.reduceToInt, Int32.not_lt, Int32.not_le] at *; omega))] at g; exact g)
                   | (rw [sp_bestS_F (by simp only [sp_mayS, sp_under, Bool.and_eq_true, decide_eq_true_eq, and_true, ne_eq, Option.some.injEq, reduceCtorEq, not_false_eq_true]; (simp only [Int32.lt_iff_toInt_lt, Int32.le_iff_toInt_le, ← Int32.toInt_inj, Int32.reduceToInt, Int32.not_lt, Int32.not_le] at *; omega))] at g; exact g))
              | (have g := ih (i + 1) (some (.int 1)) (by omega)
                 rw [am_fold_succ, hF, ← am_inc] at g
                 (try simp only [e1, e2, am_on, Int32.reduceToNatClampNeg] at *)
                 first
                   | (exfalso; first | contradiction | (simp only [Int32.lt_iff_toInt_lt, Int32.le_iff_toInt_le, ← Int32.toInt_inj, Int32.reduceToInt, Int32.not_lt, Int32.not_le] at *; omega))
                   | (rw [sp_bestS_T (by simp only [sp_mayS, sp_under, Bool.and_eq_true, decide_eq_true_eq, and_true, ne_eq, Option.some.injEq, reduceCtorEq, not_false_eq_true]; (simp only [Int32.lt_iff_toInt_lt, Int32.le_iff_toInt_le, ← Int32.toInt_inj, Int32.reduceToInt, Int32.not_lt, Int32.not_le] at *; omega))] at g; exact g)
                   | (rw [sp_bestS_F (by simp only [sp_mayS, sp_under, Bool.and_eq_true, decide_eq_true_eq, and_true, ne_eq, Option.some.injEq, reduceCtorEq, not_false_eq_true]; (simp only [Int32.lt_iff_toInt_lt, Int32.le_iff_toInt_le, ← Int32.toInt_inj, Int32.reduceToInt, Int32.not_lt, Int32.not_le] at *; omega))] at g; exact g))
            · skip
              refine am_Rn.go (t := am_t38) rfl 2 rfl ⟨trivial, trivial, trivial⟩ ?_
              refine am_Rn.brT (show (-1 : Int32) < 0 by decide) ?_
              refine am_Rn.go (t := am_t38) rfl 4 rfl ⟨trivial, trivial, trivial, trivial, trivial⟩ ?_
              first
              | (have g := ih (i + 1) (some (.int 0)) (by omega)
                 rw [am_fold_succ, hF, ← am_inc] at g
                 (try simp only [e1, e2, am_on, Int32.reduceToNatClampNeg] at *)
                 first
                   | (exfalso; first | contradiction | (simp only [Int32.lt_iff_toInt_lt, Int32.le_iff_toInt_le, ← Int32.toInt_inj, Int32.reduceToInt, Int32.not_lt, Int32.not_le] at *; omega))
                   | (rw [sp_bestS_T (by simp only [sp_mayS, sp_under, Bool.and_eq_true, decide_eq_true_eq, and_true, ne_eq, Option.some.injEq, reduceCtorEq, not_false_eq_true]; (simp only [Int32.lt_iff_toInt_lt, Int32.le_iff_toInt_le, ← Int32.toInt_inj, Int32.reduceToInt, Int32.not_lt, Int32.not_le] at *; omega))] at g; exact g)
                   | (rw [sp_bestS_F (by simp only [sp_mayS, sp_under, Bool.and_eq_true, decide_eq_true_eq, and_true, ne_eq, Option.some.injEq, reduceCtorEq, not_false_eq_true]; (simp only [Int32.lt_iff_toInt_lt, Int32.le_iff_toInt_le, ← Int32.toInt_inj, Int32.reduceToInt, Int32.not_lt, Int32.not_le] at *; omega))] at g; exact g))
              | (have g := ih (i + 1) (some (.int 1)) (by omega)
                 rw [am_fold_succ, hF, ← am_inc] at g
                 (try simp only [e1, e2, am_on, Int32.reduceToNatClampNeg] at *)
                 first
                   | (exfalso; first | contradiction | (simp only [Int32.lt_iff_toInt_lt, Int32.le_iff_toInt_le, ← Int32.toInt_inj, Int32.reduceToInt, Int32.not_lt, Int32.not_le] at *; omega))
                   | (rw [sp_bestS_T (by simp only [sp_mayS, sp_under, Bool.and_eq_true, decide_eq_true_eq, and_true, ne_eq, Option.some.injEq, reduceCtorEq, not_false_eq_true]; (simp only [Int32.lt_iff_toInt_lt, Int32.le_iff_toInt_le, ← Int32.toInt_inj, Int32.reduceToInt, Int32.not_lt, Int32.not_le] at *; omega))] at g; exact g)
                   | (rw [sp_bestS_F (by simp only [sp_mayS, sp_under, Bool.and_eq_true, decide_eq_true_eq, and_true, ne_eq, Option.some.injEq, reduceCtorEq, not_false_eq_true]; (simp only [Int32.lt_iff_toInt_lt, Int32.le_iff_toInt_le, ← Int32.toInt_inj, Int32.reduceToInt, Int32.not_lt, Int32.not_le] at *; omega))] at g; exact g))
        · skip
          refine am_Rn.go (t := am_t38) rfl 11 rfl ⟨trivial, trivial, trivial, (by first | exact am_inb_lit rfl | exact am_inb_of (by omega) (by omega)), trivial, trivial, trivial, trivial, (by first | exact am_inb_lit rfl | exact am_inb_of (by omega) (by omega)), trivial, trivial, trivial⟩ ?_
          refine am_Rn.br (fun h6 => ?_) (fun h6 => ?_)
          · skip
            refine am_Rn.go (t := am_t38) rfl 8 rfl ⟨trivial, trivial, trivial, trivial, trivial, (by first | exact am_inb_lit rfl | exact am_inb_of (by omega) (by omega)), trivial, trivial, trivial⟩ ?_
            refine am_Rn.br (fun h7 => ?_) (fun h7 => ?_)
            · skip
              refine am_Rn.go (t := am_t38) rfl 2 rfl ⟨trivial, trivial, trivial⟩ ?_
              first
              | (have g := ih (i + 1) (some (.int 0)) (by omega)
                 rw [am_fold_succ, hF, ← am_inc] at g
                 (try simp only [e1, e2, am_on, Int32.reduceToNatClampNeg] at *)
                 first
                   | (exfalso; first | contradiction | (simp only [Int32.lt_iff_toInt_lt, Int32.le_iff_toInt_le, ← Int32.toInt_inj, Int32.reduceToInt, Int32.not_lt, Int32.not_le] at *; omega))
                   | (rw [sp_bestS_T (by simp only [sp_mayS, sp_under, Bool.and_eq_true, decide_eq_true_eq, and_true, ne_eq, Option.some.injEq, reduceCtorEq, not_false_eq_true]; (simp only [Int32.lt_iff_toInt_lt, Int32.le_iff_toInt_le, ← Int32.toInt_inj, Int32.reduceToInt, Int32.not_lt, Int32.not_le] at *; omega))] at g; exact g)
                   | (rw [sp_bestS_F (by simp only [sp_mayS, sp_under, Bool.and_eq_true, decide_eq_true_eq, and_true, ne_eq, Option.some.injEq, reduceCtorEq, not_false_eq_true]; (simp only [Int32.lt_iff_toInt_lt, Int32.le_iff_toInt_le, ← Int32.toInt_inj, Int32.reduceToInt, Int32.not_lt, Int32.not_le] at *; omega))] at g; exact g))
              | (have g := ih (i + 1) (some (.int 1)) (by omega)
                 rw [am_fold_succ, hF, ← am_inc] at g
                 (try simp only [e1, e2, am_on, Int32.reduceToNatClampNeg] at *)
                 first
                   | (exfalso; first | contradiction | (simp only [Int32.lt_iff_toInt_lt, Int32.le_iff_toInt_le, ← Int32.toInt_inj, Int32.reduceToInt, Int32.not_lt, Int32.not_le] at *; omega))
                   | (rw [sp_bestS_T (by simp only [sp_mayS, sp_under, Bool.and_eq_true, decide_eq_true_eq, and_true, ne_eq, Option.some.injEq, reduceCtorEq, not_false_eq_true]; (simp only [Int32.lt_iff_toInt_lt, Int32.le_iff_toInt_le, ← Int32.toInt_inj, Int32.reduceToInt, Int32.not_lt, Int32.not_le] at *; omega))] at g; exact g)
                   | (rw [sp_bestS_F (by simp only [sp_mayS, sp_under, Bool.and_eq_true, decide_eq_true_eq, and_true, ne_eq, Option.some.injEq, reduceCtorEq, not_false_eq_true]; (simp only [Int32.lt_iff_toInt_lt, Int32.le_iff_toInt_le, ← Int32.toInt_inj, Int32.reduceToInt, Int32.not_lt, Int32.not_le] at *; omega))] at g; exact g))
            · skip
              refine am_Rn.go (t := am_t38) rfl 2 rfl ⟨trivial, trivial, trivial⟩ ?_
              refine am_Rn.br (fun h8 => ?_) (fun h8 => ?_)
              · skip
                refine am_Rn.go (t := am_t38) rfl 2 rfl ⟨trivial, trivial, trivial⟩ ?_
                first
                | (have g := ih (i + 1) (some (.int 0)) (by omega)
                   rw [am_fold_succ, hF, ← am_inc] at g
                   (try simp only [e1, e2, am_on, Int32.reduceToNatClampNeg] at *)
                   first
                     | (exfalso; first | contradiction | (simp only [Int32.lt_iff_toInt_lt, Int32.le_iff_toInt_le, ← Int32.toInt_inj, Int32.reduceToInt, Int32.not_lt, Int32.not_le] at *; omega))
                     | (rw [sp_bestS_T (by simp only [sp_mayS, sp_under, Bool.and_eq_true, decide_eq_true_eq, and_true, ne_eq, Option.some.injEq, reduceCtorEq, not_false_eq_true]; (simp only [Int32.lt_iff_toInt_lt, Int32.le_iff_toInt_le, ← Int32.toInt_inj, Int32.reduceToInt, Int32.not_lt, Int32.not_le] at *; omega))] at g; exact g)
                     | (rw [sp_bestS_F (by simp only [sp_mayS, sp_under, Bool.and_eq_true, decide_eq_true_eq, and_true, ne_eq, Option.some.injEq, reduceCtorEq, not_false_eq_true]; (simp only [Int32.lt_iff_toInt_lt, Int32.le_iff_toInt_le, ← Int32.toInt_inj, Int32.reduceToInt, Int32.not_lt, Int32.not_le] at *; omega))] at g; exact g))
                | (have g := ih (i + 1) (some (.int 1)) (by omega)
                   rw [am_fold_succ, hF, ← am_inc] at g
                   (try simp only [e1, e2, am_on, Int32.reduceToNatClampNeg] at *)
                   first
                     | (exfalso; first | contradiction | (simp only [Int32.lt_iff_toInt_lt, Int32.le_iff_toInt_le, ← Int32.toInt_inj, Int32.reduceToInt, Int32.not_lt, Int32.not_le] at *; omega))
                     | (rw [sp_bestS_T (by simp only [sp_mayS, sp_under, Bool.and_eq_true, decide_eq_true_eq, and_true, ne_eq, Option.some.injEq, reduceCtorEq, not_false_eq_true]; (simp only [Int32.lt_iff_toInt_lt, Int32.le_iff_toInt_le, ← Int32.toInt_inj, Int32.reduceToInt, Int32.not_lt, Int32.not_le] at *; omega))] at g; exact g)
                     | (rw [sp_bestS_F (by simp only [sp_mayS, sp_under, Bool.and_eq_true, decide_eq_true_eq, and_true, ne_eq, Option.some.injEq, reduceCtorEq, not_false_eq_true]; (simp only [Int32.lt_iff_toInt_lt, Int32.le_iff_toInt_le, ← Int32.toInt_inj, Int32.reduceToInt, Int32.not_lt, Int32.not_le] at *; omega))] at g; exact g))
              · skip
                refine am_Rn.go (t := am_t38) rfl 2 rfl ⟨trivial, trivial, trivial⟩ ?_
                refine am_Rn.brT (show (-1 : Int32) < 0 by decide) ?_
                refine am_Rn.go (t := am_t38) rfl 4 rfl ⟨trivial, trivial, trivial, trivial, trivial⟩ ?_
                first
                | (have g := ih (i + 1) (some (.int 0)) (by omega)
                   rw [am_fold_succ, hF, ← am_inc] at g
                   (try simp only [e1, e2, am_on, Int32.reduceToNatClampNeg] at *)
                   first
                     | (exfalso; first | contradiction | (simp only [Int32.lt_iff_toInt_lt, Int32.le_iff_toInt_le, ← Int32.toInt_inj, Int32.reduceToInt, Int32.not_lt, Int32.not_le] at *; omega))
                     | (rw [sp_bestS_T (by simp only [sp_mayS, sp_under, Bool.and_eq_true, decide_eq_true_eq, and_true, ne_eq, Option.some.injEq, reduceCtorEq, not_false_eq_true]; (simp only [Int32.lt_iff_toInt_lt, Int32.le_iff_toInt_le, ← Int32.toInt_inj, Int32.reduceToInt, Int32.not_lt, Int32.not_le] at *; omega))] at g; exact g)
                     | (rw [sp_bestS_F (by simp only [sp_mayS, sp_under, Bool.and_eq_true, decide_eq_true_eq, and_true, ne_eq, Option.some.injEq, reduceCtorEq, not_false_eq_true]; (simp only [Int32.lt_iff_toInt_lt, Int32.le_iff_toInt_le, ← Int32.toInt_inj, Int32.reduceToInt, Int32.not_lt, Int32.not_le] at *; omega))] at g; exact g))
                | (have g := ih (i + 1) (some (.int 1)) (by omega)
                   rw [am_fold_succ, hF, ← am_inc] at g
                   (try simp only [e1, e2, am_on, Int32.reduceToNatClampNeg] at *)
                   first
                     | (exfalso; first | contradiction | (simp only [Int32.lt_iff_toInt_lt, Int32.le_iff_toInt_le, ← Int32.toInt_inj, Int32.reduceToInt, Int32.not_lt, Int32.not_le] at *; omega))
                     | (rw [sp_bestS_T (by simp only [sp_mayS, sp_under, Bool.and_eq_true, decide_eq_true_eq, and_true, ne_eq, Option.some.injEq, reduceCtorEq, not_false_eq_true]; (simp only [Int32.lt_iff_toInt_lt, Int32.le_iff_toInt_le, ← Int32.toInt_inj, Int32.reduceToInt, Int32.not_lt, Int32.not_le] at *; omega))] at g; exact g)
                     | (rw [sp_bestS_F (by simp only [sp_mayS, sp_under, Bool.and_eq_true, decide_eq_true_eq, and_true, ne_eq, Option.some.injEq, reduceCtorEq, not_false_eq_true]; (simp only [Int32.lt_iff_toInt_lt, Int32.le_iff_toInt_le, ← Int32.toInt_inj, Int32.reduceToInt, Int32.not_lt, Int32.not_le] at *; omega))] at g; exact g))
          · skip
            refine am_Rn.go (t := am_t38) rfl 9 rfl ⟨trivial, trivial, trivial, trivial, trivial, trivial, (by first | exact am_inb_lit rfl | exact am_inb_of (by omega) (by omega)), trivial, trivial, trivial⟩ ?_
            refine am_Rn.br (fun h10 => ?_) (fun h10 => ?_)
            · skip
              refine am_Rn.go (t := am_t38) rfl 2 rfl ⟨trivial, trivial, trivial⟩ ?_
              first
              | (have g := ih (i + 1) (some (.int 0)) (by omega)
                 rw [am_fold_succ, hF, ← am_inc] at g
                 (try simp only [e1, e2, am_on, Int32.reduceToNatClampNeg] at *)
                 first
                   | (exfalso; first | contradiction | (simp only [Int32.lt_iff_toInt_lt, Int32.le_iff_toInt_le, ← Int32.toInt_inj, Int32.reduceToInt, Int32.not_lt, Int32.not_le] at *; omega))
                   | (rw [sp_bestS_T (by simp only [sp_mayS, sp_under, Bool.and_eq_true, decide_eq_true_eq, and_true, ne_eq, Option.some.injEq, reduceCtorEq, not_false_eq_true]; (simp only [Int32.lt_iff_toInt_lt, Int32.le_iff_toInt_le, ← Int32.toInt_inj, Int32.reduceToInt, Int32.not_lt, Int32.not_le] at *; omega))] at g; exact g)
                   | (rw [sp_bestS_F (by simp only [sp_mayS, sp_under, Bool.and_eq_true, decide_eq_true_eq, and_true, ne_eq, Option.some.injEq, reduceCtorEq, not_false_eq_true]; (simp only [Int32.lt_iff_toInt_lt, Int32.le_iff_toInt_le, ← Int32.toInt_inj, Int32.reduceToInt, Int32.not_lt, Int32.not_le] at *; omega))] at g; exact g))
              | (have g := ih (i + 1) (some (.int 1)) (by omega)
                 rw [am_fold_succ, hF, ← am_inc] at g
                 (try simp only [e1, e2, am_on, Int32.reduceToNatClampNeg] at *)
                 first
                   | (exfalso; first | contradiction | (simp only [Int32.lt_iff_toInt_lt, Int32.le_iff_toInt_le, ← Int32.toInt_inj, Int32.reduceToInt, Int32.not_lt, Int32.not_le] at *; omega))
                   | (rw [sp_bestS_T (by simp only [sp_mayS, sp_under, Bool.and_eq_true, decide_eq_true_eq, and_true, ne_eq, Option.some.injEq, reduceCtorEq, not_false_eq_true]; (simp only [Int32.lt_iff_toInt_lt, Int32.le_iff_toInt_le, ← Int32.toInt_inj, Int32.reduceToInt, Int32.not_lt, Int32.not_le] at *; omega))] at g; exact g)
                   | (rw [sp_bestS_F (by simp only [sp_mayS, sp_under, Bool.and_eq_true, decide_eq_true_eq, and_true, ne_eq, Option.some.injEq, reduceCtorEq, not_false_eq_true]; (simp only [Int32.lt_iff_toInt_lt, Int32.le_iff_toInt_le, ← Int32.toInt_inj, Int32.reduceToInt, Int32.not_lt, Int32.not_le] at *; omega))] at g; exact g))
            · skip
              refine am_Rn.go (t := am_t38) rfl 2 rfl ⟨trivial, trivial, trivial⟩ ?_
              refine am_Rn.br (fun h11 => ?_) (fun h11 => ?_)
              · skip
                refine am_Rn.go (t := am_t38) rfl 2 rfl ⟨trivial, trivial, trivial⟩ ?_
                first
                | (have g := ih (i + 1) (some (.int 0)) (by omega)
                   rw [am_fold_succ, hF, ← am_inc] at g
                   (try simp only [e1, e2, am_on, Int32.reduceToNatClampNeg] at *)
                   first
                     | (exfalso; first | contradiction | (simp only [Int32.lt_iff_toInt_lt, Int32.le_iff_toInt_le, ← Int32.toInt_inj, Int32.reduceToInt, Int32.not_lt, Int32.not_le] at *; omega))
                     | (rw [sp_bestS_T (by simp only [sp_mayS, sp_under, Bool.and_eq_true, decide_eq_true_eq, and_true, ne_eq, Option.some.injEq, reduceCtorEq, not_false_eq_true]; (simp only [Int32.lt_iff_toInt_lt, Int32.le_iff_toInt_le, ← Int32.toInt_inj, Int32.reduceToInt, Int32.not_lt, Int32.not_le] at *; omega))] at g; exact g)
                     | (rw [sp_bestS_F (by simp only [sp_mayS, sp_under, Bool.and_eq_true, decide_eq_true_eq, and_true, ne_eq, Option.some.injEq, reduceCtorEq, not_false_eq_true]; (simp only [Int32.lt_iff_toInt_lt, Int32.le_iff_toInt_le, ← Int32.toInt_inj, Int32.reduceToInt, Int32.not_lt, Int32.not_le] at *; omega))] at g; exact g))
                | (have g := ih (i + 1) (some (.int 1)) (by omega)
                   rw [am_fold_succ, hF, ← am_inc] at g
                   (try simp only [e1, e2, am_on, Int32.reduceToNatClampNeg] at *)
                   first
                     | (exfalso; first | contradiction | (simp only [Int32.lt_iff_toInt_lt, Int32.le_iff_toInt_le, ← Int32.toInt_inj, Int32.reduceToInt, Int32.not_lt, Int32.not_le] at *; omega))
                     | (rw [sp_bestS_T (by simp only [sp_mayS, sp_under, Bool.and_eq_true, decide_eq_true_eq, and_true, ne_eq, Option.some.injEq, reduceCtorEq, not_false_eq_true]; (simp only [Int32.lt_iff_toInt_lt, Int32.le_iff_toInt_le, ← Int32.toInt_inj, Int32.reduceToInt, Int32.not_lt, Int32.not_le] at *; omega))] at g; exact g)
                     | (rw [sp_bestS_F (by simp only [sp_mayS, sp_under, Bool.and_eq_true, decide_eq_true_eq, and_true, ne_eq, Option.some.injEq, reduceCtorEq, not_false_eq_true]; (simp only [Int32.lt_iff_toInt_lt, Int32.le_iff_toInt_le, ← Int32.toInt_inj, Int32.reduceToInt, Int32.not_lt, Int32.not_le] at *; omega))] at g; exact g))
              · skip
                refine am_Rn.go (t := am_t38) rfl 2 rfl ⟨trivial, trivial, trivial⟩ ?_
                refine am_Rn.brT (show (-1 : Int32) < 0 by decide) ?_
                refine am_Rn.go (t := am_t38) rfl 4 rfl ⟨trivial, trivial, trivial, trivial, trivial⟩ ?_
                first
                | (have g := ih (i + 1) (some (.int 0)) (by omega)
                   rw [am_fold_succ, hF, ← am_inc] at g
                   (try simp only [e1, e2, am_on, Int32.reduceToNatClampNeg] at *)
                   first
                     | (exfalso; first | contradiction | (simp only [Int32.lt_iff_toInt_lt, Int32.le_iff_toInt_le, ← Int32.toInt_inj, Int32.reduceToInt, Int32.not_lt, Int32.not_le] at *; omega))
                     | (rw [sp_bestS_T (by simp only [sp_mayS, sp_under, Bool.and_eq_true, decide_eq_true_eq, and_true, ne_eq, Option.some.injEq, reduceCtorEq, not_false_eq_true]; (simp only [Int32.lt_iff_toInt_lt, Int32.le_iff_toInt_le, ← Int32.toInt_inj, Int32.reduceToInt, Int32.not_lt, Int32.not_le] at *; omega))] at g; exact g)
                     | (rw [sp_bestS_F (by simp only [sp_mayS, sp_under, Bool.and_eq_true, decide_eq_true_eq, and_true, ne_eq, Option.some.injEq, reduceCtorEq, not_false_eq_true]; (simp only [Int32.lt_iff_toInt_lt, Int32.le_iff_toInt_le, ← Int32.toInt_inj, Int32.reduceToInt, Int32.not_lt, Int32.not_le] at *; omega))] at g; exact g))
                | (have g := ih (i + 1) (some (.int 1)) (by omega)
                   rw [am_fold_succ, hF, ← am_inc] at g
                   (try simp only [e1, e2, am_on, Int32.reduceToNatClampNeg] at *)
                   first
                     | (exfalso; first | contradiction | (simp only [Int32.lt_iff_toInt_lt, Int32.le_iff_toInt_le, ← Int32.toInt_inj, Int32.reduceToInt, Int32.not_lt, Int32.not_le] at *; omega))
                     | (rw [sp_bestS_T (by simp only [sp_mayS, sp_under, Bool.and_eq_true, decide_eq_true_eq, and_true, ne_eq, Option.some.injEq, reduceCtorEq, not_false_eq_true]; (simp only [Int32.lt_iff_toInt_lt, Int32.le_iff_toInt_le, ← Int32.toInt_inj, Int32.reduceToInt, Int32.not_lt, Int32.not_le] at *; omega))] at g; exact g)
                     | (rw [sp_bestS_F (by simp only [sp_mayS, sp_under, Bool.and_eq_true, decide_eq_true_eq, and_true, ne_eq, Option.some.injEq, reduceCtorEq, not_false_eq_true]; (simp only [Int32.lt_iff_toInt_lt, Int32.le_iff_toInt_le, ← Int32.toInt_inj, Int32.reduceToInt, Int32.not_lt, Int32.not_le] at *; omega))] at g; exact g))
      · skip
        have e3 := am_ofN i (by omega)
        have e2 := e1
        have hr1 := hb r rfl
        have e4 := am_ofN r (by omega)
        refine am_Rn.go (t := am_t38) rfl 5 rfl ⟨trivial, trivial, trivial, trivial, trivial, trivial⟩ ?_
        refine am_Rn.brF (by first | exact fun q => absurd ((am_le (by omega) (by omega)).mp q) (by omega) | exact fun q => absurd ((am_le (i := 9) (by omega) (by omega)).mp q) (by omega) | exact fun q => absurd ((am_le (i := 10) (by omega) (by omega)).mp q) (by omega) | exact (am_lt (by omega) (by omega)).mpr hiP) ?_
        refine am_Rn.go (t := am_t38) rfl 3 rfl ⟨trivial, trivial, trivial, trivial⟩ ?_
        refine am_Rn.br (fun h2 => ?_) (fun h2 => ?_)
        · skip
          refine am_Rn.go (t := am_t38) rfl 8 rfl ⟨trivial, trivial, trivial, trivial, trivial, (by first | exact am_inb_lit rfl | exact am_inb_of (by omega) (by omega)), trivial, trivial, trivial⟩ ?_
          refine am_Rn.br (fun h3 => ?_) (fun h3 => ?_)
          · skip
            refine am_Rn.go (t := am_t38) rfl 2 rfl ⟨trivial, trivial, trivial⟩ ?_
            first
            | (have g := ih (i + 1) (some (.int 0)) (by omega)
               rw [am_fold_succ, hF, ← am_inc] at g
               (try simp only [e1, e2, am_on, Int32.reduceToNatClampNeg] at *)
               first
                 | (exfalso; first | contradiction | (simp only [Int32.lt_iff_toInt_lt, Int32.le_iff_toInt_le, ← Int32.toInt_inj, Int32.reduceToInt, Int32.not_lt, Int32.not_le] at *; omega))
                 | (rw [sp_bestS_T (by simp only [sp_mayS, sp_under, Bool.and_eq_true, decide_eq_true_eq, and_true, ne_eq, Option.some.injEq, reduceCtorEq, not_false_eq_true]; (simp only [Int32.lt_iff_toInt_lt, Int32.le_iff_toInt_le, ← Int32.toInt_inj, Int32.reduceToInt, Int32.not_lt, Int32.not_le] at *; omega))] at g; exact g)
                 | (rw [sp_bestS_F (by simp only [sp_mayS, sp_under, Bool.and_eq_true, decide_eq_true_eq, and_true, ne_eq, Option.some.injEq, reduceCtorEq, not_false_eq_true]; (simp only [Int32.lt_iff_toInt_lt, Int32.le_iff_toInt_le, ← Int32.toInt_inj, Int32.reduceToInt, Int32.not_lt, Int32.not_le] at *; omega))] at g; exact g))
            | (have g := ih (i + 1) (some (.int 1)) (by omega)
               rw [am_fold_succ, hF, ← am_inc] at g
               (try simp only [e1, e2, am_on, Int32.reduceToNatClampNeg] at *)
               first
                 | (exfalso; first | contradiction | (simp only [Int32.lt_iff_toInt_lt, Int32.le_iff_toInt_le, ← Int32.toInt_inj, Int32.reduceToInt, Int32.not_lt, Int32.not_le] at *; omega))
                 | (rw [sp_bestS_T (by simp only [sp_mayS, sp_under, Bool.and_eq_true, decide_eq_true_eq, and_true, ne_eq, Option.some.injEq, reduceCtorEq, not_false_eq_true]; (simp only [Int32.lt_iff_toInt_lt, Int32.le_iff_toInt_le, ← Int32.toInt_inj, Int32.reduceToInt, Int32.not_lt, Int32.not_le] at *; omega))] at g; exact g)
                 | (rw [sp_bestS_F (by simp only [sp_mayS, sp_under, Bool.and_eq_true, decide_eq_true_eq, and_true, ne_eq, Option.some.injEq, reduceCtorEq, not_false_eq_true]; (simp only [Int32.lt_iff_toInt_lt, Int32.le_iff_toInt_le, ← Int32.toInt_inj, Int32.reduceToInt, Int32.not_lt, Int32.not_le] at *; omega))] at g; exact g))
          · skip
            refine am_Rn.go (t := am_t38) rfl 2 rfl ⟨trivial, trivial, trivial⟩ ?_
            refine am_Rn.br (fun h4 => ?_) (fun h4 => ?_)
            · skip
              refine am_Rn.go (t := am_t38) rfl 2 rfl ⟨trivial, trivial, trivial⟩ ?_
              first
              | (have g := ih (i + 1) (some (.int 0)) (by omega)
                 rw [am_fold_succ, hF, ← am_inc] at g
                 (try simp only [e1, e2, am_on, Int32.reduceToNatClampNeg] at *)
                 first
                   | (exfalso; first | contradiction | (simp only [Int32.lt_iff_toInt_lt, Int32.le_iff_toInt_le, ← Int32.toInt_inj, Int32.reduceToInt, Int32.not_lt, Int32.not_le] at *; omega))
                   | (rw [sp_bestS_T (by simp only [sp_mayS, sp_under, Bool.and_eq_true, decide_eq_true_eq, and_true, ne_eq, Option.some.injEq, reduceCtorEq, not_false_eq_true]; (simp only [Int32.lt_iff_toInt_lt, Int32.le_iff_toInt_le, ← Int32.toInt_inj, Int32.reduceToInt, Int32.not_lt, Int32.not_le] at *; omega))] at g; exact g)
                   | (rw [sp_bestS_F (by simp only [sp_mayS, sp_under, Bool.and_eq_true, decide_eq_true_eq, and_true, ne_eq, Option.some.injEq, reduceCtorEq, not_false_eq_true]; (simp only [Int32.lt_iff_toInt_lt, Int32.le_iff_toInt_le, ← Int32.toInt_inj, Int32.reduceToInt, Int32.not_lt, Int32.not_le] at *; omega))] at g; exact g))
              | (have g := ih (i + 1) (some (.int 1)) (by omega)
                 rw [am_fold_succ, hF, ← am_inc] at g
                 (try simp only [e1, e2, am_on, Int32.reduceToNatClampNeg] at *)
                 first
                   | (exfalso; first | contradiction | (simp only [Int32.lt_iff_toInt_lt, Int32.le_iff_toInt_le, ← Int32.toInt_inj, Int32.reduceToInt, Int32.not_lt, Int32.not_le] at *; omega))
                   | (rw [sp_bestS_T (by simp only [sp_mayS, sp_under, Bool.and_eq_true, decide_eq_true_eq, and_true, ne_eq, Option.some.injEq, reduceCtorEq, not_false_eq_true]; (simp only [Int32.lt_iff_toInt_lt, Int32.le_iff_toInt_le, ← Int32.toInt_inj, Int32.reduceToInt, Int32.not_lt, Int32.not_le] at *; omega))] at g; exact g)
                   | (rw [sp_bestS_F (by simp only [sp_mayS, sp_under, Bool.and_eq_true, decide_eq_true_eq, and_true, ne_eq, Option.some.injEq, reduceCtorEq, not_false_eq_true]; (simp only [Int32.lt_iff_toInt_lt, Int32.le_iff_toInt_le, ← Int32.toInt_inj, Int32.reduceToInt, Int32.not_lt, Int32.not_le] at *; omega))] at g; exact g))
            · skip
              refine am_Rn.go (t := am_t38) rfl 2 rfl ⟨trivial, trivial, trivial⟩ ?_
              refine am_Rn.brT (show (-1 : Int32) < 0 by decide) ?_
              refine am_Rn.go (t := am_t38) rfl 4 rfl ⟨trivial, trivial, trivial, trivial, trivial⟩ ?_
              first
              | (have g := ih (i + 1) (some (.int 0)) (by omega)
                 rw [am_fold_succ, hF, ← am_inc] at g
                 (try simp only [e1, e2, am_on, Int32.reduceToNatClampNeg] at *)
                 first
                   | (exfalso; first | contradiction | (simp only [Int32.lt_iff_toInt_lt, Int32.le_iff_toInt_le, ← Int32.toInt_inj, Int32.reduceToInt, Int32.not_lt, Int32.not_le] at *; omega))
                   | (rw [sp_bestS_T (by simp only [sp_mayS, sp_under, Bool.and_eq_true, decide_eq_true_eq, and_true, ne_eq, Option.some.injEq, reduceCtorEq, not_false_eq_true]; (simp only [Int32.lt_iff_toInt_lt, Int32.le_iff_toInt_le, ← Int32.toInt_inj, Int32.reduceToInt, Int32.not_lt, Int32.not_le] at *; omega))] at g; exact g)
                   | (rw [sp_bestS_F (by simp only [sp_mayS, sp_under, Bool.and_eq_true, decide_eq_true_eq, and_true, ne_eq, Option.some.injEq, reduceCtorEq, not_false_eq_true]; (simp only [Int32.lt_iff_toInt_lt, Int32.le_iff_toInt_le, ← Int32.toInt_inj, Int32.reduceToInt, Int32.not_lt, Int32.not_le] at *; omega))] at g; exact g))
              | (have g := ih (i + 1) (some (.int 1)) (by omega)
                 rw [am_fold_succ, hF, ← am_inc] at g
                 (try simp only [e1, e2, am_on, Int32.reduceToNatClampNeg] at *)
                 first
                   | (exfalso; first | contradiction | (simp only [Int32.lt_iff_toInt_lt, Int32.le_iff_toInt_le, ← Int32.toInt_inj, Int32.reduceToInt, Int32.not_lt, Int32.not_le] at *; omega))
                   | (rw [sp_bestS_T (by simp only [sp_mayS, sp_under, Bool.and_eq_true, decide_eq_true_eq, and_true, ne_eq, Option.some.injEq, reduceCtorEq, not_false_eq_true]; (simp only [Int32.lt_iff_toInt_lt, Int32.le_iff_toInt_le, ← Int32.toInt_inj, Int32.reduceToInt, Int32.not_lt, Int32.not_le] at *; omega))] at g; exact g)
                   | (rw [sp_bestS_F (by simp only [sp_mayS, sp_under, Bool.and_eq_true, decide_eq_true_eq, and_true, ne_eq, Option.some.injEq, reduceCtorEq, not_false_eq_true]; (simp only [Int32.lt_iff_toInt_lt, Int32.le_iff_toInt_le, ← Int32.toInt_inj, Int32.reduceToInt, Int32.not_lt, Int32.not_le] at *; omega))] at g; exact g))
        · skip
          refine am_Rn.go (t := am_t38) rfl 11 rfl ⟨trivial, trivial, trivial, (by first | exact am_inb_lit rfl | exact am_inb_of (by omega) (by omega)), trivial, trivial, trivial, trivial, (by first | exact am_inb_lit rfl | exact am_inb_of (by omega) (by omega)), trivial, trivial, trivial⟩ ?_
          refine am_Rn.br (fun h6 => ?_) (fun h6 => ?_)
          · skip
            refine am_Rn.go (t := am_t38) rfl 8 rfl ⟨trivial, trivial, trivial, trivial, trivial, (by first | exact am_inb_lit rfl | exact am_inb_of (by omega) (by omega)), trivial, trivial, trivial⟩ ?_
            refine am_Rn.br (fun h7 => ?_) (fun h7 => ?_)
            · skip
              refine am_Rn.go (t := am_t38) rfl 2 rfl ⟨trivial, trivial, trivial⟩ ?_
              first
              | (have g := ih (i + 1) (some (.int 0)) (by omega)
                 rw [am_fold_succ, hF, ← am_inc] at g
                 (try simp only [e1, e2, am_on, Int32.reduceToNatClampNeg] at *)
                 first
                   | (exfalso; first | contradiction | (simp only [Int32.lt_iff_toInt_lt, Int32.le_iff_toInt_le, ← Int32.toInt_inj, Int32.reduceToInt, Int32.not_lt, Int32.not_le] at *; omega))
                   | (rw [sp_bestS_T (by simp only [sp_mayS, sp_under, Bool.and_eq_true, decide_eq_true_eq, and_true, ne_eq, Option.some.injEq, reduceCtorEq, not_false_eq_true]; (simp only [Int32.lt_iff_toInt_lt, Int32.le_iff_toInt_le, ← Int32.toInt_inj, Int32.reduceToInt, Int32.not_lt, Int32.not_le] at *; omega))] at g; exact g)
                   | (rw [sp_bestS_F (by simp only [sp_mayS, sp_under, Bool.and_eq_true, decide_eq_true_eq, and_true, ne_eq, Option.some.injEq, reduceCtorEq, not_false_eq_true]; (simp only [Int32.lt_iff_toInt_lt, Int32.le_iff_toInt_le, ← Int32.toInt_inj, Int32.reduceToInt, Int32.not_lt, Int32.not_le] at *; omega))] at g; exact g))
              | (have g := ih (i + 1) (some (.int 1)) (by omega)
                 rw [am_fold_succ, hF, ← am_inc] at g
                 (try simp only [e1, e2, am_on, Int32.reduceToNatClampNeg] at *)
                 first
                   | (exfalso; first | contradiction | (simp only [Int32.lt_iff_toInt_lt, Int32.le_iff_toInt_le, ← Int32.toInt_inj, Int32.reduceToInt, Int32.not_lt, Int32.not_le] at *; omega))
                   | (rw [sp_bestS_T (by simp only [sp_mayS, sp_under, Bool.and_eq_true, decide_eq_true_eq, and_true, ne_eq, Option.some.injEq, reduceCtorEq, not_false_eq_true]; (simp only [Int32.lt_iff_toInt_lt, Int32.le_iff_toInt_le, ← Int32.toInt_inj, Int32.reduceToInt, Int32.not_lt, Int32.not_le] at *; omega))] at g; exact g)
                   | (rw [sp_bestS_F (by simp only [sp_mayS, sp_under, Bool.and_eq_true, decide_eq_true_eq, and_true, ne_eq, Option.some.injEq, reduceCtorEq, not_false_eq_true]; (simp only [Int32.lt_iff_toInt_lt, Int32.le_iff_toInt_le, ← Int32.toInt_inj, Int32.reduceToInt, Int32.not_lt, Int32.not_le] at *; omega))] at g; exact g))
            · skip
              refine am_Rn.go (t := am_t38) rfl 2 rfl ⟨trivial, trivial, trivial⟩ ?_
              refine am_Rn.br (fun h8 => ?_) (fun h8 => ?_)
              · skip
                refine am_Rn.go (t := am_t38) rfl 2 rfl ⟨trivial, trivial, trivial⟩ ?_
                first
                | (have g := ih (i + 1) (some (.int 0)) (by omega)
                   rw [am_fold_succ, hF, ← am_inc] at g
                   (try simp only [e1, e2, am_on, Int32.reduceToNatClampNeg] at *)
                   first
                     | (exfalso; first | contradiction | (simp only [Int32.lt_iff_toInt_lt, Int32.le_iff_toInt_le, ← Int32.toInt_inj, Int32.reduceToInt, Int32.not_lt, Int32.not_le] at *; omega))
                     | (rw [sp_bestS_T (by simp only [sp_mayS, sp_under, Bool.and_eq_true, decide_eq_true_eq, and_true, ne_eq, Option.some.injEq, reduceCtorEq, not_false_eq_true]; (simp only [Int32.lt_iff_toInt_lt, Int32.le_iff_toInt_le, ← Int32.toInt_inj, Int32.reduceToInt, Int32.not_lt, Int32.not_le] at *; omega))] at g; exact g)
                     | (rw [sp_bestS_F (by simp only [sp_mayS, sp_under, Bool.and_eq_true, decide_eq_true_eq, and_true, ne_eq, Option.some.injEq, reduceCtorEq, not_false_eq_true]; (simp only [Int32.lt_iff_toInt_lt, Int32.le_iff_toInt_le, ← Int32.toInt_inj, Int32.reduceToInt, Int32.not_lt, Int32.not_le] at *; omega))] at g; exact g))
                | (have g := ih (i + 1) (some (.int 1)) (by omega)
                   rw [am_fold_succ, hF, ← am_inc] at g
                   (try simp only [e1, e2, am_on, Int32.reduceToNatClampNeg] at *)
                   first
                     | (exfalso; first | contradiction | (simp only [Int32.lt_iff_toInt_lt, Int32.le_iff_toInt_le, ← Int32.toInt_inj, Int32.reduceToInt, Int32.not_lt, Int32.not_le] at *; omega))
                     | (rw [sp_bestS_T (by simp only [sp_mayS, sp_under, Bool.and_eq_true, decide_eq_true_eq, and_true, ne_eq, Option.some.injEq, reduceCtorEq, not_false_eq_true]; (simp only [Int32.lt_iff_toInt_lt, Int32.le_iff_toInt_le, ← Int32.toInt_inj, Int32.reduceToInt, Int32.not_lt, Int32.not_le] at *; omega))] at g; exact g)
                     | (rw [sp_bestS_F (by simp only [sp_mayS, sp_under, Bool.and_eq_true, decide_eq_true_eq, and_true, ne_eq, Option.some.injEq, reduceCtorEq, not_false_eq_true]; (simp only [Int32.lt_iff_toInt_lt, Int32.le_iff_toInt_le, ← Int32.toInt_inj, Int32.reduceToInt, Int32.not_lt, Int32.not_le] at *; omega))] at g; exact g))
              · skip
                refine am_Rn.go (t := am_t38) rfl 2 rfl ⟨trivial, trivial, trivial⟩ ?_
                refine am_Rn.brT (show (-1 : Int32) < 0 by decide) ?_
                refine am_Rn.go (t := am_t38) rfl 4 rfl ⟨trivial, trivial, trivial, trivial, trivial⟩ ?_
                first
                | (have g := ih (i + 1) (some (.int 0)) (by omega)
                   rw [am_fold_succ, hF, ← am_inc] at g
                   (try simp only [e1, e2, am_on, Int32.reduceToNatClampNeg] at *)
                   first
                     | (exfalso; first | contradiction | (simp only [Int32.lt_iff_toInt_lt, Int32.le_iff_toInt_le, ← Int32.toInt_inj, Int32.reduceToInt, Int32.not_lt, Int32.not_le] at *; omega))
                     | (rw [sp_bestS_T (by simp only [sp_mayS, sp_under, Bool.and_eq_true, decide_eq_true_eq, and_true, ne_eq, Option.some.injEq, reduceCtorEq, not_false_eq_true]; (simp only [Int32.lt_iff_toInt_lt, Int32.le_iff_toInt_le, ← Int32.toInt_inj, Int32.reduceToInt, Int32.not_lt, Int32.not_le] at *; omega))] at g; exact g)
                     | (rw [sp_bestS_F (by simp only [sp_mayS, sp_under, Bool.and_eq_true, decide_eq_true_eq, and_true, ne_eq, Option.some.injEq, reduceCtorEq, not_false_eq_true]; (simp only [Int32.lt_iff_toInt_lt, Int32.le_iff_toInt_le, ← Int32.toInt_inj, Int32.reduceToInt, Int32.not_lt, Int32.not_le] at *; omega))] at g; exact g))
                | (have g := ih (i + 1) (some (.int 1)) (by omega)
                   rw [am_fold_succ, hF, ← am_inc] at g
                   (try simp only [e1, e2, am_on, Int32.reduceToNatClampNeg] at *)
                   first
                     | (exfalso; first | contradiction | (simp only [Int32.lt_iff_toInt_lt, Int32.le_iff_toInt_le, ← Int32.toInt_inj, Int32.reduceToInt, Int32.not_lt, Int32.not_le] at *; omega))
                     | (rw [sp_bestS_T (by simp only [sp_mayS, sp_under, Bool.and_eq_true, decide_eq_true_eq, and_true, ne_eq, Option.some.injEq, reduceCtorEq, not_false_eq_true]; (simp only [Int32.lt_iff_toInt_lt, Int32.le_iff_toInt_le, ← Int32.toInt_inj, Int32.reduceToInt, Int32.not_lt, Int32.not_le] at *; omega))] at g; exact g)
                     | (rw [sp_bestS_F (by simp only [sp_mayS, sp_under, Bool.and_eq_true, decide_eq_true_eq, and_true, ne_eq, Option.some.injEq, reduceCtorEq, not_false_eq_true]; (simp only [Int32.lt_iff_toInt_lt, Int32.le_iff_toInt_le, ← Int32.toInt_inj, Int32.reduceToInt, Int32.not_lt, Int32.not_le] at *; omega))] at g; exact g))
          · skip
            refine am_Rn.go (t := am_t38) rfl 9 rfl ⟨trivial, trivial, trivial, trivial, trivial, trivial, (by first | exact am_inb_lit rfl | exact am_inb_of (by omega) (by omega)), trivial, trivial, trivial⟩ ?_
            refine am_Rn.br (fun h10 => ?_) (fun h10 => ?_)
            · skip
              refine am_Rn.go (t := am_t38) rfl 2 rfl ⟨trivial, trivial, trivial⟩ ?_
              first
              | (have g := ih (i + 1) (some (.int 0)) (by omega)
                 rw [am_fold_succ, hF, ← am_inc] at g
                 (try simp only [e1, e2, am_on, Int32.reduceToNatClampNeg] at *)
                 first
                   | (exfalso; first | contradiction | (simp only [Int32.lt_iff_toInt_lt, Int32.le_iff_toInt_le, ← Int32.toInt_inj, Int32.reduceToInt, Int32.not_lt, Int32.not_le] at *; omega))
                   | (rw [sp_bestS_T (by simp only [sp_mayS, sp_under, Bool.and_eq_true, decide_eq_true_eq, and_true, ne_eq, Option.some.injEq, reduceCtorEq, not_false_eq_true]; (simp only [Int32.lt_iff_toInt_lt, Int32.le_iff_toInt_le, ← Int32.toInt_inj, Int32.reduceToInt, Int32.not_lt, Int32.not_le] at *; omega))] at g; exact g)
                   | (rw [sp_bestS_F (by simp only [sp_mayS, sp_under, Bool.and_eq_true, decide_eq_true_eq, and_true, ne_eq, Option.some.injEq, reduceCtorEq, not_false_eq_true]; (simp only [Int32.lt_iff_toInt_lt, Int32.le_iff_toInt_le, ← Int32.toInt_inj, Int32.reduceToInt, Int32.not_lt, Int32.not_le] at *; omega))] at g; exact g))
              | (have g := ih (i + 1) (some (.int 1)) (by omega)
                 rw [am_fold_succ, hF, ← am_inc] at g
                 (try simp only [e1, e2, am_on, Int32.reduceToNatClampNeg] at *)
                 first
                   | (exfalso; first | contradiction | (simp only [Int32.lt_iff_toInt_lt, Int32.le_iff_toInt_le, ← Int32.toInt_inj, Int32.reduceToInt, Int32.not_lt, Int32.not_le] at *; omega))
                   | (rw [sp_bestS_T (by simp only [sp_mayS, sp_under, Bool.and_eq_true, decide_eq_true_eq, and_true, ne_eq, Option.some.injEq, reduceCtorEq, not_false_eq_true]; (simp only [Int32.lt_iff_toInt_lt, Int32.le_iff_toInt_le, ← Int32.toInt_inj, Int32.reduceToInt, Int32.not_lt, Int32.not_le] at *; omega))] at g; exact g)
                   | (rw [sp_bestS_F (by simp only [sp_mayS, sp_under, Bool.and_eq_true, decide_eq_true_eq, and_true, ne_eq, Option.some.injEq, reduceCtorEq, not_false_eq_true]; (simp only [Int32.lt_iff_toInt_lt, Int32.le_iff_toInt_le, ← Int32.toInt_inj, Int32.reduceToInt, Int32.not_lt, Int32.not_le] at *; omega))] at g; exact g))
            · skip
              refine am_Rn.go (t := am_t38) rfl 2 rfl ⟨trivial, trivial, trivial⟩ ?_
              refine am_Rn.br (fun h11 => ?_) (fun h11 => ?_)
              · skip
                refine am_Rn.go (t := am_t38) rfl 2 rfl ⟨trivial, trivial, trivial⟩ ?_
                first
                | (have g := ih (i + 1) (some (.int 0)) (by omega)
                   rw [am_fold_succ, hF, ← am_inc] at g
                   (try simp only [e1, e2, am_on, Int32.reduceToNatClampNeg] at *)
                   first
                     | (exfalso; first | contradiction | (simp only [Int32.lt_iff_toInt_lt, Int32.le_iff_toInt_le, ← Int32.toInt_inj, Int32.reduceToInt, Int32.not_lt, Int32.not_le] at *; omega))
                     | (rw [sp_bestS_T (by simp only [sp_mayS, sp_under, Bool.and_eq_true, decide_eq_true_eq, and_true, ne_eq, Option.some.injEq, reduceCtorEq, not_false_eq_true]; (simp only [Int32.lt_iff_toInt_lt, Int32.le_iff_toInt_le, ← Int32.toInt_inj, Int32.reduceToInt, Int32.not_lt, Int32.not_le] at *; omega))] at g; exact g)
                     | (rw [sp_bestS_F (by simp only [sp_mayS, sp_under, Bool.and_eq_true, decide_eq_true_eq, and_true, ne_eq, Option.some.injEq, reduceCtorEq, not_false_eq_true]; (simp only [Int32.lt_iff_toInt_lt, Int32.le_iff_toInt_le, ← Int32.toInt_inj, Int32.reduceToInt, Int32.not_lt, Int32.not_le] at *; omega))] at g; exact g))
                | (have g := ih (i + 1) (some (.int 1)) (by omega)
                   rw [am_fold_succ, hF, ← am_inc] at g
                   (try simp only [e1, e2, am_on, Int32.reduceToNatClampNeg] at *)
                   first
                     | (exfalso; first | contradiction | (simp only [Int32.lt_iff_toInt_lt, Int32.le_iff_toInt_le, ← Int32.toInt_inj, Int32.reduceToInt, Int32.not_lt, Int32.not_le] at *; omega))
                     | (rw [sp_bestS_T (by simp only [sp_mayS, sp_under, Bool.and_eq_true, decide_eq_true_eq, and_true, ne_eq, Option.some.injEq, reduceCtorEq, not_false_eq_true]; (simp only [Int32.lt_iff_toInt_lt, Int32.le_iff_toInt_le, ← Int32.toInt_inj, Int32.reduceToInt, Int32.not_lt, Int32.not_le] at *; omega))] at g; exact g)
                     | (rw [sp_bestS_F (by simp only [sp_mayS, sp_under, Bool.and_eq_true, decide_eq_true_eq, and_true, ne_eq, Option.some.injEq, reduceCtorEq, not_false_eq_true]; (simp only [Int32.lt_iff_toInt_lt, Int32.le_iff_toInt_le, ← Int32.toInt_inj, Int32.reduceToInt, Int32.not_lt, Int32.not_le] at *; omega))] at g; exact g))
              · skip
                refine am_Rn.go (t := am_t38) rfl 2 rfl ⟨trivial, trivial, trivial⟩ ?_
                refine am_Rn.brT (show (-1 : Int32) < 0 by decide) ?_
                refine am_Rn.go (t := am_t38) rfl 4 rfl ⟨trivial, trivial, trivial, trivial, trivial⟩ ?_
                first
                | (have g := ih (i + 1) (some (.int 0)) (by omega)
                   rw [am_fold_succ, hF, ← am_inc] at g
                   (try simp only [e1, e2, am_on, Int32.reduceToNatClampNeg] at *)
                   first
                     | (exfalso; first | contradiction | (simp only [Int32.lt_iff_toInt_lt, Int32.le_iff_toInt_le, ← Int32.toInt_inj, Int32.reduceToInt, Int32.not_lt, Int32.not_le] at *; omega))
                     | (rw [sp_bestS_T (by simp only [sp_mayS, sp_under, Bool.and_eq_true, decide_eq_true_eq, and_true, ne_eq, Option.some.injEq, reduceCtorEq, not_false_eq_true]; (simp only [Int32.lt_iff_toInt_lt, Int32.le_iff_toInt_le, ← Int32.toInt_inj, Int32.reduceToInt, Int32.not_lt, Int32.not_le] at *; omega))] at g; exact g)
                     | (rw [sp_bestS_F (by simp only [sp_mayS, sp_under, Bool.and_eq_true, decide_eq_true_eq, and_true, ne_eq, Option.some.injEq, reduceCtorEq, not_false_eq_true]; (simp only [Int32.lt_iff_toInt_lt, Int32.le_iff_toInt_le, ← Int32.toInt_inj, Int32.reduceToInt, Int32.not_lt, Int32.not_le] at *; omega))] at g; exact g))
                | (have g := ih (i + 1) (some (.int 1)) (by omega)
                   rw [am_fold_succ, hF, ← am_inc] at g
                   (try simp only [e1, e2, am_on, Int32.reduceToNatClampNeg] at *)
                   first
                     | (exfalso; first | contradiction | (simp only [Int32.lt_iff_toInt_lt, Int32.le_iff_toInt_le, ← Int32.toInt_inj, Int32.reduceToInt, Int32.not_lt, Int32.not_le] at *; omega))
                     | (rw [sp_bestS_T (by simp only [sp_mayS, sp_under, Bool.and_eq_true, decide_eq_true_eq, and_true, ne_eq, Option.some.injEq, reduceCtorEq, not_false_eq_true]; (simp only [Int32.lt_iff_toInt_lt, Int32.le_iff_toInt_le, ← Int32.toInt_inj, Int32.reduceToInt, Int32.not_lt, Int32.not_le] at *; omega))] at g; exact g)
                     | (rw [sp_bestS_F (by simp only [sp_mayS, sp_under, Bool.and_eq_true, decide_eq_true_eq, and_true, ne_eq, Option.some.injEq, reduceCtorEq, not_false_eq_true]; (simp only [Int32.lt_iff_toInt_lt, Int32.le_iff_toInt_le, ← Int32.toInt_inj, Int32.reduceToInt, Int32.not_lt, Int32.not_le] at *; omega))] at g; exact g))
      · skip
        have e3 := am_ofN i (by omega)
        have hq1 := hq q rfl
        have e2 : (Int32.ofNat q).toNatClampNeg = q := am_tn q (by omega)
        have hq2 : ¬ Int32.ofNat q < 0 := fun h => absurd ((am_lt (i := q) (j := 0) (by omega) (by omega)).mp h) (by omega)
        refine am_Rn.go (t := am_t38) rfl 5 rfl ⟨trivial, trivial, trivial, trivial, trivial, trivial⟩ ?_
        refine am_Rn.brF (by first | exact fun q => absurd ((am_le (by omega) (by omega)).mp q) (by omega) | exact fun q => absurd ((am_le (i := 9) (by omega) (by omega)).mp q) (by omega) | exact fun q => absurd ((am_le (i := 10) (by omega) (by omega)).mp q) (by omega) | exact (am_lt (by omega) (by omega)).mpr hiP) ?_
        refine am_Rn.go (t := am_t38) rfl 3 rfl ⟨trivial, trivial, trivial, trivial⟩ ?_
        refine am_Rn.br (fun h2 => ?_) (fun h2 => ?_)
        · skip
          refine am_Rn.go (t := am_t38) rfl 8 rfl ⟨trivial, trivial, trivial, trivial, trivial, (by first | exact am_inb_lit rfl | exact am_inb_of (by omega) (by omega)), trivial, trivial, trivial⟩ ?_
          refine am_Rn.br (fun h3 => ?_) (fun h3 => ?_)
          · skip
            refine am_Rn.go (t := am_t38) rfl 2 rfl ⟨trivial, trivial, trivial⟩ ?_
            first
            | (have g := ih (i + 1) (some (.int 0)) (by omega)
               rw [am_fold_succ, hF, ← am_inc] at g
               (try simp only [e1, e2, am_on, Int32.reduceToNatClampNeg] at *)
               first
                 | (exfalso; first | contradiction | (simp only [Int32.lt_iff_toInt_lt, Int32.le_iff_toInt_le, ← Int32.toInt_inj, Int32.reduceToInt, Int32.not_lt, Int32.not_le] at *; omega))
                 | (rw [sp_bestS_T (by simp only [sp_mayS, sp_under, Bool.and_eq_true, decide_eq_true_eq, and_true, ne_eq, Option.some.injEq, reduceCtorEq, not_false_eq_true]; (simp only [Int32.lt_iff_toInt_lt, Int32.le_iff_toInt_le, ← Int32.toInt_inj, Int32.reduceToInt, Int32.not_lt, Int32.not_le] at *; omega))] at g; exact g)
                 | (rw [sp_bestS_F (by simp only [sp_mayS, sp_under, Bool.and_eq_true, decide_eq_true_eq, and_true, ne_eq, Option.some.injEq, reduceCtorEq, not_false_eq_true]; (simp only [Int32.lt_iff_toInt_lt, Int32.le_iff_toInt_le, ← Int32.toInt_inj, Int32.reduceToInt, Int32.not_lt, Int32.not_le] at *; omega))] at g; exact g))
            | (have g := ih (i + 1) (some (.int 1)) (by omega)
               rw [am_fold_succ, hF, ← am_inc] at g
               (try simp only [e1, e2, am_on, Int32.reduceToNatClampNeg] at *)
               first
                 | (exfalso; first | contradiction | (simp only [Int32.lt_iff_toInt_lt, Int32.le_iff_toInt_le, ← Int32.toInt_inj, Int32.reduceToInt, Int32.not_lt, Int32.not_le] at *; omega))
                 | (rw [sp_bestS_T (by simp only [sp_mayS, sp_under, Bool.and_eq_true, decide_eq_true_eq, and_true, ne_eq, Option.some.injEq, reduceCtorEq, not_false_eq_true]; (simp only [Int32.lt_iff_toInt_lt, Int32.le_iff_toInt_le, ← Int32.toInt_inj, Int32.reduceToInt, Int32.not_lt, Int32.not_le] at *; omega))] at g; exact g)
                 | (rw [sp_bestS_F (by simp only [sp_mayS, sp_under, Bool.and_eq_true, decide_eq_true_eq, and_true, ne_eq, Option.some.injEq, reduceCtorEq, not_false_eq_true]; (simp only [Int32.lt_iff_toInt_lt, Int32.le_iff_toInt_le, ← Int32.toInt_inj, Int32.reduceToInt, Int32.not_lt, Int32.not_le] at *; omega))] at g; exact g))
          · skip
            refine am_Rn.go (t := am_t38) rfl 2 rfl ⟨trivial, trivial, trivial⟩ ?_
            refine am_Rn.br (fun h4 => ?_) (fun h4 => ?_)
            · skip
              refine am_Rn.go (t := am_t38) rfl 2 rfl ⟨trivial, trivial, trivial⟩ ?_
              first
              | (have g := ih (i + 1) (some (.int 0)) (by omega)
                 rw [am_fold_succ, hF, ← am_inc] at g
                 (try simp only [e1, e2, am_on, Int32.reduceToNatClampNeg] at *)
                 first
                   | (exfalso; first | contradiction | (simp only [Int32.lt_iff_toInt_lt, Int32.le_iff_toInt_le, ← Int32.toInt_inj, Int32.reduceToInt, Int32.not_lt, Int32.not_le] at *; omega))
                   | (rw [sp_bestS_T (by simp only [sp_mayS, sp_under, Bool.and_eq_true, decide_eq_true_eq, and_true, ne_eq, Option.some.injEq, reduceCtorEq, not_false_eq_true]; (simp only [Int32.lt_iff_toInt_lt, Int32.le_iff_toInt_le, ← Int32.toInt_inj, Int32.reduceToInt, Int32.not_lt, Int32.not_le] at *; omega))] at g; exact g)
                   | (rw [sp_bestS_F (by simp only [sp_mayS, sp_under, Bool.and_eq_true, decide_eq_true_eq, and_true, ne_eq, Option.some.injEq, reduceCtorEq, not_false_eq_true]; (simp only [Int32.lt_iff_toInt_lt, Int32.le_iff_toInt_le, ← Int32.toInt_inj, Int32.reduceToInt, Int32.not_lt, Int32.not_le] at *; omega))] at g; exact g))
              | (have g := ih (i + 1) (some (.int 1)) (by omega)
                 rw [am_fold_succ, hF, ← am_inc] at g
                 (try simp only [e1, e2, am_on, Int32.reduceToNatClampNeg] at *)
                 first
                   | (exfalso; first | contradiction | (simp only [Int32.lt_iff_toInt_lt, Int32.le_iff_toInt_le, ← Int32.toInt_inj, Int32.reduceToInt, Int32.not_lt, Int32.not_le] at *; omega))
                   | (rw [sp_bestS_T (by simp only [sp_mayS, sp_under, Bool.and_eq_true, decide_eq_true_eq, and_true, ne_eq, Option.some.injEq, reduceCtorEq, not_false_eq_true]; (simp only [Int32.lt_iff_toInt_lt, Int32.le_iff_toInt_le, ← Int32.toInt_inj, Int32.reduceToInt, Int32.not_lt, Int32.not_le] at *; omega))] at g; exact g)
                   | (rw [sp_bestS_F (by simp only [sp_mayS, sp_under, Bool.and_eq_true, decide_eq_true_eq, and_true, ne_eq, Option.some.injEq, reduceCtorEq, not_false_eq_true]; (simp only [Int32.lt_iff_toInt_lt, Int32.le_iff_toInt_le, ← Int32.toInt_inj, Int32.reduceToInt, Int32.not_lt, Int32.not_le] at *; omega))] at g; exact g))
            · skip
              refine am_Rn.go (t := am_t38) rfl 2 rfl ⟨trivial, trivial, trivial⟩ ?_
              refine am_Rn.brF hq2 ?_
              refine am_Rn.go (t := am_t38) rfl 9 rfl ⟨trivial, trivial, trivial, (by first | exact am_inb_lit rfl | exact am_inb_of (by omega) (by omega)), trivial, trivial, trivial, (by first | exact am_inb_lit rfl | exact am_inb_of (by omega) (by omega)), trivial, trivial⟩ ?_
              refine am_Rn.br (fun h6 => ?_) (fun h6 => ?_)
              · skip
                refine am_Rn.go (t := am_t38) rfl 2 rfl ⟨trivial, trivial, trivial⟩ ?_
                first
                | (have g := ih (i + 1) (some (.int 0)) (by omega)
                   rw [am_fold_succ, hF, ← am_inc] at g
                   (try simp only [e1, e2, am_on, Int32.reduceToNatClampNeg] at *)
                   first
                     | (exfalso; first | contradiction | (simp only [Int32.lt_iff_toInt_lt, Int32.le_iff_toInt_le, ← Int32.toInt_inj, Int32.reduceToInt, Int32.not_lt, Int32.not_le] at *; omega))
                     | (rw [sp_bestS_T (by simp only [sp_mayS, sp_under, Bool.and_eq_true, decide_eq_true_eq, and_true, ne_eq, Option.some.injEq, reduceCtorEq, not_false_eq_true]; (simp only [Int32.lt_iff_toInt_lt, Int32.le_iff_toInt_le, ← Int32.toInt_inj, Int32.reduceToInt, Int32.not_lt, Int32.not_le] at *; omega))] at g; exact g)
                     | (rw [sp_bestS_F (by simp only [sp_mayS, sp_under, Bool.and_eq_true, decide_eq_true_eq, and_true, ne_eq, Option.some.injEq, reduceCtorEq, not_false_eq_true]; (simp only [Int32.lt_iff_toInt_lt, Int32.le_iff_toInt_le, ← Int32.toInt_inj, Int32.reduceToInt, Int32.not_lt, Int32.not_le] at *; omega))] at g; exact g))
                | (have g := ih (i + 1) (some (.int 1)) (by omega)
                   rw [am_fold_succ, hF, ← am_inc] at g
                   (try simp only [e1, e2, am_on, Int32.reduceToNatClampNeg] at *)
                   first
                     | (exfalso; first | contradiction | (simp only [Int32.lt_iff_toInt_lt, Int32.le_iff_toInt_le, ← Int32.toInt_inj, Int32.reduceToInt, Int32.not_lt, Int32.not_le] at *; omega))
                     | (rw [sp_bestS_T (by simp only [sp_mayS, sp_under, Bool.and_eq_true, decide_eq_true_eq, and_true, ne_eq, Option.some.injEq, reduceCtorEq, not_false_eq_true]; (simp only [Int32.lt_iff_toInt_lt, Int32.le_iff_toInt_le, ← Int32.toInt_inj, Int32.reduceToInt, Int32.not_lt, Int32.not_le] at *; omega))] at g; exact g)
                     | (rw [sp_bestS_F (by simp only [sp_mayS, sp_under, Bool.and_eq_true, decide_eq_true_eq, and_true, ne_eq, Option.some.injEq, reduceCtorEq, not_false_eq_true]; (simp only [Int32.lt_iff_toInt_lt, Int32.le_iff_toInt_le, ← Int32.toInt_inj, Int32.reduceToInt, Int32.not_lt, Int32.not_le] at *; omega))] at g; exact g))
              · skip
                refine am_Rn.go (t := am_t38) rfl 4 rfl ⟨trivial, trivial, trivial, trivial, trivial⟩ ?_
                first
                | (have g := ih (i + 1) (some (.int 0)) (by omega)
                   rw [am_fold_succ, hF, ← am_inc] at g
                   (try simp only [e1, e2, am_on, Int32.reduceToNatClampNeg] at *)
                   first
                     | (exfalso; first | contradiction | (simp only [Int32.lt_iff_toInt_lt, Int32.le_iff_toInt_le, ← Int32.toInt_inj, Int32.reduceToInt, Int32.not_lt, Int32.not_le] at *; omega))
                     | (rw [sp_bestS_T (by simp only [sp_mayS, sp_under, Bool.and_eq_true, decide_eq_true_eq, and_true, ne_eq, Option.some.injEq, reduceCtorEq, not_false_eq_true]; (simp only [Int32.lt_iff_toInt_lt, Int32.le_iff_toInt_le, ← Int32.toInt_inj, Int32.reduceToInt, Int32.not_lt, Int32.not_le] at *; omega))] at g; exact g)
                     | (rw [sp_bestS_F (by simp only [sp_mayS, sp_under, Bool.and_eq_true, decide_eq_true_eq, and_true, ne_eq, Option.some.injEq, reduceCtorEq, not_false_eq_true]; (simp only [Int32.lt_iff_toInt_lt, Int32.le_iff_toInt_le, ← Int32.toInt_inj, Int32.reduceToInt, Int32.not_lt, Int32.not_le] at *; omega))] at g; exact g))
                | (have g := ih (i + 1) (some (.int 1)) (by omega)
                   rw [am_fold_succ, hF, ← am_inc] at g
                   (try simp only [e1, e2, am_on, Int32.reduceToNatClampNeg] at *)
                   first
                     | (exfalso; first | contradiction | (simp only [Int32.lt_iff_toInt_lt, Int32.le_iff_toInt_le, ← Int32.toInt_inj, Int32.reduceToInt, Int32.not_lt, Int32.not_le] at *; omega))
                     | (rw [sp_bestS_T (by simp only [sp_mayS, sp_under, Bool.and_eq_true, decide_eq_true_eq, and_true, ne_eq, Option.some.injEq, reduceCtorEq, not_false_eq_true]; (simp only [Int32.lt_iff_toInt_lt, Int32.le_iff_toInt_le, ← Int32.toInt_inj, Int32.reduceToInt, Int32.not_lt, Int32.not_le] at *; omega))] at g; exact g)
                     | (rw [sp_bestS_F (by simp only [sp_mayS, sp_under, Bool.and_eq_true, decide_eq_true_eq, and_true, ne_eq, Option.some.injEq, reduceCtorEq, not_false_eq_true]; (simp only [Int32.lt_iff_toInt_lt, Int32.le_iff_toInt_le, ← Int32.toInt_inj, Int32.reduceToInt, Int32.not_lt, Int32.not_le] at *; omega))] at g; exact g))
        · skip
          refine am_Rn.go (t := am_t38) rfl 11 rfl ⟨trivial, trivial, trivial, (by first | exact am_inb_lit rfl | exact am_inb_of (by omega) (by omega)), trivial, trivial, trivial, trivial, (by first | exact am_inb_lit rfl | exact am_inb_of (by omega) (by omega)), trivial, trivial, trivial⟩ ?_
          refine am_Rn.br (fun h7 => ?_) (fun h7 => ?_)
          · skip
            refine am_Rn.go (t := am_t38) rfl 8 rfl ⟨trivial, trivial, trivial, trivial, trivial, (by first | exact am_inb_lit rfl | exact am_inb_of (by omega) (by omega)), trivial, trivial, trivial⟩ ?_
            refine am_Rn.br (fun h8 => ?_) (fun h8 => ?_)
            · skip
              refine am_Rn.go (t := am_t38) rfl 2 rfl ⟨trivial, trivial, trivial⟩ ?_
              first
              | (have g := ih (i + 1) (some (.int 0)) (by omega)
                 rw [am_fold_succ, hF, ← am_inc] at g
                 (try simp only [e1, e2, am_on, Int32.reduceToNatClampNeg] at *)
                 first
                   | (exfalso; first | contradiction | (simp only [Int32.lt_iff_toInt_lt, Int32.le_iff_toInt_le, ← Int32.toInt_inj, Int32.reduceToInt, Int32.not_lt, Int32.not_le] at *; omega))
                   | (rw [sp_bestS_T (by simp only [sp_mayS, sp_under, Bool.and_eq_true, decide_eq_true_eq, and_true, ne_eq, Option.some.injEq, reduceCtorEq, not_false_eq_true]; (simp only [Int32.lt_iff_toInt_lt, Int32.le_iff_toInt_le, ← Int32.toInt_inj, Int32.reduceToInt, Int32.not_lt, Int32.not_le] at *; omega))] at g; exact g)
                   | (rw [sp_bestS_F (by simp only [sp_mayS, sp_under, Bool.and_eq_true, decide_eq_true_eq, and_true, ne_eq, Option.some.injEq, reduceCtorEq, not_false_eq_true]; (simp only [Int32.lt_iff_toInt_lt, Int32.le_iff_toInt_le, ← Int32.toInt_inj, Int32.reduceToInt, Int32.not_lt, Int32.not_le] at *; omega))] at g; exact g))
              | (have g := ih (i + 1) (some (.int 1)) (by omega)
                 rw [am_fold_succ, hF, ← am_inc] at g
                 (try simp only [e1, e2, am_on, Int32.reduceToNatClampNeg] at *)
                 first
                   | (exfalso; first | contradiction | (simp only [Int32.lt_iff_toInt_lt, Int32.le_iff_toInt_le, ← Int32.toInt_inj, Int32.reduceToInt, Int32.not_lt, Int32.not_le] at *; omega))
                   | (rw [sp_bestS_T (by simp only [sp_mayS, sp_under, Bool.and_eq_true, decide_eq_true_eq, and_true, ne_eq, Option.some.injEq, reduceCtorEq, not_false_eq_true]; (simp only [Int32.lt_iff_toInt_lt, Int32.le_iff_toInt_le, ← Int32.toInt_inj, Int32.reduceToInt, Int32.not_lt, Int32.not_le] at *; omega))] at g; exact g)
                   | (rw [sp_bestS_F (by simp only [sp_mayS, sp_under, Bool.and_eq_true, decide_eq_true_eq, and_true, ne_eq, Option.some.injEq, reduceCtorEq, not_false_eq_true]; (simp only [Int32.lt_iff_toInt_lt, Int32.le_iff_toInt_le, ← Int32.toInt_inj, Int32.reduceToInt, Int32.not_lt, Int32.not_le] at *; omega))] at g; exact g))
            · skip
              refine am_Rn.go (t := am_t38) rfl 2 rfl ⟨trivial, trivial, trivial⟩ ?_
              refine am_Rn.br (fun h9 => ?_) (fun h9 => ?_)
              · skip
                refine am_Rn.go (t := am_t38) rfl 2 rfl ⟨trivial, trivial, trivial⟩ ?_
                first
                | (have g := ih (i + 1) (some (.int 0)) (by omega)
                   rw [am_fold_succ, hF, ← am_inc] at g
                   (try simp only [e1, e2, am_on, Int32.reduceToNatClampNeg] at *)
                   first
                     | (exfalso; first | contradiction | (simp only [Int32.lt_iff_toInt_lt, Int32.le_iff_toInt_le, ← Int32.toInt_inj, Int32.reduceToInt, Int32.not_lt, Int32.not_le] at *; omega))
                     | (rw [sp_bestS_T (by simp only [sp_mayS, sp_under, Bool.and_eq_true, decide_eq_true_eq, and_true, ne_eq, Option.some.injEq, reduceCtorEq, not_false_eq_true]; (simp only [Int32.lt_iff_toInt_lt, Int32.le_iff_toInt_le, ← Int32.toInt_inj, Int32.reduceToInt, Int32.not_lt, Int32.not_le] at *; omega))] at g; exact g)
                     | (rw [sp_bestS_F (by simp only [sp_mayS, sp_under, Bool.and_eq_true, decide_eq_true_eq, and_true, ne_eq, Option.some.injEq, reduceCtorEq, not_false_eq_true]; (simp only [Int32.lt_iff_toInt_lt, Int32.le_iff_toInt_le, ← Int32.toInt_inj, Int32.reduceToInt, Int32.not_lt, Int32.not_le] at *; omega))] at g; exact g))
                | (have g := ih (i + 1) (some (.int 1)) (by omega)
                   rw [am_fold_succ, hF, ← am_inc] at g
                   (try simp only [e1, e2, am_on, Int32.reduceToNatClampNeg] at *)
                   first
                     | (exfalso; first | contradiction | (simp only [Int32.lt_iff_toInt_lt, Int32.le_iff_toInt_le, ← Int32.toInt_inj, Int32.reduceToInt, Int32.not_lt, Int32.not_le] at *; omega))
                     | (rw [sp_bestS_T (by simp only [sp_mayS, sp_under, Bool.and_eq_true, decide_eq_true_eq, and_true, ne_eq, Option.some.injEq, reduceCtorEq, not_false_eq_true]; (simp only [Int32.lt_iff_toInt_lt, Int32.le_iff_toInt_le, ← Int32.toInt_inj, Int32.reduceToInt, Int32.not_lt, Int32.not_le] at *; omega))] at g; exact g)
                     | (rw [sp_bestS_F (by simp only [sp_mayS, sp_under, Bool.and_eq_true, decide_eq_true_eq, and_true, ne_eq, Option.some.injEq, reduceCtorEq, not_false_eq_true]; (simp only [Int32.lt_iff_toInt_lt, Int32.le_iff_toInt_le, ← Int32.toInt_inj, Int32.reduceToInt, Int32.not_lt, Int32.not_le] at *; omega))] at g; exact g))
              · skip
                refine am_Rn.go (t := am_t38) rfl 2 rfl ⟨trivial, trivial, trivial⟩ ?_
                refine am_Rn.brF hq2 ?_
                refine am_Rn.go (t := am_t38) rfl 9 rfl ⟨trivial, trivial, trivial, (by first | exact am_inb_lit rfl | exact am_inb_of (by omega) (by omega)), trivial, trivial, trivial, (by first | exact am_inb_lit rfl | exact am_inb_of (by omega) (by omega)), trivial, trivial⟩ ?_
                refine am_Rn.br (fun h11 => ?_) (fun h11 => ?_)
                · skip
                  refine am_Rn.go (t := am_t38) rfl 2 rfl ⟨trivial, trivial, trivial⟩ ?_
                  first
                  | (have g := ih (i + 1) (some (.int 0)) (by omega)
                     rw [am_fold_succ, hF, ← am_inc] at g
                     (try simp only [e1, e2, am_on, Int32.reduceToNatClampNeg] at *)
                     first
                       | (exfalso; first | contradiction | (simp only [Int32.lt_iff_toInt_lt, Int32.le_iff_toInt_le, ← Int32.toInt_inj, Int32.reduceToInt, Int32.not_lt, Int32.not_le] at *; omega))
                       | (rw [sp_bestS_T (by simp only [sp_mayS, sp_under, Bool.and_eq_true, decide_eq_true_eq, and_true, ne_eq, Option.some.injEq, reduceCtorEq, not_false_eq_true]; (simp only [Int32.lt_iff_toInt_lt, Int32.le_iff_toInt_le, ← Int32.toInt_inj, Int32.reduceToInt, Int32.not_lt, Int32.not_le] at *; omega))] at g; exact g)
                       | (rw [sp_bestS_F (by simp only [sp_mayS, sp_under, Bool.and_eq_true, decide_eq_true_eq, and_true, ne_eq, Option.some.injEq, reduceCtorEq, not_false_eq_true]; (simp only [Int32.lt_iff_toInt_lt, Int32.le_iff_toInt_le, ← Int32.toInt_inj, Int32.reduceToInt, Int32.not_lt, Int32.not_le] at *; omega))] at g; exact g))
                  | (have g := ih (i + 1) (some (.int 1)) (by omega)
                     rw [am_fold_succ, hF, ← am_inc] at g
                     (try simp only [e1, e2, am_on, Int32.reduceToNatClampNeg] at *)
                     first
                       | (exfalso; first | contradiction | (simp only [Int32.lt_iff_toInt_lt, Int32.le_iff_toInt_le, ← Int32.toInt_inj, Int32.reduceToInt, Int32.not_lt, Int32.not_le] at *; omega))
                       | (rw [sp_bestS_T (by simp only [sp_mayS, sp_under, Bool.and_eq_true, decide_eq_true_eq, and_true, ne_eq, Option.some.injEq, reduceCtorEq, not_false_eq_true]; (simp only [Int32.lt_iff_toInt_lt, Int32.le_iff_toInt_le, ← Int32.toInt_inj, Int32.reduceToInt, Int32.not_lt, Int32.not_le] at *; omega))] at g; exact g)
                       | (rw [sp_bestS_F (by simp only [sp_mayS, sp_under, Bool.and_eq_true, decide_eq_true_eq, and_true, ne_eq, Option.some.injEq, reduceCtorEq, not_false_eq_true]; (simp only [Int32.lt_iff_toInt_lt, Int32.le_iff_toInt_le, ← Int32.toInt_inj, Int32.reduceToInt, Int32.not_lt, Int32.not_le] at *; omega))] at g; exact g))
                · skip
                  refine am_Rn.go (t := am_t38) rfl 4 rfl ⟨trivial, trivial, trivial, trivial, trivial⟩ ?_
                  first
                  | (have g := ih (i + 1) (some (.int 0)) (by omega)
                     rw [am_fold_succ, hF, ← am_inc] at g
                     (try simp only [e1, e2, am_on, Int32.reduceToNatClampNeg] at *)
                     first
                       | (exfalso; first | contradiction | (simp only [Int32.lt_iff_toInt_lt, Int32.le_iff_toInt_le, ← Int32.toInt_inj, Int32.reduceToInt, Int32.not_lt, Int32.not_le] at *; omega))
                       | (rw [sp_bestS_T (by simp only [sp_mayS, sp_under, Bool.and_eq_true, decide_eq_true_eq, and_true, ne_eq, Option.some.injEq, reduceCtorEq, not_false_eq_true]; (simp only [Int32.lt_iff_toInt_lt, Int32.le_iff_toInt_le, ← Int32.toInt_inj, Int32.reduceToInt, Int32.not_lt, Int32.not_le] at *; omega))] at g; exact g)
                       | (rw [sp_bestS_F (by simp only [sp_mayS, sp_under, Bool.and_eq_true, decide_eq_true_eq, and_true, ne_eq, Option.some.injEq, reduceCtorEq, not_false_eq_true]; (simp only [Int32.lt_iff_toInt_lt, Int32.le_iff_toInt_le, ← Int32.toInt_inj, Int32.reduceToInt, Int32.not_lt, Int32.not_le] at *; omega))] at g; exact g))
                  | (have g := ih (i + 1) (some (.int 1)) (by omega)
                     rw [am_fold_succ, hF, ← am_inc] at g
                     (try simp only [e1, e2, am_on, Int32.reduceToNatClampNeg] at *)
                     first
                       | (exfalso; first | contradiction | (simp only [Int32.lt_iff_toInt_lt, Int32.le_iff_toInt_le, ← Int32.toInt_inj, Int32.reduceToInt, Int32.not_lt, Int32.not_le] at *; omega))
                       | (rw [sp_bestS_T (by simp only [sp_mayS, sp_under, Bool.and_eq_true, decide_eq_true_eq, and_true, ne_eq, Option.some.injEq, reduceCtorEq, not_false_eq_true]; (simp only [Int32.lt_iff_toInt_lt, Int32.le_iff_toInt_le, ← Int32.toInt_inj, Int32.reduceToInt, Int32.not_lt, Int32.not_le] at *; omega))] at g; exact g)
                       | (rw [sp_bestS_F (by simp only [sp_mayS, sp_under, Bool.and_eq_true, decide_eq_true_eq, and_true, ne_eq, Option.some.injEq, reduceCtorEq, not_false_eq_true]; (simp only [Int32.lt_iff_toInt_lt, Int32.le_iff_toInt_le, ← Int32.toInt_inj, Int32.reduceToInt, Int32.not_lt, Int32.not_le] at *; omega))] at g; exact g))
          · skip
            refine am_Rn.go (t := am_t38) rfl 9 rfl ⟨trivial, trivial, trivial, trivial, trivial, trivial, (by first | exact am_inb_lit rfl | exact am_inb_of (by omega) (by omega)), trivial, trivial, trivial⟩ ?_
            refine am_Rn.br (fun h12 => ?_) (fun h12 => ?_)
            · skip
              refine am_Rn.go (t := am_t38) rfl 2 rfl ⟨trivial, trivial, trivial⟩ ?_
              first
              | (have g := ih (i + 1) (some (.int 0)) (by omega)
                 rw [am_fold_succ, hF, ← am_inc] at g
                 (try simp only [e1, e2, am_on, Int32.reduceToNatClampNeg] at *)
                 first
                   | (exfalso; first | contradiction | (simp only [Int32.lt_iff_toInt_lt, Int32.le_iff_toInt_le, ← Int32.toInt_inj, Int32.reduceToInt, Int32.not_lt, Int32.not_le] at *; omega))
                   | (rw [sp_bestS_T (by simp only [sp_mayS, sp_under, Bool.and_eq_true, decide_eq_true_eq, and_true, ne_eq, Option.some.injEq, reduceCtorEq, not_false_eq_true]; (simp only [Int32.lt_iff_toInt_lt, Int32.le_iff_toInt_le, ← Int32.toInt_inj, Int32.reduceToInt, Int32.not_lt, Int32.not_le] at *; omega))] at g; exact g)
                   | (rw [sp_bestS_F (by simp only [sp_mayS, sp_under, Bool.and_eq_true, decide_eq_true_eq, and_true, ne_eq, Option.some.injEq, reduceCtorEq, not_false_eq_true]; (simp only [Int32.lt_iff_toInt_lt, Int32.le_iff_toInt_le, ← Int32.toInt_inj, Int32.reduceToInt, Int32.not_lt, Int32.not_le] at *; omega))] at g; exact g))
              | (have g := ih (i + 1) (some (.int 1)) (by omega)
                 rw [am_fold_succ, hF, ← am_inc] at g
                 (try simp only [e1, e2, am_on, Int32.reduceToNatClampNeg] at *)
                 first
                   | (exfalso; first | contradiction | (simp only [Int32.lt_iff_toInt_lt, Int32.le_iff_toInt_le, ← Int32.toInt_inj, Int32.reduceToInt, Int32.not_lt, Int32.not_le] at *; omega))
                   | (rw [sp_bestS_T (by simp only [sp_mayS, sp_under, Bool.and_eq_true, decide_eq_true_eq, and_true, ne_eq, Option.some.injEq, reduceCtorEq, not_false_eq_true]; (simp only [Int32.lt_iff_toInt_lt, Int32.le_iff_toInt_le, ← Int32.toInt_inj, Int32.reduceToInt, Int32.not_lt, Int32.not_le] at *; omega))] at g; exact g)
                   | (rw [sp_bestS_F (by simp only [sp_mayS, sp_under, Bool.and_eq_true, decide_eq_true_eq, and_true, ne_eq, Option.some.injEq, reduceCtorEq, not_false_eq_true]; (simp only [Int32.lt_iff_toInt_lt, Int32.le_iff_toInt_le, ← Int32.toInt_inj, Int32.reduceToInt, Int32.not_lt, Int32.not_le] at *; omega))] at g; exact g))
            · skip
              refine am_Rn.go (t := am_t38) rfl 2 rfl ⟨trivial, trivial, trivial⟩ ?_
              refine am_Rn.br (fun h13 => ?_) (fun h13 => ?_)
              · skip
                refine am_Rn.go (t := am_t38) rfl 2 rfl ⟨trivial, trivial, trivial⟩ ?_
                first
                | (have g := ih (i + 1) (some (.int 0)) (by omega)
                   rw [am_fold_succ, hF, ← am_inc] at g
                   (try simp only [e1, e2, am_on, Int32.reduceToNatClampNeg] at *)
                   first
                     | (exfalso; first | contradiction | (simp only [Int32.lt_iff_toInt_lt, Int32.le_iff_toInt_le, ← Int32.toInt_inj, Int32.reduceToInt, Int32.not_lt, Int32.not_le] at *; omega))
                     | (rw [sp_bestS_T (by simp only [sp_mayS, sp_under, Bool.and_eq_true, decide_eq_true_eq, and_true, ne_eq, Option.some.injEq, reduceCtorEq, not_false_eq_true]; (simp only [Int32.lt_iff_toInt_lt, Int32.le_iff_toInt_le, ← Int32.toInt_inj, Int32.reduceToInt, Int32.not_lt, Int32.not_le] at *; omega))] at g; exact g)
                     | (rw [sp_bestS_F (by simp only [sp_mayS, sp_under, Bool.and_eq_true, decide_eq_true_eq, and_true, ne_eq, Option.some.injEq, reduceCtorEq, not_false_eq_true]; (simp only [Int32.lt_iff_toInt_lt, Int32.le_iff_toInt_le, ← Int32.toInt_inj, Int32.reduceToInt, Int32.not_lt, Int32.not_le] at *; omega))] at g; exact g))
                | (have g := ih (i + 1) (some (.int 1)) (by omega)
                   rw [am_fold_succ, hF, ← am_inc] at g
                   (try simp only [e1, e2, am_on, Int32.reduceToNatClampNeg] at *)
                   first
                     | (exfalso; first | contradiction | (simp only [Int32.lt_iff_toInt_lt, Int32.le_iff_toInt_le, ← Int32.toInt_inj, Int32.reduceToInt, Int32.not_lt, Int32.not_le] at *; omega))
                     | (rw [sp_bestS_T (by simp only [sp_mayS, sp_under, Bool.and_eq_true, decide_eq_true_eq, and_true, ne_eq, Option.some.injEq, reduceCtorEq, not_false_eq_true]; (simp only [Int32.lt_iff_toInt_lt, Int32.le_iff_toInt_le, ← Int32.toInt_inj, Int32.reduceToInt, Int32.not_lt, Int32.not_le] at *; omega))] at g; exact g)
                     | (rw [sp_bestS_F (by simp only [sp_mayS, sp_under, Bool.and_eq_true, decide_eq_true_eq, and_true, ne_eq, Option.some.injEq, reduceCtorEq, not_false_eq_true]; (simp only [Int32.lt_iff_toInt_lt, Int32.le_iff_toInt_le, ← Int32.toInt_inj, Int32.reduceToInt, Int32.not_lt, Int32.not_le] at *; omega))] at g; exact g))
              · skip
                refine am_Rn.go (t := am_t38) rfl 2 rfl ⟨trivial, trivial, trivial⟩ ?_
                refine am_Rn.brF hq2 ?_
                refine am_Rn.go (t := am_t38) rfl 9 rfl ⟨trivial, trivial, trivial, (by first | exact am_inb_lit rfl | exact am_inb_of (by omega) (by omega)), trivial, trivial, trivial, (by first | exact am_inb_lit rfl | exact am_inb_of (by omega) (by omega)), trivial, trivial⟩ ?_
                refine am_Rn.br (fun h15 => ?_) (fun h15 => ?_)
                · skip
                  refine am_Rn.go (t := am_t38) rfl 2 rfl ⟨trivial, trivial, trivial⟩ ?_
                  first
                  | (have g := ih (i + 1) (some (.int 0)) (by omega)
                     rw [am_fold_succ, hF, ← am_inc] at g
                     (try simp only [e1, e2, am_on, Int32.reduceToNatClampNeg] at *)
                     first
                       | (exfalso; first | contradiction | (simp only [Int32.lt_iff_toInt_lt, Int32.le_iff_toInt_le, ← Int32.toInt_inj, Int32.reduceToInt, Int32.not_lt, Int32.not_le] at *; omega))
                       | (rw [sp_bestS_T (by simp only [sp_mayS, sp_under, Bool.and_eq_true, decide_eq_true_eq, and_true, ne_eq, Option.some.injEq, reduceCtorEq, not_false_eq_true]; (simp only [Int32.lt_iff_toInt_lt, Int32.le_iff_toInt_le, ← Int32.toInt_inj, Int32.reduceToInt, Int32.not_lt, Int32.not_le] at *; omega))] at g; exact g)
                       | (rw [sp_bestS_F (by simp only [sp_mayS, sp_under, Bool.and_eq_true, decide_eq_true_eq, and_true, ne_eq, Option.some.injEq, reduceCtorEq, not_false_eq_true]; (simp only [Int32.lt_iff_toInt_lt, Int32.le_iff_toInt_le, ← Int32.toInt_inj, Int32.reduceToInt, Int32.not_lt, Int32.not_le] at *; omega))] at g; exact g))
                  | (have g := ih (i + 1) (some (.int 1)) (by omega)
                     rw [am_fold_succ, hF, ← am_inc] at g
                     (try simp only [e1, e2, am_on, Int32.reduceToNatClampNeg] at *)
                     first
                       | (exfalso; first | contradiction | (simp only [Int32.lt_iff_toInt_lt, Int32.le_iff_toInt_le, ← Int32.toInt_inj, Int32.reduceToInt, Int32.not_lt, Int32.not_le] at *; omega))
                       | (rw [sp_bestS_T (by simp only [sp_mayS, sp_under, Bool.and_eq_true, decide_eq_true_eq, and_true, ne_eq, Option.some.injEq, reduceCtorEq, not_false_eq_true]; (simp only [Int32.lt_iff_toInt_lt, Int32.le_iff_toInt_le, ← Int32.toInt_inj, Int32.reduceToInt, Int32.not_lt, Int32.not_le] at *; omega))] at g; exact g)
                       | (rw [sp_bestS_F (by simp only [sp_mayS, sp_under, Bool.and_eq_true, decide_eq_true_eq, and_true, ne_eq, Option.some.injEq, reduceCtorEq, not_false_eq_true]; (simp only [Int32.lt_iff_toInt_lt, Int32.le_iff_toInt_le, ← Int32.toInt_inj, Int32.reduceToInt, Int32.not_lt, Int32.not_le] at *; omega))] at g; exact g))
                · skip
                  refine am_Rn.go (t := am_t38) rfl 4 rfl ⟨trivial, trivial, trivial, trivial, trivial⟩ ?_
                  first
                  | (have g := ih (i + 1) (some (.int 0)) (by omega)
                     rw [am_fold_succ, hF, ← am_inc] at g
                     (try simp only [e1, e2, am_on, Int32.reduceToNatClampNeg] at *)
                     first
                       | (exfalso; first | contradiction | (simp only [Int32.lt_iff_toInt_lt, Int32.le_iff_toInt_le, ← Int32.toInt_inj, Int32.reduceToInt, Int32.not_lt, Int32.not_le] at *; omega))
                       | (rw [sp_bestS_T (by simp only [sp_mayS, sp_under, Bool.and_eq_true, decide_eq_true_eq, and_true, ne_eq, Option.some.injEq, reduceCtorEq, not_false_eq_true]; (simp only [Int32.lt_iff_toInt_lt, Int32.le_iff_toInt_le, ← Int32.toInt_inj, Int32.reduceToInt, Int32.not_lt, Int32.not_le] at *; omega))] at g; exact g)
                       | (rw [sp_bestS_F (by simp only [sp_mayS, sp_under, Bool.and_eq_true, decide_eq_true_eq, and_true, ne_eq, Option.some.injEq, reduceCtorEq, not_false_eq_true]; (simp only [Int32.lt_iff_toInt_lt, Int32.le_iff_toInt_le, ← Int32.toInt_inj, Int32.reduceToInt, Int32.not_lt, Int32.not_le] at *; omega))] at g; exact g))
                  | (have g := ih (i + 1) (some (.int 1)) (by omega)
                     rw [am_fold_succ, hF, ← am_inc] at g
                     (try simp only [e1, e2, am_on, Int32.reduceToNatClampNeg] at *)
                     first
                       | (exfalso; first | contradiction | (simp only [Int32.lt_iff_toInt_lt, Int32.le_iff_toInt_le, ← Int32.toInt_inj, Int32.reduceToInt, Int32.not_lt, Int32.not_le] at *; omega))
                       | (rw [sp_bestS_T (by simp only [sp_mayS, sp_under, Bool.and_eq_true, decide_eq_true_eq, and_true, ne_eq, Option.some.injEq, reduceCtorEq, not_false_eq_true]; (simp only [Int32.lt_iff_toInt_lt, Int32.le_iff_toInt_le, ← Int32.toInt_inj, Int32.reduceToInt, Int32.not_lt, Int32.not_le] at *; omega))] at g; exact g)
                       | (rw [sp_bestS_F (by simp only [sp_mayS, sp_under, Bool.and_eq_true, decide_eq_true_eq, and_true, ne_eq, Option.some.injEq, reduceCtorEq, not_false_eq_true]; (simp only [Int32.lt_iff_toInt_lt, Int32.le_iff_toInt_le, ← Int32.toInt_inj, Int32.reduceToInt, Int32.not_lt, Int32.not_le] at *; omega))] at g; exact g))
      · skip
        have e3 := am_ofN i (by omega)
        have hq1 := hq q rfl
        have e2 : (Int32.ofNat q).toNatClampNeg = q := am_tn q (by omega)
        have hq2 : ¬ Int32.ofNat q < 0 := fun h => absurd ((am_lt (i := q) (j := 0) (by omega) (by omega)).mp h) (by omega)
        have hr1 := hb r rfl
        have e4 := am_ofN r (by omega)
        refine am_Rn.go (t := am_t38) rfl 5 rfl ⟨trivial, trivial, trivial, trivial, trivial, trivial⟩ ?_
        refine am_Rn.brF (by first | exact fun q => absurd ((am_le (by omega) (by omega)).mp q) (by omega) | exact fun q => absurd ((am_le (i := 9) (by omega) (by omega)).mp q) (by omega) | exact fun q => absurd ((am_le (i := 10) (by omega) (by omega)).mp q) (by omega) | exact (am_lt (by omega) (by omega)).mpr hiP) ?_
        refine am_Rn.go (t := am_t38) rfl 3 rfl ⟨trivial, trivial, trivial, trivial⟩ ?_
        refine am_Rn.br (fun h2 => ?_) (fun h2 => ?_)
        · skip
          refine am_Rn.go (t := am_t38) rfl 8 rfl ⟨trivial, trivial, trivial, trivial, trivial, (by first | exact am_inb_lit rfl | exact am_inb_of (by omega) (by omega)), trivial, trivial, trivial⟩ ?_
          refine am_Rn.br (fun h3 => ?_) (fun h3 => ?_)
          · skip
            refine am_Rn.go (t := am_t38) rfl 2 rfl ⟨trivial, trivial, trivial⟩ ?_
            first
            | (have g := ih (i + 1) (some (.int 0)) (by omega)
               rw [am_fold_succ, hF, ← am_inc] at g
               (try simp only [e1, e2, am_on, Int32.reduceToNatClampNeg] at *)
               first
                 | (exfalso; first | contradiction | (simp only [Int32.lt_iff_toInt_lt, Int32.le_iff_toInt_le, ← Int32.toInt_inj, Int32.reduceToInt, Int32.not_lt, Int32.not_le] at *; omega))
                 | (rw [sp_bestS_T (by simp only [sp_mayS, sp_under, Bool.and_eq_true, decide_eq_true_eq, and_true, ne_eq, Option.some.injEq, reduceCtorEq, not_false_eq_true]; (simp only [Int32.lt_iff_toInt_lt, Int32.le_iff_toInt_le, ← Int32.toInt_inj, Int32.reduceToInt, Int32.not_lt, Int32.not_le] at *; omega))] at g; exact g)
                 | (rw [sp_bestS_F (by simp only [sp_mayS, sp_under, Bool.and_eq_true, decide_eq_true_eq, and_true, ne_eq, Option.some.injEq, reduceCtorEq, not_false_eq_true]; (simp only [Int32.lt_iff_toInt_lt, Int32.le_iff_toInt_le, ← Int32.toInt_inj, Int32.reduceToInt, Int32.not_lt, Int32.not_le] at *; omega))] at g; exact g))
            | (have g := ih (i + 1) (some (.int 1)) (by omega)
               rw [am_fold_succ, hF, ← am_inc] at g
               (try simp only [e1, e2, am_on, Int32.reduceToNatClampNeg] at *)
               first
                 | (exfalso; first | contradiction | (simp only [Int32.lt_iff_toInt_lt, Int32.le_iff_toInt_le, ← Int32.toInt_inj, Int32.reduceToInt, Int32.not_lt, Int32.not_le] at *; omega))
                 | (rw [sp_bestS_T (by simp only [sp_mayS, sp_under, Bool.and_eq_true, decide_eq_true_eq, and_true, ne_eq, Option.some.injEq, reduceCtorEq, not_false_eq_true]; (simp only [Int32.lt_iff_toInt_lt, Int32.le_iff_toInt_le, ← Int32.toInt_inj, Int32.reduceToInt, Int32.not_lt, Int32.not_le] at *; omega))] at g; exact g)
                 | (rw [sp_bestS_F (by simp only [sp_mayS, sp_under, Bool.and_eq_true, decide_eq_true_eq, and_true, ne_eq, Option.some.injEq, reduceCtorEq, not_false_eq_true]; (simp only [Int32.lt_iff_toInt_lt, Int32.le_iff_toInt_le, ← Int32.toInt_inj, Int32.reduceToInt, Int32.not_lt, Int32.not_le] at *; omega))] at g; exact g))
          · skip
            refine am_Rn.go (t := am_t38) rfl 2 rfl ⟨trivial, trivial, trivial⟩ ?_
            refine am_Rn.br (fun h4 => ?_) (fun h4 => ?_)
            · skip
              refine am_Rn.go (t := am_t38) rfl 2 rfl ⟨trivial, trivial, trivial⟩ ?_
              first
              | (have g := ih (i + 1) (some (.int 0)) (by omega)
                 rw [am_fold_succ, hF, ← am_inc] at g
                 (try simp only [e1, e2, am_on, Int32.reduceToNatClampNeg] at *)
                 first
                   | (exfalso; first | contradiction | (simp only [Int32.lt_iff_toInt_lt, Int32.le_iff_toInt_le, ← Int32.toInt_inj, Int32.reduceToInt, Int32.not_lt, Int32.not_le] at *; omega))
                   | (rw [sp_bestS_T (by simp only [sp_mayS, sp_under, Bool.and_eq_true, decide_eq_true_eq, and_true, ne_eq, Option.some.injEq, reduceCtorEq, not_false_eq_true]; (simp only [Int32.lt_iff_toInt_lt, Int32.le_iff_toInt_le, ← Int32.toInt_inj, Int32.reduceToInt, Int32.not_lt, Int32.not_le] at *; omega))] at g; exact g)
                   | (rw [sp_bestS_F (by simp only [sp_mayS, sp_under, Bool.and_eq_true, decide_eq_true_eq, and_true, ne_eq, Option.some.injEq, reduceCtorEq, not_false_eq_true]; (simp only [Int32.lt_iff_toInt_lt, Int32.le_iff_toInt_le, ← Int32.toInt_inj, Int32.reduceToInt, Int32.not_lt, Int32.not_le] at *; omega))] at g; exact g))
              | (have g := ih (i + 1) (some (.int 1)) (by omega)
                 rw [am_fold_succ, hF, ← am_inc] at g
                 (try simp only [e1, e2, am_on, Int32.reduceToNatClampNeg] at *)
                 first
                   | (exfalso; first | contradiction | (simp only [Int32.lt_iff_toInt_lt, Int32.le_iff_toInt_le, ← Int32.toInt_inj, Int32.reduceToInt, Int32.not_lt, Int32.not_le] at *; omega))
                   | (rw [sp_bestS_T (by simp only [sp_mayS, sp_under, Bool.and_eq_true, decide_eq_true_eq, and_true, ne_eq, Option.some.injEq, reduceCtorEq, not_false_eq_true]; (simp only [Int32.lt_iff_toInt_lt, Int32.le_iff_toInt_le, ← Int32.toInt_inj, Int32.reduceToInt, Int32.not_lt, Int32.not_le] at *; omega))] at g; exact g)
                   | (rw [sp_bestS_F (by simp only [sp_mayS, sp_under, Bool.and_eq_true, decide_eq_true_eq, and_true, ne_eq, Option.some.injEq, reduceCtorEq, not_false_eq_true]; (simp only [Int32.lt_iff_toInt_lt, Int32.le_iff_toInt_le, ← Int32.toInt_inj, Int32.reduceToInt, Int32.not_lt, Int32.not_le] at *; omega))] at g; exact g))
            · skip
              refine am_Rn.go (t := am_t38) rfl 2 rfl ⟨trivial, trivial, trivial⟩ ?_
              refine am_Rn.brF hq2 ?_
              refine am_Rn.go (t := am_t38) rfl 9 rfl ⟨trivial, trivial, trivial, (by first | exact am_inb_lit rfl | exact am_inb_of (by omega) (by omega)), trivial, trivial, trivial, (by first | exact am_inb_lit rfl | exact am_inb_of (by omega) (by omega)), trivial, trivial⟩ ?_
              refine am_Rn.br (fun h6 => ?_) (fun h6 => ?_)
              · skip
                refine am_Rn.go (t := am_t38) rfl 2 rfl ⟨trivial, trivial, trivial⟩ ?_
                first
                | (have g := ih (i + 1) (some (.int 0)) (by omega)
                   rw [am_fold_succ, hF, ← am_inc] at g
                   (try simp only [e1, e2, am_on, Int32.reduceToNatClampNeg] at *)
                   first
                     | (exfalso; first | contradiction | (simp only [Int32.lt_iff_toInt_lt, Int32.le_iff_toInt_le, ← Int32.toInt_inj, Int32.reduceToInt, Int32.not_lt, Int32.not_le] at *; omega))
                     | (rw [sp_bestS_T (by simp only [sp_mayS, sp_under, Bool.and_eq_true, decide_eq_true_eq, and_true, ne_eq, Option.some.injEq, reduceCtorEq, not_false_eq_true]; (simp only [Int32.lt_iff_toInt_lt, Int32.le_iff_toInt_le, ← Int32.toInt_inj, Int32.reduceToInt, Int32.not_lt, Int32.not_le] at *; omega))] at g; exact g)
                     | (rw [sp_bestS_F (by simp only [sp_mayS, sp_under, Bool.and_eq_true, decide_eq_true_eq, and_true, ne_eq, Option.some.injEq, reduceCtorEq, not_false_eq_true]; (simp only [Int32.lt_iff_toInt_lt, Int32.le_iff_toInt_le, ← Int32.toInt_inj, Int32.reduceToInt, Int32.not_lt, Int32.not_le] at *; omega))] at g; exact g))
                | (have g := ih (i + 1) (some (.int 1)) (by omega)
                   rw [am_fold_succ, hF, ← am_inc] at g
                   (try simp only [e1, e2, am_on, Int32.reduceToNatClampNeg] at *)
                   first
                     | (exfalso; first | contradiction | (simp only [Int32.lt_iff_toInt_lt, Int32.le_iff_toInt_le, ← Int32.toInt_inj, Int32.reduceToInt, Int32.not_lt, Int32.not_le] at *; omega))
                     | (rw [sp_bestS_T (by simp only [sp_mayS, sp_under, Bool.and_eq_true, decide_eq_true_eq, and_true, ne_eq, Option.some.injEq, reduceCtorEq, not_false_eq_true]; (simp only [Int32.lt_iff_toInt_lt, Int32.le_iff_toInt_le, ← Int32.toInt_inj, Int32.reduceToInt, Int32.not_lt, Int32.not_le] at *; omega))] at g; exact g)
                     | (rw [sp_bestS_F (by simp only [sp_mayS, sp_under, Bool.and_eq_true, decide_eq_true_eq, and_true, ne_eq, Option.some.injEq, reduceCtorEq, not_false_eq_true]; (simp only [Int32.lt_iff_toInt_lt, Int32.le_iff_toInt_le, ← Int32.toInt_inj, Int32.reduceToInt, Int32.not_lt, Int32.not_le] at *; omega))] at g; exact g))
              · skip
                refine am_Rn.go (t := am_t38) rfl 4 rfl ⟨trivial, trivial, trivial, trivial, trivial⟩ ?_
                first
                | (have g := ih (i + 1) (some (.int 0)) (by omega)
                   rw [am_fold_succ, hF, ← am_inc] at g
                   (try simp only [e1, e2, am_on, Int32.reduceToNatClampNeg] at *)
                   first
                     | (exfalso; first | contradiction | (simp only [Int32.lt_iff_toInt_lt, Int32.le_iff_toInt_le, ← Int32.toInt_inj, Int32.reduceToInt, Int32.not_lt, Int32.not_le] at *; omega))
                     | (rw [sp_bestS_T (by simp only [sp_mayS, sp_under, Bool.and_eq_true, decide_eq_true_eq, and_true, ne_eq, Option.some.injEq, reduceCtorEq, not_false_eq_true]; (simp only [Int32.lt_iff_toInt_lt, Int32.le_iff_toInt_le, ← Int32.toInt_inj, Int32.reduceToInt, Int32.not_lt, Int32.not_le] at *; omega))] at g; exact g)
                     | (rw [sp_bestS_F (by simp only [sp_mayS, sp_under, Bool.and_eq_true, decide_eq_true_eq, and_true, ne_eq, Option.some.injEq, reduceCtorEq, not_false_eq_true]; (simp only [Int32.lt_iff_toInt_lt, Int32.le_iff_toInt_le, ← Int32.toInt_inj, Int32.reduceToInt, Int32.not_lt, Int32.not_le] at *; omega))] at g; exact g))
                | (have g := ih (i + 1) (some (.int 1)) (by omega)
                   rw [am_fold_succ, hF, ← am_inc] at g
                   (try simp only [e1, e2, am_on, Int32.reduceToNatClampNeg] at *)
                   first
                     | (exfalso; first | contradiction | (simp only [Int32.lt_iff_toInt_lt, Int32.le_iff_toInt_le, ← Int32.toInt_inj, Int32.reduceToInt, Int32.not_lt, Int32.not_le] at *; omega))
                     | (rw [sp_bestS_T (by simp only [sp_mayS, sp_under, Bool.and_eq_true, decide_eq_true_eq, and_true, ne_eq, Option.some.injEq, reduceCtorEq, not_false_eq_true]; (simp only [Int32.lt_iff_toInt_lt, Int32.le_iff_toInt_le, ← Int32.toInt_inj, Int32.reduceToInt, Int32.not_lt, Int32.not_le] at *; omega))] at g; exact g)
                     | (rw [sp_bestS_F (by simp only [sp_mayS, sp_under, Bool.and_eq_true, decide_eq_true_eq, and_true, ne_eq, Option.some.injEq, reduceCtorEq, not_false_eq_true]; (simp only [Int32.lt_iff_toInt_lt, Int32.le_iff_toInt_le, ← Int32.toInt_inj, Int32.reduceToInt, Int32.not_lt, Int32.not_le] at *; omega))] at g; exact g))
        · skip
          refine am_Rn.go (t := am_t38) rfl 11 rfl ⟨trivial, trivial, trivial, (by first | exact am_inb_lit rfl | exact am_inb_of (by omega) (by omega)), trivial, trivial, trivial, trivial, (by first | exact am_inb_lit rfl | exact am_inb_of (by omega) (by omega)), trivial, trivial, trivial⟩ ?_
          refine am_Rn.br (fun h7 => ?_) (fun h7 => ?_)
          · skip
            refine am_Rn.go (t := am_t38) rfl 8 rfl ⟨trivial, trivial, trivial, trivial, trivial, (by first | exact am_inb_lit rfl | exact am_inb_of (by omega) (by omega)), trivial, trivial, trivial⟩ ?_
            refine am_Rn.br (fun h8 => ?_) (fun h8 => ?_)
            · skip
              refine am_Rn.go (t := am_t38) rfl 2 rfl ⟨trivial, trivial, trivial⟩ ?_
              first
              | (have g := ih (i + 1) (some (.int 0)) (by omega)
                 rw [am_fold_succ, hF, ← am_inc] at g
                 (try simp only [e1, e2, am_on, Int32.reduceToNatClampNeg] at *)
                 first
                   | (exfalso; first | contradiction | (simp only [Int32.lt_iff_toInt_lt, Int32.le_iff_toInt_le, ← Int32.toInt_inj, Int32.reduceToInt, Int32.not_lt, Int32.not_le] at *; omega))
                   | (rw [sp_bestS_T (by simp only [sp_mayS, sp_under, Bool.and_eq_true, decide_eq_true_eq, and_true, ne_eq, Option.some.injEq, reduceCtorEq, not_false_eq_true]; (simp only [Int32.lt_iff_toInt_lt, Int32.le_iff_toInt_le, ← Int32.toInt_inj, Int32.reduceToInt, Int32.not_lt, Int32.not_le] at *; omega))] at g; exact g)
                   | (rw [sp_bestS_F (by simp only [sp_mayS, sp_under, Bool.and_eq_true, decide_eq_true_eq, and_true, ne_eq, Option.some.injEq, reduceCtorEq, not_false_eq_true]; (simp only [Int32.lt_iff_toInt_lt, Int32.le_iff_toInt_le, ← Int32.toInt_inj, Int32.reduceToInt, Int32.not_lt, Int32.not_le] at *; omega))] at g; exact g))
              | (have g := ih (i + 1) (some (.int 1)) (by omega)
                 rw [am_fold_succ, hF, ← am_inc] at g
                 (try simp only [e1, e2, am_on, Int32.reduceToNatClampNeg] at *)
                 first
                   | (exfalso; first | contradiction | (simp only [Int32.lt_iff_toInt_lt, Int32.le_iff_toInt_le, ← Int32.toInt_inj, Int32.reduceToInt, Int32.not_lt, Int32.not_le] at *; omega))
                   | (rw [sp_bestS_T (by simp only [sp_mayS, sp_under, Bool.and_eq_true, decide_eq_true_eq, and_true, ne_eq, Option.some.injEq, reduceCtorEq, not_false_eq_true]; (simp only [Int32.lt_iff_toInt_lt, Int32.le_iff_toInt_le, ← Int32.toInt_inj, Int32.reduceToInt, Int32.not_lt, Int32.not_le] at *; omega))] at g; exact g)
                   | (rw [sp_bestS_F (by simp only [sp_mayS, sp_under, Bool.and_eq_true, decide_eq_true_eq, and_true, ne_eq, Option.some.injEq, reduceCtorEq, not_false_eq_true]; (simp only [Int32.lt_iff_toInt_lt, Int32.le_iff_toInt_le, ← Int32.toInt_inj, Int32.reduceToInt, Int32.not_lt, Int32.not_le] at *; omega))] at g; exact g))
            · skip
              refine am_Rn.go (t := am_t38) rfl 2 rfl ⟨trivial, trivial, trivial⟩ ?_
              refine am_Rn.br (fun h9 => ?_) (fun h9 => ?_)
              · skip
                refine am_Rn.go (t := am_t38) rfl 2 rfl ⟨trivial, trivial, trivial⟩ ?_
                first
                | (have g := ih (i + 1) (some (.int 0)) (by omega)
                   rw [am_fold_succ, hF, ← am_inc] at g
                   (try simp only [e1, e2, am_on, Int32.reduceToNatClampNeg] at *)
                   first
                     | (exfalso; first | contradiction | (simp only [Int32.lt_iff_toInt_lt, Int32.le_iff_toInt_le, ← Int32.toInt_inj, Int32.reduceToInt, Int32.not_lt, Int32.not_le] at *; omega))
                     | (rw [sp_bestS_T (by simp only [sp_mayS, sp_under, Bool.and_eq_true, decide_eq_true_eq, and_true, ne_eq, Option.some.injEq, reduceCtorEq, not_false_eq_true]; (simp only [Int32.lt_iff_toInt_lt, Int32.le_iff_toInt_le, ← Int32.toInt_inj, Int32.reduceToInt, Int32.not_lt, Int32.not_le] at *; omega))] at g; exact g)
                     | (rw [sp_bestS_F (by simp only [sp_mayS, sp_under, Bool.and_eq_true, decide_eq_true_eq, and_true, ne_eq, Option.some.injEq, reduceCtorEq, not_false_eq_true]; (simp only [Int32.lt_iff_toInt_lt, Int32.le_iff_toInt_le, ← Int32.toInt_inj, Int32.reduceToInt, Int32.not_lt, Int32.not_le] at *; omega))] at g; exact g))
                | (have g := ih (i + 1) (some (.int 1)) (by omega)
                   rw [am_fold_succ, hF, ← am_inc] at g
                   (try simp only [e1, e2, am_on, Int32.reduceToNatClampNeg] at *)
                   first
                     | (exfalso; first | contradiction | (simp only [Int32.lt_iff_toInt_lt, Int32.le_iff_toInt_le, ← Int32.toInt_inj, Int32.reduceToInt, Int32.not_lt, Int32.not_le] at *; omega))
                     | (rw [sp_bestS_T (by simp only [sp_mayS, sp_under, Bool.and_eq_true, decide_eq_true_eq, and_true, ne_eq, Option.some.injEq, reduceCtorEq, not_false_eq_true]; (simp only [Int32.lt_iff_toInt_lt, Int32.le_iff_toInt_le, ← Int32.toInt_inj, Int32.reduceToInt, Int32.not_lt, Int32.not_le] at *; omega))] at g; exact g)
                     | (rw [sp_bestS_F (by simp only [sp_mayS, sp_under, Bool.and_eq_true, decide_eq_true_eq, and_true, ne_eq, Option.some.injEq, reduceCtorEq, not_false_eq_true]; (simp only [Int32.lt_iff_toInt_lt, Int32.le_iff_toInt_le, ← Int32.toInt_inj, Int32.reduceToInt, Int32.not_lt, Int32.not_le] at *; omega))] at g; exact g))
              · skip
                refine am_Rn.go (t := am_t38) rfl 2 rfl ⟨trivial, trivial, trivial⟩ ?_
                refine am_Rn.brF hq2 ?_
                refine am_Rn.go (t := am_t38) rfl 9 rfl ⟨trivial, trivial, trivial, (by first | exact am_inb_lit rfl | exact am_inb_of (by omega) (by omega)), trivial, trivial, trivial, (by first | exact am_inb_lit rfl | exact am_inb_of (by omega) (by omega)), trivial, trivial⟩ ?_
                refine am_Rn.br (fun h11 => ?_) (fun h11 => ?_)
                · skip
                  refine am_Rn.go (t := am_t38) rfl 2 rfl ⟨trivial, trivial, trivial⟩ ?_
                  first
                  | (have g := ih (i + 1) (some (.int 0)) (by omega)
                     rw [am_fold_succ, hF, ← am_inc] at g
                     (try simp only [e1, e2, am_on, Int32.reduceToNatClampNeg] at *)
                     first
                       | (exfalso; first | contradiction | (simp only [Int32.lt_iff_toInt_lt, Int32.le_iff_toInt_le, ← Int32.toInt_inj, Int32.reduceToInt, Int32.not_lt, Int32.not_le] at *; omega))
                       | (rw [sp_bestS_T (by simp only [sp_mayS, sp_under, Bool.and_eq_true, decide_eq_true_eq, and_true, ne_eq, Option.some.injEq, reduceCtorEq, not_false_eq_true]; (simp only [Int32.lt_iff_toInt_lt, Int32.le_iff_toInt_le, ← Int32.toInt_inj, Int32.reduceToInt, Int32.not_lt, Int32.not_le] at *; omega))] at g; exact g)
                       | (rw [sp_bestS_F (by simp only [sp_mayS, sp_under, Bool.and_eq_true, decide_eq_true_eq, and_true, ne_eq, Option.some.injEq, reduceCtorEq, not_false_eq_true]; (simp only [Int32.lt_iff_toInt_lt, Int32.le_iff_toInt_le, ← Int32.toInt_inj, Int32.reduceToInt, Int32.not_lt, Int32.not_le] at *; omega))] at g; exact g))
                  | (have g := ih (i + 1) (some (.int 1)) (by omega)
                     rw [am_fold_succ, hF, ← am_inc] at g
                     (try simp only [e1, e2, am_on, Int32.reduceToNatClampNeg] at *)
                     first
                       | (exfalso; first | contradiction | (simp only [Int32.lt_iff_toInt_lt, Int32.le_iff_toInt_le, ← Int32.toInt_inj, Int32.reduceToInt, Int32.not_lt, Int32.not_le] at *; omega))
                       | (rw [sp_bestS_T (by simp only [sp_mayS, sp_under, Bool.and_eq_true, decide_eq_true_eq, and_true, ne_eq, Option.some.injEq, reduceCtorEq, not_false_eq_true]; (simp only [Int32.lt_iff_toInt_lt, Int32.le_iff_toInt_le, ← Int32.toInt_inj, Int32.reduceToInt, Int32.not_lt, Int32.not_le] at *; omega))] at g; exact g)
                       | (rw [sp_bestS_F (by simp only [sp_mayS, sp_under, Bool.and_eq_true, decide_eq_true_eq, and_true, ne_eq, Option.some.injEq, reduceCtorEq, not_false_eq_true]; (simp only [Int32.lt_iff_toInt_lt, Int32.le_iff_toInt_le, ← Int32.toInt_inj, Int32.reduceToInt, Int32.not_lt, Int32.not_le] at *; omega))] at g; exact g))
                · skip
                  refine am_Rn.go (t := am_t38) rfl 4 rfl ⟨trivial, trivial, trivial, trivial, trivial⟩ ?_
                  first
                  | (have g := ih (i + 1) (some (.int 0)) (by omega)
                     rw [am_fold_succ, hF, ← am_inc] at g
                     (try simp only [e1, e2, am_on, Int32.reduceToNatClampNeg] at *)
                     first
                       | (exfalso; first | contradiction | (simp only [Int32.lt_iff_toInt_lt, Int32.le_iff_toInt_le, ← Int32.toInt_inj, Int32.reduceToInt, Int32.not_lt, Int32.not_le] at *; omega))
                       | (rw [sp_bestS_T (by simp only [sp_mayS, sp_under, Bool.and_eq_true, decide_eq_true_eq, and_true, ne_eq, Option.some.injEq, reduceCtorEq, not_false_eq_true]; (simp only [Int32.lt_iff_toInt_lt, Int32.le_iff_toInt_le, ← Int32.toInt_inj, Int32.reduceToInt, Int32.not_lt, Int32.not_le] at *; omega))] at g; exact g)
                       | (rw [sp_bestS_F (by simp only [sp_mayS, sp_under, Bool.and_eq_true, decide_eq_true_eq, and_true, ne_eq, Option.some.injEq, reduceCtorEq, not_false_eq_true]; (simp only [Int32.lt_iff_toInt_lt, Int32.le_iff_toInt_le, ← Int32.toInt_inj, Int32.reduceToInt, Int32.not_lt, Int32.not_le] at *; omega))] at g; exact g))
                  | (have g := ih (i + 1) (some (.int 1)) (by omega)
                     rw [am_fold_succ, hF, ← am_inc] at g
                     (try simp only [e1, e2, am_on, Int32.reduceToNatClampNeg] at *)
                     first
                       | (exfalso; first | contradiction | (simp only [Int32.lt_iff_toInt_lt, Int32.le_iff_toInt_le, ← Int32.toInt_inj, Int32.reduceToInt, Int32.not_lt, Int32.not_le] at *; omega))
                       | (rw [sp_bestS_T (by simp only [sp_mayS, sp_under, Bool.and_eq_true, decide_eq_true_eq, and_true, ne_eq, Option.some.injEq, reduceCtorEq, not_false_eq_true]; (simp only [Int32.lt_iff_toInt_lt, Int32.le_iff_toInt_le, ← Int32.toInt_inj, Int32.reduceToInt, Int32.not_lt, Int32.not_le] at *; omega))] at g; exact g)
                       | (rw [sp_bestS_F (by simp only [sp_mayS, sp_under, Bool.and_eq_true, decide_eq_true_eq, and_true, ne_eq, Option.some.injEq, reduceCtorEq, not_false_eq_true]; (simp only [Int32.lt_iff_toInt_lt, Int32.le_iff_toInt_le, ← Int32.toInt_inj, Int32.reduceToInt, Int32.not_lt, Int32.not_le] at *; omega))] at g; exact g))
          · skip
            refine am_Rn.go (t := am_t38) rfl 9 rfl ⟨trivial, trivial, trivial, trivial, trivial, trivial, (by first | exact am_inb_lit rfl | exact am_inb_of (by omega) (by omega)), trivial, trivial, trivial⟩ ?_
            refine am_Rn.br (fun h12 => ?_) (fun h12 => ?_)
            · skip
              refine am_Rn.go (t := am_t38) rfl 2 rfl ⟨trivial, trivial, trivial⟩ ?_
              first
              | (have g := ih (i + 1) (some (.int 0)) (by omega)
                 rw [am_fold_succ, hF, ← am_inc] at g
                 (try simp only [e1, e2, am_on, Int32.reduceToNatClampNeg] at *)
                 first
                   | (exfalso; first | contradiction | (simp only [Int32.lt_iff_toInt_lt, Int32.le_iff_toInt_le, ← Int32.toInt_inj, Int32.reduceToInt, Int32.not_lt, Int32.not_le] at *; omega))
                   | (rw [sp_bestS_T (by simp only [sp_mayS, sp_under, Bool.and_eq_true, decide_eq_true_eq, and_true, ne_eq, Option.some.injEq, reduceCtorEq, not_false_eq_true]; (simp only [Int32.lt_iff_toInt_lt, Int32.le_iff_toInt_le, ← Int32.toInt_inj, Int32.reduceToInt, Int32.not_lt, Int32.not_le] at *; omega))] at g; exact g)
                   | (rw [sp_bestS_F (by simp only [sp_mayS, sp_under, Bool.and_eq_true, decide_eq_true_eq, and_true, ne_eq, Option.some.injEq, reduceCtorEq, not_false_eq_true]; (simp only [Int32.lt_iff_toInt_lt, Int32.le_iff_toInt_le, ← Int32.toInt_inj, Int32.reduceToInt, Int32.not_lt, Int32.not_le] at *; omega))] at g; exact g))
              | (have g := ih (i + 1) (some (.int 1)) (by omega)
                 rw [am_fold_succ, hF, ← am_inc] at g
                 (try simp only [e1, e2, am_on, Int32.reduceToNatClampNeg] at *)
                 first
                   | (exfalso; first | contradiction | (simp only [Int32.lt_iff_toInt_lt, Int32.le_iff_toInt_le, ← Int32.toInt_inj, Int32.reduceToInt, Int32.not_lt, Int32.not_le] at *; omega))
                   | (rw [sp_bestS_T (by simp only [sp_mayS, sp_under, Bool.and_eq_true, decide_eq_true_eq, and_true, ne_eq, Option.some.injEq, reduceCtorEq, not_false_eq_true]; (simp only [Int32.lt_iff_toInt_lt, Int32.le_iff_toInt_le, ← Int32.toInt_inj, Int32.reduceToInt, Int32.not_lt, Int32.not_le] at *; omega))] at g; exact g)
                   | (rw [sp_bestS_F (by simp only [sp_mayS, sp_under, Bool.and_eq_true, decide_eq_true_eq, and_true, ne_eq, Option.some.injEq, reduceCtorEq, not_false_eq_true]; (simp only [Int32.lt_iff_toInt_lt, Int32.le_iff_toInt_le, ← Int32.toInt_inj, Int32.reduceToInt, Int32.not_lt, Int32.not_le] at *; omega))] at g; exact g))
            · skip
              refine am_Rn.go (t := am_t38) rfl 2 rfl ⟨trivial, trivial, trivial⟩ ?_
              refine am_Rn.br (fun h13 => ?_) (fun h13 => ?_)
              · skip
                refine am_Rn.go (t := am_t38) rfl 2 rfl ⟨trivial, trivial, trivial⟩ ?_
                first
                | (have g := ih (i + 1) (some (.int 0)) (by omega)
                   rw [am_fold_succ, hF, ← am_inc] at g
                   (try simp only [e1, e2, am_on, Int32.reduceToNatClampNeg] at *)
                   first
                     | (exfalso; first | contradiction | (simp only [Int32.lt_iff_toInt_lt, Int32.le_iff_toInt_le, ← Int32.toInt_inj, Int32.reduceToInt, Int32.not_lt, Int32.not_le] at *; omega))
                     | (rw [sp_bestS_T (by simp only [sp_mayS, sp_under, Bool.and_eq_true, decide_eq_true_eq, and_true, ne_eq, Option.some.injEq, reduceCtorEq, not_false_eq_true]; (simp only [Int32.lt_iff_toInt_lt, Int32.le_iff_toInt_le, ← Int32.toInt_inj, Int32.reduceToInt, Int32.not_lt, Int32.not_le] at *; omega))] at g; exact g)
                     | (rw [sp_bestS_F (by simp only [sp_mayS, sp_under, Bool.and_eq_true, decide_eq_true_eq, and_true, ne_eq, Option.some.injEq, reduceCtorEq, not_false_eq_true]; (simp only [Int32.lt_iff_toInt_lt, Int32.le_iff_toInt_le, ← Int32.toInt_inj, Int32.reduceToInt, Int32.not_lt, Int32.not_le] at *; omega))] at g; exact g))
                | (have g := ih (i + 1) (some (.int 1)) (by omega)
                   rw [am_fold_succ, hF, ← am_inc] at g
                   (try simp only [e1, e2, am_on, Int32.reduceToNatClampNeg] at *)
                   first
                     | (exfalso; first | contradiction | (simp only [Int32.lt_iff_toInt_lt, Int32.le_iff_toInt_le, ← Int32.toInt_inj, Int32.reduceToInt, Int32.not_lt, Int32.not_le] at *; omega))
                     | (rw [sp_bestS_T (by simp only [sp_mayS, sp_under, Bool.and_eq_true, decide_eq_true_eq, and_true, ne_eq, Option.some.injEq, reduceCtorEq, not_false_eq_true]; (simp only [Int32.lt_iff_toInt_lt, Int32.le_iff_toInt_le, ← Int32.toInt_inj, Int32.reduceToInt, Int32.not_lt, Int32.not_le] at *; omega))] at g; exact g)
                     | (rw [sp_bestS_F (by simp only [sp_mayS, sp_under, Bool.and_eq_true, decide_eq_true_eq, and_true, ne_eq, Option.some.injEq, reduceCtorEq, not_false_eq_true]; (simp only [Int32.lt_iff_toInt_lt, Int32.le_iff_toInt_le, ← Int32.toInt_inj, Int32.reduceToInt, Int32.not_lt, Int32.not_le] at *; omega))] at g; exact g))
              · skip
                refine am_Rn.go (t := am_t38) rfl 2 rfl ⟨trivial, trivial, trivial⟩ ?_
                refine am_Rn.brF hq2 ?_
                refine am_Rn.go (t := am_t38) rfl 9 rfl ⟨trivial, trivial, trivial, (by first | exact am_inb_lit rfl | exact am_inb_of (by omega) (by omega)), trivial, trivial, trivial, (by first | exact am_inb_lit rfl | exact am_inb_of (by omega) (by omega)), trivial, trivial⟩ ?_
                refine am_Rn.br (fun h15 => ?_) (fun h15 => ?_)
                · skip
                  refine am_Rn.go (t := am_t38) rfl 2 rfl ⟨trivial, trivial, trivial⟩ ?_
                  first
                  | (have g := ih (i + 1) (some (.int 0)) (by omega)
                     rw [am_fold_succ, hF, ← am_inc] at g
                     (try simp only [e1, e2, am_on, Int32.reduceToNatClampNeg] at *)
                     first
                       | (exfalso; first | contradiction | (simp only [Int32.lt_iff_toInt_lt, Int32.le_iff_toInt_le, ← Int32.toInt_inj, Int32.reduceToInt, Int32.not_lt, Int32.not_le] at *; omega))
                       | (rw [sp_bestS_T (by simp only [sp_mayS, sp_under, Bool.and_eq_true, decide_eq_true_eq, and_true, ne_eq, Option.some.injEq, reduceCtorEq, not_false_eq_true]; (simp only [Int32.lt_iff_toInt_lt, Int32.le_iff_toInt_le, ← Int32.toInt_inj, Int32.reduceToInt, Int32.not_lt, Int32.not_le] at *; omega))] at g; exact g)
                       | (rw [sp_bestS_F (by simp only [sp_mayS, sp_under, Bool.and_eq_true, decide_eq_true_eq, and_true, ne_eq, Option.some.injEq, reduceCtorEq, not_false_eq_true]; (simp only [Int32.lt_iff_toInt_lt, Int32.le_iff_toInt_le, ← Int32.toInt_inj, Int32.reduceToInt, Int32.not_lt, Int32.not_le] at *; omega))] at g; exact g))
                  | (have g := ih (i + 1) (some (.int 1)) (by omega)
                     rw [am_fold_succ, hF, ← am_inc] at g
                     (try simp only [e1, e2, am_on, Int32.reduceToNatClampNeg] at *)
                     first
                       | (exfalso; first | contradiction | (simp only [Int32.lt_iff_toInt_lt, Int32.le_iff_toInt_le, ← Int32.toInt_inj, Int32.reduceToInt, Int32.not_lt, Int32.not_le] at *; omega))
                       | (rw [sp_bestS_T (by simp only [sp_mayS, sp_under, Bool.and_eq_true, decide_eq_true_eq, and_true, ne_eq, Option.some.injEq, reduceCtorEq, not_false_eq_true]; (simp only [Int32.lt_iff_toInt_lt, Int32.le_iff_toInt_le, ← Int32.toInt_inj, Int32.reduceToInt, Int32.not_lt, Int32.not_le] at *; omega))] at g; exact g)
                       | (rw [sp_bestS_F (by simp only [sp_mayS, sp_under, Bool.and_eq_true, decide_eq_true_eq, and_true, ne_eq, Option.some.injEq, reduceCtorEq, not_false_eq_true]; (simp only [Int32.lt_iff_toInt_lt, Int32.le_iff_toInt_le, ← Int32.toInt_inj, Int32.reduceToInt, Int32.not_lt, Int32.not_le] at *; omega))] at g; exact g))
                · skip
                  refine am_Rn.go (t := am_t38) rfl 4 rfl ⟨trivial, trivial, trivial, trivial, trivial⟩ ?_
                  first
                  | (have g := ih (i + 1) (some (.int 0)) (by omega)
                     rw [am_fold_succ, hF, ← am_inc] at g
                     (try simp only [e1, e2, am_on, Int32.reduceToNatClampNeg] at *)
                     first
                       | (exfalso; first | contradiction | (simp only [Int32.lt_iff_toInt_lt, Int32.le_iff_toInt_le, ← Int32.toInt_inj, Int32.reduceToInt, Int32.not_lt, Int32.not_le] at *; omega))
                       | (rw [sp_bestS_T (by simp only [sp_mayS, sp_under, Bool.and_eq_true, decide_eq_true_eq, and_true, ne_eq, Option.some.injEq, reduceCtorEq, not_false_eq_true]; (simp only [Int32.lt_iff_toInt_lt, Int32.le_iff_toInt_le, ← Int32.toInt_inj, Int32.reduceToInt, Int32.not_lt, Int32.not_le] at *; omega))] at g; exact g)
                       | (rw [sp_bestS_F (by simp only [sp_mayS, sp_under, Bool.and_eq_true, decide_eq_true_eq, and_true, ne_eq, Option.some.injEq, reduceCtorEq, not_false_eq_true]; (simp only [Int32.lt_iff_toInt_lt, Int32.le_iff_toInt_le, ← Int32.toInt_inj, Int32.reduceToInt, Int32.not_lt, Int32.not_le] at *; omega))] at g; exact g))
                  | (have g := ih (i + 1) (some (.int 1)) (by omega)
                     rw [am_fold_succ, hF, ← am_inc] at g
                     (try simp only [e1, e2, am_on, Int32.reduceToNatClampNeg] at *)
                     first
                       | (exfalso; first | contradiction | (simp only [Int32.lt_iff_toInt_lt, Int32.le_iff_toInt_le, ← Int32.toInt_inj, Int32.reduceToInt, Int32.not_lt, Int32.not_le] at *; omega))
                       | (rw [sp_bestS_T (by simp only [sp_mayS, sp_under, Bool.and_eq_true, decide_eq_true_eq, and_true, ne_eq, Option.some.injEq, reduceCtorEq, not_false_eq_true]; (simp only [Int32.lt_iff_toInt_lt, Int32.le_iff_toInt_le, ← Int32.toInt_inj, Int32.reduceToInt, Int32.not_lt, Int32.not_le] at *; omega))] at g; exact g)
                       | (rw [sp_bestS_F (by simp only [sp_mayS, sp_under, Bool.and_eq_true, decide_eq_true_eq, and_true, ne_eq, Option.some.injEq, reduceCtorEq, not_false_eq_true]; (simp only [Int32.lt_iff_toInt_lt, Int32.le_iff_toInt_le, ← Int32.toInt_inj, Int32.reduceToInt, Int32.not_lt, Int32.not_le] at *; omega))] at g; exact g))
  refine am_Rn.go (t := am_t38) rfl 4 rfl ⟨trivial, trivial, trivial, trivial, trivial⟩ ?_
  exact L P 0 _ (by omega)
theorem sx_buyer_B (sc : am_Sc) (nu la me tc ts : Nat → Int32) (P : Nat) (hP : P ≤ 9) (rd pr pv sa pd lo : Int32) (bo co sh se si er of_ bi bt so : Nat → Int32) (B0 B1 B2 B3 B4 : List am_E) (Bs : am_M) : am_Rn sc 37 (0, am_entry 37 [.ref 192], [], B0 :: B1 :: B2 :: B3 :: B4 :: bkRules 160 nu la me tc ts (Int32.ofNat P) :: bkRoom 192 160 rd pr pv sa pd lo bo co sh se si er of_ bi bt so :: Bs) (fun r M' => r = some (.int (am_on (-1) (am_fold P (sp_bestB (sp_mayB nu co bi bt) bi) none))) ∧ M' = B0 :: B1 :: B2 :: B3 :: B4 :: bkRules 160 nu la me tc ts (Int32.ofNat P) :: bkRoom 192 160 rd pr pv sa pd lo bo co sh se si er of_ bi bt so :: Bs) := by
  show am_Rn sc 37 (0, [some (.ref 192), none, none, none], [], _) _
  have L : ∀ (d i : Nat) (x3 : Option Value), i + d = P → am_Rn sc 37 (4, [some (.ref 192), some (.int (am_on (-1) (am_fold i (sp_bestB (sp_mayB nu co bi bt) bi) none))), some (.int (Int32.ofNat i)), x3], [], B0 :: B1 :: B2 :: B3 :: B4 :: bkRules 160 nu la me tc ts (Int32.ofNat P) :: bkRoom 192 160 rd pr pv sa pd lo bo co sh se si er of_ bi bt so :: Bs) (fun r M' => r = some (.int (am_on (-1) (am_fold P (sp_bestB (sp_mayB nu co bi bt) bi) none))) ∧ M' = B0 :: B1 :: B2 :: B3 :: B4 :: bkRules 160 nu la me tc ts (Int32.ofNat P) :: bkRoom 192 160 rd pr pv sa pd lo bo co sh se si er of_ bi bt so :: Bs) := by
    intro d
    induction d with
    | zero =>
      intro i x3 hi
      obtain rfl : i = P := by omega
      refine am_Rn.go (t := am_t37) rfl 5 rfl ⟨trivial, trivial, trivial, trivial, trivial, trivial⟩ ?_
      refine am_Rn.brT (by first | exact (am_le (by omega) (by omega)).mpr (Nat.le_refl _) | exact fun q => absurd ((am_lt (by omega) (by omega)).mp q) (Nat.lt_irrefl _) | decide) ?_
      refine am_Rn.go (t := am_t37) rfl 1 rfl ⟨trivial, trivial⟩ ?_
      refine am_Rn.ret (t := am_t37) rfl rfl trivial ?_
      exact ⟨rfl, rfl⟩
    | succ d ih =>
      intro i x3 hi
      have hiP : i < P := by omega
      have e1 : (Int32.ofNat i).toNatClampNeg = i := am_tn i (by omega)
      have hq := sp_bestB_lt (sp_mayB nu co bi bt) bi i
      generalize hF : (am_fold i (sp_bestB (sp_mayB nu co bi bt) bi) none) = o at hq ⊢
      cases o with
      | none =>
        have e2 := e1
        refine am_Rn.go (t := am_t37) rfl 5 rfl ⟨trivial, trivial, trivial, trivial, trivial, trivial⟩ ?_
        refine am_Rn.brF (by first | exact fun q => absurd ((am_le (by omega) (by omega)).mp q) (by omega) | exact fun q => absurd ((am_le (i := 9) (by omega) (by omega)).mp q) (by omega) | exact fun q => absurd ((am_le (i := 10) (by omega) (by omega)).mp q) (by omega) | exact (am_lt (by omega) (by omega)).mpr hiP) ?_
        refine am_Rn.go (t := am_t37) rfl 21 rfl ⟨trivial, trivial, trivial, (by first | exact am_inb_lit rfl | exact am_inb_of (by omega) (by omega)), trivial, trivial, trivial, trivial, (by first | exact am_inb_lit rfl | exact am_inb_of (by omega) (by omega)), trivial, trivial, trivial, trivial, (by first | exact am_inb_lit rfl | exact am_inb_of (by omega) (by omega)), trivial, trivial, trivial, trivial, (by first | exact am_inb_lit rfl | exact am_inb_of (by omega) (by omega)), trivial, trivial, trivial⟩ ?_
        refine am_Rn.br (fun h2 => ?_) (fun h2 => ?_)
        · skip
          refine am_Rn.go (t := am_t37) rfl 8 rfl ⟨trivial, trivial, trivial, trivial, trivial, (by first | exact am_inb_lit rfl | exact am_inb_of (by omega) (by omega)), trivial, trivial, trivial⟩ ?_
          refine am_Rn.br (fun h3 => ?_) (fun h3 => ?_)
          · skip
            refine am_Rn.go (t := am_t37) rfl 2 rfl ⟨trivial, trivial, trivial⟩ ?_
            first
            | (have g := ih (i + 1) (some (.int 0)) (by omega)
               rw [am_fold_succ, hF, ← am_inc] at g
               (try simp only [e1, e2, am_on, Int32.reduceToNatClampNeg] at *)
               first
                 | (exfalso; first | contradiction | (simp only [Int32.lt_iff_toInt_lt, Int32.le_iff_toInt_le, ← Int32.toInt_inj, Int32.reduceToInt, Int32.not_lt, Int32.not_le] at *; omega))
                 | (rw [sp_bestB_T (by simp only [sp_mayB, sp_over, Bool.and_eq_true, decide_eq_true_eq, and_true, ne_eq, Option.some.injEq, reduceCtorEq, not_false_eq_true]; (simp only [Int32.lt_iff_toInt_lt, Int32.le_iff_toInt_le, ← Int32.toInt_inj, Int32.reduceToInt, Int32.not_lt, Int32.not_le] at *; omega))] at g; exact g)
                 | (rw [sp_bestB_F (by simp only [sp_mayB, sp_over, Bool.and_eq_true, decide_eq_true_eq, and_true, ne_eq, Option.some.injEq, reduceCtorEq, not_false_eq_true]; (simp only [Int32.lt_iff_toInt_lt, Int32.le_iff_toInt_le, ← Int32.toInt_inj, Int32.reduceToInt, Int32.not_lt, Int32.not_le] at *; omega))] at g; exact g))
            | (have g := ih (i + 1) (some (.int 1)) (by omega)
               rw [am_fold_succ, hF, ← am_inc] at g
               (try simp only [e1, e2, am_on, Int32.reduceToNatClampNeg] at *)
               first
                 | (exfalso; first | contradiction | (simp only [Int32.lt_iff_toInt_lt, Int32.le_iff_toInt_le, ← Int32.toInt_inj, Int32.reduceToInt, Int32.not_lt, Int32.not_le] at *; omega))
                 | (rw [sp_bestB_T (by simp only [sp_mayB, sp_over, Bool.and_eq_true, decide_eq_true_eq, and_true, ne_eq, Option.some.injEq, reduceCtorEq, not_false_eq_true]; (simp only [Int32.lt_iff_toInt_lt, Int32.le_iff_toInt_le, ← Int32.toInt_inj, Int32.reduceToInt, Int32.not_lt, Int32.not_le] at *; omega))] at g; exact g)
                 | (rw [sp_bestB_F (by simp only [sp_mayB, sp_over, Bool.and_eq_true, decide_eq_true_eq, and_true, ne_eq, Option.some.injEq, reduceCtorEq, not_false_eq_true]; (simp only [Int32.lt_iff_toInt_lt, Int32.le_iff_toInt_le, ← Int32.toInt_inj, Int32.reduceToInt, Int32.not_lt, Int32.not_le] at *; omega))] at g; exact g))
          · skip
            refine am_Rn.go (t := am_t37) rfl 2 rfl ⟨trivial, trivial, trivial⟩ ?_
            refine am_Rn.br (fun h4 => ?_) (fun h4 => ?_)
            · skip
              refine am_Rn.go (t := am_t37) rfl 2 rfl ⟨trivial, trivial, trivial⟩ ?_
              first
              | (have g := ih (i + 1) (some (.int 0)) (by omega)
                 rw [am_fold_succ, hF, ← am_inc] at g
                 (try simp only [e1, e2, am_on, Int32.reduceToNatClampNeg] at *)
                 first
                   | (exfalso; first | contradiction | (simp only [Int32.lt_iff_toInt_lt, Int32.le_iff_toInt_le, ← Int32.toInt_inj, Int32.reduceToInt, Int32.not_lt, Int32.not_le] at *; omega))
                   | (rw [sp_bestB_T (by simp only [sp_mayB, sp_over, Bool.and_eq_true, decide_eq_true_eq, and_true, ne_eq, Option.some.injEq, reduceCtorEq, not_false_eq_true]; (simp only [Int32.lt_iff_toInt_lt, Int32.le_iff_toInt_le, ← Int32.toInt_inj, Int32.reduceToInt, Int32.not_lt, Int32.not_le] at *; omega))] at g; exact g)
                   | (rw [sp_bestB_F (by simp only [sp_mayB, sp_over, Bool.and_eq_true, decide_eq_true_eq, and_true, ne_eq, Option.some.injEq, reduceCtorEq, not_false_eq_true]; (simp only [Int32.lt_iff_toInt_lt, Int32.le_iff_toInt_le, ← Int32.toInt_inj, Int32.reduceToInt, Int32.not_lt, Int32.not_le] at *; omega))] at g; exact g))
              | (have g := ih (i + 1) (some (.int 1)) (by omega)
                 rw [am_fold_succ, hF, ← am_inc] at g
                 (try simp only [e1, e2, am_on, Int32.reduceToNatClampNeg] at *)
                 first
                   | (exfalso; first | contradiction | (simp only [Int32.lt_iff_toInt_lt, Int32.le_iff_toInt_le, ← Int32.toInt_inj, Int32.reduceToInt, Int32.not_lt, Int32.not_le] at *; omega))
                   | (rw [sp_bestB_T (by simp only [sp_mayB, sp_over, Bool.and_eq_true, decide_eq_true_eq, and_true, ne_eq, Option.some.injEq, reduceCtorEq, not_false_eq_true]; (simp only [Int32.lt_iff_toInt_lt, Int32.le_iff_toInt_le, ← Int32.toInt_inj, Int32.reduceToInt, Int32.not_lt, Int32.not_le] at *; omega))] at g; exact g)
                   | (rw [sp_bestB_F (by simp only [sp_mayB, sp_over, Bool.and_eq_true, decide_eq_true_eq, and_true, ne_eq, Option.some.injEq, reduceCtorEq, not_false_eq_true]; (simp only [Int32.lt_iff_toInt_lt, Int32.le_iff_toInt_le, ← Int32.toInt_inj, Int32.reduceToInt, Int32.not_lt, Int32.not_le] at *; omega))] at g; exact g))
            · skip
              refine am_Rn.go (t := am_t37) rfl 2 rfl ⟨trivial, trivial, trivial⟩ ?_
              refine am_Rn.brT (show (-1 : Int32) < 0 by decide) ?_
              refine am_Rn.go (t := am_t37) rfl 4 rfl ⟨trivial, trivial, trivial, trivial, trivial⟩ ?_
              first
              | (have g := ih (i + 1) (some (.int 0)) (by omega)
                 rw [am_fold_succ, hF, ← am_inc] at g
                 (try simp only [e1, e2, am_on, Int32.reduceToNatClampNeg] at *)
                 first
                   | (exfalso; first | contradiction | (simp only [Int32.lt_iff_toInt_lt, Int32.le_iff_toInt_le, ← Int32.toInt_inj, Int32.reduceToInt, Int32.not_lt, Int32.not_le] at *; omega))
                   | (rw [sp_bestB_T (by simp only [sp_mayB, sp_over, Bool.and_eq_true, decide_eq_true_eq, and_true, ne_eq, Option.some.injEq, reduceCtorEq, not_false_eq_true]; (simp only [Int32.lt_iff_toInt_lt, Int32.le_iff_toInt_le, ← Int32.toInt_inj, Int32.reduceToInt, Int32.not_lt, Int32.not_le] at *; omega))] at g; exact g)
                   | (rw [sp_bestB_F (by simp only [sp_mayB, sp_over, Bool.and_eq_true, decide_eq_true_eq, and_true, ne_eq, Option.some.injEq, reduceCtorEq, not_false_eq_true]; (simp only [Int32.lt_iff_toInt_lt, Int32.le_iff_toInt_le, ← Int32.toInt_inj, Int32.reduceToInt, Int32.not_lt, Int32.not_le] at *; omega))] at g; exact g))
              | (have g := ih (i + 1) (some (.int 1)) (by omega)
                 rw [am_fold_succ, hF, ← am_inc] at g
                 (try simp only [e1, e2, am_on, Int32.reduceToNatClampNeg] at *)
                 first
                   | (exfalso; first | contradiction | (simp only [Int32.lt_iff_toInt_lt, Int32.le_iff_toInt_le, ← Int32.toInt_inj, Int32.reduceToInt, Int32.not_lt, Int32.not_le] at *; omega))
                   | (rw [sp_bestB_T (by simp only [sp_mayB, sp_over, Bool.and_eq_true, decide_eq_true_eq, and_true, ne_eq, Option.some.injEq, reduceCtorEq, not_false_eq_true]; (simp only [Int32.lt_iff_toInt_lt, Int32.le_iff_toInt_le, ← Int32.toInt_inj, Int32.reduceToInt, Int32.not_lt, Int32.not_le] at *; omega))] at g; exact g)
                   | (rw [sp_bestB_F (by simp only [sp_mayB, sp_over, Bool.and_eq_true, decide_eq_true_eq, and_true, ne_eq, Option.some.injEq, reduceCtorEq, not_false_eq_true]; (simp only [Int32.lt_iff_toInt_lt, Int32.le_iff_toInt_le, ← Int32.toInt_inj, Int32.reduceToInt, Int32.not_lt, Int32.not_le] at *; omega))] at g; exact g))
        · skip
          refine am_Rn.go (t := am_t37) rfl 9 rfl ⟨trivial, trivial, trivial, trivial, trivial, trivial, (by first | exact am_inb_lit rfl | exact am_inb_of (by omega) (by omega)), trivial, trivial, trivial⟩ ?_
          refine am_Rn.br (fun h6 => ?_) (fun h6 => ?_)
          · skip
            refine am_Rn.go (t := am_t37) rfl 2 rfl ⟨trivial, trivial, trivial⟩ ?_
            first
            | (have g := ih (i + 1) (some (.int 0)) (by omega)
               rw [am_fold_succ, hF, ← am_inc] at g
               (try simp only [e1, e2, am_on, Int32.reduceToNatClampNeg] at *)
               first
                 | (exfalso; first | contradiction | (simp only [Int32.lt_iff_toInt_lt, Int32.le_iff_toInt_le, ← Int32.toInt_inj, Int32.reduceToInt, Int32.not_lt, Int32.not_le] at *; omega))
                 | (rw [sp_bestB_T (by simp only [sp_mayB, sp_over, Bool.and_eq_true, decide_eq_true_eq, and_true, ne_eq, Option.some.injEq, reduceCtorEq, not_false_eq_true]; (simp only [Int32.lt_iff_toInt_lt, Int32.le_iff_toInt_le, ← Int32.toInt_inj, Int32.reduceToInt, Int32.not_lt, Int32.not_le] at *; omega))] at g; exact g)
                 | (rw [sp_bestB_F (by simp only [sp_mayB, sp_over, Bool.and_eq_true, decide_eq_true_eq, and_true, ne_eq, Option.some.injEq, reduceCtorEq, not_false_eq_true]; (simp only [Int32.lt_iff_toInt_lt, Int32.le_iff_toInt_le, ← Int32.toInt_inj, Int32.reduceToInt, Int32.not_lt, Int32.not_le] at *; omega))] at g; exact g))
            | (have g := ih (i + 1) (some (.int 1)) (by omega)
               rw [am_fold_succ, hF, ← am_inc] at g
               (try simp only [e1, e2, am_on, Int32.reduceToNatClampNeg] at *)
               first
                 | (exfalso; first | contradiction | (simp only [Int32.lt_iff_toInt_lt, Int32.le_iff_toInt_le, ← Int32.toInt_inj, Int32.reduceToInt, Int32.not_lt, Int32.not_le] at *; omega))
                 | (rw [sp_bestB_T (by simp only [sp_mayB, sp_over, Bool.and_eq_true, decide_eq_true_eq, and_true, ne_eq, Option.some.injEq, reduceCtorEq, not_false_eq_true]; (simp only [Int32.lt_iff_toInt_lt, Int32.le_iff_toInt_le, ← Int32.toInt_inj, Int32.reduceToInt, Int32.not_lt, Int32.not_le] at *; omega))] at g; exact g)
                 | (rw [sp_bestB_F (by simp only [sp_mayB, sp_over, Bool.and_eq_true, decide_eq_true_eq, and_true, ne_eq, Option.some.injEq, reduceCtorEq, not_false_eq_true]; (simp only [Int32.lt_iff_toInt_lt, Int32.le_iff_toInt_le, ← Int32.toInt_inj, Int32.reduceToInt, Int32.not_lt, Int32.not_le] at *; omega))] at g; exact g))
          · skip
            refine am_Rn.go (t := am_t37) rfl 2 rfl ⟨trivial, trivial, trivial⟩ ?_
            refine am_Rn.br (fun h7 => ?_) (fun h7 => ?_)
            · skip
              refine am_Rn.go (t := am_t37) rfl 2 rfl ⟨trivial, trivial, trivial⟩ ?_
              first
              | (have g := ih (i + 1) (some (.int 0)) (by omega)
                 rw [am_fold_succ, hF, ← am_inc] at g
                 (try simp only [e1, e2, am_on, Int32.reduceToNatClampNeg] at *)
                 first
                   | (exfalso; first | contradiction | (simp only [Int32.lt_iff_toInt_lt, Int32.le_iff_toInt_le, ← Int32.toInt_inj, Int32.reduceToInt, Int32.not_lt, Int32.not_le] at *; omega))
                   | (rw [sp_bestB_T (by simp only [sp_mayB, sp_over, Bool.and_eq_true, decide_eq_true_eq, and_true, ne_eq, Option.some.injEq, reduceCtorEq, not_false_eq_true]; (simp only [Int32.lt_iff_toInt_lt, Int32.le_iff_toInt_le, ← Int32.toInt_inj, Int32.reduceToInt, Int32.not_lt, Int32.not_le] at *; omega))] at g; exact g)
                   | (rw [sp_bestB_F (by simp only [sp_mayB, sp_over, Bool.and_eq_true, decide_eq_true_eq, and_true, ne_eq, Option.some.injEq, reduceCtorEq, not_false_eq_true]; (simp only [Int32.lt_iff_toInt_lt, Int32.le_iff_toInt_le, ← Int32.toInt_inj, Int32.reduceToInt, Int32.not_lt, Int32.not_le] at *; omega))] at g; exact g))
              | (have g := ih (i + 1) (some (.int 1)) (by omega)
                 rw [am_fold_succ, hF, ← am_inc] at g
                 (try simp only [e1, e2, am_on, Int32.reduceToNatClampNeg] at *)
                 first
                   | (exfalso; first | contradiction | (simp only [Int32.lt_iff_toInt_lt, Int32.le_iff_toInt_le, ← Int32.toInt_inj, Int32.reduceToInt, Int32.not_lt, Int32.not_le] at *; omega))
                   | (rw [sp_bestB_T (by simp only [sp_mayB, sp_over, Bool.and_eq_true, decide_eq_true_eq, and_true, ne_eq, Option.some.injEq, reduceCtorEq, not_false_eq_true]; (simp only [Int32.lt_iff_toInt_lt, Int32.le_iff_toInt_le, ← Int32.toInt_inj, Int32.reduceToInt, Int32.not_lt, Int32.not_le] at *; omega))] at g; exact g)
                   | (rw [sp_bestB_F (by simp only [sp_mayB, sp_over, Bool.and_eq_true, decide_eq_true_eq, and_true, ne_eq, Option.some.injEq, reduceCtorEq, not_false_eq_true]; (simp only [Int32.lt_iff_toInt_lt, Int32.le_iff_toInt_le, ← Int32.toInt_inj, Int32.reduceToInt, Int32.not_lt, Int32.not_le] at *; omega))] at g; exact g))
            · skip
              refine am_Rn.go (t := am_t37) rfl 2 rfl ⟨trivial, trivial, trivial⟩ ?_
              refine am_Rn.brT (show (-1 : Int32) < 0 by decide) ?_
              refine am_Rn.go (t := am_t37) rfl 4 rfl ⟨trivial, trivial, trivial, trivial, trivial⟩ ?_
              first
              | (have g := ih (i + 1) (some (.int 0)) (by omega)
                 rw [am_fold_succ, hF, ← am_inc] at g
                 (try simp only [e1, e2, am_on, Int32.reduceToNatClampNeg] at *)
                 first
                   | (exfalso; first | contradiction | (simp only [Int32.lt_iff_toInt_lt, Int32.le_iff_toInt_le, ← Int32.toInt_inj, Int32.reduceToInt, Int32.not_lt, Int32.not_le] at *; omega))
                   | (rw [sp_bestB_T (by simp only [sp_mayB, sp_over, Bool.and_eq_true, decide_eq_true_eq, and_true, ne_eq, Option.some.injEq, reduceCtorEq, not_false_eq_true]; (simp only [Int32.lt_iff_toInt_lt, Int32.le_iff_toInt_le, ← Int32.toInt_inj, Int32.reduceToInt, Int32.not_lt, Int32.not_le] at *; omega))] at g; exact g)
                   | (rw [sp_bestB_F (by simp only [sp_mayB, sp_over, Bool.and_eq_true, decide_eq_true_eq, and_true, ne_eq, Option.some.injEq, reduceCtorEq, not_false_eq_true]; (simp only [Int32.lt_iff_toInt_lt, Int32.le_iff_toInt_le, ← Int32.toInt_inj, Int32.reduceToInt, Int32.not_lt, Int32.not_le] at *; omega))] at g; exact g))
              | (have g := ih (i + 1) (some (.int 1)) (by omega)
                 rw [am_fold_succ, hF, ← am_inc] at g
                 (try simp only [e1, e2, am_on, Int32.reduceToNatClampNeg] at *)
                 first
                   | (exfalso; first | contradiction | (simp only [Int32.lt_iff_toInt_lt, Int32.le_iff_toInt_le, ← Int32.toInt_inj, Int32.reduceToInt, Int32.not_lt, Int32.not_le] at *; omega))
                   | (rw [sp_bestB_T (by simp only [sp_mayB, sp_over, Bool.and_eq_true, decide_eq_true_eq, and_true, ne_eq, Option.some.injEq, reduceCtorEq, not_false_eq_true]; (simp only [Int32.lt_iff_toInt_lt, Int32.le_iff_toInt_le, ← Int32.toInt_inj, Int32.reduceToInt, Int32.not_lt, Int32.not_le] at *; omega))] at g; exact g)
                   | (rw [sp_bestB_F (by simp only [sp_mayB, sp_over, Bool.and_eq_true, decide_eq_true_eq, and_true, ne_eq, Option.some.injEq, reduceCtorEq, not_false_eq_true]; (simp only [Int32.lt_iff_toInt_lt, Int32.le_iff_toInt_le, ← Int32.toInt_inj, Int32.reduceToInt, Int32.not_lt, Int32.not_le] at *; omega))] at g; exact g))
      | some q =>
        have hq1 := hq q rfl
        have e2 : (Int32.ofNat q).toNatClampNeg = q := am_tn q (by omega)
        have hq2 : ¬ Int32.ofNat q < 0 := fun h => absurd ((am_lt (i := q) (j := 0) (by omega) (by omega)).mp h) (by omega)
        refine am_Rn.go (t := am_t37) rfl 5 rfl ⟨trivial, trivial, trivial, trivial, trivial, trivial⟩ ?_
        refine am_Rn.brF (by first | exact fun q => absurd ((am_le (by omega) (by omega)).mp q) (by omega) | exact fun q => absurd ((am_le (i := 9) (by omega) (by omega)).mp q) (by omega) | exact fun q => absurd ((am_le (i := 10) (by omega) (by omega)).mp q) (by omega) | exact (am_lt (by omega) (by omega)).mpr hiP) ?_
        refine am_Rn.go (t := am_t37) rfl 21 rfl ⟨trivial, trivial, trivial, (by first | exact am_inb_lit rfl | exact am_inb_of (by omega) (by omega)), trivial, trivial, trivial, trivial, (by first | exact am_inb_lit rfl | exact am_inb_of (by omega) (by omega)), trivial, trivial, trivial, trivial, (by first | exact am_inb_lit rfl | exact am_inb_of (by omega) (by omega)), trivial, trivial, trivial, trivial, (by first | exact am_inb_lit rfl | exact am_inb_of (by omega) (by omega)), trivial, trivial, trivial⟩ ?_
        refine am_Rn.br (fun h2 => ?_) (fun h2 => ?_)
        · skip
          refine am_Rn.go (t := am_t37) rfl 8 rfl ⟨trivial, trivial, trivial, trivial, trivial, (by first | exact am_inb_lit rfl | exact am_inb_of (by omega) (by omega)), trivial, trivial, trivial⟩ ?_
          refine am_Rn.br (fun h3 => ?_) (fun h3 => ?_)
          · skip
            refine am_Rn.go (t := am_t37) rfl 2 rfl ⟨trivial, trivial, trivial⟩ ?_
            first
            | (have g := ih (i + 1) (some (.int 0)) (by omega)
               rw [am_fold_succ, hF, ← am_inc] at g
               (try simp only [e1, e2, am_on, Int32.reduceToNatClampNeg] at *)
               first
                 | (exfalso; first | contradiction | (simp only [Int32.lt_iff_toInt_lt, Int32.le_iff_toInt_le, ← Int32.toInt_inj, Int32.reduceToInt, Int32.not_lt, Int32.not_le] at *; omega))
                 | (rw [sp_bestB_T (by simp only [sp_mayB, sp_over, Bool.and_eq_true, decide_eq_true_eq, and_true, ne_eq, Option.some.injEq, reduceCtorEq, not_false_eq_true]; (simp only [Int32.lt_iff_toInt_lt, Int32.le_iff_toInt_le, ← Int32.toInt_inj, Int32.reduceToInt, Int32.not_lt, Int32.not_le] at *; omega))] at g; exact g)
                 | (rw [sp_bestB_F (by simp only [sp_mayB, sp_over, Bool.and_eq_true, decide_eq_true_eq, and_true, ne_eq, Option.some.injEq, reduceCtorEq, not_false_eq_true]; (simp only [Int32.lt_iff_toInt_lt, Int32.le_iff_toInt_le, ← Int32.toInt_inj, Int32.reduceToInt, Int32.not_lt, Int32.not_le] at *; omega))] at g; exact g))
            | (have g := ih (i + 1) (some (.int 1)) (by omega)
               rw [am_fold_succ, hF, ← am_inc] at g
               (try simp only [e1, e2, am_on, Int32.reduceToNatClampNeg] at *)
               first
                 | (exfalso; first | contradiction | (simp only [Int32.lt_iff_toInt_lt, Int32.le_iff_toInt_le, ← Int32.toInt_inj, Int32.reduceToInt, Int32.not_lt, Int32.not_le] at *; omega))
                 | (rw [sp_bestB_T (by simp only [sp_mayB, sp_over, Bool.and_eq_true, decide_eq_true_eq, and_true, ne_eq, Option.some.injEq, reduceCtorEq, not_false_eq_true]; (simp only [Int32.lt_iff_toInt_lt, Int32.le_iff_toInt_le, ← Int32.toInt_inj, Int32.reduceToInt, Int32.not_lt, Int32.not_le] at *; omega))] at g; exact g)
                 | (rw [sp_bestB_F (by simp only [sp_mayB, sp_over, Bool.and_eq_true, decide_eq_true_eq, and_true, ne_eq, Option.some.injEq, reduceCtorEq, not_false_eq_true]; (simp only [Int32.lt_iff_toInt_lt, Int32.le_iff_toInt_le, ← Int32.toInt_inj, Int32.reduceToInt, Int32.not_lt, Int32.not_le] at *; omega))] at g; exact g))
          · skip
            refine am_Rn.go (t := am_t37) rfl 2 rfl ⟨trivial, trivial, trivial⟩ ?_
            refine am_Rn.br (fun h4 => ?_) (fun h4 => ?_)
            · skip
              refine am_Rn.go (t := am_t37) rfl 2 rfl ⟨trivial, trivial, trivial⟩ ?_
              first
              | (have g := ih (i + 1) (some (.int 0)) (by omega)
                 rw [am_fold_succ, hF, ← am_inc] at g
                 (try simp only [e1, e2, am_on, Int32.reduceToNatClampNeg] at *)
                 first
                   | (exfalso; first | contradiction | (simp only [Int32.lt_iff_toInt_lt, Int32.le_iff_toInt_le, ← Int32.toInt_inj, Int32.reduceToInt, Int32.not_lt, Int32.not_le] at *; omega))
                   | (rw [sp_bestB_T (by simp only [sp_mayB, sp_over, Bool.and_eq_true, decide_eq_true_eq, and_true, ne_eq, Option.some.injEq, reduceCtorEq, not_false_eq_true]; (simp only [Int32.lt_iff_toInt_lt, Int32.le_iff_toInt_le, ← Int32.toInt_inj, Int32.reduceToInt, Int32.not_lt, Int32.not_le] at *; omega))] at g; exact g)
                   | (rw [sp_bestB_F (by simp only [sp_mayB, sp_over, Bool.and_eq_true, decide_eq_true_eq, and_true, ne_eq, Option.some.injEq, reduceCtorEq, not_false_eq_true]; (simp only [Int32.lt_iff_toInt_lt, Int32.le_iff_toInt_le, ← Int32.toInt_inj, Int32.reduceToInt, Int32.not_lt, Int32.not_le] at *; omega))] at g; exact g))
              | (have g := ih (i + 1) (some (.int 1)) (by omega)
                 rw [am_fold_succ, hF, ← am_inc] at g
                 (try simp only [e1, e2, am_on, Int32.reduceToNatClampNeg] at *)
                 first
                   | (exfalso; first | contradiction | (simp only [Int32.lt_iff_toInt_lt, Int32.le_iff_toInt_le, ← Int32.toInt_inj, Int32.reduceToInt, Int32.not_lt, Int32.not_le] at *; omega))
                   | (rw [sp_bestB_T (by simp only [sp_mayB, sp_over, Bool.and_eq_true, decide_eq_true_eq, and_true, ne_eq, Option.some.injEq, reduceCtorEq, not_false_eq_true]; (simp only [Int32.lt_iff_toInt_lt, Int32.le_iff_toInt_le, ← Int32.toInt_inj, Int32.reduceToInt, Int32.not_lt, Int32.not_le] at *; omega))] at g; exact g)
                   | (rw [sp_bestB_F (by simp only [sp_mayB, sp_over, Bool.and_eq_true, decide_eq_true_eq, and_true, ne_eq, Option.some.injEq, reduceCtorEq, not_false_eq_true]; (simp only [Int32.lt_iff_toInt_lt, Int32.le_iff_toInt_le, ← Int32.toInt_inj, Int32.reduceToInt, Int32.not_lt, Int32.not_le] at *; omega))] at g; exact g))
            · skip
              refine am_Rn.go (t := am_t37) rfl 2 rfl ⟨trivial, trivial, trivial⟩ ?_
              refine am_Rn.brF hq2 ?_
              refine am_Rn.go (t := am_t37) rfl 9 rfl ⟨trivial, trivial, trivial, (by first | exact am_inb_lit rfl | exact am_inb_of (by omega) (by omega)), trivial, trivial, trivial, (by first | exact am_inb_lit rfl | exact am_inb_of (by omega) (by omega)), trivial, trivial⟩ ?_
              refine am_Rn.br (fun h6 => ?_) (fun h6 => ?_)
              · skip
                refine am_Rn.go (t := am_t37) rfl 2 rfl ⟨trivial, trivial, trivial⟩ ?_
                first
                | (have g := ih (i + 1) (some (.int 0)) (by omega)
                   rw [am_fold_succ, hF, ← am_inc] at g
                   (try simp only [e1, e2, am_on, Int32.reduceToNatClampNeg] at *)
                   first
                     | (exfalso; first | contradiction | (simp only [Int32.lt_iff_toInt_lt, Int32.le_iff_toInt_le, ← Int32.toInt_inj, Int32.reduceToInt, Int32.not_lt, Int32.not_le] at *; omega))
                     | (rw [sp_bestB_T (by simp only [sp_mayB, sp_over, Bool.and_eq_true, decide_eq_true_eq, and_true, ne_eq, Option.some.injEq, reduceCtorEq, not_false_eq_true]; (simp only [Int32.lt_iff_toInt_lt, Int32.le_iff_toInt_le, ← Int32.toInt_inj, Int32.reduceToInt, Int32.not_lt, Int32.not_le] at *; omega))] at g; exact g)
                     | (rw [sp_bestB_F (by simp only [sp_mayB, sp_over, Bool.and_eq_true, decide_eq_true_eq, and_true, ne_eq, Option.some.injEq, reduceCtorEq, not_false_eq_true]; (simp only [Int32.lt_iff_toInt_lt, Int32.le_iff_toInt_le, ← Int32.toInt_inj, Int32.reduceToInt, Int32.not_lt, Int32.not_le] at *; omega))] at g; exact g))
                | (have g := ih (i + 1) (some (.int 1)) (by omega)
                   rw [am_fold_succ, hF, ← am_inc] at g
                   (try simp only [e1, e2, am_on, Int32.reduceToNatClampNeg] at *)
                   first
                     | (exfalso; first | contradiction | (simp only [Int32.lt_iff_toInt_lt, Int32.le_iff_toInt_le, ← Int32.toInt_inj, Int32.reduceToInt, Int32.not_lt, Int32.not_le] at *; omega))
                     | (rw [sp_bestB_T (by simp only [sp_mayB, sp_over, Bool.and_eq_true, decide_eq_true_eq, and_true, ne_eq, Option.some.injEq, reduceCtorEq, not_false_eq_true]; (simp only [Int32.lt_iff_toInt_lt, Int32.le_iff_toInt_le, ← Int32.toInt_inj, Int32.reduceToInt, Int32.not_lt, Int32.not_le] at *; omega))] at g; exact g)
                     | (rw [sp_bestB_F (by simp only [sp_mayB, sp_over, Bool.and_eq_true, decide_eq_true_eq, and_true, ne_eq, Option.some.injEq, reduceCtorEq, not_false_eq_true]; (simp only [Int32.lt_iff_toInt_lt, Int32.le_iff_toInt_le, ← Int32.toInt_inj, Int32.reduceToInt, Int32.not_lt, Int32.not_le] at *; omega))] at g; exact g))
              · skip
                refine am_Rn.go (t := am_t37) rfl 4 rfl ⟨trivial, trivial, trivial, trivial, trivial⟩ ?_
                first
                | (have g := ih (i + 1) (some (.int 0)) (by omega)
                   rw [am_fold_succ, hF, ← am_inc] at g
                   (try simp only [e1, e2, am_on, Int32.reduceToNatClampNeg] at *)
                   first
                     | (exfalso; first | contradiction | (simp only [Int32.lt_iff_toInt_lt, Int32.le_iff_toInt_le, ← Int32.toInt_inj, Int32.reduceToInt, Int32.not_lt, Int32.not_le] at *; omega))
                     | (rw [sp_bestB_T (by simp only [sp_mayB, sp_over, Bool.and_eq_true, decide_eq_true_eq, and_true, ne_eq, Option.some.injEq, reduceCtorEq, not_false_eq_true]; (simp only [Int32.lt_iff_toInt_lt, Int32.le_iff_toInt_le, ← Int32.toInt_inj, Int32.reduceToInt, Int32.not_lt, Int32.not_le] at *; omega))] at g; exact g)
                     | (rw [sp_bestB_F (by simp only [sp_mayB, sp_over, Bool.and_eq_true, decide_eq_true_eq, and_true, ne_eq, Option.some.injEq, reduceCtorEq, not_false_eq_true]; (simp only [Int32.lt_iff_toInt_lt, Int32.le_iff_toInt_le, ← Int32.toInt_inj, Int32.reduceToInt, Int32.not_lt, Int32.not_le] at *; omega))] at g; exact g))
                | (have g := ih (i + 1) (some (.int 1)) (by omega)
                   rw [am_fold_succ, hF, ← am_inc] at g
                   (try simp only [e1, e2, am_on, Int32.reduceToNatClampNeg] at *)
                   first
                     | (exfalso; first | contradiction | (simp only [Int32.lt_iff_toInt_lt, Int32.le_iff_toInt_le, ← Int32.toInt_inj, Int32.reduceToInt, Int32.not_lt, Int32.not_le] at *; omega))
                     | (rw [sp_bestB_T (by simp only [sp_mayB, sp_over, Bool.and_eq_true, decide_eq_true_eq, and_true, ne_eq, Option.some.injEq, reduceCtorEq, not_false_eq_true]; (simp only [Int32.lt_iff_toInt_lt, Int32.le_iff_toInt_le, ← Int32.toInt_inj, Int32.reduceToInt, Int32.not_lt, Int32.not_le] at *; omega))] at g; exact g)
                     | (rw [sp_bestB_F (by simp only [sp_mayB, sp_over, Bool.and_eq_true, decide_eq_true_eq, and_true, ne_eq, Option.some.injEq, reduceCtorEq, not_false_eq_true]; (simp only [Int32.lt_iff_toInt_lt, Int32.le_iff_toInt_le, ← Int32.toInt_inj, Int32.reduceToInt, Int32.not_lt, Int32.not_le] at *; omega))] at g; exact g))
        · skip
          refine am_Rn.go (t := am_t37) rfl 9 rfl ⟨trivial, trivial, trivial, trivial, trivial, trivial, (by first | exact am_inb_lit rfl | exact am_inb_of (by omega) (by omega)), trivial, trivial, trivial⟩ ?_
          refine am_Rn.br (fun h7 => ?_) (fun h7 => ?_)
          · skip
            refine am_Rn.go (t := am_t37) rfl 2 rfl ⟨trivial, trivial, trivial⟩ ?_
            first
            | (have g := ih (i + 1) (some (.int 0)) (by omega)
               rw [am_fold_succ, hF, ← am_inc] at g
               (try simp only [e1, e2, am_on, Int32.reduceToNatClampNeg] at *)
               first
                 | (exfalso; first | contradiction | (simp only [Int32.lt_iff_toInt_lt, Int32.le_iff_toInt_le, ← Int32.toInt_inj, Int32.reduceToInt, Int32.not_lt, Int32.not_le] at *; omega))
                 | (rw [sp_bestB_T (by simp only [sp_mayB, sp_over, Bool.and_eq_true, decide_eq_true_eq, and_true, ne_eq, Option.some.injEq, reduceCtorEq, not_false_eq_true]; (simp only [Int32.lt_iff_toInt_lt, Int32.le_iff_toInt_le, ← Int32.toInt_inj, Int32.reduceToInt, Int32.not_lt, Int32.not_le] at *; omega))] at g; exact g)
                 | (rw [sp_bestB_F (by simp only [sp_mayB, sp_over, Bool.and_eq_true, decide_eq_true_eq, and_true, ne_eq, Option.some.injEq, reduceCtorEq, not_false_eq_true]; (simp only [Int32.lt_iff_toInt_lt, Int32.le_iff_toInt_le, ← Int32.toInt_inj, Int32.reduceToInt, Int32.not_lt, Int32.not_le] at *; omega))] at g; exact g))
            | (have g := ih (i + 1) (some (.int 1)) (by omega)
               rw [am_fold_succ, hF, ← am_inc] at g
               (try simp only [e1, e2, am_on, Int32.reduceToNatClampNeg] at *)
               first
                 | (exfalso; first | contradiction | (simp only [Int32.lt_iff_toInt_lt, Int32.le_iff_toInt_le, ← Int32.toInt_inj, Int32.reduceToInt, Int32.not_lt, Int32.not_le] at *; omega))
                 | (rw [sp_bestB_T (by simp only [sp_mayB, sp_over, Bool.and_eq_true, decide_eq_true_eq, and_true, ne_eq, Option.some.injEq, reduceCtorEq, not_false_eq_true]; (simp only [Int32.lt_iff_toInt_lt, Int32.le_iff_toInt_le, ← Int32.toInt_inj, Int32.reduceToInt, Int32.not_lt, Int32.not_le] at *; omega))] at g; exact g)
                 | (rw [sp_bestB_F (by simp only [sp_mayB, sp_over, Bool.and_eq_true, decide_eq_true_eq, and_true, ne_eq, Option.some.injEq, reduceCtorEq, not_false_eq_true]; (simp only [Int32.lt_iff_toInt_lt, Int32.le_iff_toInt_le, ← Int32.toInt_inj, Int32.reduceToInt, Int32.not_lt, Int32.not_le] at *; omega))] at g; exact g))
          · skip
            refine am_Rn.go (t := am_t37) rfl 2 rfl ⟨trivial, trivial, trivial⟩ ?_
            refine am_Rn.br (fun h8 => ?_) (fun h8 => ?_)
            · skip
              refine am_Rn.go (t := am_t37) rfl 2 rfl ⟨trivial, trivial, trivial⟩ ?_
              first
              | (have g := ih (i + 1) (some (.int 0)) (by omega)
                 rw [am_fold_succ, hF, ← am_inc] at g
                 (try simp only [e1, e2, am_on, Int32.reduceToNatClampNeg] at *)
                 first
                   | (exfalso; first | contradiction | (simp only [Int32.lt_iff_toInt_lt, Int32.le_iff_toInt_le, ← Int32.toInt_inj, Int32.reduceToInt, Int32.not_lt, Int32.not_le] at *; omega))
                   | (rw [sp_bestB_T (by simp only [sp_mayB, sp_over, Bool.and_eq_true, decide_eq_true_eq, and_true, ne_eq, Option.some.injEq, reduceCtorEq, not_false_eq_true]; (simp only [Int32.lt_iff_toInt_lt, Int32.le_iff_toInt_le, ← Int32.toInt_inj, Int32.reduceToInt, Int32.not_lt, Int32.not_le] at *; omega))] at g; exact g)
                   | (rw [sp_bestB_F (by simp only [sp_mayB, sp_over, Bool.and_eq_true, decide_eq_true_eq, and_true, ne_eq, Option.some.injEq, reduceCtorEq, not_false_eq_true]; (simp only [Int32.lt_iff_toInt_lt, Int32.le_iff_toInt_le, ← Int32.toInt_inj, Int32.reduceToInt, Int32.not_lt, Int32.not_le] at *; omega))] at g; exact g))
              | (have g := ih (i + 1) (some (.int 1)) (by omega)
                 rw [am_fold_succ, hF, ← am_inc] at g
                 (try simp only [e1, e2, am_on, Int32.reduceToNatClampNeg] at *)
                 first
                   | (exfalso; first | contradiction | (simp only [Int32.lt_iff_toInt_lt, Int32.le_iff_toInt_le, ← Int32.toInt_inj, Int32.reduceToInt, Int32.not_lt, Int32.not_le] at *; omega))
                   | (rw [sp_bestB_T (by simp only [sp_mayB, sp_over, Bool.and_eq_true, decide_eq_true_eq, and_true, ne_eq, Option.some.injEq, reduceCtorEq, not_false_eq_true]; (simp only [Int32.lt_iff_toInt_lt, Int32.le_iff_toInt_le, ← Int32.toInt_inj, Int32.reduceToInt, Int32.not_lt, Int32.not_le] at *; omega))] at g; exact g)
                   | (rw [sp_bestB_F (by simp only [sp_mayB, sp_over, Bool.and_eq_true, decide_eq_true_eq, and_true, ne_eq, Option.some.injEq, reduceCtorEq, not_false_eq_true]; (simp only [Int32.lt_iff_toInt_lt, Int32.le_iff_toInt_le, ← Int32.toInt_inj, Int32.reduceToInt, Int32.not_lt, Int32.not_le] at *; omega))] at g; exact g))
            · skip
              refine am_Rn.go (t := am_t37) rfl 2 rfl ⟨trivial, trivial, trivial⟩ ?_
              refine am_Rn.brF hq2 ?_
              refine am_Rn.go (t := am_t37) rfl 9 rfl ⟨trivial, trivial, trivial, (by first | exact am_inb_lit rfl | exact am_inb_of (by omega) (by omega)), trivial, trivial, trivial, (by first | exact am_inb_lit rfl | exact am_inb_of (by omega) (by omega)), trivial, trivial⟩ ?_
              refine am_Rn.br (fun h10 => ?_) (fun h10 => ?_)
              · skip
                refine am_Rn.go (t := am_t37) rfl 2 rfl ⟨trivial, trivial, trivial⟩ ?_
                first
                | (have g := ih (i + 1) (some (.int 0)) (by omega)
                   rw [am_fold_succ, hF, ← am_inc] at g
                   (try simp only [e1, e2, am_on, Int32.reduceToNatClampNeg] at *)
                   first
                     | (exfalso; first | contradiction | (simp only [Int32.lt_iff_toInt_lt, Int32.le_iff_toInt_le, ← Int32.toInt_inj, Int32.reduceToInt, Int32.not_lt, Int32.not_le] at *; omega))
                     | (rw [sp_bestB_T (by simp only [sp_mayB, sp_over, Bool.and_eq_true, decide_eq_true_eq, and_true, ne_eq, Option.some.injEq, reduceCtorEq, not_false_eq_true]; (simp only [Int32.lt_iff_toInt_lt, Int32.le_iff_toInt_le, ← Int32.toInt_inj, Int32.reduceToInt, Int32.not_lt, Int32.not_le] at *; omega))] at g; exact g)
                     | (rw [sp_bestB_F (by simp only [sp_mayB, sp_over, Bool.and_eq_true, decide_eq_true_eq, and_true, ne_eq, Option.some.injEq, reduceCtorEq, not_false_eq_true]; (simp only [Int32.lt_iff_toInt_lt, Int32.le_iff_toInt_le, ← Int32.toInt_inj, Int32.reduceToInt, Int32.not_lt, Int32.not_le] at *; omega))] at g; exact g))
                | (have g := ih (i + 1) (some (.int 1)) (by omega)
                   rw [am_fold_succ, hF, ← am_inc] at g
                   (try simp only [e1, e2, am_on, Int32.reduceToNatClampNeg] at *)
                   first
                     | (exfalso; first | contradiction | (simp only [Int32.lt_iff_toInt_lt, Int32.le_iff_toInt_le, ← Int32.toInt_inj, Int32.reduceToInt, Int32.not_lt, Int32.not_le] at *; omega))
                     | (rw [sp_bestB_T (by simp only [sp_mayB, sp_over, Bool.and_eq_true, decide_eq_true_eq, and_true, ne_eq, Option.some.injEq, reduceCtorEq, not_false_eq_true]; (simp only [Int32.lt_iff_toInt_lt, Int32.le_iff_toInt_le, ← Int32.toInt_inj, Int32.reduceToInt, Int32.not_lt, Int32.not_le] at *; omega))] at g; exact g)
                     | (rw [sp_bestB_F (by simp only [sp_mayB, sp_over, Bool.and_eq_true, decide_eq_true_eq, and_true, ne_eq, Option.some.injEq, reduceCtorEq, not_false_eq_true]; (simp only [Int32.lt_iff_toInt_lt, Int32.le_iff_toInt_le, ← Int32.toInt_inj, Int32.reduceToInt, Int32.not_lt, Int32.not_le] at *; omega))] at g; exact g))
              · skip
                refine am_Rn.go (t := am_t37) rfl 4 rfl ⟨trivial, trivial, trivial, trivial, trivial⟩ ?_
                first
                | (have g := ih (i + 1) (some (.int 0)) (by omega)
                   rw [am_fold_succ, hF, ← am_inc] at g
                   (try simp only [e1, e2, am_on, Int32.reduceToNatClampNeg] at *)
                   first
                     | (exfalso; first | contradiction | (simp only [Int32.lt_iff_toInt_lt, Int32.le_iff_toInt_le, ← Int32.toInt_inj, Int32.reduceToInt, Int32.not_lt, Int32.not_le] at *; omega))
                     | (rw [sp_bestB_T (by simp only [sp_mayB, sp_over, Bool.and_eq_true, decide_eq_true_eq, and_true, ne_eq, Option.some.injEq, reduceCtorEq, not_false_eq_true]; (simp only [Int32.lt_iff_toInt_lt, Int32.le_iff_toInt_le, ← Int32.toInt_inj, Int32.reduceToInt, Int32.not_lt, Int32.not_le] at *; omega))] at g; exact g)
                     | (rw [sp_bestB_F (by simp only [sp_mayB, sp_over, Bool.and_eq_true, decide_eq_true_eq, and_true, ne_eq, Option.some.injEq, reduceCtorEq, not_false_eq_true]; (simp only [Int32.lt_iff_toInt_lt, Int32.le_iff_toInt_le, ← Int32.toInt_inj, Int32.reduceToInt, Int32.not_lt, Int32.not_le] at *; omega))] at g; exact g))
                | (have g := ih (i + 1) (some (.int 1)) (by omega)
                   rw [am_fold_succ, hF, ← am_inc] at g
                   (try simp only [e1, e2, am_on, Int32.reduceToNatClampNeg] at *)
                   first
                     | (exfalso; first | contradiction | (simp only [Int32.lt_iff_toInt_lt, Int32.le_iff_toInt_le, ← Int32.toInt_inj, Int32.reduceToInt, Int32.not_lt, Int32.not_le] at *; omega))
                     | (rw [sp_bestB_T (by simp only [sp_mayB, sp_over, Bool.and_eq_true, decide_eq_true_eq, and_true, ne_eq, Option.some.injEq, reduceCtorEq, not_false_eq_true]; (simp only [Int32.lt_iff_toInt_lt, Int32.le_iff_toInt_le, ← Int32.toInt_inj, Int32.reduceToInt, Int32.not_lt, Int32.not_le] at *; omega))] at g; exact g)
                     | (rw [sp_bestB_F (by simp only [sp_mayB, sp_over, Bool.and_eq_true, decide_eq_true_eq, and_true, ne_eq, Option.some.injEq, reduceCtorEq, not_false_eq_true]; (simp only [Int32.lt_iff_toInt_lt, Int32.le_iff_toInt_le, ← Int32.toInt_inj, Int32.reduceToInt, Int32.not_lt, Int32.not_le] at *; omega))] at g; exact g))
  refine am_Rn.go (t := am_t37) rfl 4 rfl ⟨trivial, trivial, trivial, trivial, trivial⟩ ?_
  exact L P 0 _ (by omega)
theorem sx_seller_B (sc : am_Sc) (b : Option Nat) (hb : ∀ q, b = some q → q < 9) (nu la me tc ts : Nat → Int32) (P : Nat) (hP : P ≤ 9) (rd pr pv sa pd lo : Int32) (bo co sh se si er of_ bi bt so : Nat → Int32) (B0 B1 B2 B3 B4 : List am_E) (Bs : am_M) : am_Rn sc 38 (0, am_entry 38 [.ref 192, .int (am_on (-1) b)], [], B0 :: B1 :: B2 :: B3 :: B4 :: bkRules 160 nu la me tc ts (Int32.ofNat P) :: bkRoom 192 160 rd pr pv sa pd lo bo co sh se si er of_ bi bt so :: Bs) (fun r M' => r = some (.int (am_on (-1) (am_fold P (sp_bestS (sp_mayS nu sh so b) bi) none))) ∧ M' = B0 :: B1 :: B2 :: B3 :: B4 :: bkRules 160 nu la me tc ts (Int32.ofNat P) :: bkRoom 192 160 rd pr pv sa pd lo bo co sh se si er of_ bi bt so :: Bs) := by
  show am_Rn sc 38 (0, [some (.ref 192), some (.int (am_on (-1) b)), none, none, none], [], _) _
  have L : ∀ (d i : Nat) (x3 : Option Value), i + d = P → am_Rn sc 38 (4, [some (.ref 192), some (.int (am_on (-1) b)), some (.int (am_on (-1) (am_fold i (sp_bestS (sp_mayS nu sh so b) bi) none))), some (.int (Int32.ofNat i)), x3], [], B0 :: B1 :: B2 :: B3 :: B4 :: bkRules 160 nu la me tc ts (Int32.ofNat P) :: bkRoom 192 160 rd pr pv sa pd lo bo co sh se si er of_ bi bt so :: Bs) (fun r M' => r = some (.int (am_on (-1) (am_fold P (sp_bestS (sp_mayS nu sh so b) bi) none))) ∧ M' = B0 :: B1 :: B2 :: B3 :: B4 :: bkRules 160 nu la me tc ts (Int32.ofNat P) :: bkRoom 192 160 rd pr pv sa pd lo bo co sh se si er of_ bi bt so :: Bs) := by
    intro d
    induction d with
    | zero =>
      intro i x3 hi
      obtain rfl : i = P := by omega
      refine am_Rn.go (t := am_t38) rfl 5 rfl ⟨trivial, trivial, trivial, trivial, trivial, trivial⟩ ?_
      refine am_Rn.brT (by first | exact (am_le (by omega) (by omega)).mpr (Nat.le_refl _) | exact fun q => absurd ((am_lt (by omega) (by omega)).mp q) (Nat.lt_irrefl _) | decide) ?_
      refine am_Rn.go (t := am_t38) rfl 1 rfl ⟨trivial, trivial⟩ ?_
      refine am_Rn.ret (t := am_t38) rfl rfl trivial ?_
      exact ⟨rfl, rfl⟩
    | succ d ih =>
      intro i x3 hi
      have hiP : i < P := by omega
      have e1 : (Int32.ofNat i).toNatClampNeg = i := am_tn i (by omega)
      have hq := sp_bestS_lt (sp_mayS nu sh so b) bi i
      generalize hF : (am_fold i (sp_bestS (sp_mayS nu sh so b) bi) none) = o at hq ⊢
      rcases o with _ | q <;> rcases b with _ | r
      · skip
        have e3 := am_ofN i (by omega)
        have e2 := e1
        refine am_Rn.go (t := am_t38) rfl 5 rfl ⟨trivial, trivial, trivial, trivial, trivial, trivial⟩ ?_
        refine am_Rn.brF (by first | exact fun q => absurd ((am_le (by omega) (by omega)).mp q) (by omega) | exact fun q => absurd ((am_le (i := 9) (by omega) (by omega)).mp q) (by omega) | exact fun q => absurd ((am_le (i := 10) (by omega) (by omega)).mp q) (by omega) | exact (am_lt (by omega) (by omega)).mpr hiP) ?_
        refine am_Rn.go (t := am_t38) rfl 3 rfl ⟨trivial, trivial, trivial, trivial⟩ ?_
        refine am_Rn.br (fun h2 => ?_) (fun h2 => ?_)
        · skip
          refine am_Rn.go (t := am_t38) rfl 8 rfl ⟨trivial, trivial, trivial, trivial, trivial, (by first | exact am_inb_lit rfl | exact am_inb_of (by omega) (by omega)), trivial, trivial, trivial⟩ ?_
          refine am_Rn.br (fun h3 => ?_) (fun h3 => ?_)
          · skip
            refine am_Rn.go (t := am_t38) rfl 2 rfl ⟨trivial, trivial, trivial⟩ ?_
            first
            | (have g := ih (i + 1) (some (.int 0)) (by omega)
               rw [am_fold_succ, hF, ← am_inc] at g
               (try simp only [e1, e2, am_on, Int32.reduceToNatClampNeg] at *)
               first
                 | (exfalso; first | contradiction | (simp only [Int32.lt_iff_toInt_lt, Int32.le_iff_toInt_le, ← Int32.toInt_inj, Int32.reduceToInt, Int32.not_lt, Int32.not_le] at *; omega))
                 | (rw [sp_bestS_T (by simp only [sp_mayS, sp_under, Bool.and_eq_true, decide_eq_true_eq, and_true, ne_eq, Option.some.injEq, reduceCtorEq, not_false_eq_true]; (simp only [Int32.lt_iff_toInt_lt, Int32.le_iff_toInt_le, ← Int32.toInt_inj, Int32.reduceToInt, Int32.not_lt, Int32.not_le] at *; omega))] at g; exact g)
                 | (rw [sp_bestS_F (by simp only [sp_mayS, sp_under, Bool.and_eq_true, decide_eq_true_eq, and_true, ne_eq, Option.some.injEq, reduceCtorEq, not_false_eq_true]; (simp only [Int32.lt_iff_toInt_lt, Int32.le_iff_toInt_le, ← Int32.toInt_inj, Int32.reduceToInt, Int32.not_lt, Int32.not_le] at *; omega))] at g; exact g))
            | (have g := ih (i + 1) (some (.int 1)) (by omega)
               rw [am_fold_succ, hF, ← am_inc] at g
               (try simp only [e1, e2, am_on, Int32.reduceToNatClampNeg] at *)
               first
                 | (exfalso; first | contradiction | (simp only [Int32.lt_iff_toInt_lt, Int32.le_iff_toInt_le, ← Int32.toInt_inj, Int32.reduceToInt, Int32.not_lt, Int32.not_le] at *; omega))
                 | (rw [sp_bestS_T (by simp only [sp_mayS, sp_under, Bool.and_eq_true, decide_eq_true_eq, and_true, ne_eq, Option.some.injEq, reduceCtorEq, not_false_eq_true]; (simp only [Int32.lt_iff_toInt_lt, Int32.le_iff_toInt_le, ← Int32.toInt_inj, Int32.reduceToInt, Int32.not_lt, Int32.not_le] at *; omega))] at g; exact g)
                 | (rw [sp_bestS_F (by simp only [sp_mayS, sp_under, Bool.and_eq_true, decide_eq_true_eq, and_true, ne_eq, Option.some.injEq, reduceCtorEq, not_false_eq_true]; (simp only [Int32.lt_iff_toInt_lt, Int32.le_iff_toInt_le, ← Int32.toInt_inj, Int32.reduceToInt, Int32.not_lt, Int32.not_le] at *; omega))] at g; exact g))
          · skip
            refine am_Rn.go (t := am_t38) rfl 2 rfl ⟨trivial, trivial, trivial⟩ ?_
            refine am_Rn.br (fun h4 => ?_) (fun h4 => ?_)
            · skip
              refine am_Rn.go (t := am_t38) rfl 2 rfl ⟨trivial, trivial, trivial⟩ ?_
              first
              | (have g := ih (i + 1) (some (.int 0)) (by omega)
                 rw [am_fold_succ, hF, ← am_inc] at g
                 (try simp only [e1, e2, am_on, Int32.reduceToNatClampNeg] at *)
                 first
                   | (exfalso; first | contradiction | (simp only [Int32.lt_iff_toInt_lt, Int32.le_iff_toInt_le, ← Int32.toInt_inj, Int32.reduceToInt, Int32.not_lt, Int32.not_le] at *; omega))
                   | (rw [sp_bestS_T (by simp only [sp_mayS, sp_under, Bool.and_eq_true, decide_eq_true_eq, and_true, ne_eq, Option.some.injEq, reduceCtorEq, not_false_eq_true]; (simp only [Int32.lt_iff_toInt_lt, Int32.le_iff_toInt_le, ← Int32.toInt_inj, Int32.reduceToInt, Int32.not_lt, Int32.not_le] at *; omega))] at g; exact g)
                   | (rw [sp_bestS_F (by simp only [sp_mayS, sp_under, Bool.and_eq_true, decide_eq_true_eq, and_true, ne_eq, Option.some.injEq, reduceCtorEq, not_false_eq_true]; (simp only [Int32.lt_iff_toInt_lt, Int32.le_iff_toInt_le, ← Int32.toInt_inj, Int32.reduceToInt, Int32.not_lt, Int32.not_le] at *; omega))] at g; exact g))
              | (have g := ih (i + 1) (some (.int 1)) (by omega)
                 rw [am_fold_succ, hF, ← am_inc] at g
                 (try simp only [e1, e2, am_on, Int32.reduceToNatClampNeg] at *)
                 first
                   | (exfalso; first | contradiction | (simp only [Int32.lt_iff_toInt_lt, Int32.le_iff_toInt_le, ← Int32.toInt_inj, Int32.reduceToInt, Int32.not_lt, Int32.not_le] at *; omega))
                   | (rw [sp_bestS_T (by simp only [sp_mayS, sp_under, Bool.and_eq_true, decide_eq_true_eq, and_true, ne_eq, Option.some.injEq, reduceCtorEq, not_false_eq_true]; (simp only [Int32.lt_iff_toInt_lt, Int32.le_iff_toInt_le, ← Int32.toInt_inj, Int32.reduceToInt, Int32.not_lt, Int32.not_le] at *; omega))] at g; exact g)
                   | (rw [sp_bestS_F (by simp only [sp_mayS, sp_under, Bool.and_eq_true, decide_eq_true_eq, and_true, ne_eq, Option.some.injEq, reduceCtorEq, not_false_eq_true]; (simp only [Int32.lt_iff_toInt_lt, Int32.le_iff_toInt_le, ← Int32.toInt_inj, Int32.reduceToInt, Int32.not_lt, Int32.not_le] at *; omega))] at g; exact g))
            · skip
              refine am_Rn.go (t := am_t38) rfl 2 rfl ⟨trivial, trivial, trivial⟩ ?_
              refine am_Rn.brT (show (-1 : Int32) < 0 by decide) ?_
              refine am_Rn.go (t := am_t38) rfl 4 rfl ⟨trivial, trivial, trivial, trivial, trivial⟩ ?_
              first
              | (have g := ih (i + 1) (some (.int 0)) (by omega)
                 rw [am_fold_succ, hF, ← am_inc] at g
                 (try simp only [e1, e2, am_on, Int32.reduceToNatClampNeg] at *)
                 first
                   | (exfalso; first | contradiction | (simp only [Int32.lt_iff_toInt_lt, Int32.le_iff_toInt_le, ← Int32.toInt_inj, Int32.reduceToInt, Int32.not_lt, Int32.not_le] at *; omega))
                   | (rw [sp_bestS_T (by simp only [sp_mayS, sp_under, Bool.and_eq_true, decide_eq_true_eq, and_true, ne_eq, Option.some.injEq, reduceCtorEq, not_false_eq_true]; (simp only [Int32.lt_iff_toInt_lt, Int32.le_iff_toInt_le, ← Int32.toInt_inj, Int32.reduceToInt, Int32.not_lt, Int32.not_le] at *; omega))] at g; exact g)
                   | (rw [sp_bestS_F (by simp only [sp_mayS, sp_under, Bool.and_eq_true, decide_eq_true_eq, and_true, ne_eq, Option.some.injEq, reduceCtorEq, not_false_eq_true]; (simp only [Int32.lt_iff_toInt_lt, Int32.le_iff_toInt_le, ← Int32.toInt_inj, Int32.reduceToInt, Int32.not_lt, Int32.not_le] at *; omega))] at g; exact g))
              | (have g := ih (i + 1) (some (.int 1)) (by omega)
                 rw [am_fold_succ, hF, ← am_inc] at g
                 (try simp only [e1, e2, am_on, Int32.reduceToNatClampNeg] at *)
                 first
                   | (exfalso; first | contradiction | (simp only [Int32.lt_iff_toInt_lt, Int32.le_iff_toInt_le, ← Int32.toInt_inj, Int32.reduceToInt, Int32.not_lt, Int32.not_le] at *; omega))
                   | (rw [sp_bestS_T (by simp only [sp_mayS, sp_under, Bool.and_eq_true, decide_eq_true_eq, and_true, ne_eq, Option.some.injEq, reduceCtorEq, not_false_eq_true]; (simp only [Int32.lt_iff_toInt_lt, Int32.le_iff_toInt_le, ← Int32.toInt_inj, Int32.reduceToInt, Int32.not_lt, Int32.not_le] at *; omega))] at g; exact g)
                   | (rw [sp_bestS_F (by simp only [sp_mayS, sp_under, Bool.and_eq_true, decide_eq_true_eq, and_true, ne_eq, Option.some.injEq, reduceCtorEq, not_false_eq_true]; (simp only [Int32.lt_iff_toInt_lt, Int32.le_iff_toInt_le, ← Int32.toInt_inj, Int32.reduceToInt, Int32.not_lt, Int32.not_le] at *; omega))] at g; exact g))
        · skip
          refine am_Rn.go (t := am_t38) rfl 11 rfl ⟨trivial, trivial, trivial, (by first | exact am_inb_lit rfl | exact am_inb_of (by omega) (by omega)), trivial, trivial, trivial, trivial, (by first | exact am_inb_lit rfl | exact am_inb_of (by omega) (by omega)), trivial, trivial, trivial⟩ ?_
          refine am_Rn.br (fun h6 => ?_) (fun h6 => ?_)
          · skip
            refine am_Rn.go (t := am_t38) rfl 8 rfl ⟨trivial, trivial, trivial, trivial, trivial, (by first | exact am_inb_lit rfl | exact am_inb_of (by omega) (by omega)), trivial, trivial, trivial⟩ ?_
            refine am_Rn.br (fun h7 => ?_) (fun h7 => ?_)
            · skip
              refine am_Rn.go (t := am_t38) rfl 2 rfl ⟨trivial, trivial, trivial⟩ ?_
              first
              | (have g := ih (i + 1) (some (.int 0)) (by omega)
                 rw [am_fold_succ, hF, ← am_inc] at g
                 (try simp only [e1, e2, am_on, Int32.reduceToNatClampNeg] at *)
                 first
                   | (exfalso; first | contradiction | (simp only [Int32.lt_iff_toInt_lt, Int32.le_iff_toInt_le, ← Int32.toInt_inj, Int32.reduceToInt, Int32.not_lt, Int32.not_le] at *; omega))
                   | (rw [sp_bestS_T (by simp only [sp_mayS, sp_under, Bool.and_eq_true, decide_eq_true_eq, and_true, ne_eq, Option.some.injEq, reduceCtorEq, not_false_eq_true]; (simp only [Int32.lt_iff_toInt_lt, Int32.le_iff_toInt_le, ← Int32.toInt_inj, Int32.reduceToInt, Int32.not_lt, Int32.not_le] at *; omega))] at g; exact g)
                   | (rw [sp_bestS_F (by simp only [sp_mayS, sp_under, Bool.and_eq_true, decide_eq_true_eq, and_true, ne_eq, Option.some.injEq, reduceCtorEq, not_false_eq_true]; (simp only [Int32.lt_iff_toInt_lt, Int32.le_iff_toInt_le, ← Int32.toInt_inj, Int32.reduceToInt, Int32.not_lt, Int32.not_le] at *; omega))] at g; exact g))
              | (have g := ih (i + 1) (some (.int 1)) (by omega)
                 rw [am_fold_succ, hF, ← am_inc] at g
                 (try simp only [e1, e2, am_on, Int32.reduceToNatClampNeg] at *)
                 first
                   | (exfalso; first | contradiction | (simp only [Int32.lt_iff_toInt_lt, Int32.le_iff_toInt_le, ← Int32.toInt_inj, Int32.reduceToInt, Int32.not_lt, Int32.not_le] at *; omega))
                   | (rw [sp_bestS_T (by simp only [sp_mayS, sp_under, Bool.and_eq_true, decide_eq_true_eq, and_true, ne_eq, Option.some.injEq, reduceCtorEq, not_false_eq_true]; (simp only [Int32.lt_iff_toInt_lt, Int32.le_iff_toInt_le, ← Int32.toInt_inj, Int32.reduceToInt, Int32.not_lt, Int32.not_le] at *; omega))] at g; exact g)
                   | (rw [sp_bestS_F (by simp only [sp_mayS, sp_under, Bool.and_eq_true, decide_eq_true_eq, and_true, ne_eq, Option.some.injEq, reduceCtorEq, not_false_eq_true]; (simp only [Int32.lt_iff_toInt_lt, Int32.le_iff_toInt_le, ← Int32.toInt_inj, Int32.reduceToInt, Int32.not_lt, Int32.not_le] at *; omega))] at g; exact g))
            · skip
              refine am_Rn.go (t := am_t38) rfl 2 rfl ⟨trivial, trivial, trivial⟩ ?_
              refine am_Rn.br (fun h8 => ?_) (fun h8 => ?_)
              · skip
                refine am_Rn.go (t := am_t38) rfl 2 rfl ⟨trivial, trivial, trivial⟩ ?_
                first
                | (have g := ih (i + 1) (some (.int 0)) (by omega)
                   rw [am_fold_succ, hF, ← am_inc] at g
                   (try simp only [e1, e2, am_on, Int32.reduceToNatClampNeg] at *)
                   first
                     | (exfalso; first | contradiction | (simp only [Int32.lt_iff_toInt_lt, Int32.le_iff_toInt_le, ← Int32.toInt_inj, Int32.reduceToInt, Int32.not_lt, Int32.not_le] at *; omega))
                     | (rw [sp_bestS_T (by simp only [sp_mayS, sp_under, Bool.and_eq_true, decide_eq_true_eq, and_true, ne_eq, Option.some.injEq, reduceCtorEq, not_false_eq_true]; (simp only [Int32.lt_iff_toInt_lt, Int32.le_iff_toInt_le, ← Int32.toInt_inj, Int32.reduceToInt, Int32.not_lt, Int32.not_le] at *; omega))] at g; exact g)
                     | (rw [sp_bestS_F (by simp only [sp_mayS, sp_under, Bool.and_eq_true, decide_eq_true_eq, and_true, ne_eq, Option.some.injEq, reduceCtorEq, not_false_eq_true]; (simp only [Int32.lt_iff_toInt_lt, Int32.le_iff_toInt_le, ← Int32.toInt_inj, Int32.reduceToInt, Int32.not_lt, Int32.not_le] at *; omega))] at g; exact g))
                | (have g := ih (i + 1) (some (.int 1)) (by omega)
                   rw [am_fold_succ, hF, ← am_inc] at g
                   (try simp only [e1, e2, am_on, Int32.reduceToNatClampNeg] at *)
                   first
                     | (exfalso; first | contradiction | (simp only [Int32.lt_iff_toInt_lt, Int32.le_iff_toInt_le, ← Int32.toInt_inj, Int32.reduceToInt, Int32.not_lt, Int32.not_le] at *; omega))
                     | (rw [sp_bestS_T (by simp only [sp_mayS, sp_under, Bool.and_eq_true, decide_eq_true_eq, and_true, ne_eq, Option.some.injEq, reduceCtorEq, not_false_eq_true]; (simp only [Int32.lt_iff_toInt_lt, Int32.le_iff_toInt_le, ← Int32.toInt_inj, Int32.reduceToInt, Int32.not_lt, Int32.not_le] at *; omega))] at g; exact g)
                     | (rw [sp_bestS_F (by simp only [sp_mayS, sp_under, Bool.and_eq_true, decide_eq_true_eq, and_true, ne_eq, Option.some.injEq, reduceCtorEq, not_false_eq_true]; (simp only [Int32.lt_iff_toInt_lt, Int32.le_iff_toInt_le, ← Int32.toInt_inj, Int32.reduceToInt, Int32.not_lt, Int32.not_le] at *; omega))] at g; exact g))
              · skip
                refine am_Rn.go (t := am_t38) rfl 2 rfl ⟨trivial, trivial, trivial⟩ ?_
                refine am_Rn.brT (show (-1 : Int32) < 0 by decide) ?_
                refine am_Rn.go (t := am_t38) rfl 4 rfl ⟨trivial, trivial, trivial, trivial, trivial⟩ ?_
                first
                | (have g := ih (i + 1) (some (.int 0)) (by omega)
                   rw [am_fold_succ, hF, ← am_inc] at g
                   (try simp only [e1, e2, am_on, Int32.reduceToNatClampNeg] at *)
                   first
                     | (exfalso; first | contradiction | (simp only [Int32.lt_iff_toInt_lt, Int32.le_iff_toInt_le, ← Int32.toInt_inj, Int32.reduceToInt, Int32.not_lt, Int32.not_le] at *; omega))
                     | (rw [sp_bestS_T (by simp only [sp_mayS, sp_under, Bool.and_eq_true, decide_eq_true_eq, and_true, ne_eq, Option.some.injEq, reduceCtorEq, not_false_eq_true]; (simp only [Int32.lt_iff_toInt_lt, Int32.le_iff_toInt_le, ← Int32.toInt_inj, Int32.reduceToInt, Int32.not_lt, Int32.not_le] at *; omega))] at g; exact g)
                     | (rw [sp_bestS_F (by simp only [sp_mayS, sp_under, Bool.and_eq_true, decide_eq_true_eq, and_true, ne_eq, Option.some.injEq, reduceCtorEq, not_false_eq_true]; (simp only [Int32.lt_iff_toInt_lt, Int32.le_iff_toInt_le, ← Int32.toInt_inj, Int32.reduceToInt, Int32.not_lt, Int32.not_le] at *; omega))] at g; exact g))
                | (have g := ih (i + 1) (some (.int 1)) (by omega)
                   rw [am_fold_succ, hF, ← am_inc] at g
                   (try simp only [e1, e2, am_on, Int32.reduceToNatClampNeg] at *)
                   first
                     | (exfalso; first | contradiction | (simp only [Int32.lt_iff_toInt_lt, Int32.le_iff_toInt_le, ← Int32.toInt_inj, Int32.reduceToInt, Int32.not_lt, Int32.not_le] at *; omega))
                     | (rw [sp_bestS_T (by simp only [sp_mayS, sp_under, Bool.and_eq_true, decide_eq_true_eq, and_true, ne_eq, Option.some.injEq, reduceCtorEq, not_false_eq_true]; (simp only [Int32.lt_iff_toInt_lt, Int32.le_iff_toInt_le, ← Int32.toInt_inj, Int32.reduceToInt, Int32.not_lt, Int32.not_le] at *; omega))] at g; exact g)
                     | (rw [sp_bestS_F (by simp only [sp_mayS, sp_under, Bool.and_eq_true, decide_eq_true_eq, and_true, ne_eq, Option.some.injEq, reduceCtorEq, not_false_eq_true]; (simp only [Int32.lt_iff_toInt_lt, Int32.le_iff_toInt_le, ← Int32.toInt_inj, Int32.reduceToInt, Int32.not_lt, Int32.not_le] at *; omega))] at g; exact g))
          · skip
            refine am_Rn.go (t := am_t38) rfl 9 rfl ⟨trivial, trivial, trivial, trivial, trivial, trivial, (by first | exact am_inb_lit rfl | exact am_inb_of (by omega) (by omega)), trivial, trivial, trivial⟩ ?_
            refine am_Rn.br (fun h10 => ?_) (fun h10 => ?_)
            · skip
              refine am_Rn.go (t := am_t38) rfl 2 rfl ⟨trivial, trivial, trivial⟩ ?_
              first
              | (have g := ih (i + 1) (some (.int 0)) (by omega)
                 rw [am_fold_succ, hF, ← am_inc] at g
                 (try simp only [e1, e2, am_on, Int32.reduceToNatClampNeg] at *)
                 first
                   | (exfalso; first | contradiction | (simp only [Int32.lt_iff_toInt_lt, Int32.le_iff_toInt_le, ← Int32.toInt_inj, Int32.reduceToInt, Int32.not_lt, Int32.not_le] at *; omega))
                   | (rw [sp_bestS_T (by simp only [sp_mayS, sp_under, Bool.and_eq_true, decide_eq_true_eq, and_true, ne_eq, Option.some.injEq, reduceCtorEq, not_false_eq_true]; (simp only [Int32.lt_iff_toInt_lt, Int32.le_iff_toInt_le, ← Int32.toInt_inj, Int32.reduceToInt, Int32.not_lt, Int32.not_le] at *; omega))] at g; exact g)
                   | (rw [sp_bestS_F (by simp only [sp_mayS, sp_under, Bool.and_eq_true, decide_eq_true_eq, and_true, ne_eq, Option.some.injEq, reduceCtorEq, not_false_eq_true]; (simp only [Int32.lt_iff_toInt_lt, Int32.le_iff_toInt_le, ← Int32.toInt_inj, Int32.reduceToInt, Int32.not_lt, Int32.not_le] at *; omega))] at g; exact g))
              | (have g := ih (i + 1) (some (.int 1)) (by omega)
                 rw [am_fold_succ, hF, ← am_inc] at g
                 (try simp only [e1, e2, am_on, Int32.reduceToNatClampNeg] at *)
                 first
                   | (exfalso; first | contradiction | (simp only [Int32.lt_iff_toInt_lt, Int32.le_iff_toInt_le, ← Int32.toInt_inj, Int32.reduceToInt, Int32.not_lt, Int32.not_le] at *; omega))
                   | (rw [sp_bestS_T (by simp only [sp_mayS, sp_under, Bool.and_eq_true, decide_eq_true_eq, and_true, ne_eq, Option.some.injEq, reduceCtorEq, not_false_eq_true]; (simp only [Int32.lt_iff_toInt_lt, Int32.le_iff_toInt_le, ← Int32.toInt_inj, Int32.reduceToInt, Int32.not_lt, Int32.not_le] at *; omega))] at g; exact g)
                   | (rw [sp_bestS_F (by simp only [sp_mayS, sp_under, Bool.and_eq_true, decide_eq_true_eq, and_true, ne_eq, Option.some.injEq, reduceCtorEq, not_false_eq_true]; (simp only [Int32.lt_iff_toInt_lt, Int32.le_iff_toInt_le, ← Int32.toInt_inj, Int32.reduceToInt, Int32.not_lt, Int32.not_le] at *; omega))] at g; exact g))
            · skip
              refine am_Rn.go (t := am_t38) rfl 2 rfl ⟨trivial, trivial, trivial⟩ ?_
              refine am_Rn.br (fun h11 => ?_) (fun h11 => ?_)
              · skip
                refine am_Rn.go (t := am_t38) rfl 2 rfl ⟨trivial, trivial, trivial⟩ ?_
                first
                | (have g := ih (i + 1) (some (.int 0)) (by omega)
                   rw [am_fold_succ, hF, ← am_inc] at g
                   (try simp only [e1, e2, am_on, Int32.reduceToNatClampNeg] at *)
                   first
                     | (exfalso; first | contradiction | (simp only [Int32.lt_iff_toInt_lt, Int32.le_iff_toInt_le, ← Int32.toInt_inj, Int32.reduceToInt, Int32.not_lt, Int32.not_le] at *; omega))
                     | (rw [sp_bestS_T (by simp only [sp_mayS, sp_under, Bool.and_eq_true, decide_eq_true_eq, and_true, ne_eq, Option.some.injEq, reduceCtorEq, not_false_eq_true]; (simp only [Int32.lt_iff_toInt_lt, Int32.le_iff_toInt_le, ← Int32.toInt_inj, Int32.reduceToInt, Int32.not_lt, Int32.not_le] at *; omega))] at g; exact g)
                     | (rw [sp_bestS_F (by simp only [sp_mayS, sp_under, Bool.and_eq_true, decide_eq_true_eq, and_true, ne_eq, Option.some.injEq, reduceCtorEq, not_false_eq_true]; (simp only [Int32.lt_iff_toInt_lt, Int32.le_iff_toInt_le, ← Int32.toInt_inj, Int32.reduceToInt, Int32.not_lt, Int32.not_le] at *; omega))] at g; exact g))
                | (have g := ih (i + 1) (some (.int 1)) (by omega)
                   rw [am_fold_succ, hF, ← am_inc] at g
                   (try simp only [e1, e2, am_on, Int32.reduceToNatClampNeg] at *)
                   first
                     | (exfalso; first | contradiction | (simp only [Int32.lt_iff_toInt_lt, Int32.le_iff_toInt_le, ← Int32.toInt_inj, Int32.reduceToInt, Int32.not_lt, Int32.not_le] at *; omega))
                     | (rw [sp_bestS_T (by simp only [sp_mayS, sp_under, Bool.and_eq_true, decide_eq_true_eq, and_true, ne_eq, Option.some.injEq, reduceCtorEq, not_false_eq_true]; (simp only [Int32.lt_iff_toInt_lt, Int32.le_iff_toInt_le, ← Int32.toInt_inj, Int32.reduceToInt, Int32.not_lt, Int32.not_le] at *; omega))] at g; exact g)
                     | (rw [sp_bestS_F (by simp only [sp_mayS, sp_under, Bool.and_eq_true, decide_eq_true_eq, and_true, ne_eq, Option.some.injEq, reduceCtorEq, not_false_eq_true]; (simp only [Int32.lt_iff_toInt_lt, Int32.le_iff_toInt_le, ← Int32.toInt_inj, Int32.reduceToInt, Int32.not_lt, Int32.not_le] at *; omega))] at g; exact g))
              · skip
                refine am_Rn.go (t := am_t38) rfl 2 rfl ⟨trivial, trivial, trivial⟩ ?_
                refine am_Rn.brT (show (-1 : Int32) < 0 by decide) ?_
                refine am_Rn.go (t := am_t38) rfl 4 rfl ⟨trivial, trivial, trivial, trivial, trivial⟩ ?_
                first
                | (have g := ih (i + 1) (some (.int 0)) (by omega)
                   rw [am_fold_succ, hF, ← am_inc] at g
                   (try simp only [e1, e2, am_on, Int32.reduceToNatClampNeg] at *)
                   first
                     | (exfalso; first | contradiction | (simp only [Int32.lt_iff_toInt_lt, Int32.le_iff_toInt_le, ← Int32.toInt_inj, Int32.reduceToInt, Int32.not_lt, Int32.not_le] at *; omega))
                     | (rw [sp_bestS_T (by simp only [sp_mayS, sp_under, Bool.and_eq_true, decide_eq_true_eq, and_true, ne_eq, Option.some.injEq, reduceCtorEq, not_false_eq_true]; (simp only [Int32.lt_iff_toInt_lt, Int32.le_iff_toInt_le, ← Int32.toInt_inj, Int32.reduceToInt, Int32.not_lt, Int32.not_le] at *; omega))] at g; exact g)
                     | (rw [sp_bestS_F (by simp only [sp_mayS, sp_under, Bool.and_eq_true, decide_eq_true_eq, and_true, ne_eq, Option.some.injEq, reduceCtorEq, not_false_eq_true]; (simp only [Int32.lt_iff_toInt_lt, Int32.le_iff_toInt_le, ← Int32.toInt_inj, Int32.reduceToInt, Int32.not_lt, Int32.not_le] at *; omega))] at g; exact g))
                | (have g := ih (i + 1) (some (.int 1)) (by omega)
                   rw [am_fold_succ, hF, ← am_inc] at g
                   (try simp only [e1, e2, am_on, Int32.reduceToNatClampNeg] at *)
                   first
                     | (exfalso; first | contradiction | (simp only [Int32.lt_iff_toInt_lt, Int32.le_iff_toInt_le, ← Int32.toInt_inj, Int32.reduceToInt, Int32.not_lt, Int32.not_le] at *; omega))
                     | (rw [sp_bestS_T (by simp only [sp_mayS, sp_under, Bool.and_eq_true, decide_eq_true_eq, and_true, ne_eq, Option.some.injEq, reduceCtorEq, not_false_eq_true]; (simp only [Int32.lt_iff_toInt_lt, Int32.le_iff_toInt_le, ← Int32.toInt_inj, Int32.reduceToInt, Int32.not_lt, Int32.not_le] at *; omega))] at g; exact g)
                     | (rw [sp_bestS_F (by simp only [sp_mayS, sp_under, Bool.and_eq_true, decide_eq_true_eq, and_true, ne_eq, Option.some.injEq, reduceCtorEq, not_false_eq_true]; (simp only [Int32.lt_iff_toInt_lt, Int32.le_iff_toInt_le, ← Int32.toInt_inj, Int32.reduceToInt, Int32.not_lt, Int32.not_le] at *; omega))] at g; exact g))
      · skip
        have e3 := am_ofN i (by omega)
        have e2 := e1
        have hr1 := hb r rfl
        have e4 := am_ofN r (by omega)
        refine am_Rn.go (t := am_t38) rfl 5 rfl ⟨trivial, trivial, trivial, trivial, trivial, trivial⟩ ?_
        refine am_Rn.brF (by first | exact fun q => absurd ((am_le (by omega) (by omega)).mp q) (by omega) | exact fun q => absurd ((am_le (i := 9) (by omega) (by omega)).mp q) (by omega) | exact fun q => absurd ((am_le (i := 10) (by omega) (by omega)).mp q) (by omega) | exact (am_lt (by omega) (by omega)).mpr hiP) ?_
        refine am_Rn.go (t := am_t38) rfl 3 rfl ⟨trivial, trivial, trivial, trivial⟩ ?_
        refine am_Rn.br (fun h2 => ?_) (fun h2 => ?_)
        · skip
          refine am_Rn.go (t := am_t38) rfl 8 rfl ⟨trivial, trivial, trivial, trivial, trivial, (by first | exact am_inb_lit rfl | exact am_inb_of (by omega) (by omega)), trivial, trivial, trivial⟩ ?_
          refine am_Rn.br (fun h3 => ?_) (fun h3 => ?_)
          · skip
            refine am_Rn.go (t := am_t38) rfl 2 rfl ⟨trivial, trivial, trivial⟩ ?_
            first
            | (have g := ih (i + 1) (some (.int 0)) (by omega)
               rw [am_fold_succ, hF, ← am_inc] at g
               (try simp only [e1, e2, am_on, Int32.reduceToNatClampNeg] at *)
               first
                 | (exfalso; first | contradiction | (simp only [Int32.lt_iff_toInt_lt, Int32.le_iff_toInt_le, ← Int32.toInt_inj, Int32.reduceToInt, Int32.not_lt, Int32.not_le] at *; omega))
                 | (rw [sp_bestS_T (by simp only [sp_mayS, sp_under, Bool.and_eq_true, decide_eq_true_eq, and_true, ne_eq, Option.some.injEq, reduceCtorEq, not_false_eq_true]; (simp only [Int32.lt_iff_toInt_lt, Int32.le_iff_toInt_le, ← Int32.toInt_inj, Int32.reduceToInt, Int32.not_lt, Int32.not_le] at *; omega))] at g; exact g)
                 | (rw [sp_bestS_F (by simp only [sp_mayS, sp_under, Bool.and_eq_true, decide_eq_true_eq, and_true, ne_eq, Option.some.injEq, reduceCtorEq, not_false_eq_true]; (simp only [Int32.lt_iff_toInt_lt, Int32.le_iff_toInt_le, ← Int32.toInt_inj, Int32.reduceToInt, Int32.not_lt, Int32.not_le] at *; omega))] at g; exact g))
            | (have g := ih (i + 1) (some (.int 1)) (by omega)
               rw [am_fold_succ, hF, ← am_inc] at g
               (try simp only [e1, e2, am_on, Int32.reduceToNatClampNeg] at *)
               first
                 | (exfalso; first | contradiction | (simp only [Int32.lt_iff_toInt_lt, Int32.le_iff_toInt_le, ← Int32.toInt_inj, Int32.reduceToInt, Int32.not_lt, Int32.not_le] at *; omega))
                 | (rw [sp_bestS_T (by simp only [sp_mayS, sp_under, Bool.and_eq_true, decide_eq_true_eq, and_true, ne_eq, Option.some.injEq, reduceCtorEq, not_false_eq_true]; (simp only [Int32.lt_iff_toInt_lt, Int32.le_iff_toInt_le, ← Int32.toInt_inj, Int32.reduceToInt, Int32.not_lt, Int32.not_le] at *; omega))] at g; exact g)
                 | (rw [sp_bestS_F (by simp only [sp_mayS, sp_under, Bool.and_eq_true, decide_eq_true_eq, and_true, ne_eq, Option.some.injEq, reduceCtorEq, not_false_eq_true]; (simp only [Int32.lt_iff_toInt_lt, Int32.le_iff_toInt_le, ← Int32.toInt_inj, Int32.reduceToInt, Int32.not_lt, Int32.not_le] at *; omega))] at g; exact g))
          · skip
            refine am_Rn.go (t := am_t38) rfl 2 rfl ⟨trivial, trivial, trivial⟩ ?_
            refine am_Rn.br (fun h4 => ?_) (fun h4 => ?_)
            · skip
              refine am_Rn.go (t := am_t38) rfl 2 rfl ⟨trivial, trivial, trivial⟩ ?_
              first
              | (have g := ih (i + 1) (some (.int 0)) (by omega)
                 rw [am_fold_succ, hF, ← am_inc] at g
                 (try simp only [e1, e2, am_on, Int32.reduceToNatClampNeg] at *)
                 first
                   | (exfalso; first | contradiction | (simp only [Int32.lt_iff_toInt_lt, Int32.le_iff_toInt_le, ← Int32.toInt_inj, Int32.reduceToInt, Int32.not_lt, Int32.not_le] at *; omega))
                   | (rw [sp_bestS_T (by simp only [sp_mayS, sp_under, Bool.and_eq_true, decide_eq_true_eq, and_true, ne_eq, Option.some.injEq, reduceCtorEq, not_false_eq_true]; (simp only [Int32.lt_iff_toInt_lt, Int32.le_iff_toInt_le, ← Int32.toInt_inj, Int32.reduceToInt, Int32.not_lt, Int32.not_le] at *; omega))] at g; exact g)
                   | (rw [sp_bestS_F (by simp only [sp_mayS, sp_under, Bool.and_eq_true, decide_eq_true_eq, and_true, ne_eq, Option.some.injEq, reduceCtorEq, not_false_eq_true]; (simp only [Int32.lt_iff_toInt_lt, Int32.le_iff_toInt_le, ← Int32.toInt_inj, Int32.reduceToInt, Int32.not_lt, Int32.not_le] at *; omega))] at g; exact g))
              | (have g := ih (i + 1) (some (.int 1)) (by omega)
                 rw [am_fold_succ, hF, ← am_inc] at g
                 (try simp only [e1, e2, am_on, Int32.reduceToNatClampNeg] at *)
                 first
                   | (exfalso; first | contradiction | (simp only [Int32.lt_iff_toInt_lt, Int32.le_iff_toInt_le, ← Int32.toInt_inj, Int32.reduceToInt, Int32.not_lt, Int32.not_le] at *; omega))
                   | (rw [sp_bestS_T (by simp only [sp_mayS, sp_under, Bool.and_eq_true, decide_eq_true_eq, and_true, ne_eq, Option.some.injEq, reduceCtorEq, not_false_eq_true]; (simp only [Int32.lt_iff_toInt_lt, Int32.le_iff_toInt_le, ← Int32.toInt_inj, Int32.reduceToInt, Int32.not_lt, Int32.not_le] at *; omega))] at g; exact g)
                   | (rw [sp_bestS_F (by simp only [sp_mayS, sp_under, Bool.and_eq_true, decide_eq_true_eq, and_true, ne_eq, Option.some.injEq, reduceCtorEq, not_false_eq_true]; (simp only [Int32.lt_iff_toInt_lt, Int32.le_iff_toInt_le, ← Int32.toInt_inj, Int32.reduceToInt, Int32.not_lt, Int32.not_le] at *; omega))] at g; exact g))
            · skip
              refine am_Rn.go (t := am_t38) rfl 2 rfl ⟨trivial, trivial, trivial⟩ ?_
              refine am_Rn.brT (show (-1 : Int32) < 0 by decide) ?_
              refine am_Rn.go (t := am_t38) rfl 4 rfl ⟨trivial, trivial, trivial, trivial, trivial⟩ ?_
              first
              | (have g := ih (i + 1) (some (.int 0)) (by omega)
                 rw [am_fold_succ, hF, ← am_inc] at g
                 (try simp only [e1, e2, am_on, Int32.reduceToNatClampNeg] at *)
                 first
                   | (exfalso; first | contradiction | (simp only [Int32.lt_iff_toInt_lt, Int32.le_iff_toInt_le, ← Int32.toInt_inj, Int32.reduceToInt, Int32.not_lt, Int32.not_le] at *; omega))
                   | (rw [sp_bestS_T (by simp only [sp_mayS, sp_under, Bool.and_eq_true, decide_eq_true_eq, and_true, ne_eq, Option.some.injEq, reduceCtorEq, not_false_eq_true]; (simp only [Int32.lt_iff_toInt_lt, Int32.le_iff_toInt_le, ← Int32.toInt_inj, Int32.reduceToInt, Int32.not_lt, Int32.not_le] at *; omega))] at g; exact g)
                   | (rw [sp_bestS_F (by simp only [sp_mayS, sp_under, Bool.and_eq_true, decide_eq_true_eq, and_true, ne_eq, Option.some.injEq, reduceCtorEq, not_false_eq_true]; (simp only [Int32.lt_iff_toInt_lt, Int32.le_iff_toInt_le, ← Int32.toInt_inj, Int32.reduceToInt, Int32.not_lt, Int32.not_le] at *; omega))] at g; exact g))
              | (have g := ih (i + 1) (some (.int 1)) (by omega)
                 rw [am_fold_succ, hF, ← am_inc] at g
                 (try simp only [e1, e2, am_on, Int32.reduceToNatClampNeg] at *)
                 first
                   | (exfalso; first | contradiction | (simp only [Int32.lt_iff_toInt_lt, Int32.le_iff_toInt_le, ← Int32.toInt_inj, Int32.reduceToInt, Int32.not_lt, Int32.not_le] at *; omega))
                   | (rw [sp_bestS_T (by simp only [sp_mayS, sp_under, Bool.and_eq_true, decide_eq_true_eq, and_true, ne_eq, Option.some.injEq, reduceCtorEq, not_false_eq_true]; (simp only [Int32.lt_iff_toInt_lt, Int32.le_iff_toInt_le, ← Int32.toInt_inj, Int32.reduceToInt, Int32.not_lt, Int32.not_le] at *; omega))] at g; exact g)
                   | (rw [sp_bestS_F (by simp only [sp_mayS, sp_under, Bool.and_eq_true, decide_eq_true_eq, and_true, ne_eq, Option.some.injEq, reduceCtorEq, not_false_eq_true]; (simp only [Int32.lt_iff_toInt_lt, Int32.le_iff_toInt_le, ← Int32.toInt_inj, Int32.reduceToInt, Int32.not_lt, Int32.not_le] at *; omega))] at g; exact g))
        · skip
          refine am_Rn.go (t := am_t38) rfl 11 rfl ⟨trivial, trivial, trivial, (by first | exact am_inb_lit rfl | exact am_inb_of (by omega) (by omega)), trivial, trivial, trivial, trivial, (by first | exact am_inb_lit rfl | exact am_inb_of (by omega) (by omega)), trivial, trivial, trivial⟩ ?_
          refine am_Rn.br (fun h6 => ?_) (fun h6 => ?_)
          · skip
            refine am_Rn.go (t := am_t38) rfl 8 rfl ⟨trivial, trivial, trivial, trivial, trivial, (by first | exact am_inb_lit rfl | exact am_inb_of (by omega) (by omega)), trivial, trivial, trivial⟩ ?_
            refine am_Rn.br (fun h7 => ?_) (fun h7 => ?_)
            · skip
              refine am_Rn.go (t := am_t38) rfl 2 rfl ⟨trivial, trivial, trivial⟩ ?_
              first
              | (have g := ih (i + 1) (some (.int 0)) (by omega)
                 rw [am_fold_succ, hF, ← am_inc] at g
                 (try simp only [e1, e2, am_on, Int32.reduceToNatClampNeg] at *)
                 first
                   | (exfalso; first | contradiction | (simp only [Int32.lt_iff_toInt_lt, Int32.le_iff_toInt_le, ← Int32.toInt_inj, Int32.reduceToInt, Int32.not_lt, Int32.not_le] at *; omega))
                   | (rw [sp_bestS_T (by simp only [sp_mayS, sp_under, Bool.and_eq_true, decide_eq_true_eq, and_true, ne_eq, Option.some.injEq, reduceCtorEq, not_false_eq_true]; (simp only [Int32.lt_iff_toInt_lt, Int32.le_iff_toInt_le, ← Int32.toInt_inj, Int32.reduceToInt, Int32.not_lt, Int32.not_le] at *; omega))] at g; exact g)
                   | (rw [sp_bestS_F (by simp only [sp_mayS, sp_under, Bool.and_eq_true, decide_eq_true_eq, and_true, ne_eq, Option.some.injEq, reduceCtorEq, not_false_eq_true]; (simp only [Int32.lt_iff_toInt_lt, Int32.le_iff_toInt_le, ← Int32.toInt_inj, Int32.reduceToInt, Int32.not_lt, Int32.not_le] at *; omega))] at g; exact g))
              | (have g := ih (i + 1) (some (.int 1)) (by omega)
                 rw [am_fold_succ, hF, ← am_inc] at g
                 (try simp only [e1, e2, am_on, Int32.reduceToNatClampNeg] at *)
                 first
                   | (exfalso; first | contradiction | (simp only [Int32.lt_iff_toInt_lt, Int32.le_iff_toInt_le, ← Int32.toInt_inj, Int32.reduceToInt, Int32.not_lt, Int32.not_le] at *; omega))
                   | (rw [sp_bestS_T (by simp only [sp_mayS, sp_under, Bool.and_eq_true, decide_eq_true_eq, and_true, ne_eq, Option.some.injEq, reduceCtorEq, not_false_eq_true]; (simp only [Int32.lt_iff_toInt_lt, Int32.le_iff_toInt_le, ← Int32.toInt_inj, Int32.reduceToInt, Int32.not_lt, Int32.not_le] at *; omega))] at g; exact g)
                   | (rw [sp_bestS_F (by simp only [sp_mayS, sp_under, Bool.and_eq_true, decide_eq_true_eq, and_true, ne_eq, Option.some.injEq, reduceCtorEq, not_false_eq_true]; (simp only [Int32.lt_iff_toInt_lt, Int32.le_iff_toInt_le, ← Int32.toInt_inj, Int32.reduceToInt, Int32.not_lt, Int32.not_le] at *; omega))] at g; exact g))
            · skip
              refine am_Rn.go (t := am_t38) rfl 2 rfl ⟨trivial, trivial, trivial⟩ ?_
              refine am_Rn.br (fun h8 => ?_) (fun h8 => ?_)
              · skip
                refine am_Rn.go (t := am_t38) rfl 2 rfl ⟨trivial, trivial, trivial⟩ ?_
                first
                | (have g := ih (i + 1) (some (.int 0)) (by omega)
                   rw [am_fold_succ, hF, ← am_inc] at g
                   (try simp only [e1, e2, am_on, Int32.reduceToNatClampNeg] at *)
                   first
                     | (exfalso; first | contradiction | (simp only [Int32.lt_iff_toInt_lt, Int32.le_iff_toInt_le, ← Int32.toInt_inj, Int32.reduceToInt, Int32.not_lt, Int32.not_le] at *; omega))
                     | (rw [sp_bestS_T (by simp only [sp_mayS, sp_under, Bool.and_eq_true, decide_eq_true_eq, and_true, ne_eq, Option.some.injEq, reduceCtorEq, not_false_eq_true]; (simp only [Int32.lt_iff_toInt_lt, Int32.le_iff_toInt_le, ← Int32.toInt_inj, Int32.reduceToInt, Int32.not_lt, Int32.not_le] at *; omega))] at g; exact g)
                     | (rw [sp_bestS_F (by simp only [sp_mayS, sp_under, Bool.and_eq_true, decide_eq_true_eq, and_true, ne_eq, Option.some.injEq, reduceCtorEq, not_false_eq_true]; (simp only [Int32.lt_iff_toInt_lt, Int32.le_iff_toInt_le, ← Int32.toInt_inj, Int32.reduceToInt, Int32.not_lt, Int32.not_le] at *; omega))] at g; exact g))
                | (have g := ih (i + 1) (some (.int 1)) (by omega)
                   rw [am_fold_succ, hF, ← am_inc] at g
                   (try simp only [e1, e2, am_on, Int32.reduceToNatClampNeg] at *)
                   first
                     | (exfalso; first | contradiction | (simp only [Int32.lt_iff_toInt_lt, Int32.le_iff_toInt_le, ← Int32.toInt_inj, Int32.reduceToInt, Int32.not_lt, Int32.not_le] at *; omega))
                     | (rw [sp_bestS_T (by simp only [sp_mayS, sp_under, Bool.and_eq_true, decide_eq_true_eq, and_true, ne_eq, Option.some.injEq, reduceCtorEq, not_false_eq_true]; (simp only [Int32.lt_iff_toInt_lt, Int32.le_iff_toInt_le, ← Int32.toInt_inj, Int32.reduceToInt, Int32.not_lt, Int32.not_le] at *; omega))] at g; exact g)
                     | (rw [sp_bestS_F (by simp only [sp_mayS, sp_under, Bool.and_eq_true, decide_eq_true_eq, and_true, ne_eq, Option.some.injEq, reduceCtorEq, not_false_eq_true]; (simp only [Int32.lt_iff_toInt_lt, Int32.le_iff_toInt_le, ← Int32.toInt_inj, Int32.reduceToInt, Int32.not_lt, Int32.not_le] at *; omega))] at g; exact g))
              · skip
                refine am_Rn.go (t := am_t38) rfl 2 rfl ⟨trivial, trivial, trivial⟩ ?_
                refine am_Rn.brT (show (-1 : Int32) < 0 by decide) ?_
                refine am_Rn.go (t := am_t38) rfl 4 rfl ⟨trivial, trivial, trivial, trivial, trivial⟩ ?_
                first
                | (have g := ih (i + 1) (some (.int 0)) (by omega)
                   rw [am_fold_succ, hF, ← am_inc] at g
                   (try simp only [e1, e2, am_on, Int32.reduceToNatClampNeg] at *)
                   first
                     | (exfalso; first | contradiction | (simp only [Int32.lt_iff_toInt_lt, Int32.le_iff_toInt_le, ← Int32.toInt_inj, Int32.reduceToInt, Int32.not_lt, Int32.not_le] at *; omega))
                     | (rw [sp_bestS_T (by simp only [sp_mayS, sp_under, Bool.and_eq_true, decide_eq_true_eq, and_true, ne_eq, Option.some.injEq, reduceCtorEq, not_false_eq_true]; (simp only [Int32.lt_iff_toInt_lt, Int32.le_iff_toInt_le, ← Int32.toInt_inj, Int32.reduceToInt, Int32.not_lt, Int32.not_le] at *; omega))] at g; exact g)
                     | (rw [sp_bestS_F (by simp only [sp_mayS, sp_under, Bool.and_eq_true, decide_eq_true_eq, and_true, ne_eq, Option.some.injEq, reduceCtorEq, not_false_eq_true]; (simp only [Int32.lt_iff_toInt_lt, Int32.le_iff_toInt_le, ← Int32.toInt_inj, Int32.reduceToInt, Int32.not_lt, Int32.not_le] at *; omega))] at g; exact g))
                | (have g := ih (i + 1) (some (.int 1)) (by omega)
                   rw [am_fold_succ, hF, ← am_inc] at g
                   (try simp only [e1, e2, am_on, Int32.reduceToNatClampNeg] at *)
                   first
                     | (exfalso; first | contradiction | (simp only [Int32.lt_iff_toInt_lt, Int32.le_iff_toInt_le, ← Int32.toInt_inj, Int32.reduceToInt, Int32.not_lt, Int32.not_le] at *; omega))
                     | (rw [sp_bestS_T (by simp only [sp_mayS, sp_under, Bool.and_eq_true, decide_eq_true_eq, and_true, ne_eq, Option.some.injEq, reduceCtorEq, not_false_eq_true]; (simp only [Int32.lt_iff_toInt_lt, Int32.le_iff_toInt_le, ← Int32.toInt_inj, Int32.reduceToInt, Int32.not_lt, Int32.not_le] at *; omega))] at g; exact g)
                     | (rw [sp_bestS_F (by simp only [sp_mayS, sp_under, Bool.and_eq_true, decide_eq_true_eq, and_true, ne_eq, Option.some.injEq, reduceCtorEq, not_false_eq_true]; (simp only [Int32.lt_iff_toInt_lt, Int32.le_iff_toInt_le, ← Int32.toInt_inj, Int32.reduceToInt, Int32.not_lt, Int32.not_le] at *; omega))] at g; exact g))
          · skip
            refine am_Rn.go (t := am_t38) rfl 9 rfl ⟨trivial, trivial, trivial, trivial, trivial, trivial, (by first | exact am_inb_lit rfl | exact am_inb_of (by omega) (by omega)), trivial, trivial, trivial⟩ ?_
            refine am_Rn.br (fun h10 => ?_) (fun h10 => ?_)
            · skip
              refine am_Rn.go (t := am_t38) rfl 2 rfl ⟨trivial, trivial, trivial⟩ ?_
              first
              | (have g := ih (i + 1) (some (.int 0)) (by omega)
                 rw [am_fold_succ, hF, ← am_inc] at g
                 (try simp only [e1, e2, am_on, Int32.reduceToNatClampNeg] at *)
                 first
                   | (exfalso; first | contradiction | (simp only [Int32.lt_iff_toInt_lt, Int32.le_iff_toInt_le, ← Int32.toInt_inj, Int32.reduceToInt, Int32.not_lt, Int32.not_le] at *; omega))
                   | (rw [sp_bestS_T (by simp only [sp_mayS, sp_under, Bool.and_eq_true, decide_eq_true_eq, and_true, ne_eq, Option.some.injEq, reduceCtorEq, not_false_eq_true]; (simp only [Int32.lt_iff_toInt_lt, Int32.le_iff_toInt_le, ← Int32.toInt_inj, Int32.reduceToInt, Int32.not_lt, Int32.not_le] at *; omega))] at g; exact g)
                   | (rw [sp_bestS_F (by simp only [sp_mayS, sp_under, Bool.and_eq_true, decide_eq_true_eq, and_true, ne_eq, Option.some.injEq, reduceCtorEq, not_false_eq_true]; (simp only [Int32.lt_iff_toInt_lt, Int32.le_iff_toInt_le, ← Int32.toInt_inj, Int32.reduceToInt, Int32.not_lt, Int32.not_le] at *; omega))] at g; exact g))
              | (have g := ih (i + 1) (some (.int 1)) (by omega)
                 rw [am_fold_succ, hF, ← am_inc] at g
                 (try simp only [e1, e2, am_on, Int32.reduceToNatClampNeg] at *)
                 first
                   | (exfalso; first | contradiction | (simp only [Int32.lt_iff_toInt_lt, Int32.le_iff_toInt_le, ← Int32.toInt_inj, Int32.reduceToInt, Int32.not_lt, Int32.not_le] at *; omega))
                   | (rw [sp_bestS_T (by simp only [sp_mayS, sp_under, Bool.and_eq_true, decide_eq_true_eq, and_true, ne_eq, Option.some.injEq, reduceCtorEq, not_false_eq_true]; (simp only [Int32.lt_iff_toInt_lt, Int32.le_iff_toInt_le, ← Int32.toInt_inj, Int32.reduceToInt, Int32.not_lt, Int32.not_le] at *; omega))] at g; exact g)
                   | (rw [sp_bestS_F (by simp only [sp_mayS, sp_under, Bool.and_eq_true, decide_eq_true_eq, and_true, ne_eq, Option.some.injEq, reduceCtorEq, not_false_eq_true]; (simp only [Int32.lt_iff_toInt_lt, Int32.le_iff_toInt_le, ← Int32.toInt_inj, Int32.reduceToInt, Int32.not_lt, Int32.not_le] at *; omega))] at g; exact g))
            · skip
              refine am_Rn.go (t := am_t38) rfl 2 rfl ⟨trivial, trivial, trivial⟩ ?_
              refine am_Rn.br (fun h11 => ?_) (fun h11 => ?_)
              · skip
                refine am_Rn.go (t := am_t38) rfl 2 rfl ⟨trivial, trivial, trivial⟩ ?_
                first
                | (have g := ih (i + 1) (some (.int 0)) (by omega)
                   rw [am_fold_succ, hF, ← am_inc] at g
                   (try simp only [e1, e2, am_on, Int32.reduceToNatClampNeg] at *)
                   first
                     | (exfalso; first | contradiction | (simp only [Int32.lt_iff_toInt_lt, Int32.le_iff_toInt_le, ← Int32.toInt_inj, Int32.reduceToInt, Int32.not_lt, Int32.not_le] at *; omega))
                     | (rw [sp_bestS_T (by simp only [sp_mayS, sp_under, Bool.and_eq_true, decide_eq_true_eq, and_true, ne_eq, Option.some.injEq, reduceCtorEq, not_false_eq_true]; (simp only [Int32.lt_iff_toInt_lt, Int32.le_iff_toInt_le, ← Int32.toInt_inj, Int32.reduceToInt, Int32.not_lt, Int32.not_le] at *; omega))] at g; exact g)
                     | (rw [sp_bestS_F (by simp only [sp_mayS, sp_under, Bool.and_eq_true, decide_eq_true_eq, and_true, ne_eq, Option.some.injEq, reduceCtorEq, not_false_eq_true]; (simp only [Int32.lt_iff_toInt_lt, Int32.le_iff_toInt_le, ← Int32.toInt_inj, Int32.reduceToInt, Int32.not_lt, Int32.not_le] at *; omega))] at g; exact g))
                | (have g := ih (i + 1) (some (.int 1)) (by omega)
                   rw [am_fold_succ, hF, ← am_inc] at g
                   (try simp only [e1, e2, am_on, Int32.reduceToNatClampNeg] at *)
                   first
                     | (exfalso; first | contradiction | (simp only [Int32.lt_iff_toInt_lt, Int32.le_iff_toInt_le, ← Int32.toInt_inj, Int32.reduceToInt, Int32.not_lt, Int32.not_le] at *; omega))
                     | (rw [sp_bestS_T (by simp only [sp_mayS, sp_under, Bool.and_eq_true, decide_eq_true_eq, and_true, ne_eq, Option.some.injEq, reduceCtorEq, not_false_eq_true]; (simp only [Int32.lt_iff_toInt_lt, Int32.le_iff_toInt_le, ← Int32.toInt_inj, Int32.reduceToInt, Int32.not_lt, Int32.not_le] at *; omega))] at g; exact g)
                     | (rw [sp_bestS_F (by simp only [sp_mayS, sp_under, Bool.and_eq_true, decide_eq_true_eq, and_true, ne_eq, Option.some.injEq, reduceCtorEq, not_false_eq_true]; (simp only [Int32.lt_iff_toInt_lt, Int32.le_iff_toInt_le, ← Int32.toInt_inj, Int32.reduceToInt, Int32.not_lt, Int32.not_le] at *; omega))] at g; exact g))
              · skip
                refine am_Rn.go (t := am_t38) rfl 2 rfl ⟨trivial, trivial, trivial⟩ ?_
                refine am_Rn.brT (show (-1 : Int32) < 0 by decide) ?_
                refine am_Rn.go (t := am_t38) rfl 4 rfl ⟨trivial, trivial, trivial, trivial, trivial⟩ ?_
                first
                | (have g := ih (i + 1) (some (.int 0)) (by omega)
                   rw [am_fold_succ, hF, ← am_inc] at g
                   (try simp only [e1, e2, am_on, Int32.reduceToNatClampNeg] at *)
                   first
                     | (exfalso; first | contradiction | (simp only [Int32.lt_iff_toInt_lt, Int32.le_iff_toInt_le, ← Int32.toInt_inj, Int32.reduceToInt, Int32.not_lt, Int32.not_le] at *; omega))
                     | (rw [sp_bestS_T (by simp only [sp_mayS, sp_under, Bool.and_eq_true, decide_eq_true_eq, and_true, ne_eq, Option.some.injEq, reduceCtorEq, not_false_eq_true]; (simp only [Int32.lt_iff_toInt_lt, Int32.le_iff_toInt_le, ← Int32.toInt_inj, Int32.reduceToInt, Int32.not_lt, Int32.not_le] at *; omega))] at g; exact g)
                     | (rw [sp_bestS_F (by simp only [sp_mayS, sp_under, Bool.and_eq_true, decide_eq_true_eq, and_true, ne_eq, Option.some.injEq, reduceCtorEq, not_false_eq_true]; (simp only [Int32.lt_iff_toInt_lt, Int32.le_iff_toInt_le, ← Int32.toInt_inj, Int32.reduceToInt, Int32.not_lt, Int32.not_le] at *; omega))] at g; exact g))
                | (have g := ih (i + 1) (some (.int 1)) (by omega)
                   rw [am_fold_succ, hF, ← am_inc] at g
                   (try simp only [e1, e2, am_on, Int32.reduceToNatClampNeg] at *)
                   first
                     | (exfalso; first | contradiction | (simp only [Int32.lt_iff_toInt_lt, Int32.le_iff_toInt_le, ← Int32.toInt_inj, Int32.reduceToInt, Int32.not_lt, Int32.not_le] at *; omega))
                     | (rw [sp_bestS_T (by simp only [sp_mayS, sp_under, Bool.and_eq_true, decide_eq_true_eq, and_true, ne_eq, Option.some.injEq, reduceCtorEq, not_false_eq_true]; (simp only [Int32.lt_iff_toInt_lt, Int32.le_iff_toInt_le, ← Int32.toInt_inj, Int32.reduceToInt, Int32.not_lt, Int32.not_le] at *; omega))] at g; exact g)
                     | (rw [sp_bestS_F (by simp only [sp_mayS, sp_under, Bool.and_eq_true, decide_eq_true_eq, and_true, ne_eq, Option.some.injEq, reduceCtorEq, not_false_eq_true]; (simp only [Int32.lt_iff_toInt_lt, Int32.le_iff_toInt_le, ← Int32.toInt_inj, Int32.reduceToInt, Int32.not_lt, Int32.not_le] at *; omega))] at g; exact g))
      · skip
        have e3 := am_ofN i (by omega)
        have hq1 := hq q rfl
        have e2 : (Int32.ofNat q).toNatClampNeg = q := am_tn q (by omega)
        have hq2 : ¬ Int32.ofNat q < 0 := fun h => absurd ((am_lt (i := q) (j := 0) (by omega) (by omega)).mp h) (by omega)
        refine am_Rn.go (t := am_t38) rfl 5 rfl ⟨trivial, trivial, trivial, trivial, trivial, trivial⟩ ?_
        refine am_Rn.brF (by first | exact fun q => absurd ((am_le (by omega) (by omega)).mp q) (by omega) | exact fun q => absurd ((am_le (i := 9) (by omega) (by omega)).mp q) (by omega) | exact fun q => absurd ((am_le (i := 10) (by omega) (by omega)).mp q) (by omega) | exact (am_lt (by omega) (by omega)).mpr hiP) ?_
        refine am_Rn.go (t := am_t38) rfl 3 rfl ⟨trivial, trivial, trivial, trivial⟩ ?_
        refine am_Rn.br (fun h2 => ?_) (fun h2 => ?_)
        · skip
          refine am_Rn.go (t := am_t38) rfl 8 rfl ⟨trivial, trivial, trivial, trivial, trivial, (by first | exact am_inb_lit rfl | exact am_inb_of (by omega) (by omega)), trivial, trivial, trivial⟩ ?_
          refine am_Rn.br (fun h3 => ?_) (fun h3 => ?_)
          · skip
            refine am_Rn.go (t := am_t38) rfl 2 rfl ⟨trivial, trivial, trivial⟩ ?_
            first
            | (have g := ih (i + 1) (some (.int 0)) (by omega)
               rw [am_fold_succ, hF, ← am_inc] at g
               (try simp only [e1, e2, am_on, Int32.reduceToNatClampNeg] at *)
               first
                 | (exfalso; first | contradiction | (simp only [Int32.lt_iff_toInt_lt, Int32.le_iff_toInt_le, ← Int32.toInt_inj, Int32.reduceToInt, Int32.not_lt, Int32.not_le] at *; omega))
                 | (rw [sp_bestS_T (by simp only [sp_mayS, sp_under, Bool.and_eq_true, decide_eq_true_eq, and_true, ne_eq, Option.some.injEq, reduceCtorEq, not_false_eq_true]; (simp only [Int32.lt_iff_toInt_lt, Int32.le_iff_toInt_le, ← Int32.toInt_inj, Int32.reduceToInt, Int32.not_lt, Int32.not_le] at *; omega))] at g; exact g)
                 | (rw [sp_bestS_F (by simp only [sp_mayS, sp_under, Bool.and_eq_true, decide_eq_true_eq, and_true, ne_eq, Option.some.injEq, reduceCtorEq, not_false_eq_true]; (simp only [Int32.lt_iff_toInt_lt, Int32.le_iff_toInt_le, ← Int32.toInt_inj, Int32.reduceToInt, Int32.not_lt, Int32.not_le] at *; omega))] at g; exact g))
            | (have g := ih (i + 1) (some (.int 1)) (by omega)
               rw [am_fold_succ, hF, ← am_inc] at g
               (try simp only [e1, e2, am_on, Int32.reduceToNatClampNeg] at *)
               first
                 | (exfalso; first | contradiction | (simp only [Int32.lt_iff_toInt_lt, Int32.le_iff_toInt_le, ← Int32.toInt_inj, Int32.reduceToInt, Int32.not_lt, Int32.not_le] at *; omega))
                 | (rw [sp_bestS_T (by simp only [sp_mayS, sp_under, Bool.and_eq_true, decide_eq_true_eq, and_true, ne_eq, Option.some.injEq, reduceCtorEq, not_false_eq_true]; (simp only [Int32.lt_iff_toInt_lt, Int32.le_iff_toInt_le, ← Int32.toInt_inj, Int32.reduceToInt, Int32.not_lt, Int32.not_le] at *; omega))] at g; exact g)
                 | (rw [sp_bestS_F (by simp only [sp_mayS, sp_under, Bool.and_eq_true, decide_eq_true_eq, and_true, ne_eq, Option.some.injEq, reduceCtorEq, not_false_eq_true]; (simp only [Int32.lt_iff_toInt_lt, Int32.le_iff_toInt_le, ← Int32.toInt_inj, Int32.reduceToInt, Int32.not_lt, Int32.not_le] at *; omega))] at g; exact g))
          · skip
            refine am_Rn.go (t := am_t38) rfl 2 rfl ⟨trivial, trivial, trivial⟩ ?_
            refine am_Rn.br (fun h4 => ?_) (fun h4 => ?_)
            · skip
              refine am_Rn.go (t := am_t38) rfl 2 rfl ⟨trivial, trivial, trivial⟩ ?_
              first
              | (have g := ih (i + 1) (some (.int 0)) (by omega)
                 rw [am_fold_succ, hF, ← am_inc] at g
                 (try simp only [e1, e2, am_on, Int32.reduceToNatClampNeg] at *)
                 first
                   | (exfalso; first | contradiction | (simp only [Int32.lt_iff_toInt_lt, Int32.le_iff_toInt_le, ← Int32.toInt_inj, Int32.reduceToInt, Int32.not_lt, Int32.not_le] at *; omega))
                   | (rw [sp_bestS_T (by simp only [sp_mayS, sp_under, Bool.and_eq_true, decide_eq_true_eq, and_true, ne_eq, Option.some.injEq, reduceCtorEq, not_false_eq_true]; (simp only [Int32.lt_iff_toInt_lt, Int32.le_iff_toInt_le, ← Int32.toInt_inj, Int32.reduceToInt, Int32.not_lt, Int32.not_le] at *; omega))] at g; exact g)
                   | (rw [sp_bestS_F (by simp only [sp_mayS, sp_under, Bool.and_eq_true, decide_eq_true_eq, and_true, ne_eq, Option.some.injEq, reduceCtorEq, not_false_eq_true]; (simp only [Int32.lt_iff_toInt_lt, Int32.le_iff_toInt_le, ← Int32.toInt_inj, Int32.reduceToInt, Int32.not_lt, Int32.not_le] at *; omega))] at g; exact g))
              | (have g := ih (i + 1) (some (.int 1)) (by omega)
                 rw [am_fold_succ, hF, ← am_inc] at g
                 (try simp only [e1, e2, am_on, Int32.reduceToNatClampNeg] at *)
                 first
                   | (exfalso; first | contradiction | (simp only [Int32.lt_iff_toInt_lt, Int32.le_iff_toInt_le, ← Int32.toInt_inj, Int32.reduceToInt, Int32.not_lt, Int32.not_le] at *; omega))
                   | (rw [sp_bestS_T (by simp only [sp_mayS, sp_under, Bool.and_eq_true, decide_eq_true_eq, and_true, ne_eq, Option.some.injEq, reduceCtorEq, not_false_eq_true]; (simp only [Int32.lt_iff_toInt_lt, Int32.le_iff_toInt_le, ← Int32.toInt_inj, Int32.reduceToInt, Int32.not_lt, Int32.not_le] at *; omega))] at g; exact g)
                   | (rw [sp_bestS_F (by simp only [sp_mayS, sp_under, Bool.and_eq_true, decide_eq_true_eq, and_true, ne_eq, Option.some.injEq, reduceCtorEq, not_false_eq_true]; (simp only [Int32.lt_iff_toInt_lt, Int32.le_iff_toInt_le, ← Int32.toInt_inj, Int32.reduceToInt, Int32.not_lt, Int32.not_le] at *; omega))] at g; exact g))
            · skip
              refine am_Rn.go (t := am_t38) rfl 2 rfl ⟨trivial, trivial, trivial⟩ ?_
              refine am_Rn.brF hq2 ?_
              refine am_Rn.go (t := am_t38) rfl 9 rfl ⟨trivial, trivial, trivial, (by first | exact am_inb_lit rfl | exact am_inb_of (by omega) (by omega)), trivial, trivial, trivial, (by first | exact am_inb_lit rfl | exact am_inb_of (by omega) (by omega)), trivial, trivial⟩ ?_
              refine am_Rn.br (fun h6 => ?_) (fun h6 => ?_)
              · skip
                refine am_Rn.go (t := am_t38) rfl 2 rfl ⟨trivial, trivial, trivial⟩ ?_
                first
                | (have g := ih (i + 1) (some (.int 0)) (by omega)
                   rw [am_fold_succ, hF, ← am_inc] at g
                   (try simp only [e1, e2, am_on, Int32.reduceToNatClampNeg] at *)
                   first
                     | (exfalso; first | contradiction | (simp only [Int32.lt_iff_toInt_lt, Int32.le_iff_toInt_le, ← Int32.toInt_inj, Int32.reduceToInt, Int32.not_lt, Int32.not_le] at *; omega))
                     | (rw [sp_bestS_T (by simp only [sp_mayS, sp_under, Bool.and_eq_true, decide_eq_true_eq, and_true, ne_eq, Option.some.injEq, reduceCtorEq, not_false_eq_true]; (simp only [Int32.lt_iff_toInt_lt, Int32.le_iff_toInt_le, ← Int32.toInt_inj, Int32.reduceToInt, Int32.not_lt, Int32.not_le] at *; omega))] at g; exact g)
                     | (rw [sp_bestS_F (by simp only [sp_mayS, sp_under, Bool.and_eq_true, decide_eq_true_eq, and_true, ne_eq, Option.some.injEq, reduceCtorEq, not_false_eq_true]; (simp only [Int32.lt_iff_toInt_lt, Int32.le_iff_toInt_le, ← Int32.toInt_inj, Int32.reduceToInt, Int32.not_lt, Int32.not_le] at *; omega))] at g; exact g))
                | (have g := ih (i + 1) (some (.int 1)) (by omega)
                   rw [am_fold_succ, hF, ← am_inc] at g
                   (try simp only [e1, e2, am_on, Int32.reduceToNatClampNeg] at *)
                   first
                     | (exfalso; first | contradiction | (simp only [Int32.lt_iff_toInt_lt, Int32.le_iff_toInt_le, ← Int32.toInt_inj, Int32.reduceToInt, Int32.not_lt, Int32.not_le] at *; omega))
                     | (rw [sp_bestS_T (by simp only [sp_mayS, sp_under, Bool.and_eq_true, decide_eq_true_eq, and_true, ne_eq, Option.some.injEq, reduceCtorEq, not_false_eq_true]; (simp only [Int32.lt_iff_toInt_lt, Int32.le_iff_toInt_le, ← Int32.toInt_inj, Int32.reduceToInt, Int32.not_lt, Int32.not_le] at *; omega))] at g; exact g)
                     | (rw [sp_bestS_F (by simp only [sp_mayS, sp_under, Bool.and_eq_true, decide_eq_true_eq, and_true, ne_eq, Option.some.injEq, reduceCtorEq, not_false_eq_true]; (simp only [Int32.lt_iff_toInt_lt, Int32.le_iff_toInt_le, ← Int32.toInt_inj, Int32.reduceToInt, Int32.not_lt, Int32.not_le] at *; omega))] at g; exact g))
              · skip
                refine am_Rn.go (t := am_t38) rfl 4 rfl ⟨trivial, trivial, trivial, trivial, trivial⟩ ?_
                first
                | (have g := ih (i + 1) (some (.int 0)) (by omega)
                   rw [am_fold_succ, hF, ← am_inc] at g
                   (try simp only [e1, e2, am_on, Int32.reduceToNatClampNeg] at *)
                   first
                     | (exfalso; first | contradiction | (simp only [Int32.lt_iff_toInt_lt, Int32.le_iff_toInt_le, ← Int32.toInt_inj, Int32.reduceToInt, Int32.not_lt, Int32.not_le] at *; omega))
                     | (rw [sp_bestS_T (by simp only [sp_mayS, sp_under, Bool.and_eq_true, decide_eq_true_eq, and_true, ne_eq, Option.some.injEq, reduceCtorEq, not_false_eq_true]; (simp only [Int32.lt_iff_toInt_lt, Int32.le_iff_toInt_le, ← Int32.toInt_inj, Int32.reduceToInt, Int32.not_lt, Int32.not_le] at *; omega))] at g; exact g)
                     | (rw [sp_bestS_F (by simp only [sp_mayS, sp_under, Bool.and_eq_true, decide_eq_true_eq, and_true, ne_eq, Option.some.injEq, reduceCtorEq, not_false_eq_true]; (simp only [Int32.lt_iff_toInt_lt, Int32.le_iff_toInt_le, ← Int32.toInt_inj, Int32.reduceToInt, Int32.not_lt, Int32.not_le] at *; omega))] at g; exact g))
                | (have g := ih (i + 1) (some (.int 1)) (by omega)
                   rw [am_fold_succ, hF, ← am_inc] at g
                   (try simp only [e1, e2, am_on, Int32.reduceToNatClampNeg] at *)
                   first
                     | (exfalso; first | contradiction | (simp only [Int32.lt_iff_toInt_lt, Int32.le_iff_toInt_le, ← Int32.toInt_inj, Int32.reduceToInt, Int32.not_lt, Int32.not_le] at *; omega))
                     | (rw [sp_bestS_T (by simp only [sp_mayS, sp_under, Bool.and_eq_true, decide_eq_true_eq, and_true, ne_eq, Option.some.injEq, reduceCtorEq, not_false_eq_true]; (simp only [Int32.lt_iff_toInt_lt, Int32.le_iff_toInt_le, ← Int32.toInt_inj, Int32.reduceToInt, Int32.not_lt, Int32.not_le] at *; omega))] at g; exact g)
                     | (rw [sp_bestS_F (by simp only [sp_mayS, sp_under, Bool.and_eq_true, decide_eq_true_eq, and_true, ne_eq, Option.some.injEq, reduceCtorEq, not_false_eq_true]; (simp only [Int32.lt_iff_toInt_lt, Int32.le_iff_toInt_le, ← Int32.toInt_inj, Int32.reduceToInt, Int32.not_lt, Int32.not_le] at *; omega))] at g; exact g))
        · skip
          refine am_Rn.go (t := am_t38) rfl 11 rfl ⟨trivial, trivial, trivial, (by first | exact am_inb_lit rfl | exact am_inb_of (by omega) (by omega)), trivial, trivial, trivial, trivial, (by first | exact am_inb_lit rfl | exact am_inb_of (by omega) (by omega)), trivial, trivial, trivial⟩ ?_
          refine am_Rn.br (fun h7 => ?_) (fun h7 => ?_)
          · skip
            refine am_Rn.go (t := am_t38) rfl 8 rfl ⟨trivial, trivial, trivial, trivial, trivial, (by first | exact am_inb_lit rfl | exact am_inb_of (by omega) (by omega)), trivial, trivial, trivial⟩ ?_
            refine am_Rn.br (fun h8 => ?_) (fun h8 => ?_)
            · skip
              refine am_Rn.go (t := am_t38) rfl 2 rfl ⟨trivial, trivial, trivial⟩ ?_
              first
              | (have g := ih (i + 1) (some (.int 0)) (by omega)
                 rw [am_fold_succ, hF, ← am_inc] at g
                 (try simp only [e1, e2, am_on, Int32.reduceToNatClampNeg] at *)
                 first
                   | (exfalso; first | contradiction | (simp only [Int32.lt_iff_toInt_lt, Int32.le_iff_toInt_le, ← Int32.toInt_inj, Int32.reduceToInt, Int32.not_lt, Int32.not_le] at *; omega))
                   | (rw [sp_bestS_T (by simp only [sp_mayS, sp_under, Bool.and_eq_true, decide_eq_true_eq, and_true, ne_eq, Option.some.injEq, reduceCtorEq, not_false_eq_true]; (simp only [Int32.lt_iff_toInt_lt, Int32.le_iff_toInt_le, ← Int32.toInt_inj, Int32.reduceToInt, Int32.not_lt, Int32.not_le] at *; omega))] at g; exact g)
                   | (rw [sp_bestS_F (by simp only [sp_mayS, sp_under, Bool.and_eq_true, decide_eq_true_eq, and_true, ne_eq, Option.some.injEq, reduceCtorEq, not_false_eq_true]; (simp only [Int32.lt_iff_toInt_lt, Int32.le_iff_toInt_le, ← Int32.toInt_inj, Int32.reduceToInt, Int32.not_lt, Int32.not_le] at *; omega))] at g; exact g))
              | (have g := ih (i + 1) (some (.int 1)) (by omega)
                 rw [am_fold_succ, hF, ← am_inc] at g
                 (try simp only [e1, e2, am_on, Int32.reduceToNatClampNeg] at *)
                 first
                   | (exfalso; first | contradiction | (simp only [Int32.lt_iff_toInt_lt, Int32.le_iff_toInt_le, ← Int32.toInt_inj, Int32.reduceToInt, Int32.not_lt, Int32.not_le] at *; omega))
                   | (rw [sp_bestS_T (by simp only [sp_mayS, sp_under, Bool.and_eq_true, decide_eq_true_eq, and_true, ne_eq, Option.some.injEq, reduceCtorEq, not_false_eq_true]; (simp only [Int32.lt_iff_toInt_lt, Int32.le_iff_toInt_le, ← Int32.toInt_inj, Int32.reduceToInt, Int32.not_lt, Int32.not_le] at *; omega))] at g; exact g)
                   | (rw [sp_bestS_F (by simp only [sp_mayS, sp_under, Bool.and_eq_true, decide_eq_true_eq, and_true, ne_eq, Option.some.injEq, reduceCtorEq, not_false_eq_true]; (simp only [Int32.lt_iff_toInt_lt, Int32.le_iff_toInt_le, ← Int32.toInt_inj, Int32.reduceToInt, Int32.not_lt, Int32.not_le] at *; omega))] at g; exact g))
            · skip
              refine am_Rn.go (t := am_t38) rfl 2 rfl ⟨trivial, trivial, trivial⟩ ?_
              refine am_Rn.br (fun h9 => ?_) (fun h9 => ?_)
              · skip
                refine am_Rn.go (t := am_t38) rfl 2 rfl ⟨trivial, trivial, trivial⟩ ?_
                first
                | (have g := ih (i + 1) (some (.int 0)) (by omega)
                   rw [am_fold_succ, hF, ← am_inc] at g
                   (try simp only [e1, e2, am_on, Int32.reduceToNatClampNeg] at *)
                   first
                     | (exfalso; first | contradiction | (simp only [Int32.lt_iff_toInt_lt, Int32.le_iff_toInt_le, ← Int32.toInt_inj, Int32.reduceToInt, Int32.not_lt, Int32.not_le] at *; omega))
                     | (rw [sp_bestS_T (by simp only [sp_mayS, sp_under, Bool.and_eq_true, decide_eq_true_eq, and_true, ne_eq, Option.some.injEq, reduceCtorEq, not_false_eq_true]; (simp only [Int32.lt_iff_toInt_lt, Int32.le_iff_toInt_le, ← Int32.toInt_inj, Int32.reduceToInt, Int32.not_lt, Int32.not_le] at *; omega))] at g; exact g)
                     | (rw [sp_bestS_F (by simp only [sp_mayS, sp_under, Bool.and_eq_true, decide_eq_true_eq, and_true, ne_eq, Option.some.injEq, reduceCtorEq, not_false_eq_true]; (simp only [Int32.lt_iff_toInt_lt, Int32.le_iff_toInt_le, ← Int32.toInt_inj, Int32.reduceToInt, Int32.not_lt, Int32.not_le] at *; omega))] at g; exact g))
                | (have g := ih (i + 1) (some (.int 1)) (by omega)
                   rw [am_fold_succ, hF, ← am_inc] at g
                   (try simp only [e1, e2, am_on, Int32.reduceToNatClampNeg] at *)
                   first
                     | (exfalso; first | contradiction | (simp only [Int32.lt_iff_toInt_lt, Int32.le_iff_toInt_le, ← Int32.toInt_inj, Int32.reduceToInt, Int32.not_lt, Int32.not_le] at *; omega))
                     | (rw [sp_bestS_T (by simp only [sp_mayS, sp_under, Bool.and_eq_true, decide_eq_true_eq, and_true, ne_eq, Option.some.injEq, reduceCtorEq, not_false_eq_true]; (simp only [Int32.lt_iff_toInt_lt, Int32.le_iff_toInt_le, ← Int32.toInt_inj, Int32.reduceToInt, Int32.not_lt, Int32.not_le] at *; omega))] at g; exact g)
                     | (rw [sp_bestS_F (by simp only [sp_mayS, sp_under, Bool.and_eq_true, decide_eq_true_eq, and_true, ne_eq, Option.some.injEq, reduceCtorEq, not_false_eq_true]; (simp only [Int32.lt_iff_toInt_lt, Int32.le_iff_toInt_le, ← Int32.toInt_inj, Int32.reduceToInt, Int32.not_lt, Int32.not_le] at *; omega))] at g; exact g))
              · skip
                refine am_Rn.go (t := am_t38) rfl 2 rfl ⟨trivial, trivial, trivial⟩ ?_
                refine am_Rn.brF hq2 ?_
                refine am_Rn.go (t := am_t38) rfl 9 rfl ⟨trivial, trivial, trivial, (by first | exact am_inb_lit rfl | exact am_inb_of (by omega) (by omega)), trivial, trivial, trivial, (by first | exact am_inb_lit rfl | exact am_inb_of (by omega) (by omega)), trivial, trivial⟩ ?_
                refine am_Rn.br (fun h11 => ?_) (fun h11 => ?_)
                · skip
                  refine am_Rn.go (t := am_t38) rfl 2 rfl ⟨trivial, trivial, trivial⟩ ?_
                  first
                  | (have g := ih (i + 1) (some (.int 0)) (by omega)
                     rw [am_fold_succ, hF, ← am_inc] at g
                     (try simp only [e1, e2, am_on, Int32.reduceToNatClampNeg] at *)
                     first
                       | (exfalso; first | contradiction | (simp only [Int32.lt_iff_toInt_lt, Int32.le_iff_toInt_le, ← Int32.toInt_inj, Int32.reduceToInt, Int32.not_lt, Int32.not_le] at *; omega))
                       | (rw [sp_bestS_T (by simp only [sp_mayS, sp_under, Bool.and_eq_true, decide_eq_true_eq, and_true, ne_eq, Option.some.injEq, reduceCtorEq, not_false_eq_true]; (simp only [Int32.lt_iff_toInt_lt, Int32.le_iff_toInt_le, ← Int32.toInt_inj, Int32.reduceToInt, Int32.not_lt, Int32.not_le] at *; omega))] at g; exact g)
                       | (rw [sp_bestS_F (by simp only [sp_mayS, sp_under, Bool.and_eq_true, decide_eq_true_eq, and_true, ne_eq, Option.some.injEq, reduceCtorEq, not_false_eq_true]; (simp only [Int32.lt_iff_toInt_lt, Int32.le_iff_toInt_le, ← Int32.toInt_inj, Int32.reduceToInt, Int32.not_lt, Int32.not_le] at *; omega))] at g; exact g))
                  | (have g := ih (i + 1) (some (.int 1)) (by omega)
                     rw [am_fold_succ, hF, ← am_inc] at g
                     (try simp only [e1, e2, am_on, Int32.reduceToNatClampNeg] at *)
                     first
                       | (exfalso; first | contradiction | (simp only [Int32.lt_iff_toInt_lt, Int32.le_iff_toInt_le, ← Int32.toInt_inj, Int32.reduceToInt, Int32.not_lt, Int32.not_le] at *; omega))
                       | (rw [sp_bestS_T (by simp only [sp_mayS, sp_under, Bool.and_eq_true, decide_eq_true_eq, and_true, ne_eq, Option.some.injEq, reduceCtorEq, not_false_eq_true]; (simp only [Int32.lt_iff_toInt_lt, Int32.le_iff_toInt_le, ← Int32.toInt_inj, Int32.reduceToInt, Int32.not_lt, Int32.not_le] at *; omega))] at g; exact g)
                       | (rw [sp_bestS_F (by simp only [sp_mayS, sp_under, Bool.and_eq_true, decide_eq_true_eq, and_true, ne_eq, Option.some.injEq, reduceCtorEq, not_false_eq_true]; (simp only [Int32.lt_iff_toInt_lt, Int32.le_iff_toInt_le, ← Int32.toInt_inj, Int32.reduceToInt, Int32.not_lt, Int32.not_le] at *; omega))] at g; exact g))
                · skip
                  refine am_Rn.go (t := am_t38) rfl 4 rfl ⟨trivial, trivial, trivial, trivial, trivial⟩ ?_
                  first
                  | (have g := ih (i + 1) (some (.int 0)) (by omega)
                     rw [am_fold_succ, hF, ← am_inc] at g
                     (try simp only [e1, e2, am_on, Int32.reduceToNatClampNeg] at *)
                     first
                       | (exfalso; first | contradiction | (simp only [Int32.lt_iff_toInt_lt, Int32.le_iff_toInt_le, ← Int32.toInt_inj, Int32.reduceToInt, Int32.not_lt, Int32.not_le] at *; omega))
                       | (rw [sp_bestS_T (by simp only [sp_mayS, sp_under, Bool.and_eq_true, decide_eq_true_eq, and_true, ne_eq, Option.some.injEq, reduceCtorEq, not_false_eq_true]; (simp only [Int32.lt_iff_toInt_lt, Int32.le_iff_toInt_le, ← Int32.toInt_inj, Int32.reduceToInt, Int32.not_lt, Int32.not_le] at *; omega))] at g; exact g)
                       | (rw [sp_bestS_F (by simp only [sp_mayS, sp_under, Bool.and_eq_true, decide_eq_true_eq, and_true, ne_eq, Option.some.injEq, reduceCtorEq, not_false_eq_true]; (simp only [Int32.lt_iff_toInt_lt, Int32.le_iff_toInt_le, ← Int32.toInt_inj, Int32.reduceToInt, Int32.not_lt, Int32.not_le] at *; omega))] at g; exact g))
                  | (have g := ih (i + 1) (some (.int 1)) (by omega)
                     rw [am_fold_succ, hF, ← am_inc] at g
                     (try simp only [e1, e2, am_on, Int32.reduceToNatClampNeg] at *)
                     first
                       | (exfalso; first | contradiction | (simp only [Int32.lt_iff_toInt_lt, Int32.le_iff_toInt_le, ← Int32.toInt_inj, Int32.reduceToInt, Int32.not_lt, Int32.not_le] at *; omega))
                       | (rw [sp_bestS_T (by simp only [sp_mayS, sp_under, Bool.and_eq_true, decide_eq_true_eq, and_true, ne_eq, Option.some.injEq, reduceCtorEq, not_false_eq_true]; (simp only [Int32.lt_iff_toInt_lt, Int32.le_iff_toInt_le, ← Int32.toInt_inj, Int32.reduceToInt, Int32.not_lt, Int32.not_le] at *; omega))] at g; exact g)
                       | (rw [sp_bestS_F (by simp only [sp_mayS, sp_under, Bool.and_eq_true, decide_eq_true_eq, and_true, ne_eq, Option.some.injEq, reduceCtorEq, not_false_eq_true]; (simp only [Int32.lt_iff_toInt_lt, Int32.le_iff_toInt_le, ← Int32.toInt_inj, Int32.reduceToInt, Int32.not_lt, Int32.not_le] at *; omega))] at g; exact g))
          · skip
            refine am_Rn.go (t := am_t38) rfl 9 rfl ⟨trivial, trivial, trivial, trivial, trivial, trivial, (by first | exact am_inb_lit rfl | exact am_inb_of (by omega) (by omega)), trivial, trivial, trivial⟩ ?_
            refine am_Rn.br (fun h12 => ?_) (fun h12 => ?_)
            · skip
              refine am_Rn.go (t := am_t38) rfl 2 rfl ⟨trivial, trivial, trivial⟩ ?_
              first
              | (have g := ih (i + 1) (some (.int 0)) (by omega)
                 rw [am_fold_succ, hF, ← am_inc] at g
                 (try simp only [e1, e2, am_on, Int32.reduceToNatClampNeg] at *)
                 first
                   | (exfalso; first | contradiction | (simp only [Int32.lt_iff_toInt_lt, Int32.le_iff_toInt_le, ← Int32.toInt_inj, Int32.reduceToInt, Int32.not_lt, Int32.not_le] at *; omega))
                   | (rw [sp_bestS_T (by simp only [sp_mayS, sp_under, Bool.and_eq_true, decide_eq_true_eq, and_true, ne_eq, Option.some.injEq, reduceCtorEq, not_false_eq_true]; (simp only [Int32.lt_iff_toInt_lt, Int32.le_iff_toInt_le, ← Int32.toInt_inj, Int32.reduceToInt, Int32.not_lt, Int32.not_le] at *; omega))] at g; exact g)
                   | (rw [sp_bestS_F (by simp only [sp_mayS, sp_under, Bool.and_eq_true, decide_eq_true_eq, and_true, ne_eq, Option.some.injEq, reduceCtorEq, not_false_eq_true]; (simp only [Int32.lt_iff_toInt_lt, Int32.le_iff_toInt_le, ← Int32.toInt_inj, Int32.reduceToInt, Int32.not_lt, Int32.not_le] at *; omega))] at g; exact g))
              | (have g := ih (i + 1) (some (.int 1)) (by omega)
                 rw [am_fold_succ, hF, ← am_inc] at g
                 (try simp only [e1, e2, am_on, Int32.reduceToNatClampNeg] at *)
                 first
                   | (exfalso; first | contradiction | (simp only [Int32.lt_iff_toInt_lt, Int32.le_iff_toInt_le, ← Int32.toInt_inj, Int32.reduceToInt, Int32.not_lt, Int32.not_le] at *; omega))
                   | (rw [sp_bestS_T (by simp only [sp_mayS, sp_under, Bool.and_eq_true, decide_eq_true_eq, and_true, ne_eq, Option.some.injEq, reduceCtorEq, not_false_eq_true]; (simp only [Int32.lt_iff_toInt_lt, Int32.le_iff_toInt_le, ← Int32.toInt_inj, Int32.reduceToInt, Int32.not_lt, Int32.not_le] at *; omega))] at g; exact g)
                   | (rw [sp_bestS_F (by simp only [sp_mayS, sp_under, Bool.and_eq_true, decide_eq_true_eq, and_true, ne_eq, Option.some.injEq, reduceCtorEq, not_false_eq_true]; (simp only [Int32.lt_iff_toInt_lt, Int32.le_iff_toInt_le, ← Int32.toInt_inj, Int32.reduceToInt, Int32.not_lt, Int32.not_le] at *; omega))] at g; exact g))
            · skip
              refine am_Rn.go (t := am_t38) rfl 2 rfl ⟨trivial, trivial, trivial⟩ ?_
              refine am_Rn.br (fun h13 => ?_) (fun h13 => ?_)
              · skip
                refine am_Rn.go (t := am_t38) rfl 2 rfl ⟨trivial, trivial, trivial⟩ ?_
                first
                | (have g := ih (i + 1) (some (.int 0)) (by omega)
                   rw [am_fold_succ, hF, ← am_inc] at g
                   (try simp only [e1, e2, am_on, Int32.reduceToNatClampNeg] at *)
                   first
                     | (exfalso; first | contradiction | (simp only [Int32.lt_iff_toInt_lt, Int32.le_iff_toInt_le, ← Int32.toInt_inj, Int32.reduceToInt, Int32.not_lt, Int32.not_le] at *; omega))
                     | (rw [sp_bestS_T (by simp only [sp_mayS, sp_under, Bool.and_eq_true, decide_eq_true_eq, and_true, ne_eq, Option.some.injEq, reduceCtorEq, not_false_eq_true]; (simp only [Int32.lt_iff_toInt_lt, Int32.le_iff_toInt_le, ← Int32.toInt_inj, Int32.reduceToInt, Int32.not_lt, Int32.not_le] at *; omega))] at g; exact g)
                     | (rw [sp_bestS_F (by simp only [sp_mayS, sp_under, Bool.and_eq_true, decide_eq_true_eq, and_true, ne_eq, Option.some.injEq, reduceCtorEq, not_false_eq_true]; (simp only [Int32.lt_iff_toInt_lt, Int32.le_iff_toInt_le, ← Int32.toInt_inj, Int32.reduceToInt, Int32.not_lt, Int32.not_le] at *; omega))] at g; exact g))
                | (have g := ih (i + 1) (some (.int 1)) (by omega)
                   rw [am_fold_succ, hF, ← am_inc] at g
                   (try simp only [e1, e2, am_on, Int32.reduceToNatClampNeg] at *)
                   first
                     | (exfalso; first | contradiction | (simp only [Int32.lt_iff_toInt_lt, Int32.le_iff_toInt_le, ← Int32.toInt_inj, Int32.reduceToInt, Int32.not_lt, Int32.not_le] at *; omega))
                     | (rw [sp_bestS_T (by simp only [sp_mayS, sp_under, Bool.and_eq_true, decide_eq_true_eq, and_true, ne_eq, Option.some.injEq, reduceCtorEq, not_false_eq_true]; (simp only [Int32.lt_iff_toInt_lt, Int32.le_iff_toInt_le, ← Int32.toInt_inj, Int32.reduceToInt, Int32.not_lt, Int32.not_le] at *; omega))] at g; exact g)
                     | (rw [sp_bestS_F (by simp only [sp_mayS, sp_under, Bool.and_eq_true, decide_eq_true_eq, and_true, ne_eq, Option.some.injEq, reduceCtorEq, not_false_eq_true]; (simp only [Int32.lt_iff_toInt_lt, Int32.le_iff_toInt_le, ← Int32.toInt_inj, Int32.reduceToInt, Int32.not_lt, Int32.not_le] at *; omega))] at g; exact g))
              · skip
                refine am_Rn.go (t := am_t38) rfl 2 rfl ⟨trivial, trivial, trivial⟩ ?_
                refine am_Rn.brF hq2 ?_
                refine am_Rn.go (t := am_t38) rfl 9 rfl ⟨trivial, trivial, trivial, (by first | exact am_inb_lit rfl | exact am_inb_of (by omega) (by omega)), trivial, trivial, trivial, (by first | exact am_inb_lit rfl | exact am_inb_of (by omega) (by omega)), trivial, trivial⟩ ?_
                refine am_Rn.br (fun h15 => ?_) (fun h15 => ?_)
                · skip
                  refine am_Rn.go (t := am_t38) rfl 2 rfl ⟨trivial, trivial, trivial⟩ ?_
                  first
                  | (have g := ih (i + 1) (some (.int 0)) (by omega)
                     rw [am_fold_succ, hF, ← am_inc] at g
                     (try simp only [e1, e2, am_on, Int32.reduceToNatClampNeg] at *)
                     first
                       | (exfalso; first | contradiction | (simp only [Int32.lt_iff_toInt_lt, Int32.le_iff_toInt_le, ← Int32.toInt_inj, Int32.reduceToInt, Int32.not_lt, Int32.not_le] at *; omega))
                       | (rw [sp_bestS_T (by simp only [sp_mayS, sp_under, Bool.and_eq_true, decide_eq_true_eq, and_true, ne_eq, Option.some.injEq, reduceCtorEq, not_false_eq_true]; (simp only [Int32.lt_iff_toInt_lt, Int32.le_iff_toInt_le, ← Int32.toInt_inj, Int32.reduceToInt, Int32.not_lt, Int32.not_le] at *; omega))] at g; exact g)
                       | (rw [sp_bestS_F (by simp only [sp_mayS, sp_under, Bool.and_eq_true, decide_eq_true_eq, and_true, ne_eq, Option.some.injEq, reduceCtorEq, not_false_eq_true]; (simp only [Int32.lt_iff_toInt_lt, Int32.le_iff_toInt_le, ← Int32.toInt_inj, Int32.reduceToInt, Int32.not_lt, Int32.not_le] at *; omega))] at g; exact g))
                  | (have g := ih (i + 1) (some (.int 1)) (by omega)
                     rw [am_fold_succ, hF, ← am_inc] at g
                     (try simp only [e1, e2, am_on, Int32.reduceToNatClampNeg] at *)
                     first
                       | (exfalso; first | contradiction | (simp only [Int32.lt_iff_toInt_lt, Int32.le_iff_toInt_le, ← Int32.toInt_inj, Int32.reduceToInt, Int32.not_lt, Int32.not_le] at *; omega))
                       | (rw [sp_bestS_T (by simp only [sp_mayS, sp_under, Bool.and_eq_true, decide_eq_true_eq, and_true, ne_eq, Option.some.injEq, reduceCtorEq, not_false_eq_true]; (simp only [Int32.lt_iff_toInt_lt, Int32.le_iff_toInt_le, ← Int32.toInt_inj, Int32.reduceToInt, Int32.not_lt, Int32.not_le] at *; omega))] at g; exact g)
                       | (rw [sp_bestS_F (by simp only [sp_mayS, sp_under, Bool.and_eq_true, decide_eq_true_eq, and_true, ne_eq, Option.some.injEq, reduceCtorEq, not_false_eq_true]; (simp only [Int32.lt_iff_toInt_lt, Int32.le_iff_toInt_le, ← Int32.toInt_inj, Int32.reduceToInt, Int32.not_lt, Int32.not_le] at *; omega))] at g; exact g))
                · skip
                  refine am_Rn.go (t := am_t38) rfl 4 rfl ⟨trivial, trivial, trivial, trivial, trivial⟩ ?_
                  first
                  | (have g := ih (i + 1) (some (.int 0)) (by omega)
                     rw [am_fold_succ, hF, ← am_inc] at g
                     (try simp only [e1, e2, am_on, Int32.reduceToNatClampNeg] at *)
                     first
                       | (exfalso; first | contradiction | (simp only [Int32.lt_iff_toInt_lt, Int32.le_iff_toInt_le, ← Int32.toInt_inj, Int32.reduceToInt, Int32.not_lt, Int32.not_le] at *; omega))
                       | (rw [sp_bestS_T (by simp only [sp_mayS, sp_under, Bool.and_eq_true, decide_eq_true_eq, and_true, ne_eq, Option.some.injEq, reduceCtorEq, not_false_eq_true]; (simp only [Int32.lt_iff_toInt_lt, Int32.le_iff_toInt_le, ← Int32.toInt_inj, Int32.reduceToInt, Int32.not_lt, Int32.not_le] at *; omega))] at g; exact g)
                       | (rw [sp_bestS_F (by simp only [sp_mayS, sp_under, Bool.and_eq_true, decide_eq_true_eq, and_true, ne_eq, Option.some.injEq, reduceCtorEq, not_false_eq_true]; (simp only [Int32.lt_iff_toInt_lt, Int32.le_iff_toInt_le, ← Int32.toInt_inj, Int32.reduceToInt, Int32.not_lt, Int32.not_le] at *; omega))] at g; exact g))
                  | (have g := ih (i + 1) (some (.int 1)) (by omega)
                     rw [am_fold_succ, hF, ← am_inc] at g
                     (try simp only [e1, e2, am_on, Int32.reduceToNatClampNeg] at *)
                     first
                       | (exfalso; first | contradiction | (simp only [Int32.lt_iff_toInt_lt, Int32.le_iff_toInt_le, ← Int32.toInt_inj, Int32.reduceToInt, Int32.not_lt, Int32.not_le] at *; omega))
                       | (rw [sp_bestS_T (by simp only [sp_mayS, sp_under, Bool.and_eq_true, decide_eq_true_eq, and_true, ne_eq, Option.some.injEq, reduceCtorEq, not_false_eq_true]; (simp only [Int32.lt_iff_toInt_lt, Int32.le_iff_toInt_le, ← Int32.toInt_inj, Int32.reduceToInt, Int32.not_lt, Int32.not_le] at *; omega))] at g; exact g)
                       | (rw [sp_bestS_F (by simp only [sp_mayS, sp_under, Bool.and_eq_true, decide_eq_true_eq, and_true, ne_eq, Option.some.injEq, reduceCtorEq, not_false_eq_true]; (simp only [Int32.lt_iff_toInt_lt, Int32.le_iff_toInt_le, ← Int32.toInt_inj, Int32.reduceToInt, Int32.not_lt, Int32.not_le] at *; omega))] at g; exact g))
      · skip
        have e3 := am_ofN i (by omega)
        have hq1 := hq q rfl
        have e2 : (Int32.ofNat q).toNatClampNeg = q := am_tn q (by omega)
        have hq2 : ¬ Int32.ofNat q < 0 := fun h => absurd ((am_lt (i := q) (j := 0) (by omega) (by omega)).mp h) (by omega)
        have hr1 := hb r rfl
        have e4 := am_ofN r (by omega)
        refine am_Rn.go (t := am_t38) rfl 5 rfl ⟨trivial, trivial, trivial, trivial, trivial, trivial⟩ ?_
        refine am_Rn.brF (by first | exact fun q => absurd ((am_le (by omega) (by omega)).mp q) (by omega) | exact fun q => absurd ((am_le (i := 9) (by omega) (by omega)).mp q) (by omega) | exact fun q => absurd ((am_le (i := 10) (by omega) (by omega)).mp q) (by omega) | exact (am_lt (by omega) (by omega)).mpr hiP) ?_
        refine am_Rn.go (t := am_t38) rfl 3 rfl ⟨trivial, trivial, trivial, trivial⟩ ?_
        refine am_Rn.br (fun h2 => ?_) (fun h2 => ?_)
        · skip
          refine am_Rn.go (t := am_t38) rfl 8 rfl ⟨trivial, trivial, trivial, trivial, trivial, (by first | exact am_inb_lit rfl | exact am_inb_of (by omega) (by omega)), trivial, trivial, trivial⟩ ?_
          refine am_Rn.br (fun h3 => ?_) (fun h3 => ?_)
          · skip
            refine am_Rn.go (t := am_t38) rfl 2 rfl ⟨trivial, trivial, trivial⟩ ?_
            first
            | (have g := ih (i + 1) (some (.int 0)) (by omega)
               rw [am_fold_succ, hF, ← am_inc] at g
               (try simp only [e1, e2, am_on, Int32.reduceToNatClampNeg] at *)
               first
                 | (exfalso; first | contradiction | (simp only [Int32.lt_iff_toInt_lt, Int32.le_iff_toInt_le, ← Int32.toInt_inj, Int32.reduceToInt, Int32.not_lt, Int32.not_le] at *; omega))
                 | (rw [sp_bestS_T (by simp only [sp_mayS, sp_under, Bool.and_eq_true, decide_eq_true_eq, and_true, ne_eq, Option.some.injEq, reduceCtorEq, not_false_eq_true]; (simp only [Int32.lt_iff_toInt_lt, Int32.le_iff_toInt_le, ← Int32.toInt_inj, Int32.reduceToInt, Int32.not_lt, Int32.not_le] at *; omega))] at g; exact g)
                 | (rw [sp_bestS_F (by simp only [sp_mayS, sp_under, Bool.and_eq_true, decide_eq_true_eq, and_true, ne_eq, Option.some.injEq, reduceCtorEq, not_false_eq_true]; (simp only [Int32.lt_iff_toInt_lt, Int32.le_iff_toInt_le, ← Int32.toInt_inj, Int32.reduceToInt, Int32.not_lt, Int32.not_le] at *; omega))] at g; exact g))
            | (have g := ih (i + 1) (some (.int 1)) (by omega)
               rw [am_fold_succ, hF, ← am_inc] at g
               (try simp only [e1, e2, am_on, Int32.reduceToNatClampNeg] at *)
               first
                 | (exfalso; first | contradiction | (simp only [Int32.lt_iff_toInt_lt, Int32.le_iff_toInt_le, ← Int32.toInt_inj, Int32.reduceToInt, Int32.not_lt, Int32.not_le] at *; omega))
                 | (rw [sp_bestS_T (by simp only [sp_mayS, sp_under, Bool.and_eq_true, decide_eq_true_eq, and_true, ne_eq, Option.some.injEq, reduceCtorEq, not_false_eq_true]; (simp only [Int32.lt_iff_toInt_lt, Int32.le_iff_toInt_le, ← Int32.toInt_inj, Int32.reduceToInt, Int32.not_lt, Int32.not_le] at *; omega))] at g; exact g)
                 | (rw [sp_bestS_F (by simp only [sp_mayS, sp_under, Bool.and_eq_true, decide_eq_true_eq, and_true, ne_eq, Option.some.injEq, reduceCtorEq, not_false_eq_true]; (simp only [Int32.lt_iff_toInt_lt, Int32.le_iff_toInt_le, ← Int32.toInt_inj, Int32.reduceToInt, Int32.not_lt, Int32.not_le] at *; omega))] at g; exact g))
          · skip
            refine am_Rn.go (t := am_t38) rfl 2 rfl ⟨trivial, trivial, trivial⟩ ?_
            refine am_Rn.br (fun h4 => ?_) (fun h4 => ?_)
            · skip
              refine am_Rn.go (t := am_t38) rfl 2 rfl ⟨trivial, trivial, trivial⟩ ?_
              first
              | (have g := ih (i + 1) (some (.int 0)) (by omega)
                 rw [am_fold_succ, hF, ← am_inc] at g
                 (try simp only [e1, e2, am_on, Int32.reduceToNatClampNeg] at *)
                 first
                   | (exfalso; first | contradiction | (simp only [Int32.lt_iff_toInt_lt, Int32.le_iff_toInt_le, ← Int32.toInt_inj, Int32.reduceToInt, Int32.not_lt, Int32.not_le] at *; omega))
                   | (rw [sp_bestS_T (by simp only [sp_mayS, sp_under, Bool.and_eq_true, decide_eq_true_eq, and_true, ne_eq, Option.some.injEq, reduceCtorEq, not_false_eq_true]; (simp only [Int32.lt_iff_toInt_lt, Int32.le_iff_toInt_le, ← Int32.toInt_inj, Int32.reduceToInt, Int32.not_lt, Int32.not_le] at *; omega))] at g; exact g)
                   | (rw [sp_bestS_F (by simp only [sp_mayS, sp_under, Bool.and_eq_true, decide_eq_true_eq, and_true, ne_eq, Option.some.injEq, reduceCtorEq, not_false_eq_true]; (simp only [Int32.lt_iff_toInt_lt, Int32.le_iff_toInt_le, ← Int32.toInt_inj, Int32.reduceToInt, Int32.not_lt, Int32.not_le] at *; omega))] at g; exact g))
              | (have g := ih (i + 1) (some (.int 1)) (by omega)
                 rw [am_fold_succ, hF, ← am_inc] at g
                 (try simp only [e1, e2, am_on, Int32.reduceToNatClampNeg] at *)
                 first
                   | (exfalso; first | contradiction | (simp only [Int32.lt_iff_toInt_lt, Int32.le_iff_toInt_le, ← Int32.toInt_inj, Int32.reduceToInt, Int32.not_lt, Int32.not_le] at *; omega))
                   | (rw [sp_bestS_T (by simp only [sp_mayS, sp_under, Bool.and_eq_true, decide_eq_true_eq, and_true, ne_eq, Option.some.injEq, reduceCtorEq, not_false_eq_true]; (simp only [Int32.lt_iff_toInt_lt, Int32.le_iff_toInt_le, ← Int32.toInt_inj, Int32.reduceToInt, Int32.not_lt, Int32.not_le] at *; omega))] at g; exact g)
                   | (rw [sp_bestS_F (by simp only [sp_mayS, sp_under, Bool.and_eq_true, decide_eq_true_eq, and_true, ne_eq, Option.some.injEq, reduceCtorEq, not_false_eq_true]; (simp only [Int32.lt_iff_toInt_lt, Int32.le_iff_toInt_le, ← Int32.toInt_inj, Int32.reduceToInt, Int32.not_lt, Int32.not_le] at *; omega))] at g; exact g))
            · skip
              refine am_Rn.go (t := am_t38) rfl 2 rfl ⟨trivial, trivial, trivial⟩ ?_
              refine am_Rn.brF hq2 ?_
              refine am_Rn.go (t := am_t38) rfl 9 rfl ⟨trivial, trivial, trivial, (by first | exact am_inb_lit rfl | exact am_inb_of (by omega) (by omega)), trivial, trivial, trivial, (by first | exact am_inb_lit rfl | exact am_inb_of (by omega) (by omega)), trivial, trivial⟩ ?_
              refine am_Rn.br (fun h6 => ?_) (fun h6 => ?_)
              · skip
                refine am_Rn.go (t := am_t38) rfl 2 rfl ⟨trivial, trivial, trivial⟩ ?_
                first
                | (have g := ih (i + 1) (some (.int 0)) (by omega)
                   rw [am_fold_succ, hF, ← am_inc] at g
                   (try simp only [e1, e2, am_on, Int32.reduceToNatClampNeg] at *)
                   first
                     | (exfalso; first | contradiction | (simp only [Int32.lt_iff_toInt_lt, Int32.le_iff_toInt_le, ← Int32.toInt_inj, Int32.reduceToInt, Int32.not_lt, Int32.not_le] at *; omega))
                     | (rw [sp_bestS_T (by simp only [sp_mayS, sp_under, Bool.and_eq_true, decide_eq_true_eq, and_true, ne_eq, Option.some.injEq, reduceCtorEq, not_false_eq_true]; (simp only [Int32.lt_iff_toInt_lt, Int32.le_iff_toInt_le, ← Int32.toInt_inj, Int32.reduceToInt, Int32.not_lt, Int32.not_le] at *; omega))] at g; exact g)
                     | (rw [sp_bestS_F (by simp only [sp_mayS, sp_under, Bool.and_eq_true, decide_eq_true_eq, and_true, ne_eq, Option.some.injEq, reduceCtorEq, not_false_eq_true]; (simp only [Int32.lt_iff_toInt_lt, Int32.le_iff_toInt_le, ← Int32.toInt_inj, Int32.reduceToInt, Int32.not_lt, Int32.not_le] at *; omega))] at g; exact g))
                | (have g := ih (i + 1) (some (.int 1)) (by omega)
                   rw [am_fold_succ, hF, ← am_inc] at g
                   (try simp only [e1, e2, am_on, Int32.reduceToNatClampNeg] at *)
                   first
                     | (exfalso; first | contradiction | (simp only [Int32.lt_iff_toInt_lt, Int32.le_iff_toInt_le, ← Int32.toInt_inj, Int32.reduceToInt, Int32.not_lt, Int32.not_le] at *; omega))
                     | (rw [sp_bestS_T (by simp only [sp_mayS, sp_under, Bool.and_eq_true, decide_eq_true_eq, and_true, ne_eq, Option.some.injEq, reduceCtorEq, not_false_eq_true]; (simp only [Int32.lt_iff_toInt_lt, Int32.le_iff_toInt_le, ← Int32.toInt_inj, Int32.reduceToInt, Int32.not_lt, Int32.not_le] at *; omega))] at g; exact g)
                     | (rw [sp_bestS_F (by simp only [sp_mayS, sp_under, Bool.and_eq_true, decide_eq_true_eq, and_true, ne_eq, Option.some.injEq, reduceCtorEq, not_false_eq_true]; (simp only [Int32.lt_iff_toInt_lt, Int32.le_iff_toInt_le, ← Int32.toInt_inj, Int32.reduceToInt, Int32.not_lt, Int32.not_le] at *; omega))] at g; exact g))
              · skip
                refine am_Rn.go (t := am_t38) rfl 4 rfl ⟨trivial, trivial, trivial, trivial, trivial⟩ ?_
                first
                | (have g := ih (i + 1) (some (.int 0)) (by omega)
                   rw [am_fold_succ, hF, ← am_inc] at g
                   (try simp only [e1, e2, am_on, Int32.reduceToNatClampNeg] at *)
                   first
                     | (exfalso; first | contradiction | (simp only [Int32.lt_iff_toInt_lt, Int32.le_iff_toInt_le, ← Int32.toInt_inj, Int32.reduceToInt, Int32.not_lt, Int32.not_le] at *; omega))
                     | (rw [sp_bestS_T (by simp only [sp_mayS, sp_under, Bool.and_eq_true, decide_eq_true_eq, and_true, ne_eq, Option.some.injEq, reduceCtorEq, not_false_eq_true]; (simp only [Int32.lt_iff_toInt_lt, Int32.le_iff_toInt_le, ← Int32.toInt_inj, Int32.reduceToInt, Int32.not_lt, Int32.not_le] at *; omega))] at g; exact g)
                     | (rw [sp_bestS_F (by simp only [sp_mayS, sp_under, Bool.and_eq_true, decide_eq_true_eq, and_true, ne_eq, Option.some.injEq, reduceCtorEq, not_false_eq_true]; (simp only [Int32.lt_iff_toInt_lt, Int32.le_iff_toInt_le, ← Int32.toInt_inj, Int32.reduceToInt, Int32.not_lt, Int32.not_le] at *; omega))] at g; exact g))
                | (have g := ih (i + 1) (some (.int 1)) (by omega)
                   rw [am_fold_succ, hF, ← am_inc] at g
                   (try simp only [e1, e2, am_on, Int32.reduceToNatClampNeg] at *)
                   first
                     | (exfalso; first | contradiction | (simp only [Int32.lt_iff_toInt_lt, Int32.le_iff_toInt_le, ← Int32.toInt_inj, Int32.reduceToInt, Int32.not_lt, Int32.not_le] at *; omega))
                     | (rw [sp_bestS_T (by simp only [sp_mayS, sp_under, Bool.and_eq_true, decide_eq_true_eq, and_true, ne_eq, Option.some.injEq, reduceCtorEq, not_false_eq_true]; (simp only [Int32.lt_iff_toInt_lt, Int32.le_iff_toInt_le, ← Int32.toInt_inj, Int32.reduceToInt, Int32.not_lt, Int32.not_le] at *; omega))] at g; exact g)
                     | (rw [sp_bestS_F (by simp only [sp_mayS, sp_under, Bool.and_eq_true, decide_eq_true_eq, and_true, ne_eq, Option.some.injEq, reduceCtorEq, not_false_eq_true]; (simp only [Int32.lt_iff_toInt_lt, Int32.le_iff_toInt_le, ← Int32.toInt_inj, Int32.reduceToInt, Int32.not_lt, Int32.not_le] at *; omega))] at g; exact g))
        · skip
          refine am_Rn.go (t := am_t38) rfl 11 rfl ⟨trivial, trivial, trivial, (by first | exact am_inb_lit rfl | exact am_inb_of (by omega) (by omega)), trivial, trivial, trivial, trivial, (by first | exact am_inb_lit rfl | exact am_inb_of (by omega) (by omega)), trivial, trivial, trivial⟩ ?_
          refine am_Rn.br (fun h7 => ?_) (fun h7 => ?_)
          · skip
            refine am_Rn.go (t := am_t38) rfl 8 rfl ⟨trivial, trivial, trivial, trivial, trivial, (by first | exact am_inb_lit rfl | exact am_inb_of (by omega) (by omega)), trivial, trivial, trivial⟩ ?_
            refine am_Rn.br (fun h8 => ?_) (fun h8 => ?_)
            · skip
              refine am_Rn.go (t := am_t38) rfl 2 rfl ⟨trivial, trivial, trivial⟩ ?_
              first
              | (have g := ih (i + 1) (some (.int 0)) (by omega)
                 rw [am_fold_succ, hF, ← am_inc] at g
                 (try simp only [e1, e2, am_on, Int32.reduceToNatClampNeg] at *)
                 first
                   | (exfalso; first | contradiction | (simp only [Int32.lt_iff_toInt_lt, Int32.le_iff_toInt_le, ← Int32.toInt_inj, Int32.reduceToInt, Int32.not_lt, Int32.not_le] at *; omega))
                   | (rw [sp_bestS_T (by simp only [sp_mayS, sp_under, Bool.and_eq_true, decide_eq_true_eq, and_true, ne_eq, Option.some.injEq, reduceCtorEq, not_false_eq_true]; (simp only [Int32.lt_iff_toInt_lt, Int32.le_iff_toInt_le, ← Int32.toInt_inj, Int32.reduceToInt, Int32.not_lt, Int32.not_le] at *; omega))] at g; exact g)
                   | (rw [sp_bestS_F (by simp only [sp_mayS, sp_under, Bool.and_eq_true, decide_eq_true_eq, and_true, ne_eq, Option.some.injEq, reduceCtorEq, not_false_eq_true]; (simp only [Int32.lt_iff_toInt_lt, Int32.le_iff_toInt_le, ← Int32.toInt_inj, Int32.reduceToInt, Int32.not_lt, Int32.not_le] at *; omega))] at g; exact g))
              | (have g := ih (i + 1) (some (.int 1)) (by omega)
                 rw [am_fold_succ, hF, ← am_inc] at g
                 (try simp only [e1, e2, am_on, Int32.reduceToNatClampNeg] at *)
                 first
                   | (exfalso; first | contradiction | (simp only [Int32.lt_iff_toInt_lt, Int32.le_iff_toInt_le, ← Int32.toInt_inj, Int32.reduceToInt, Int32.not_lt, Int32.not_le] at *; omega))
                   | (rw [sp_bestS_T (by simp only [sp_mayS, sp_under, Bool.and_eq_true, decide_eq_true_eq, and_true, ne_eq, Option.some.injEq, reduceCtorEq, not_false_eq_true]; (simp only [Int32.lt_iff_toInt_lt, Int32.le_iff_toInt_le, ← Int32.toInt_inj, Int32.reduceToInt, Int32.not_lt, Int32.not_le] at *; omega))] at g; exact g)
                   | (rw [sp_bestS_F (by simp only [sp_mayS, sp_under, Bool.and_eq_true, decide_eq_true_eq, and_true, ne_eq, Option.some.injEq, reduceCtorEq, not_false_eq_true]; (simp only [Int32.lt_iff_toInt_lt, Int32.le_iff_toInt_le, ← Int32.toInt_inj, Int32.reduceToInt, Int32.not_lt, Int32.not_le] at *; omega))] at g; exact g))
            · skip
              refine am_Rn.go (t := am_t38) rfl 2 rfl ⟨trivial, trivial, trivial⟩ ?_
              refine am_Rn.br (fun h9 => ?_) (fun h9 => ?_)
              · skip
                refine am_Rn.go (t := am_t38) rfl 2 rfl ⟨trivial, trivial, trivial⟩ ?_
                first
                | (have g := ih (i + 1) (some (.int 0)) (by omega)
                   rw [am_fold_succ, hF, ← am_inc] at g
                   (try simp only [e1, e2, am_on, Int32.reduceToNatClampNeg] at *)
                   first
                     | (exfalso; first | contradiction | (simp only [Int32.lt_iff_toInt_lt, Int32.le_iff_toInt_le, ← Int32.toInt_inj, Int32.reduceToInt, Int32.not_lt, Int32.not_le] at *; omega))
                     | (rw [sp_bestS_T (by simp only [sp_mayS, sp_under, Bool.and_eq_true, decide_eq_true_eq, and_true, ne_eq, Option.some.injEq, reduceCtorEq, not_false_eq_true]; (simp only [Int32.lt_iff_toInt_lt, Int32.le_iff_toInt_le, ← Int32.toInt_inj, Int32.reduceToInt, Int32.not_lt, Int32.not_le] at *; omega))] at g; exact g)
                     | (rw [sp_bestS_F (by simp only [sp_mayS, sp_under, Bool.and_eq_true, decide_eq_true_eq, and_true, ne_eq, Option.some.injEq, reduceCtorEq, not_false_eq_true]; (simp only [Int32.lt_iff_toInt_lt, Int32.le_iff_toInt_le, ← Int32.toInt_inj, Int32.reduceToInt, Int32.not_lt, Int32.not_le] at *; omega))] at g; exact g))
                | (have g := ih (i + 1) (some (.int 1)) (by omega)
                   rw [am_fold_succ, hF, ← am_inc] at g
                   (try simp only [e1, e2, am_on, Int32.reduceToNatClampNeg] at *)
                   first
                     | (exfalso; first | contradiction | (simp only [Int32.lt_iff_toInt_lt, Int32.le_iff_toInt_le, ← Int32.toInt_inj, Int32.reduceToInt, Int32.not_lt, Int32.not_le] at *; omega))
                     | (rw [sp_bestS_T (by simp only [sp_mayS, sp_under, Bool.and_eq_true, decide_eq_true_eq, and_true, ne_eq, Option.some.injEq, reduceCtorEq, not_false_eq_true]; (simp only [Int32.lt_iff_toInt_lt, Int32.le_iff_toInt_le, ← Int32.toInt_inj, Int32.reduceToInt, Int32.not_lt, Int32.not_le] at *; omega))] at g; exact g)
                     | (rw [sp_bestS_F (by simp only [sp_mayS, sp_under, Bool.and_eq_true, decide_eq_true_eq, and_true, ne_eq, Option.some.injEq, reduceCtorEq, not_false_eq_true]; (simp only [Int32.lt_iff_toInt_lt, Int32.le_iff_toInt_le, ← Int32.toInt_inj, Int32.reduceToInt, Int32.not_lt, Int32.not_le] at *; omega))] at g; exact g))
              · skip
                refine am_Rn.go (t := am_t38) rfl 2 rfl ⟨trivial, trivial, trivial⟩ ?_
                refine am_Rn.brF hq2 ?_
                refine am_Rn.go (t := am_t38) rfl 9 rfl ⟨trivial, trivial, trivial, (by first | exact am_inb_lit rfl | exact am_inb_of (by omega) (by omega)), trivial, trivial, trivial, (by first | exact am_inb_lit rfl | exact am_inb_of (by omega) (by omega)), trivial, trivial⟩ ?_
                refine am_Rn.br (fun h11 => ?_) (fun h11 => ?_)
                · skip
                  refine am_Rn.go (t := am_t38) rfl 2 rfl ⟨trivial, trivial, trivial⟩ ?_
                  first
                  | (have g := ih (i + 1) (some (.int 0)) (by omega)
                     rw [am_fold_succ, hF, ← am_inc] at g
                     (try simp only [e1, e2, am_on, Int32.reduceToNatClampNeg] at *)
                     first
                       | (exfalso; first | contradiction | (simp only [Int32.lt_iff_toInt_lt, Int32.le_iff_toInt_le, ← Int32.toInt_inj, Int32.reduceToInt, Int32.not_lt, Int32.not_le] at *; omega))
                       | (rw [sp_bestS_T (by simp only [sp_mayS, sp_under, Bool.and_eq_true, decide_eq_true_eq, and_true, ne_eq, Option.some.injEq, reduceCtorEq, not_false_eq_true]; (simp only [Int32.lt_iff_toInt_lt, Int32.le_iff_toInt_le, ← Int32.toInt_inj, Int32.reduceToInt, Int32.not_lt, Int32.not_le] at *; omega))] at g; exact g)
                       | (rw [sp_bestS_F (by simp only [sp_mayS, sp_under, Bool.and_eq_true, decide_eq_true_eq, and_true, ne_eq, Option.some.injEq, reduceCtorEq, not_false_eq_true]; (simp only [Int32.lt_iff_toInt_lt, Int32.le_iff_toInt_le, ← Int32.toInt_inj, Int32.reduceToInt, Int32.not_lt, Int32.not_le] at *; omega))] at g; exact g))
                  | (have g := ih (i + 1) (some (.int 1)) (by omega)
                     rw [am_fold_succ, hF, ← am_inc] at g
                     (try simp only [e1, e2, am_on, Int32.reduceToNatClampNeg] at *)
                     first
                       | (exfalso; first | contradiction | (simp only [Int32.lt_iff_toInt_lt, Int32.le_iff_toInt_le, ← Int32.toInt_inj, Int32.reduceToInt, Int32.not_lt, Int32.not_le] at *; omega))
                       | (rw [sp_bestS_T (by simp only [sp_mayS, sp_under, Bool.and_eq_true, decide_eq_true_eq, and_true, ne_eq, Option.some.injEq, reduceCtorEq, not_false_eq_true]; (simp only [Int32.lt_iff_toInt_lt, Int32.le_iff_toInt_le, ← Int32.toInt_inj, Int32.reduceToInt, Int32.not_lt, Int32.not_le] at *; omega))] at g; exact g)
                       | (rw [sp_bestS_F (by simp only [sp_mayS, sp_under, Bool.and_eq_true, decide_eq_true_eq, and_true, ne_eq, Option.some.injEq, reduceCtorEq, not_false_eq_true]; (simp only [Int32.lt_iff_toInt_lt, Int32.le_iff_toInt_le, ← Int32.toInt_inj, Int32.reduceToInt, Int32.not_lt, Int32.not_le] at *; omega))] at g; exact g))
                · skip
                  refine am_Rn.go (t := am_t38) rfl 4 rfl ⟨trivial, trivial, trivial, trivial, trivial⟩ ?_
                  first
                  | (have g := ih (i + 1) (some (.int 0)) (by omega)
                     rw [am_fold_succ, hF, ← am_inc] at g
                     (try simp only [e1, e2, am_on, Int32.reduceToNatClampNeg] at *)
                     first
                       | (exfalso; first | contradiction | (simp only [Int32.lt_iff_toInt_lt, Int32.le_iff_toInt_le, ← Int32.toInt_inj, Int32.reduceToInt, Int32.not_lt, Int32.not_le] at *; omega))
                       | (rw [sp_bestS_T (by simp only [sp_mayS, sp_under, Bool.and_eq_true, decide_eq_true_eq, and_true, ne_eq, Option.some.injEq, reduceCtorEq, not_false_eq_true]; (simp only [Int32.lt_iff_toInt_lt, Int32.le_iff_toInt_le, ← Int32.toInt_inj, Int32.reduceToInt, Int32.not_lt, Int32.not_le] at *; omega))] at g; exact g)
                       | (rw [sp_bestS_F (by simp only [sp_mayS, sp_under, Bool.and_eq_true, decide_eq_true_eq, and_true, ne_eq, Option.some.injEq, reduceCtorEq, not_false_eq_true]; (simp only [Int32.lt_iff_toInt_lt, Int32.le_iff_toInt_le, ← Int32.toInt_inj, Int32.reduceToInt, Int32.not_lt, Int32.not_le] at *; omega))] at g; exact g))
                  | (have g := ih (i + 1) (some (.int 1)) (by omega)
                     rw [am_fold_succ, hF, ← am_inc] at g
                     (try simp only [e1, e2, am_on, Int32.reduceToNatClampNeg] at *)
                     first
                       | (exfalso; first | contradiction | (simp only [Int32.lt_iff_toInt_lt, Int32.le_iff_toInt_le, ← Int32.toInt_inj, Int32.reduceToInt, Int32.not_lt, Int32.not_le] at *; omega))
                       | (rw [sp_bestS_T (by simp only [sp_mayS, sp_under, Bool.and_eq_true, decide_eq_true_eq, and_true, ne_eq, Option.some.injEq, reduceCtorEq, not_false_eq_true]; (simp only [Int32.lt_iff_toInt_lt, Int32.le_iff_toInt_le, ← Int32.toInt_inj, Int32.reduceToInt, Int32.not_lt, Int32.not_le] at *; omega))] at g; exact g)
                       | (rw [sp_bestS_F (by simp only [sp_mayS, sp_under, Bool.and_eq_true, decide_eq_true_eq, and_true, ne_eq, Option.some.injEq, reduceCtorEq, not_false_eq_true]; (simp only [Int32.lt_iff_toInt_lt, Int32.le_iff_toInt_le, ← Int32.toInt_inj, Int32.reduceToInt, Int32.not_lt, Int32.not_le] at *; omega))] at g; exact g))
          · skip
            refine am_Rn.go (t := am_t38) rfl 9 rfl ⟨trivial, trivial, trivial, trivial, trivial, trivial, (by first | exact am_inb_lit rfl | exact am_inb_of (by omega) (by omega)), trivial, trivial, trivial⟩ ?_
            refine am_Rn.br (fun h12 => ?_) (fun h12 => ?_)
            · skip
              refine am_Rn.go (t := am_t38) rfl 2 rfl ⟨trivial, trivial, trivial⟩ ?_
              first
              | (have g := ih (i + 1) (some (.int 0)) (by omega)
                 rw [am_fold_succ, hF, ← am_inc] at g
                 (try simp only [e1, e2, am_on, Int32.reduceToNatClampNeg] at *)
                 first
                   | (exfalso; first | contradiction | (simp only [Int32.lt_iff_toInt_lt, Int32.le_iff_toInt_le, ← Int32.toInt_inj, Int32.reduceToInt, Int32.not_lt, Int32.not_le] at *; omega))
                   | (rw [sp_bestS_T (by simp only [sp_mayS, sp_under, Bool.and_eq_true, decide_eq_true_eq, and_true, ne_eq, Option.some.injEq, reduceCtorEq, not_false_eq_true]; (simp only [Int32.lt_iff_toInt_lt, Int32.le_iff_toInt_le, ← Int32.toInt_inj, Int32.reduceToInt, Int32.not_lt, Int32.not_le] at *; omega))] at g; exact g)
                   | (rw [sp_bestS_F (by simp only [sp_mayS, sp_under, Bool.and_eq_true, decide_eq_true_eq, and_true, ne_eq, Option.some.injEq, reduceCtorEq, not_false_eq_true]; (simp only [Int32.lt_iff_toInt_lt, Int32.le_iff_toInt_le, ← Int32.toInt_inj, Int32.reduceToInt, Int32.not_lt, Int32.not_le] at *; omega))] at g; exact g))
              | (have g := ih (i + 1) (some (.int 1)) (by omega)
                 rw [am_fold_succ, hF, ← am_inc] at g
                 (try simp only [e1, e2, am_on, Int32.reduceToNatClampNeg] at *)
                 first
                   | (exfalso; first | contradiction | (simp only [Int32.lt_iff_toInt_lt, Int32.le_iff_toInt_le, ← Int32.toInt_inj, Int32.reduceToInt, Int32.not_lt, Int32.not_le] at *; omega))
                   | (rw [sp_bestS_T (by simp only [sp_mayS, sp_under, Bool.and_eq_true, decide_eq_true_eq, and_true, ne_eq, Option.some.injEq, reduceCtorEq, not_false_eq_true]; (simp only [Int32.lt_iff_toInt_lt, Int32.le_iff_toInt_le, ← Int32.toInt_inj, Int32.reduceToInt, Int32.not_lt, Int32.not_le] at *; omega))] at g; exact g)
                   | (rw [sp_bestS_F (by simp only [sp_mayS, sp_under, Bool.and_eq_true, decide_eq_true_eq, and_true, ne_eq, Option.some.injEq, reduceCtorEq, not_false_eq_true]; (simp only [Int32.lt_iff_toInt_lt, Int32.le_iff_toInt_le, ← Int32.toInt_inj, Int32.reduceToInt, Int32.not_lt, Int32.not_le] at *; omega))] at g; exact g))
            · skip
              refine am_Rn.go (t := am_t38) rfl 2 rfl ⟨trivial, trivial, trivial⟩ ?_
              refine am_Rn.br (fun h13 => ?_) (fun h13 => ?_)
              · skip
                refine am_Rn.go (t := am_t38) rfl 2 rfl ⟨trivial, trivial, trivial⟩ ?_
                first
                | (have g := ih (i + 1) (some (.int 0)) (by omega)
                   rw [am_fold_succ, hF, ← am_inc] at g
                   (try simp only [e1, e2, am_on, Int32.reduceToNatClampNeg] at *)
                   first
                     | (exfalso; first | contradiction | (simp only [Int32.lt_iff_toInt_lt, Int32.le_iff_toInt_le, ← Int32.toInt_inj, Int32.reduceToInt, Int32.not_lt, Int32.not_le] at *; omega))
                     | (rw [sp_bestS_T (by simp only [sp_mayS, sp_under, Bool.and_eq_true, decide_eq_true_eq, and_true, ne_eq, Option.some.injEq, reduceCtorEq, not_false_eq_true]; (simp only [Int32.lt_iff_toInt_lt, Int32.le_iff_toInt_le, ← Int32.toInt_inj, Int32.reduceToInt, Int32.not_lt, Int32.not_le] at *; omega))] at g; exact g)
                     | (rw [sp_bestS_F (by simp only [sp_mayS, sp_under, Bool.and_eq_true, decide_eq_true_eq, and_true, ne_eq, Option.some.injEq, reduceCtorEq, not_false_eq_true]; (simp only [Int32.lt_iff_toInt_lt, Int32.le_iff_toInt_le, ← Int32.toInt_inj, Int32.reduceToInt, Int32.not_lt, Int32.not_le] at *; omega))] at g; exact g))
                | (have g := ih (i + 1) (some (.int 1)) (by omega)
                   rw [am_fold_succ, hF, ← am_inc] at g
                   (try simp only [e1, e2, am_on, Int32.reduceToNatClampNeg] at *)
                   first
                     | (exfalso; first | contradiction | (simp only [Int32.lt_iff_toInt_lt, Int32.le_iff_toInt_le, ← Int32.toInt_inj, Int32.reduceToInt, Int32.not_lt, Int32.not_le] at *; omega))
                     | (rw [sp_bestS_T (by simp only [sp_mayS, sp_under, Bool.and_eq_true, decide_eq_true_eq, and_true, ne_eq, Option.some.injEq, reduceCtorEq, not_false_eq_true]; (simp only [Int32.lt_iff_toInt_lt, Int32.le_iff_toInt_le, ← Int32.toInt_inj, Int32.reduceToInt, Int32.not_lt, Int32.not_le] at *; omega))] at g; exact g)
                     | (rw [sp_bestS_F (by simp only [sp_mayS, sp_under, Bool.and_eq_true, decide_eq_true_eq, and_true, ne_eq, Option.some.injEq, reduceCtorEq, not_false_eq_true]; (simp only [Int32.lt_iff_toInt_lt, Int32.le_iff_toInt_le, ← Int32.toInt_inj, Int32.reduceToInt, Int32.not_lt, Int32.not_le] at *; omega))] at g; exact g))
              · skip
                refine am_Rn.go (t := am_t38) rfl 2 rfl ⟨trivial, trivial, trivial⟩ ?_
                refine am_Rn.brF hq2 ?_
                refine am_Rn.go (t := am_t38) rfl 9 rfl ⟨trivial, trivial, trivial, (by first | exact am_inb_lit rfl | exact am_inb_of (by omega) (by omega)), trivial, trivial, trivial, (by first | exact am_inb_lit rfl | exact am_inb_of (by omega) (by omega)), trivial, trivial⟩ ?_
                refine am_Rn.br (fun h15 => ?_) (fun h15 => ?_)
                · skip
                  refine am_Rn.go (t := am_t38) rfl 2 rfl ⟨trivial, trivial, trivial⟩ ?_
                  first
                  | (have g := ih (i + 1) (some (.int 0)) (by omega)
                     rw [am_fold_succ, hF, ← am_inc] at g
                     (try simp only [e1, e2, am_on, Int32.reduceToNatClampNeg] at *)
                     first
                       | (exfalso; first | contradiction | (simp only [Int32.lt_iff_toInt_lt, Int32.le_iff_toInt_le, ← Int32.toInt_inj, Int32.reduceToInt, Int32.not_lt, Int32.not_le] at *; omega))
                       | (rw [sp_bestS_T (by simp only [sp_mayS, sp_under, Bool.and_eq_true, decide_eq_true_eq, and_true, ne_eq, Option.some.injEq, reduceCtorEq, not_false_eq_true]; (simp only [Int32.lt_iff_toInt_lt, Int32.le_iff_toInt_le, ← Int32.toInt_inj, Int32.reduceToInt, Int32.not_lt, Int32.not_le] at *; omega))] at g; exact g)
                       | (rw [sp_bestS_F (by simp only [sp_mayS, sp_under, Bool.and_eq_true, decide_eq_true_eq, and_true, ne_eq, Option.some.injEq, reduceCtorEq, not_false_eq_true]; (simp only [Int32.lt_iff_toInt_lt, Int32.le_iff_toInt_le, ← Int32.toInt_inj, Int32.reduceToInt, Int32.not_lt, Int32.not_le] at *; omega))] at g; exact g))
                  | (have g := ih (i + 1) (some (.int 1)) (by omega)
                     rw [am_fold_succ, hF, ← am_inc] at g
                     (try simp only [e1, e2, am_on, Int32.reduceToNatClampNeg] at *)
                     first
                       | (exfalso; first | contradiction | (simp only [Int32.lt_iff_toInt_lt, Int32.le_iff_toInt_le, ← Int32.toInt_inj, Int32.reduceToInt, Int32.not_lt, Int32.not_le] at *; omega))
                       | (rw [sp_bestS_T (by simp only [sp_mayS, sp_under, Bool.and_eq_true, decide_eq_true_eq, and_true, ne_eq, Option.some.injEq, reduceCtorEq, not_false_eq_true]; (simp only [Int32.lt_iff_toInt_lt, Int32.le_iff_toInt_le, ← Int32.toInt_inj, Int32.reduceToInt, Int32.not_lt, Int32.not_le] at *; omega))] at g; exact g)
                       | (rw [sp_bestS_F (by simp only [sp_mayS, sp_under, Bool.and_eq_true, decide_eq_true_eq, and_true, ne_eq, Option.some.injEq, reduceCtorEq, not_false_eq_true]; (simp only [Int32.lt_iff_toInt_lt, Int32.le_iff_toInt_le, ← Int32.toInt_inj, Int32.reduceToInt, Int32.not_lt, Int32.not_le] at *; omega))] at g; exact g))
                · skip
                  refine am_Rn.go (t := am_t38) rfl 4 rfl ⟨trivial, trivial, trivial, trivial, trivial⟩ ?_
                  first
                  | (have g := ih (i + 1) (some (.int 0)) (by omega)
                     rw [am_fold_succ, hF, ← am_inc] at g
                     (try simp only [e1, e2, am_on, Int32.reduceToNatClampNeg] at *)
                     first
                       | (exfalso; first | contradiction | (simp only [Int32.lt_iff_toInt_lt, Int32.le_iff_toInt_le, ← Int32.toInt_inj, Int32.reduceToInt, Int32.not_lt, Int32.not_le] at *; omega))
                       | (rw [sp_bestS_T (by simp only [sp_mayS, sp_under, Bool.and_eq_true, decide_eq_true_eq, and_true, ne_eq, Option.some.injEq, reduceCtorEq, not_false_eq_true]; (simp only [Int32.lt_iff_toInt_lt, Int32.le_iff_toInt_le, ← Int32.toInt_inj, Int32.reduceToInt, Int32.not_lt, Int32.not_le] at *; omega))] at g; exact g)
                       | (rw [sp_bestS_F (by simp only [sp_mayS, sp_under, Bool.and_eq_true, decide_eq_true_eq, and_true, ne_eq, Option.some.injEq, reduceCtorEq, not_false_eq_true]; (simp only [Int32.lt_iff_toInt_lt, Int32.le_iff_toInt_le, ← Int32.toInt_inj, Int32.reduceToInt, Int32.not_lt, Int32.not_le] at *; omega))] at g; exact g))
                  | (have g := ih (i + 1) (some (.int 1)) (by omega)
                     rw [am_fold_succ, hF, ← am_inc] at g
                     (try simp only [e1, e2, am_on, Int32.reduceToNatClampNeg] at *)
                     first
                       | (exfalso; first | contradiction | (simp only [Int32.lt_iff_toInt_lt, Int32.le_iff_toInt_le, ← Int32.toInt_inj, Int32.reduceToInt, Int32.not_lt, Int32.not_le] at *; omega))
                       | (rw [sp_bestS_T (by simp only [sp_mayS, sp_under, Bool.and_eq_true, decide_eq_true_eq, and_true, ne_eq, Option.some.injEq, reduceCtorEq, not_false_eq_true]; (simp only [Int32.lt_iff_toInt_lt, Int32.le_iff_toInt_le, ← Int32.toInt_inj, Int32.reduceToInt, Int32.not_lt, Int32.not_le] at *; omega))] at g; exact g)
                       | (rw [sp_bestS_F (by simp only [sp_mayS, sp_under, Bool.and_eq_true, decide_eq_true_eq, and_true, ne_eq, Option.some.injEq, reduceCtorEq, not_false_eq_true]; (simp only [Int32.lt_iff_toInt_lt, Int32.le_iff_toInt_le, ← Int32.toInt_inj, Int32.reduceToInt, Int32.not_lt, Int32.not_le] at *; omega))] at g; exact g))
  refine am_Rn.go (t := am_t38) rfl 4 rfl ⟨trivial, trivial, trivial, trivial, trivial⟩ ?_
  exact L P 0 _ (by omega)

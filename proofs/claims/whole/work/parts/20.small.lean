theorem am_inb20 {i : Int32} (h : 0 ≤ i) (h2 : i < 20) : am_inb i 20 := by
  unfold am_inb vp_in
  have h3 : i.toNatClampNeg = i.toInt.toNat := rfl
  simp only [Int32.lt_iff_toInt_lt, Int32.le_iff_toInt_le, Int32.reduceToInt] at *
  rintro (q | q) <;> omega
theorem sx_isWithin (sc : am_Sc) (v a b : Int32) (M : am_M) : am_Rn sc 88 (0, am_entry 88 [.int v, .int a, .int b], [], M) (fun r M' => r = some (.int (am_b (a ≤ v ∧ v ≤ b))) ∧ M' = M) := by
  show am_Rn sc 88 (0, [some (.int v), some (.int a), some (.int b)], [], _) _
  refine am_Rn.go (t := am_t88) rfl 3 rfl ⟨trivial, trivial, trivial, trivial⟩ ?_
  refine am_Rn.br (fun h1 => ?_) (fun h1 => ?_)
  · skip
    refine am_Rn.go (t := am_t88) rfl 1 rfl ⟨trivial, trivial⟩ ?_
    refine am_Rn.ret (t := am_t88) rfl rfl (by first | exact Or.inl rfl | exact Or.inr rfl | exact am_b01 _) ?_
    refine ⟨congrArg (fun z => some (Value.int z)) ?_, rfl⟩
    first | exact (am_bT (by (simp only [Int32.lt_iff_toInt_lt, Int32.le_iff_toInt_le, ← Int32.toInt_inj, Int32.reduceToInt, Int32.not_lt, Int32.not_le] at *; omega))).symm | exact (am_bF (by (simp only [Int32.lt_iff_toInt_lt, Int32.le_iff_toInt_le, ← Int32.toInt_inj, Int32.reduceToInt, Int32.not_lt, Int32.not_le] at *; omega))).symm
  · skip
    refine am_Rn.go (t := am_t88) rfl 3 rfl ⟨trivial, trivial, trivial, trivial⟩ ?_
    refine am_Rn.br (fun h2 => ?_) (fun h2 => ?_)
    · skip
      refine am_Rn.go (t := am_t88) rfl 1 rfl ⟨trivial, trivial⟩ ?_
      refine am_Rn.ret (t := am_t88) rfl rfl (by first | exact Or.inl rfl | exact Or.inr rfl | exact am_b01 _) ?_
      refine ⟨congrArg (fun z => some (Value.int z)) ?_, rfl⟩
      first | exact (am_bT (by (simp only [Int32.lt_iff_toInt_lt, Int32.le_iff_toInt_le, ← Int32.toInt_inj, Int32.reduceToInt, Int32.not_lt, Int32.not_le] at *; omega))).symm | exact (am_bF (by (simp only [Int32.lt_iff_toInt_lt, Int32.le_iff_toInt_le, ← Int32.toInt_inj, Int32.reduceToInt, Int32.not_lt, Int32.not_le] at *; omega))).symm
    · skip
      refine am_Rn.go (t := am_t88) rfl 2 rfl ⟨trivial, trivial, trivial⟩ ?_
      refine am_Rn.ret (t := am_t88) rfl rfl (by first | exact Or.inl rfl | exact Or.inr rfl | exact am_b01 _) ?_
      refine ⟨congrArg (fun z => some (Value.int z)) ?_, rfl⟩
      first | exact (am_bT (by (simp only [Int32.lt_iff_toInt_lt, Int32.le_iff_toInt_le, ← Int32.toInt_inj, Int32.reduceToInt, Int32.not_lt, Int32.not_le] at *; omega))).symm | exact (am_bF (by (simp only [Int32.lt_iff_toInt_lt, Int32.le_iff_toInt_le, ← Int32.toInt_inj, Int32.reduceToInt, Int32.not_lt, Int32.not_le] at *; omega))).symm
theorem sx_in (sc : am_Sc) (v a b : Int32) (M : am_M) : am_Rn sc 94 (0, am_entry 94 [.int v, .int a, .int b], [], M) (fun r M' => r = some (.int (am_b (a ≤ v ∧ v ≤ b))) ∧ M' = M) := by
  show am_Rn sc 94 (0, [some (.int v), some (.int a), some (.int b)], [], _) _
  refine am_Rn.go (t := am_t94) rfl 3 rfl ⟨trivial, trivial, trivial, trivial⟩ ?_
  refine am_Rn.br (fun h1 => ?_) (fun h1 => ?_)
  · skip
    refine am_Rn.go (t := am_t94) rfl 1 rfl ⟨trivial, trivial⟩ ?_
    refine am_Rn.ret (t := am_t94) rfl rfl (by first | exact Or.inl rfl | exact Or.inr rfl | exact am_b01 _) ?_
    refine ⟨congrArg (fun z => some (Value.int z)) ?_, rfl⟩
    first | exact (am_bT (by (simp only [Int32.lt_iff_toInt_lt, Int32.le_iff_toInt_le, ← Int32.toInt_inj, Int32.reduceToInt, Int32.not_lt, Int32.not_le] at *; omega))).symm | exact (am_bF (by (simp only [Int32.lt_iff_toInt_lt, Int32.le_iff_toInt_le, ← Int32.toInt_inj, Int32.reduceToInt, Int32.not_lt, Int32.not_le] at *; omega))).symm
  · skip
    refine am_Rn.go (t := am_t94) rfl 3 rfl ⟨trivial, trivial, trivial, trivial⟩ ?_
    refine am_Rn.br (fun h2 => ?_) (fun h2 => ?_)
    · skip
      refine am_Rn.go (t := am_t94) rfl 1 rfl ⟨trivial, trivial⟩ ?_
      refine am_Rn.ret (t := am_t94) rfl rfl (by first | exact Or.inl rfl | exact Or.inr rfl | exact am_b01 _) ?_
      refine ⟨congrArg (fun z => some (Value.int z)) ?_, rfl⟩
      first | exact (am_bT (by (simp only [Int32.lt_iff_toInt_lt, Int32.le_iff_toInt_le, ← Int32.toInt_inj, Int32.reduceToInt, Int32.not_lt, Int32.not_le] at *; omega))).symm | exact (am_bF (by (simp only [Int32.lt_iff_toInt_lt, Int32.le_iff_toInt_le, ← Int32.toInt_inj, Int32.reduceToInt, Int32.not_lt, Int32.not_le] at *; omega))).symm
    · skip
      refine am_Rn.go (t := am_t94) rfl 2 rfl ⟨trivial, trivial, trivial⟩ ?_
      refine am_Rn.ret (t := am_t94) rfl rfl (by first | exact Or.inl rfl | exact Or.inr rfl | exact am_b01 _) ?_
      refine ⟨congrArg (fun z => some (Value.int z)) ?_, rfl⟩
      first | exact (am_bT (by (simp only [Int32.lt_iff_toInt_lt, Int32.le_iff_toInt_le, ← Int32.toInt_inj, Int32.reduceToInt, Int32.not_lt, Int32.not_le] at *; omega))).symm | exact (am_bF (by (simp only [Int32.lt_iff_toInt_lt, Int32.le_iff_toInt_le, ← Int32.toInt_inj, Int32.reduceToInt, Int32.not_lt, Int32.not_le] at *; omega))).symm
theorem sx_isDigit (sc : am_Sc) (v : Int32) (M : am_M) : am_Rn sc 16 (0, am_entry 16 [.int v], [], M) (fun r M' => r = some (.int (am_b (48 ≤ v ∧ v ≤ 57))) ∧ M' = M) := by
  show am_Rn sc 16 (0, [some (.int v)], [], _) _
  refine am_Rn.go (t := am_t16) rfl 3 rfl ⟨trivial, trivial, trivial, trivial⟩ ?_
  refine am_Rn.br (fun h1 => ?_) (fun h1 => ?_)
  · skip
    refine am_Rn.go (t := am_t16) rfl 1 rfl ⟨trivial, trivial⟩ ?_
    refine am_Rn.ret (t := am_t16) rfl rfl (by first | exact Or.inl rfl | exact Or.inr rfl | exact am_b01 _) ?_
    refine ⟨congrArg (fun z => some (Value.int z)) ?_, rfl⟩
    first | exact (am_bT (by (simp only [Int32.lt_iff_toInt_lt, Int32.le_iff_toInt_le, ← Int32.toInt_inj, Int32.reduceToInt, Int32.not_lt, Int32.not_le] at *; omega))).symm | exact (am_bF (by (simp only [Int32.lt_iff_toInt_lt, Int32.le_iff_toInt_le, ← Int32.toInt_inj, Int32.reduceToInt, Int32.not_lt, Int32.not_le] at *; omega))).symm
  · skip
    refine am_Rn.go (t := am_t16) rfl 3 rfl ⟨trivial, trivial, trivial, trivial⟩ ?_
    refine am_Rn.br (fun h2 => ?_) (fun h2 => ?_)
    · skip
      refine am_Rn.go (t := am_t16) rfl 1 rfl ⟨trivial, trivial⟩ ?_
      refine am_Rn.ret (t := am_t16) rfl rfl (by first | exact Or.inl rfl | exact Or.inr rfl | exact am_b01 _) ?_
      refine ⟨congrArg (fun z => some (Value.int z)) ?_, rfl⟩
      first | exact (am_bT (by (simp only [Int32.lt_iff_toInt_lt, Int32.le_iff_toInt_le, ← Int32.toInt_inj, Int32.reduceToInt, Int32.not_lt, Int32.not_le] at *; omega))).symm | exact (am_bF (by (simp only [Int32.lt_iff_toInt_lt, Int32.le_iff_toInt_le, ← Int32.toInt_inj, Int32.reduceToInt, Int32.not_lt, Int32.not_le] at *; omega))).symm
    · skip
      refine am_Rn.go (t := am_t16) rfl 2 rfl ⟨trivial, trivial, trivial⟩ ?_
      refine am_Rn.ret (t := am_t16) rfl rfl (by first | exact Or.inl rfl | exact Or.inr rfl | exact am_b01 _) ?_
      refine ⟨congrArg (fun z => some (Value.int z)) ?_, rfl⟩
      first | exact (am_bT (by (simp only [Int32.lt_iff_toInt_lt, Int32.le_iff_toInt_le, ← Int32.toInt_inj, Int32.reduceToInt, Int32.not_lt, Int32.not_le] at *; omega))).symm | exact (am_bF (by (simp only [Int32.lt_iff_toInt_lt, Int32.le_iff_toInt_le, ← Int32.toInt_inj, Int32.reduceToInt, Int32.not_lt, Int32.not_le] at *; omega))).symm
theorem sx_isLetter (sc : am_Sc) (v : Int32) (M : am_M) : am_Rn sc 17 (0, am_entry 17 [.int v], [], M) (fun r M' => r = some (.int (am_b (97 ≤ v ∧ v ≤ 122))) ∧ M' = M) := by
  show am_Rn sc 17 (0, [some (.int v)], [], _) _
  refine am_Rn.go (t := am_t17) rfl 3 rfl ⟨trivial, trivial, trivial, trivial⟩ ?_
  refine am_Rn.br (fun h1 => ?_) (fun h1 => ?_)
  · skip
    refine am_Rn.go (t := am_t17) rfl 1 rfl ⟨trivial, trivial⟩ ?_
    refine am_Rn.ret (t := am_t17) rfl rfl (by first | exact Or.inl rfl | exact Or.inr rfl | exact am_b01 _) ?_
    refine ⟨congrArg (fun z => some (Value.int z)) ?_, rfl⟩
    first | exact (am_bT (by (simp only [Int32.lt_iff_toInt_lt, Int32.le_iff_toInt_le, ← Int32.toInt_inj, Int32.reduceToInt, Int32.not_lt, Int32.not_le] at *; omega))).symm | exact (am_bF (by (simp only [Int32.lt_iff_toInt_lt, Int32.le_iff_toInt_le, ← Int32.toInt_inj, Int32.reduceToInt, Int32.not_lt, Int32.not_le] at *; omega))).symm
  · skip
    refine am_Rn.go (t := am_t17) rfl 3 rfl ⟨trivial, trivial, trivial, trivial⟩ ?_
    refine am_Rn.br (fun h2 => ?_) (fun h2 => ?_)
    · skip
      refine am_Rn.go (t := am_t17) rfl 1 rfl ⟨trivial, trivial⟩ ?_
      refine am_Rn.ret (t := am_t17) rfl rfl (by first | exact Or.inl rfl | exact Or.inr rfl | exact am_b01 _) ?_
      refine ⟨congrArg (fun z => some (Value.int z)) ?_, rfl⟩
      first | exact (am_bT (by (simp only [Int32.lt_iff_toInt_lt, Int32.le_iff_toInt_le, ← Int32.toInt_inj, Int32.reduceToInt, Int32.not_lt, Int32.not_le] at *; omega))).symm | exact (am_bF (by (simp only [Int32.lt_iff_toInt_lt, Int32.le_iff_toInt_le, ← Int32.toInt_inj, Int32.reduceToInt, Int32.not_lt, Int32.not_le] at *; omega))).symm
    · skip
      refine am_Rn.go (t := am_t17) rfl 2 rfl ⟨trivial, trivial, trivial⟩ ?_
      refine am_Rn.ret (t := am_t17) rfl rfl (by first | exact Or.inl rfl | exact Or.inr rfl | exact am_b01 _) ?_
      refine ⟨congrArg (fun z => some (Value.int z)) ?_, rfl⟩
      first | exact (am_bT (by (simp only [Int32.lt_iff_toInt_lt, Int32.le_iff_toInt_le, ← Int32.toInt_inj, Int32.reduceToInt, Int32.not_lt, Int32.not_le] at *; omega))).symm | exact (am_bF (by (simp only [Int32.lt_iff_toInt_lt, Int32.le_iff_toInt_le, ← Int32.toInt_inj, Int32.reduceToInt, Int32.not_lt, Int32.not_le] at *; omega))).symm
theorem sx_size (sc : am_Sc) (v : Int32) (M : am_M) : am_Rn sc 95 (0, am_entry 95 [.int v], [], M) (fun r M' => r = some (.int (if v < 0 then -v else v)) ∧ M' = M) := by
  show am_Rn sc 95 (0, [some (.int v)], [], _) _
  refine am_Rn.go (t := am_t95) rfl 2 rfl ⟨trivial, trivial, trivial⟩ ?_
  refine am_Rn.br (fun h1 => ?_) (fun h1 => ?_)
  · skip
    refine am_Rn.go (t := am_t95) rfl 1 rfl ⟨trivial, trivial⟩ ?_
    refine am_Rn.ret (t := am_t95) rfl rfl trivial ?_
    refine ⟨?_, rfl⟩
    first | rw [if_neg (Int32.not_lt.mpr h1)] | rw [if_pos (Int32.not_le.mp h1)]
  · skip
    refine am_Rn.go (t := am_t95) rfl 3 rfl ⟨trivial, trivial, trivial, trivial⟩ ?_
    refine am_Rn.ret (t := am_t95) rfl rfl trivial ?_
    refine ⟨?_, rfl⟩
    first | rw [if_neg (Int32.not_lt.mpr h1)] | rw [if_pos (Int32.not_le.mp h1)]
theorem sx_halvesIn_t (sc : am_Sc) (r0 : Int32) (nu la me tc ts : Nat → Int32) (pe : Int32) (B0 : List am_E) (Bs : am_M) : am_Rn sc 53 (0, am_entry 53 [.ref 32, .int r0], [], B0 :: bkRules 32 nu la me tc ts pe :: Bs) (fun r M' => r = some (.int (sp_halves nu r0)) ∧ M' = B0 :: bkRules 32 nu la me tc ts pe :: Bs) := by
  show am_Rn sc 53 (0, [some (.ref 32), some (.int r0)], [], _) _
  refine am_Rn.go (t := am_t53) rfl 23 rfl ⟨trivial, trivial, trivial, (by first | exact am_inb_lit rfl | exact am_inb_of (by omega) (by omega)), trivial, trivial, trivial, trivial, trivial, (by first | exact am_inb_lit rfl | exact am_inb_of (by omega) (by omega)), trivial, trivial, trivial, (by first | exact am_inb_lit rfl | exact am_inb_of (by omega) (by omega)), trivial, trivial, trivial, trivial, trivial, trivial, (by first | exact am_inb_lit rfl | exact am_inb_of (by omega) (by omega)), trivial, trivial, trivial⟩ ?_
  refine am_Rn.ret (t := am_t53) rfl rfl trivial ?_
  exact ⟨rfl, rfl⟩
theorem sx_worthIn_t (sc : am_Sc) (r0 : Int32) (nu la me tc ts : Nat → Int32) (pe : Int32) (B0 : List am_E) (Bs : am_M) : am_Rn sc 54 (0, am_entry 54 [.ref 32, .int r0], [], B0 :: bkRules 32 nu la me tc ts pe :: Bs) (fun r M' => r = some (.int (sp_worth nu r0)) ∧ M' = B0 :: bkRules 32 nu la me tc ts pe :: Bs) := by
  show am_Rn sc 54 (0, [some (.ref 32), some (.int r0), none], [], _) _
  refine am_Rn.go (t := am_t54) rfl 25 rfl ⟨trivial, trivial, trivial, (by first | exact am_inb_lit rfl | exact am_inb_of (by omega) (by omega)), trivial, trivial, trivial, trivial, trivial, (by first | exact am_inb_lit rfl | exact am_inb_of (by omega) (by omega)), trivial, trivial, trivial, (by first | exact am_inb_lit rfl | exact am_inb_of (by omega) (by omega)), trivial, trivial, trivial, trivial, trivial, (by decide), trivial, trivial, trivial, (by first | exact am_inb_lit rfl | exact am_inb_of (by omega) (by omega)), trivial, trivial⟩ ?_
  refine am_Rn.ret (t := am_t54) rfl rfl trivial ?_
  exact ⟨rfl, rfl⟩
theorem sx_halvesIn_d (sc : am_Sc) (r0 : Int32) (nu la me tc ts : Nat → Int32) (pe : Int32) (B0 B1 B2 : List am_E) (Bs : am_M) : am_Rn sc 53 (0, am_entry 53 [.ref 96, .int r0], [], B0 :: B1 :: B2 :: bkRules 96 nu la me tc ts pe :: Bs) (fun r M' => r = some (.int (sp_halves nu r0)) ∧ M' = B0 :: B1 :: B2 :: bkRules 96 nu la me tc ts pe :: Bs) := by
  show am_Rn sc 53 (0, [some (.ref 96), some (.int r0)], [], _) _
  refine am_Rn.go (t := am_t53) rfl 23 rfl ⟨trivial, trivial, trivial, (by first | exact am_inb_lit rfl | exact am_inb_of (by omega) (by omega)), trivial, trivial, trivial, trivial, trivial, (by first | exact am_inb_lit rfl | exact am_inb_of (by omega) (by omega)), trivial, trivial, trivial, (by first | exact am_inb_lit rfl | exact am_inb_of (by omega) (by omega)), trivial, trivial, trivial, trivial, trivial, trivial, (by first | exact am_inb_lit rfl | exact am_inb_of (by omega) (by omega)), trivial, trivial, trivial⟩ ?_
  refine am_Rn.ret (t := am_t53) rfl rfl trivial ?_
  exact ⟨rfl, rfl⟩
theorem sx_worthIn_d (sc : am_Sc) (r0 : Int32) (nu la me tc ts : Nat → Int32) (pe : Int32) (B0 B1 B2 : List am_E) (Bs : am_M) : am_Rn sc 54 (0, am_entry 54 [.ref 96, .int r0], [], B0 :: B1 :: B2 :: bkRules 96 nu la me tc ts pe :: Bs) (fun r M' => r = some (.int (sp_worth nu r0)) ∧ M' = B0 :: B1 :: B2 :: bkRules 96 nu la me tc ts pe :: Bs) := by
  show am_Rn sc 54 (0, [some (.ref 96), some (.int r0), none], [], _) _
  refine am_Rn.go (t := am_t54) rfl 25 rfl ⟨trivial, trivial, trivial, (by first | exact am_inb_lit rfl | exact am_inb_of (by omega) (by omega)), trivial, trivial, trivial, trivial, trivial, (by first | exact am_inb_lit rfl | exact am_inb_of (by omega) (by omega)), trivial, trivial, trivial, (by first | exact am_inb_lit rfl | exact am_inb_of (by omega) (by omega)), trivial, trivial, trivial, trivial, trivial, (by decide), trivial, trivial, trivial, (by first | exact am_inb_lit rfl | exact am_inb_of (by omega) (by omega)), trivial, trivial⟩ ?_
  refine am_Rn.ret (t := am_t54) rfl rfl trivial ?_
  exact ⟨rfl, rfl⟩
theorem sx_halvesIn_v (sc : am_Sc) (r0 : Int32) (nu la me tc ts : Nat → Int32) (pe : Int32) (B0 B1 B2 B3 B4 : List am_E) (Bs : am_M) : am_Rn sc 53 (0, am_entry 53 [.ref 160, .int r0], [], B0 :: B1 :: B2 :: B3 :: B4 :: bkRules 160 nu la me tc ts pe :: Bs) (fun r M' => r = some (.int (sp_halves nu r0)) ∧ M' = B0 :: B1 :: B2 :: B3 :: B4 :: bkRules 160 nu la me tc ts pe :: Bs) := by
  show am_Rn sc 53 (0, [some (.ref 160), some (.int r0)], [], _) _
  refine am_Rn.go (t := am_t53) rfl 23 rfl ⟨trivial, trivial, trivial, (by first | exact am_inb_lit rfl | exact am_inb_of (by omega) (by omega)), trivial, trivial, trivial, trivial, trivial, (by first | exact am_inb_lit rfl | exact am_inb_of (by omega) (by omega)), trivial, trivial, trivial, (by first | exact am_inb_lit rfl | exact am_inb_of (by omega) (by omega)), trivial, trivial, trivial, trivial, trivial, trivial, (by first | exact am_inb_lit rfl | exact am_inb_of (by omega) (by omega)), trivial, trivial, trivial⟩ ?_
  refine am_Rn.ret (t := am_t53) rfl rfl trivial ?_
  exact ⟨rfl, rfl⟩
theorem sx_worthIn_v (sc : am_Sc) (r0 : Int32) (nu la me tc ts : Nat → Int32) (pe : Int32) (B0 B1 B2 B3 B4 : List am_E) (Bs : am_M) : am_Rn sc 54 (0, am_entry 54 [.ref 160, .int r0], [], B0 :: B1 :: B2 :: B3 :: B4 :: bkRules 160 nu la me tc ts pe :: Bs) (fun r M' => r = some (.int (sp_worth nu r0)) ∧ M' = B0 :: B1 :: B2 :: B3 :: B4 :: bkRules 160 nu la me tc ts pe :: Bs) := by
  show am_Rn sc 54 (0, [some (.ref 160), some (.int r0), none], [], _) _
  refine am_Rn.go (t := am_t54) rfl 25 rfl ⟨trivial, trivial, trivial, (by first | exact am_inb_lit rfl | exact am_inb_of (by omega) (by omega)), trivial, trivial, trivial, trivial, trivial, (by first | exact am_inb_lit rfl | exact am_inb_of (by omega) (by omega)), trivial, trivial, trivial, (by first | exact am_inb_lit rfl | exact am_inb_of (by omega) (by omega)), trivial, trivial, trivial, trivial, trivial, (by decide), trivial, trivial, trivial, (by first | exact am_inb_lit rfl | exact am_inb_of (by omega) (by omega)), trivial, trivial⟩ ?_
  refine am_Rn.ret (t := am_t54) rfl rfl trivial ?_
  exact ⟨rfl, rfl⟩
theorem sx_isOver_A (sc : am_Sc) (nu la me tc ts : Nat → Int32) (pe : Int32) (rd pr pv sa pd lo : Int32) (bo co sh se si er of_ bi bt so : Nat → Int32) (B0 B2 B3 : List am_E) (Bs : am_M) : am_Rn sc 31 (0, am_entry 31 [.ref 128], [], B0 :: bkRules 32 nu la me tc ts pe :: B2 :: B3 :: bkRoom 128 32 rd pr pv sa pd lo bo co sh se si er of_ bi bt so :: Bs) (fun r M' => r = some (.int (am_b (nu 0 ≤ rd ∨ 20 ≤ rd))) ∧ M' = B0 :: bkRules 32 nu la me tc ts pe :: B2 :: B3 :: bkRoom 128 32 rd pr pv sa pd lo bo co sh se si er of_ bi bt so :: Bs) := by
  show am_Rn sc 31 (0, [some (.ref 128)], [], _) _
  refine am_Rn.go (t := am_t31) rfl 8 rfl ⟨trivial, trivial, trivial, trivial, trivial, trivial, (by first | exact am_inb_lit rfl | exact am_inb_of (by omega) (by omega)), trivial, trivial⟩ ?_
  refine am_Rn.br (fun h1 => ?_) (fun h1 => ?_)
  · skip
    refine am_Rn.go (t := am_t31) rfl 2 rfl ⟨trivial, trivial, trivial⟩ ?_
    refine am_Rn.ret (t := am_t31) rfl rfl (by first | exact Or.inl rfl | exact Or.inr rfl | exact am_b01 _) ?_
    refine ⟨congrArg (fun z => some (Value.int z)) ?_, rfl⟩
    first | exact (am_bT (Or.inl (by assumption))).symm | exact (am_bT (Or.inr (Int32.not_lt.mp (by assumption)))).symm | exact (am_bF (fun q => q.elim (by assumption) (fun q => Int32.not_le.mpr (by assumption) q))).symm
  · skip
    refine am_Rn.go (t := am_t31) rfl 4 rfl ⟨trivial, trivial, trivial, trivial, trivial⟩ ?_
    refine am_Rn.br (fun h2 => ?_) (fun h2 => ?_)
    · skip
      refine am_Rn.go (t := am_t31) rfl 1 rfl ⟨trivial, trivial⟩ ?_
      refine am_Rn.ret (t := am_t31) rfl rfl (by first | exact Or.inl rfl | exact Or.inr rfl | exact am_b01 _) ?_
      refine ⟨congrArg (fun z => some (Value.int z)) ?_, rfl⟩
      first | exact (am_bT (Or.inl (by assumption))).symm | exact (am_bT (Or.inr (Int32.not_lt.mp (by assumption)))).symm | exact (am_bF (fun q => q.elim (by assumption) (fun q => Int32.not_le.mpr (by assumption) q))).symm
    · skip
      refine am_Rn.go (t := am_t31) rfl 2 rfl ⟨trivial, trivial, trivial⟩ ?_
      refine am_Rn.ret (t := am_t31) rfl rfl (by first | exact Or.inl rfl | exact Or.inr rfl | exact am_b01 _) ?_
      refine ⟨congrArg (fun z => some (Value.int z)) ?_, rfl⟩
      first | exact (am_bT (Or.inl (by assumption))).symm | exact (am_bT (Or.inr (Int32.not_lt.mp (by assumption)))).symm | exact (am_bF (fun q => q.elim (by assumption) (fun q => Int32.not_le.mpr (by assumption) q))).symm
theorem sx_boardAt_A (sc : am_Sc) (r0 : Int32) (hr : 0 ≤ r0) (hr2 : r0 < 20) (nu la me tc ts : Nat → Int32) (pe : Int32) (rd pr pv sa pd lo : Int32) (bo co sh se si er of_ bi bt so : Nat → Int32) (B0 B2 B3 : List am_E) (Bs : am_M) : am_Rn sc 41 (0, am_entry 41 [.ref 128, .int r0], [], B0 :: bkRules 32 nu la me tc ts pe :: B2 :: B3 :: bkRoom 128 32 rd pr pv sa pd lo bo co sh se si er of_ bi bt so :: Bs) (fun r M' => r = some (.int (bo r0.toNatClampNeg)) ∧ M' = B0 :: bkRules 32 nu la me tc ts pe :: B2 :: B3 :: bkRoom 128 32 rd pr pv sa pd lo bo co sh se si er of_ bi bt so :: Bs) := by
  show am_Rn sc 41 (0, [some (.ref 128), some (.int r0)], [], _) _
  refine am_Rn.go (t := am_t41) rfl 2 rfl ⟨trivial, trivial, trivial⟩ ?_
  refine am_Rn.brF (by (simp only [Int32.lt_iff_toInt_lt, Int32.le_iff_toInt_le, ← Int32.toInt_inj, Int32.reduceToInt, Int32.not_lt, Int32.not_le] at *; omega)) ?_
  refine am_Rn.go (t := am_t41) rfl 3 rfl ⟨trivial, trivial, trivial, trivial⟩ ?_
  refine am_Rn.brF (by (simp only [Int32.lt_iff_toInt_lt, Int32.le_iff_toInt_le, ← Int32.toInt_inj, Int32.reduceToInt, Int32.not_lt, Int32.not_le] at *; omega)) ?_
  refine am_Rn.go (t := am_t41) rfl 5 rfl ⟨trivial, trivial, trivial, (by exact am_inb20 hr hr2), trivial, trivial⟩ ?_
  refine am_Rn.ret (t := am_t41) rfl rfl trivial ?_
  exact ⟨rfl, rfl⟩
theorem sx_isOver_B (sc : am_Sc) (nu la me tc ts : Nat → Int32) (pe : Int32) (rd pr pv sa pd lo : Int32) (bo co sh se si er of_ bi bt so : Nat → Int32) (B0 B1 B2 B3 B4 : List am_E) (Bs : am_M) : am_Rn sc 31 (0, am_entry 31 [.ref 192], [], B0 :: B1 :: B2 :: B3 :: B4 :: bkRules 160 nu la me tc ts pe :: bkRoom 192 160 rd pr pv sa pd lo bo co sh se si er of_ bi bt so :: Bs) (fun r M' => r = some (.int (am_b (nu 0 ≤ rd ∨ 20 ≤ rd))) ∧ M' = B0 :: B1 :: B2 :: B3 :: B4 :: bkRules 160 nu la me tc ts pe :: bkRoom 192 160 rd pr pv sa pd lo bo co sh se si er of_ bi bt so :: Bs) := by
  show am_Rn sc 31 (0, [some (.ref 192)], [], _) _
  refine am_Rn.go (t := am_t31) rfl 8 rfl ⟨trivial, trivial, trivial, trivial, trivial, trivial, (by first | exact am_inb_lit rfl | exact am_inb_of (by omega) (by omega)), trivial, trivial⟩ ?_
  refine am_Rn.br (fun h1 => ?_) (fun h1 => ?_)
  · skip
    refine am_Rn.go (t := am_t31) rfl 2 rfl ⟨trivial, trivial, trivial⟩ ?_
    refine am_Rn.ret (t := am_t31) rfl rfl (by first | exact Or.inl rfl | exact Or.inr rfl | exact am_b01 _) ?_
    refine ⟨congrArg (fun z => some (Value.int z)) ?_, rfl⟩
    first | exact (am_bT (Or.inl (by assumption))).symm | exact (am_bT (Or.inr (Int32.not_lt.mp (by assumption)))).symm | exact (am_bF (fun q => q.elim (by assumption) (fun q => Int32.not_le.mpr (by assumption) q))).symm
  · skip
    refine am_Rn.go (t := am_t31) rfl 4 rfl ⟨trivial, trivial, trivial, trivial, trivial⟩ ?_
    refine am_Rn.br (fun h2 => ?_) (fun h2 => ?_)
    · skip
      refine am_Rn.go (t := am_t31) rfl 1 rfl ⟨trivial, trivial⟩ ?_
      refine am_Rn.ret (t := am_t31) rfl rfl (by first | exact Or.inl rfl | exact Or.inr rfl | exact am_b01 _) ?_
      refine ⟨congrArg (fun z => some (Value.int z)) ?_, rfl⟩
      first | exact (am_bT (Or.inl (by assumption))).symm | exact (am_bT (Or.inr (Int32.not_lt.mp (by assumption)))).symm | exact (am_bF (fun q => q.elim (by assumption) (fun q => Int32.not_le.mpr (by assumption) q))).symm
    · skip
      refine am_Rn.go (t := am_t31) rfl 2 rfl ⟨trivial, trivial, trivial⟩ ?_
      refine am_Rn.ret (t := am_t31) rfl rfl (by first | exact Or.inl rfl | exact Or.inr rfl | exact am_b01 _) ?_
      refine ⟨congrArg (fun z => some (Value.int z)) ?_, rfl⟩
      first | exact (am_bT (Or.inl (by assumption))).symm | exact (am_bT (Or.inr (Int32.not_lt.mp (by assumption)))).symm | exact (am_bF (fun q => q.elim (by assumption) (fun q => Int32.not_le.mpr (by assumption) q))).symm
theorem sx_boardAt_B (sc : am_Sc) (r0 : Int32) (hr : 0 ≤ r0) (hr2 : r0 < 20) (nu la me tc ts : Nat → Int32) (pe : Int32) (rd pr pv sa pd lo : Int32) (bo co sh se si er of_ bi bt so : Nat → Int32) (B0 B1 B2 B3 B4 : List am_E) (Bs : am_M) : am_Rn sc 41 (0, am_entry 41 [.ref 192, .int r0], [], B0 :: B1 :: B2 :: B3 :: B4 :: bkRules 160 nu la me tc ts pe :: bkRoom 192 160 rd pr pv sa pd lo bo co sh se si er of_ bi bt so :: Bs) (fun r M' => r = some (.int (bo r0.toNatClampNeg)) ∧ M' = B0 :: B1 :: B2 :: B3 :: B4 :: bkRules 160 nu la me tc ts pe :: bkRoom 192 160 rd pr pv sa pd lo bo co sh se si er of_ bi bt so :: Bs) := by
  show am_Rn sc 41 (0, [some (.ref 192), some (.int r0)], [], _) _
  refine am_Rn.go (t := am_t41) rfl 2 rfl ⟨trivial, trivial, trivial⟩ ?_
  refine am_Rn.brF (by (simp only [Int32.lt_iff_toInt_lt, Int32.le_iff_toInt_le, ← Int32.toInt_inj, Int32.reduceToInt, Int32.not_lt, Int32.not_le] at *; omega)) ?_
  refine am_Rn.go (t := am_t41) rfl 3 rfl ⟨trivial, trivial, trivial, trivial⟩ ?_
  refine am_Rn.brF (by (simp only [Int32.lt_iff_toInt_lt, Int32.le_iff_toInt_le, ← Int32.toInt_inj, Int32.reduceToInt, Int32.not_lt, Int32.not_le] at *; omega)) ?_
  refine am_Rn.go (t := am_t41) rfl 5 rfl ⟨trivial, trivial, trivial, (by exact am_inb20 hr hr2), trivial, trivial⟩ ?_
  refine am_Rn.ret (t := am_t41) rfl rfl trivial ?_
  exact ⟨rfl, rfl⟩

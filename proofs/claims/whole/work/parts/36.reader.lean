theorem sx_coder (sc : am_Sc) (M : am_M) : am_Rn sc 166 (0, am_entry 166 [.ref 1010], [], M) (fun r M' => r = some (.int 0) ∧ M' = M) := by
  show am_Rn sc 166 (0, [some (.ref 1010)], [], _) _
  refine am_Rn.go (t := am_t166) rfl 2 rfl ⟨trivial, trivial, trivial⟩ ?_
  refine am_Rn.brF (by decide) ?_
  refine am_Rn.go (t := am_t166) rfl 3 rfl ⟨trivial, trivial, trivial, trivial⟩ ?_
  refine am_Rn.ret (t := am_t166) rfl rfl rfl ?_
  exact ⟨rfl, rfl⟩
theorem sx_strlen (sc : am_Sc) (M : am_M) : am_Rn sc 164 (0, am_entry 164 [.ref 1010], [], M) (fun r M' => r = some (.int 89) ∧ M' = M) := by
  show am_Rn sc 164 (0, [some (.ref 1010)], [], _) _
  refine am_Rn.go (t := am_t164) rfl 4 rfl ⟨trivial, trivial, trivial, trivial, trivial⟩ ?_
  refine am_Rn.call (t := am_t164) rfl rfl (sx_coder ..) ?_
  rintro _ _ ⟨rfl, rfl⟩
  refine am_Rn.go (t := am_t164) rfl 1 rfl ⟨trivial, trivial⟩ ?_
  refine am_Rn.ret (t := am_t164) rfl rfl trivial ?_
  exact ⟨rfl, rfl⟩
theorem sx_isLatin1 (sc : am_Sc) (M : am_M) : am_Rn sc 167 (0, am_entry 167 [.ref 1010], [], M) (fun r M' => r = some (.int 1) ∧ M' = M) := by
  show am_Rn sc 167 (0, [some (.ref 1010)], [], _) _
  refine am_Rn.go (t := am_t167) rfl 2 rfl ⟨trivial, trivial, trivial⟩ ?_
  refine am_Rn.brF (by decide) ?_
  refine am_Rn.go (t := am_t167) rfl 3 rfl ⟨trivial, trivial, trivial, trivial⟩ ?_
  refine am_Rn.brT (by decide) ?_
  refine am_Rn.go (t := am_t167) rfl 2 rfl ⟨trivial, trivial, trivial⟩ ?_
  refine am_Rn.ret (t := am_t167) rfl rfl (by first | exact Or.inl rfl | exact Or.inr rfl | exact am_b01 _) ?_
  exact ⟨rfl, rfl⟩
theorem sx_chk3 (sc : am_Sc) (i k : Nat) (hi : i < k) (hk : k < 2147483648) (M : am_M) : am_Rn sc 170 (0, am_entry 170 [.int (Int32.ofNat i), .int (Int32.ofNat k), .ref 1020], [], M) (fun r M' => r = some (.int (Int32.ofNat i)) ∧ M' = M) := by
  show am_Rn sc 170 (0, [some (.int (Int32.ofNat i)), some (.int (Int32.ofNat k)), some (.ref 1020)], [], _) _
  refine am_Rn.go (t := am_t170) rfl 2 rfl ⟨trivial, trivial, trivial⟩ ?_
  refine am_Rn.brF (fun q => absurd ((am_lt (j := 0) (by omega) (by omega)).mp q) (by omega)) ?_
  refine am_Rn.go (t := am_t170) rfl 3 rfl ⟨trivial, trivial, trivial, trivial⟩ ?_
  refine am_Rn.brT ((am_lt (by omega) (by omega)).mpr hi) ?_
  refine am_Rn.go (t := am_t170) rfl 1 rfl ⟨trivial, trivial⟩ ?_
  refine am_Rn.ret (t := am_t170) rfl rfl trivial ?_
  exact ⟨rfl, rfl⟩
theorem sx_chk (sc : am_Sc) (i k : Nat) (hi : i < k) (hk : k < 2147483648) (M : am_M) : am_Rn sc 168 (0, am_entry 168 [.int (Int32.ofNat i), .int (Int32.ofNat k)], [], M) (fun r M' => r = none ∧ M' = M) := by
  show am_Rn sc 168 (0, [some (.int (Int32.ofNat i)), some (.int (Int32.ofNat k))], [], _) _
  refine am_Rn.go (t := am_t168) rfl 3 rfl ⟨trivial, trivial, trivial, trivial⟩ ?_
  refine am_Rn.call (t := am_t168) rfl rfl (sx_chk3 sc i k hi hk ..) ?_
  rintro _ _ ⟨rfl, rfl⟩
  refine am_Rn.go (t := am_t168) rfl 1 rfl ⟨trivial, trivial⟩ ?_
  refine am_Rn.ret (t := am_t168) rfl rfl trivial ?_
  exact ⟨rfl, rfl⟩
theorem sx_charAt1 (sc : am_Sc) (i : Nat) (hi : i < 89) (M : am_M) : am_Rn sc 169 (0, am_entry 169 [.ref 1011, .int (Int32.ofNat i)], [], M) (fun r M' => r = some (.int (sp_wd i)) ∧ M' = M) := by
  show am_Rn sc 169 (0, [some (.ref 1011), some (.int (Int32.ofNat i))], [], _) _
  have e1 : (Int32.ofNat i).toNatClampNeg = i := am_tn i (by omega)
  have e2 := sp_wd_char i hi
  have e3 : narrow .char (.int ((sp_wds.getD (Int32.ofNat i).toNatClampNeg 0 &&& 255).toUInt32 % 65536).toInt32) = .int ((sp_wds.getD (Int32.ofNat i).toNatClampNeg 0 &&& 255).toUInt32 % 65536).toInt32 := by rw [e1, e2]; exact sp_wd_narc i hi
  refine am_Rn.go (t := am_t169) rfl 3 rfl ⟨trivial, trivial, trivial, trivial⟩ ?_
  refine am_Rn.call (t := am_t169) rfl rfl (sx_chk sc i 89 hi (by omega) ..) ?_
  rintro _ _ ⟨rfl, rfl⟩
  refine am_Rn.go (t := am_t169) rfl 6 rfl ⟨trivial, trivial, (by first | exact am_inb_lit rfl | exact am_inb_of (by omega) (by omega)), trivial, trivial, trivial, trivial⟩ ?_
  refine am_Rn.ret (t := am_t169) rfl rfl e3 ?_
  refine ⟨congrArg (fun z => some (Value.int z)) ?_, rfl⟩
  rw [e1]
  exact e2
theorem sx_charAt (sc : am_Sc) (i : Nat) (hi : i < 89) (M : am_M) : am_Rn sc 165 (0, am_entry 165 [.ref 1010, .int (Int32.ofNat i)], [], M) (fun r M' => r = some (.int (sp_wd i)) ∧ M' = M) := by
  show am_Rn sc 165 (0, [some (.ref 1010), some (.int (Int32.ofNat i))], [], _) _
  refine am_Rn.go (t := am_t165) rfl 1 rfl ⟨trivial, trivial⟩ ?_
  refine am_Rn.call (t := am_t165) rfl rfl (sx_isLatin1 ..) ?_
  rintro _ _ ⟨rfl, rfl⟩
  refine am_Rn.go (t := am_t165) rfl 1 rfl ⟨trivial, trivial⟩ ?_
  refine am_Rn.brF (by decide) ?_
  refine am_Rn.go (t := am_t165) rfl 3 rfl ⟨trivial, trivial, trivial, trivial⟩ ?_
  refine am_Rn.call (t := am_t165) rfl rfl (sx_charAt1 sc i hi ..) ?_
  rintro _ _ ⟨rfl, rfl⟩
  refine am_Rn.ret (t := am_t165) rfl rfl (sp_wd_narc i hi) ?_
  exact ⟨rfl, rfl⟩
theorem sx_byteAt (sc : am_Sc) (r0 : Nat) (hr : r0 < 2147483648) (tx : Nat → Int32) (n : Nat) (hn : n ≤ 400) (it fa nx pl ki va tw : Int32) (B0 B1 : List am_E) (Bs : am_M) : am_Rn sc 12 (0, am_entry 12 [.ref 64, .int (Int32.ofNat r0)], [], B0 :: B1 :: bkReader tx (Int32.ofNat n) it fa nx pl ki va tw :: Bs) (fun r M' => r = some (.int (if r0 < n then tx r0 else -1)) ∧ M' = B0 :: B1 :: bkReader tx (Int32.ofNat n) it fa nx pl ki va tw :: Bs) := by
  show am_Rn sc 12 (0, [some (.ref 64), some (.int (Int32.ofNat r0))], [], _) _
  have e1 : (Int32.ofNat r0).toNatClampNeg = r0 := am_tn r0 (by omega)
  have h1 := am_le (i := n) (j := r0) (by omega) (by omega)
  refine am_Rn.go (t := am_t12) rfl 2 rfl ⟨trivial, trivial, trivial⟩ ?_
  refine am_Rn.brF (fun q => absurd ((am_lt (j := 0) (by omega) (by omega)).mp q) (by omega)) ?_
  refine am_Rn.go (t := am_t12) rfl 4 rfl ⟨trivial, trivial, trivial, trivial, trivial⟩ ?_
  refine am_Rn.br (fun h2 => ?_) (fun h2 => ?_)
  · skip
    have hz : n ≤ r0 := (am_le (by omega) (by omega)).mp h2
    refine am_Rn.go (t := am_t12) rfl 1 rfl ⟨trivial, trivial⟩ ?_
    refine am_Rn.ret (t := am_t12) rfl rfl trivial ?_
    first
      | (rw [if_neg (by omega)]; exact ⟨rfl, rfl⟩)
      | (rw [if_pos (by omega)]; refine ⟨congrArg (fun z => some (Value.int z)) ?_, rfl⟩; rw [e1])
  · skip
    have hz : r0 < n := by
      have := (am_le (i := n) (j := r0) (by omega) (by omega)).mpr
      exact Nat.lt_of_not_le (fun z => h2 (this z))
    refine am_Rn.go (t := am_t12) rfl 3 rfl ⟨trivial, trivial, trivial, trivial⟩ ?_
    refine am_Rn.br (fun h3 => ?_) (fun h3 => ?_)
    · skip
      have hz : 400 ≤ r0 := (am_le (i := 400) (by omega) (by omega)).mp h3
      refine am_Rn.go (t := am_t12) rfl 1 rfl ⟨trivial, trivial⟩ ?_
      refine am_Rn.ret (t := am_t12) rfl rfl trivial ?_
      first
        | (rw [if_neg (by omega)]; exact ⟨rfl, rfl⟩)
        | (rw [if_pos (by omega)]; refine ⟨congrArg (fun z => some (Value.int z)) ?_, rfl⟩; rw [e1])
    · skip
      refine am_Rn.go (t := am_t12) rfl 5 rfl ⟨trivial, trivial, trivial, (by exact am_inb_of (by omega) (by omega)), trivial, trivial⟩ ?_
      refine am_Rn.ret (t := am_t12) rfl rfl trivial ?_
      first
        | (rw [if_neg (by omega)]; exact ⟨rfl, rfl⟩)
        | (rw [if_pos (by omega)]; refine ⟨congrArg (fun z => some (Value.int z)) ?_, rfl⟩; rw [e1])
theorem sx_add_T (sc : am_Sc) (v : Int64) (k0 : Nat) (h1 : 1 ≤ k0) (h8 : k0 ≤ 8) (tx : Nat → Int32) (n : Nat) (hn : n ≤ 400) (it fa nx pl ki va tw : Int32) (hk : n + k0 ≤ 400) (B0 B1 : List am_E) (Bs : am_M) : am_Rn sc 6 (0, am_entry 6 [.ref 64, .long v, .int (Int32.ofNat k0)], [], B0 :: B1 :: bkReader tx (Int32.ofNat n) it fa nx pl ki va tw :: Bs) (fun r M' => r = some (.int 1) ∧ M' = B0 :: B1 :: bkReader (am_down (k0 - 1) (sp_typeOne v) (tx, n)).1 (Int32.ofNat (am_down (k0 - 1) (sp_typeOne v) (tx, n)).2) it fa nx pl ki va tw :: Bs) := by
  show am_Rn sc 6 (0, [some (.ref 64), some (.long v), none, some (.int (Int32.ofNat k0)), none], [], _) _
  have L : ∀ (i : Nat) (X : (Nat → Int32) × Nat), i < 8 → X.2 + i + 1 ≤ 400 → am_Rn sc 6 (15, [some (.ref 64), some (.long v), none, some (.int (Int32.ofNat k0)), some (.int (Int32.ofNat i))], [], B0 :: B1 :: bkReader (X).1 (Int32.ofNat (X).2) it fa nx pl ki va tw :: Bs) (fun r M' => r = some (.int 1) ∧ M' = B0 :: B1 :: bkReader (am_down i (sp_typeOne v) X).1 (Int32.ofNat (am_down i (sp_typeOne v) X).2) it fa nx pl ki va tw :: Bs) := by
    intro i
    induction i with
    | zero =>
      intro X h8 hX
      have e1 : (Int32.ofNat X.2).toNatClampNeg = X.2 := am_tn X.2 (by omega)
      refine am_Rn.go (t := am_t6) rfl 2 rfl ⟨trivial, trivial, trivial⟩ ?_
      refine am_Rn.brF (fun q => absurd ((am_lt (i := 0) (j := 0) (by omega) (by omega)).mp q) (by omega)) ?_
      refine am_Rn.go (t := am_t6) rfl 18 rfl ⟨trivial, trivial, trivial, trivial, trivial, trivial, trivial, trivial, trivial, trivial, trivial, (by exact am_inb_of (by omega) (by omega)), trivial, trivial, trivial, trivial, trivial, trivial, trivial⟩ ?_
      show am_Rn sc 6 (35, _, _, B0 :: B1 :: bkReader (upd X.1 (Int32.ofNat X.2).toNatClampNeg (vp_nar .byte (v >>> ((8 * Int32.ofNat (0)).toInt64 &&& 63)).toInt32.toInt8.toInt32)) (Int32.ofNat X.2 + 1) it fa nx pl ki va tw :: Bs) _
      rw [e1, am_inc]
      refine am_Rn.go (t := am_t6) rfl 2 rfl ⟨trivial, trivial, trivial⟩ ?_
      refine am_Rn.go (t := am_t6) rfl 2 rfl ⟨trivial, trivial, trivial⟩ ?_
      refine am_Rn.brT (by decide) ?_
      refine am_Rn.go (t := am_t6) rfl 1 rfl ⟨trivial, trivial⟩ ?_
      refine am_Rn.ret (t := am_t6) rfl rfl (by first | exact Or.inl rfl | exact Or.inr rfl | exact am_b01 _) ?_
      exact ⟨rfl, rfl⟩
    | succ i ih =>
      intro X h8 hX
      have e1 : (Int32.ofNat X.2).toNatClampNeg = X.2 := am_tn X.2 (by omega)
      have e6 := am_decN i
      have g := ih (sp_typeOne v (i + 1) X) (by omega) (by show X.2 + 1 + i + 1 ≤ 400; omega)
      refine am_Rn.go (t := am_t6) rfl 2 rfl ⟨trivial, trivial, trivial⟩ ?_
      refine am_Rn.brF (fun q => absurd ((am_lt (i := i + 1) (j := 0) (by omega) (by omega)).mp q) (by omega)) ?_
      refine am_Rn.go (t := am_t6) rfl 18 rfl ⟨trivial, trivial, trivial, trivial, trivial, trivial, trivial, trivial, trivial, trivial, trivial, (by exact am_inb_of (by omega) (by omega)), trivial, trivial, trivial, trivial, trivial, trivial, trivial⟩ ?_
      show am_Rn sc 6 (35, _, _, B0 :: B1 :: bkReader (upd X.1 (Int32.ofNat X.2).toNatClampNeg (vp_nar .byte (v >>> ((8 * Int32.ofNat (i + 1)).toInt64 &&& 63)).toInt32.toInt8.toInt32)) (Int32.ofNat X.2 + 1) it fa nx pl ki va tw :: Bs) _
      rw [e1, am_inc]
      refine am_Rn.go (t := am_t6) rfl 2 rfl ⟨trivial, trivial, trivial⟩ ?_
      rw [e6]
      exact g
  refine am_Rn.go (t := am_t6) rfl 3 rfl ⟨trivial, trivial, trivial, trivial⟩ ?_
  refine am_Rn.brF (fun q => absurd ((am_lt (j := 1) (by omega) (by omega)).mp q) (by omega)) ?_
  refine am_Rn.go (t := am_t6) rfl 6 rfl ⟨trivial, trivial, trivial, trivial, trivial, trivial, trivial⟩ ?_
  refine am_Rn.brT (by rw [show (400 : Int32) - Int32.ofNat n = Int32.ofNat (400 - n) from am_sub_ofN (i := 400) (by omega) (by omega)]; exact (am_le (by omega) (by omega)).mpr (by omega)) ?_
  refine am_Rn.go (t := am_t6) rfl 4 rfl ⟨trivial, trivial, trivial, trivial, trivial⟩ ?_
  rw [show Int32.ofNat k0 - 1 = Int32.ofNat (k0 - 1) from am_sub_ofN (j := 1) (by omega) (by omega)]
  exact L (k0 - 1) (tx, n) (by omega) (by show n + (k0 - 1) + 1 ≤ 400; omega)
theorem sx_add_F (sc : am_Sc) (v : Int64) (k0 : Nat) (h1 : 1 ≤ k0) (h8 : k0 ≤ 8) (tx : Nat → Int32) (n : Nat) (hn : n ≤ 400) (it fa nx pl ki va tw : Int32) (hk : 400 < n + k0) (B0 B1 : List am_E) (Bs : am_M) : am_Rn sc 6 (0, am_entry 6 [.ref 64, .long v, .int (Int32.ofNat k0)], [], B0 :: B1 :: bkReader tx (Int32.ofNat n) it fa nx pl ki va tw :: Bs) (fun r M' => r = some (.int 0) ∧ M' = B0 :: B1 :: bkReader tx (Int32.ofNat n) it fa nx pl ki va tw :: Bs) := by
  show am_Rn sc 6 (0, [some (.ref 64), some (.long v), none, some (.int (Int32.ofNat k0)), none], [], _) _
  refine am_Rn.go (t := am_t6) rfl 3 rfl ⟨trivial, trivial, trivial, trivial⟩ ?_
  refine am_Rn.brF (fun q => absurd ((am_lt (j := 1) (by omega) (by omega)).mp q) (by omega)) ?_
  refine am_Rn.go (t := am_t6) rfl 6 rfl ⟨trivial, trivial, trivial, trivial, trivial, trivial, trivial⟩ ?_
  refine am_Rn.brF (by rw [show (400 : Int32) - Int32.ofNat n = Int32.ofNat (400 - n) from am_sub_ofN (i := 400) (by omega) (by omega)]; exact fun q => absurd ((am_le (by omega) (by omega)).mp q) (by omega)) ?_
  refine am_Rn.go (t := am_t6) rfl 1 rfl ⟨trivial, trivial⟩ ?_
  refine am_Rn.ret (t := am_t6) rfl rfl (by first | exact Or.inl rfl | exact Or.inr rfl | exact am_b01 _) ?_
  exact ⟨rfl, rfl⟩

theorem mp_ru_lt (nu dn : Nat → Int32) {j : Nat} (h : j < 10) : mp_ru nu dn j = nu j := if_pos h
theorem an_person_no {nu la me co sh se : Nat → Int32} {rd pr pv : Int32} {q : Nat} {w : Int32} (h : ¬ (0 ≤ w ∧ w ≤ 5)) : an_person nu la me co sh se rd pr pv q w = -1000000 := by
  unfold an_person
  rw [if_neg (fun e => h (by rw [e]; decide)), if_neg (fun e => h (by rw [e]; decide)), if_neg (fun e => h (by rw [e]; decide)), if_neg (fun e => h (by rw [e]; decide)), if_neg (fun e => h (by rw [e]; decide)), if_neg (fun e => h (by rw [e]; decide))]
theorem an_now_no {N rn : Nat} {pr pv sa pd w : Int32} (h : ¬ (0 ≤ w ∧ w ≤ 5)) : an_now N rn pr pv sa pd w = -1 := by
  unfold an_now
  rw [if_neg (fun e => h (by rw [e]; decide)), if_neg (fun e => h (by rw [e]; decide)), if_neg (fun e => h (by rw [e]; decide)), if_neg (fun e => h (by rw [e]; decide)), if_neg (fun e => h (by rw [e]; decide)), if_neg (fun e => h (by rw [e]; decide))]
theorem am_rngW {w : Int32} {k : Nat} (hk : k < 2147483648) : (0 ≤ w ∧ w ≤ Int32.ofNat k) ∨ ¬ (0 ≤ w ∧ w ≤ Int32.ofNat k) := Classical.em _
theorem mm_rule (sc : am_Sc) (w : Int32) (tr : Int64) (ty nx tk pl va fa dp cm : Int32) (tx nu dn la me tc ts ps : Nat → Int32) (P : Nat) (rd pr pv sa pd lo : Int32) (bo co sh se si er of_ sp ke ik bi bt so nr ou ho cl : Nat → Int32) (B0 B1 B2 B3 B4 B5 B6 B7 B8 B9 B10 B11 B12 : List am_E) (Bs : am_M) : am_Rn sc 116 (0, am_entry 116 [.ref 416, .int w], [], B0 :: B1 :: B2 :: B3 :: B4 :: B5 :: B6 :: B7 :: B8 :: B9 :: B10 :: B11 :: B12 :: bkModel tr ty nx tk pl va fa (Int32.ofNat P) dp cm tx (mp_ru nu dn) (mp_ps (mp_q la me tc ts) ps) (mp_s rd pr pv sa pd lo bo co sh se si er of_) sp ke ik bi bt so nr ou ho cl :: Bs) (fun r M' => r = some (.int (an_rule nu w)) ∧ M' = B0 :: B1 :: B2 :: B3 :: B4 :: B5 :: B6 :: B7 :: B8 :: B9 :: B10 :: B11 :: B12 :: bkModel tr ty nx tk pl va fa (Int32.ofNat P) dp cm tx (mp_ru nu dn) (mp_ps (mp_q la me tc ts) ps) (mp_s rd pr pv sa pd lo bo co sh se si er of_) sp ke ik bi bt so nr ou ho cl :: Bs) := by
  show am_Rn sc 116 (0, [some (.ref 416), some (.int w)], [], _) _
  refine am_Rn.go (t := am_t116) rfl 6 rfl ⟨trivial, trivial, trivial, trivial, trivial, trivial, trivial⟩ ?_
  refine am_Rn.call (t := am_t116) rfl rfl (sx_in ..) ?_
  rintro _ _ ⟨rfl, rfl⟩
  refine am_Rn.go (t := am_t116) rfl 1 rfl ⟨trivial, trivial⟩ ?_
  refine am_Rn.brB (fun h1 => ?_) (fun h1 => ?_)
  · skip
    refine am_Rn.go (t := am_t116) rfl 1 rfl ⟨trivial, trivial⟩ ?_
    refine am_Rn.ret (t := am_t116) rfl rfl trivial ?_
    refine ⟨congrArg (fun z => some (Value.int z)) ?_, rfl⟩
    unfold an_rule
    first
      | exact (if_neg (by assumption)).symm
      | (rw [if_pos k1, am_tn m (by omega)]; exact mp_ru_lt nu dn (by omega))
  · skip
    have k1 : 0 ≤ w ∧ w ≤ 9 := h1
    obtain ⟨m, hm, rfl⟩ := am_rng (k := 9) (by omega) k1
    refine am_Rn.go (t := am_t116) rfl 5 rfl ⟨trivial, trivial, trivial, (by exact am_inbW (k := 9) (by omega) (by omega) (by assumption)), trivial, trivial⟩ ?_
    refine am_Rn.ret (t := am_t116) rfl rfl trivial ?_
    refine ⟨congrArg (fun z => some (Value.int z)) ?_, rfl⟩
    unfold an_rule
    first
      | exact (if_neg (by assumption)).symm
      | (rw [if_pos k1, am_tn m (by omega)]; exact mp_ru_lt nu dn (by omega))
theorem mm_person_F (sc : am_Sc) (P : Nat) (hP : P ≤ 9) (p w : Int32) (hp : ¬ (0 ≤ p ∧ p ≤ Int32.ofNat P - 1)) (tr : Int64) (ty nx tk pl va fa dp cm : Int32) (tx nu dn la me tc ts ps : Nat → Int32) (rd pr pv sa pd lo : Int32) (bo co sh se si er of_ sp ke ik bi bt so nr ou ho cl : Nat → Int32) (B0 B1 B2 B3 B4 B5 B6 B7 B8 B9 B10 B11 B12 : List am_E) (Bs : am_M) : am_Rn sc 122 (0, am_entry 122 [.ref 416, .int p, .int w], [], B0 :: B1 :: B2 :: B3 :: B4 :: B5 :: B6 :: B7 :: B8 :: B9 :: B10 :: B11 :: B12 :: bkModel tr ty nx tk pl va fa (Int32.ofNat P) dp cm tx (mp_ru nu dn) (mp_ps (mp_q la me tc ts) ps) (mp_s rd pr pv sa pd lo bo co sh se si er of_) sp ke ik bi bt so nr ou ho cl :: Bs) (fun r M' => r = some (.int (-1000000)) ∧ M' = B0 :: B1 :: B2 :: B3 :: B4 :: B5 :: B6 :: B7 :: B8 :: B9 :: B10 :: B11 :: B12 :: bkModel tr ty nx tk pl va fa (Int32.ofNat P) dp cm tx (mp_ru nu dn) (mp_ps (mp_q la me tc ts) ps) (mp_s rd pr pv sa pd lo bo co sh se si er of_) sp ke ik bi bt so nr ou ho cl :: Bs) := by
  show am_Rn sc 122 (0, [some (.ref 416), some (.int p), some (.int w)], [], _) _
  refine am_Rn.go (t := am_t122) rfl 5 rfl ⟨trivial, trivial, trivial, trivial, trivial, trivial⟩ ?_
  refine am_Rn.call (t := am_t122) rfl rfl (mm_isPerson ..) ?_
  rintro _ _ ⟨rfl, rfl⟩
  refine am_Rn.go (t := am_t122) rfl 1 rfl ⟨trivial, trivial⟩ ?_
  refine am_Rn.brT (am_b0.mpr hp) ?_
  refine am_Rn.go (t := am_t122) rfl 2 rfl ⟨trivial, trivial, trivial⟩ ?_
  refine am_Rn.ret (t := am_t122) rfl rfl trivial ?_
  exact ⟨rfl, rfl⟩
theorem mm_person_T (sc : am_Sc) (P : Nat) (hP : P ≤ 9) (q : Nat) (hq : q < P) (w : Int32) (nu la : Nat → Int32) (h7 : 0 ≤ nu 7) (hla : la q = 0 ∨ la q = 1 ∨ la q = 2 ∨ la q = 3 ∨ la q = 4) (tr : Int64) (ty nx tk pl va fa dp cm : Int32) (tx dn me tc ts ps : Nat → Int32) (rd pr pv sa pd lo : Int32) (bo co sh se si er of_ sp ke ik bi bt so nr ou ho cl : Nat → Int32) (B0 B1 B2 B3 B4 B5 B6 B7 B8 B9 B10 B11 B12 : List am_E) (Bs : am_M) : am_Rn sc 122 (0, am_entry 122 [.ref 416, .int (Int32.ofNat q), .int w], [], B0 :: B1 :: B2 :: B3 :: B4 :: B5 :: B6 :: B7 :: B8 :: B9 :: B10 :: B11 :: B12 :: bkModel tr ty nx tk pl va fa (Int32.ofNat P) dp cm tx (mp_ru nu dn) (mp_ps (mp_q la me tc ts) ps) (mp_s rd pr pv sa pd lo bo co sh se si er of_) sp ke ik bi bt so nr ou ho cl :: Bs) (fun r M' => r = some (.int (an_person nu la me co sh se rd pr pv q w)) ∧ M' = B0 :: B1 :: B2 :: B3 :: B4 :: B5 :: B6 :: B7 :: B8 :: B9 :: B10 :: B11 :: B12 :: bkModel tr ty nx tk pl va fa (Int32.ofNat P) dp cm tx (mp_ru nu dn) (mp_ps (mp_q la me tc ts) ps) (mp_s rd pr pv sa pd lo bo co sh se si er of_) sp ke ik bi bt so nr ou ho cl :: Bs) := by
  show am_Rn sc 122 (0, [some (.ref 416), some (.int (Int32.ofNat q)), some (.int w)], [], _) _
  have e0 : mp_ps (mp_q la me tc ts) ps (4 * Int32.ofNat q + 0).toNatClampNeg = la q := by
    show mp_ps (mp_q la me tc ts) ps (4 * Int32.ofNat q + Int32.ofNat 0).toNatClampNeg = _
    rw [am_tn4 (by omega) (by omega), mp_pers _ _ _ _ _ (by omega) (by omega)]
    rfl
  have e1 : mp_ps (mp_q la me tc ts) ps (4 * Int32.ofNat q + 1).toNatClampNeg = me q := by
    show mp_ps (mp_q la me tc ts) ps (4 * Int32.ofNat q + Int32.ofNat 1).toNatClampNeg = _
    rw [am_tn4 (by omega) (by omega), mp_pers _ _ _ _ _ (by omega) (by omega)]
    rfl
  rcases Classical.em (0 ≤ w ∧ w ≤ Int32.ofNat 5) with hw | hw
  · obtain ⟨m, hm, rfl⟩ := am_rng (by omega) hw
    rcases (show m = 0 ∨ m = 1 ∨ m = 2 ∨ m = 3 ∨ m = 4 ∨ m = 5 by omega) with rfl | rfl | rfl | rfl | rfl | rfl
    · skip
      refine am_Rn.go (t := am_t122) rfl 5 rfl ⟨trivial, trivial, trivial, trivial, trivial, trivial⟩ ?_
      refine am_Rn.call (t := am_t122) rfl rfl (mm_isPerson ..) ?_
      rintro _ _ ⟨rfl, rfl⟩
      refine am_Rn.go (t := am_t122) rfl 1 rfl ⟨trivial, trivial⟩ ?_
      refine am_Rn.brF (fun z => am_b0.mp z (am_pers2 hP hq)) ?_
      refine am_Rn.go (t := am_t122) rfl 3 rfl ⟨trivial, trivial, trivial, trivial⟩ ?_
      refine am_Rn.call (t := am_t122) rfl rfl (sx_in ..) ?_
      rintro _ _ ⟨rfl, rfl⟩
      refine am_Rn.go (t := am_t122) rfl 1 rfl ⟨trivial, trivial⟩ ?_
      refine am_Rn.brF (fun z => am_b0.mp z hw) ?_
      refine am_Rn.go (t := am_t122) rfl 3 rfl ⟨trivial, trivial, trivial, trivial⟩ ?_
      refine am_Rn.brF (by decide) ?_
      refine am_Rn.go (t := am_t122) rfl 9 rfl ⟨trivial, trivial, trivial, trivial, trivial, trivial, trivial, (by exact am_inb4 (k := 0) (by omega) (by omega)), trivial, trivial⟩ ?_
      refine am_Rn.ret (t := am_t122) rfl rfl trivial ?_
      refine ⟨congrArg (fun z => some (Value.int z)) ?_, rfl⟩
      exact e0
    · skip
      refine am_Rn.go (t := am_t122) rfl 5 rfl ⟨trivial, trivial, trivial, trivial, trivial, trivial⟩ ?_
      refine am_Rn.call (t := am_t122) rfl rfl (mm_isPerson ..) ?_
      rintro _ _ ⟨rfl, rfl⟩
      refine am_Rn.go (t := am_t122) rfl 1 rfl ⟨trivial, trivial⟩ ?_
      refine am_Rn.brF (fun z => am_b0.mp z (am_pers2 hP hq)) ?_
      refine am_Rn.go (t := am_t122) rfl 3 rfl ⟨trivial, trivial, trivial, trivial⟩ ?_
      refine am_Rn.call (t := am_t122) rfl rfl (sx_in ..) ?_
      rintro _ _ ⟨rfl, rfl⟩
      refine am_Rn.go (t := am_t122) rfl 1 rfl ⟨trivial, trivial⟩ ?_
      refine am_Rn.brF (fun z => am_b0.mp z hw) ?_
      refine am_Rn.go (t := am_t122) rfl 3 rfl ⟨trivial, trivial, trivial, trivial⟩ ?_
      refine am_Rn.brF (by decide) ?_
      refine am_Rn.go (t := am_t122) rfl 9 rfl ⟨trivial, trivial, trivial, trivial, trivial, trivial, trivial, (by exact am_inb4 (k := 1) (by omega) (by omega)), trivial, trivial⟩ ?_
      refine am_Rn.ret (t := am_t122) rfl rfl trivial ?_
      refine ⟨congrArg (fun z => some (Value.int z)) ?_, rfl⟩
      exact e1
    · skip
      refine am_Rn.go (t := am_t122) rfl 5 rfl ⟨trivial, trivial, trivial, trivial, trivial, trivial⟩ ?_
      refine am_Rn.call (t := am_t122) rfl rfl (mm_isPerson ..) ?_
      rintro _ _ ⟨rfl, rfl⟩
      refine am_Rn.go (t := am_t122) rfl 1 rfl ⟨trivial, trivial⟩ ?_
      refine am_Rn.brF (fun z => am_b0.mp z (am_pers2 hP hq)) ?_
      refine am_Rn.go (t := am_t122) rfl 3 rfl ⟨trivial, trivial, trivial, trivial⟩ ?_
      refine am_Rn.call (t := am_t122) rfl rfl (sx_in ..) ?_
      rintro _ _ ⟨rfl, rfl⟩
      refine am_Rn.go (t := am_t122) rfl 1 rfl ⟨trivial, trivial⟩ ?_
      refine am_Rn.brF (fun z => am_b0.mp z hw) ?_
      refine am_Rn.go (t := am_t122) rfl 3 rfl ⟨trivial, trivial, trivial, trivial⟩ ?_
      refine am_Rn.brT (by decide) ?_
      refine am_Rn.go (t := am_t122) rfl 3 rfl ⟨trivial, trivial, trivial, trivial⟩ ?_
      refine am_Rn.brT (by decide) ?_
      refine am_Rn.go (t := am_t122) rfl 3 rfl ⟨trivial, trivial, trivial, trivial⟩ ?_
      refine am_Rn.call (t := am_t122) rfl rfl (mm_of0 sc q (by omega) ..) ?_
      rintro _ _ ⟨rfl, rfl⟩
      refine am_Rn.go (t := am_t122) rfl 1 rfl ⟨trivial, trivial⟩ ?_
      refine am_Rn.ret (t := am_t122) rfl rfl trivial ?_
      exact ⟨rfl, rfl⟩
    · skip
      refine am_Rn.go (t := am_t122) rfl 5 rfl ⟨trivial, trivial, trivial, trivial, trivial, trivial⟩ ?_
      refine am_Rn.call (t := am_t122) rfl rfl (mm_isPerson ..) ?_
      rintro _ _ ⟨rfl, rfl⟩
      refine am_Rn.go (t := am_t122) rfl 1 rfl ⟨trivial, trivial⟩ ?_
      refine am_Rn.brF (fun z => am_b0.mp z (am_pers2 hP hq)) ?_
      refine am_Rn.go (t := am_t122) rfl 3 rfl ⟨trivial, trivial, trivial, trivial⟩ ?_
      refine am_Rn.call (t := am_t122) rfl rfl (sx_in ..) ?_
      rintro _ _ ⟨rfl, rfl⟩
      refine am_Rn.go (t := am_t122) rfl 1 rfl ⟨trivial, trivial⟩ ?_
      refine am_Rn.brF (fun z => am_b0.mp z hw) ?_
      refine am_Rn.go (t := am_t122) rfl 3 rfl ⟨trivial, trivial, trivial, trivial⟩ ?_
      refine am_Rn.brT (by decide) ?_
      refine am_Rn.go (t := am_t122) rfl 3 rfl ⟨trivial, trivial, trivial, trivial⟩ ?_
      refine am_Rn.brF (by decide) ?_
      refine am_Rn.go (t := am_t122) rfl 3 rfl ⟨trivial, trivial, trivial, trivial⟩ ?_
      refine am_Rn.brT (by decide) ?_
      refine am_Rn.go (t := am_t122) rfl 3 rfl ⟨trivial, trivial, trivial, trivial⟩ ?_
      refine am_Rn.call (t := am_t122) rfl rfl (mm_of1 sc q (by omega) ..) ?_
      rintro _ _ ⟨rfl, rfl⟩
      refine am_Rn.go (t := am_t122) rfl 1 rfl ⟨trivial, trivial⟩ ?_
      refine am_Rn.ret (t := am_t122) rfl rfl trivial ?_
      exact ⟨rfl, rfl⟩
    · skip
      refine am_Rn.go (t := am_t122) rfl 5 rfl ⟨trivial, trivial, trivial, trivial, trivial, trivial⟩ ?_
      refine am_Rn.call (t := am_t122) rfl rfl (mm_isPerson ..) ?_
      rintro _ _ ⟨rfl, rfl⟩
      refine am_Rn.go (t := am_t122) rfl 1 rfl ⟨trivial, trivial⟩ ?_
      refine am_Rn.brF (fun z => am_b0.mp z (am_pers2 hP hq)) ?_
      refine am_Rn.go (t := am_t122) rfl 3 rfl ⟨trivial, trivial, trivial, trivial⟩ ?_
      refine am_Rn.call (t := am_t122) rfl rfl (sx_in ..) ?_
      rintro _ _ ⟨rfl, rfl⟩
      refine am_Rn.go (t := am_t122) rfl 1 rfl ⟨trivial, trivial⟩ ?_
      refine am_Rn.brF (fun z => am_b0.mp z hw) ?_
      refine am_Rn.go (t := am_t122) rfl 3 rfl ⟨trivial, trivial, trivial, trivial⟩ ?_
      refine am_Rn.brT (by decide) ?_
      refine am_Rn.go (t := am_t122) rfl 3 rfl ⟨trivial, trivial, trivial, trivial⟩ ?_
      refine am_Rn.brF (by decide) ?_
      refine am_Rn.go (t := am_t122) rfl 3 rfl ⟨trivial, trivial, trivial, trivial⟩ ?_
      refine am_Rn.brF (by decide) ?_
      refine am_Rn.go (t := am_t122) rfl 3 rfl ⟨trivial, trivial, trivial, trivial⟩ ?_
      refine am_Rn.brT (by decide) ?_
      refine am_Rn.go (t := am_t122) rfl 2 rfl ⟨trivial, trivial, trivial⟩ ?_
      refine am_Rn.call (t := am_t122) rfl rfl (mm_valueOf (q := q) (hq := by omega) (h7 := h7) (hla := hla) ..) ?_
      rintro _ _ ⟨rfl, rfl⟩
      refine am_Rn.go (t := am_t122) rfl 1 rfl ⟨trivial, trivial⟩ ?_
      refine am_Rn.ret (t := am_t122) rfl rfl trivial ?_
      exact ⟨rfl, rfl⟩
    · skip
      refine am_Rn.go (t := am_t122) rfl 5 rfl ⟨trivial, trivial, trivial, trivial, trivial, trivial⟩ ?_
      refine am_Rn.call (t := am_t122) rfl rfl (mm_isPerson ..) ?_
      rintro _ _ ⟨rfl, rfl⟩
      refine am_Rn.go (t := am_t122) rfl 1 rfl ⟨trivial, trivial⟩ ?_
      refine am_Rn.brF (fun z => am_b0.mp z (am_pers2 hP hq)) ?_
      refine am_Rn.go (t := am_t122) rfl 3 rfl ⟨trivial, trivial, trivial, trivial⟩ ?_
      refine am_Rn.call (t := am_t122) rfl rfl (sx_in ..) ?_
      rintro _ _ ⟨rfl, rfl⟩
      refine am_Rn.go (t := am_t122) rfl 1 rfl ⟨trivial, trivial⟩ ?_
      refine am_Rn.brF (fun z => am_b0.mp z hw) ?_
      refine am_Rn.go (t := am_t122) rfl 3 rfl ⟨trivial, trivial, trivial, trivial⟩ ?_
      refine am_Rn.brT (by decide) ?_
      refine am_Rn.go (t := am_t122) rfl 3 rfl ⟨trivial, trivial, trivial, trivial⟩ ?_
      refine am_Rn.brF (by decide) ?_
      refine am_Rn.go (t := am_t122) rfl 3 rfl ⟨trivial, trivial, trivial, trivial⟩ ?_
      refine am_Rn.brF (by decide) ?_
      refine am_Rn.go (t := am_t122) rfl 3 rfl ⟨trivial, trivial, trivial, trivial⟩ ?_
      refine am_Rn.brF (by decide) ?_
      refine am_Rn.go (t := am_t122) rfl 3 rfl ⟨trivial, trivial, trivial, trivial⟩ ?_
      refine am_Rn.call (t := am_t122) rfl rfl (mm_of2 sc q (by omega) ..) ?_
      rintro _ _ ⟨rfl, rfl⟩
      refine am_Rn.ret (t := am_t122) rfl rfl trivial ?_
      exact ⟨rfl, rfl⟩
  · rw [an_person_no hw]
    refine am_Rn.go (t := am_t122) rfl 5 rfl ⟨trivial, trivial, trivial, trivial, trivial, trivial⟩ ?_
    refine am_Rn.call (t := am_t122) rfl rfl (mm_isPerson ..) ?_
    rintro _ _ ⟨rfl, rfl⟩
    refine am_Rn.go (t := am_t122) rfl 1 rfl ⟨trivial, trivial⟩ ?_
    refine am_Rn.brF (fun z => am_b0.mp z (am_pers2 hP hq)) ?_
    refine am_Rn.go (t := am_t122) rfl 3 rfl ⟨trivial, trivial, trivial, trivial⟩ ?_
    refine am_Rn.call (t := am_t122) rfl rfl (sx_in ..) ?_
    rintro _ _ ⟨rfl, rfl⟩
    refine am_Rn.go (t := am_t122) rfl 1 rfl ⟨trivial, trivial⟩ ?_
    refine am_Rn.brT (am_b0.mpr hw) ?_
    refine am_Rn.go (t := am_t122) rfl 2 rfl ⟨trivial, trivial, trivial⟩ ?_
    refine am_Rn.ret (t := am_t122) rfl rfl trivial ?_
    exact ⟨rfl, rfl⟩
theorem mm_worth (sc : am_Sc) (r0 w : Int32) (tr : Int64) (ty nx tk pl va fa dp cm : Int32) (tx nu dn la me tc ts ps : Nat → Int32) (P : Nat) (rd pr pv sa pd lo : Int32) (bo co sh se si er of_ sp ke ik bi bt so nr ou ho cl : Nat → Int32) (B0 B1 B2 B3 B4 B5 B6 B7 B8 B9 B10 B11 B12 : List am_E) (Bs : am_M) : am_Rn sc 123 (0, am_entry 123 [.ref 416, .int r0, .int w], [], B0 :: B1 :: B2 :: B3 :: B4 :: B5 :: B6 :: B7 :: B8 :: B9 :: B10 :: B11 :: B12 :: bkModel tr ty nx tk pl va fa (Int32.ofNat P) dp cm tx (mp_ru nu dn) (mp_ps (mp_q la me tc ts) ps) (mp_s rd pr pv sa pd lo bo co sh se si er of_) sp ke ik bi bt so nr ou ho cl :: Bs) (fun r M' => r = some (.int (an_worth nu r0 w)) ∧ M' = B0 :: B1 :: B2 :: B3 :: B4 :: B5 :: B6 :: B7 :: B8 :: B9 :: B10 :: B11 :: B12 :: bkModel tr ty nx tk pl va fa (Int32.ofNat P) dp cm tx (mp_ru nu dn) (mp_ps (mp_q la me tc ts) ps) (mp_s rd pr pv sa pd lo bo co sh se si er of_) sp ke ik bi bt so nr ou ho cl :: Bs) := by
  show am_Rn sc 123 (0, [some (.ref 416), some (.int r0), some (.int w)], [], _) _
  refine am_Rn.go (t := am_t123) rfl 9 rfl ⟨trivial, trivial, trivial, trivial, trivial, trivial, trivial, trivial, (by first | exact am_inb_lit rfl | exact am_inb_of (by omega) (by omega)), trivial⟩ ?_
  refine am_Rn.call (t := am_t123) rfl rfl (sx_in ..) ?_
  rintro _ _ ⟨rfl, rfl⟩
  refine am_Rn.go (t := am_t123) rfl 1 rfl ⟨trivial, trivial⟩ ?_
  refine am_Rn.brB (fun h1 => ?_) (fun h1 => ?_)
  · skip
    have k1 : ¬ (0 ≤ r0 ∧ r0 ≤ nu 0) := h1
    refine am_Rn.go (t := am_t123) rfl 2 rfl ⟨trivial, trivial, trivial⟩ ?_
    refine am_Rn.ret (t := am_t123) rfl rfl trivial ?_
    refine ⟨congrArg (fun z => some (Value.int z)) ?_, rfl⟩
    unfold an_worth
    first
      | exact (if_neg k1).symm
      | (rw [if_pos k1]; simp [*])
  · skip
    have k1 : 0 ≤ r0 ∧ r0 ≤ nu 0 := h1
    refine am_Rn.go (t := am_t123) rfl 3 rfl ⟨trivial, trivial, trivial, trivial⟩ ?_
    refine am_Rn.call (t := am_t123) rfl rfl (sx_in ..) ?_
    rintro _ _ ⟨rfl, rfl⟩
    refine am_Rn.go (t := am_t123) rfl 1 rfl ⟨trivial, trivial⟩ ?_
    refine am_Rn.brB (fun h2 => ?_) (fun h2 => ?_)
    · skip
      refine am_Rn.go (t := am_t123) rfl 2 rfl ⟨trivial, trivial, trivial⟩ ?_
      refine am_Rn.ret (t := am_t123) rfl rfl trivial ?_
      refine ⟨congrArg (fun z => some (Value.int z)) ?_, rfl⟩
      unfold an_worth
      first
        | exact (if_neg k1).symm
        | (rw [if_pos k1]; simp [*])
    · skip
      refine am_Rn.go (t := am_t123) rfl 2 rfl ⟨trivial, trivial, trivial⟩ ?_
      refine am_Rn.br (fun h3 => ?_) (fun h3 => ?_)
      · skip
        refine am_Rn.go (t := am_t123) rfl 2 rfl ⟨trivial, trivial, trivial⟩ ?_
        refine am_Rn.call (t := am_t123) rfl rfl (mm_worthIn ..) ?_
        rintro _ _ ⟨rfl, rfl⟩
        refine am_Rn.go (t := am_t123) rfl 1 rfl ⟨trivial, trivial⟩ ?_
        refine am_Rn.ret (t := am_t123) rfl rfl trivial ?_
        refine ⟨congrArg (fun z => some (Value.int z)) ?_, rfl⟩
        unfold an_worth
        first
          | exact (if_neg k1).symm
          | (rw [if_pos k1]; simp [*])
      · skip
        refine am_Rn.go (t := am_t123) rfl 2 rfl ⟨trivial, trivial, trivial⟩ ?_
        refine am_Rn.call (t := am_t123) rfl rfl (mm_halvesIn ..) ?_
        rintro _ _ ⟨rfl, rfl⟩
        refine am_Rn.ret (t := am_t123) rfl rfl trivial ?_
        refine ⟨congrArg (fun z => some (Value.int z)) ?_, rfl⟩
        unfold an_worth
        first
          | exact (if_neg k1).symm
          | (rw [if_pos k1]; simp [*])
theorem mm_now (sc : am_Sc) (w : Int32) (N rn : Nat) (nu : Nat → Int32) (h0 : nu 0 = Int32.ofNat N) (hN : N ≤ 20) (hr : rn ≤ N) (tr : Int64) (ty nx tk pl va fa dp cm : Int32) (tx dn la me tc ts ps : Nat → Int32) (P : Nat) (pr pv sa pd lo : Int32) (bo co sh se si er of_ sp ke ik bi bt so nr ou ho cl : Nat → Int32) (B0 B1 B2 B3 B4 B5 B6 B7 B8 B9 B10 B11 B12 : List am_E) (Bs : am_M) : am_Rn sc 132 (0, am_entry 132 [.ref 416, .int w], [], B0 :: B1 :: B2 :: B3 :: B4 :: B5 :: B6 :: B7 :: B8 :: B9 :: B10 :: B11 :: B12 :: bkModel tr ty nx tk pl va fa (Int32.ofNat P) dp cm tx (mp_ru nu dn) (mp_ps (mp_q la me tc ts) ps) (mp_s (Int32.ofNat rn) pr pv sa pd lo bo co sh se si er of_) sp ke ik bi bt so nr ou ho cl :: Bs) (fun r M' => r = some (.int (an_now N rn pr pv sa pd w)) ∧ M' = B0 :: B1 :: B2 :: B3 :: B4 :: B5 :: B6 :: B7 :: B8 :: B9 :: B10 :: B11 :: B12 :: bkModel tr ty nx tk pl va fa (Int32.ofNat P) dp cm tx (mp_ru nu dn) (mp_ps (mp_q la me tc ts) ps) (mp_s (Int32.ofNat rn) pr pv sa pd lo bo co sh se si er of_) sp ke ik bi bt so nr ou ho cl :: Bs) := by
  show am_Rn sc 132 (0, [some (.ref 416), some (.int w)], [], _) _
  rcases Classical.em (0 ≤ w ∧ w ≤ Int32.ofNat 5) with hw | hw
  · obtain ⟨m, hm, rfl⟩ := am_rng (by omega) hw
    rcases (show m = 0 ∨ m = 1 ∨ m = 2 ∨ m = 3 ∨ m = 4 ∨ m = 5 by omega) with rfl | rfl | rfl | rfl | rfl | rfl
    · skip
      refine am_Rn.go (t := am_t132) rfl 6 rfl ⟨trivial, trivial, trivial, trivial, trivial, trivial, trivial⟩ ?_
      refine am_Rn.call (t := am_t132) rfl rfl (sx_in ..) ?_
      rintro _ _ ⟨rfl, rfl⟩
      refine am_Rn.go (t := am_t132) rfl 1 rfl ⟨trivial, trivial⟩ ?_
      refine am_Rn.brF (fun z => am_b0.mp z hw) ?_
      refine am_Rn.go (t := am_t132) rfl 3 rfl ⟨trivial, trivial, trivial, trivial⟩ ?_
      refine am_Rn.brF (by decide) ?_
      refine am_Rn.go (t := am_t132) rfl 4 rfl ⟨trivial, trivial, trivial, (by exact am_inb_lit rfl), trivial⟩ ?_
      refine am_Rn.ret (t := am_t132) rfl rfl trivial ?_
      exact ⟨rfl, rfl⟩
    · skip
      refine am_Rn.go (t := am_t132) rfl 6 rfl ⟨trivial, trivial, trivial, trivial, trivial, trivial, trivial⟩ ?_
      refine am_Rn.call (t := am_t132) rfl rfl (sx_in ..) ?_
      rintro _ _ ⟨rfl, rfl⟩
      refine am_Rn.go (t := am_t132) rfl 1 rfl ⟨trivial, trivial⟩ ?_
      refine am_Rn.brF (fun z => am_b0.mp z hw) ?_
      refine am_Rn.go (t := am_t132) rfl 3 rfl ⟨trivial, trivial, trivial, trivial⟩ ?_
      refine am_Rn.brF (by decide) ?_
      refine am_Rn.go (t := am_t132) rfl 4 rfl ⟨trivial, trivial, trivial, (by exact am_inb_lit rfl), trivial⟩ ?_
      refine am_Rn.ret (t := am_t132) rfl rfl trivial ?_
      exact ⟨rfl, rfl⟩
    · skip
      refine am_Rn.go (t := am_t132) rfl 6 rfl ⟨trivial, trivial, trivial, trivial, trivial, trivial, trivial⟩ ?_
      refine am_Rn.call (t := am_t132) rfl rfl (sx_in ..) ?_
      rintro _ _ ⟨rfl, rfl⟩
      refine am_Rn.go (t := am_t132) rfl 1 rfl ⟨trivial, trivial⟩ ?_
      refine am_Rn.brF (fun z => am_b0.mp z hw) ?_
      refine am_Rn.go (t := am_t132) rfl 3 rfl ⟨trivial, trivial, trivial, trivial⟩ ?_
      refine am_Rn.brF (by decide) ?_
      refine am_Rn.go (t := am_t132) rfl 4 rfl ⟨trivial, trivial, trivial, (by exact am_inb_lit rfl), trivial⟩ ?_
      refine am_Rn.ret (t := am_t132) rfl rfl trivial ?_
      exact ⟨rfl, rfl⟩
    · skip
      refine am_Rn.go (t := am_t132) rfl 6 rfl ⟨trivial, trivial, trivial, trivial, trivial, trivial, trivial⟩ ?_
      refine am_Rn.call (t := am_t132) rfl rfl (sx_in ..) ?_
      rintro _ _ ⟨rfl, rfl⟩
      refine am_Rn.go (t := am_t132) rfl 1 rfl ⟨trivial, trivial⟩ ?_
      refine am_Rn.brF (fun z => am_b0.mp z hw) ?_
      refine am_Rn.go (t := am_t132) rfl 3 rfl ⟨trivial, trivial, trivial, trivial⟩ ?_
      refine am_Rn.brF (by decide) ?_
      refine am_Rn.go (t := am_t132) rfl 4 rfl ⟨trivial, trivial, trivial, (by exact am_inb_lit rfl), trivial⟩ ?_
      refine am_Rn.ret (t := am_t132) rfl rfl trivial ?_
      exact ⟨rfl, rfl⟩
    · skip
      refine am_Rn.go (t := am_t132) rfl 6 rfl ⟨trivial, trivial, trivial, trivial, trivial, trivial, trivial⟩ ?_
      refine am_Rn.call (t := am_t132) rfl rfl (sx_in ..) ?_
      rintro _ _ ⟨rfl, rfl⟩
      refine am_Rn.go (t := am_t132) rfl 1 rfl ⟨trivial, trivial⟩ ?_
      refine am_Rn.brF (fun z => am_b0.mp z hw) ?_
      refine am_Rn.go (t := am_t132) rfl 3 rfl ⟨trivial, trivial, trivial, trivial⟩ ?_
      refine am_Rn.brF (by decide) ?_
      refine am_Rn.go (t := am_t132) rfl 4 rfl ⟨trivial, trivial, trivial, (by exact am_inb_lit rfl), trivial⟩ ?_
      refine am_Rn.ret (t := am_t132) rfl rfl trivial ?_
      exact ⟨rfl, rfl⟩
    · skip
      refine am_Rn.go (t := am_t132) rfl 6 rfl ⟨trivial, trivial, trivial, trivial, trivial, trivial, trivial⟩ ?_
      refine am_Rn.call (t := am_t132) rfl rfl (sx_in ..) ?_
      rintro _ _ ⟨rfl, rfl⟩
      refine am_Rn.go (t := am_t132) rfl 1 rfl ⟨trivial, trivial⟩ ?_
      refine am_Rn.brF (fun z => am_b0.mp z hw) ?_
      refine am_Rn.go (t := am_t132) rfl 3 rfl ⟨trivial, trivial, trivial, trivial⟩ ?_
      refine am_Rn.brT (by decide) ?_
      refine am_Rn.go (t := am_t132) rfl 1 rfl ⟨trivial, trivial⟩ ?_
      refine am_Rn.call (t := am_t132) rfl rfl (mm_isOver ..) ?_
      rintro _ _ ⟨rfl, rfl⟩
      refine am_Rn.go (t := am_t132) rfl 1 rfl ⟨trivial, trivial⟩ ?_
      refine am_Rn.brB (fun h3 => ?_) (fun h3 => ?_)
      · skip
        refine am_Rn.go (t := am_t132) rfl 2 rfl ⟨trivial, trivial, trivial⟩ ?_
        refine am_Rn.ret (t := am_t132) rfl rfl trivial ?_
        refine ⟨congrArg (fun z => some (Value.int z)) ?_, rfl⟩
        show _ = (if N ≤ rn then (1 : Int32) else 0)
        first
          | exact (if_pos (by have z := (by assumption : Int32.ofNat rn = nu 0); rw [h0] at z; have := (am_eqi (by omega) (by omega)).mp z; omega)).symm
          | exact (if_neg (fun hov => (by assumption : ¬ Int32.ofNat rn = nu 0) (by rw [h0]; congr 1; omega))).symm
      · skip
        refine am_Rn.go (t := am_t132) rfl 2 rfl ⟨trivial, trivial, trivial⟩ ?_
        refine am_Rn.ret (t := am_t132) rfl rfl trivial ?_
        refine ⟨congrArg (fun z => some (Value.int z)) ?_, rfl⟩
        show _ = (if N ≤ rn then (1 : Int32) else 0)
        first
          | exact (if_pos (by have z := (by assumption : Int32.ofNat rn = nu 0); rw [h0] at z; have := (am_eqi (by omega) (by omega)).mp z; omega)).symm
          | exact (if_neg (fun hov => (by assumption : ¬ Int32.ofNat rn = nu 0) (by rw [h0]; congr 1; omega))).symm
  · rw [an_now_no hw]
    refine am_Rn.go (t := am_t132) rfl 6 rfl ⟨trivial, trivial, trivial, trivial, trivial, trivial, trivial⟩ ?_
    refine am_Rn.call (t := am_t132) rfl rfl (sx_in ..) ?_
    rintro _ _ ⟨rfl, rfl⟩
    refine am_Rn.go (t := am_t132) rfl 1 rfl ⟨trivial, trivial⟩ ?_
    refine am_Rn.brT (am_b0.mpr hw) ?_
    refine am_Rn.go (t := am_t132) rfl 2 rfl ⟨trivial, trivial, trivial⟩ ?_
    refine am_Rn.ret (t := am_t132) rfl rfl trivial ?_
    exact ⟨rfl, rfl⟩
theorem mm_board (sc : am_Sc) (rn : Nat) (hr : rn ≤ 20) (w : Int32) (tr : Int64) (ty nx tk pl va fa dp cm : Int32) (tx nu dn la me tc ts ps : Nat → Int32) (P : Nat) (pr pv sa pd lo : Int32) (bo co sh se si er of_ sp ke ik bi bt so nr ou ho cl : Nat → Int32) (B0 B1 B2 B3 B4 B5 B6 B7 B8 B9 B10 B11 B12 : List am_E) (Bs : am_M) : am_Rn sc 133 (0, am_entry 133 [.ref 416, .int w], [], B0 :: B1 :: B2 :: B3 :: B4 :: B5 :: B6 :: B7 :: B8 :: B9 :: B10 :: B11 :: B12 :: bkModel tr ty nx tk pl va fa (Int32.ofNat P) dp cm tx (mp_ru nu dn) (mp_ps (mp_q la me tc ts) ps) (mp_s (Int32.ofNat rn) pr pv sa pd lo bo co sh se si er of_) sp ke ik bi bt so nr ou ho cl :: Bs) (fun r M' => r = some (.int (an_board rn bo w)) ∧ M' = B0 :: B1 :: B2 :: B3 :: B4 :: B5 :: B6 :: B7 :: B8 :: B9 :: B10 :: B11 :: B12 :: bkModel tr ty nx tk pl va fa (Int32.ofNat P) dp cm tx (mp_ru nu dn) (mp_ps (mp_q la me tc ts) ps) (mp_s (Int32.ofNat rn) pr pv sa pd lo bo co sh se si er of_) sp ke ik bi bt so nr ou ho cl :: Bs) := by
  show am_Rn sc 133 (0, [some (.ref 416), some (.int w)], [], _) _
  refine am_Rn.go (t := am_t133) rfl 11 rfl ⟨trivial, trivial, trivial, trivial, trivial, trivial, trivial, trivial, (by first | exact am_inb_lit rfl | exact am_inb_of (by omega) (by omega)), trivial, trivial, trivial⟩ ?_
  refine am_Rn.call (t := am_t133) rfl rfl (sx_in ..) ?_
  rintro _ _ ⟨rfl, rfl⟩
  refine am_Rn.go (t := am_t133) rfl 1 rfl ⟨trivial, trivial⟩ ?_
  refine am_Rn.brB (fun h1 => ?_) (fun h1 => ?_)
  · skip
    have k1 : ¬ (0 ≤ w ∧ w ≤ Int32.ofNat rn - 1) := h1
    refine am_Rn.go (t := am_t133) rfl 1 rfl ⟨trivial, trivial⟩ ?_
    refine am_Rn.ret (t := am_t133) rfl rfl trivial ?_
    refine ⟨congrArg (fun z => some (Value.int z)) ?_, rfl⟩
    unfold an_board
    first
      | exact (if_neg k1).symm
      | (rw [if_pos k1, am_tn m (by omega)]; exact mp_boardN _ _ _ _ _ _ _ _ _ _ _ _ _ (by omega))
  · skip
    have k1 : 0 ≤ w ∧ w ≤ Int32.ofNat rn - 1 := h1
    obtain ⟨m, hm, rfl⟩ : ∃ m, m < 20 ∧ w = Int32.ofNat m := by
      rcases rn with _ | rn
      · exact absurd (Int32.le_trans k1.1 k1.2) (by decide)
      · rw [show Int32.ofNat (rn + 1) - 1 = Int32.ofNat rn from dec_ofNat rn] at k1
        obtain ⟨m, hm, rfl⟩ := am_rng (by omega) k1
        exact ⟨m, by omega, rfl⟩
    refine am_Rn.go (t := am_t133) rfl 7 rfl ⟨trivial, trivial, trivial, trivial, trivial, (by exact am_inb6N (by omega)), trivial, trivial⟩ ?_
    refine am_Rn.ret (t := am_t133) rfl rfl trivial ?_
    refine ⟨congrArg (fun z => some (Value.int z)) ?_, rfl⟩
    unfold an_board
    first
      | exact (if_neg k1).symm
      | (rw [if_pos k1, am_tn m (by omega)]; exact mp_boardN _ _ _ _ _ _ _ _ _ _ _ _ _ (by omega))
theorem mm_high (sc : am_Sc) (rn : Nat) (hr : rn ≤ 20) (w : Int32) (tr : Int64) (ty nx tk pl va fa dp cm : Int32) (tx nu dn la me tc ts ps : Nat → Int32) (P : Nat) (pr pv sa pd lo : Int32) (bo co sh se si er of_ sp ke ik bi bt so nr ou ho cl : Nat → Int32) (B0 B1 B2 B3 B4 B5 B6 B7 B8 B9 B10 B11 B12 : List am_E) (Bs : am_M) : am_Rn sc 137 (0, am_entry 137 [.ref 416, .int w], [], B0 :: B1 :: B2 :: B3 :: B4 :: B5 :: B6 :: B7 :: B8 :: B9 :: B10 :: B11 :: B12 :: bkModel tr ty nx tk pl va fa (Int32.ofNat P) dp cm tx (mp_ru nu dn) (mp_ps (mp_q la me tc ts) ps) (mp_s (Int32.ofNat rn) pr pv sa pd lo bo co sh se si er of_) sp ke ik bi bt so nr ou ho cl :: Bs) (fun r M' => r = some (.int (an_high nu bo rn w)) ∧ M' = B0 :: B1 :: B2 :: B3 :: B4 :: B5 :: B6 :: B7 :: B8 :: B9 :: B10 :: B11 :: B12 :: bkModel tr ty nx tk pl va fa (Int32.ofNat P) dp cm tx (mp_ru nu dn) (mp_ps (mp_q la me tc ts) ps) (mp_s (Int32.ofNat rn) pr pv sa pd lo bo co sh se si er of_) sp ke ik bi bt so nr ou ho cl :: Bs) := by
  show am_Rn sc 137 (0, [some (.ref 416), some (.int w)], [], _) _
  refine am_Rn.go (t := am_t137) rfl 5 rfl ⟨trivial, trivial, trivial, trivial, trivial, trivial⟩ ?_
  refine am_Rn.br (fun h1 => ?_) (fun h1 => ?_)
  · skip
    refine am_Rn.go (t := am_t137) rfl 2 rfl ⟨trivial, trivial, trivial⟩ ?_
    refine am_Rn.call (t := am_t137) rfl rfl (mm_peak0 sc rn hr ..) ?_
    rintro _ _ ⟨rfl, rfl⟩
    refine am_Rn.go (t := am_t137) rfl 1 rfl ⟨trivial, trivial⟩ ?_
    refine am_Rn.ret (t := am_t137) rfl rfl trivial ?_
    refine ⟨congrArg (fun z => some (Value.int z)) ?_, rfl⟩
    simp [an_high, *]
  · skip
    refine am_Rn.go (t := am_t137) rfl 3 rfl ⟨trivial, trivial, trivial, trivial⟩ ?_
    refine am_Rn.br (fun h2 => ?_) (fun h2 => ?_)
    · skip
      refine am_Rn.go (t := am_t137) rfl 2 rfl ⟨trivial, trivial, trivial⟩ ?_
      refine am_Rn.call (t := am_t137) rfl rfl (mm_peak1 sc rn hr ..) ?_
      rintro _ _ ⟨rfl, rfl⟩
      refine am_Rn.go (t := am_t137) rfl 1 rfl ⟨trivial, trivial⟩ ?_
      refine am_Rn.ret (t := am_t137) rfl rfl trivial ?_
      refine ⟨congrArg (fun z => some (Value.int z)) ?_, rfl⟩
      simp [an_high, *]
    · skip
      refine am_Rn.go (t := am_t137) rfl 3 rfl ⟨trivial, trivial, trivial, trivial⟩ ?_
      refine am_Rn.br (fun h3 => ?_) (fun h3 => ?_)
      · skip
        refine am_Rn.go (t := am_t137) rfl 1 rfl ⟨trivial, trivial⟩ ?_
        refine am_Rn.call (t := am_t137) rfl rfl (mm_falls sc rn hr ..) ?_
        rintro _ _ ⟨rfl, rfl⟩
        refine am_Rn.go (t := am_t137) rfl 1 rfl ⟨trivial, trivial⟩ ?_
        refine am_Rn.ret (t := am_t137) rfl rfl trivial ?_
        refine ⟨congrArg (fun z => some (Value.int z)) ?_, rfl⟩
        simp [an_high, *]
      · skip
        refine am_Rn.go (t := am_t137) rfl 3 rfl ⟨trivial, trivial, trivial, trivial⟩ ?_
        refine am_Rn.br (fun h4 => ?_) (fun h4 => ?_)
        · skip
          refine am_Rn.go (t := am_t137) rfl 1 rfl ⟨trivial, trivial⟩ ?_
          refine am_Rn.call (t := am_t137) rfl rfl (mm_bubble sc rn hr ..) ?_
          rintro _ _ ⟨rfl, rfl⟩
          refine am_Rn.go (t := am_t137) rfl 1 rfl ⟨trivial, trivial⟩ ?_
          refine am_Rn.ret (t := am_t137) rfl rfl trivial ?_
          refine ⟨congrArg (fun z => some (Value.int z)) ?_, rfl⟩
          simp [an_high, *]
        · skip
          refine am_Rn.go (t := am_t137) rfl 1 rfl ⟨trivial, trivial⟩ ?_
          refine am_Rn.ret (t := am_t137) rfl rfl trivial ?_
          refine ⟨congrArg (fun z => some (Value.int z)) ?_, rfl⟩
          simp [an_high, *]
theorem mm_gain_F (sc : am_Sc) (P : Nat) (hP : P ≤ 9) (p : Int32) (hp : ¬ (0 ≤ p ∧ p ≤ Int32.ofNat P - 1)) (tr : Int64) (ty nx tk pl va fa dp cm : Int32) (tx nu dn la me tc ts ps : Nat → Int32) (rd pr pv sa pd lo : Int32) (bo co sh se si er of_ sp ke ik bi bt so nr ou ho cl : Nat → Int32) (B0 B1 B2 B3 B4 B5 B6 B7 B8 B9 B10 B11 B12 : List am_E) (Bs : am_M) : am_Rn sc 138 (0, am_entry 138 [.ref 416, .int p], [], B0 :: B1 :: B2 :: B3 :: B4 :: B5 :: B6 :: B7 :: B8 :: B9 :: B10 :: B11 :: B12 :: bkModel tr ty nx tk pl va fa (Int32.ofNat P) dp cm tx (mp_ru nu dn) (mp_ps (mp_q la me tc ts) ps) (mp_s rd pr pv sa pd lo bo co sh se si er of_) sp ke ik bi bt so nr ou ho cl :: Bs) (fun r M' => r = some (.int (-1000000)) ∧ M' = B0 :: B1 :: B2 :: B3 :: B4 :: B5 :: B6 :: B7 :: B8 :: B9 :: B10 :: B11 :: B12 :: bkModel tr ty nx tk pl va fa (Int32.ofNat P) dp cm tx (mp_ru nu dn) (mp_ps (mp_q la me tc ts) ps) (mp_s rd pr pv sa pd lo bo co sh se si er of_) sp ke ik bi bt so nr ou ho cl :: Bs) := by
  show am_Rn sc 138 (0, [some (.ref 416), some (.int p)], [], _) _
  refine am_Rn.go (t := am_t138) rfl 5 rfl ⟨trivial, trivial, trivial, trivial, trivial, trivial⟩ ?_
  refine am_Rn.call (t := am_t138) rfl rfl (mm_isPerson ..) ?_
  rintro _ _ ⟨rfl, rfl⟩
  refine am_Rn.go (t := am_t138) rfl 1 rfl ⟨trivial, trivial⟩ ?_
  refine am_Rn.brT (am_b0.mpr hp) ?_
  refine am_Rn.go (t := am_t138) rfl 1 rfl ⟨trivial, trivial⟩ ?_
  refine am_Rn.ret (t := am_t138) rfl rfl trivial ?_
  exact ⟨rfl, rfl⟩
theorem mm_gain_N (sc : am_Sc) (P : Nat) (hP : P ≤ 9) (q : Nat) (hq : q < P) (N rn : Nat) (nu : Nat → Int32) (h0 : nu 0 = Int32.ofNat N) (hN : N ≤ 20) (hr : rn ≤ N) (hov : ¬ N ≤ rn) (tr : Int64) (ty nx tk pl va fa dp cm : Int32) (tx dn la me tc ts ps : Nat → Int32) (pr pv sa pd lo : Int32) (bo co sh se si er of_ sp ke ik bi bt so nr ou ho cl : Nat → Int32) (B0 B1 B2 B3 B4 B5 B6 B7 B8 B9 B10 B11 B12 : List am_E) (Bs : am_M) : am_Rn sc 138 (0, am_entry 138 [.ref 416, .int (Int32.ofNat q)], [], B0 :: B1 :: B2 :: B3 :: B4 :: B5 :: B6 :: B7 :: B8 :: B9 :: B10 :: B11 :: B12 :: bkModel tr ty nx tk pl va fa (Int32.ofNat P) dp cm tx (mp_ru nu dn) (mp_ps (mp_q la me tc ts) ps) (mp_s (Int32.ofNat rn) pr pv sa pd lo bo co sh se si er of_) sp ke ik bi bt so nr ou ho cl :: Bs) (fun r M' => r = some (.int (-1000000)) ∧ M' = B0 :: B1 :: B2 :: B3 :: B4 :: B5 :: B6 :: B7 :: B8 :: B9 :: B10 :: B11 :: B12 :: bkModel tr ty nx tk pl va fa (Int32.ofNat P) dp cm tx (mp_ru nu dn) (mp_ps (mp_q la me tc ts) ps) (mp_s (Int32.ofNat rn) pr pv sa pd lo bo co sh se si er of_) sp ke ik bi bt so nr ou ho cl :: Bs) := by
  show am_Rn sc 138 (0, [some (.ref 416), some (.int (Int32.ofNat q))], [], _) _
  refine am_Rn.go (t := am_t138) rfl 5 rfl ⟨trivial, trivial, trivial, trivial, trivial, trivial⟩ ?_
  refine am_Rn.call (t := am_t138) rfl rfl (mm_isPerson ..) ?_
  rintro _ _ ⟨rfl, rfl⟩
  refine am_Rn.go (t := am_t138) rfl 1 rfl ⟨trivial, trivial⟩ ?_
  refine am_Rn.brF (fun z => am_b0.mp z (am_pers2 hP hq)) ?_
  refine am_Rn.go (t := am_t138) rfl 1 rfl ⟨trivial, trivial⟩ ?_
  refine am_Rn.call (t := am_t138) rfl rfl (mm_isOver ..) ?_
  rintro _ _ ⟨rfl, rfl⟩
  refine am_Rn.go (t := am_t138) rfl 1 rfl ⟨trivial, trivial⟩ ?_
  refine am_Rn.brT (am_b0.mpr (fun z => hov (by rw [h0] at z; have := (am_eqi (by omega) (by omega)).mp z; omega))) ?_
  refine am_Rn.go (t := am_t138) rfl 1 rfl ⟨trivial, trivial⟩ ?_
  refine am_Rn.ret (t := am_t138) rfl rfl trivial ?_
  exact ⟨rfl, rfl⟩
theorem mm_gain_T (sc : am_Sc) (P : Nat) (hP : P ≤ 9) (q : Nat) (hq : q < P) (N rn : Nat) (nu : Nat → Int32) (h0 : nu 0 = Int32.ofNat N) (hN : N ≤ 20) (hr : rn ≤ N) (hov : N ≤ rn) (tr : Int64) (ty nx tk pl va fa dp cm : Int32) (tx dn la me tc ts ps : Nat → Int32) (pr pv sa pd lo : Int32) (bo co sh se si er of_ sp ke ik bi bt so nr ou ho cl : Nat → Int32) (B0 B1 B2 B3 B4 B5 B6 B7 B8 B9 B10 B11 B12 : List am_E) (Bs : am_M) : am_Rn sc 138 (0, am_entry 138 [.ref 416, .int (Int32.ofNat q)], [], B0 :: B1 :: B2 :: B3 :: B4 :: B5 :: B6 :: B7 :: B8 :: B9 :: B10 :: B11 :: B12 :: bkModel tr ty nx tk pl va fa (Int32.ofNat P) dp cm tx (mp_ru nu dn) (mp_ps (mp_q la me tc ts) ps) (mp_s (Int32.ofNat rn) pr pv sa pd lo bo co sh se si er of_) sp ke ik bi bt so nr ou ho cl :: Bs) (fun r M' => r = some (.int (co q - tc q - ts q * pd)) ∧ M' = B0 :: B1 :: B2 :: B3 :: B4 :: B5 :: B6 :: B7 :: B8 :: B9 :: B10 :: B11 :: B12 :: bkModel tr ty nx tk pl va fa (Int32.ofNat P) dp cm tx (mp_ru nu dn) (mp_ps (mp_q la me tc ts) ps) (mp_s (Int32.ofNat rn) pr pv sa pd lo bo co sh se si er of_) sp ke ik bi bt so nr ou ho cl :: Bs) := by
  show am_Rn sc 138 (0, [some (.ref 416), some (.int (Int32.ofNat q))], [], _) _
  have e2 : mp_ps (mp_q la me tc ts) ps (4 * Int32.ofNat q + 2).toNatClampNeg = tc q := by
    show mp_ps (mp_q la me tc ts) ps (4 * Int32.ofNat q + Int32.ofNat 2).toNatClampNeg = _
    rw [am_tn4 (by omega) (by omega), mp_pers _ _ _ _ _ (by omega) (by omega)]
    rfl
  have e3 : mp_ps (mp_q la me tc ts) ps (4 * Int32.ofNat q + 3).toNatClampNeg = ts q := by
    show mp_ps (mp_q la me tc ts) ps (4 * Int32.ofNat q + Int32.ofNat 3).toNatClampNeg = _
    rw [am_tn4 (by omega) (by omega), mp_pers _ _ _ _ _ (by omega) (by omega)]
    rfl
  refine am_Rn.go (t := am_t138) rfl 5 rfl ⟨trivial, trivial, trivial, trivial, trivial, trivial⟩ ?_
  refine am_Rn.call (t := am_t138) rfl rfl (mm_isPerson ..) ?_
  rintro _ _ ⟨rfl, rfl⟩
  refine am_Rn.go (t := am_t138) rfl 1 rfl ⟨trivial, trivial⟩ ?_
  refine am_Rn.brF (fun z => am_b0.mp z (am_pers2 hP hq)) ?_
  refine am_Rn.go (t := am_t138) rfl 1 rfl ⟨trivial, trivial⟩ ?_
  refine am_Rn.call (t := am_t138) rfl rfl (mm_isOver ..) ?_
  rintro _ _ ⟨rfl, rfl⟩
  refine am_Rn.go (t := am_t138) rfl 1 rfl ⟨trivial, trivial⟩ ?_
  refine am_Rn.brF (fun z => am_b0.mp z (by rw [h0]; congr 1; omega)) ?_
  refine am_Rn.go (t := am_t138) rfl 3 rfl ⟨trivial, trivial, trivial, trivial⟩ ?_
  refine am_Rn.call (t := am_t138) rfl rfl (mm_of0 sc q (by omega) ..) ?_
  rintro _ _ ⟨rfl, rfl⟩
  refine am_Rn.go (t := am_t138) rfl 24 rfl ⟨trivial, trivial, trivial, trivial, trivial, trivial, trivial, (by exact am_inb4 (k := 2) (by omega) (by omega)), trivial, trivial, trivial, trivial, trivial, trivial, trivial, trivial, (by exact am_inb4 (k := 3) (by omega) (by omega)), trivial, trivial, trivial, (by first | exact am_inb_lit rfl | exact am_inb_of (by omega) (by omega)), trivial, trivial, trivial, trivial⟩ ?_
  refine am_Rn.ret (t := am_t138) rfl rfl trivial ?_
  refine ⟨congrArg (fun z => some (Value.int z)) ?_, rfl⟩
  rw [e2, e3]
  rfl
theorem mm_said_F (sc : am_Sc) (P : Nat) (hP : P ≤ 9) (p w : Int32) (hp : ¬ (0 ≤ p ∧ p ≤ Int32.ofNat P - 1)) (tr : Int64) (ty nx tk pl va fa dp cm : Int32) (tx nu dn la me tc ts ps : Nat → Int32) (rd pr pv sa pd lo : Int32) (bo co sh se si er of_ sp ke ik bi bt so nr ou ho cl : Nat → Int32) (B0 B1 B2 B3 B4 B5 B6 B7 B8 B9 B10 B11 B12 : List am_E) (Bs : am_M) : am_Rn sc 157 (0, am_entry 157 [.ref 416, .int p, .int w], [], B0 :: B1 :: B2 :: B3 :: B4 :: B5 :: B6 :: B7 :: B8 :: B9 :: B10 :: B11 :: B12 :: bkModel tr ty nx tk pl va fa (Int32.ofNat P) dp cm tx (mp_ru nu dn) (mp_ps (mp_q la me tc ts) ps) (mp_s rd pr pv sa pd lo bo co sh se si er of_) sp ke ik bi bt so nr ou ho cl :: Bs) (fun r M' => r = some (.int (-1)) ∧ M' = B0 :: B1 :: B2 :: B3 :: B4 :: B5 :: B6 :: B7 :: B8 :: B9 :: B10 :: B11 :: B12 :: bkModel tr ty nx tk pl va fa (Int32.ofNat P) dp cm tx (mp_ru nu dn) (mp_ps (mp_q la me tc ts) ps) (mp_s rd pr pv sa pd lo bo co sh se si er of_) sp ke ik bi bt so nr ou ho cl :: Bs) := by
  show am_Rn sc 157 (0, [some (.ref 416), some (.int p), some (.int w)], [], _) _
  refine am_Rn.go (t := am_t157) rfl 5 rfl ⟨trivial, trivial, trivial, trivial, trivial, trivial⟩ ?_
  refine am_Rn.call (t := am_t157) rfl rfl (mm_isPerson ..) ?_
  rintro _ _ ⟨rfl, rfl⟩
  refine am_Rn.go (t := am_t157) rfl 1 rfl ⟨trivial, trivial⟩ ?_
  refine am_Rn.brT (am_b0.mpr hp) ?_
  refine am_Rn.go (t := am_t157) rfl 1 rfl ⟨trivial, trivial⟩ ?_
  refine am_Rn.ret (t := am_t157) rfl rfl trivial ?_
  exact ⟨rfl, rfl⟩
theorem mm_said_T (sc : am_Sc) (P : Nat) (hP : P ≤ 9) (q : Nat) (hq : q < P) (w : Int32) (tr : Int64) (ty nx tk pl va fa dp cm : Int32) (tx nu dn la me tc ts ps : Nat → Int32) (rd pr pv sa pd lo : Int32) (bo co sh se si er of_ sp ke ik bi bt so nr ou ho cl : Nat → Int32) (B0 B1 B2 B3 B4 B5 B6 B7 B8 B9 B10 B11 B12 : List am_E) (Bs : am_M) : am_Rn sc 157 (0, am_entry 157 [.ref 416, .int (Int32.ofNat q), .int w], [], B0 :: B1 :: B2 :: B3 :: B4 :: B5 :: B6 :: B7 :: B8 :: B9 :: B10 :: B11 :: B12 :: bkModel tr ty nx tk pl va fa (Int32.ofNat P) dp cm tx (mp_ru nu dn) (mp_ps (mp_q la me tc ts) ps) (mp_s rd pr pv sa pd lo bo co sh se si er of_) sp ke ik bi bt so nr ou ho cl :: Bs) (fun r M' => r = some (.int (an_said er of_ q w)) ∧ M' = B0 :: B1 :: B2 :: B3 :: B4 :: B5 :: B6 :: B7 :: B8 :: B9 :: B10 :: B11 :: B12 :: bkModel tr ty nx tk pl va fa (Int32.ofNat P) dp cm tx (mp_ru nu dn) (mp_ps (mp_q la me tc ts) ps) (mp_s rd pr pv sa pd lo bo co sh se si er of_) sp ke ik bi bt so nr ou ho cl :: Bs) := by
  show am_Rn sc 157 (0, [some (.ref 416), some (.int (Int32.ofNat q)), some (.int w)], [], _) _
  rcases Classical.em (0 ≤ w ∧ w ≤ Int32.ofNat 1) with hw | hw
  · obtain ⟨m, hm, rfl⟩ := am_rng (by omega) hw
    rcases (show m = 0 ∨ m = 1 by omega) with rfl | rfl
    · skip
      refine am_Rn.go (t := am_t157) rfl 5 rfl ⟨trivial, trivial, trivial, trivial, trivial, trivial⟩ ?_
      refine am_Rn.call (t := am_t157) rfl rfl (mm_isPerson ..) ?_
      rintro _ _ ⟨rfl, rfl⟩
      refine am_Rn.go (t := am_t157) rfl 1 rfl ⟨trivial, trivial⟩ ?_
      refine am_Rn.brF (fun z => am_b0.mp z (am_pers2 hP hq)) ?_
      refine am_Rn.go (t := am_t157) rfl 3 rfl ⟨trivial, trivial, trivial, trivial⟩ ?_
      refine am_Rn.call (t := am_t157) rfl rfl (sx_in ..) ?_
      rintro _ _ ⟨rfl, rfl⟩
      refine am_Rn.go (t := am_t157) rfl 1 rfl ⟨trivial, trivial⟩ ?_
      refine am_Rn.brF (fun z => am_b0.mp z hw) ?_
      refine am_Rn.go (t := am_t157) rfl 5 rfl ⟨trivial, trivial, trivial, trivial, trivial, trivial⟩ ?_
      show am_Rn sc 157 (17, _, [.int 4, .int (Int32.ofNat q), .ref 416], _) _
      refine am_Rn.call (t := am_t157) rfl rfl (mm_of4 sc q (by omega) ..) ?_
      rintro _ _ ⟨rfl, rfl⟩
      refine am_Rn.go (t := am_t157) rfl 1 rfl ⟨trivial, trivial⟩ ?_
      refine am_Rn.ret (t := am_t157) rfl rfl trivial ?_
      exact ⟨rfl, rfl⟩
    · skip
      refine am_Rn.go (t := am_t157) rfl 5 rfl ⟨trivial, trivial, trivial, trivial, trivial, trivial⟩ ?_
      refine am_Rn.call (t := am_t157) rfl rfl (mm_isPerson ..) ?_
      rintro _ _ ⟨rfl, rfl⟩
      refine am_Rn.go (t := am_t157) rfl 1 rfl ⟨trivial, trivial⟩ ?_
      refine am_Rn.brF (fun z => am_b0.mp z (am_pers2 hP hq)) ?_
      refine am_Rn.go (t := am_t157) rfl 3 rfl ⟨trivial, trivial, trivial, trivial⟩ ?_
      refine am_Rn.call (t := am_t157) rfl rfl (sx_in ..) ?_
      rintro _ _ ⟨rfl, rfl⟩
      refine am_Rn.go (t := am_t157) rfl 1 rfl ⟨trivial, trivial⟩ ?_
      refine am_Rn.brF (fun z => am_b0.mp z hw) ?_
      refine am_Rn.go (t := am_t157) rfl 5 rfl ⟨trivial, trivial, trivial, trivial, trivial, trivial⟩ ?_
      show am_Rn sc 157 (17, _, [.int 5, .int (Int32.ofNat q), .ref 416], _) _
      refine am_Rn.call (t := am_t157) rfl rfl (mm_of5 sc q (by omega) ..) ?_
      rintro _ _ ⟨rfl, rfl⟩
      refine am_Rn.go (t := am_t157) rfl 1 rfl ⟨trivial, trivial⟩ ?_
      refine am_Rn.ret (t := am_t157) rfl rfl trivial ?_
      exact ⟨rfl, rfl⟩
  · rw [show an_said er of_ q w = -1 from if_neg hw]
    refine am_Rn.go (t := am_t157) rfl 5 rfl ⟨trivial, trivial, trivial, trivial, trivial, trivial⟩ ?_
    refine am_Rn.call (t := am_t157) rfl rfl (mm_isPerson ..) ?_
    rintro _ _ ⟨rfl, rfl⟩
    refine am_Rn.go (t := am_t157) rfl 1 rfl ⟨trivial, trivial⟩ ?_
    refine am_Rn.brF (fun z => am_b0.mp z (am_pers2 hP hq)) ?_
    refine am_Rn.go (t := am_t157) rfl 3 rfl ⟨trivial, trivial, trivial, trivial⟩ ?_
    refine am_Rn.call (t := am_t157) rfl rfl (sx_in ..) ?_
    rintro _ _ ⟨rfl, rfl⟩
    refine am_Rn.go (t := am_t157) rfl 1 rfl ⟨trivial, trivial⟩ ?_
    refine am_Rn.brT (am_b0.mpr hw) ?_
    refine am_Rn.go (t := am_t157) rfl 1 rfl ⟨trivial, trivial⟩ ?_
    refine am_Rn.ret (t := am_t157) rfl rfl trivial ?_
    exact ⟨rfl, rfl⟩
theorem mm_trace (sc : am_Sc) (tr : Int64) (ty nx tk pl va fa dp cm : Int32) (tx nu dn la me tc ts ps : Nat → Int32) (P : Nat) (rd pr pv sa pd lo : Int32) (bo co sh se si er of_ sp ke ik bi bt so nr ou ho cl : Nat → Int32) (B0 B1 B2 B3 B4 B5 B6 B7 B8 B9 B10 B11 B12 : List am_E) (Bs : am_M) : am_Rn sc 163 (0, am_entry 163 [.ref 416], [], B0 :: B1 :: B2 :: B3 :: B4 :: B5 :: B6 :: B7 :: B8 :: B9 :: B10 :: B11 :: B12 :: bkModel tr ty nx tk pl va fa (Int32.ofNat P) dp cm tx (mp_ru nu dn) (mp_ps (mp_q la me tc ts) ps) (mp_s rd pr pv sa pd lo bo co sh se si er of_) sp ke ik bi bt so nr ou ho cl :: Bs) (fun r M' => r = some (.long tr) ∧ M' = B0 :: B1 :: B2 :: B3 :: B4 :: B5 :: B6 :: B7 :: B8 :: B9 :: B10 :: B11 :: B12 :: bkModel tr ty nx tk pl va fa (Int32.ofNat P) dp cm tx (mp_ru nu dn) (mp_ps (mp_q la me tc ts) ps) (mp_s rd pr pv sa pd lo bo co sh se si er of_) sp ke ik bi bt so nr ou ho cl :: Bs) := by
  show am_Rn sc 163 (0, [some (.ref 416)], [], _) _
  refine am_Rn.go (t := am_t163) rfl 5 rfl ⟨trivial, trivial, trivial, trivial, trivial, trivial⟩ ?_
  refine am_Rn.ret (t := am_t163) rfl rfl trivial ?_
  exact ⟨rfl, rfl⟩
theorem mm_lot (sc : am_Sc) (v : Int32) (tr : Int64) (ty nx tk pl va fa dp cm : Int32) (tx nu dn la me tc ts ps : Nat → Int32) (P : Nat) (rd pr pv sa pd lo : Int32) (bo co sh se si er of_ sp ke ik bi bt so nr ou ho cl : Nat → Int32) (B0 B1 B2 B3 B4 B5 B6 B7 B8 B9 B10 B11 B12 : List am_E) (Bs : am_M) : am_Rn sc 145 (0, am_entry 145 [.ref 416, .int v], [], B0 :: B1 :: B2 :: B3 :: B4 :: B5 :: B6 :: B7 :: B8 :: B9 :: B10 :: B11 :: B12 :: bkModel tr ty nx tk pl va fa (Int32.ofNat P) dp cm tx (mp_ru nu dn) (mp_ps (mp_q la me tc ts) ps) (mp_s rd pr pv sa pd lo bo co sh se si er of_) sp ke ik bi bt so nr ou ho cl :: Bs) (fun r M' => r = some (.int lo) ∧ M' = B0 :: B1 :: B2 :: B3 :: B4 :: B5 :: B6 :: B7 :: B8 :: B9 :: B10 :: B11 :: B12 :: bkModel tr ty nx tk pl va fa (Int32.ofNat P) dp cm tx (mp_ru nu dn) (mp_ps (mp_q la me tc ts) ps) (mp_s rd pr pv sa pd v bo co sh se si er of_) sp ke ik bi bt so nr ou ho cl :: Bs) := by
  show am_Rn sc 145 (0, [some (.ref 416), some (.int v), none], [], _) _
  refine am_Rn.go (t := am_t145) rfl 13 rfl ⟨trivial, trivial, trivial, trivial, trivial, trivial, (by first | exact am_inb_lit rfl | exact am_inb_of (by omega) (by omega)), trivial, trivial, trivial, trivial, trivial, (by first | exact am_inb_lit rfl | exact am_inb_of (by omega) (by omega)), trivial⟩ ?_
  show am_Rn sc 145 (13, _, _, B0 :: B1 :: B2 :: B3 :: B4 :: B5 :: B6 :: B7 :: B8 :: B9 :: B10 :: B11 :: B12 :: bkModel tr ty nx tk pl va fa (Int32.ofNat P) dp cm tx (mp_ru nu dn) (mp_ps (mp_q la me tc ts) ps) (upd (mp_s rd pr pv sa pd lo bo co sh se si er of_) 5 v) sp ke ik bi bt so nr ou ho cl :: Bs) _
  rw [mp_set5]
  refine am_Rn.go (t := am_t145) rfl 1 rfl ⟨trivial, trivial⟩ ?_
  refine am_Rn.ret (t := am_t145) rfl rfl trivial ?_
  exact ⟨rfl, rfl⟩
theorem mm_renew_F (sc : am_Sc) (P : Nat) (hP : P ≤ 9) (p : Int32) (hp : ¬ (0 ≤ p ∧ p ≤ Int32.ofNat P - 1)) (tr : Int64) (ty nx tk pl va fa dp cm : Int32) (tx nu dn la me tc ts ps : Nat → Int32) (rd pr pv sa pd lo : Int32) (bo co sh se si er of_ sp ke ik bi bt so nr ou ho cl : Nat → Int32) (B0 B1 B2 B3 B4 B5 B6 B7 B8 B9 B10 B11 B12 : List am_E) (Bs : am_M) : am_Rn sc 140 (0, am_entry 140 [.ref 416, .int p], [], B0 :: B1 :: B2 :: B3 :: B4 :: B5 :: B6 :: B7 :: B8 :: B9 :: B10 :: B11 :: B12 :: bkModel tr ty nx tk pl va fa (Int32.ofNat P) dp cm tx (mp_ru nu dn) (mp_ps (mp_q la me tc ts) ps) (mp_s rd pr pv sa pd lo bo co sh se si er of_) sp ke ik bi bt so nr ou ho cl :: Bs) (fun r M' => r = some (.int (-1)) ∧ M' = B0 :: B1 :: B2 :: B3 :: B4 :: B5 :: B6 :: B7 :: B8 :: B9 :: B10 :: B11 :: B12 :: bkModel tr ty nx tk pl va fa (Int32.ofNat P) dp cm tx (mp_ru nu dn) (mp_ps (mp_q la me tc ts) ps) (mp_s rd pr pv sa pd lo bo co sh se si er of_) sp ke ik bi bt so nr ou ho cl :: Bs) := by
  show am_Rn sc 140 (0, [some (.ref 416), some (.int p), none], [], _) _
  refine am_Rn.go (t := am_t140) rfl 5 rfl ⟨trivial, trivial, trivial, trivial, trivial, trivial⟩ ?_
  refine am_Rn.call (t := am_t140) rfl rfl (mm_isPerson ..) ?_
  rintro _ _ ⟨rfl, rfl⟩
  refine am_Rn.go (t := am_t140) rfl 1 rfl ⟨trivial, trivial⟩ ?_
  refine am_Rn.brT (am_b0.mpr hp) ?_
  refine am_Rn.go (t := am_t140) rfl 1 rfl ⟨trivial, trivial⟩ ?_
  refine am_Rn.ret (t := am_t140) rfl rfl trivial ?_
  exact ⟨rfl, rfl⟩
theorem mm_renew_T (sc : am_Sc) (P : Nat) (hP : P ≤ 9) (q : Nat) (hq : q < P) (tr : Int64) (ty nx tk pl va fa dp cm : Int32) (tx nu dn la me tc ts ps : Nat → Int32) (rd pr pv sa pd lo : Int32) (bo co sh se si er of_ sp ke ik bi bt so nr ou ho cl : Nat → Int32) (B0 B1 B2 B3 B4 B5 B6 B7 B8 B9 B10 B11 B12 : List am_E) (Bs : am_M) : am_Rn sc 140 (0, am_entry 140 [.ref 416, .int (Int32.ofNat q)], [], B0 :: B1 :: B2 :: B3 :: B4 :: B5 :: B6 :: B7 :: B8 :: B9 :: B10 :: B11 :: B12 :: bkModel tr ty nx tk pl va fa (Int32.ofNat P) dp cm tx (mp_ru nu dn) (mp_ps (mp_q la me tc ts) ps) (mp_s rd pr pv sa pd lo bo co sh se si er of_) sp ke ik bi bt so nr ou ho cl :: Bs) (fun r M' => r = some (.int (se q)) ∧ M' = B0 :: B1 :: B2 :: B3 :: B4 :: B5 :: B6 :: B7 :: B8 :: B9 :: B10 :: B11 :: B12 :: bkModel tr ty nx tk pl va fa (Int32.ofNat P) dp cm tx (mp_ru nu dn) (mp_ps (mp_q la me tc ts) ps) (mp_s rd pr pv sa pd lo bo co sh (upd se q 0) si er of_) sp ke ik bi bt so nr ou ho cl :: Bs) := by
  show am_Rn sc 140 (0, [some (.ref 416), some (.int (Int32.ofNat q)), none], [], _) _
  refine am_Rn.go (t := am_t140) rfl 5 rfl ⟨trivial, trivial, trivial, trivial, trivial, trivial⟩ ?_
  refine am_Rn.call (t := am_t140) rfl rfl (mm_isPerson ..) ?_
  rintro _ _ ⟨rfl, rfl⟩
  refine am_Rn.go (t := am_t140) rfl 1 rfl ⟨trivial, trivial⟩ ?_
  refine am_Rn.brF (fun z => am_b0.mp z (am_pers2 hP hq)) ?_
  refine am_Rn.go (t := am_t140) rfl 3 rfl ⟨trivial, trivial, trivial, trivial⟩ ?_
  refine am_Rn.call (t := am_t140) rfl rfl (mm_of2 sc q (by omega) ..) ?_
  rintro _ _ ⟨rfl, rfl⟩
  refine am_Rn.go (t := am_t140) rfl 5 rfl ⟨trivial, trivial, trivial, trivial, trivial, trivial⟩ ?_
  refine am_Rn.call (t := am_t140) rfl rfl (mm_puts2 sc q (by omega) ..) ?_
  rintro _ _ ⟨rfl, rfl⟩
  refine am_Rn.go (t := am_t140) rfl 1 rfl ⟨trivial, trivial⟩ ?_
  refine am_Rn.ret (t := am_t140) rfl rfl trivial ?_
  exact ⟨rfl, rfl⟩
theorem mm_clear (sc : am_Sc) (tr : Int64) (ty nx tk pl va fa dp cm : Int32) (tx nu dn la me tc ts ps : Nat → Int32) (P : Nat) (rd pr pv sa pd lo : Int32) (bo co sh se si er of_ sp ke ik bi bt so nr ou ho cl : Nat → Int32) (B0 B1 B2 B3 B4 B5 B6 B7 B8 B9 B10 B11 B12 : List am_E) (Bs : am_M) : am_Rn sc 97 (0, am_entry 97 [.ref 416], [], B0 :: B1 :: B2 :: B3 :: B4 :: B5 :: B6 :: B7 :: B8 :: B9 :: B10 :: B11 :: B12 :: bkModel tr ty nx tk pl va fa (Int32.ofNat P) dp cm tx (mp_ru nu dn) (mp_ps (mp_q la me tc ts) ps) (mp_s rd pr pv sa pd lo bo co sh se si er of_) sp ke ik bi bt so nr ou ho cl :: Bs) (fun r M' => r = some (.int ty) ∧ M' = B0 :: B1 :: B2 :: B3 :: B4 :: B5 :: B6 :: B7 :: B8 :: B9 :: B10 :: B11 :: B12 :: bkModel tr 0 nx tk pl va fa (Int32.ofNat P) dp cm tx (mp_ru nu dn) (mp_ps (mp_q la me tc ts) ps) (mp_s rd pr pv sa pd lo bo co sh se si er of_) sp ke ik bi bt so nr ou ho cl :: Bs) := by
  show am_Rn sc 97 (0, [some (.ref 416), none], [], _) _
  refine am_Rn.go (t := am_t97) rfl 10 rfl ⟨trivial, trivial, trivial, trivial, trivial, trivial, trivial, trivial, trivial, trivial, trivial⟩ ?_
  refine am_Rn.ret (t := am_t97) rfl rfl trivial ?_
  exact ⟨rfl, rfl⟩
theorem mm_say_F (sc : am_Sc) (P : Nat) (hP : P ≤ 9) (p v : Int32) (hp : ¬ (0 ≤ p ∧ p ≤ Int32.ofNat P - 1)) (tr : Int64) (ty nx tk pl va fa dp cm : Int32) (tx nu dn la me tc ts ps : Nat → Int32) (rd pr pv sa pd lo : Int32) (bo co sh se si er of_ sp ke ik bi bt so nr ou ho cl : Nat → Int32) (B0 B1 B2 B3 B4 B5 B6 B7 B8 B9 B10 B11 B12 : List am_E) (Bs : am_M) : am_Rn sc 156 (0, am_entry 156 [.ref 416, .int p, .int v], [], B0 :: B1 :: B2 :: B3 :: B4 :: B5 :: B6 :: B7 :: B8 :: B9 :: B10 :: B11 :: B12 :: bkModel tr ty nx tk pl va fa (Int32.ofNat P) dp cm tx (mp_ru nu dn) (mp_ps (mp_q la me tc ts) ps) (mp_s rd pr pv sa pd lo bo co sh se si er of_) sp ke ik bi bt so nr ou ho cl :: Bs) (fun r M' => r = some (.int (-1)) ∧ M' = B0 :: B1 :: B2 :: B3 :: B4 :: B5 :: B6 :: B7 :: B8 :: B9 :: B10 :: B11 :: B12 :: bkModel tr ty nx tk pl va fa (Int32.ofNat P) dp cm tx (mp_ru nu dn) (mp_ps (mp_q la me tc ts) ps) (mp_s rd pr pv sa pd lo bo co sh se si er of_) sp ke ik bi bt so nr ou ho cl :: Bs) := by
  show am_Rn sc 156 (0, [some (.ref 416), some (.int p), some (.int v), none], [], _) _
  refine am_Rn.go (t := am_t156) rfl 5 rfl ⟨trivial, trivial, trivial, trivial, trivial, trivial⟩ ?_
  refine am_Rn.call (t := am_t156) rfl rfl (mm_isPerson ..) ?_
  rintro _ _ ⟨rfl, rfl⟩
  refine am_Rn.go (t := am_t156) rfl 1 rfl ⟨trivial, trivial⟩ ?_
  refine am_Rn.brT (am_b0.mpr hp) ?_
  refine am_Rn.go (t := am_t156) rfl 1 rfl ⟨trivial, trivial⟩ ?_
  refine am_Rn.ret (t := am_t156) rfl rfl trivial ?_
  exact ⟨rfl, rfl⟩
theorem mm_say_V (sc : am_Sc) (P : Nat) (hP : P ≤ 9) (q : Nat) (hq : q < P) (v : Int32) (hv : ¬ (0 ≤ v ∧ v ≤ 999)) (tr : Int64) (ty nx tk pl va fa dp cm : Int32) (tx nu dn la me tc ts ps : Nat → Int32) (rd pr pv sa pd lo : Int32) (bo co sh se si er of_ sp ke ik bi bt so nr ou ho cl : Nat → Int32) (B0 B1 B2 B3 B4 B5 B6 B7 B8 B9 B10 B11 B12 : List am_E) (Bs : am_M) : am_Rn sc 156 (0, am_entry 156 [.ref 416, .int (Int32.ofNat q), .int v], [], B0 :: B1 :: B2 :: B3 :: B4 :: B5 :: B6 :: B7 :: B8 :: B9 :: B10 :: B11 :: B12 :: bkModel tr ty nx tk pl va fa (Int32.ofNat P) dp cm tx (mp_ru nu dn) (mp_ps (mp_q la me tc ts) ps) (mp_s rd pr pv sa pd lo bo co sh se si er of_) sp ke ik bi bt so nr ou ho cl :: Bs) (fun r M' => r = some (.int (-1)) ∧ M' = B0 :: B1 :: B2 :: B3 :: B4 :: B5 :: B6 :: B7 :: B8 :: B9 :: B10 :: B11 :: B12 :: bkModel tr ty nx tk pl va fa (Int32.ofNat P) dp cm tx (mp_ru nu dn) (mp_ps (mp_q la me tc ts) ps) (mp_s rd pr pv sa pd lo bo co sh se si er of_) sp ke ik bi bt so nr ou ho cl :: Bs) := by
  show am_Rn sc 156 (0, [some (.ref 416), some (.int (Int32.ofNat q)), some (.int v), none], [], _) _
  refine am_Rn.go (t := am_t156) rfl 5 rfl ⟨trivial, trivial, trivial, trivial, trivial, trivial⟩ ?_
  refine am_Rn.call (t := am_t156) rfl rfl (mm_isPerson ..) ?_
  rintro _ _ ⟨rfl, rfl⟩
  refine am_Rn.go (t := am_t156) rfl 1 rfl ⟨trivial, trivial⟩ ?_
  refine am_Rn.brF (fun z => am_b0.mp z (am_pers2 hP hq)) ?_
  refine am_Rn.go (t := am_t156) rfl 3 rfl ⟨trivial, trivial, trivial, trivial⟩ ?_
  refine am_Rn.call (t := am_t156) rfl rfl (sx_in ..) ?_
  rintro _ _ ⟨rfl, rfl⟩
  refine am_Rn.go (t := am_t156) rfl 1 rfl ⟨trivial, trivial⟩ ?_
  refine am_Rn.brT (am_b0.mpr hv) ?_
  refine am_Rn.go (t := am_t156) rfl 1 rfl ⟨trivial, trivial⟩ ?_
  refine am_Rn.ret (t := am_t156) rfl rfl trivial ?_
  exact ⟨rfl, rfl⟩
theorem mm_say_S (sc : am_Sc) (P : Nat) (hP : P ≤ 9) (q : Nat) (hq : q < P) (v : Int32) (hv : 0 ≤ v ∧ v ≤ 999) (N rn : Nat) (nu : Nat → Int32) (h0 : nu 0 = Int32.ofNat N) (hN : N ≤ 20) (hr : rn ≤ N) (hov : N ≤ rn) (tr : Int64) (ty nx tk pl va fa dp cm : Int32) (tx dn la me tc ts ps : Nat → Int32) (pr pv sa pd lo : Int32) (bo co sh se si er of_ sp ke ik bi bt so nr ou ho cl : Nat → Int32) (B0 B1 B2 B3 B4 B5 B6 B7 B8 B9 B10 B11 B12 : List am_E) (Bs : am_M) : am_Rn sc 156 (0, am_entry 156 [.ref 416, .int (Int32.ofNat q), .int v], [], B0 :: B1 :: B2 :: B3 :: B4 :: B5 :: B6 :: B7 :: B8 :: B9 :: B10 :: B11 :: B12 :: bkModel tr ty nx tk pl va fa (Int32.ofNat P) dp cm tx (mp_ru nu dn) (mp_ps (mp_q la me tc ts) ps) (mp_s (Int32.ofNat rn) pr pv sa pd lo bo co sh se si er of_) sp ke ik bi bt so nr ou ho cl :: Bs) (fun r M' => r = some (.int (-2)) ∧ M' = B0 :: B1 :: B2 :: B3 :: B4 :: B5 :: B6 :: B7 :: B8 :: B9 :: B10 :: B11 :: B12 :: bkModel tr ty nx tk pl va fa (Int32.ofNat P) dp cm tx (mp_ru nu dn) (mp_ps (mp_q la me tc ts) ps) (mp_s (Int32.ofNat rn) pr pv sa pd lo bo co sh se si er of_) sp ke ik bi bt so nr ou ho cl :: Bs) := by
  show am_Rn sc 156 (0, [some (.ref 416), some (.int (Int32.ofNat q)), some (.int v), none], [], _) _
  refine am_Rn.go (t := am_t156) rfl 5 rfl ⟨trivial, trivial, trivial, trivial, trivial, trivial⟩ ?_
  refine am_Rn.call (t := am_t156) rfl rfl (mm_isPerson ..) ?_
  rintro _ _ ⟨rfl, rfl⟩
  refine am_Rn.go (t := am_t156) rfl 1 rfl ⟨trivial, trivial⟩ ?_
  refine am_Rn.brF (fun z => am_b0.mp z (am_pers2 hP hq)) ?_
  refine am_Rn.go (t := am_t156) rfl 3 rfl ⟨trivial, trivial, trivial, trivial⟩ ?_
  refine am_Rn.call (t := am_t156) rfl rfl (sx_in ..) ?_
  rintro _ _ ⟨rfl, rfl⟩
  refine am_Rn.go (t := am_t156) rfl 1 rfl ⟨trivial, trivial⟩ ?_
  refine am_Rn.brF (fun z => am_b0.mp z hv) ?_
  refine am_Rn.go (t := am_t156) rfl 1 rfl ⟨trivial, trivial⟩ ?_
  refine am_Rn.call (t := am_t156) rfl rfl (mm_isOver ..) ?_
  rintro _ _ ⟨rfl, rfl⟩
  refine am_Rn.go (t := am_t156) rfl 1 rfl ⟨trivial, trivial⟩ ?_
  refine am_Rn.brF (fun z => am_b0.mp z (by rw [h0]; congr 1; omega)) ?_
  refine am_Rn.go (t := am_t156) rfl 1 rfl ⟨trivial, trivial⟩ ?_
  refine am_Rn.ret (t := am_t156) rfl rfl trivial ?_
  exact ⟨rfl, rfl⟩
theorem mm_say_T (sc : am_Sc) (P : Nat) (hP : P ≤ 9) (q : Nat) (hq : q < P) (v : Int32) (hv : 0 ≤ v ∧ v ≤ 999) (N rn : Nat) (nu : Nat → Int32) (h0 : nu 0 = Int32.ofNat N) (hN : N ≤ 20) (hr : rn ≤ N) (hov : ¬ N ≤ rn) (tr : Int64) (ty nx tk pl va fa dp cm : Int32) (tx dn la me tc ts ps : Nat → Int32) (pr pv sa pd lo : Int32) (bo co sh se si er of_ sp ke ik bi bt so nr ou ho cl : Nat → Int32) (B0 B1 B2 B3 B4 B5 B6 B7 B8 B9 B10 B11 B12 : List am_E) (Bs : am_M) : am_Rn sc 156 (0, am_entry 156 [.ref 416, .int (Int32.ofNat q), .int v], [], B0 :: B1 :: B2 :: B3 :: B4 :: B5 :: B6 :: B7 :: B8 :: B9 :: B10 :: B11 :: B12 :: bkModel tr ty nx tk pl va fa (Int32.ofNat P) dp cm tx (mp_ru nu dn) (mp_ps (mp_q la me tc ts) ps) (mp_s (Int32.ofNat rn) pr pv sa pd lo bo co sh se si er of_) sp ke ik bi bt so nr ou ho cl :: Bs) (fun r M' => r = some (.int (si q)) ∧ M' = B0 :: B1 :: B2 :: B3 :: B4 :: B5 :: B6 :: B7 :: B8 :: B9 :: B10 :: B11 :: B12 :: bkModel tr ty nx tk pl va fa (Int32.ofNat P) dp cm tx (mp_ru nu dn) (mp_ps (mp_q la me tc ts) ps) (mp_s (Int32.ofNat rn) pr pv sa pd lo bo co sh se (upd si q v) er of_) sp ke ik bi bt so nr ou ho cl :: Bs) := by
  show am_Rn sc 156 (0, [some (.ref 416), some (.int (Int32.ofNat q)), some (.int v), none], [], _) _
  refine am_Rn.go (t := am_t156) rfl 5 rfl ⟨trivial, trivial, trivial, trivial, trivial, trivial⟩ ?_
  refine am_Rn.call (t := am_t156) rfl rfl (mm_isPerson ..) ?_
  rintro _ _ ⟨rfl, rfl⟩
  refine am_Rn.go (t := am_t156) rfl 1 rfl ⟨trivial, trivial⟩ ?_
  refine am_Rn.brF (fun z => am_b0.mp z (am_pers2 hP hq)) ?_
  refine am_Rn.go (t := am_t156) rfl 3 rfl ⟨trivial, trivial, trivial, trivial⟩ ?_
  refine am_Rn.call (t := am_t156) rfl rfl (sx_in ..) ?_
  rintro _ _ ⟨rfl, rfl⟩
  refine am_Rn.go (t := am_t156) rfl 1 rfl ⟨trivial, trivial⟩ ?_
  refine am_Rn.brF (fun z => am_b0.mp z hv) ?_
  refine am_Rn.go (t := am_t156) rfl 1 rfl ⟨trivial, trivial⟩ ?_
  refine am_Rn.call (t := am_t156) rfl rfl (mm_isOver ..) ?_
  rintro _ _ ⟨rfl, rfl⟩
  refine am_Rn.go (t := am_t156) rfl 1 rfl ⟨trivial, trivial⟩ ?_
  refine am_Rn.brT (am_b0.mpr (fun z => hov (by rw [h0] at z; have := (am_eqi (by omega) (by omega)).mp z; omega))) ?_
  refine am_Rn.go (t := am_t156) rfl 3 rfl ⟨trivial, trivial, trivial, trivial⟩ ?_
  refine am_Rn.call (t := am_t156) rfl rfl (mm_of3 sc q (by omega) ..) ?_
  rintro _ _ ⟨rfl, rfl⟩
  refine am_Rn.go (t := am_t156) rfl 5 rfl ⟨trivial, trivial, trivial, trivial, trivial, trivial⟩ ?_
  refine am_Rn.call (t := am_t156) rfl rfl (mm_puts3 sc q (by omega) ..) ?_
  rintro _ _ ⟨rfl, rfl⟩
  refine am_Rn.go (t := am_t156) rfl 1 rfl ⟨trivial, trivial⟩ ?_
  refine am_Rn.ret (t := am_t156) rfl rfl trivial ?_
  exact ⟨rfl, rfl⟩
theorem mm_go_F (sc : am_Sc) (v : Int32) (hv : ¬ (1 ≤ v ∧ v ≤ 20)) (tr : Int64) (ty nx tk pl va fa dp cm : Int32) (tx nu dn la me tc ts ps : Nat → Int32) (P : Nat) (rd pr pv sa pd lo : Int32) (bo co sh se si er of_ sp ke ik bi bt so nr ou ho cl : Nat → Int32) (B0 B1 B2 B3 B4 B5 B6 B7 B8 B9 B10 B11 B12 : List am_E) (Bs : am_M) : am_Rn sc 131 (0, am_entry 131 [.ref 416, .int v], [], B0 :: B1 :: B2 :: B3 :: B4 :: B5 :: B6 :: B7 :: B8 :: B9 :: B10 :: B11 :: B12 :: bkModel tr ty nx tk pl va fa (Int32.ofNat P) dp cm tx (mp_ru nu dn) (mp_ps (mp_q la me tc ts) ps) (mp_s rd pr pv sa pd lo bo co sh se si er of_) sp ke ik bi bt so nr ou ho cl :: Bs) (fun r M' => r = some (.int (-1)) ∧ M' = B0 :: B1 :: B2 :: B3 :: B4 :: B5 :: B6 :: B7 :: B8 :: B9 :: B10 :: B11 :: B12 :: bkModel tr ty nx tk pl va fa (Int32.ofNat P) dp cm tx (mp_ru nu dn) (mp_ps (mp_q la me tc ts) ps) (mp_s rd pr pv sa pd lo bo co sh se si er of_) sp ke ik bi bt so nr ou ho cl :: Bs) := by
  show am_Rn sc 131 (0, [some (.ref 416), some (.int v), none], [], _) _
  refine am_Rn.go (t := am_t131) rfl 6 rfl ⟨trivial, trivial, trivial, trivial, trivial, trivial, trivial⟩ ?_
  refine am_Rn.call (t := am_t131) rfl rfl (sx_in ..) ?_
  rintro _ _ ⟨rfl, rfl⟩
  refine am_Rn.go (t := am_t131) rfl 1 rfl ⟨trivial, trivial⟩ ?_
  refine am_Rn.brT (am_b0.mpr hv) ?_
  refine am_Rn.go (t := am_t131) rfl 1 rfl ⟨trivial, trivial⟩ ?_
  refine am_Rn.ret (t := am_t131) rfl rfl trivial ?_
  exact ⟨rfl, rfl⟩
theorem mm_go_S (sc : am_Sc) (v : Int32) (hv : 1 ≤ v ∧ v ≤ 20) (N rn : Nat) (nu : Nat → Int32) (h0 : nu 0 = Int32.ofNat N) (hN : N ≤ 20) (hr : rn ≤ N) (hov : N ≤ rn) (tr : Int64) (ty nx tk pl va fa dp cm : Int32) (tx dn la me tc ts ps : Nat → Int32) (P : Nat) (pr pv sa pd lo : Int32) (bo co sh se si er of_ sp ke ik bi bt so nr ou ho cl : Nat → Int32) (B0 B1 B2 B3 B4 B5 B6 B7 B8 B9 B10 B11 B12 : List am_E) (Bs : am_M) : am_Rn sc 131 (0, am_entry 131 [.ref 416, .int v], [], B0 :: B1 :: B2 :: B3 :: B4 :: B5 :: B6 :: B7 :: B8 :: B9 :: B10 :: B11 :: B12 :: bkModel tr ty nx tk pl va fa (Int32.ofNat P) dp cm tx (mp_ru nu dn) (mp_ps (mp_q la me tc ts) ps) (mp_s (Int32.ofNat rn) pr pv sa pd lo bo co sh se si er of_) sp ke ik bi bt so nr ou ho cl :: Bs) (fun r M' => r = some (.int (-2)) ∧ M' = B0 :: B1 :: B2 :: B3 :: B4 :: B5 :: B6 :: B7 :: B8 :: B9 :: B10 :: B11 :: B12 :: bkModel tr ty nx tk pl va fa (Int32.ofNat P) dp cm tx (mp_ru nu dn) (mp_ps (mp_q la me tc ts) ps) (mp_s (Int32.ofNat rn) pr pv sa pd lo bo co sh se si er of_) sp ke ik bi bt so nr ou ho cl :: Bs) := by
  show am_Rn sc 131 (0, [some (.ref 416), some (.int v), none], [], _) _
  refine am_Rn.go (t := am_t131) rfl 6 rfl ⟨trivial, trivial, trivial, trivial, trivial, trivial, trivial⟩ ?_
  refine am_Rn.call (t := am_t131) rfl rfl (sx_in ..) ?_
  rintro _ _ ⟨rfl, rfl⟩
  refine am_Rn.go (t := am_t131) rfl 1 rfl ⟨trivial, trivial⟩ ?_
  refine am_Rn.brF (fun z => am_b0.mp z hv) ?_
  refine am_Rn.go (t := am_t131) rfl 1 rfl ⟨trivial, trivial⟩ ?_
  refine am_Rn.call (t := am_t131) rfl rfl (mm_isOver ..) ?_
  rintro _ _ ⟨rfl, rfl⟩
  refine am_Rn.go (t := am_t131) rfl 1 rfl ⟨trivial, trivial⟩ ?_
  refine am_Rn.brF (fun z => am_b0.mp z (by rw [h0]; congr 1; omega)) ?_
  refine am_Rn.go (t := am_t131) rfl 1 rfl ⟨trivial, trivial⟩ ?_
  refine am_Rn.ret (t := am_t131) rfl rfl trivial ?_
  exact ⟨rfl, rfl⟩
theorem mm_again_S (sc : am_Sc) (N rn : Nat) (nu : Nat → Int32) (h0 : nu 0 = Int32.ofNat N) (hN : N ≤ 20) (hr : rn ≤ N) (hov : ¬ N ≤ rn) (tr : Int64) (ty nx tk pl va fa dp cm : Int32) (tx dn la me tc ts ps : Nat → Int32) (P : Nat) (pr pv sa pd lo : Int32) (bo co sh se si er of_ sp ke ik bi bt so nr ou ho cl : Nat → Int32) (B0 B1 B2 B3 B4 B5 B6 B7 B8 B9 B10 B11 B12 : List am_E) (Bs : am_M) : am_Rn sc 139 (0, am_entry 139 [.ref 416], [], B0 :: B1 :: B2 :: B3 :: B4 :: B5 :: B6 :: B7 :: B8 :: B9 :: B10 :: B11 :: B12 :: bkModel tr ty nx tk pl va fa (Int32.ofNat P) dp cm tx (mp_ru nu dn) (mp_ps (mp_q la me tc ts) ps) (mp_s (Int32.ofNat rn) pr pv sa pd lo bo co sh se si er of_) sp ke ik bi bt so nr ou ho cl :: Bs) (fun r M' => r = some (.int (-2)) ∧ M' = B0 :: B1 :: B2 :: B3 :: B4 :: B5 :: B6 :: B7 :: B8 :: B9 :: B10 :: B11 :: B12 :: bkModel tr ty nx tk pl va fa (Int32.ofNat P) dp cm tx (mp_ru nu dn) (mp_ps (mp_q la me tc ts) ps) (mp_s (Int32.ofNat rn) pr pv sa pd lo bo co sh se si er of_) sp ke ik bi bt so nr ou ho cl :: Bs) := by
  show am_Rn sc 139 (0, [some (.ref 416), none], [], _) _
  refine am_Rn.go (t := am_t139) rfl 4 rfl ⟨trivial, trivial, trivial, trivial, trivial⟩ ?_
  refine am_Rn.call (t := am_t139) rfl rfl (mm_isOver ..) ?_
  rintro _ _ ⟨rfl, rfl⟩
  refine am_Rn.go (t := am_t139) rfl 1 rfl ⟨trivial, trivial⟩ ?_
  refine am_Rn.brT (am_b0.mpr (fun z => hov (by rw [h0] at z; have := (am_eqi (by omega) (by omega)).mp z; omega))) ?_
  refine am_Rn.go (t := am_t139) rfl 1 rfl ⟨trivial, trivial⟩ ?_
  refine am_Rn.ret (t := am_t139) rfl rfl trivial ?_
  exact ⟨rfl, rfl⟩
theorem mm_again_T (sc : am_Sc) (P : Nat) (hP : P ≤ 9) (N rn : Nat) (nu : Nat → Int32) (h0 : nu 0 = Int32.ofNat N) (hN : N ≤ 20) (hr : rn ≤ N) (hov : N ≤ rn) (tr : Int64) (ty nx tk pl va fa dp cm : Int32) (tx dn la me tc ts ps : Nat → Int32) (pr pv sa pd lo : Int32) (bo co sh se si er of_ sp ke ik bi bt so nr ou ho cl : Nat → Int32) (B0 B1 B2 B3 B4 B5 B6 B7 B8 B9 B10 B11 B12 : List am_E) (Bs : am_M) : am_Rn sc 139 (0, am_entry 139 [.ref 416], [], B0 :: B1 :: B2 :: B3 :: B4 :: B5 :: B6 :: B7 :: B8 :: B9 :: B10 :: B11 :: B12 :: bkModel tr ty nx tk pl va fa (Int32.ofNat P) dp cm tx (mp_ru nu dn) (mp_ps (mp_q la me tc ts) ps) (mp_s (Int32.ofNat rn) pr pv sa pd lo bo co sh se si er of_) sp ke ik bi bt so nr ou ho cl :: Bs) (fun r M' => r = some (.int 1) ∧ M' = B0 :: B1 :: B2 :: B3 :: B4 :: B5 :: B6 :: B7 :: B8 :: B9 :: B10 :: B11 :: B12 :: bkModel tr ty nx tk pl va fa (Int32.ofNat P) dp cm tx (mp_ru nu dn) (mp_ps (mp_q la me tc ts) ps) (mp_s 0 (nu 4) (nu 4) 0 0 lo bo (am_fold 9 (sp_begOne (sp_cut P tc) (sp_cut P ts)) (co, sh, si)).1 (am_fold 9 (sp_begOne (sp_cut P tc) (sp_cut P ts)) (co, sh, si)).2.1 (am_fold P sp_incOne se) (am_fold 9 (sp_begOne (sp_cut P tc) (sp_cut P ts)) (co, sh, si)).2.2 er of_) sp ke ik bi bt so nr ou ho cl :: Bs) := by
  show am_Rn sc 139 (0, [some (.ref 416), none], [], _) _
  have L : ∀ (d i : Nat), i + d = P → am_Rn sc 139 (12, [some (.ref 416), some (.int (Int32.ofNat i))], [], B0 :: B1 :: B2 :: B3 :: B4 :: B5 :: B6 :: B7 :: B8 :: B9 :: B10 :: B11 :: B12 :: bkModel tr ty nx tk pl va fa (Int32.ofNat P) dp cm tx (mp_ru nu dn) (mp_ps (mp_q la me tc ts) ps) (mp_s 0 (nu 4) (nu 4) 0 0 lo bo (am_fold 9 (sp_begOne (sp_cut P tc) (sp_cut P ts)) (co, sh, si)).1 (am_fold 9 (sp_begOne (sp_cut P tc) (sp_cut P ts)) (co, sh, si)).2.1 (am_fold i sp_incOne se) (am_fold 9 (sp_begOne (sp_cut P tc) (sp_cut P ts)) (co, sh, si)).2.2 er of_) sp ke ik bi bt so nr ou ho cl :: Bs) (fun r M' => r = some (.int 1) ∧ M' = B0 :: B1 :: B2 :: B3 :: B4 :: B5 :: B6 :: B7 :: B8 :: B9 :: B10 :: B11 :: B12 :: bkModel tr ty nx tk pl va fa (Int32.ofNat P) dp cm tx (mp_ru nu dn) (mp_ps (mp_q la me tc ts) ps) (mp_s 0 (nu 4) (nu 4) 0 0 lo bo (am_fold 9 (sp_begOne (sp_cut P tc) (sp_cut P ts)) (co, sh, si)).1 (am_fold 9 (sp_begOne (sp_cut P tc) (sp_cut P ts)) (co, sh, si)).2.1 (am_fold P sp_incOne se) (am_fold 9 (sp_begOne (sp_cut P tc) (sp_cut P ts)) (co, sh, si)).2.2 er of_) sp ke ik bi bt so nr ou ho cl :: Bs) := by
    intro d
    induction d with
    | zero =>
      intro i  hi
      have hiP : i = P := by omega
      subst i
      refine am_Rn.go (t := am_t139) rfl 4 rfl ⟨trivial, trivial, trivial, trivial, trivial⟩ ?_
      refine am_Rn.brT (by first | exact (am_le (by omega) (by omega)).mpr (Nat.le_refl _) | exact fun q => absurd ((am_lt (by omega) (by omega)).mp q) (Nat.lt_irrefl _) | exact (am_lt (by omega) (by omega)).mpr (by omega) | decide) ?_
      refine am_Rn.go (t := am_t139) rfl 1 rfl ⟨trivial, trivial⟩ ?_
      refine am_Rn.ret (t := am_t139) rfl rfl trivial ?_
      exact ⟨rfl, rfl⟩
    | succ d ih =>
      intro i  hi
      have hiP : i < P := by omega
      have e1 : (Int32.ofNat i).toNatClampNeg = i := am_tn i (by omega)
      have g := ih (i + 1) (by omega)
      rw [am_fold_succ i sp_incOne, ← am_inc] at g
      generalize hX : (am_fold i sp_incOne se) = X at g ⊢
      refine am_Rn.go (t := am_t139) rfl 4 rfl ⟨trivial, trivial, trivial, trivial, trivial⟩ ?_
      refine am_Rn.brF (by first | exact fun q => absurd ((am_le (by omega) (by omega)).mp q) (by omega) | exact fun q => absurd ((am_le (i := 9) (by omega) (by omega)).mp q) (by omega) | exact fun q => absurd ((am_le (i := 10) (by omega) (by omega)).mp q) (by omega) | exact fun q => absurd ((am_le (i := 80) (by omega) (by omega)).mp q) (by omega) | exact (am_lt (by omega) (by omega)).mpr hiP | exact fun q => absurd ((am_lt (by omega) (by omega)).mp q) (by omega)) ?_
      refine am_Rn.go (t := am_t139) rfl 6 rfl ⟨trivial, trivial, trivial, trivial, trivial, trivial, trivial⟩ ?_
      refine am_Rn.call (t := am_t139) rfl rfl (mm_of2 sc i (by omega) ..) ?_
      rintro _ _ ⟨rfl, rfl⟩
      refine am_Rn.go (t := am_t139) rfl 2 rfl ⟨trivial, trivial, trivial⟩ ?_
      refine am_Rn.call (t := am_t139) rfl rfl (mm_puts2 sc i (by omega) ..) ?_
      rintro _ _ ⟨rfl, rfl⟩
      refine am_Rn.go (t := am_t139) rfl 2 rfl ⟨trivial, trivial, trivial⟩ ?_
      exact g
  refine am_Rn.go (t := am_t139) rfl 4 rfl ⟨trivial, trivial, trivial, trivial, trivial⟩ ?_
  refine am_Rn.call (t := am_t139) rfl rfl (mm_isOver ..) ?_
  rintro _ _ ⟨rfl, rfl⟩
  refine am_Rn.go (t := am_t139) rfl 1 rfl ⟨trivial, trivial⟩ ?_
  refine am_Rn.brF (fun z => am_b0.mp z (by rw [h0]; congr 1; omega)) ?_
  refine am_Rn.go (t := am_t139) rfl 1 rfl ⟨trivial, trivial⟩ ?_
  refine am_Rn.call (t := am_t139) rfl rfl (mm_anew sc P hP ..) ?_
  rintro _ _ ⟨rfl, rfl⟩
  refine am_Rn.go (t := am_t139) rfl 2 rfl ⟨trivial, trivial, trivial⟩ ?_
  exact L P 0 (by omega)
theorem mm_count (sc : am_Sc) (P : Nat) (hP : P ≤ 9) (w : Int32) (tr : Int64) (ty nx tk pl va fa dp cm : Int32) (tx nu dn la me tc ts ps : Nat → Int32) (rd pr pv sa pd lo : Int32) (bo co sh se si er of_ sp ke ik bi bt so nr ou ho cl : Nat → Int32) (B0 B1 B2 B3 B4 B5 B6 B7 B8 B9 B10 B11 B12 : List am_E) (Bs : am_M) : am_Rn sc 162 (0, am_entry 162 [.ref 416, .int w], [], B0 :: B1 :: B2 :: B3 :: B4 :: B5 :: B6 :: B7 :: B8 :: B9 :: B10 :: B11 :: B12 :: bkModel tr ty nx tk pl va fa (Int32.ofNat P) dp cm tx (mp_ru nu dn) (mp_ps (mp_q la me tc ts) ps) (mp_s rd pr pv sa pd lo bo co sh se si er of_) sp ke ik bi bt so nr ou ho cl :: Bs) (fun r M' => r = some (.int (an_count P co sh cm ty w)) ∧ M' = B0 :: B1 :: B2 :: B3 :: B4 :: B5 :: B6 :: B7 :: B8 :: B9 :: B10 :: B11 :: B12 :: bkModel tr ty nx tk pl va fa (Int32.ofNat P) dp cm tx (mp_ru nu dn) (mp_ps (mp_q la me tc ts) ps) (mp_s rd pr pv sa pd lo bo co sh se si er of_) sp ke ik bi bt so nr ou ho cl :: Bs) := by
  show am_Rn sc 162 (0, [some (.ref 416), some (.int w), none, none, none], [], _) _
  have L : ∀ (d i : Nat), i + d = P → am_Rn sc 162 (9, [some (.ref 416), some (.int w), some (.int (am_fold i (sp_addOne sh) 0)), some (.int (am_fold i (sp_addOne co) 0)), some (.int (Int32.ofNat i))], [], B0 :: B1 :: B2 :: B3 :: B4 :: B5 :: B6 :: B7 :: B8 :: B9 :: B10 :: B11 :: B12 :: bkModel tr ty nx tk pl va fa (Int32.ofNat P) dp cm tx (mp_ru nu dn) (mp_ps (mp_q la me tc ts) ps) (mp_s rd pr pv sa pd lo bo co sh se si er of_) sp ke ik bi bt so nr ou ho cl :: Bs) (fun r M' => r = some (.int (an_count P co sh cm ty w)) ∧ M' = B0 :: B1 :: B2 :: B3 :: B4 :: B5 :: B6 :: B7 :: B8 :: B9 :: B10 :: B11 :: B12 :: bkModel tr ty nx tk pl va fa (Int32.ofNat P) dp cm tx (mp_ru nu dn) (mp_ps (mp_q la me tc ts) ps) (mp_s rd pr pv sa pd lo bo co sh se si er of_) sp ke ik bi bt so nr ou ho cl :: Bs) := by
    intro d
    induction d with
    | zero =>
      intro i  hi
      have hiP : i = P := by omega
      subst i
      refine am_Rn.go (t := am_t162) rfl 4 rfl ⟨trivial, trivial, trivial, trivial, trivial⟩ ?_
      refine am_Rn.brT (by first | exact (am_le (by omega) (by omega)).mpr (Nat.le_refl _) | exact fun q => absurd ((am_lt (by omega) (by omega)).mp q) (Nat.lt_irrefl _) | exact (am_lt (by omega) (by omega)).mpr (by omega) | decide) ?_
      refine am_Rn.go (t := am_t162) rfl 2 rfl ⟨trivial, trivial, trivial⟩ ?_
      refine am_Rn.br (fun h2 => ?_) (fun h2 => ?_)
      · skip
        refine am_Rn.go (t := am_t162) rfl 3 rfl ⟨trivial, trivial, trivial, trivial⟩ ?_
        refine am_Rn.ret (t := am_t162) rfl rfl trivial ?_
        refine ⟨congrArg (fun z => some (Value.int z)) ?_, rfl⟩
        simp [an_count, *]
      · skip
        refine am_Rn.go (t := am_t162) rfl 3 rfl ⟨trivial, trivial, trivial, trivial⟩ ?_
        refine am_Rn.br (fun h3 => ?_) (fun h3 => ?_)
        · skip
          refine am_Rn.go (t := am_t162) rfl 2 rfl ⟨trivial, trivial, trivial⟩ ?_
          refine am_Rn.ret (t := am_t162) rfl rfl trivial ?_
          refine ⟨congrArg (fun z => some (Value.int z)) ?_, rfl⟩
          simp [an_count, *]
        · skip
          refine am_Rn.go (t := am_t162) rfl 3 rfl ⟨trivial, trivial, trivial, trivial⟩ ?_
          refine am_Rn.br (fun h4 => ?_) (fun h4 => ?_)
          · skip
            refine am_Rn.go (t := am_t162) rfl 2 rfl ⟨trivial, trivial, trivial⟩ ?_
            refine am_Rn.ret (t := am_t162) rfl rfl trivial ?_
            refine ⟨congrArg (fun z => some (Value.int z)) ?_, rfl⟩
            simp [an_count, *]
          · skip
            refine am_Rn.go (t := am_t162) rfl 3 rfl ⟨trivial, trivial, trivial, trivial⟩ ?_
            refine am_Rn.br (fun h5 => ?_) (fun h5 => ?_)
            · skip
              refine am_Rn.go (t := am_t162) rfl 3 rfl ⟨trivial, trivial, trivial, trivial⟩ ?_
              refine am_Rn.ret (t := am_t162) rfl rfl trivial ?_
              refine ⟨congrArg (fun z => some (Value.int z)) ?_, rfl⟩
              simp [an_count, *]
            · skip
              refine am_Rn.go (t := am_t162) rfl 3 rfl ⟨trivial, trivial, trivial, trivial⟩ ?_
              refine am_Rn.br (fun h6 => ?_) (fun h6 => ?_)
              · skip
                refine am_Rn.go (t := am_t162) rfl 3 rfl ⟨trivial, trivial, trivial, trivial⟩ ?_
                refine am_Rn.ret (t := am_t162) rfl rfl trivial ?_
                refine ⟨congrArg (fun z => some (Value.int z)) ?_, rfl⟩
                simp [an_count, *]
              · skip
                refine am_Rn.go (t := am_t162) rfl 1 rfl ⟨trivial, trivial⟩ ?_
                refine am_Rn.ret (t := am_t162) rfl rfl trivial ?_
                refine ⟨congrArg (fun z => some (Value.int z)) ?_, rfl⟩
                simp [an_count, *]
    | succ d ih =>
      intro i  hi
      have hiP : i < P := by omega
      have e1 : (Int32.ofNat i).toNatClampNeg = i := am_tn i (by omega)
      have g := ih (i + 1) (by omega)
      rw [am_fold_succ, am_fold_succ, ← am_inc] at g
      generalize (am_fold i (sp_addOne sh) 0) = X at g ⊢
      generalize (am_fold i (sp_addOne co) 0) = X2 at g ⊢
      refine am_Rn.go (t := am_t162) rfl 4 rfl ⟨trivial, trivial, trivial, trivial, trivial⟩ ?_
      refine am_Rn.brF (by first | exact fun q => absurd ((am_le (by omega) (by omega)).mp q) (by omega) | exact fun q => absurd ((am_le (i := 9) (by omega) (by omega)).mp q) (by omega) | exact fun q => absurd ((am_le (i := 10) (by omega) (by omega)).mp q) (by omega) | exact fun q => absurd ((am_le (i := 80) (by omega) (by omega)).mp q) (by omega) | exact (am_lt (by omega) (by omega)).mpr hiP | exact fun q => absurd ((am_lt (by omega) (by omega)).mp q) (by omega)) ?_
      refine am_Rn.go (t := am_t162) rfl 4 rfl ⟨trivial, trivial, trivial, trivial, trivial⟩ ?_
      refine am_Rn.call (t := am_t162) rfl rfl (mm_of1 sc i (by omega) ..) ?_
      rintro _ _ ⟨rfl, rfl⟩
      refine am_Rn.go (t := am_t162) rfl 6 rfl ⟨trivial, trivial, trivial, trivial, trivial, trivial, trivial⟩ ?_
      refine am_Rn.call (t := am_t162) rfl rfl (mm_of0 sc i (by omega) ..) ?_
      rintro _ _ ⟨rfl, rfl⟩
      refine am_Rn.go (t := am_t162) rfl 4 rfl ⟨trivial, trivial, trivial, trivial, trivial⟩ ?_
      exact g
  refine am_Rn.go (t := am_t162) rfl 9 rfl ⟨trivial, trivial, trivial, trivial, trivial, trivial, trivial, trivial, trivial, trivial⟩ ?_
  exact L P 0 (by omega)
theorem mm_mark0 (sc : am_Sc) (P : Nat) (hP : P ≤ 9) (q : Nat) (hq : q < P) (tr : Int64) (ty nx tk pl va fa dp cm : Int32) (tx nu dn la me tc ts ps : Nat → Int32) (rd pr pv sa pd lo : Int32) (bo co sh se si er of_ sp ke ik bi bt so nr ou ho cl : Nat → Int32) (B0 B1 B2 B3 B4 B5 B6 B7 B8 B9 B10 B11 B12 : List am_E) (Bs : am_M) : am_Rn sc 159 (0, am_entry 159 [.ref 416, .int 0, .int (Int32.ofNat q)], [], B0 :: B1 :: B2 :: B3 :: B4 :: B5 :: B6 :: B7 :: B8 :: B9 :: B10 :: B11 :: B12 :: bkModel tr ty nx tk pl va fa (Int32.ofNat P) dp cm tx (mp_ru nu dn) (mp_ps (mp_q la me tc ts) ps) (mp_s rd pr pv sa pd lo bo co sh se si er of_) sp ke ik bi bt so nr ou ho cl :: Bs) (fun r M' => r = some (.int (sp_mark nu co sh se rd pr q 0)) ∧ M' = B0 :: B1 :: B2 :: B3 :: B4 :: B5 :: B6 :: B7 :: B8 :: B9 :: B10 :: B11 :: B12 :: bkModel (tr + 1) ty nx tk pl va fa (Int32.ofNat P) dp cm tx (mp_ru nu dn) (mp_ps (mp_q la me tc ts) ps) (mp_s rd pr pv sa pd lo bo co sh se si er of_) sp ke ik bi bt so nr ou ho cl :: Bs) := by
  show am_Rn sc 159 (0, [some (.ref 416), some (.int 0), some (.int (Int32.ofNat q)), none, none, none], [], _) _
  refine am_Rn.go (t := am_t159) rfl 6 rfl ⟨trivial, trivial, trivial, trivial, trivial, trivial, trivial⟩ ?_
  refine am_Rn.call (t := am_t159) rfl rfl (sx_in ..) ?_
  rintro _ _ ⟨rfl, rfl⟩
  refine am_Rn.go (t := am_t159) rfl 1 rfl ⟨trivial, trivial⟩ ?_
  refine am_Rn.brF (fun z => am_b0.mp z (by decide)) ?_
  refine am_Rn.go (t := am_t159) rfl 2 rfl ⟨trivial, trivial, trivial⟩ ?_
  refine am_Rn.call (t := am_t159) rfl rfl (mm_isPerson ..) ?_
  rintro _ _ ⟨rfl, rfl⟩
  refine am_Rn.go (t := am_t159) rfl 1 rfl ⟨trivial, trivial⟩ ?_
  refine am_Rn.brF (fun z => am_b0.mp z (am_pers2 hP hq)) ?_
  refine am_Rn.go (t := am_t159) rfl 3 rfl ⟨trivial, trivial, trivial, trivial⟩ ?_
  refine am_Rn.call (t := am_t159) rfl rfl (mm_of0 sc q (by omega) ..) ?_
  rintro _ _ ⟨rfl, rfl⟩
  refine am_Rn.go (t := am_t159) rfl 20 rfl ⟨trivial, trivial, trivial, trivial, trivial, (by first | exact am_inb_lit rfl | exact am_inb_of (by omega) (by omega)), trivial, trivial, trivial, trivial, trivial, trivial, (by first | exact am_inb_lit rfl | exact am_inb_of (by omega) (by omega)), trivial, trivial, trivial, trivial, trivial, trivial, trivial, trivial⟩ ?_
  refine am_Rn.brT (by decide) ?_
  refine am_Rn.go (t := am_t159) rfl 6 rfl ⟨trivial, trivial, trivial, trivial, trivial, trivial, trivial⟩ ?_
  refine am_Rn.brT (by decide) ?_
  refine am_Rn.go (t := am_t159) rfl 2 rfl ⟨trivial, trivial, trivial⟩ ?_
  refine am_Rn.ret (t := am_t159) rfl rfl trivial ?_
  exact ⟨rfl, rfl⟩
theorem mm_mark1 (sc : am_Sc) (P : Nat) (hP : P ≤ 9) (q : Nat) (hq : q < P) (tr : Int64) (ty nx tk pl va fa dp cm : Int32) (tx nu dn la me tc ts ps : Nat → Int32) (rd pr pv sa pd lo : Int32) (bo co sh se si er of_ sp ke ik bi bt so nr ou ho cl : Nat → Int32) (B0 B1 B2 B3 B4 B5 B6 B7 B8 B9 B10 B11 B12 : List am_E) (Bs : am_M) : am_Rn sc 159 (0, am_entry 159 [.ref 416, .int 1, .int (Int32.ofNat q)], [], B0 :: B1 :: B2 :: B3 :: B4 :: B5 :: B6 :: B7 :: B8 :: B9 :: B10 :: B11 :: B12 :: bkModel tr ty nx tk pl va fa (Int32.ofNat P) dp cm tx (mp_ru nu dn) (mp_ps (mp_q la me tc ts) ps) (mp_s rd pr pv sa pd lo bo co sh se si er of_) sp ke ik bi bt so nr ou ho cl :: Bs) (fun r M' => r = some (.int (sp_mark nu co sh se rd pr q 1)) ∧ M' = B0 :: B1 :: B2 :: B3 :: B4 :: B5 :: B6 :: B7 :: B8 :: B9 :: B10 :: B11 :: B12 :: bkModel (tr + 11) ty nx tk pl va fa (Int32.ofNat P) dp cm tx (mp_ru nu dn) (mp_ps (mp_q la me tc ts) ps) (mp_s rd pr pv sa pd lo bo co sh se si er of_) sp ke ik bi bt so nr ou ho cl :: Bs) := by
  show am_Rn sc 159 (0, [some (.ref 416), some (.int 1), some (.int (Int32.ofNat q)), none, none, none], [], _) _
  refine am_Rn.go (t := am_t159) rfl 6 rfl ⟨trivial, trivial, trivial, trivial, trivial, trivial, trivial⟩ ?_
  refine am_Rn.call (t := am_t159) rfl rfl (sx_in ..) ?_
  rintro _ _ ⟨rfl, rfl⟩
  refine am_Rn.go (t := am_t159) rfl 1 rfl ⟨trivial, trivial⟩ ?_
  refine am_Rn.brF (fun z => am_b0.mp z (by decide)) ?_
  refine am_Rn.go (t := am_t159) rfl 2 rfl ⟨trivial, trivial, trivial⟩ ?_
  refine am_Rn.call (t := am_t159) rfl rfl (mm_isPerson ..) ?_
  rintro _ _ ⟨rfl, rfl⟩
  refine am_Rn.go (t := am_t159) rfl 1 rfl ⟨trivial, trivial⟩ ?_
  refine am_Rn.brF (fun z => am_b0.mp z (am_pers2 hP hq)) ?_
  refine am_Rn.go (t := am_t159) rfl 3 rfl ⟨trivial, trivial, trivial, trivial⟩ ?_
  refine am_Rn.call (t := am_t159) rfl rfl (mm_of0 sc q (by omega) ..) ?_
  rintro _ _ ⟨rfl, rfl⟩
  refine am_Rn.go (t := am_t159) rfl 20 rfl ⟨trivial, trivial, trivial, trivial, trivial, (by first | exact am_inb_lit rfl | exact am_inb_of (by omega) (by omega)), trivial, trivial, trivial, trivial, trivial, trivial, (by first | exact am_inb_lit rfl | exact am_inb_of (by omega) (by omega)), trivial, trivial, trivial, trivial, trivial, trivial, trivial, trivial⟩ ?_
  refine am_Rn.brF (by decide) ?_
  refine am_Rn.go (t := am_t159) rfl 3 rfl ⟨trivial, trivial, trivial, trivial⟩ ?_
  refine am_Rn.brT (by decide) ?_
  refine am_Rn.go (t := am_t159) rfl 6 rfl ⟨trivial, trivial, trivial, trivial, trivial, trivial, trivial⟩ ?_
  refine am_Rn.brF (by decide) ?_
  refine am_Rn.go (t := am_t159) rfl 3 rfl ⟨trivial, trivial, trivial, trivial⟩ ?_
  refine am_Rn.brT (by decide) ?_
  refine am_Rn.go (t := am_t159) rfl 4 rfl ⟨trivial, trivial, trivial, trivial, trivial⟩ ?_
  refine am_Rn.call (t := am_t159) rfl rfl (mm_of1 sc q (by omega) ..) ?_
  rintro _ _ ⟨rfl, rfl⟩
  refine am_Rn.go (t := am_t159) rfl 5 rfl ⟨trivial, trivial, trivial, trivial, (by first | exact am_inb_lit rfl | exact am_inb_of (by omega) (by omega)), trivial⟩ ?_
  refine am_Rn.call (t := am_t159) rfl rfl (mm_worthIn ..) ?_
  rintro _ _ ⟨rfl, rfl⟩
  refine am_Rn.go (t := am_t159) rfl 3 rfl ⟨trivial, trivial, trivial, trivial⟩ ?_
  refine am_Rn.ret (t := am_t159) rfl rfl trivial ?_
  exact ⟨rfl, rfl⟩
theorem mm_mark2 (sc : am_Sc) (P : Nat) (hP : P ≤ 9) (q : Nat) (hq : q < P) (tr : Int64) (ty nx tk pl va fa dp cm : Int32) (tx nu dn la me tc ts ps : Nat → Int32) (rd pr pv sa pd lo : Int32) (bo co sh se si er of_ sp ke ik bi bt so nr ou ho cl : Nat → Int32) (B0 B1 B2 B3 B4 B5 B6 B7 B8 B9 B10 B11 B12 : List am_E) (Bs : am_M) : am_Rn sc 159 (0, am_entry 159 [.ref 416, .int 2, .int (Int32.ofNat q)], [], B0 :: B1 :: B2 :: B3 :: B4 :: B5 :: B6 :: B7 :: B8 :: B9 :: B10 :: B11 :: B12 :: bkModel tr ty nx tk pl va fa (Int32.ofNat P) dp cm tx (mp_ru nu dn) (mp_ps (mp_q la me tc ts) ps) (mp_s rd pr pv sa pd lo bo co sh se si er of_) sp ke ik bi bt so nr ou ho cl :: Bs) (fun r M' => r = some (.int (sp_mark nu co sh se rd pr q 2)) ∧ M' = B0 :: B1 :: B2 :: B3 :: B4 :: B5 :: B6 :: B7 :: B8 :: B9 :: B10 :: B11 :: B12 :: bkModel (tr + 101) ty nx tk pl va fa (Int32.ofNat P) dp cm tx (mp_ru nu dn) (mp_ps (mp_q la me tc ts) ps) (mp_s rd pr pv sa pd lo bo co sh se si er of_) sp ke ik bi bt so nr ou ho cl :: Bs) := by
  show am_Rn sc 159 (0, [some (.ref 416), some (.int 2), some (.int (Int32.ofNat q)), none, none, none], [], _) _
  refine am_Rn.go (t := am_t159) rfl 6 rfl ⟨trivial, trivial, trivial, trivial, trivial, trivial, trivial⟩ ?_
  refine am_Rn.call (t := am_t159) rfl rfl (sx_in ..) ?_
  rintro _ _ ⟨rfl, rfl⟩
  refine am_Rn.go (t := am_t159) rfl 1 rfl ⟨trivial, trivial⟩ ?_
  refine am_Rn.brF (fun z => am_b0.mp z (by decide)) ?_
  refine am_Rn.go (t := am_t159) rfl 2 rfl ⟨trivial, trivial, trivial⟩ ?_
  refine am_Rn.call (t := am_t159) rfl rfl (mm_isPerson ..) ?_
  rintro _ _ ⟨rfl, rfl⟩
  refine am_Rn.go (t := am_t159) rfl 1 rfl ⟨trivial, trivial⟩ ?_
  refine am_Rn.brF (fun z => am_b0.mp z (am_pers2 hP hq)) ?_
  refine am_Rn.go (t := am_t159) rfl 3 rfl ⟨trivial, trivial, trivial, trivial⟩ ?_
  refine am_Rn.call (t := am_t159) rfl rfl (mm_of0 sc q (by omega) ..) ?_
  rintro _ _ ⟨rfl, rfl⟩
  refine am_Rn.go (t := am_t159) rfl 20 rfl ⟨trivial, trivial, trivial, trivial, trivial, (by first | exact am_inb_lit rfl | exact am_inb_of (by omega) (by omega)), trivial, trivial, trivial, trivial, trivial, trivial, (by first | exact am_inb_lit rfl | exact am_inb_of (by omega) (by omega)), trivial, trivial, trivial, trivial, trivial, trivial, trivial, trivial⟩ ?_
  refine am_Rn.brF (by decide) ?_
  refine am_Rn.go (t := am_t159) rfl 3 rfl ⟨trivial, trivial, trivial, trivial⟩ ?_
  refine am_Rn.brF (by decide) ?_
  refine am_Rn.go (t := am_t159) rfl 3 rfl ⟨trivial, trivial, trivial, trivial⟩ ?_
  refine am_Rn.brT (by decide) ?_
  refine am_Rn.go (t := am_t159) rfl 6 rfl ⟨trivial, trivial, trivial, trivial, trivial, trivial, trivial⟩ ?_
  refine am_Rn.brF (by decide) ?_
  refine am_Rn.go (t := am_t159) rfl 3 rfl ⟨trivial, trivial, trivial, trivial⟩ ?_
  refine am_Rn.brF (by decide) ?_
  refine am_Rn.go (t := am_t159) rfl 3 rfl ⟨trivial, trivial, trivial, trivial⟩ ?_
  refine am_Rn.brT (by decide) ?_
  refine am_Rn.go (t := am_t159) rfl 2 rfl ⟨trivial, trivial, trivial⟩ ?_
  refine am_Rn.ret (t := am_t159) rfl rfl trivial ?_
  exact ⟨rfl, rfl⟩
theorem mm_mark3 (sc : am_Sc) (P : Nat) (hP : P ≤ 9) (q : Nat) (hq : q < P) (tr : Int64) (ty nx tk pl va fa dp cm : Int32) (tx nu dn la me tc ts ps : Nat → Int32) (rd pr pv sa pd lo : Int32) (bo co sh se si er of_ sp ke ik bi bt so nr ou ho cl : Nat → Int32) (B0 B1 B2 B3 B4 B5 B6 B7 B8 B9 B10 B11 B12 : List am_E) (Bs : am_M) : am_Rn sc 159 (0, am_entry 159 [.ref 416, .int 3, .int (Int32.ofNat q)], [], B0 :: B1 :: B2 :: B3 :: B4 :: B5 :: B6 :: B7 :: B8 :: B9 :: B10 :: B11 :: B12 :: bkModel tr ty nx tk pl va fa (Int32.ofNat P) dp cm tx (mp_ru nu dn) (mp_ps (mp_q la me tc ts) ps) (mp_s rd pr pv sa pd lo bo co sh se si er of_) sp ke ik bi bt so nr ou ho cl :: Bs) (fun r M' => r = some (.int (sp_mark nu co sh se rd pr q 3)) ∧ M' = B0 :: B1 :: B2 :: B3 :: B4 :: B5 :: B6 :: B7 :: B8 :: B9 :: B10 :: B11 :: B12 :: bkModel (tr + 1001) ty nx tk pl va fa (Int32.ofNat P) dp cm tx (mp_ru nu dn) (mp_ps (mp_q la me tc ts) ps) (mp_s rd pr pv sa pd lo bo co sh se si er of_) sp ke ik bi bt so nr ou ho cl :: Bs) := by
  show am_Rn sc 159 (0, [some (.ref 416), some (.int 3), some (.int (Int32.ofNat q)), none, none, none], [], _) _
  refine am_Rn.go (t := am_t159) rfl 6 rfl ⟨trivial, trivial, trivial, trivial, trivial, trivial, trivial⟩ ?_
  refine am_Rn.call (t := am_t159) rfl rfl (sx_in ..) ?_
  rintro _ _ ⟨rfl, rfl⟩
  refine am_Rn.go (t := am_t159) rfl 1 rfl ⟨trivial, trivial⟩ ?_
  refine am_Rn.brF (fun z => am_b0.mp z (by decide)) ?_
  refine am_Rn.go (t := am_t159) rfl 2 rfl ⟨trivial, trivial, trivial⟩ ?_
  refine am_Rn.call (t := am_t159) rfl rfl (mm_isPerson ..) ?_
  rintro _ _ ⟨rfl, rfl⟩
  refine am_Rn.go (t := am_t159) rfl 1 rfl ⟨trivial, trivial⟩ ?_
  refine am_Rn.brF (fun z => am_b0.mp z (am_pers2 hP hq)) ?_
  refine am_Rn.go (t := am_t159) rfl 3 rfl ⟨trivial, trivial, trivial, trivial⟩ ?_
  refine am_Rn.call (t := am_t159) rfl rfl (mm_of0 sc q (by omega) ..) ?_
  rintro _ _ ⟨rfl, rfl⟩
  refine am_Rn.go (t := am_t159) rfl 20 rfl ⟨trivial, trivial, trivial, trivial, trivial, (by first | exact am_inb_lit rfl | exact am_inb_of (by omega) (by omega)), trivial, trivial, trivial, trivial, trivial, trivial, (by first | exact am_inb_lit rfl | exact am_inb_of (by omega) (by omega)), trivial, trivial, trivial, trivial, trivial, trivial, trivial, trivial⟩ ?_
  refine am_Rn.brF (by decide) ?_
  refine am_Rn.go (t := am_t159) rfl 3 rfl ⟨trivial, trivial, trivial, trivial⟩ ?_
  refine am_Rn.brF (by decide) ?_
  refine am_Rn.go (t := am_t159) rfl 3 rfl ⟨trivial, trivial, trivial, trivial⟩ ?_
  refine am_Rn.brF (by decide) ?_
  refine am_Rn.go (t := am_t159) rfl 3 rfl ⟨trivial, trivial, trivial, trivial⟩ ?_
  refine am_Rn.brT (by decide) ?_
  refine am_Rn.go (t := am_t159) rfl 6 rfl ⟨trivial, trivial, trivial, trivial, trivial, trivial, trivial⟩ ?_
  refine am_Rn.brF (by decide) ?_
  refine am_Rn.go (t := am_t159) rfl 3 rfl ⟨trivial, trivial, trivial, trivial⟩ ?_
  refine am_Rn.brF (by decide) ?_
  refine am_Rn.go (t := am_t159) rfl 3 rfl ⟨trivial, trivial, trivial, trivial⟩ ?_
  refine am_Rn.brF (by decide) ?_
  refine am_Rn.go (t := am_t159) rfl 3 rfl ⟨trivial, trivial, trivial, trivial⟩ ?_
  refine am_Rn.brT (by decide) ?_
  refine am_Rn.go (t := am_t159) rfl 2 rfl ⟨trivial, trivial, trivial⟩ ?_
  refine am_Rn.ret (t := am_t159) rfl rfl trivial ?_
  exact ⟨rfl, rfl⟩
theorem mm_mark4 (sc : am_Sc) (P : Nat) (hP : P ≤ 9) (q : Nat) (hq : q < P) (tr : Int64) (ty nx tk pl va fa dp cm : Int32) (tx nu dn la me tc ts ps : Nat → Int32) (rd pr pv sa pd lo : Int32) (bo co sh se si er of_ sp ke ik bi bt so nr ou ho cl : Nat → Int32) (B0 B1 B2 B3 B4 B5 B6 B7 B8 B9 B10 B11 B12 : List am_E) (Bs : am_M) : am_Rn sc 159 (0, am_entry 159 [.ref 416, .int 4, .int (Int32.ofNat q)], [], B0 :: B1 :: B2 :: B3 :: B4 :: B5 :: B6 :: B7 :: B8 :: B9 :: B10 :: B11 :: B12 :: bkModel tr ty nx tk pl va fa (Int32.ofNat P) dp cm tx (mp_ru nu dn) (mp_ps (mp_q la me tc ts) ps) (mp_s rd pr pv sa pd lo bo co sh se si er of_) sp ke ik bi bt so nr ou ho cl :: Bs) (fun r M' => r = some (.int (sp_mark nu co sh se rd pr q 4)) ∧ M' = B0 :: B1 :: B2 :: B3 :: B4 :: B5 :: B6 :: B7 :: B8 :: B9 :: B10 :: B11 :: B12 :: bkModel (tr + 10001) ty nx tk pl va fa (Int32.ofNat P) dp cm tx (mp_ru nu dn) (mp_ps (mp_q la me tc ts) ps) (mp_s rd pr pv sa pd lo bo co sh se si er of_) sp ke ik bi bt so nr ou ho cl :: Bs) := by
  show am_Rn sc 159 (0, [some (.ref 416), some (.int 4), some (.int (Int32.ofNat q)), none, none, none], [], _) _
  refine am_Rn.go (t := am_t159) rfl 6 rfl ⟨trivial, trivial, trivial, trivial, trivial, trivial, trivial⟩ ?_
  refine am_Rn.call (t := am_t159) rfl rfl (sx_in ..) ?_
  rintro _ _ ⟨rfl, rfl⟩
  refine am_Rn.go (t := am_t159) rfl 1 rfl ⟨trivial, trivial⟩ ?_
  refine am_Rn.brF (fun z => am_b0.mp z (by decide)) ?_
  refine am_Rn.go (t := am_t159) rfl 2 rfl ⟨trivial, trivial, trivial⟩ ?_
  refine am_Rn.call (t := am_t159) rfl rfl (mm_isPerson ..) ?_
  rintro _ _ ⟨rfl, rfl⟩
  refine am_Rn.go (t := am_t159) rfl 1 rfl ⟨trivial, trivial⟩ ?_
  refine am_Rn.brF (fun z => am_b0.mp z (am_pers2 hP hq)) ?_
  refine am_Rn.go (t := am_t159) rfl 3 rfl ⟨trivial, trivial, trivial, trivial⟩ ?_
  refine am_Rn.call (t := am_t159) rfl rfl (mm_of0 sc q (by omega) ..) ?_
  rintro _ _ ⟨rfl, rfl⟩
  refine am_Rn.go (t := am_t159) rfl 20 rfl ⟨trivial, trivial, trivial, trivial, trivial, (by first | exact am_inb_lit rfl | exact am_inb_of (by omega) (by omega)), trivial, trivial, trivial, trivial, trivial, trivial, (by first | exact am_inb_lit rfl | exact am_inb_of (by omega) (by omega)), trivial, trivial, trivial, trivial, trivial, trivial, trivial, trivial⟩ ?_
  refine am_Rn.brF (by decide) ?_
  refine am_Rn.go (t := am_t159) rfl 3 rfl ⟨trivial, trivial, trivial, trivial⟩ ?_
  refine am_Rn.brF (by decide) ?_
  refine am_Rn.go (t := am_t159) rfl 3 rfl ⟨trivial, trivial, trivial, trivial⟩ ?_
  refine am_Rn.brF (by decide) ?_
  refine am_Rn.go (t := am_t159) rfl 3 rfl ⟨trivial, trivial, trivial, trivial⟩ ?_
  refine am_Rn.brF (by decide) ?_
  refine am_Rn.go (t := am_t159) rfl 3 rfl ⟨trivial, trivial, trivial, trivial⟩ ?_
  refine am_Rn.brT (by decide) ?_
  refine am_Rn.go (t := am_t159) rfl 6 rfl ⟨trivial, trivial, trivial, trivial, trivial, trivial, trivial⟩ ?_
  refine am_Rn.brF (by decide) ?_
  refine am_Rn.go (t := am_t159) rfl 3 rfl ⟨trivial, trivial, trivial, trivial⟩ ?_
  refine am_Rn.brF (by decide) ?_
  refine am_Rn.go (t := am_t159) rfl 3 rfl ⟨trivial, trivial, trivial, trivial⟩ ?_
  refine am_Rn.brF (by decide) ?_
  refine am_Rn.go (t := am_t159) rfl 3 rfl ⟨trivial, trivial, trivial, trivial⟩ ?_
  refine am_Rn.brF (by decide) ?_
  refine am_Rn.go (t := am_t159) rfl 3 rfl ⟨trivial, trivial, trivial, trivial⟩ ?_
  refine am_Rn.brT (by decide) ?_
  refine am_Rn.go (t := am_t159) rfl 4 rfl ⟨trivial, trivial, trivial, trivial, trivial⟩ ?_
  refine am_Rn.ret (t := am_t159) rfl rfl trivial ?_
  exact ⟨rfl, rfl⟩
theorem mm_mark5 (sc : am_Sc) (P : Nat) (hP : P ≤ 9) (q : Nat) (hq : q < P) (tr : Int64) (ty nx tk pl va fa dp cm : Int32) (tx nu dn la me tc ts ps : Nat → Int32) (rd pr pv sa pd lo : Int32) (bo co sh se si er of_ sp ke ik bi bt so nr ou ho cl : Nat → Int32) (B0 B1 B2 B3 B4 B5 B6 B7 B8 B9 B10 B11 B12 : List am_E) (Bs : am_M) : am_Rn sc 159 (0, am_entry 159 [.ref 416, .int 5, .int (Int32.ofNat q)], [], B0 :: B1 :: B2 :: B3 :: B4 :: B5 :: B6 :: B7 :: B8 :: B9 :: B10 :: B11 :: B12 :: bkModel tr ty nx tk pl va fa (Int32.ofNat P) dp cm tx (mp_ru nu dn) (mp_ps (mp_q la me tc ts) ps) (mp_s rd pr pv sa pd lo bo co sh se si er of_) sp ke ik bi bt so nr ou ho cl :: Bs) (fun r M' => r = some (.int (sp_mark nu co sh se rd pr q 5)) ∧ M' = B0 :: B1 :: B2 :: B3 :: B4 :: B5 :: B6 :: B7 :: B8 :: B9 :: B10 :: B11 :: B12 :: bkModel (tr + 101001) ty nx tk pl va fa (Int32.ofNat P) dp cm tx (mp_ru nu dn) (mp_ps (mp_q la me tc ts) ps) (mp_s rd pr pv sa pd lo bo co sh se si er of_) sp ke ik bi bt so nr ou ho cl :: Bs) := by
  show am_Rn sc 159 (0, [some (.ref 416), some (.int 5), some (.int (Int32.ofNat q)), none, none, none], [], _) _
  refine am_Rn.go (t := am_t159) rfl 6 rfl ⟨trivial, trivial, trivial, trivial, trivial, trivial, trivial⟩ ?_
  refine am_Rn.call (t := am_t159) rfl rfl (sx_in ..) ?_
  rintro _ _ ⟨rfl, rfl⟩
  refine am_Rn.go (t := am_t159) rfl 1 rfl ⟨trivial, trivial⟩ ?_
  refine am_Rn.brF (fun z => am_b0.mp z (by decide)) ?_
  refine am_Rn.go (t := am_t159) rfl 2 rfl ⟨trivial, trivial, trivial⟩ ?_
  refine am_Rn.call (t := am_t159) rfl rfl (mm_isPerson ..) ?_
  rintro _ _ ⟨rfl, rfl⟩
  refine am_Rn.go (t := am_t159) rfl 1 rfl ⟨trivial, trivial⟩ ?_
  refine am_Rn.brF (fun z => am_b0.mp z (am_pers2 hP hq)) ?_
  refine am_Rn.go (t := am_t159) rfl 3 rfl ⟨trivial, trivial, trivial, trivial⟩ ?_
  refine am_Rn.call (t := am_t159) rfl rfl (mm_of0 sc q (by omega) ..) ?_
  rintro _ _ ⟨rfl, rfl⟩
  refine am_Rn.go (t := am_t159) rfl 20 rfl ⟨trivial, trivial, trivial, trivial, trivial, (by first | exact am_inb_lit rfl | exact am_inb_of (by omega) (by omega)), trivial, trivial, trivial, trivial, trivial, trivial, (by first | exact am_inb_lit rfl | exact am_inb_of (by omega) (by omega)), trivial, trivial, trivial, trivial, trivial, trivial, trivial, trivial⟩ ?_
  refine am_Rn.brF (by decide) ?_
  refine am_Rn.go (t := am_t159) rfl 3 rfl ⟨trivial, trivial, trivial, trivial⟩ ?_
  refine am_Rn.brF (by decide) ?_
  refine am_Rn.go (t := am_t159) rfl 3 rfl ⟨trivial, trivial, trivial, trivial⟩ ?_
  refine am_Rn.brF (by decide) ?_
  refine am_Rn.go (t := am_t159) rfl 3 rfl ⟨trivial, trivial, trivial, trivial⟩ ?_
  refine am_Rn.brF (by decide) ?_
  refine am_Rn.go (t := am_t159) rfl 3 rfl ⟨trivial, trivial, trivial, trivial⟩ ?_
  refine am_Rn.brF (by decide) ?_
  refine am_Rn.go (t := am_t159) rfl 3 rfl ⟨trivial, trivial, trivial, trivial⟩ ?_
  refine am_Rn.brT (by decide) ?_
  refine am_Rn.go (t := am_t159) rfl 6 rfl ⟨trivial, trivial, trivial, trivial, trivial, trivial, trivial⟩ ?_
  refine am_Rn.brF (by decide) ?_
  refine am_Rn.go (t := am_t159) rfl 3 rfl ⟨trivial, trivial, trivial, trivial⟩ ?_
  refine am_Rn.brF (by decide) ?_
  refine am_Rn.go (t := am_t159) rfl 3 rfl ⟨trivial, trivial, trivial, trivial⟩ ?_
  refine am_Rn.brF (by decide) ?_
  refine am_Rn.go (t := am_t159) rfl 3 rfl ⟨trivial, trivial, trivial, trivial⟩ ?_
  refine am_Rn.brF (by decide) ?_
  refine am_Rn.go (t := am_t159) rfl 3 rfl ⟨trivial, trivial, trivial, trivial⟩ ?_
  refine am_Rn.brF (by decide) ?_
  refine am_Rn.go (t := am_t159) rfl 3 rfl ⟨trivial, trivial, trivial, trivial⟩ ?_
  refine am_Rn.brT (by decide) ?_
  refine am_Rn.go (t := am_t159) rfl 4 rfl ⟨trivial, trivial, trivial, trivial, trivial⟩ ?_
  refine am_Rn.call (t := am_t159) rfl rfl (mm_of2 sc q (by omega) ..) ?_
  rintro _ _ ⟨rfl, rfl⟩
  refine am_Rn.go (t := am_t159) rfl 2 rfl ⟨trivial, trivial, trivial⟩ ?_
  refine am_Rn.ret (t := am_t159) rfl rfl trivial ?_
  exact ⟨rfl, rfl⟩
theorem mm_mark6 (sc : am_Sc) (P : Nat) (hP : P ≤ 9) (q : Nat) (hq : q < P) (tr : Int64) (ty nx tk pl va fa dp cm : Int32) (tx nu dn la me tc ts ps : Nat → Int32) (rd pr pv sa pd lo : Int32) (bo co sh se si er of_ sp ke ik bi bt so nr ou ho cl : Nat → Int32) (B0 B1 B2 B3 B4 B5 B6 B7 B8 B9 B10 B11 B12 : List am_E) (Bs : am_M) : am_Rn sc 159 (0, am_entry 159 [.ref 416, .int 6, .int (Int32.ofNat q)], [], B0 :: B1 :: B2 :: B3 :: B4 :: B5 :: B6 :: B7 :: B8 :: B9 :: B10 :: B11 :: B12 :: bkModel tr ty nx tk pl va fa (Int32.ofNat P) dp cm tx (mp_ru nu dn) (mp_ps (mp_q la me tc ts) ps) (mp_s rd pr pv sa pd lo bo co sh se si er of_) sp ke ik bi bt so nr ou ho cl :: Bs) (fun r M' => r = some (.int (sp_mark nu co sh se rd pr q 6)) ∧ M' = B0 :: B1 :: B2 :: B3 :: B4 :: B5 :: B6 :: B7 :: B8 :: B9 :: B10 :: B11 :: B12 :: bkModel (tr + 1000101) ty nx tk pl va fa (Int32.ofNat P) dp cm tx (mp_ru nu dn) (mp_ps (mp_q la me tc ts) ps) (mp_s rd pr pv sa pd lo bo co sh se si er of_) sp ke ik bi bt so nr ou ho cl :: Bs) := by
  show am_Rn sc 159 (0, [some (.ref 416), some (.int 6), some (.int (Int32.ofNat q)), none, none, none], [], _) _
  refine am_Rn.go (t := am_t159) rfl 6 rfl ⟨trivial, trivial, trivial, trivial, trivial, trivial, trivial⟩ ?_
  refine am_Rn.call (t := am_t159) rfl rfl (sx_in ..) ?_
  rintro _ _ ⟨rfl, rfl⟩
  refine am_Rn.go (t := am_t159) rfl 1 rfl ⟨trivial, trivial⟩ ?_
  refine am_Rn.brF (fun z => am_b0.mp z (by decide)) ?_
  refine am_Rn.go (t := am_t159) rfl 2 rfl ⟨trivial, trivial, trivial⟩ ?_
  refine am_Rn.call (t := am_t159) rfl rfl (mm_isPerson ..) ?_
  rintro _ _ ⟨rfl, rfl⟩
  refine am_Rn.go (t := am_t159) rfl 1 rfl ⟨trivial, trivial⟩ ?_
  refine am_Rn.brF (fun z => am_b0.mp z (am_pers2 hP hq)) ?_
  refine am_Rn.go (t := am_t159) rfl 3 rfl ⟨trivial, trivial, trivial, trivial⟩ ?_
  refine am_Rn.call (t := am_t159) rfl rfl (mm_of0 sc q (by omega) ..) ?_
  rintro _ _ ⟨rfl, rfl⟩
  refine am_Rn.go (t := am_t159) rfl 20 rfl ⟨trivial, trivial, trivial, trivial, trivial, (by first | exact am_inb_lit rfl | exact am_inb_of (by omega) (by omega)), trivial, trivial, trivial, trivial, trivial, trivial, (by first | exact am_inb_lit rfl | exact am_inb_of (by omega) (by omega)), trivial, trivial, trivial, trivial, trivial, trivial, trivial, trivial⟩ ?_
  refine am_Rn.brF (by decide) ?_
  refine am_Rn.go (t := am_t159) rfl 3 rfl ⟨trivial, trivial, trivial, trivial⟩ ?_
  refine am_Rn.brF (by decide) ?_
  refine am_Rn.go (t := am_t159) rfl 3 rfl ⟨trivial, trivial, trivial, trivial⟩ ?_
  refine am_Rn.brF (by decide) ?_
  refine am_Rn.go (t := am_t159) rfl 3 rfl ⟨trivial, trivial, trivial, trivial⟩ ?_
  refine am_Rn.brF (by decide) ?_
  refine am_Rn.go (t := am_t159) rfl 3 rfl ⟨trivial, trivial, trivial, trivial⟩ ?_
  refine am_Rn.brF (by decide) ?_
  refine am_Rn.go (t := am_t159) rfl 3 rfl ⟨trivial, trivial, trivial, trivial⟩ ?_
  refine am_Rn.brF (by decide) ?_
  refine am_Rn.go (t := am_t159) rfl 5 rfl ⟨trivial, trivial, trivial, trivial, trivial, trivial⟩ ?_
  refine am_Rn.brF (by decide) ?_
  refine am_Rn.go (t := am_t159) rfl 3 rfl ⟨trivial, trivial, trivial, trivial⟩ ?_
  refine am_Rn.brF (by decide) ?_
  refine am_Rn.go (t := am_t159) rfl 3 rfl ⟨trivial, trivial, trivial, trivial⟩ ?_
  refine am_Rn.brF (by decide) ?_
  refine am_Rn.go (t := am_t159) rfl 3 rfl ⟨trivial, trivial, trivial, trivial⟩ ?_
  refine am_Rn.brF (by decide) ?_
  refine am_Rn.go (t := am_t159) rfl 3 rfl ⟨trivial, trivial, trivial, trivial⟩ ?_
  refine am_Rn.brF (by decide) ?_
  refine am_Rn.go (t := am_t159) rfl 3 rfl ⟨trivial, trivial, trivial, trivial⟩ ?_
  refine am_Rn.brF (by decide) ?_
  refine am_Rn.go (t := am_t159) rfl 4 rfl ⟨trivial, trivial, trivial, trivial, trivial⟩ ?_
  refine am_Rn.call (t := am_t159) rfl rfl (mm_of1 sc q (by omega) ..) ?_
  rintro _ _ ⟨rfl, rfl⟩
  refine am_Rn.go (t := am_t159) rfl 1 rfl ⟨trivial, trivial⟩ ?_
  refine am_Rn.ret (t := am_t159) rfl rfl trivial ?_
  exact ⟨rfl, rfl⟩
theorem mm_mark_F (sc : am_Sc) (P : Nat) (hP : P ≤ 9) (w p : Int32) (hw : ¬ ((0 ≤ w ∧ w ≤ 6) ∧ (0 ≤ p ∧ p ≤ Int32.ofNat P - 1))) (tr : Int64) (ty nx tk pl va fa dp cm : Int32) (tx nu dn la me tc ts ps : Nat → Int32) (rd pr pv sa pd lo : Int32) (bo co sh se si er of_ sp ke ik bi bt so nr ou ho cl : Nat → Int32) (B0 B1 B2 B3 B4 B5 B6 B7 B8 B9 B10 B11 B12 : List am_E) (Bs : am_M) : am_Rn sc 159 (0, am_entry 159 [.ref 416, .int w, .int p], [], B0 :: B1 :: B2 :: B3 :: B4 :: B5 :: B6 :: B7 :: B8 :: B9 :: B10 :: B11 :: B12 :: bkModel tr ty nx tk pl va fa (Int32.ofNat P) dp cm tx (mp_ru nu dn) (mp_ps (mp_q la me tc ts) ps) (mp_s rd pr pv sa pd lo bo co sh se si er of_) sp ke ik bi bt so nr ou ho cl :: Bs) (fun r M' => r = some (.int (-1000000)) ∧ M' = B0 :: B1 :: B2 :: B3 :: B4 :: B5 :: B6 :: B7 :: B8 :: B9 :: B10 :: B11 :: B12 :: bkModel tr ty nx tk pl va fa (Int32.ofNat P) dp cm tx (mp_ru nu dn) (mp_ps (mp_q la me tc ts) ps) (mp_s rd pr pv sa pd lo bo co sh se si er of_) sp ke ik bi bt so nr ou ho cl :: Bs) := by
  show am_Rn sc 159 (0, [some (.ref 416), some (.int w), some (.int p), none, none, none], [], _) _
  refine am_Rn.go (t := am_t159) rfl 6 rfl ⟨trivial, trivial, trivial, trivial, trivial, trivial, trivial⟩ ?_
  refine am_Rn.call (t := am_t159) rfl rfl (sx_in ..) ?_
  rintro _ _ ⟨rfl, rfl⟩
  refine am_Rn.go (t := am_t159) rfl 1 rfl ⟨trivial, trivial⟩ ?_
  refine am_Rn.brB (fun h1 => ?_) (fun h1 => ?_)
  · skip
    refine am_Rn.go (t := am_t159) rfl 1 rfl ⟨trivial, trivial⟩ ?_
    refine am_Rn.ret (t := am_t159) rfl rfl trivial ?_
    exact ⟨rfl, rfl⟩
  · skip
    refine am_Rn.go (t := am_t159) rfl 2 rfl ⟨trivial, trivial, trivial⟩ ?_
    refine am_Rn.call (t := am_t159) rfl rfl (mm_isPerson ..) ?_
    rintro _ _ ⟨rfl, rfl⟩
    refine am_Rn.go (t := am_t159) rfl 1 rfl ⟨trivial, trivial⟩ ?_
    refine am_Rn.brB (fun h2 => ?_) (fun h2 => ?_)
    · skip
      refine am_Rn.go (t := am_t159) rfl 1 rfl ⟨trivial, trivial⟩ ?_
      refine am_Rn.ret (t := am_t159) rfl rfl trivial ?_
      exact ⟨rfl, rfl⟩
    · skip
      exact absurd ⟨(by assumption), (by assumption)⟩ hw
theorem mm_ride_F (sc : am_Sc) (w v : Int32) (hw : ¬ ((0 ≤ w ∧ w ≤ 2) ∧ (0 ≤ v ∧ v ≤ 99))) (tr : Int64) (ty nx tk pl va fa dp cm : Int32) (tx nu dn la me tc ts ps : Nat → Int32) (P : Nat) (rd pr pv sa pd lo : Int32) (bo co sh se si er of_ sp ke ik bi bt so nr ou ho cl : Nat → Int32) (B0 B1 B2 B3 B4 B5 B6 B7 B8 B9 B10 B11 B12 : List am_E) (Bs : am_M) : am_Rn sc 146 (0, am_entry 146 [.ref 416, .int w, .int v], [], B0 :: B1 :: B2 :: B3 :: B4 :: B5 :: B6 :: B7 :: B8 :: B9 :: B10 :: B11 :: B12 :: bkModel tr ty nx tk pl va fa (Int32.ofNat P) dp cm tx (mp_ru nu dn) (mp_ps (mp_q la me tc ts) ps) (mp_s rd pr pv sa pd lo bo co sh se si er of_) sp ke ik bi bt so nr ou ho cl :: Bs) (fun r M' => r = some (.int (-1)) ∧ M' = B0 :: B1 :: B2 :: B3 :: B4 :: B5 :: B6 :: B7 :: B8 :: B9 :: B10 :: B11 :: B12 :: bkModel tr ty nx tk pl va fa (Int32.ofNat P) dp cm tx (mp_ru nu dn) (mp_ps (mp_q la me tc ts) ps) (mp_s rd pr pv sa pd lo bo co sh se si er of_) sp ke ik bi bt so nr ou ho cl :: Bs) := by
  show am_Rn sc 146 (0, [some (.ref 416), some (.int w), some (.int v), none], [], _) _
  refine am_Rn.go (t := am_t146) rfl 6 rfl ⟨trivial, trivial, trivial, trivial, trivial, trivial, trivial⟩ ?_
  refine am_Rn.call (t := am_t146) rfl rfl (sx_in ..) ?_
  rintro _ _ ⟨rfl, rfl⟩
  refine am_Rn.go (t := am_t146) rfl 1 rfl ⟨trivial, trivial⟩ ?_
  refine am_Rn.brB (fun h1 => ?_) (fun h1 => ?_)
  · skip
    refine am_Rn.go (t := am_t146) rfl 1 rfl ⟨trivial, trivial⟩ ?_
    refine am_Rn.ret (t := am_t146) rfl rfl trivial ?_
    exact ⟨rfl, rfl⟩
  · skip
    refine am_Rn.go (t := am_t146) rfl 3 rfl ⟨trivial, trivial, trivial, trivial⟩ ?_
    refine am_Rn.call (t := am_t146) rfl rfl (sx_in ..) ?_
    rintro _ _ ⟨rfl, rfl⟩
    refine am_Rn.go (t := am_t146) rfl 1 rfl ⟨trivial, trivial⟩ ?_
    refine am_Rn.brB (fun h2 => ?_) (fun h2 => ?_)
    · skip
      refine am_Rn.go (t := am_t146) rfl 1 rfl ⟨trivial, trivial⟩ ?_
      refine am_Rn.ret (t := am_t146) rfl rfl trivial ?_
      exact ⟨rfl, rfl⟩
    · skip
      exact absurd ⟨(by assumption), (by assumption)⟩ hw
theorem mm_ride_T (sc : am_Sc) (w : Nat) (hw : w < 3) (v : Int32) (hv : 0 ≤ v ∧ v ≤ 99) (tr : Int64) (ty nx tk pl va fa dp cm : Int32) (tx nu dn la me tc ts ps : Nat → Int32) (P : Nat) (rd pr pv sa pd lo : Int32) (bo co sh se si er of_ sp ke ik bi bt so nr ou ho cl : Nat → Int32) (B0 B1 B2 B3 B4 B5 B6 B7 B8 B9 B10 B11 B12 : List am_E) (Bs : am_M) : am_Rn sc 146 (0, am_entry 146 [.ref 416, .int (Int32.ofNat w), .int v], [], B0 :: B1 :: B2 :: B3 :: B4 :: B5 :: B6 :: B7 :: B8 :: B9 :: B10 :: B11 :: B12 :: bkModel tr ty nx tk pl va fa (Int32.ofNat P) dp cm tx (mp_ru nu dn) (mp_ps (mp_q la me tc ts) ps) (mp_s rd pr pv sa pd lo bo co sh se si er of_) sp ke ik bi bt so nr ou ho cl :: Bs) (fun r M' => r = some (.int (nr w)) ∧ M' = B0 :: B1 :: B2 :: B3 :: B4 :: B5 :: B6 :: B7 :: B8 :: B9 :: B10 :: B11 :: B12 :: bkModel tr ty nx tk pl va fa (Int32.ofNat P) dp cm tx (mp_ru nu dn) (mp_ps (mp_q la me tc ts) ps) (mp_s rd pr pv sa pd lo bo co sh se si er of_) sp ke ik bi bt so (upd nr w v) ou ho cl :: Bs) := by
  show am_Rn sc 146 (0, [some (.ref 416), some (.int (Int32.ofNat w)), some (.int v), none], [], _) _
  have e1 : (Int32.ofNat w).toNatClampNeg = w := am_tn w (by omega)
  refine am_Rn.go (t := am_t146) rfl 6 rfl ⟨trivial, trivial, trivial, trivial, trivial, trivial, trivial⟩ ?_
  refine am_Rn.call (t := am_t146) rfl rfl (sx_in ..) ?_
  rintro _ _ ⟨rfl, rfl⟩
  refine am_Rn.go (t := am_t146) rfl 1 rfl ⟨trivial, trivial⟩ ?_
  refine am_Rn.brF (fun z => am_b0.mp z (am_rng2 (k := 2) (by omega) (by omega))) ?_
  refine am_Rn.go (t := am_t146) rfl 3 rfl ⟨trivial, trivial, trivial, trivial⟩ ?_
  refine am_Rn.call (t := am_t146) rfl rfl (sx_in ..) ?_
  rintro _ _ ⟨rfl, rfl⟩
  refine am_Rn.go (t := am_t146) rfl 1 rfl ⟨trivial, trivial⟩ ?_
  refine am_Rn.brF (fun z => am_b0.mp z hv) ?_
  refine am_Rn.go (t := am_t146) rfl 10 rfl ⟨trivial, trivial, trivial, (by first | exact am_inb_lit rfl | exact am_inb_of (by omega) (by omega)), trivial, trivial, trivial, trivial, trivial, (by first | exact am_inb_lit rfl | exact am_inb_of (by omega) (by omega)), trivial⟩ ?_
  show am_Rn sc 146 (25, _, _, B0 :: B1 :: B2 :: B3 :: B4 :: B5 :: B6 :: B7 :: B8 :: B9 :: B10 :: B11 :: B12 :: bkModel tr ty nx tk pl va fa (Int32.ofNat P) dp cm tx (mp_ru nu dn) (mp_ps (mp_q la me tc ts) ps) (mp_s rd pr pv sa pd lo bo co sh se si er of_) sp ke ik bi bt so (upd nr (Int32.ofNat w).toNatClampNeg v) ou ho cl :: Bs) _
  rw [e1]
  refine am_Rn.go (t := am_t146) rfl 1 rfl ⟨trivial, trivial⟩ ?_
  refine am_Rn.ret (t := am_t146) rfl rfl trivial ?_
  exact ⟨rfl, rfl⟩
theorem mm_hold_F (sc : am_Sc) (a b v : Int32) (hw : ¬ ((0 ≤ a ∧ a ≤ 9) ∧ (0 ≤ b ∧ b ≤ 9))) (tr : Int64) (ty nx tk pl va fa dp cm : Int32) (tx nu dn la me tc ts ps : Nat → Int32) (P : Nat) (rd pr pv sa pd lo : Int32) (bo co sh se si er of_ sp ke ik bi bt so nr ou ho cl : Nat → Int32) (B0 B1 B2 B3 B4 B5 B6 B7 B8 B9 B10 B11 B12 : List am_E) (Bs : am_M) : am_Rn sc 151 (0, am_entry 151 [.ref 416, .int a, .int b, .int v], [], B0 :: B1 :: B2 :: B3 :: B4 :: B5 :: B6 :: B7 :: B8 :: B9 :: B10 :: B11 :: B12 :: bkModel tr ty nx tk pl va fa (Int32.ofNat P) dp cm tx (mp_ru nu dn) (mp_ps (mp_q la me tc ts) ps) (mp_s rd pr pv sa pd lo bo co sh se si er of_) sp ke ik bi bt so nr ou ho cl :: Bs) (fun r M' => r = some (.int (-1)) ∧ M' = B0 :: B1 :: B2 :: B3 :: B4 :: B5 :: B6 :: B7 :: B8 :: B9 :: B10 :: B11 :: B12 :: bkModel tr ty nx tk pl va fa (Int32.ofNat P) dp cm tx (mp_ru nu dn) (mp_ps (mp_q la me tc ts) ps) (mp_s rd pr pv sa pd lo bo co sh se si er of_) sp ke ik bi bt so nr ou ho cl :: Bs) := by
  show am_Rn sc 151 (0, [some (.ref 416), some (.int a), some (.int b), some (.int v)], [], _) _
  refine am_Rn.go (t := am_t151) rfl 6 rfl ⟨trivial, trivial, trivial, trivial, trivial, trivial, trivial⟩ ?_
  refine am_Rn.call (t := am_t151) rfl rfl (sx_in ..) ?_
  rintro _ _ ⟨rfl, rfl⟩
  refine am_Rn.go (t := am_t151) rfl 1 rfl ⟨trivial, trivial⟩ ?_
  refine am_Rn.brB (fun h1 => ?_) (fun h1 => ?_)
  · skip
    refine am_Rn.go (t := am_t151) rfl 1 rfl ⟨trivial, trivial⟩ ?_
    refine am_Rn.ret (t := am_t151) rfl rfl trivial ?_
    exact ⟨rfl, rfl⟩
  · skip
    refine am_Rn.go (t := am_t151) rfl 3 rfl ⟨trivial, trivial, trivial, trivial⟩ ?_
    refine am_Rn.call (t := am_t151) rfl rfl (sx_in ..) ?_
    rintro _ _ ⟨rfl, rfl⟩
    refine am_Rn.go (t := am_t151) rfl 1 rfl ⟨trivial, trivial⟩ ?_
    refine am_Rn.brB (fun h2 => ?_) (fun h2 => ?_)
    · skip
      refine am_Rn.go (t := am_t151) rfl 1 rfl ⟨trivial, trivial⟩ ?_
      refine am_Rn.ret (t := am_t151) rfl rfl trivial ?_
      exact ⟨rfl, rfl⟩
    · skip
      exact absurd ⟨(by assumption), (by assumption)⟩ hw
theorem mm_hold_V (sc : am_Sc) (a b : Nat) (ha : a ≤ 9) (hb : b ≤ 9) (ho : Nat → Int32) (v : Int32) (hv : ¬ (0 ≤ v ∧ v ≤ ho a)) (tr : Int64) (ty nx tk pl va fa dp cm : Int32) (tx nu dn la me tc ts ps : Nat → Int32) (P : Nat) (rd pr pv sa pd lo : Int32) (bo co sh se si er of_ sp ke ik bi bt so nr ou cl : Nat → Int32) (B0 B1 B2 B3 B4 B5 B6 B7 B8 B9 B10 B11 B12 : List am_E) (Bs : am_M) : am_Rn sc 151 (0, am_entry 151 [.ref 416, .int (Int32.ofNat a), .int (Int32.ofNat b), .int v], [], B0 :: B1 :: B2 :: B3 :: B4 :: B5 :: B6 :: B7 :: B8 :: B9 :: B10 :: B11 :: B12 :: bkModel tr ty nx tk pl va fa (Int32.ofNat P) dp cm tx (mp_ru nu dn) (mp_ps (mp_q la me tc ts) ps) (mp_s rd pr pv sa pd lo bo co sh se si er of_) sp ke ik bi bt so nr ou ho cl :: Bs) (fun r M' => r = some (.int (-1)) ∧ M' = B0 :: B1 :: B2 :: B3 :: B4 :: B5 :: B6 :: B7 :: B8 :: B9 :: B10 :: B11 :: B12 :: bkModel tr ty nx tk pl va fa (Int32.ofNat P) dp cm tx (mp_ru nu dn) (mp_ps (mp_q la me tc ts) ps) (mp_s rd pr pv sa pd lo bo co sh se si er of_) sp ke ik bi bt so nr ou ho cl :: Bs) := by
  show am_Rn sc 151 (0, [some (.ref 416), some (.int (Int32.ofNat a)), some (.int (Int32.ofNat b)), some (.int v)], [], _) _
  have ea : (Int32.ofNat a).toNatClampNeg = a := am_tn a (by omega)
  have eb : (Int32.ofNat b).toNatClampNeg = b := am_tn b (by omega)
  refine am_Rn.go (t := am_t151) rfl 6 rfl ⟨trivial, trivial, trivial, trivial, trivial, trivial, trivial⟩ ?_
  refine am_Rn.call (t := am_t151) rfl rfl (sx_in ..) ?_
  rintro _ _ ⟨rfl, rfl⟩
  refine am_Rn.go (t := am_t151) rfl 1 rfl ⟨trivial, trivial⟩ ?_
  refine am_Rn.brF (fun z => am_b0.mp z (am_rng2 (k := 9) (by omega) ha)) ?_
  refine am_Rn.go (t := am_t151) rfl 3 rfl ⟨trivial, trivial, trivial, trivial⟩ ?_
  refine am_Rn.call (t := am_t151) rfl rfl (sx_in ..) ?_
  rintro _ _ ⟨rfl, rfl⟩
  refine am_Rn.go (t := am_t151) rfl 1 rfl ⟨trivial, trivial⟩ ?_
  refine am_Rn.brF (fun z => am_b0.mp z (am_rng2 (k := 9) (by omega) hb)) ?_
  refine am_Rn.go (t := am_t151) rfl 6 rfl ⟨trivial, trivial, trivial, trivial, trivial, (by first | exact am_inb_lit rfl | exact am_inb_of (by omega) (by omega)), trivial⟩ ?_
  refine am_Rn.call (t := am_t151) rfl rfl (sx_in ..) ?_
  rintro _ _ ⟨rfl, rfl⟩
  refine am_Rn.go (t := am_t151) rfl 1 rfl ⟨trivial, trivial⟩ ?_
  refine am_Rn.brT (am_b0.mpr (by rw [ea]; exact hv)) ?_
  refine am_Rn.go (t := am_t151) rfl 1 rfl ⟨trivial, trivial⟩ ?_
  refine am_Rn.ret (t := am_t151) rfl rfl trivial ?_
  exact ⟨rfl, rfl⟩
theorem mm_hold_T (sc : am_Sc) (a b : Nat) (ha : a ≤ 9) (hb : b ≤ 9) (ho : Nat → Int32) (v : Int32) (hv : 0 ≤ v ∧ v ≤ ho a) (tr : Int64) (ty nx tk pl va fa dp cm : Int32) (tx nu dn la me tc ts ps : Nat → Int32) (P : Nat) (rd pr pv sa pd lo : Int32) (bo co sh se si er of_ sp ke ik bi bt so nr ou cl : Nat → Int32) (B0 B1 B2 B3 B4 B5 B6 B7 B8 B9 B10 B11 B12 : List am_E) (Bs : am_M) : am_Rn sc 151 (0, am_entry 151 [.ref 416, .int (Int32.ofNat a), .int (Int32.ofNat b), .int v], [], B0 :: B1 :: B2 :: B3 :: B4 :: B5 :: B6 :: B7 :: B8 :: B9 :: B10 :: B11 :: B12 :: bkModel tr ty nx tk pl va fa (Int32.ofNat P) dp cm tx (mp_ru nu dn) (mp_ps (mp_q la me tc ts) ps) (mp_s rd pr pv sa pd lo bo co sh se si er of_) sp ke ik bi bt so nr ou ho cl :: Bs) (fun r M' => r = some (.int ((upd (upd ho a (ho a - v)) b ((upd ho a (ho a - v)) b + v)) b)) ∧ M' = B0 :: B1 :: B2 :: B3 :: B4 :: B5 :: B6 :: B7 :: B8 :: B9 :: B10 :: B11 :: B12 :: bkModel tr ty nx tk pl va fa (Int32.ofNat P) dp cm tx (mp_ru nu dn) (mp_ps (mp_q la me tc ts) ps) (mp_s rd pr pv sa pd lo bo co sh se si er of_) sp ke ik bi bt so nr ou (upd (upd ho a (ho a - v)) b ((upd ho a (ho a - v)) b + v)) cl :: Bs) := by
  show am_Rn sc 151 (0, [some (.ref 416), some (.int (Int32.ofNat a)), some (.int (Int32.ofNat b)), some (.int v)], [], _) _
  have ea : (Int32.ofNat a).toNatClampNeg = a := am_tn a (by omega)
  have eb : (Int32.ofNat b).toNatClampNeg = b := am_tn b (by omega)
  refine am_Rn.go (t := am_t151) rfl 6 rfl ⟨trivial, trivial, trivial, trivial, trivial, trivial, trivial⟩ ?_
  refine am_Rn.call (t := am_t151) rfl rfl (sx_in ..) ?_
  rintro _ _ ⟨rfl, rfl⟩
  refine am_Rn.go (t := am_t151) rfl 1 rfl ⟨trivial, trivial⟩ ?_
  refine am_Rn.brF (fun z => am_b0.mp z (am_rng2 (k := 9) (by omega) ha)) ?_
  refine am_Rn.go (t := am_t151) rfl 3 rfl ⟨trivial, trivial, trivial, trivial⟩ ?_
  refine am_Rn.call (t := am_t151) rfl rfl (sx_in ..) ?_
  rintro _ _ ⟨rfl, rfl⟩
  refine am_Rn.go (t := am_t151) rfl 1 rfl ⟨trivial, trivial⟩ ?_
  refine am_Rn.brF (fun z => am_b0.mp z (am_rng2 (k := 9) (by omega) hb)) ?_
  refine am_Rn.go (t := am_t151) rfl 6 rfl ⟨trivial, trivial, trivial, trivial, trivial, (by first | exact am_inb_lit rfl | exact am_inb_of (by omega) (by omega)), trivial⟩ ?_
  refine am_Rn.call (t := am_t151) rfl rfl (sx_in ..) ?_
  rintro _ _ ⟨rfl, rfl⟩
  refine am_Rn.go (t := am_t151) rfl 1 rfl ⟨trivial, trivial⟩ ?_
  refine am_Rn.brF (fun z => am_b0.mp z (by rw [ea]; exact hv)) ?_
  refine am_Rn.go (t := am_t151) rfl 8 rfl ⟨trivial, trivial, trivial, trivial, (by first | exact am_inb_lit rfl | exact am_inb_of (by omega) (by omega)), trivial, trivial, (by first | exact am_inb_lit rfl | exact am_inb_of (by omega) (by omega)), trivial⟩ ?_
  show am_Rn sc 151 (31, _, _, B0 :: B1 :: B2 :: B3 :: B4 :: B5 :: B6 :: B7 :: B8 :: B9 :: B10 :: B11 :: B12 :: bkModel tr ty nx tk pl va fa (Int32.ofNat P) dp cm tx (mp_ru nu dn) (mp_ps (mp_q la me tc ts) ps) (mp_s rd pr pv sa pd lo bo co sh se si er of_) sp ke ik bi bt so nr ou (upd ho (Int32.ofNat a).toNatClampNeg (ho (Int32.ofNat a).toNatClampNeg - v)) cl :: Bs) _
  rw [ea]
  refine am_Rn.go (t := am_t151) rfl 8 rfl ⟨trivial, trivial, trivial, trivial, (by first | exact am_inb_lit rfl | exact am_inb_of (by omega) (by omega)), trivial, trivial, (by first | exact am_inb_lit rfl | exact am_inb_of (by omega) (by omega)), trivial⟩ ?_
  show am_Rn sc 151 (39, _, _, B0 :: B1 :: B2 :: B3 :: B4 :: B5 :: B6 :: B7 :: B8 :: B9 :: B10 :: B11 :: B12 :: bkModel tr ty nx tk pl va fa (Int32.ofNat P) dp cm tx (mp_ru nu dn) (mp_ps (mp_q la me tc ts) ps) (mp_s rd pr pv sa pd lo bo co sh se si er of_) sp ke ik bi bt so nr ou (upd (upd ho a (ho a - v)) (Int32.ofNat b).toNatClampNeg ((upd ho a (ho a - v)) (Int32.ofNat b).toNatClampNeg + v)) cl :: Bs) _
  rw [eb]
  refine am_Rn.go (t := am_t151) rfl 4 rfl ⟨trivial, trivial, trivial, (by first | exact am_inb_lit rfl | exact am_inb_of (by omega) (by omega)), trivial⟩ ?_
  refine am_Rn.ret (t := am_t151) rfl rfl trivial ?_
  refine ⟨congrArg (fun z => some (Value.int z)) ?_, rfl⟩
  rw [eb]
theorem mm_clue_F (sc : am_Sc) (v : Int32) (hv : ¬ (0 ≤ v ∧ v ≤ 999)) (tr : Int64) (ty nx tk pl va fa dp cm : Int32) (tx nu dn la me tc ts ps : Nat → Int32) (P : Nat) (rd pr pv sa pd lo : Int32) (bo co sh se si er of_ sp ke ik bi bt so nr ou ho cl : Nat → Int32) (B0 B1 B2 B3 B4 B5 B6 B7 B8 B9 B10 B11 B12 : List am_E) (Bs : am_M) : am_Rn sc 153 (0, am_entry 153 [.ref 416, .int v], [], B0 :: B1 :: B2 :: B3 :: B4 :: B5 :: B6 :: B7 :: B8 :: B9 :: B10 :: B11 :: B12 :: bkModel tr ty nx tk pl va fa (Int32.ofNat P) dp cm tx (mp_ru nu dn) (mp_ps (mp_q la me tc ts) ps) (mp_s rd pr pv sa pd lo bo co sh se si er of_) sp ke ik bi bt so nr ou ho cl :: Bs) (fun r M' => r = some (.int (-1)) ∧ M' = B0 :: B1 :: B2 :: B3 :: B4 :: B5 :: B6 :: B7 :: B8 :: B9 :: B10 :: B11 :: B12 :: bkModel tr ty nx tk pl va fa (Int32.ofNat P) dp cm tx (mp_ru nu dn) (mp_ps (mp_q la me tc ts) ps) (mp_s rd pr pv sa pd lo bo co sh se si er of_) sp ke ik bi bt so nr ou ho cl :: Bs) := by
  show am_Rn sc 153 (0, [some (.ref 416), some (.int v)], [], _) _
  refine am_Rn.go (t := am_t153) rfl 6 rfl ⟨trivial, trivial, trivial, trivial, trivial, trivial, trivial⟩ ?_
  refine am_Rn.call (t := am_t153) rfl rfl (sx_in ..) ?_
  rintro _ _ ⟨rfl, rfl⟩
  refine am_Rn.go (t := am_t153) rfl 1 rfl ⟨trivial, trivial⟩ ?_
  refine am_Rn.brT (am_b0.mpr hv) ?_
  refine am_Rn.go (t := am_t153) rfl 1 rfl ⟨trivial, trivial⟩ ?_
  refine am_Rn.ret (t := am_t153) rfl rfl trivial ?_
  exact ⟨rfl, rfl⟩
theorem mm_clue_U (sc : am_Sc) (v : Int32) (hv : 0 ≤ v ∧ v ≤ 999) (C : Nat) (hu : C = 12) (tr : Int64) (ty nx tk pl va fa dp : Int32) (tx nu dn la me tc ts ps : Nat → Int32) (P : Nat) (rd pr pv sa pd lo : Int32) (bo co sh se si er of_ sp ke ik bi bt so nr ou ho cl : Nat → Int32) (B0 B1 B2 B3 B4 B5 B6 B7 B8 B9 B10 B11 B12 : List am_E) (Bs : am_M) : am_Rn sc 153 (0, am_entry 153 [.ref 416, .int v], [], B0 :: B1 :: B2 :: B3 :: B4 :: B5 :: B6 :: B7 :: B8 :: B9 :: B10 :: B11 :: B12 :: bkModel tr ty nx tk pl va fa (Int32.ofNat P) dp (Int32.ofNat C) tx (mp_ru nu dn) (mp_ps (mp_q la me tc ts) ps) (mp_s rd pr pv sa pd lo bo co sh se si er of_) sp ke ik bi bt so nr ou ho cl :: Bs) (fun r M' => r = some (.int (-3)) ∧ M' = B0 :: B1 :: B2 :: B3 :: B4 :: B5 :: B6 :: B7 :: B8 :: B9 :: B10 :: B11 :: B12 :: bkModel tr ty nx tk pl va fa (Int32.ofNat P) dp (Int32.ofNat C) tx (mp_ru nu dn) (mp_ps (mp_q la me tc ts) ps) (mp_s rd pr pv sa pd lo bo co sh se si er of_) sp ke ik bi bt so nr ou ho cl :: Bs) := by
  show am_Rn sc 153 (0, [some (.ref 416), some (.int v)], [], _) _
  refine am_Rn.go (t := am_t153) rfl 6 rfl ⟨trivial, trivial, trivial, trivial, trivial, trivial, trivial⟩ ?_
  refine am_Rn.call (t := am_t153) rfl rfl (sx_in ..) ?_
  rintro _ _ ⟨rfl, rfl⟩
  refine am_Rn.go (t := am_t153) rfl 1 rfl ⟨trivial, trivial⟩ ?_
  refine am_Rn.brF (fun z => am_b0.mp z hv) ?_
  refine am_Rn.go (t := am_t153) rfl 4 rfl ⟨trivial, trivial, trivial, trivial, trivial⟩ ?_
  refine am_Rn.brT (by rw [hu]; rfl) ?_
  refine am_Rn.go (t := am_t153) rfl 1 rfl ⟨trivial, trivial⟩ ?_
  refine am_Rn.ret (t := am_t153) rfl rfl trivial ?_
  exact ⟨rfl, rfl⟩
theorem mm_clue_T (sc : am_Sc) (v : Int32) (hv : 0 ≤ v ∧ v ≤ 999) (C : Nat) (hu : C < 12) (tr : Int64) (ty nx tk pl va fa dp : Int32) (tx nu dn la me tc ts ps : Nat → Int32) (P : Nat) (rd pr pv sa pd lo : Int32) (bo co sh se si er of_ sp ke ik bi bt so nr ou ho cl : Nat → Int32) (B0 B1 B2 B3 B4 B5 B6 B7 B8 B9 B10 B11 B12 : List am_E) (Bs : am_M) : am_Rn sc 153 (0, am_entry 153 [.ref 416, .int v], [], B0 :: B1 :: B2 :: B3 :: B4 :: B5 :: B6 :: B7 :: B8 :: B9 :: B10 :: B11 :: B12 :: bkModel tr ty nx tk pl va fa (Int32.ofNat P) dp (Int32.ofNat C) tx (mp_ru nu dn) (mp_ps (mp_q la me tc ts) ps) (mp_s rd pr pv sa pd lo bo co sh se si er of_) sp ke ik bi bt so nr ou ho cl :: Bs) (fun r M' => r = some (.int (Int32.ofNat (C + 1))) ∧ M' = B0 :: B1 :: B2 :: B3 :: B4 :: B5 :: B6 :: B7 :: B8 :: B9 :: B10 :: B11 :: B12 :: bkModel tr ty nx tk pl va fa (Int32.ofNat P) dp (Int32.ofNat (C + 1)) tx (mp_ru nu dn) (mp_ps (mp_q la me tc ts) ps) (mp_s rd pr pv sa pd lo bo co sh se si er of_) sp ke ik bi bt so nr ou ho (upd cl C v) :: Bs) := by
  show am_Rn sc 153 (0, [some (.ref 416), some (.int v)], [], _) _
  have e1 : (Int32.ofNat C).toNatClampNeg = C := am_tn C (by omega)
  refine am_Rn.go (t := am_t153) rfl 6 rfl ⟨trivial, trivial, trivial, trivial, trivial, trivial, trivial⟩ ?_
  refine am_Rn.call (t := am_t153) rfl rfl (sx_in ..) ?_
  rintro _ _ ⟨rfl, rfl⟩
  refine am_Rn.go (t := am_t153) rfl 1 rfl ⟨trivial, trivial⟩ ?_
  refine am_Rn.brF (fun z => am_b0.mp z hv) ?_
  refine am_Rn.go (t := am_t153) rfl 4 rfl ⟨trivial, trivial, trivial, trivial, trivial⟩ ?_
  refine am_Rn.brF (fun q => absurd ((am_eqi (j := 12) (by omega) (by omega)).mp q) (by omega)) ?_
  refine am_Rn.go (t := am_t153) rfl 6 rfl ⟨trivial, trivial, trivial, trivial, trivial, (by first | exact am_inb_lit rfl | exact am_inb_of (by omega) (by omega)), trivial⟩ ?_
  show am_Rn sc 153 (22, _, _, B0 :: B1 :: B2 :: B3 :: B4 :: B5 :: B6 :: B7 :: B8 :: B9 :: B10 :: B11 :: B12 :: bkModel tr ty nx tk pl va fa (Int32.ofNat P) dp (Int32.ofNat C) tx (mp_ru nu dn) (mp_ps (mp_q la me tc ts) ps) (mp_s rd pr pv sa pd lo bo co sh se si er of_) sp ke ik bi bt so nr ou ho (upd cl (Int32.ofNat C).toNatClampNeg v) :: Bs) _
  rw [e1]
  refine am_Rn.go (t := am_t153) rfl 6 rfl ⟨trivial, trivial, trivial, trivial, trivial, trivial, trivial⟩ ?_
  show am_Rn sc 153 (28, _, _, B0 :: B1 :: B2 :: B3 :: B4 :: B5 :: B6 :: B7 :: B8 :: B9 :: B10 :: B11 :: B12 :: bkModel tr ty nx tk pl va fa (Int32.ofNat P) dp (Int32.ofNat C + 1) tx (mp_ru nu dn) (mp_ps (mp_q la me tc ts) ps) (mp_s rd pr pv sa pd lo bo co sh se si er of_) sp ke ik bi bt so nr ou ho (upd cl C v) :: Bs) _
  rw [am_inc]
  refine am_Rn.go (t := am_t153) rfl 2 rfl ⟨trivial, trivial, trivial⟩ ?_
  refine am_Rn.ret (t := am_t153) rfl rfl trivial ?_
  exact ⟨rfl, rfl⟩

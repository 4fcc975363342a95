/-! ===== what the calls answer ===== -/
def bkMain (tr : Int64) : List am_E := [.inr (6, [.ref 32, .ref 64, .ref 128, .ref 160, .ref 192, .ref 224, .ref 288, .ref 352, .ref 384, .long tr])]
def bkImg (o : Nat) (k : Int32) : List am_E := [.inr (1, [.ref o, .int k])]
theorem am_pers {P : Nat} {p : Int32} (hP : P ≤ 9) (h : 0 ≤ p ∧ p ≤ Int32.ofNat P - 1) : ∃ q, q < P ∧ p = Int32.ofNat q := by
  have h1 := Int32.le_iff_toInt_le.mp h.1
  have h2 := Int32.le_iff_toInt_le.mp h.2
  have z : (0 : Int32).toInt = 0 := rfl
  rcases P with _ | P
  · have : (Int32.ofNat 0 - 1).toInt = -1 := rfl
    omega
  · rw [show Int32.ofNat (P + 1) - 1 = Int32.ofNat P from dec_ofNat P, am_ofN P (by omega)] at h2
    refine ⟨p.toInt.toNat, by omega, ?_⟩
    apply Int32.toInt_inj.mp
    rw [am_ofN _ (by omega)]
    omega
theorem am_pers2 {P q : Nat} (hP : P ≤ 9) (h : q < P) : 0 ≤ Int32.ofNat q ∧ Int32.ofNat q ≤ Int32.ofNat P - 1 := by
  rcases P with _ | P
  · omega
  · rw [show Int32.ofNat (P + 1) - 1 = Int32.ofNat P from dec_ofNat P]
    exact ⟨(am_le (i := 0) (by omega) (by omega)).mpr (by omega), (am_le (by omega) (by omega)).mpr (by omega)⟩
theorem am_rng {v : Int32} {k : Nat} (hk : k < 2147483648) (h : 0 ≤ v ∧ v ≤ Int32.ofNat k) : ∃ n, n ≤ k ∧ v = Int32.ofNat n := by
  have h1 := Int32.le_iff_toInt_le.mp h.1
  have h2 := Int32.le_iff_toInt_le.mp h.2
  have z : (0 : Int32).toInt = 0 := rfl
  rw [am_ofN k hk] at h2
  refine ⟨v.toInt.toNat, by omega, ?_⟩
  apply Int32.toInt_inj.mp
  rw [am_ofN _ (by omega)]
  omega
theorem am_rng2 {k n : Nat} (hk : k < 2147483648) (h : n ≤ k) : 0 ≤ Int32.ofNat n ∧ Int32.ofNat n ≤ Int32.ofNat k := ⟨(am_le (i := 0) (by omega) (by omega)).mpr (by omega), (am_le (by omega) (by omega)).mpr h⟩
theorem am_inbW {v : Int32} {k n : Nat} (hk : k < n) (hn : n ≤ 2147483648) (h : 0 ≤ v ∧ v ≤ Int32.ofNat k) : am_inb v n := by
  obtain ⟨m, hm, rfl⟩ := am_rng (by omega) h
  exact am_inb_of (by omega) hn
theorem am_over {nu : Nat → Int32} {N rn : Nat} (h0 : nu 0 = Int32.ofNat N) (hN : N ≤ 20) (hr : rn ≤ N) : (nu 0 ≤ Int32.ofNat rn ∨ 20 ≤ Int32.ofNat rn) ↔ N ≤ rn := by
  rw [h0, am_le (by omega) (by omega)]
  constructor
  · rintro (q | q)
    · exact q
    · have := (am_le (i := 20) (j := rn) (by omega) (by omega)).mp q
      omega
  · exact Or.inl
def an_rule (nu : Nat → Int32) (w : Int32) : Int32 := if 0 ≤ w ∧ w ≤ 9 then nu w.toNatClampNeg else -1
def an_person (nu la me co sh se : Nat → Int32) (rd pr pv : Int32) (q : Nat) (w : Int32) : Int32 := if w = 0 then la q else if w = 1 then me q else if w = 2 then co q else if w = 3 then sh q else if w = 4 then sp_val nu la me se rd pr pv q else if w = 5 then se q else -1000000
def an_worth (nu : Nat → Int32) (r w : Int32) : Int32 := if 0 ≤ r ∧ r ≤ nu 0 then (if 0 ≤ w ∧ w ≤ 1 then (if w = 0 then sp_worth nu r else sp_halves nu r) else -1) else -1
def an_odds (nu : Nat → Int32) (r k : Int32) : Int32 := if 0 ≤ r ∧ r ≤ nu 0 then (if 0 ≤ k ∧ k ≤ 279 then (am_fold ((nu 0 - r).toNatClampNeg + 1) (sp_oddOne nu (nu 0 - r).toNatClampNeg k) (0, 1)).1 else -1) else -1
def an_now (N rn : Nat) (pr pv sa pd w : Int32) : Int32 := if w = 0 then Int32.ofNat rn else if w = 1 then pr else if w = 2 then pv else if w = 3 then sa else if w = 4 then pd else if w = 5 then (if N ≤ rn then 1 else 0) else -1
def an_board (rn : Nat) (bo : Nat → Int32) (r : Int32) : Int32 := if 0 ≤ r ∧ r ≤ Int32.ofNat rn - 1 then bo r.toNatClampNeg else -1
def an_high (nu bo : Nat → Int32) (rn : Nat) (w : Int32) : Int32 := if w = 0 then sp_peak bo rn else if w = 1 then am_on (-9) (sp_pk bo rn) else if w = 2 then am_on (-9) (am_fold rn (sp_fallOne nu bo) (none, 0)).1 else if w = 3 then am_fold rn (sp_bubOne nu bo) 0 else -1
def an_said (er of_ : Nat → Int32) (q : Nat) (w : Int32) : Int32 := if 0 ≤ w ∧ w ≤ 1 then (if w = 0 then er q else of_ q) else -1
def an_count (P : Nat) (co sh : Nat → Int32) (C n : Int32) (w : Int32) : Int32 := if w = 0 then Int32.ofNat P else if w = 1 then am_fold P (sp_addOne sh) 0 else if w = 2 then am_fold P (sp_addOne co) 0 else if w = 3 then C else if w = 4 then n else -1
def an_out (nr ho : Nat → Int32) (w : Int32) : Int32 := if 0 ≤ w ∧ w ≤ 1 then (if w = 0 then Int32.ofNat (am_fold 10 (sp_bestOne nr ho) 0) else sp_mean nr ho (am_fold 10 (sp_bestOne nr ho) 0)) else -1
theorem sx_isPerson (sc : am_Sc) (p : Int32) (tr : Int64) (nu la me tc ts : Nat → Int32) (P : Nat) (hP : P ≤ 9) (Bs : am_M)  : am_Rn sc 89 (0, am_entry 89 [.ref 0, .int p], [], bkMain tr :: bkRules 32 nu la me tc ts (Int32.ofNat P) :: Bs) (fun r M' => r = some (.int (am_b (0 ≤ p ∧ p ≤ Int32.ofNat P - 1))) ∧ M' = bkMain tr :: bkRules 32 nu la me tc ts (Int32.ofNat P) :: Bs) := by
  show am_Rn sc 89 (0, [some (.ref 0), some (.int p)], [], _) _
  refine am_Rn.go (t := am_t89) rfl 7 rfl ⟨trivial, trivial, trivial, trivial, trivial, trivial, trivial, trivial⟩ ?_
  refine am_Rn.call (t := am_t89) rfl rfl (sx_isWithin ..) ?_
  rintro _ _ ⟨rfl, rfl⟩
  refine am_Rn.ret (t := am_t89) rfl rfl (by first | exact Or.inl rfl | exact Or.inr rfl | exact am_b01 _) ?_
  exact ⟨rfl, rfl⟩
theorem sx_rule (sc : am_Sc) (w : Int32) (tr : Int64) (nu la me tc ts : Nat → Int32) (P : Nat) (hP : P ≤ 9) (Bs : am_M)  : am_Rn sc 60 (0, am_entry 60 [.ref 0, .int w], [], bkMain tr :: bkRules 32 nu la me tc ts (Int32.ofNat P) :: Bs) (fun r M' => r = some (.int (an_rule nu w)) ∧ M' = bkMain tr :: bkRules 32 nu la me tc ts (Int32.ofNat P) :: Bs) := by
  show am_Rn sc 60 (0, [some (.ref 0), some (.int w)], [], _) _
  refine am_Rn.go (t := am_t60) rfl 3 rfl ⟨trivial, trivial, trivial, trivial⟩ ?_
  refine am_Rn.call (t := am_t60) rfl rfl (sx_isWithin ..) ?_
  rintro _ _ ⟨rfl, rfl⟩
  refine am_Rn.go (t := am_t60) rfl 1 rfl ⟨trivial, trivial⟩ ?_
  refine am_Rn.brB (fun h1 => ?_) (fun h1 => ?_)
  · skip
    refine am_Rn.go (t := am_t60) rfl 1 rfl ⟨trivial, trivial⟩ ?_
    refine am_Rn.ret (t := am_t60) rfl rfl trivial ?_
    refine ⟨congrArg (fun z => some (Value.int z)) ?_, rfl⟩
    simp [an_rule, *]
  · skip
    refine am_Rn.go (t := am_t60) rfl 6 rfl ⟨trivial, trivial, trivial, trivial, (by exact am_inbW (k := 9) (by omega) (by omega) (by assumption)), trivial, trivial⟩ ?_
    refine am_Rn.ret (t := am_t60) rfl rfl trivial ?_
    refine ⟨congrArg (fun z => some (Value.int z)) ?_, rfl⟩
    simp [an_rule, *]
theorem sx_person_F (sc : am_Sc) (p w : Int32) (tr : Int64) (nu la me tc ts : Nat → Int32) (P : Nat) (hP : P ≤ 9) (Bs : am_M) (hp : ¬ (0 ≤ p ∧ p ≤ Int32.ofNat P - 1)) : am_Rn sc 61 (0, am_entry 61 [.ref 0, .int p, .int w], [], bkMain tr :: bkRules 32 nu la me tc ts (Int32.ofNat P) :: Bs) (fun r M' => r = some (.int (-1000000)) ∧ M' = bkMain tr :: bkRules 32 nu la me tc ts (Int32.ofNat P) :: Bs) := by
  show am_Rn sc 61 (0, [some (.ref 0), some (.int p), some (.int w)], [], _) _
  refine am_Rn.go (t := am_t61) rfl 2 rfl ⟨trivial, trivial, trivial⟩ ?_
  refine am_Rn.call (t := am_t61) rfl rfl (sx_isPerson (hP := hP) ..) ?_
  rintro _ _ ⟨rfl, rfl⟩
  refine am_Rn.go (t := am_t61) rfl 1 rfl ⟨trivial, trivial⟩ ?_
  refine am_Rn.brT (am_b0.mpr hp) ?_
  refine am_Rn.go (t := am_t61) rfl 1 rfl ⟨trivial, trivial⟩ ?_
  refine am_Rn.ret (t := am_t61) rfl rfl trivial ?_
  exact ⟨rfl, rfl⟩
theorem sx_person_T (sc : am_Sc) (q : Nat) (w : Int32) (tr : Int64) (nu la me tc ts : Nat → Int32) (P : Nat) (hP : P ≤ 9) (rn : Nat) (pr pv sa pd lo : Int32) (bo co sh se si er of_ bi bt so : Nat → Int32) (B2 B3 : List am_E) (Bs : am_M) (hq : q < P) : am_Rn sc 61 (0, am_entry 61 [.ref 0, .int (Int32.ofNat q), .int w], [], bkMain tr :: bkRules 32 nu la me tc ts (Int32.ofNat P) :: B2 :: B3 :: bkRoom 128 32 (Int32.ofNat rn) pr pv sa pd lo bo co sh se si er of_ bi bt so :: Bs) (fun r M' => r = some (.int (an_person nu la me co sh se (Int32.ofNat rn) pr pv q w)) ∧ M' = bkMain tr :: bkRules 32 nu la me tc ts (Int32.ofNat P) :: B2 :: B3 :: bkRoom 128 32 (Int32.ofNat rn) pr pv sa pd lo bo co sh se si er of_ bi bt so :: Bs) := by
  show am_Rn sc 61 (0, [some (.ref 0), some (.int (Int32.ofNat q)), some (.int w)], [], _) _
  have e1 : (Int32.ofNat q).toNatClampNeg = q := am_tn q (by omega)
  refine am_Rn.go (t := am_t61) rfl 2 rfl ⟨trivial, trivial, trivial⟩ ?_
  refine am_Rn.call (t := am_t61) rfl rfl (sx_isPerson (hP := hP) ..) ?_
  rintro _ _ ⟨rfl, rfl⟩
  refine am_Rn.go (t := am_t61) rfl 1 rfl ⟨trivial, trivial⟩ ?_
  refine am_Rn.brF (fun z => am_b0.mp z (am_pers2 hP hq)) ?_
  refine am_Rn.go (t := am_t61) rfl 2 rfl ⟨trivial, trivial, trivial⟩ ?_
  refine am_Rn.br (fun h2_0 => ?_) (fun h2_0 => ?_)
  · skip
    refine am_Rn.go (t := am_t61) rfl 5 rfl ⟨trivial, trivial, trivial, trivial, (by first | exact am_inb_lit rfl | exact am_inb_of (by omega) (by omega)), trivial⟩ ?_
    refine am_Rn.ret (t := am_t61) rfl rfl trivial ?_
    refine ⟨congrArg (fun z => some (Value.int z)) ?_, rfl⟩
    simp [an_person, *]
  refine am_Rn.br (fun h2_1 => ?_) (fun h2_1 => ?_)
  · skip
    refine am_Rn.go (t := am_t61) rfl 5 rfl ⟨trivial, trivial, trivial, trivial, (by first | exact am_inb_lit rfl | exact am_inb_of (by omega) (by omega)), trivial⟩ ?_
    refine am_Rn.ret (t := am_t61) rfl rfl trivial ?_
    refine ⟨congrArg (fun z => some (Value.int z)) ?_, rfl⟩
    simp [an_person, *]
  refine am_Rn.br (fun h2_2 => ?_) (fun h2_2 => ?_)
  · skip
    refine am_Rn.go (t := am_t61) rfl 5 rfl ⟨trivial, trivial, trivial, trivial, (by first | exact am_inb_lit rfl | exact am_inb_of (by omega) (by omega)), trivial⟩ ?_
    refine am_Rn.ret (t := am_t61) rfl rfl trivial ?_
    refine ⟨congrArg (fun z => some (Value.int z)) ?_, rfl⟩
    simp [an_person, *]
  refine am_Rn.br (fun h2_3 => ?_) (fun h2_3 => ?_)
  · skip
    refine am_Rn.go (t := am_t61) rfl 5 rfl ⟨trivial, trivial, trivial, trivial, (by first | exact am_inb_lit rfl | exact am_inb_of (by omega) (by omega)), trivial⟩ ?_
    refine am_Rn.ret (t := am_t61) rfl rfl trivial ?_
    refine ⟨congrArg (fun z => some (Value.int z)) ?_, rfl⟩
    simp [an_person, *]
  refine am_Rn.br (fun h2_4 => ?_) (fun h2_4 => ?_)
  · skip
    refine am_Rn.go (t := am_t61) rfl 3 rfl ⟨trivial, trivial, trivial, trivial⟩ ?_
    refine am_Rn.call (t := am_t61) rfl rfl (sx_valueOf_A sc q (by omega) ..) ?_
    rintro _ _ ⟨rfl, rfl⟩
    refine am_Rn.ret (t := am_t61) rfl rfl trivial ?_
    refine ⟨congrArg (fun z => some (Value.int z)) ?_, rfl⟩
    simp [an_person, *]
  refine am_Rn.br (fun h2_5 => ?_) (fun h2_5 => ?_)
  · skip
    refine am_Rn.go (t := am_t61) rfl 5 rfl ⟨trivial, trivial, trivial, trivial, (by first | exact am_inb_lit rfl | exact am_inb_of (by omega) (by omega)), trivial⟩ ?_
    refine am_Rn.ret (t := am_t61) rfl rfl trivial ?_
    refine ⟨congrArg (fun z => some (Value.int z)) ?_, rfl⟩
    simp [an_person, *]
  refine am_Rn.go (t := am_t61) rfl 1 rfl ⟨trivial, trivial⟩ ?_
  refine am_Rn.ret (t := am_t61) rfl rfl trivial ?_
  refine ⟨congrArg (fun z => some (Value.int z)) ?_, rfl⟩
  simp [an_person, *]
theorem sx_worth (sc : am_Sc) (r0 w : Int32) (tr : Int64) (nu la me tc ts : Nat → Int32) (P : Nat) (hP : P ≤ 9) (Bs : am_M)  : am_Rn sc 62 (0, am_entry 62 [.ref 0, .int r0, .int w], [], bkMain tr :: bkRules 32 nu la me tc ts (Int32.ofNat P) :: Bs) (fun r M' => r = some (.int (an_worth nu r0 w)) ∧ M' = bkMain tr :: bkRules 32 nu la me tc ts (Int32.ofNat P) :: Bs) := by
  show am_Rn sc 62 (0, [some (.ref 0), some (.int r0), some (.int w)], [], _) _
  refine am_Rn.go (t := am_t62) rfl 7 rfl ⟨trivial, trivial, trivial, trivial, trivial, trivial, (by first | exact am_inb_lit rfl | exact am_inb_of (by omega) (by omega)), trivial⟩ ?_
  refine am_Rn.call (t := am_t62) rfl rfl (sx_isWithin ..) ?_
  rintro _ _ ⟨rfl, rfl⟩
  refine am_Rn.go (t := am_t62) rfl 1 rfl ⟨trivial, trivial⟩ ?_
  refine am_Rn.brB (fun h1 => ?_) (fun h1 => ?_)
  · skip
    have k1 : ¬ (0 ≤ r0 ∧ r0 ≤ nu 0) := h1
    refine am_Rn.go (t := am_t62) rfl 1 rfl ⟨trivial, trivial⟩ ?_
    refine am_Rn.ret (t := am_t62) rfl rfl trivial ?_
    refine ⟨congrArg (fun z => some (Value.int z)) ?_, rfl⟩
    unfold an_worth
    first
      | exact (if_neg k1).symm
      | (rw [if_pos k1]; simp [*])
  · skip
    have k1 : 0 ≤ r0 ∧ r0 ≤ nu 0 := h1
    refine am_Rn.go (t := am_t62) rfl 3 rfl ⟨trivial, trivial, trivial, trivial⟩ ?_
    refine am_Rn.call (t := am_t62) rfl rfl (sx_isWithin ..) ?_
    rintro _ _ ⟨rfl, rfl⟩
    refine am_Rn.go (t := am_t62) rfl 1 rfl ⟨trivial, trivial⟩ ?_
    refine am_Rn.brB (fun h2 => ?_) (fun h2 => ?_)
    · skip
      refine am_Rn.go (t := am_t62) rfl 1 rfl ⟨trivial, trivial⟩ ?_
      refine am_Rn.ret (t := am_t62) rfl rfl trivial ?_
      refine ⟨congrArg (fun z => some (Value.int z)) ?_, rfl⟩
      unfold an_worth
      first
        | exact (if_neg k1).symm
        | (rw [if_pos k1]; simp [*])
    · skip
      refine am_Rn.go (t := am_t62) rfl 2 rfl ⟨trivial, trivial, trivial⟩ ?_
      refine am_Rn.br (fun h3 => ?_) (fun h3 => ?_)
      · skip
        refine am_Rn.go (t := am_t62) rfl 3 rfl ⟨trivial, trivial, trivial, trivial⟩ ?_
        refine am_Rn.call (t := am_t62) rfl rfl (sx_worthIn_t ..) ?_
        rintro _ _ ⟨rfl, rfl⟩
        refine am_Rn.go (t := am_t62) rfl 1 rfl ⟨trivial, trivial⟩ ?_
        refine am_Rn.ret (t := am_t62) rfl rfl trivial ?_
        refine ⟨congrArg (fun z => some (Value.int z)) ?_, rfl⟩
        unfold an_worth
        first
          | exact (if_neg k1).symm
          | (rw [if_pos k1]; simp [*])
      · skip
        refine am_Rn.go (t := am_t62) rfl 3 rfl ⟨trivial, trivial, trivial, trivial⟩ ?_
        refine am_Rn.call (t := am_t62) rfl rfl (sx_halvesIn_t ..) ?_
        rintro _ _ ⟨rfl, rfl⟩
        refine am_Rn.ret (t := am_t62) rfl rfl trivial ?_
        refine ⟨congrArg (fun z => some (Value.int z)) ?_, rfl⟩
        unfold an_worth
        first
          | exact (if_neg k1).symm
          | (rw [if_pos k1]; simp [*])
theorem sx_odds (sc : am_Sc) (r0 k0 : Int32) (tr : Int64) (nu la me tc ts : Nat → Int32) (P : Nat) (hP : P ≤ 9) (Bs : am_M) (N : Nat) (h0 : nu 0 = Int32.ofNat N) (hN : N ≤ 20) : am_Rn sc 63 (0, am_entry 63 [.ref 0, .int r0, .int k0], [], bkMain tr :: bkRules 32 nu la me tc ts (Int32.ofNat P) :: Bs) (fun r M' => r = some (.int (an_odds nu r0 k0)) ∧ M' = bkMain tr :: bkRules 32 nu la me tc ts (Int32.ofNat P) :: Bs) := by
  show am_Rn sc 63 (0, [some (.ref 0), some (.int r0), some (.int k0)], [], _) _
  refine am_Rn.go (t := am_t63) rfl 7 rfl ⟨trivial, trivial, trivial, trivial, trivial, trivial, (by first | exact am_inb_lit rfl | exact am_inb_of (by omega) (by omega)), trivial⟩ ?_
  refine am_Rn.call (t := am_t63) rfl rfl (sx_isWithin ..) ?_
  rintro _ _ ⟨rfl, rfl⟩
  refine am_Rn.go (t := am_t63) rfl 1 rfl ⟨trivial, trivial⟩ ?_
  refine am_Rn.brB (fun h1 => ?_) (fun h1 => ?_)
  · skip
    have k1 : ¬ (0 ≤ r0 ∧ r0 ≤ nu 0) := h1
    refine am_Rn.go (t := am_t63) rfl 1 rfl ⟨trivial, trivial⟩ ?_
    refine am_Rn.ret (t := am_t63) rfl rfl trivial ?_
    refine ⟨congrArg (fun z => some (Value.int z)) ?_, rfl⟩
    unfold an_odds
    first
      | exact (if_neg k1).symm
      | (rw [if_pos k1]; exact (if_neg (by assumption)).symm)
      | (rw [if_pos k1, if_pos (by assumption : 0 ≤ k0 ∧ k0 ≤ 279), eD])
  · skip
    have k1 : 0 ≤ r0 ∧ r0 ≤ nu 0 := h1
    refine am_Rn.go (t := am_t63) rfl 3 rfl ⟨trivial, trivial, trivial, trivial⟩ ?_
    refine am_Rn.call (t := am_t63) rfl rfl (sx_isWithin ..) ?_
    rintro _ _ ⟨rfl, rfl⟩
    refine am_Rn.go (t := am_t63) rfl 1 rfl ⟨trivial, trivial⟩ ?_
    refine am_Rn.brB (fun h2 => ?_) (fun h2 => ?_)
    · skip
      refine am_Rn.go (t := am_t63) rfl 1 rfl ⟨trivial, trivial⟩ ?_
      refine am_Rn.ret (t := am_t63) rfl rfl trivial ?_
      refine ⟨congrArg (fun z => some (Value.int z)) ?_, rfl⟩
      unfold an_odds
      first
        | exact (if_neg k1).symm
        | (rw [if_pos k1]; exact (if_neg (by assumption)).symm)
        | (rw [if_pos k1, if_pos (by assumption : 0 ≤ k0 ∧ k0 ≤ 279), eD])
    · skip
      refine am_Rn.go (t := am_t63) rfl 4 rfl ⟨trivial, trivial, trivial, trivial, trivial⟩ ?_
      obtain ⟨D, hD20, hD⟩ : ∃ D : Nat, D ≤ 20 ∧ nu 0 - r0 = Int32.ofNat D := by
        have h := (by assumption : 0 ≤ r0 ∧ r0 ≤ nu 0)
        rw [h0] at h
        obtain ⟨m, hm, rfl⟩ := am_rng (by omega) h
        exact ⟨N - m, by omega, by rw [h0, am_sub_ofN hm (by omega)]⟩
      have eD : (nu 0 - r0).toNatClampNeg = D := by rw [hD]; exact am_tn D (by omega)
      refine am_Rn.call (t := am_t63) rfl rfl (sx_oddsOf sc r0 k0 D hD20 (hD := hD) ..) ?_
      rintro _ _ ⟨rfl, rfl⟩
      refine am_Rn.ret (t := am_t63) rfl rfl trivial ?_
      refine ⟨congrArg (fun z => some (Value.int z)) ?_, rfl⟩
      unfold an_odds
      first
        | exact (if_neg k1).symm
        | (rw [if_pos k1]; exact (if_neg (by assumption)).symm)
        | (rw [if_pos k1, if_pos (by assumption : 0 ≤ k0 ∧ k0 ≤ 279), eD])
theorem sx_now (sc : am_Sc) (w : Int32) (tr : Int64) (nu la me tc ts : Nat → Int32) (P : Nat) (hP : P ≤ 9) (rn : Nat) (pr pv sa pd lo : Int32) (bo co sh se si er of_ bi bt so : Nat → Int32) (B2 B3 : List am_E) (Bs : am_M) (N : Nat) (h0 : nu 0 = Int32.ofNat N) (hN : N ≤ 20) (hr : rn ≤ N) : am_Rn sc 65 (0, am_entry 65 [.ref 0, .int w], [], bkMain tr :: bkRules 32 nu la me tc ts (Int32.ofNat P) :: B2 :: B3 :: bkRoom 128 32 (Int32.ofNat rn) pr pv sa pd lo bo co sh se si er of_ bi bt so :: Bs) (fun r M' => r = some (.int (an_now N rn pr pv sa pd w)) ∧ M' = bkMain tr :: bkRules 32 nu la me tc ts (Int32.ofNat P) :: B2 :: B3 :: bkRoom 128 32 (Int32.ofNat rn) pr pv sa pd lo bo co sh se si er of_ bi bt so :: Bs) := by
  show am_Rn sc 65 (0, [some (.ref 0), some (.int w)], [], _) _
  refine am_Rn.go (t := am_t65) rfl 2 rfl ⟨trivial, trivial, trivial⟩ ?_
  refine am_Rn.br (fun h1_0 => ?_) (fun h1_0 => ?_)
  · skip
    refine am_Rn.go (t := am_t65) rfl 3 rfl ⟨trivial, trivial, trivial, trivial⟩ ?_
    refine am_Rn.ret (t := am_t65) rfl rfl trivial ?_
    refine ⟨congrArg (fun z => some (Value.int z)) ?_, rfl⟩
    simp [an_now, *]
  refine am_Rn.br (fun h1_1 => ?_) (fun h1_1 => ?_)
  · skip
    refine am_Rn.go (t := am_t65) rfl 3 rfl ⟨trivial, trivial, trivial, trivial⟩ ?_
    refine am_Rn.ret (t := am_t65) rfl rfl trivial ?_
    refine ⟨congrArg (fun z => some (Value.int z)) ?_, rfl⟩
    simp [an_now, *]
  refine am_Rn.br (fun h1_2 => ?_) (fun h1_2 => ?_)
  · skip
    refine am_Rn.go (t := am_t65) rfl 3 rfl ⟨trivial, trivial, trivial, trivial⟩ ?_
    refine am_Rn.ret (t := am_t65) rfl rfl trivial ?_
    refine ⟨congrArg (fun z => some (Value.int z)) ?_, rfl⟩
    simp [an_now, *]
  refine am_Rn.br (fun h1_3 => ?_) (fun h1_3 => ?_)
  · skip
    refine am_Rn.go (t := am_t65) rfl 3 rfl ⟨trivial, trivial, trivial, trivial⟩ ?_
    refine am_Rn.ret (t := am_t65) rfl rfl trivial ?_
    refine ⟨congrArg (fun z => some (Value.int z)) ?_, rfl⟩
    simp [an_now, *]
  refine am_Rn.br (fun h1_4 => ?_) (fun h1_4 => ?_)
  · skip
    refine am_Rn.go (t := am_t65) rfl 3 rfl ⟨trivial, trivial, trivial, trivial⟩ ?_
    refine am_Rn.ret (t := am_t65) rfl rfl trivial ?_
    refine ⟨congrArg (fun z => some (Value.int z)) ?_, rfl⟩
    simp [an_now, *]
  refine am_Rn.br (fun h1_5 => ?_) (fun h1_5 => ?_)
  · skip
    refine am_Rn.go (t := am_t65) rfl 2 rfl ⟨trivial, trivial, trivial⟩ ?_
    refine am_Rn.call (t := am_t65) rfl rfl (sx_isOver_A ..) ?_
    rintro _ _ ⟨rfl, rfl⟩
    refine am_Rn.go (t := am_t65) rfl 1 rfl ⟨trivial, trivial⟩ ?_
    refine am_Rn.brB (fun h2 => ?_) (fun h2 => ?_)
    · skip
      have k2 : ¬ N ≤ rn := fun q => h2 ((am_over h0 hN hr).mpr q)
      clear h2
      refine am_Rn.go (t := am_t65) rfl 1 rfl ⟨trivial, trivial⟩ ?_
      refine am_Rn.ret (t := am_t65) rfl rfl trivial ?_
      refine ⟨congrArg (fun z => some (Value.int z)) ?_, rfl⟩
      simp [an_now, *]
    · skip
      have k2 : N ≤ rn := (am_over h0 hN hr).mp h2
      clear h2
      refine am_Rn.go (t := am_t65) rfl 2 rfl ⟨trivial, trivial, trivial⟩ ?_
      refine am_Rn.ret (t := am_t65) rfl rfl trivial ?_
      refine ⟨congrArg (fun z => some (Value.int z)) ?_, rfl⟩
      simp [an_now, *]
  refine am_Rn.go (t := am_t65) rfl 1 rfl ⟨trivial, trivial⟩ ?_
  refine am_Rn.ret (t := am_t65) rfl rfl trivial ?_
  refine ⟨congrArg (fun z => some (Value.int z)) ?_, rfl⟩
  simp [an_now, *]
theorem sx_board (sc : am_Sc) (w : Int32) (tr : Int64) (nu la me tc ts : Nat → Int32) (P : Nat) (hP : P ≤ 9) (rn : Nat) (pr pv sa pd lo : Int32) (bo co sh se si er of_ bi bt so : Nat → Int32) (B2 B3 : List am_E) (Bs : am_M) (hr : rn ≤ 20) : am_Rn sc 66 (0, am_entry 66 [.ref 0, .int w], [], bkMain tr :: bkRules 32 nu la me tc ts (Int32.ofNat P) :: B2 :: B3 :: bkRoom 128 32 (Int32.ofNat rn) pr pv sa pd lo bo co sh se si er of_ bi bt so :: Bs) (fun r M' => r = some (.int (an_board rn bo w)) ∧ M' = bkMain tr :: bkRules 32 nu la me tc ts (Int32.ofNat P) :: B2 :: B3 :: bkRoom 128 32 (Int32.ofNat rn) pr pv sa pd lo bo co sh se si er of_ bi bt so :: Bs) := by
  show am_Rn sc 66 (0, [some (.ref 0), some (.int w)], [], _) _
  refine am_Rn.go (t := am_t66) rfl 7 rfl ⟨trivial, trivial, trivial, trivial, trivial, trivial, trivial, trivial⟩ ?_
  refine am_Rn.call (t := am_t66) rfl rfl (sx_isWithin ..) ?_
  rintro _ _ ⟨rfl, rfl⟩
  refine am_Rn.go (t := am_t66) rfl 1 rfl ⟨trivial, trivial⟩ ?_
  refine am_Rn.brB (fun h1 => ?_) (fun h1 => ?_)
  · skip
    refine am_Rn.go (t := am_t66) rfl 1 rfl ⟨trivial, trivial⟩ ?_
    refine am_Rn.ret (t := am_t66) rfl rfl trivial ?_
    refine ⟨congrArg (fun z => some (Value.int z)) ?_, rfl⟩
    simp [an_board, *]
  · skip
    refine am_Rn.go (t := am_t66) rfl 3 rfl ⟨trivial, trivial, trivial, trivial⟩ ?_
    obtain ⟨hw1, hw2⟩ : 0 ≤ w ∧ w < 20 := by
      have h := (by assumption : 0 ≤ w ∧ w ≤ Int32.ofNat rn - 1)
      rcases rn with _ | rn
      · exact absurd (Int32.le_trans h.1 h.2) (by decide)
      · rw [show Int32.ofNat (rn + 1) - 1 = Int32.ofNat rn from dec_ofNat rn] at h
        exact ⟨h.1, Int32.lt_of_le_of_lt h.2 ((am_lt (j := 20) (by omega) (by omega)).mpr (by omega))⟩
    refine am_Rn.call (t := am_t66) rfl rfl (sx_boardAt_A sc w hw1 hw2 ..) ?_
    rintro _ _ ⟨rfl, rfl⟩
    refine am_Rn.go (t := am_t66) rfl 1 rfl ⟨trivial, trivial⟩ ?_
    refine am_Rn.ret (t := am_t66) rfl rfl trivial ?_
    refine ⟨congrArg (fun z => some (Value.int z)) ?_, rfl⟩
    simp [an_board, *]
theorem sx_high (sc : am_Sc) (w : Int32) (tr : Int64) (nu la me tc ts : Nat → Int32) (P : Nat) (hP : P ≤ 9) (rn : Nat) (pr pv sa pd lo : Int32) (bo co sh se si er of_ bi bt so : Nat → Int32) (B2 B3 : List am_E) (Bs : am_M) (hr : rn ≤ 20) : am_Rn sc 67 (0, am_entry 67 [.ref 0, .int w], [], bkMain tr :: bkRules 32 nu la me tc ts (Int32.ofNat P) :: B2 :: B3 :: bkRoom 128 32 (Int32.ofNat rn) pr pv sa pd lo bo co sh se si er of_ bi bt so :: Bs) (fun r M' => r = some (.int (an_high nu bo rn w)) ∧ M' = bkMain tr :: bkRules 32 nu la me tc ts (Int32.ofNat P) :: B2 :: B3 :: bkRoom 128 32 (Int32.ofNat rn) pr pv sa pd lo bo co sh se si er of_ bi bt so :: Bs) := by
  show am_Rn sc 67 (0, [some (.ref 0), some (.int w)], [], _) _
  refine am_Rn.go (t := am_t67) rfl 2 rfl ⟨trivial, trivial, trivial⟩ ?_
  refine am_Rn.br (fun h1_0 => ?_) (fun h1_0 => ?_)
  · skip
    refine am_Rn.go (t := am_t67) rfl 2 rfl ⟨trivial, trivial, trivial⟩ ?_
    refine am_Rn.call (t := am_t67) rfl rfl (sx_peak_A sc rn hr ..) ?_
    rintro _ _ ⟨rfl, rfl⟩
    refine am_Rn.ret (t := am_t67) rfl rfl trivial ?_
    refine ⟨congrArg (fun z => some (Value.int z)) ?_, rfl⟩
    simp [an_high, *]
  refine am_Rn.br (fun h1_1 => ?_) (fun h1_1 => ?_)
  · skip
    refine am_Rn.go (t := am_t67) rfl 2 rfl ⟨trivial, trivial, trivial⟩ ?_
    refine am_Rn.call (t := am_t67) rfl rfl (sx_peakRound_A sc rn hr ..) ?_
    rintro _ _ ⟨rfl, rfl⟩
    refine am_Rn.ret (t := am_t67) rfl rfl trivial ?_
    refine ⟨congrArg (fun z => some (Value.int z)) ?_, rfl⟩
    simp [an_high, *]
  refine am_Rn.br (fun h1_2 => ?_) (fun h1_2 => ?_)
  · skip
    refine am_Rn.go (t := am_t67) rfl 2 rfl ⟨trivial, trivial, trivial⟩ ?_
    refine am_Rn.call (t := am_t67) rfl rfl (sx_fallRound_A sc rn hr ..) ?_
    rintro _ _ ⟨rfl, rfl⟩
    refine am_Rn.ret (t := am_t67) rfl rfl trivial ?_
    refine ⟨congrArg (fun z => some (Value.int z)) ?_, rfl⟩
    simp [an_high, *]
  refine am_Rn.br (fun h1_3 => ?_) (fun h1_3 => ?_)
  · skip
    refine am_Rn.go (t := am_t67) rfl 2 rfl ⟨trivial, trivial, trivial⟩ ?_
    refine am_Rn.call (t := am_t67) rfl rfl (sx_bubble_A sc rn hr ..) ?_
    rintro _ _ ⟨rfl, rfl⟩
    refine am_Rn.ret (t := am_t67) rfl rfl trivial ?_
    refine ⟨congrArg (fun z => some (Value.int z)) ?_, rfl⟩
    simp [an_high, *]
  refine am_Rn.go (t := am_t67) rfl 1 rfl ⟨trivial, trivial⟩ ?_
  refine am_Rn.ret (t := am_t67) rfl rfl trivial ?_
  refine ⟨congrArg (fun z => some (Value.int z)) ?_, rfl⟩
  simp [an_high, *]
theorem sx_gain_F (sc : am_Sc) (p : Int32) (tr : Int64) (nu la me tc ts : Nat → Int32) (P : Nat) (hP : P ≤ 9) (rn : Nat) (pr pv sa pd lo : Int32) (bo co sh se si er of_ bi bt so : Nat → Int32) (B2 B3 : List am_E) (Bs : am_M) (hp : ¬ (0 ≤ p ∧ p ≤ Int32.ofNat P - 1)) : am_Rn sc 68 (0, am_entry 68 [.ref 0, .int p], [], bkMain tr :: bkRules 32 nu la me tc ts (Int32.ofNat P) :: B2 :: B3 :: bkRoom 128 32 (Int32.ofNat rn) pr pv sa pd lo bo co sh se si er of_ bi bt so :: Bs) (fun r M' => r = some (.int (-1000000)) ∧ M' = bkMain tr :: bkRules 32 nu la me tc ts (Int32.ofNat P) :: B2 :: B3 :: bkRoom 128 32 (Int32.ofNat rn) pr pv sa pd lo bo co sh se si er of_ bi bt so :: Bs) := by
  show am_Rn sc 68 (0, [some (.ref 0), some (.int p)], [], _) _
  refine am_Rn.go (t := am_t68) rfl 2 rfl ⟨trivial, trivial, trivial⟩ ?_
  refine am_Rn.call (t := am_t68) rfl rfl (sx_isPerson (hP := hP) ..) ?_
  rintro _ _ ⟨rfl, rfl⟩
  refine am_Rn.go (t := am_t68) rfl 1 rfl ⟨trivial, trivial⟩ ?_
  refine am_Rn.brT (am_b0.mpr hp) ?_
  refine am_Rn.go (t := am_t68) rfl 1 rfl ⟨trivial, trivial⟩ ?_
  refine am_Rn.ret (t := am_t68) rfl rfl trivial ?_
  exact ⟨rfl, rfl⟩
theorem sx_gain_N (sc : am_Sc) (q : Nat) (tr : Int64) (nu la me tc ts : Nat → Int32) (P : Nat) (hP : P ≤ 9) (rn : Nat) (pr pv sa pd lo : Int32) (bo co sh se si er of_ bi bt so : Nat → Int32) (B2 B3 : List am_E) (Bs : am_M) (hq : q < P) (N : Nat) (h0 : nu 0 = Int32.ofNat N) (hN : N ≤ 20) (hr : rn ≤ N) (hov : ¬ N ≤ rn) : am_Rn sc 68 (0, am_entry 68 [.ref 0, .int (Int32.ofNat q)], [], bkMain tr :: bkRules 32 nu la me tc ts (Int32.ofNat P) :: B2 :: B3 :: bkRoom 128 32 (Int32.ofNat rn) pr pv sa pd lo bo co sh se si er of_ bi bt so :: Bs) (fun r M' => r = some (.int (-1000000)) ∧ M' = bkMain tr :: bkRules 32 nu la me tc ts (Int32.ofNat P) :: B2 :: B3 :: bkRoom 128 32 (Int32.ofNat rn) pr pv sa pd lo bo co sh se si er of_ bi bt so :: Bs) := by
  show am_Rn sc 68 (0, [some (.ref 0), some (.int (Int32.ofNat q))], [], _) _
  refine am_Rn.go (t := am_t68) rfl 2 rfl ⟨trivial, trivial, trivial⟩ ?_
  refine am_Rn.call (t := am_t68) rfl rfl (sx_isPerson (hP := hP) ..) ?_
  rintro _ _ ⟨rfl, rfl⟩
  refine am_Rn.go (t := am_t68) rfl 1 rfl ⟨trivial, trivial⟩ ?_
  refine am_Rn.brF (fun z => am_b0.mp z (am_pers2 hP hq)) ?_
  refine am_Rn.go (t := am_t68) rfl 2 rfl ⟨trivial, trivial, trivial⟩ ?_
  refine am_Rn.call (t := am_t68) rfl rfl (sx_isOver_A ..) ?_
  rintro _ _ ⟨rfl, rfl⟩
  refine am_Rn.go (t := am_t68) rfl 1 rfl ⟨trivial, trivial⟩ ?_
  refine am_Rn.brT (am_b0.mpr (fun q => hov ((am_over h0 hN hr).mp q))) ?_
  refine am_Rn.go (t := am_t68) rfl 1 rfl ⟨trivial, trivial⟩ ?_
  refine am_Rn.ret (t := am_t68) rfl rfl trivial ?_
  exact ⟨rfl, rfl⟩
theorem sx_gain_T (sc : am_Sc) (q : Nat) (tr : Int64) (nu la me tc ts : Nat → Int32) (P : Nat) (hP : P ≤ 9) (rn : Nat) (pr pv sa pd lo : Int32) (bo co sh se si er of_ bi bt so : Nat → Int32) (B2 B3 : List am_E) (Bs : am_M) (hq : q < P) (N : Nat) (h0 : nu 0 = Int32.ofNat N) (hN : N ≤ 20) (hr : rn ≤ N) (hov : N ≤ rn) : am_Rn sc 68 (0, am_entry 68 [.ref 0, .int (Int32.ofNat q)], [], bkMain tr :: bkRules 32 nu la me tc ts (Int32.ofNat P) :: B2 :: B3 :: bkRoom 128 32 (Int32.ofNat rn) pr pv sa pd lo bo co sh se si er of_ bi bt so :: Bs) (fun r M' => r = some (.int (co q - tc q - ts q * pd)) ∧ M' = bkMain tr :: bkRules 32 nu la me tc ts (Int32.ofNat P) :: B2 :: B3 :: bkRoom 128 32 (Int32.ofNat rn) pr pv sa pd lo bo co sh se si er of_ bi bt so :: Bs) := by
  show am_Rn sc 68 (0, [some (.ref 0), some (.int (Int32.ofNat q))], [], _) _
  have e1 : (Int32.ofNat q).toNatClampNeg = q := am_tn q (by omega)
  refine am_Rn.go (t := am_t68) rfl 2 rfl ⟨trivial, trivial, trivial⟩ ?_
  refine am_Rn.call (t := am_t68) rfl rfl (sx_isPerson (hP := hP) ..) ?_
  rintro _ _ ⟨rfl, rfl⟩
  refine am_Rn.go (t := am_t68) rfl 1 rfl ⟨trivial, trivial⟩ ?_
  refine am_Rn.brF (fun z => am_b0.mp z (am_pers2 hP hq)) ?_
  refine am_Rn.go (t := am_t68) rfl 2 rfl ⟨trivial, trivial, trivial⟩ ?_
  refine am_Rn.call (t := am_t68) rfl rfl (sx_isOver_A ..) ?_
  rintro _ _ ⟨rfl, rfl⟩
  refine am_Rn.go (t := am_t68) rfl 1 rfl ⟨trivial, trivial⟩ ?_
  refine am_Rn.brF (fun z => am_b0.mp z ((am_over h0 hN hr).mpr hov)) ?_
  refine am_Rn.go (t := am_t68) rfl 21 rfl ⟨trivial, trivial, trivial, trivial, (by first | exact am_inb_lit rfl | exact am_inb_of (by omega) (by omega)), trivial, trivial, trivial, trivial, (by first | exact am_inb_lit rfl | exact am_inb_of (by omega) (by omega)), trivial, trivial, trivial, trivial, trivial, (by first | exact am_inb_lit rfl | exact am_inb_of (by omega) (by omega)), trivial, trivial, trivial, trivial, trivial, trivial⟩ ?_
  refine am_Rn.ret (t := am_t68) rfl rfl trivial ?_
  refine ⟨congrArg (fun z => some (Value.int z)) ?_, rfl⟩
  simp only [e1]
theorem sx_said_F (sc : am_Sc) (p w : Int32) (tr : Int64) (nu la me tc ts : Nat → Int32) (P : Nat) (hP : P ≤ 9) (Bs : am_M) (hp : ¬ (0 ≤ p ∧ p ≤ Int32.ofNat P - 1)) : am_Rn sc 81 (0, am_entry 81 [.ref 0, .int p, .int w], [], bkMain tr :: bkRules 32 nu la me tc ts (Int32.ofNat P) :: Bs) (fun r M' => r = some (.int (-1)) ∧ M' = bkMain tr :: bkRules 32 nu la me tc ts (Int32.ofNat P) :: Bs) := by
  show am_Rn sc 81 (0, [some (.ref 0), some (.int p), some (.int w)], [], _) _
  refine am_Rn.go (t := am_t81) rfl 2 rfl ⟨trivial, trivial, trivial⟩ ?_
  refine am_Rn.call (t := am_t81) rfl rfl (sx_isPerson (hP := hP) ..) ?_
  rintro _ _ ⟨rfl, rfl⟩
  refine am_Rn.go (t := am_t81) rfl 1 rfl ⟨trivial, trivial⟩ ?_
  refine am_Rn.brT (am_b0.mpr hp) ?_
  refine am_Rn.go (t := am_t81) rfl 1 rfl ⟨trivial, trivial⟩ ?_
  refine am_Rn.ret (t := am_t81) rfl rfl trivial ?_
  exact ⟨rfl, rfl⟩
theorem sx_said_T (sc : am_Sc) (q : Nat) (w : Int32) (tr : Int64) (nu la me tc ts : Nat → Int32) (P : Nat) (hP : P ≤ 9) (rn : Nat) (pr pv sa pd lo : Int32) (bo co sh se si er of_ bi bt so : Nat → Int32) (B2 B3 : List am_E) (Bs : am_M) (hq : q < P) : am_Rn sc 81 (0, am_entry 81 [.ref 0, .int (Int32.ofNat q), .int w], [], bkMain tr :: bkRules 32 nu la me tc ts (Int32.ofNat P) :: B2 :: B3 :: bkRoom 128 32 (Int32.ofNat rn) pr pv sa pd lo bo co sh se si er of_ bi bt so :: Bs) (fun r M' => r = some (.int (an_said er of_ q w)) ∧ M' = bkMain tr :: bkRules 32 nu la me tc ts (Int32.ofNat P) :: B2 :: B3 :: bkRoom 128 32 (Int32.ofNat rn) pr pv sa pd lo bo co sh se si er of_ bi bt so :: Bs) := by
  show am_Rn sc 81 (0, [some (.ref 0), some (.int (Int32.ofNat q)), some (.int w)], [], _) _
  have e1 : (Int32.ofNat q).toNatClampNeg = q := am_tn q (by omega)
  refine am_Rn.go (t := am_t81) rfl 2 rfl ⟨trivial, trivial, trivial⟩ ?_
  refine am_Rn.call (t := am_t81) rfl rfl (sx_isPerson (hP := hP) ..) ?_
  rintro _ _ ⟨rfl, rfl⟩
  refine am_Rn.go (t := am_t81) rfl 1 rfl ⟨trivial, trivial⟩ ?_
  refine am_Rn.brF (fun z => am_b0.mp z (am_pers2 hP hq)) ?_
  refine am_Rn.go (t := am_t81) rfl 3 rfl ⟨trivial, trivial, trivial, trivial⟩ ?_
  refine am_Rn.call (t := am_t81) rfl rfl (sx_isWithin ..) ?_
  rintro _ _ ⟨rfl, rfl⟩
  refine am_Rn.go (t := am_t81) rfl 1 rfl ⟨trivial, trivial⟩ ?_
  refine am_Rn.brB (fun h2 => ?_) (fun h2 => ?_)
  · skip
    refine am_Rn.go (t := am_t81) rfl 1 rfl ⟨trivial, trivial⟩ ?_
    refine am_Rn.ret (t := am_t81) rfl rfl trivial ?_
    refine ⟨congrArg (fun z => some (Value.int z)) ?_, rfl⟩
    simp [an_said, *]
  · skip
    refine am_Rn.go (t := am_t81) rfl 2 rfl ⟨trivial, trivial, trivial⟩ ?_
    refine am_Rn.br (fun h3 => ?_) (fun h3 => ?_)
    · skip
      refine am_Rn.go (t := am_t81) rfl 6 rfl ⟨trivial, trivial, trivial, trivial, (by first | exact am_inb_lit rfl | exact am_inb_of (by omega) (by omega)), trivial, trivial⟩ ?_
      refine am_Rn.ret (t := am_t81) rfl rfl trivial ?_
      refine ⟨congrArg (fun z => some (Value.int z)) ?_, rfl⟩
      simp [an_said, *]
    · skip
      refine am_Rn.go (t := am_t81) rfl 5 rfl ⟨trivial, trivial, trivial, trivial, (by first | exact am_inb_lit rfl | exact am_inb_of (by omega) (by omega)), trivial⟩ ?_
      refine am_Rn.ret (t := am_t81) rfl rfl trivial ?_
      refine ⟨congrArg (fun z => some (Value.int z)) ?_, rfl⟩
      simp [an_said, *]
theorem sx_truest (sc : am_Sc)  (tr : Int64) (nu la me tc ts : Nat → Int32) (P : Nat) (hP : P ≤ 9) (rn : Nat) (pr pv sa pd lo : Int32) (bo co sh se si er of_ bi bt so : Nat → Int32) (B2 B3 : List am_E) (Bs : am_M)  : am_Rn sc 82 (0, am_entry 82 [.ref 0], [], bkMain tr :: bkRules 32 nu la me tc ts (Int32.ofNat P) :: B2 :: B3 :: bkRoom 128 32 (Int32.ofNat rn) pr pv sa pd lo bo co sh se si er of_ bi bt so :: Bs) (fun r M' => r = some (.int (am_on (-9) (am_fold P (sp_trOne er of_) none))) ∧ M' = bkMain tr :: bkRules 32 nu la me tc ts (Int32.ofNat P) :: B2 :: B3 :: bkRoom 128 32 (Int32.ofNat rn) pr pv sa pd lo bo co sh se si er of_ bi bt so :: Bs) := by
  show am_Rn sc 82 (0, [some (.ref 0)], [], _) _
  refine am_Rn.go (t := am_t82) rfl 2 rfl ⟨trivial, trivial, trivial⟩ ?_
  refine am_Rn.call (t := am_t82) rfl rfl (sx_leastWrong sc nu la me tc ts P hP ..) ?_
  rintro _ _ ⟨rfl, rfl⟩
  refine am_Rn.ret (t := am_t82) rfl rfl trivial ?_
  exact ⟨rfl, rfl⟩
theorem sx_count (sc : am_Sc) (w : Int32) (tr : Int64) (nu la me tc ts : Nat → Int32) (P : Nat) (hP : P ≤ 9) (tx : Nat → Int32) (n : Nat) (hn : n ≤ 400) (it fa nx pl ki va tw : Int32) (rn : Nat) (pr pv sa pd lo : Int32) (bo co sh se si er of_ bi bt so : Nat → Int32) (cl : Nat → Int32) (C : Nat) (hC : C ≤ 12) (bw br le : Int32) (B3 B5 B6 B7 B8 B9 B10 B11 : List am_E) (Bs : am_M)  : am_Rn sc 86 (0, am_entry 86 [.ref 0, .int w], [], bkMain tr :: bkRules 32 nu la me tc ts (Int32.ofNat P) :: bkReader tx (Int32.ofNat n) it fa nx pl ki va tw :: B3 :: bkRoom 128 32 (Int32.ofNat rn) pr pv sa pd lo bo co sh se si er of_ bi bt so :: B5 :: B6 :: B7 :: B8 :: B9 :: B10 :: B11 :: bkClues cl (Int32.ofNat C) bw br le :: Bs) (fun r M' => r = some (.int (an_count P co sh (Int32.ofNat C) (Int32.ofNat n) w)) ∧ M' = bkMain tr :: bkRules 32 nu la me tc ts (Int32.ofNat P) :: bkReader tx (Int32.ofNat n) it fa nx pl ki va tw :: B3 :: bkRoom 128 32 (Int32.ofNat rn) pr pv sa pd lo bo co sh se si er of_ bi bt so :: B5 :: B6 :: B7 :: B8 :: B9 :: B10 :: B11 :: bkClues cl (Int32.ofNat C) bw br le :: Bs) := by
  show am_Rn sc 86 (0, [some (.ref 0), some (.int w)], [], _) _
  refine am_Rn.go (t := am_t86) rfl 2 rfl ⟨trivial, trivial, trivial⟩ ?_
  refine am_Rn.br (fun h1_0 => ?_) (fun h1_0 => ?_)
  · skip
    refine am_Rn.go (t := am_t86) rfl 3 rfl ⟨trivial, trivial, trivial, trivial⟩ ?_
    refine am_Rn.ret (t := am_t86) rfl rfl trivial ?_
    refine ⟨congrArg (fun z => some (Value.int z)) ?_, rfl⟩
    simp [an_count, *]
  refine am_Rn.br (fun h1_1 => ?_) (fun h1_1 => ?_)
  · skip
    refine am_Rn.go (t := am_t86) rfl 5 rfl ⟨trivial, trivial, trivial, trivial, trivial, trivial⟩ ?_
    refine am_Rn.call (t := am_t86) rfl rfl (sx_sum_sh sc nu la me tc ts P hP ..) ?_
    rintro _ _ ⟨rfl, rfl⟩
    refine am_Rn.ret (t := am_t86) rfl rfl trivial ?_
    refine ⟨congrArg (fun z => some (Value.int z)) ?_, rfl⟩
    simp [an_count, *]
  refine am_Rn.br (fun h1_2 => ?_) (fun h1_2 => ?_)
  · skip
    refine am_Rn.go (t := am_t86) rfl 5 rfl ⟨trivial, trivial, trivial, trivial, trivial, trivial⟩ ?_
    refine am_Rn.call (t := am_t86) rfl rfl (sx_sum_co sc nu la me tc ts P hP ..) ?_
    rintro _ _ ⟨rfl, rfl⟩
    refine am_Rn.ret (t := am_t86) rfl rfl trivial ?_
    refine ⟨congrArg (fun z => some (Value.int z)) ?_, rfl⟩
    simp [an_count, *]
  refine am_Rn.br (fun h1_3 => ?_) (fun h1_3 => ?_)
  · skip
    refine am_Rn.go (t := am_t86) rfl 3 rfl ⟨trivial, trivial, trivial, trivial⟩ ?_
    refine am_Rn.ret (t := am_t86) rfl rfl trivial ?_
    refine ⟨congrArg (fun z => some (Value.int z)) ?_, rfl⟩
    simp [an_count, *]
  refine am_Rn.br (fun h1_4 => ?_) (fun h1_4 => ?_)
  · skip
    refine am_Rn.go (t := am_t86) rfl 3 rfl ⟨trivial, trivial, trivial, trivial⟩ ?_
    refine am_Rn.ret (t := am_t86) rfl rfl trivial ?_
    refine ⟨congrArg (fun z => some (Value.int z)) ?_, rfl⟩
    simp [an_count, *]
  refine am_Rn.go (t := am_t86) rfl 1 rfl ⟨trivial, trivial⟩ ?_
  refine am_Rn.ret (t := am_t86) rfl rfl trivial ?_
  refine ⟨congrArg (fun z => some (Value.int z)) ?_, rfl⟩
  simp [an_count, *]
theorem sx_trace (sc : am_Sc)  (tr : Int64) (Bs : am_M)  : am_Rn sc 87 (0, am_entry 87 [.ref 0], [], bkMain tr :: Bs) (fun r M' => r = some (.long tr) ∧ M' = bkMain tr :: Bs) := by
  show am_Rn sc 87 (0, [some (.ref 0)], [], _) _
  refine am_Rn.go (t := am_t87) rfl 2 rfl ⟨trivial, trivial, trivial⟩ ?_
  refine am_Rn.ret (t := am_t87) rfl rfl trivial ?_
  exact ⟨rfl, rfl⟩
theorem sx_lot (sc : am_Sc) (v : Int32) (tr : Int64) (nu la me tc ts : Nat → Int32) (P : Nat) (hP : P ≤ 9) (rn : Nat) (pr pv sa pd lo : Int32) (bo co sh se si er of_ bi bt so : Nat → Int32) (B2 B3 : List am_E) (Bs : am_M)  : am_Rn sc 73 (0, am_entry 73 [.ref 0, .int v], [], bkMain tr :: bkRules 32 nu la me tc ts (Int32.ofNat P) :: B2 :: B3 :: bkRoom 128 32 (Int32.ofNat rn) pr pv sa pd lo bo co sh se si er of_ bi bt so :: Bs) (fun r M' => r = some (.int lo) ∧ M' = bkMain tr :: bkRules 32 nu la me tc ts (Int32.ofNat P) :: B2 :: B3 :: bkRoom 128 32 (Int32.ofNat rn) pr pv sa pd v bo co sh se si er of_ bi bt so :: Bs) := by
  show am_Rn sc 73 (0, [some (.ref 0), some (.int v), none], [], _) _
  refine am_Rn.go (t := am_t73) rfl 9 rfl ⟨trivial, trivial, trivial, trivial, trivial, trivial, trivial, trivial, trivial, trivial⟩ ?_
  refine am_Rn.ret (t := am_t73) rfl rfl trivial ?_
  exact ⟨rfl, rfl⟩
theorem sx_renew_F (sc : am_Sc) (p : Int32) (tr : Int64) (nu la me tc ts : Nat → Int32) (P : Nat) (hP : P ≤ 9) (Bs : am_M) (hp : ¬ (0 ≤ p ∧ p ≤ Int32.ofNat P - 1)) : am_Rn sc 70 (0, am_entry 70 [.ref 0, .int p], [], bkMain tr :: bkRules 32 nu la me tc ts (Int32.ofNat P) :: Bs) (fun r M' => r = some (.int (-1)) ∧ M' = bkMain tr :: bkRules 32 nu la me tc ts (Int32.ofNat P) :: Bs) := by
  show am_Rn sc 70 (0, [some (.ref 0), some (.int p), none], [], _) _
  refine am_Rn.go (t := am_t70) rfl 2 rfl ⟨trivial, trivial, trivial⟩ ?_
  refine am_Rn.call (t := am_t70) rfl rfl (sx_isPerson (hP := hP) ..) ?_
  rintro _ _ ⟨rfl, rfl⟩
  refine am_Rn.go (t := am_t70) rfl 1 rfl ⟨trivial, trivial⟩ ?_
  refine am_Rn.brT (am_b0.mpr hp) ?_
  refine am_Rn.go (t := am_t70) rfl 1 rfl ⟨trivial, trivial⟩ ?_
  refine am_Rn.ret (t := am_t70) rfl rfl trivial ?_
  exact ⟨rfl, rfl⟩
theorem sx_renew_T (sc : am_Sc) (q : Nat) (tr : Int64) (nu la me tc ts : Nat → Int32) (P : Nat) (hP : P ≤ 9) (rn : Nat) (pr pv sa pd lo : Int32) (bo co sh se si er of_ bi bt so : Nat → Int32) (B2 B3 : List am_E) (Bs : am_M) (hq : q < P) : am_Rn sc 70 (0, am_entry 70 [.ref 0, .int (Int32.ofNat q)], [], bkMain tr :: bkRules 32 nu la me tc ts (Int32.ofNat P) :: B2 :: B3 :: bkRoom 128 32 (Int32.ofNat rn) pr pv sa pd lo bo co sh se si er of_ bi bt so :: Bs) (fun r M' => r = some (.int (se q)) ∧ M' = bkMain tr :: bkRules 32 nu la me tc ts (Int32.ofNat P) :: B2 :: B3 :: bkRoom 128 32 (Int32.ofNat rn) pr pv sa pd lo bo co sh (upd se q 0) si er of_ bi bt so :: Bs) := by
  show am_Rn sc 70 (0, [some (.ref 0), some (.int (Int32.ofNat q)), none], [], _) _
  have e1 : (Int32.ofNat q).toNatClampNeg = q := am_tn q (by omega)
  refine am_Rn.go (t := am_t70) rfl 2 rfl ⟨trivial, trivial, trivial⟩ ?_
  refine am_Rn.call (t := am_t70) rfl rfl (sx_isPerson (hP := hP) ..) ?_
  rintro _ _ ⟨rfl, rfl⟩
  refine am_Rn.go (t := am_t70) rfl 1 rfl ⟨trivial, trivial⟩ ?_
  refine am_Rn.brF (fun z => am_b0.mp z (am_pers2 hP hq)) ?_
  refine am_Rn.go (t := am_t70) rfl 12 rfl ⟨trivial, trivial, trivial, trivial, (by first | exact am_inb_lit rfl | exact am_inb_of (by omega) (by omega)), trivial, trivial, trivial, trivial, trivial, trivial, (by first | exact am_inb_lit rfl | exact am_inb_of (by omega) (by omega)), trivial⟩ ?_
  show am_Rn sc 70 (18, _, _, bkMain tr :: bkRules 32 nu la me tc ts (Int32.ofNat P) :: B2 :: B3 :: bkRoom 128 32 (Int32.ofNat rn) pr pv sa pd lo bo co sh (upd se (Int32.ofNat q).toNatClampNeg 0) si er of_ bi bt so :: Bs) _
  rw [e1]
  refine am_Rn.go (t := am_t70) rfl 1 rfl ⟨trivial, trivial⟩ ?_
  refine am_Rn.ret (t := am_t70) rfl rfl trivial ?_
  exact ⟨rfl, rfl⟩
theorem sx_clear (sc : am_Sc)  (tr : Int64) (tx : Nat → Int32) (n : Nat) (hn : n ≤ 400) (it fa nx pl ki va tw : Int32) (B1 : List am_E) (Bs : am_M)  : am_Rn sc 58 (0, am_entry 58 [.ref 0], [], bkMain tr :: B1 :: bkReader tx (Int32.ofNat n) it fa nx pl ki va tw :: Bs) (fun r M' => r = some (.int (Int32.ofNat n)) ∧ M' = bkMain tr :: B1 :: bkReader tx 0 it fa nx pl ki va tw :: Bs) := by
  show am_Rn sc 58 (0, [some (.ref 0), none], [], _) _
  refine am_Rn.go (t := am_t58) rfl 9 rfl ⟨trivial, trivial, trivial, trivial, trivial, trivial, trivial, trivial, trivial, trivial⟩ ?_
  refine am_Rn.ret (t := am_t58) rfl rfl trivial ?_
  exact ⟨rfl, rfl⟩
theorem sx_say_F (sc : am_Sc) (p v : Int32) (tr : Int64) (nu la me tc ts : Nat → Int32) (P : Nat) (hP : P ≤ 9) (Bs : am_M) (hp : ¬ (0 ≤ p ∧ p ≤ Int32.ofNat P - 1)) : am_Rn sc 80 (0, am_entry 80 [.ref 0, .int p, .int v], [], bkMain tr :: bkRules 32 nu la me tc ts (Int32.ofNat P) :: Bs) (fun r M' => r = some (.int (-1)) ∧ M' = bkMain tr :: bkRules 32 nu la me tc ts (Int32.ofNat P) :: Bs) := by
  show am_Rn sc 80 (0, [some (.ref 0), some (.int p), some (.int v), none], [], _) _
  refine am_Rn.go (t := am_t80) rfl 2 rfl ⟨trivial, trivial, trivial⟩ ?_
  refine am_Rn.call (t := am_t80) rfl rfl (sx_isPerson (hP := hP) ..) ?_
  rintro _ _ ⟨rfl, rfl⟩
  refine am_Rn.go (t := am_t80) rfl 1 rfl ⟨trivial, trivial⟩ ?_
  refine am_Rn.brT (am_b0.mpr hp) ?_
  refine am_Rn.go (t := am_t80) rfl 1 rfl ⟨trivial, trivial⟩ ?_
  refine am_Rn.ret (t := am_t80) rfl rfl trivial ?_
  exact ⟨rfl, rfl⟩
theorem sx_say_V (sc : am_Sc) (q : Nat) (v : Int32) (tr : Int64) (nu la me tc ts : Nat → Int32) (P : Nat) (hP : P ≤ 9) (Bs : am_M) (hq : q < P) (hv : ¬ (0 ≤ v ∧ v ≤ 999)) : am_Rn sc 80 (0, am_entry 80 [.ref 0, .int (Int32.ofNat q), .int v], [], bkMain tr :: bkRules 32 nu la me tc ts (Int32.ofNat P) :: Bs) (fun r M' => r = some (.int (-1)) ∧ M' = bkMain tr :: bkRules 32 nu la me tc ts (Int32.ofNat P) :: Bs) := by
  show am_Rn sc 80 (0, [some (.ref 0), some (.int (Int32.ofNat q)), some (.int v), none], [], _) _
  refine am_Rn.go (t := am_t80) rfl 2 rfl ⟨trivial, trivial, trivial⟩ ?_
  refine am_Rn.call (t := am_t80) rfl rfl (sx_isPerson (hP := hP) ..) ?_
  rintro _ _ ⟨rfl, rfl⟩
  refine am_Rn.go (t := am_t80) rfl 1 rfl ⟨trivial, trivial⟩ ?_
  refine am_Rn.brF (fun z => am_b0.mp z (am_pers2 hP hq)) ?_
  refine am_Rn.go (t := am_t80) rfl 3 rfl ⟨trivial, trivial, trivial, trivial⟩ ?_
  refine am_Rn.call (t := am_t80) rfl rfl (sx_isWithin ..) ?_
  rintro _ _ ⟨rfl, rfl⟩
  refine am_Rn.go (t := am_t80) rfl 1 rfl ⟨trivial, trivial⟩ ?_
  refine am_Rn.brT (am_b0.mpr hv) ?_
  refine am_Rn.go (t := am_t80) rfl 1 rfl ⟨trivial, trivial⟩ ?_
  refine am_Rn.ret (t := am_t80) rfl rfl trivial ?_
  exact ⟨rfl, rfl⟩
theorem sx_say_S (sc : am_Sc) (q : Nat) (v : Int32) (tr : Int64) (nu la me tc ts : Nat → Int32) (P : Nat) (hP : P ≤ 9) (rn : Nat) (pr pv sa pd lo : Int32) (bo co sh se si er of_ bi bt so : Nat → Int32) (B2 B3 : List am_E) (Bs : am_M) (hq : q < P) (hv : 0 ≤ v ∧ v ≤ 999) (N : Nat) (h0 : nu 0 = Int32.ofNat N) (hN : N ≤ 20) (hr : rn ≤ N) (hov : N ≤ rn) : am_Rn sc 80 (0, am_entry 80 [.ref 0, .int (Int32.ofNat q), .int v], [], bkMain tr :: bkRules 32 nu la me tc ts (Int32.ofNat P) :: B2 :: B3 :: bkRoom 128 32 (Int32.ofNat rn) pr pv sa pd lo bo co sh se si er of_ bi bt so :: Bs) (fun r M' => r = some (.int (-2)) ∧ M' = bkMain tr :: bkRules 32 nu la me tc ts (Int32.ofNat P) :: B2 :: B3 :: bkRoom 128 32 (Int32.ofNat rn) pr pv sa pd lo bo co sh se si er of_ bi bt so :: Bs) := by
  show am_Rn sc 80 (0, [some (.ref 0), some (.int (Int32.ofNat q)), some (.int v), none], [], _) _
  refine am_Rn.go (t := am_t80) rfl 2 rfl ⟨trivial, trivial, trivial⟩ ?_
  refine am_Rn.call (t := am_t80) rfl rfl (sx_isPerson (hP := hP) ..) ?_
  rintro _ _ ⟨rfl, rfl⟩
  refine am_Rn.go (t := am_t80) rfl 1 rfl ⟨trivial, trivial⟩ ?_
  refine am_Rn.brF (fun z => am_b0.mp z (am_pers2 hP hq)) ?_
  refine am_Rn.go (t := am_t80) rfl 3 rfl ⟨trivial, trivial, trivial, trivial⟩ ?_
  refine am_Rn.call (t := am_t80) rfl rfl (sx_isWithin ..) ?_
  rintro _ _ ⟨rfl, rfl⟩
  refine am_Rn.go (t := am_t80) rfl 1 rfl ⟨trivial, trivial⟩ ?_
  refine am_Rn.brF (fun z => am_b0.mp z hv) ?_
  refine am_Rn.go (t := am_t80) rfl 2 rfl ⟨trivial, trivial, trivial⟩ ?_
  refine am_Rn.call (t := am_t80) rfl rfl (sx_isOver_A ..) ?_
  rintro _ _ ⟨rfl, rfl⟩
  refine am_Rn.go (t := am_t80) rfl 1 rfl ⟨trivial, trivial⟩ ?_
  refine am_Rn.brF (fun z => am_b0.mp z ((am_over h0 hN hr).mpr hov)) ?_
  refine am_Rn.go (t := am_t80) rfl 1 rfl ⟨trivial, trivial⟩ ?_
  refine am_Rn.ret (t := am_t80) rfl rfl trivial ?_
  exact ⟨rfl, rfl⟩
theorem sx_say_T (sc : am_Sc) (q : Nat) (v : Int32) (tr : Int64) (nu la me tc ts : Nat → Int32) (P : Nat) (hP : P ≤ 9) (rn : Nat) (pr pv sa pd lo : Int32) (bo co sh se si er of_ bi bt so : Nat → Int32) (B2 B3 : List am_E) (Bs : am_M) (hq : q < P) (hv : 0 ≤ v ∧ v ≤ 999) (N : Nat) (h0 : nu 0 = Int32.ofNat N) (hN : N ≤ 20) (hr : rn ≤ N) (hov : ¬ N ≤ rn) : am_Rn sc 80 (0, am_entry 80 [.ref 0, .int (Int32.ofNat q), .int v], [], bkMain tr :: bkRules 32 nu la me tc ts (Int32.ofNat P) :: B2 :: B3 :: bkRoom 128 32 (Int32.ofNat rn) pr pv sa pd lo bo co sh se si er of_ bi bt so :: Bs) (fun r M' => r = some (.int (si q)) ∧ M' = bkMain tr :: bkRules 32 nu la me tc ts (Int32.ofNat P) :: B2 :: B3 :: bkRoom 128 32 (Int32.ofNat rn) pr pv sa pd lo bo co sh se (upd si q v) er of_ bi bt so :: Bs) := by
  show am_Rn sc 80 (0, [some (.ref 0), some (.int (Int32.ofNat q)), some (.int v), none], [], _) _
  have e1 : (Int32.ofNat q).toNatClampNeg = q := am_tn q (by omega)
  refine am_Rn.go (t := am_t80) rfl 2 rfl ⟨trivial, trivial, trivial⟩ ?_
  refine am_Rn.call (t := am_t80) rfl rfl (sx_isPerson (hP := hP) ..) ?_
  rintro _ _ ⟨rfl, rfl⟩
  refine am_Rn.go (t := am_t80) rfl 1 rfl ⟨trivial, trivial⟩ ?_
  refine am_Rn.brF (fun z => am_b0.mp z (am_pers2 hP hq)) ?_
  refine am_Rn.go (t := am_t80) rfl 3 rfl ⟨trivial, trivial, trivial, trivial⟩ ?_
  refine am_Rn.call (t := am_t80) rfl rfl (sx_isWithin ..) ?_
  rintro _ _ ⟨rfl, rfl⟩
  refine am_Rn.go (t := am_t80) rfl 1 rfl ⟨trivial, trivial⟩ ?_
  refine am_Rn.brF (fun z => am_b0.mp z hv) ?_
  refine am_Rn.go (t := am_t80) rfl 2 rfl ⟨trivial, trivial, trivial⟩ ?_
  refine am_Rn.call (t := am_t80) rfl rfl (sx_isOver_A ..) ?_
  rintro _ _ ⟨rfl, rfl⟩
  refine am_Rn.go (t := am_t80) rfl 1 rfl ⟨trivial, trivial⟩ ?_
  refine am_Rn.brT (am_b0.mpr (fun q => hov ((am_over h0 hN hr).mp q))) ?_
  refine am_Rn.go (t := am_t80) rfl 12 rfl ⟨trivial, trivial, trivial, trivial, (by first | exact am_inb_lit rfl | exact am_inb_of (by omega) (by omega)), trivial, trivial, trivial, trivial, trivial, trivial, (by first | exact am_inb_lit rfl | exact am_inb_of (by omega) (by omega)), trivial⟩ ?_
  show am_Rn sc 80 (29, _, _, bkMain tr :: bkRules 32 nu la me tc ts (Int32.ofNat P) :: B2 :: B3 :: bkRoom 128 32 (Int32.ofNat rn) pr pv sa pd lo bo co sh se (upd si (Int32.ofNat q).toNatClampNeg v) er of_ bi bt so :: Bs) _
  rw [e1]
  refine am_Rn.go (t := am_t80) rfl 1 rfl ⟨trivial, trivial⟩ ?_
  refine am_Rn.ret (t := am_t80) rfl rfl trivial ?_
  exact ⟨rfl, rfl⟩

/-! ===== small words of the walks ===== -/
def am_b (C : Prop) [Decidable C] : Int32 := if C then 1 else 0
theorem am_b01 (C : Prop) [Decidable C] : am_b C = 0 ∨ am_b C = 1 := by
  unfold am_b
  split
  · exact Or.inr rfl
  · exact Or.inl rfl
theorem am_bT {C : Prop} [Decidable C] (h : C) : am_b C = 1 := if_pos h
theorem am_bF {C : Prop} [Decidable C] (h : ¬ C) : am_b C = 0 := if_neg h
theorem am_b0 {C : Prop} [Decidable C] : am_b C = 0 ↔ ¬ C := by
  unfold am_b
  split
  · next h => exact ⟨fun q => absurd q (by decide), fun q => absurd h q⟩
  · next h => exact ⟨fun _ => h, fun _ => rfl⟩
theorem am_Rn.brB {sc : am_Sc} {k a b : Nat} {ls : am_L} {st : List Value} {M : am_M} {K : Option Value → am_M → Prop} {C : Prop} [Decidable C] {d : Decidable (am_b C = 0)} (h1 : ¬ C → am_Rn sc k (a, ls, st, M) K) (h2 : C → am_Rn sc k (b, ls, st, M) K) : am_Rn sc k (@ite Nat (am_b C = 0) d a b, ls, st, M) K := am_Rn.br (fun h => h1 (am_b0.mp h)) (fun h => h2 (Decidable.byContradiction (fun q => h (am_b0.mpr q))))
theorem am_Rn.brT {sc : am_Sc} {k a b : Nat} {ls : am_L} {st : List Value} {M : am_M} {K : Option Value → am_M → Prop} {c : Prop} {d : Decidable c} (h : c) (h1 : am_Rn sc k (a, ls, st, M) K) : am_Rn sc k (@ite Nat c d a b, ls, st, M) K := by rw [if_pos h]; exact h1
theorem am_Rn.brF {sc : am_Sc} {k a b : Nat} {ls : am_L} {st : List Value} {M : am_M} {K : Option Value → am_M → Prop} {c : Prop} {d : Decidable c} (h : ¬ c) (h1 : am_Rn sc k (b, ls, st, M) K) : am_Rn sc k (@ite Nat c d a b, ls, st, M) K := by rw [if_neg h]; exact h1
def am_inbB (i : Int32) (n : Nat) : Bool := !(decide (i < 0) || Nat.ble n i.toNatClampNeg)
theorem am_inb_lit {i : Int32} {n : Nat} (h : am_inbB i n = true) : am_inb i n := by
  unfold am_inb vp_in
  simp only [am_inbB, Bool.not_eq_true', Bool.or_eq_false_iff, decide_eq_false_iff_not] at h
  rintro (q | q)
  · exact h.1 q
  · rw [Nat.ble_eq_true_of_le q] at h; exact absurd h.2 (by decide)
theorem am_ofN (i : Nat) (h : i < 2147483648) : (Int32.ofNat i).toInt = i := Int32.toInt_ofNat_of_lt h
theorem am_tn (i : Nat) (h : i < 2147483648) : (Int32.ofNat i).toNatClampNeg = i := by
  show (Int32.ofNat i).toInt.toNat = i
  rw [am_ofN i h]
  simp
theorem am_inb_of {i n : Nat} (h : i < n) (hn : n ≤ 2147483648) : am_inb (Int32.ofNat i) n := by
  unfold am_inb vp_in
  rw [am_tn i (by omega), Int32.lt_iff_toInt_lt, am_ofN i (by omega)]
  rintro (q | q)
  · have : (0 : Int32).toInt = 0 := rfl
    omega
  · omega
theorem am_lt {i j : Nat} (hi : i < 2147483648) (hj : j < 2147483648) : Int32.ofNat i < Int32.ofNat j ↔ i < j := by
  rw [Int32.lt_iff_toInt_lt, am_ofN i hi, am_ofN j hj]
  omega
theorem am_le {i j : Nat} (hi : i < 2147483648) (hj : j < 2147483648) : Int32.ofNat i ≤ Int32.ofNat j ↔ i ≤ j := by
  rw [Int32.le_iff_toInt_le, am_ofN i hi, am_ofN j hj]
  omega
theorem am_eqi {i j : Nat} (hi : i < 2147483648) (hj : j < 2147483648) : Int32.ofNat i = Int32.ofNat j ↔ i = j := by
  rw [← Int32.toInt_inj, am_ofN i hi, am_ofN j hj]
  omega
theorem am_inc (i : Nat) : Int32.ofNat i + 1 = Int32.ofNat (i + 1) := (inc_ofNat i).symm
theorem am_cfg {sc : am_Sc} {k : Nat} {C C' : am_C} {K : Option Value → am_M → Prop} (h : C = C') (hk : am_Rn sc k C' K) : am_Rn sc k C K := by rw [h]; exact hk
/-- a loop of n rounds on a value -/
def am_fold {α : Type} (n : Nat) (f : Nat → α → α) (a : α) : α := match n with
  | 0 => a
  | n + 1 => f n (am_fold n f a)
/-! banks -/
def bkRules (o : Nat) (nu la me tc ts : Nat → Int32) (pe : Int32) : List am_E := [.inr (5, [.ref (o + 1), .ref (o + 2), .ref (o + 3), .ref (o + 4), .ref (o + 5), .int pe]), .inl (0, 10, .inl nu), .inl (0, 9, .inl la), .inl (0, 9, .inl me), .inl (0, 9, .inl tc), .inl (0, 9, .inl ts)]
def bkRoom (o ru : Nat) (rd pr pv sa pd lo : Int32) (bo co sh se si er of_ bi bt so : Nat → Int32) : List am_E := [.inr (4, [.ref ru, .int rd, .int pr, .int pv, .int sa, .int pd, .int lo, .ref (o + 1), .ref (o + 2), .ref (o + 3), .ref (o + 4), .ref (o + 5), .ref (o + 6), .ref (o + 7), .ref (o + 8), .ref (o + 9), .ref (o + 10)]), .inl (0, 20, .inl bo), .inl (0, 9, .inl co), .inl (0, 9, .inl sh), .inl (0, 9, .inl se), .inl (0, 9, .inl si), .inl (0, 9, .inl er), .inl (0, 9, .inl of_), .inl (0, 9, .inl bi), .inl (0, 9, .inl bt), .inl (0, 9, .inl so)]
/-! what numbers of the rules say -/
def sp_halves (nu : Nat → Int32) (r : Int32) : Int32 := (nu 0 - r) * (nu 1 + nu 2) + 2 * nu 3
def sp_worth (nu : Nat → Int32) (r : Int32) : Int32 := (nu 0 - r) * (nu 1 + nu 2) / 2 + nu 3

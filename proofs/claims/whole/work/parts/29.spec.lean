/-! ===== copies, sums, the one least wrong, odds ===== -/
def sp_cp (n : Nat) (f g : Nat → Int32) : Nat → Int32 := va_cpy f g 0 0 n
theorem sp_cp_lt {n k : Nat} (f g : Nat → Int32) (h : k < n) : sp_cp n f g k = f k := by
  show (if 0 ≤ k ∧ k < 0 + n then f (0 + (k - 0)) else g k) = f k
  rw [if_pos ⟨Nat.zero_le k, by omega⟩, Nat.zero_add, Nat.sub_zero]
def sp_usual (nu : Nat → Int32) : Nat → Int32 := va_cpy (fun j => [15, 1, 3, 0, 0, 0, 0, 0, 0, 5].getD j 0) nu 0 0 10
def sp_settle (nu : Nat → Int32) : Nat → Int32 := if nu 4 = 0 then upd nu 4 (sp_worth nu 0) else nu
def sp_truer (er of_ : Nat → Int32) (p q : Nat) : Bool := decide ((er p).toInt64 * (of_ q).toInt64 < (er q).toInt64 * (of_ p).toInt64)
def sp_trOv (er of_ : Nat → Int32) (o : Option Nat) (p : Nat) : Bool := match o with
  | none => true
  | some q => sp_truer er of_ p q
def sp_trOne (er of_ : Nat → Int32) (p : Nat) (o : Option Nat) : Option Nat := if (decide (0 < of_ p) && sp_trOv er of_ o p) = true then some p else o
theorem sp_trOne_T {er of_ : Nat → Int32} {p : Nat} {o : Option Nat} (h : (decide (0 < of_ p) && sp_trOv er of_ o p) = true) : sp_trOne er of_ p o = some p := if_pos h
theorem sp_trOne_F {er of_ : Nat → Int32} {p : Nat} {o : Option Nat} (h : ¬ (decide (0 < of_ p) && sp_trOv er of_ o p) = true) : sp_trOne er of_ p o = o := if_neg h
theorem sp_trOne_lt (er of_ : Nat → Int32) : ∀ (n q : Nat), am_fold n (sp_trOne er of_) none = some q → q < n := by
  intro n
  induction n with
  | zero => intro q h; cases h
  | succ n ih =>
    intro q h
    rw [am_fold_succ] at h
    by_cases hc : (decide (0 < of_ n) && sp_trOv er of_ (am_fold n (sp_trOne er of_) none) n) = true
    · rw [sp_trOne_T hc] at h
      cases h
      omega
    · rw [sp_trOne_F hc] at h
      have := ih q h
      omega
def sp_addOne (co : Nat → Int32) (p : Nat) (s : Int32) : Int32 := s + co p
def sp_oddPay (nu : Nat → Int32) (D i : Nat) : Int32 := (Int32.ofNat D - Int32.ofNat i) * nu 1 + Int32.ofNat i * nu 2 + nu 3
def sp_oddOne (nu : Nat → Int32) (D : Nat) (k : Int32) (i : Nat) (X : Int32 × Int32) : Int32 × Int32 := (if sp_oddPay nu D i = k then X.1 + X.2 else X.1, X.2 * (Int32.ofNat D - Int32.ofNat i) / (Int32.ofNat i + 1))
theorem sp_oddOne_T {nu : Nat → Int32} {D : Nat} {k : Int32} {i : Nat} {X : Int32 × Int32} (h : sp_oddPay nu D i = k) : sp_oddOne nu D k i X = (X.1 + X.2, X.2 * (Int32.ofNat D - Int32.ofNat i) / (Int32.ofNat i + 1)) := by
  unfold sp_oddOne
  rw [if_pos h]
theorem sp_oddOne_F {nu : Nat → Int32} {D : Nat} {k : Int32} {i : Nat} {X : Int32 × Int32} (h : ¬ sp_oddPay nu D i = k) : sp_oddOne nu D k i X = (X.1, X.2 * (Int32.ofNat D - Int32.ofNat i) / (Int32.ofNat i + 1)) := by
  unfold sp_oddOne
  rw [if_neg h]
theorem am_succ_ne {i : Nat} (h : i < 2147483647) : ¬ Int32.ofNat i + 1 = 0 := fun z => by
  rw [am_inc] at z
  have := (am_eqi (j := 0) (by omega) (by omega)).mp z
  omega
theorem am_sub_ofN {i j : Nat} (h : j ≤ i) (hi : i < 2147483648) : Int32.ofNat i - Int32.ofNat j = Int32.ofNat (i - j) := by
  apply Int32.toInt_inj.mp
  rw [Int32.toInt_sub, am_ofN i hi, am_ofN j (by omega), am_ofN (i - j) (by omega)]
  rw [Int.bmod_eq_of_le (by omega) (by omega)]
  omega

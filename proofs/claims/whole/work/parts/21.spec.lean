/-! ===== what the room does, as mathematics ===== -/
def sp_byLaw (nu : Nat → Int32) (rd pr pv law n : Int32) : Int32 :=
  if law = 1 then pr + n * (pr - pv) / 10
  else if law = 2 then (if nu 0 - rd ≤ n then 0 else (if sp_worth nu rd < pr then pr else sp_worth nu rd) + 1)
  else if law = 3 then n
  else if law = 4 then (pr + sp_worth nu rd) / 2 + n
  else sp_worth nu rd
def sp_lid (nu : Nat → Int32) : Int32 := if nu 7 ≤ 0 then 999 else nu 7
def sp_lim (nu : Nat → Int32) (v : Int32) : Int32 := if 0 < (if v < sp_lid nu then v else sp_lid nu) then (if v < sp_lid nu then v else sp_lid nu) else 0
def sp_val (nu la me se : Nat → Int32) (rd pr pv : Int32) (p : Nat) : Int32 :=
  sp_lim nu (if 0 < se p ∧ (la p = 1 ∨ la p = 4) then sp_byLaw nu rd pr pv 2 (2 * se p) else sp_byLaw nu rd pr pv (la p) (me p))
def sp_pay (sh : Nat → Int32) (each : Int32) (p : Nat) (co : Nat → Int32) : Nat → Int32 := upd co p (co p + sh p * each)
def sp_over (bi : Nat → Int32) (o : Option Nat) (p : Nat) : Bool := match o with
  | none => true
  | some q => decide (bi q < bi p)
def sp_under (bi : Nat → Int32) (o : Option Nat) (p : Nat) : Bool := match o with
  | none => true
  | some q => decide (bi p < bi q)
/-- the first of those with the greatest number, of those that may -/
def sp_bestB (may : Nat → Bool) (bi : Nat → Int32) (p : Nat) (o : Option Nat) : Option Nat := if (may p && sp_over bi o p) = true then some p else o
def sp_bestS (may : Nat → Bool) (bi : Nat → Int32) (p : Nat) (o : Option Nat) : Option Nat := if (may p && sp_under bi o p) = true then some p else o
def sp_mayB (nu co bi bt : Nat → Int32) (p : Nat) : Bool := decide (bt p < 2) && decide (bi p + nu 8 ≤ co p + nu 5)
def sp_mayS (nu sh so : Nat → Int32) (b : Option Nat) (p : Nat) : Bool := decide (so p < 2) && decide (0 < sh p + nu 6) && decide (b ≠ some p)
def am_on (d : Int32) (o : Option Nat) : Int32 := match o with
  | none => d
  | some q => Int32.ofNat q
theorem sp_bestB_lt (may : Nat → Bool) (bi : Nat → Int32) : ∀ (n q : Nat), am_fold n (sp_bestB may bi) none = some q → q < n := by
  intro n
  induction n with
  | zero => intro q h; cases h
  | succ n ih =>
    intro q h
    change (if (may n && sp_over bi (am_fold n (sp_bestB may bi) none) n) = true then some n else am_fold n (sp_bestB may bi) none) = some q at h
    by_cases hc : (may n && sp_over bi (am_fold n (sp_bestB may bi) none) n) = true
    · rw [if_pos hc] at h
      cases h
      omega
    · rw [if_neg hc] at h
      have := ih q h
      omega
theorem sp_bestS_lt (may : Nat → Bool) (bi : Nat → Int32) : ∀ (n q : Nat), am_fold n (sp_bestS may bi) none = some q → q < n := by
  intro n
  induction n with
  | zero => intro q h; cases h
  | succ n ih =>
    intro q h
    change (if (may n && sp_under bi (am_fold n (sp_bestS may bi) none) n) = true then some n else am_fold n (sp_bestS may bi) none) = some q at h
    by_cases hc : (may n && sp_under bi (am_fold n (sp_bestS may bi) none) n) = true
    · rw [if_pos hc] at h
      cases h
      omega
    · rw [if_neg hc] at h
      have := ih q h
      omega
theorem am_fold_succ {α : Type} (n : Nat) (f : Nat → α → α) (a : α) : am_fold (n + 1) f a = f n (am_fold n f a) := rfl
theorem sp_bestB_T {may : Nat → Bool} {bi : Nat → Int32} {p : Nat} {o : Option Nat} (h : (may p && sp_over bi o p) = true) : sp_bestB may bi p o = some p := if_pos h
theorem sp_bestB_F {may : Nat → Bool} {bi : Nat → Int32} {p : Nat} {o : Option Nat} (h : ¬ (may p && sp_over bi o p) = true) : sp_bestB may bi p o = o := if_neg h
theorem sp_bestS_T {may : Nat → Bool} {bi : Nat → Int32} {p : Nat} {o : Option Nat} (h : (may p && sp_under bi o p) = true) : sp_bestS may bi p o = some p := if_pos h
theorem sp_bestS_F {may : Nat → Bool} {bi : Nat → Int32} {p : Nat} {o : Option Nat} (h : ¬ (may p && sp_under bi o p) = true) : sp_bestS may bi p o = o := if_neg h

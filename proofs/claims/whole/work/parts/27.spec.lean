/-! ===== playing on, beginning, looking back ===== -/
def sp_play (nu la me : Nat → Int32) (P N S : Nat) (k r : Nat) (R : sp_R) : Nat × sp_R := match k with
  | 0 => (0, R)
  | k + 1 => if N ≤ r then (0, R) else ((sp_play nu la me P N S k (r + 1) (sp_round nu la me P N S r R)).1 + 1, (sp_play nu la me P N S k (r + 1) (sp_round nu la me P N S r R)).2)
theorem sp_tail_rd (nu : Nat → Int32) (P N r : Nat) (pv sa pd lo : Int32) (bo se si er of_ bi : Nat → Int32) (cnt : Nat) (X : sp_S) : (sp_tail nu P N r pv sa pd lo bo se si er of_ bi cnt X).1 = Int32.ofNat (r + 1) := by
  obtain ⟨co, sh, bt, so, pr⟩ := X
  unfold sp_tail
  dsimp only
  split <;> exact am_inc r
theorem sp_round_rd (nu la me : Nat → Int32) (P N S r : Nat) (R : sp_R) : (sp_round nu la me P N S r R).1 = Int32.ofNat (r + 1) := by
  obtain ⟨rd, pr, pv, sa, pd, lo, bo, co, sh, se, si, er, of_, bi, bt, so⟩ := R
  exact sp_tail_rd _ _ _ _ _ _ _ _ _ _ _ _ _ _ _ _
def sp_begOne (tc ts : Nat → Int32) (p : Nat) (X : (Nat → Int32) × (Nat → Int32) × (Nat → Int32)) : (Nat → Int32) × (Nat → Int32) × (Nat → Int32) := (upd X.1 p (tc p), upd X.2.1 p (ts p), upd X.2.2 p (-9))
def sp_forOne (p : Nat) (X : (Nat → Int32) × (Nat → Int32) × (Nat → Int32)) : (Nat → Int32) × (Nat → Int32) × (Nat → Int32) := (upd X.1 p 0, upd X.2.1 p 0, upd X.2.2 p 0)
def sp_pk (bo : Nat → Int32) (n : Nat) : Option Nat := am_fold n (sp_bestB (fun _ => true) bo) none
def sp_peak (bo : Nat → Int32) (n : Nat) : Int32 := match sp_pk bo n with
  | none => 0
  | some q => bo q
def sp_fall (nu bo : Nat → Int32) (r : Nat) : Int32 := match r with
  | 0 => nu 4 - bo 0
  | r + 1 => bo r - bo (r + 1)
def sp_fallOne (nu bo : Nat → Int32) (r : Nat) (X : Option Nat × Int32) : Option Nat × Int32 := if sp_fall nu bo r ≤ X.2 then X else (some r, sp_fall nu bo r)
def sp_bubOne (nu bo : Nat → Int32) (r : Nat) (s : Int32) : Int32 := s + (if 0 < 2 * bo r - sp_halves nu (Int32.ofNat r) then 2 * bo r - sp_halves nu (Int32.ofNat r) else 0)

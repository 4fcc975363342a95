/-! ===== the reader ===== -/
def bkReader (tx : Nat → Int32) (ln it fa nx pl ki va tw : Int32) : List am_E := [.inr (2, [.ref 65, .int ln, .ref 96, .int it, .int fa, .int nx, .int pl, .int ki, .int va, .int tw]), .inl (1, 400, .inl tx)]
def sp_wds : List Int32 := [114, 111, 117, 110, 100, 115, 32, 112, 97, 121, 115, 32, 101, 110, 100, 32, 115, 116, 97, 114, 116, 32, 108, 101, 110, 116, 32, 115, 104, 111, 114, 116, 32, 108, 105, 100, 32, 102, 101, 101, 32, 115, 97, 108, 101, 115, 32, 112, 101, 114, 115, 111, 110, 32, 119, 111, 114, 116, 104, 32, 114, 105, 115, 105, 110, 103, 32, 114, 105, 100, 105, 110, 103, 32, 109, 105, 115, 116, 97, 107, 101, 110, 32, 102, 114, 101, 115, 104, 32]
def sp_wd (i : Nat) : Int32 := sp_wds.getD i 0
theorem sp_wd_char : ∀ i : Nat, i < 89 → ((sp_wds.getD i 0 &&& 255).toUInt32 % 65536).toInt32 = sp_wd i := by decide +kernel
theorem sp_wd_char2 : ∀ i : Nat, i < 89 → (sp_wd i).toUInt32.toUInt16.toUInt32.toInt32 = sp_wd i := by decide +kernel
theorem sp_wd_narc (i : Nat) (hi : i < 89) : narrow .char (.int (sp_wd i)) = .int (sp_wd i) := congrArg Value.int (sp_wd_char2 i hi)
def sp_typeOne (v : Int64) (i : Nat) (X : (Nat → Int32) × Nat) : (Nat → Int32) × Nat := (upd X.1 X.2 (vp_nar .byte (v >>> ((8 * Int32.ofNat i).toInt64 &&& 63)).toInt32.toInt8.toInt32), X.2 + 1)
theorem sp_type_len (v : Int64) : ∀ (n : Nat) (X : (Nat → Int32) × Nat), (am_down n (sp_typeOne v) X).2 = X.2 + n + 1 := by
  intro n
  induction n with
  | zero => intro X; rfl
  | succ n ih =>
    intro X
    show (am_down n (sp_typeOne v) (sp_typeOne v (n + 1) X)).2 = _
    rw [ih]
    show X.2 + 1 + n + 1 = _
    omega
/-- the end of a run of signs, d signs from i on at most -/
def sp_run (p : Int32 → Bool) (c : Nat → Int32) (d i : Nat) : Nat := match d with
  | 0 => i
  | d + 1 => if p (c i) = true then sp_run p c d (i + 1) else i
theorem sp_run_le (p : Int32 → Bool) (c : Nat → Int32) : ∀ (d i : Nat), i ≤ sp_run p c d i ∧ sp_run p c d i ≤ i + d := by
  intro d
  induction d with
  | zero => intro i; exact ⟨Nat.le_refl _, Nat.le_refl _⟩
  | succ d ih =>
    intro i
    unfold sp_run
    split
    · have := ih (i + 1)
      omega
    · omega
def sp_sp (v : Int32) : Bool := decide (v = 32)
def sp_dig (v : Int32) : Bool := decide (48 ≤ v ∧ v ≤ 57)
def sp_let (v : Int32) : Bool := decide (97 ≤ v ∧ v ≤ 122)
/-- the number of a run of digits: what is above 99 stays above it -/
def sp_num (c : Nat → Int32) (d i : Nat) (v : Int32) : Int32 := match d with
  | 0 => v
  | d + 1 => if sp_dig (c i) = true then sp_num c d (i + 1) (if 100 < v * 10 + c i - 48 then 100 else v * 10 + c i - 48) else v
def sp_nkind (c : Nat → Int32) (s e : Nat) (v : Int32) : Int32 := if 99 < v ∨ (c s = 48 ∧ 1 < e - s) then 0 else 3
theorem sp_run_T {p : Int32 → Bool} {c : Nat → Int32} {d i : Nat} (h : p (c i) = true) : sp_run p c (d + 1) i = sp_run p c d (i + 1) := if_pos h
theorem sp_run_F {p : Int32 → Bool} {c : Nat → Int32} {d i : Nat} (h : ¬ p (c i) = true) : sp_run p c (d + 1) i = i := if_neg h
theorem sp_num_T {c : Nat → Int32} {d i : Nat} {v : Int32} (h : sp_dig (c i) = true) : sp_num c (d + 1) i v = sp_num c d (i + 1) (if 100 < v * 10 + c i - 48 then 100 else v * 10 + c i - 48) := if_pos h
theorem sp_num_F {c : Nat → Int32} {d i : Nat} {v : Int32} (h : ¬ sp_dig (c i) = true) : sp_num c (d + 1) i v = v := if_neg h
/-- a word against the words, sign by sign: kind, value, word, from, same -/
abbrev sp_WS : Type := Int32 × Int32 × Nat × Nat × Bool
def sp_wOne (c : Nat → Int32) (s l n : Nat) (i : Nat) (X : sp_WS) : sp_WS :=
  if sp_wd i = 32 then (if X.2.2.2.2 = true ∧ i - X.2.2.2.1 = l then 4 else X.1, if X.2.2.2.2 = true ∧ i - X.2.2.2.1 = l then Int32.ofNat X.2.2.1 else X.2.1, X.2.2.1 + 1, i + 1, true)
  else (X.1, X.2.1, X.2.2.1, X.2.2.2.1, X.2.2.2.2 && decide (sp_wd i = (if s + i - X.2.2.2.1 < n then c (s + i - X.2.2.2.1) else -1)))
def sp_wFold (c : Nat → Int32) (s l n : Nat) (va : Int32) (k : Nat) : sp_WS := am_fold k (sp_wOne c s l n) (0, va, 0, 0, true)
theorem sp_wFold_le (c : Nat → Int32) (s l n : Nat) (va : Int32) : ∀ k : Nat, (sp_wFold c s l n va k).2.2.2.1 ≤ k ∧ (sp_wFold c s l n va k).2.2.1 ≤ k := by
  intro k
  induction k with
  | zero => exact ⟨Nat.le_refl _, Nat.le_refl _⟩
  | succ k ih =>
    unfold sp_wFold at ih ⊢
    rw [am_fold_succ]
    generalize am_fold k (sp_wOne c s l n) (0, va, 0, 0, true) = X at ih ⊢
    unfold sp_wOne
    split
    · dsimp only
      omega
    · dsimp only
      omega

/-! ===== the model's picture: one row of numbers ===== -/
def mp_s (rd pr pv sa pd lo : Int32) (bo co sh se si er of_ : Nat → Int32) : Nat → Int32 := fun j =>
  if j < 6 then [rd, pr, pv, sa, pd, lo].getD j 0 else if j < 26 then bo (j - 6) else if j < 80 then ([co, sh, se, si, er, of_].getD ((j - 26) % 6) (fun _ => 0)) ((j - 26) / 6) else 0
def mp_ru (nu dn : Nat → Int32) : Nat → Int32 := fun j => if j < 10 then nu j else if j < 20 then dn (j - 10) else 0
def mp_q (la me tc ts : Nat → Int32) : Nat → Int32 := fun j => ([la, me, tc, ts].getD (j % 4) (fun _ => 0)) (j / 4)
def mp_ps (a b : Nat → Int32) : Nat → Int32 := fun j => if j < 36 then a j else if j < 72 then b (j - 36) else 0
def bkModel (tr : Int64) (ty nx tk pl va fa pe dp cm : Int32) (tx ru ps s sp ke ik bi bt so nr ou ho cl : Nat → Int32) : List am_E := [.inr (7, [.int 0, .long tr, .ref 417, .int ty, .int nx, .int tk, .int pl, .int va, .int fa, .ref 418, .ref 419, .int pe, .int dp, .ref 420, .ref 421, .ref 422, .ref 423, .ref 424, .ref 425, .ref 426, .ref 427, .ref 428, .ref 429, .ref 430, .int cm]), .inl (0, 400, .inl tx), .inl (0, 20, .inl ru), .inl (0, 72, .inl ps), .inl (0, 80, .inl s), .inl (0, 80, .inl sp), .inl (0, 160, .inl ke), .inl (2, 2, .inl ik), .inl (0, 9, .inl bi), .inl (0, 9, .inl bt), .inl (0, 9, .inl so), .inl (0, 3, .inl nr), .inl (0, 3, .inl ou), .inl (0, 10, .inl ho), .inl (0, 12, .inl cl)]
theorem am_mulN (i j : Nat) : Int32.ofNat i * Int32.ofNat j = Int32.ofNat (i * j) := (Int32.ofNat_mul i j).symm
theorem am_ix6 {p k : Nat} (hp : p < 9) (hk : k < 6) : 26 + 6 * Int32.ofNat p + Int32.ofNat k = Int32.ofNat (26 + 6 * p + k) := by
  show Int32.ofNat 26 + Int32.ofNat 6 * Int32.ofNat p + Int32.ofNat k = _
  rw [am_mulN, am_addN, am_addN]
theorem mp_of (rd pr pv sa pd lo : Int32) (bo co sh se si er of_ : Nat → Int32) {p k : Nat} (hp : p < 9) (hk : k < 6) : mp_s rd pr pv sa pd lo bo co sh se si er of_ (26 + 6 * p + k) = ([co, sh, se, si, er, of_].getD k (fun _ => 0)) p := by
  unfold mp_s
  rw [if_neg (by omega), if_neg (by omega), if_pos (by omega), show (26 + 6 * p + k - 26) % 6 = k by omega, show (26 + 6 * p + k - 26) / 6 = p by omega]
theorem mp_upd_ne (f : Nat → Int32) {i j : Nat} (v : Int32) (h : j ≠ i) : upd f i v j = f j := if_neg h
theorem mp_upd_eq (f : Nat → Int32) (i : Nat) (v : Int32) : upd f i v i = v := if_pos rfl
theorem mp_puts0 (rd pr pv sa pd lo : Int32) (bo co sh se si er of_ : Nat → Int32) {p : Nat} (hp : p < 9) (v : Int32) : upd (mp_s rd pr pv sa pd lo bo co sh se si er of_) (26 + 6 * p + 0) v = mp_s rd pr pv sa pd lo bo (upd co p v) sh se si er of_ := by
  funext j
  by_cases hj : j = 26 + 6 * p + 0
  · subst hj
    rw [mp_upd_eq, mp_of _ _ _ _ _ _ _ _ _ _ _ _ _ hp (by omega)]
    exact (mp_upd_eq co p v).symm
  · rw [mp_upd_ne _ _ hj]
    unfold mp_s
    split
    · rfl
    · split
      · rfl
      · split
        · rename_i h1 h2 h3
          obtain ⟨a, b, hb, rfl⟩ : ∃ a b, b < 6 ∧ j = 26 + 6 * a + b := ⟨(j - 26) / 6, (j - 26) % 6, Nat.mod_lt _ (by omega), by omega⟩
          rw [show (26 + 6 * a + b - 26) % 6 = b by omega, show (26 + 6 * a + b - 26) / 6 = a by omega]
          rcases (show b = 0 ∨ b = 1 ∨ b = 2 ∨ b = 3 ∨ b = 4 ∨ b = 5 by omega) with rfl | rfl | rfl | rfl | rfl | rfl
          all_goals first | rfl | exact (mp_upd_ne co v (by omega)).symm
        · rfl
theorem mp_puts1 (rd pr pv sa pd lo : Int32) (bo co sh se si er of_ : Nat → Int32) {p : Nat} (hp : p < 9) (v : Int32) : upd (mp_s rd pr pv sa pd lo bo co sh se si er of_) (26 + 6 * p + 1) v = mp_s rd pr pv sa pd lo bo co (upd sh p v) se si er of_ := by
  funext j
  by_cases hj : j = 26 + 6 * p + 1
  · subst hj
    rw [mp_upd_eq, mp_of _ _ _ _ _ _ _ _ _ _ _ _ _ hp (by omega)]
    exact (mp_upd_eq sh p v).symm
  · rw [mp_upd_ne _ _ hj]
    unfold mp_s
    split
    · rfl
    · split
      · rfl
      · split
        · rename_i h1 h2 h3
          obtain ⟨a, b, hb, rfl⟩ : ∃ a b, b < 6 ∧ j = 26 + 6 * a + b := ⟨(j - 26) / 6, (j - 26) % 6, Nat.mod_lt _ (by omega), by omega⟩
          rw [show (26 + 6 * a + b - 26) % 6 = b by omega, show (26 + 6 * a + b - 26) / 6 = a by omega]
          rcases (show b = 0 ∨ b = 1 ∨ b = 2 ∨ b = 3 ∨ b = 4 ∨ b = 5 by omega) with rfl | rfl | rfl | rfl | rfl | rfl
          all_goals first | rfl | exact (mp_upd_ne sh v (by omega)).symm
        · rfl
theorem mp_puts2 (rd pr pv sa pd lo : Int32) (bo co sh se si er of_ : Nat → Int32) {p : Nat} (hp : p < 9) (v : Int32) : upd (mp_s rd pr pv sa pd lo bo co sh se si er of_) (26 + 6 * p + 2) v = mp_s rd pr pv sa pd lo bo co sh (upd se p v) si er of_ := by
  funext j
  by_cases hj : j = 26 + 6 * p + 2
  · subst hj
    rw [mp_upd_eq, mp_of _ _ _ _ _ _ _ _ _ _ _ _ _ hp (by omega)]
    exact (mp_upd_eq se p v).symm
  · rw [mp_upd_ne _ _ hj]
    unfold mp_s
    split
    · rfl
    · split
      · rfl
      · split
        · rename_i h1 h2 h3
          obtain ⟨a, b, hb, rfl⟩ : ∃ a b, b < 6 ∧ j = 26 + 6 * a + b := ⟨(j - 26) / 6, (j - 26) % 6, Nat.mod_lt _ (by omega), by omega⟩
          rw [show (26 + 6 * a + b - 26) % 6 = b by omega, show (26 + 6 * a + b - 26) / 6 = a by omega]
          rcases (show b = 0 ∨ b = 1 ∨ b = 2 ∨ b = 3 ∨ b = 4 ∨ b = 5 by omega) with rfl | rfl | rfl | rfl | rfl | rfl
          all_goals first | rfl | exact (mp_upd_ne se v (by omega)).symm
        · rfl
theorem mp_puts3 (rd pr pv sa pd lo : Int32) (bo co sh se si er of_ : Nat → Int32) {p : Nat} (hp : p < 9) (v : Int32) : upd (mp_s rd pr pv sa pd lo bo co sh se si er of_) (26 + 6 * p + 3) v = mp_s rd pr pv sa pd lo bo co sh se (upd si p v) er of_ := by
  funext j
  by_cases hj : j = 26 + 6 * p + 3
  · subst hj
    rw [mp_upd_eq, mp_of _ _ _ _ _ _ _ _ _ _ _ _ _ hp (by omega)]
    exact (mp_upd_eq si p v).symm
  · rw [mp_upd_ne _ _ hj]
    unfold mp_s
    split
    · rfl
    · split
      · rfl
      · split
        · rename_i h1 h2 h3
          obtain ⟨a, b, hb, rfl⟩ : ∃ a b, b < 6 ∧ j = 26 + 6 * a + b := ⟨(j - 26) / 6, (j - 26) % 6, Nat.mod_lt _ (by omega), by omega⟩
          rw [show (26 + 6 * a + b - 26) % 6 = b by omega, show (26 + 6 * a + b - 26) / 6 = a by omega]
          rcases (show b = 0 ∨ b = 1 ∨ b = 2 ∨ b = 3 ∨ b = 4 ∨ b = 5 by omega) with rfl | rfl | rfl | rfl | rfl | rfl
          all_goals first | rfl | exact (mp_upd_ne si v (by omega)).symm
        · rfl
theorem mp_puts4 (rd pr pv sa pd lo : Int32) (bo co sh se si er of_ : Nat → Int32) {p : Nat} (hp : p < 9) (v : Int32) : upd (mp_s rd pr pv sa pd lo bo co sh se si er of_) (26 + 6 * p + 4) v = mp_s rd pr pv sa pd lo bo co sh se si (upd er p v) of_ := by
  funext j
  by_cases hj : j = 26 + 6 * p + 4
  · subst hj
    rw [mp_upd_eq, mp_of _ _ _ _ _ _ _ _ _ _ _ _ _ hp (by omega)]
    exact (mp_upd_eq er p v).symm
  · rw [mp_upd_ne _ _ hj]
    unfold mp_s
    split
    · rfl
    · split
      · rfl
      · split
        · rename_i h1 h2 h3
          obtain ⟨a, b, hb, rfl⟩ : ∃ a b, b < 6 ∧ j = 26 + 6 * a + b := ⟨(j - 26) / 6, (j - 26) % 6, Nat.mod_lt _ (by omega), by omega⟩
          rw [show (26 + 6 * a + b - 26) % 6 = b by omega, show (26 + 6 * a + b - 26) / 6 = a by omega]
          rcases (show b = 0 ∨ b = 1 ∨ b = 2 ∨ b = 3 ∨ b = 4 ∨ b = 5 by omega) with rfl | rfl | rfl | rfl | rfl | rfl
          all_goals first | rfl | exact (mp_upd_ne er v (by omega)).symm
        · rfl
theorem mp_puts5 (rd pr pv sa pd lo : Int32) (bo co sh se si er of_ : Nat → Int32) {p : Nat} (hp : p < 9) (v : Int32) : upd (mp_s rd pr pv sa pd lo bo co sh se si er of_) (26 + 6 * p + 5) v = mp_s rd pr pv sa pd lo bo co sh se si er (upd of_ p v) := by
  funext j
  by_cases hj : j = 26 + 6 * p + 5
  · subst hj
    rw [mp_upd_eq, mp_of _ _ _ _ _ _ _ _ _ _ _ _ _ hp (by omega)]
    exact (mp_upd_eq of_ p v).symm
  · rw [mp_upd_ne _ _ hj]
    unfold mp_s
    split
    · rfl
    · split
      · rfl
      · split
        · rename_i h1 h2 h3
          obtain ⟨a, b, hb, rfl⟩ : ∃ a b, b < 6 ∧ j = 26 + 6 * a + b := ⟨(j - 26) / 6, (j - 26) % 6, Nat.mod_lt _ (by omega), by omega⟩
          rw [show (26 + 6 * a + b - 26) % 6 = b by omega, show (26 + 6 * a + b - 26) / 6 = a by omega]
          rcases (show b = 0 ∨ b = 1 ∨ b = 2 ∨ b = 3 ∨ b = 4 ∨ b = 5 by omega) with rfl | rfl | rfl | rfl | rfl | rfl
          all_goals first | rfl | exact (mp_upd_ne of_ v (by omega)).symm
        · rfl
theorem mp_set0 (rd pr pv sa pd lo : Int32) (bo co sh se si er of_ : Nat → Int32) (v : Int32) : upd (mp_s rd pr pv sa pd lo bo co sh se si er of_) 0 v = mp_s v pr pv sa pd lo bo co sh se si er of_ := by
  funext j
  by_cases hj : j = 0
  · subst hj
    rfl
  · rw [mp_upd_ne _ _ hj]
    unfold mp_s
    split
    · rename_i h1
      rcases (show j = 0 ∨ j = 1 ∨ j = 2 ∨ j = 3 ∨ j = 4 ∨ j = 5 by omega) with rfl | rfl | rfl | rfl | rfl | rfl
      all_goals first | rfl | exact absurd rfl hj
    · rfl
theorem mp_set1 (rd pr pv sa pd lo : Int32) (bo co sh se si er of_ : Nat → Int32) (v : Int32) : upd (mp_s rd pr pv sa pd lo bo co sh se si er of_) 1 v = mp_s rd v pv sa pd lo bo co sh se si er of_ := by
  funext j
  by_cases hj : j = 1
  · subst hj
    rfl
  · rw [mp_upd_ne _ _ hj]
    unfold mp_s
    split
    · rename_i h1
      rcases (show j = 0 ∨ j = 1 ∨ j = 2 ∨ j = 3 ∨ j = 4 ∨ j = 5 by omega) with rfl | rfl | rfl | rfl | rfl | rfl
      all_goals first | rfl | exact absurd rfl hj
    · rfl
theorem mp_set2 (rd pr pv sa pd lo : Int32) (bo co sh se si er of_ : Nat → Int32) (v : Int32) : upd (mp_s rd pr pv sa pd lo bo co sh se si er of_) 2 v = mp_s rd pr v sa pd lo bo co sh se si er of_ := by
  funext j
  by_cases hj : j = 2
  · subst hj
    rfl
  · rw [mp_upd_ne _ _ hj]
    unfold mp_s
    split
    · rename_i h1
      rcases (show j = 0 ∨ j = 1 ∨ j = 2 ∨ j = 3 ∨ j = 4 ∨ j = 5 by omega) with rfl | rfl | rfl | rfl | rfl | rfl
      all_goals first | rfl | exact absurd rfl hj
    · rfl
theorem mp_set3 (rd pr pv sa pd lo : Int32) (bo co sh se si er of_ : Nat → Int32) (v : Int32) : upd (mp_s rd pr pv sa pd lo bo co sh se si er of_) 3 v = mp_s rd pr pv v pd lo bo co sh se si er of_ := by
  funext j
  by_cases hj : j = 3
  · subst hj
    rfl
  · rw [mp_upd_ne _ _ hj]
    unfold mp_s
    split
    · rename_i h1
      rcases (show j = 0 ∨ j = 1 ∨ j = 2 ∨ j = 3 ∨ j = 4 ∨ j = 5 by omega) with rfl | rfl | rfl | rfl | rfl | rfl
      all_goals first | rfl | exact absurd rfl hj
    · rfl
theorem mp_set4 (rd pr pv sa pd lo : Int32) (bo co sh se si er of_ : Nat → Int32) (v : Int32) : upd (mp_s rd pr pv sa pd lo bo co sh se si er of_) 4 v = mp_s rd pr pv sa v lo bo co sh se si er of_ := by
  funext j
  by_cases hj : j = 4
  · subst hj
    rfl
  · rw [mp_upd_ne _ _ hj]
    unfold mp_s
    split
    · rename_i h1
      rcases (show j = 0 ∨ j = 1 ∨ j = 2 ∨ j = 3 ∨ j = 4 ∨ j = 5 by omega) with rfl | rfl | rfl | rfl | rfl | rfl
      all_goals first | rfl | exact absurd rfl hj
    · rfl
theorem mp_set5 (rd pr pv sa pd lo : Int32) (bo co sh se si er of_ : Nat → Int32) (v : Int32) : upd (mp_s rd pr pv sa pd lo bo co sh se si er of_) 5 v = mp_s rd pr pv sa pd v bo co sh se si er of_ := by
  funext j
  by_cases hj : j = 5
  · subst hj
    rfl
  · rw [mp_upd_ne _ _ hj]
    unfold mp_s
    split
    · rename_i h1
      rcases (show j = 0 ∨ j = 1 ∨ j = 2 ∨ j = 3 ∨ j = 4 ∨ j = 5 by omega) with rfl | rfl | rfl | rfl | rfl | rfl
      all_goals first | rfl | exact absurd rfl hj
    · rfl
theorem mp_setB (rd pr pv sa pd lo : Int32) (bo co sh se si er of_ : Nat → Int32) {r : Nat} (hr : r < 20) (v : Int32) : upd (mp_s rd pr pv sa pd lo bo co sh se si er of_) (6 + r) v = mp_s rd pr pv sa pd lo (upd bo r v) co sh se si er of_ := by
  funext j
  by_cases hj : j = 6 + r
  · subst hj
    rw [mp_upd_eq]
    unfold mp_s
    rw [if_neg (by omega), if_pos (by omega), show 6 + r - 6 = r by omega, mp_upd_eq]
  · rw [mp_upd_ne _ _ hj]
    unfold mp_s
    split
    · rfl
    · split
      · rw [mp_upd_ne _ _ (by omega)]
      · rfl
theorem mp_board (rd pr pv sa pd lo : Int32) (bo co sh se si er of_ : Nat → Int32) {r : Nat} (hr : r < 20) : mp_s rd pr pv sa pd lo bo co sh se si er of_ (6 + r) = bo r := by
  unfold mp_s
  rw [if_neg (by omega), if_pos (by omega), show 6 + r - 6 = r by omega]
theorem am_ix4 {p k : Nat} : 4 * Int32.ofNat p + Int32.ofNat k = Int32.ofNat (4 * p + k) := by
  show Int32.ofNat 4 * Int32.ofNat p + Int32.ofNat k = _
  rw [am_mulN, am_addN]
theorem am_ix40 {p : Nat} : 4 * Int32.ofNat p = Int32.ofNat (4 * p + 0) := by
  show Int32.ofNat 4 * Int32.ofNat p = _
  rw [am_mulN]
  rfl
theorem mp_pers (la me tc ts b : Nat → Int32) {p k : Nat} (hp : p < 9) (hk : k < 4) : mp_ps (mp_q la me tc ts) b (4 * p + k) = ([la, me, tc, ts].getD k (fun _ => 0)) p := by
  unfold mp_ps mp_q
  rw [if_pos (by omega), show (4 * p + k) % 4 = k by omega, show (4 * p + k) / 4 = p by omega]
theorem am_tn6 {p k : Nat} (hp : p < 9) (hk : k < 6) : (26 + 6 * Int32.ofNat p + Int32.ofNat k).toNatClampNeg = 26 + 6 * p + k := by rw [am_ix6 hp hk]; exact am_tn _ (by omega)
theorem am_inb6 {p k : Nat} (hp : p < 9) (hk : k < 6) : am_inb (26 + 6 * Int32.ofNat p + Int32.ofNat k) 80 := by rw [am_ix6 hp hk]; exact am_inb_of (by omega) (by omega)
theorem am_tn4 {p k : Nat} (hp : p < 9) (hk : k < 4) : (4 * Int32.ofNat p + Int32.ofNat k).toNatClampNeg = 4 * p + k := by rw [am_ix4]; exact am_tn _ (by omega)
theorem am_tn40 {p : Nat} (hp : p < 9) : (4 * Int32.ofNat p).toNatClampNeg = 4 * p + 0 := by rw [am_ix40]; exact am_tn _ (by omega)
theorem am_inb4 {p k : Nat} (hp : p < 9) (hk : k < 4) : am_inb (4 * Int32.ofNat p + Int32.ofNat k) 72 := by rw [am_ix4]; exact am_inb_of (by omega) (by omega)
theorem am_inb40 {p : Nat} (hp : p < 9) : am_inb (4 * Int32.ofNat p) 72 := by rw [am_ix40]; exact am_inb_of (by omega) (by omega)

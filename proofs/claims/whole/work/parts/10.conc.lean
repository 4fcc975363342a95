/-! ===== the abstract memory as cells of the heap ===== -/
def am_ce (z0 : Nat) (sp : Nat → Value) (cy : Nat → ClassId) (e : am_E) : va_E := match e with
  | .inl (t, x) => .inl (cy t, x)
  | .inr (c, fs) => .inr (c, fs.map (am_cv z0 sp))
def am_cb (z0 : Nat) (sp : Nat → Value) (cy : Nat → ClassId) (b i : Nat) (L : List am_E) : va_W := match L with
  | [] => []
  | e :: L => (z0 + am_of b + i, am_ce z0 sp cy e) :: am_cb z0 sp cy b (i + 1) L
def am_cm (z0 : Nat) (sp : Nat → Value) (cy : Nat → ClassId) (b : Nat) (M : am_M) : va_W := match M with
  | [] => []
  | L :: M => am_cb z0 sp cy b 0 L ++ am_cm z0 sp cy (b + 1) M
section
variable {z0 : Nat} {sp : Nat → Value} {cy : Nat → ClassId}
theorem am_cb_len (b : Nat) : ∀ (L : List am_E) (i : Nat), (am_cb z0 sp cy b i L).length = L.length := by
  intro L
  induction L with
  | nil => intro i; rfl
  | cons e L ih => intro i; simp [am_cb, ih]
theorem am_cb_at (b : Nat) : ∀ (L : List am_E) (i j : Nat) (e : am_E), L[j]? = some e → (am_cb z0 sp cy b i L)[j]? = some (z0 + am_of b + (i + j), am_ce z0 sp cy e) := by
  intro L
  induction L with
  | nil => intro i j e h; simp at h
  | cons a L ih =>
    intro i j e h
    cases j with
    | zero => simp at h; subst h; simp [am_cb]
    | succ j =>
      simp at h
      have := ih (i + 1) j e h
      simp only [am_cb, List.getElem?_cons_succ]
      rw [this]
      congr 2
      omega
theorem am_cb_set (b : Nat) (e' : am_E) : ∀ (L : List am_E) (i j : Nat) (_ : j < L.length), am_cb z0 sp cy b i (L.set j e') = (am_cb z0 sp cy b i L).set j (z0 + am_of b + (i + j), am_ce z0 sp cy e') := by
  intro L
  induction L with
  | nil => intro i j h; simp at h
  | cons a L ih =>
    intro i j h
    cases j with
    | zero => simp [am_cb]
    | succ j =>
      simp at h
      have := ih (i + 1) j h
      simp only [am_cb, List.set_cons_succ]
      rw [this]
      congr 3
      omega
theorem am_cb_app (b : Nat) (e : am_E) : ∀ (L : List am_E) (i : Nat), am_cb z0 sp cy b i (L ++ [e]) = am_cb z0 sp cy b i L ++ [(z0 + am_of b + (i + L.length), am_ce z0 sp cy e)] := by
  intro L
  induction L with
  | nil => intro i; simp [am_cb]
  | cons a L ih =>
    intro i
    simp only [List.cons_append, am_cb, ih, List.length_cons]
    congr 4
    omega
/-- a cell and its place in the list of all cells; what a store of it does there -/
theorem am_cm_at : ∀ (M : am_M) (b d i : Nat) (L : List am_E) (e : am_E), M[d]? = some L → L[i]? = some e →
    ∃ q0 : Nat, (am_cm z0 sp cy b M)[q0]? = some (z0 + am_of (b + d) + i, am_ce z0 sp cy e) ∧ ∀ e', am_cm z0 sp cy b (M.set d (L.set i e')) = (am_cm z0 sp cy b M).set q0 (z0 + am_of (b + d) + i, am_ce z0 sp cy e') := by
  intro M
  induction M with
  | nil => intro b d i L e h; simp at h
  | cons L0 M ih =>
    intro b d i L e h he
    have hi : i < L.length := (List.getElem?_eq_some_iff.mp he).1
    cases d with
    | zero =>
      simp at h
      subst h
      refine ⟨i, ?_, fun e' => ?_⟩
      · simp only [am_cm]
        rw [List.getElem?_append_left (by rw [am_cb_len]; exact hi), am_cb_at b L0 0 i e he]
        simp
      · simp only [am_cm, List.set_cons_zero]
        rw [am_cb_set b e' L0 0 i hi, List.set_append_left _ _ (by rw [am_cb_len]; exact hi)]
        simp
    | succ d =>
      simp at h
      obtain ⟨q, h1, h2⟩ := ih (b + 1) d i L e h he
      refine ⟨(am_cb z0 sp cy b 0 L0).length + q, ?_, fun e' => ?_⟩
      · simp only [am_cm]
        rw [List.getElem?_append_right (by omega), Nat.add_sub_cancel_left, h1, show b + (d + 1) = b + 1 + d by omega]
      · simp only [am_cm, List.set_cons_succ]
        rw [h2 e', List.set_append_right _ _ (by omega), Nat.add_sub_cancel_left, show b + (d + 1) = b + 1 + d by omega]
theorem am_get_at {M : am_M} {n : Nat} {e : am_E} (h : am_get M n = some e) : n < 1000 ∧ ∃ q0 : Nat, (am_cm z0 sp cy 0 M)[q0]? = some (am_ad z0 n, am_ce z0 sp cy e) ∧ ∀ e', am_cm z0 sp cy 0 (am_set M n e') = (am_cm z0 sp cy 0 M).set q0 (am_ad z0 n, am_ce z0 sp cy e') := by
  unfold am_get at h
  split at h
  · cases h
  · next hb =>
    split at h
    · next L hL =>
      have hn : n < 1000 := by
        rcases Nat.lt_or_ge n 1000 with q | q
        · exact q
        · rw [Nat.ble_eq_true_of_le q] at hb; cases hb
      obtain ⟨q0, h1, h2⟩ := am_cm_at (z0 := z0) (sp := sp) (cy := cy) M 0 (n / 32) (n % 32) L e hL h
      rw [Nat.zero_add] at h1 h2
      refine ⟨hn, q0, h1, fun e' => ?_⟩
      unfold am_set
      rw [hL]
      exact h2 e'
    · cases h
theorem am_cm_app (e : am_E) : ∀ (M : am_M) (b : Nat), am_cm z0 sp cy b (M ++ [[e]]) = am_cm z0 sp cy b M ++ [(z0 + am_of (b + M.length), am_ce z0 sp cy e)] := by
  intro M
  induction M with
  | nil => intro b; simp [am_cm, am_cb]
  | cons L M ih =>
    intro b
    simp only [List.cons_append, am_cm, ih, List.length_cons, List.append_assoc]
    rw [show b + (M.length + 1) = b + 1 + M.length by omega]
theorem am_cm_push (e : am_E) : ∀ (M : am_M) (b : Nat), 0 < M.length → am_cm z0 sp cy b (am_push M e) = am_cm z0 sp cy b M ++ [(z0 + am_of (b + (am_last M).1) + (am_last M).2, am_ce z0 sp cy e)] := by
  intro M
  induction M with
  | nil => intro b h; simp at h
  | cons L M ih =>
    intro b _
    cases M with
    | nil => simp [am_push, am_cm, am_last, am_cb_app]
    | cons L1 M =>
      have := ih (b + 1) (by simp)
      simp only [am_push, am_cm, am_last] at this ⊢
      rw [this]
      simp only [List.append_assoc]
      rw [show b + ((am_last (L1 :: M)).1 + 1) = b + 1 + (am_last (L1 :: M)).1 by omega]
end
theorem am_tot_app (e : am_E) : ∀ M : am_M, am_tot (M ++ [[e]]) = am_tot M + 1 := by
  intro M
  induction M with
  | nil => rfl
  | cons L M ih => simp only [List.cons_append, am_tot, ih]; omega
theorem am_sl_app (e : am_E) : ∀ M : am_M, am_sl (M ++ [[e]]) = am_sl M + am_esl e := by
  intro M
  induction M with
  | nil => simp [am_sl, am_lsl]
  | cons L M ih => simp only [List.cons_append, am_sl, ih]; omega
theorem am_lsl_app (e : am_E) : ∀ L : List am_E, am_lsl (L ++ [e]) = am_lsl L + am_esl e := by
  intro L
  induction L with
  | nil => simp [am_lsl]
  | cons a L ih => simp only [List.cons_append, am_lsl, ih]; omega
theorem am_tot_push (e : am_E) : ∀ M : am_M, 0 < M.length → am_tot (am_push M e) = am_tot M + 1 := by
  intro M
  induction M with
  | nil => intro h; simp at h
  | cons L M ih =>
    intro _
    cases M with
    | nil => simp [am_push, am_tot]
    | cons L1 M => simp only [am_push, am_tot] at ih ⊢; have := ih (by simp); omega
theorem am_sl_push (e : am_E) : ∀ M : am_M, 0 < M.length → am_sl (am_push M e) = am_sl M + am_esl e := by
  intro M
  induction M with
  | nil => intro h; simp at h
  | cons L M ih =>
    intro _
    cases M with
    | nil => simp [am_push, am_sl, am_lsl_app]
    | cons L1 M => simp only [am_push, am_sl] at ih ⊢; have := ih (by simp); omega
theorem am_tot_setd : ∀ (M : am_M) (d : Nat) (L L' : List am_E), M[d]? = some L → L'.length = L.length → am_tot (M.set d L') = am_tot M := by
  intro M
  induction M with
  | nil => intro d L L' h; simp at h
  | cons L0 M ih =>
    intro d L L' h hl
    cases d with
    | zero => simp at h; subst h; simp [am_tot, hl]
    | succ d => simp at h; simp [am_tot, ih d L L' h hl]
theorem am_sl_setd : ∀ (M : am_M) (d : Nat) (L L' : List am_E), M[d]? = some L → am_lsl L' = am_lsl L → am_sl (M.set d L') = am_sl M := by
  intro M
  induction M with
  | nil => intro d L L' h; simp at h
  | cons L0 M ih =>
    intro d L L' h hl
    cases d with
    | zero => simp at h; subst h; simp [am_sl, hl]
    | succ d => simp at h; simp [am_sl, ih d L L' h hl]
theorem am_lsl_setd : ∀ (L : List am_E) (i : Nat) (e e' : am_E), L[i]? = some e → am_esl e' = am_esl e → am_lsl (L.set i e') = am_lsl L := by
  intro L
  induction L with
  | nil => intro d e e' h; simp at h
  | cons a L ih =>
    intro d e e' h hl
    cases d with
    | zero => simp at h; subst h; simp [am_lsl, hl]
    | succ d => simp at h; simp [am_lsl, ih d e e' h hl]
theorem am_set_tot {M : am_M} {n : Nat} {e e' : am_E} (h : am_get M n = some e) (hl : am_esl e' = am_esl e) : am_tot (am_set M n e') = am_tot M ∧ am_sl (am_set M n e') = am_sl M := by
  unfold am_get at h
  split at h
  · cases h
  · split at h
    · next L hL =>
      unfold am_set
      rw [hL]
      exact ⟨am_tot_setd M _ L _ hL (by simp), am_sl_setd M _ L _ hL (am_lsl_setd L _ e e' h hl)⟩
    · cases h

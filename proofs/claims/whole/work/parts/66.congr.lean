/-! ===== what is behind the people doesn't matter ===== -/
def sp_eqN (n : Nat) (f g : Nat → Int32) : Prop := ∀ k, k < n → f k = g k
theorem sp_worth_c {nu nu' : Nat → Int32} (h : sp_eqN 10 nu nu') (r : Int32) : sp_worth nu r = sp_worth nu' r := by
  unfold sp_worth
  rw [h 0 (by omega), h 1 (by omega), h 2 (by omega), h 3 (by omega)]
theorem sp_halves_c {nu nu' : Nat → Int32} (h : sp_eqN 10 nu nu') (r : Int32) : sp_halves nu r = sp_halves nu' r := by
  unfold sp_halves
  rw [h 0 (by omega), h 1 (by omega), h 2 (by omega), h 3 (by omega)]
theorem sp_byLaw_c {nu nu' : Nat → Int32} (h : sp_eqN 10 nu nu') (rd pr pv l n : Int32) : sp_byLaw nu rd pr pv l n = sp_byLaw nu' rd pr pv l n := by
  unfold sp_byLaw
  rw [h 0 (by omega), sp_worth_c h]
theorem sp_lim_cc {nu nu' : Nat → Int32} (h : sp_eqN 10 nu nu') (v : Int32) : sp_lim nu v = sp_lim nu' v := by
  unfold sp_lim sp_lid
  rw [h 7 (by omega)]
theorem sp_val_c {nu nu' la la' me me' se se' : Nat → Int32} {P p : Nat} (h : sp_eqN 10 nu nu') (h1 : sp_eqN P la la') (h2 : sp_eqN P me me') (h3 : sp_eqN P se se') (hp : p < P) (rd pr pv : Int32) : sp_val nu la me se rd pr pv p = sp_val nu' la' me' se' rd pr pv p := by
  unfold sp_val
  rw [h1 p hp, h2 p hp, h3 p hp, sp_lim_cc h, sp_byLaw_c h, sp_byLaw_c h]
theorem sp_bid_spec (v : Nat → Int32) (X : (Nat → Int32) × (Nat → Int32) × (Nat → Int32)) : ∀ n p : Nat, p < n → (am_fold n (sp_bidOne v) X).1 p = v p ∧ (am_fold n (sp_bidOne v) X).2.1 p = 0 ∧ (am_fold n (sp_bidOne v) X).2.2 p = 0 := by
  intro n
  induction n with
  | zero => intro p h; exact absurd h (Nat.not_lt_zero p)
  | succ n ih =>
    intro p h
    rw [am_fold_succ]
    by_cases e : p = n
    · subst e
      exact ⟨mp_upd_eq _ _ _, mp_upd_eq _ _ _, mp_upd_eq _ _ _⟩
    · obtain ⟨a, b, c⟩ := ih p (by omega)
      exact ⟨(mp_upd_ne _ _ e).trans a, (mp_upd_ne _ _ e).trans b, (mp_upd_ne _ _ e).trans c⟩
theorem sp_pay_spec (sh : Nat → Int32) (e : Int32) (co : Nat → Int32) (p : Nat) : ∀ n : Nat, (am_fold n (sp_pay sh e) co) p = if p < n then co p + sh p * e else co p := by
  intro n
  induction n with
  | zero => rfl
  | succ n ih =>
    rw [am_fold_succ]
    unfold sp_pay
    by_cases h : p = n
    · subst h
      rw [mp_upd_eq, if_pos (by omega)]
      unfold sp_pay at ih
      rw [ih, if_neg (by omega)]
    · rw [mp_upd_ne _ _ h]
      unfold sp_pay at ih
      rw [ih]
      by_cases h2 : p < n
      · rw [if_pos h2, if_pos (by omega)]
      · rw [if_neg h2, if_neg (by omega)]
theorem sp_said_spec (pr : Int32) (si er of_ : Nat → Int32) (p : Nat) : ∀ n : Nat, (am_fold n (sp_saidOne pr) (si, er, of_)).1 p = (if p < n then -9 else si p) ∧ (am_fold n (sp_saidOne pr) (si, er, of_)).2.1 p = (if p < n then (if si p = -9 then er p else er p + sp_abs (pr - si p)) else er p) ∧ (am_fold n (sp_saidOne pr) (si, er, of_)).2.2 p = (if p < n then (if si p = -9 then of_ p else of_ p + 1) else of_ p) := by
  intro n
  induction n with
  | zero => exact ⟨rfl, rfl, rfl⟩
  | succ n ih =>
    rw [am_fold_succ]
    generalize am_fold n (sp_saidOne pr) (si, er, of_) = X at ih ⊢
    obtain ⟨a, b, c⟩ := ih
    unfold sp_saidOne
    by_cases h : p = n
    · subst h
      have n1 : ¬ p < p := Nat.lt_irrefl p
      have n2 : p < p + 1 := Nat.lt_succ_self p
      simp only [if_neg n1] at a b c
      simp only [if_pos n2]
      by_cases q : X.1 p = -9
      · have q2 : si p = -9 := a.symm.trans q
        simp only [if_pos q, if_pos q2]
        exact ⟨q, b, c⟩
      · have q2 : ¬ si p = -9 := fun z => q (a.trans z)
        simp only [if_neg q, if_neg q2]
        exact ⟨mp_upd_eq _ _ _, (mp_upd_eq _ _ _).trans (by rw [b, a]), (mp_upd_eq _ _ _).trans (by rw [c])⟩
    · have hX : (if X.1 n = -9 then X else (upd X.1 n (-9), upd X.2.1 n (X.2.1 n + sp_abs (pr - X.1 n)), upd X.2.2 n (X.2.2 n + 1))).1 p = X.1 p ∧ (if X.1 n = -9 then X else (upd X.1 n (-9), upd X.2.1 n (X.2.1 n + sp_abs (pr - X.1 n)), upd X.2.2 n (X.2.2 n + 1))).2.1 p = X.2.1 p ∧ (if X.1 n = -9 then X else (upd X.1 n (-9), upd X.2.1 n (X.2.1 n + sp_abs (pr - X.1 n)), upd X.2.2 n (X.2.2 n + 1))).2.2 p = X.2.2 p := by
        by_cases q : X.1 n = -9
        · rw [if_pos q]
          exact ⟨rfl, rfl, rfl⟩
        · rw [if_neg q]
          exact ⟨mp_upd_ne _ _ h, mp_upd_ne _ _ h, mp_upd_ne _ _ h⟩
      obtain ⟨x1, x2, x3⟩ := hX
      refine ⟨x1.trans (a.trans ?_), x2.trans (b.trans ?_), x3.trans (c.trans ?_)⟩
      all_goals
        by_cases h2 : p < n
        · rw [if_pos h2, if_pos (show p < n + 1 by omega)]
        · rw [if_neg h2, if_neg (show ¬ p < n + 1 by omega)]
theorem sp_beg_spec (tc ts : Nat → Int32) (X : (Nat → Int32) × (Nat → Int32) × (Nat → Int32)) : ∀ n p : Nat, p < n → (am_fold n (sp_begOne tc ts) X).1 p = tc p ∧ (am_fold n (sp_begOne tc ts) X).2.1 p = ts p ∧ (am_fold n (sp_begOne tc ts) X).2.2 p = -9 := by
  intro n
  induction n with
  | zero => intro p h; exact absurd h (Nat.not_lt_zero p)
  | succ n ih =>
    intro p h
    rw [am_fold_succ]
    by_cases e : p = n
    · subst e
      exact ⟨mp_upd_eq _ _ _, mp_upd_eq _ _ _, mp_upd_eq _ _ _⟩
    · obtain ⟨a, b, c⟩ := ih p (by omega)
      exact ⟨(mp_upd_ne _ _ e).trans a, (mp_upd_ne _ _ e).trans b, (mp_upd_ne _ _ e).trans c⟩
theorem sp_for_spec (X : (Nat → Int32) × (Nat → Int32) × (Nat → Int32)) : ∀ n p : Nat, p < n → (am_fold n sp_forOne X).1 p = 0 ∧ (am_fold n sp_forOne X).2.1 p = 0 ∧ (am_fold n sp_forOne X).2.2 p = 0 := by
  intro n
  induction n with
  | zero => intro p h; exact absurd h (Nat.not_lt_zero p)
  | succ n ih =>
    intro p h
    rw [am_fold_succ]
    by_cases e : p = n
    · subst e
      exact ⟨mp_upd_eq _ _ _, mp_upd_eq _ _ _, mp_upd_eq _ _ _⟩
    · obtain ⟨a, b, c⟩ := ih p (by omega)
      exact ⟨(mp_upd_ne _ _ e).trans a, (mp_upd_ne _ _ e).trans b, (mp_upd_ne _ _ e).trans c⟩
theorem sp_inc_spec (se : Nat → Int32) (p : Nat) : ∀ n : Nat, (am_fold n sp_incOne se) p = if p < n then se p + 1 else se p := by
  intro n
  induction n with
  | zero => rfl
  | succ n ih =>
    rw [am_fold_succ]
    unfold sp_incOne at ih ⊢
    by_cases h : p = n
    · subst h
      rw [mp_upd_eq, if_pos (by omega), ih, if_neg (by omega)]
    · rw [mp_upd_ne _ _ h, ih]
      by_cases h2 : p < n
      · rw [if_pos h2, if_pos (by omega)]
      · rw [if_neg h2, if_neg (by omega)]
theorem sp_zero_spec (se : Nat → Int32) (p : Nat) : ∀ n : Nat, (am_fold n sp_zeroOne se) p = if p < n then 0 else se p := by
  intro n
  induction n with
  | zero => rfl
  | succ n ih =>
    rw [am_fold_succ]
    unfold sp_zeroOne at ih ⊢
    by_cases h : p = n
    · subst h
      rw [mp_upd_eq, if_pos (by omega)]
    · rw [mp_upd_ne _ _ h, ih]
      by_cases h2 : p < n
      · rw [if_pos h2, if_pos (by omega)]
      · rw [if_neg h2, if_neg (by omega)]
theorem sp_over_c {bi bi' : Nat → Int32} {P n : Nat} (h2 : sp_eqN P bi bi') (hn : n < P) : ∀ {x : Option Nat}, (∀ q, x = some q → q < P) → sp_over bi x n = sp_over bi' x n
  | none, _ => rfl
  | some q, h => by
    show decide _ = decide _
    rw [h2 q (h q rfl), h2 n hn]
theorem sp_bestB_c {may may' : Nat → Bool} {bi bi' : Nat → Int32} {P : Nat} (h1 : ∀ p, p < P → may p = may' p) (h2 : sp_eqN P bi bi') : ∀ n : Nat, n ≤ P → am_fold n (sp_bestB may bi) none = am_fold n (sp_bestB may' bi') none := by
  intro n
  induction n with
  | zero => intro _; exact (rfl : (none : Option Nat) = none)
  | succ n ih =>
    intro hn
    have hn' : n ≤ P := Nat.le_of_succ_le hn
    have e0 := ih hn'
    have e1 := h1 n hn
    have e : sp_over bi (am_fold n (sp_bestB may' bi') none) n = sp_over bi' (am_fold n (sp_bestB may' bi') none) n := sp_over_c h2 hn (fun q hq => Nat.lt_of_lt_of_le (sp_bestB_lt may' bi' n q hq) hn')
    have e2 : sp_bestB may bi n (am_fold n (sp_bestB may bi) none) = sp_bestB may' bi' n (am_fold n (sp_bestB may' bi') none) := by
      rw [e0]
      generalize am_fold n (sp_bestB may' bi') none = x at e ⊢
      unfold sp_bestB
      rw [e1, e]
    exact e2
theorem sp_under_c {bi bi' : Nat → Int32} {P n : Nat} (h2 : sp_eqN P bi bi') (hn : n < P) : ∀ {x : Option Nat}, (∀ q, x = some q → q < P) → sp_under bi x n = sp_under bi' x n
  | none, _ => rfl
  | some q, h => by
    show decide _ = decide _
    rw [h2 q (h q rfl), h2 n hn]
theorem sp_bestS_c {may may' : Nat → Bool} {bi bi' : Nat → Int32} {P : Nat} (h1 : ∀ p, p < P → may p = may' p) (h2 : sp_eqN P bi bi') : ∀ n : Nat, n ≤ P → am_fold n (sp_bestS may bi) none = am_fold n (sp_bestS may' bi') none := by
  intro n
  induction n with
  | zero => intro _; exact (rfl : (none : Option Nat) = none)
  | succ n ih =>
    intro hn
    have hn' : n ≤ P := Nat.le_of_succ_le hn
    have e0 := ih hn'
    have e1 := h1 n hn
    have e : sp_under bi (am_fold n (sp_bestS may' bi') none) n = sp_under bi' (am_fold n (sp_bestS may' bi') none) n := sp_under_c h2 hn (fun q hq => Nat.lt_of_lt_of_le (sp_bestS_lt may' bi' n q hq) hn')
    have e2 : sp_bestS may bi n (am_fold n (sp_bestS may bi) none) = sp_bestS may' bi' n (am_fold n (sp_bestS may' bi') none) := by
      rw [e0]
      generalize am_fold n (sp_bestS may' bi') none = x at e ⊢
      unfold sp_bestS
      rw [e1, e]
    exact e2
theorem sp_trOv_c {er er' of_ of' : Nat → Int32} {P n : Nat} (h1 : sp_eqN P er er') (h2 : sp_eqN P of_ of') (hn : n < P) : ∀ {x : Option Nat}, (∀ q, x = some q → q < P) → sp_trOv er of_ x n = sp_trOv er' of' x n
  | none, _ => rfl
  | some q, h => by
    show decide _ = decide _
    rw [h1 q (h q rfl), h1 n hn, h2 q (h q rfl), h2 n hn]
theorem sp_tr_c {er er' of_ of' : Nat → Int32} {P : Nat} (h1 : sp_eqN P er er') (h2 : sp_eqN P of_ of') : ∀ n : Nat, n ≤ P → am_fold n (sp_trOne er of_) none = am_fold n (sp_trOne er' of') none := by
  intro n
  induction n with
  | zero => intro _; exact (rfl : (none : Option Nat) = none)
  | succ n ih =>
    intro hn
    have hn' : n ≤ P := Nat.le_of_succ_le hn
    have e0 := ih hn'
    have e1 := h2 n hn
    have e : sp_trOv er of_ (am_fold n (sp_trOne er' of') none) n = sp_trOv er' of' (am_fold n (sp_trOne er' of') none) n := sp_trOv_c h1 h2 hn (fun q hq => Nat.lt_of_lt_of_le (sp_trOne_lt er' of' n q hq) hn')
    have e2 : sp_trOne er of_ n (am_fold n (sp_trOne er of_) none) = sp_trOne er' of' n (am_fold n (sp_trOne er' of') none) := by
      rw [e0]
      generalize am_fold n (sp_trOne er' of') none = x at e ⊢
      unfold sp_trOne
      rw [e1, e]
    exact e2
/-- a state of the sales -/
def sp_ss (P : Nat) (X Y : sp_S) : Prop := sp_eqN P X.1 Y.1 ∧ sp_eqN P X.2.1 Y.2.1 ∧ sp_eqN P X.2.2.1 Y.2.2.1 ∧ sp_eqN P X.2.2.2.1 Y.2.2.2.1 ∧ X.2.2.2.2 = Y.2.2.2.2
theorem sp_upd_c {n : Nat} {f g : Nat → Int32} (h : sp_eqN n f g) (i : Nat) {a b : Int32} (e : a = b) : sp_eqN n (upd f i a) (upd g i b) := by
  intro k hk
  unfold upd
  rw [h k hk, e]
theorem sp_sell_c {nu nu' bi bi' : Nat → Int32} {P : Nat} (h : sp_eqN 10 nu nu') (hb : sp_eqN P bi bi') {X Y : sp_S} (hX : sp_ss P X Y) : (sp_sell nu bi P X = none ∧ sp_sell nu' bi' P Y = none) ∨ ∃ X' Y', sp_sell nu bi P X = some X' ∧ sp_sell nu' bi' P Y = some Y' ∧ sp_ss P X' Y' := by
  obtain ⟨co, sh, bt, so, pr⟩ := X
  obtain ⟨co', sh', bt', so', pr'⟩ := Y
  obtain ⟨h1, h2, h3, h4, h5⟩ := hX
  dsimp only at h1 h2 h3 h4 h5
  have eB : am_fold P (sp_bestB (sp_mayB nu co bi bt) bi) none = am_fold P (sp_bestB (sp_mayB nu' co' bi' bt') bi') none := sp_bestB_c (fun p hp => by
    unfold sp_mayB
    rw [h1 p hp, h3 p hp, hb p hp, h 8 (by omega), h 5 (by omega)]) hb P (Nat.le_refl P)
  have hl := sp_bestB_lt (sp_mayB nu' co' bi' bt') bi' P
  unfold sp_sell
  dsimp only
  rw [eB]
  generalize am_fold P (sp_bestB (sp_mayB nu' co' bi' bt') bi') none = o at hl
  rcases o with _ | b
  · exact Or.inl ⟨rfl, rfl⟩
  · have hbP := hl b rfl
    have eS : am_fold P (sp_bestS (sp_mayS nu sh so (some b)) bi) none = am_fold P (sp_bestS (sp_mayS nu' sh' so' (some b)) bi') none := sp_bestS_c (fun p hp => by
      unfold sp_mayS
      rw [h2 p hp, h4 p hp, h 6 (by omega)]) hb P (Nat.le_refl P)
    have hl2 := sp_bestS_lt (sp_mayS nu' sh' so' (some b)) bi' P
    dsimp only
    rw [eS]
    generalize am_fold P (sp_bestS (sp_mayS nu' sh' so' (some b)) bi') none = o2 at hl2
    rcases o2 with _ | s
    · exact Or.inl ⟨rfl, rfl⟩
    · have hsP := hl2 s rfl
      dsimp only
      rw [hb b hbP, hb s hsP]
      by_cases hc : bi' s + 1 ≤ bi' b
      · rw [if_pos hc, if_pos hc]
        refine Or.inr ⟨_, _, rfl, rfl, ?_⟩
        unfold sp_deal
        dsimp only
        rw [hb b hbP, hb s hsP]
        have k1 := sp_upd_c h1 b (a := co b - ((bi' b + (bi' s + 1)) / 2 + nu 8)) (b := co' b - ((bi' b + (bi' s + 1)) / 2 + nu' 8)) (by rw [h1 b hbP, h 8 (by omega)])
        have k2 := sp_upd_c h2 b (a := sh b + 1) (b := sh' b + 1) (by rw [h2 b hbP])
        refine ⟨sp_upd_c k1 s ?_, sp_upd_c k2 s ?_, sp_upd_c h3 b ?_, sp_upd_c h4 s ?_, rfl⟩
        · rw [k1 s hsP]
        · rw [k2 s hsP]
        · rw [h3 b hbP]
        · rw [h4 s hsP]
      · rw [if_neg hc, if_neg hc]
        exact Or.inl ⟨rfl, rfl⟩
theorem sp_sells_c {nu nu' bi bi' : Nat → Int32} {P : Nat} (h : sp_eqN 10 nu nu') (hb : sp_eqN P bi bi') : ∀ (k : Nat) {X Y : sp_S}, sp_ss P X Y → (sp_sells nu bi P k X).1 = (sp_sells nu' bi' P k Y).1 ∧ sp_ss P (sp_sells nu bi P k X).2 (sp_sells nu' bi' P k Y).2 := by
  intro k
  induction k with
  | zero => intro X Y hX; exact ⟨rfl, hX⟩
  | succ k ih =>
    intro X Y hX
    unfold sp_sells
    rcases sp_sell_c h hb hX with ⟨e1, e2⟩ | ⟨X', Y', e1, e2, hX'⟩
    · rw [e1, e2]
      exact ⟨rfl, hX⟩
    · rw [e1, e2]
      obtain ⟨a, b⟩ := ih hX'
      exact ⟨congrArg (· + 1) a, b⟩
/-- two rooms that say the same -/
def sp_rr (P : Nat) (R R' : sp_R) : Prop := match R, R' with
  | (rd, pr, pv, sa, pd, lo, bo, co, sh, se, si, er, of_, _, _, _), (rd', pr', pv', sa', pd', lo', bo', co', sh', se', si', er', of', _, _, _) => rd = rd' ∧ pr = pr' ∧ pv = pv' ∧ sa = sa' ∧ pd = pd' ∧ lo = lo' ∧ sp_eqN 20 bo bo' ∧ sp_eqN P co co' ∧ sp_eqN P sh sh' ∧ sp_eqN P se se' ∧ sp_eqN P si si' ∧ sp_eqN P er er' ∧ sp_eqN P of_ of'
theorem sp_tail_c {nu nu' : Nat → Int32} {P N r : Nat} (h : sp_eqN 10 nu nu') {pv sa pd lo : Int32} {bo bo' se se' si si' er er' of_ of' bi bi' : Nat → Int32} {cnt : Nat} {X Y : sp_S} (h1 : sp_eqN 20 bo bo') (h2 : sp_eqN P se se') (h3 : sp_eqN P si si') (h4 : sp_eqN P er er') (h5 : sp_eqN P of_ of') (hX : sp_ss P X Y) : sp_rr P (sp_tail nu P N r pv sa pd lo bo se si er of_ bi cnt X) (sp_tail nu' P N r pv sa pd lo bo' se' si' er' of' bi' cnt Y) := by
  obtain ⟨co, sh, bt, so, pr⟩ := X
  obtain ⟨co', sh', bt', so', pr'⟩ := Y
  obtain ⟨k1, k2, k3, k4, k5⟩ := hX
  dsimp only at k1 k2 k3 k4 k5
  subst k5
  have ed : sp_die nu (sp_lot lo) = sp_die nu' (sp_lot lo) := by
    unfold sp_die
    rw [h 1 (by omega), h 2 (by omega)]
  have hp : ∀ (e : Int32) {c c' : Nat → Int32}, sp_eqN P c c' → sp_eqN P (am_fold P (sp_pay sh e) c) (am_fold P (sp_pay sh' e) c') := by
    intro e c c' hc k hk
    rw [sp_pay_spec, sp_pay_spec, if_pos hk, if_pos hk, hc k hk, k2 k hk]
  have hs : ∀ k, k < P → (am_fold P (sp_saidOne pr) (si, er, of_)).1 k = (am_fold P (sp_saidOne pr) (si', er', of')).1 k ∧ (am_fold P (sp_saidOne pr) (si, er, of_)).2.1 k = (am_fold P (sp_saidOne pr) (si', er', of')).2.1 k ∧ (am_fold P (sp_saidOne pr) (si, er, of_)).2.2 k = (am_fold P (sp_saidOne pr) (si', er', of')).2.2 k := by
    intro k hk
    obtain ⟨a1, a2, a3⟩ := sp_said_spec pr si er of_ k P
    obtain ⟨b1, b2, b3⟩ := sp_said_spec pr si' er' of' k P
    rw [a1, a2, a3, b1, b2, b3, h3 k hk, h4 k hk, h5 k hk]
    exact ⟨rfl, rfl, rfl⟩
  have hbo := sp_upd_c h1 r (a := pr) (b := pr) rfl
  unfold sp_tail
  dsimp only
  rw [ed, h 3 (by omega)]
  by_cases hN : N ≤ r + 1
  · rw [if_pos hN, if_pos hN]
    exact ⟨rfl, rfl, rfl, rfl, rfl, rfl, hbo, hp _ (hp _ k1), k2, h2, fun k hk => (hs k hk).1, fun k hk => (hs k hk).2.1, fun k hk => (hs k hk).2.2⟩
  · rw [if_neg hN, if_neg hN]
    exact ⟨rfl, rfl, rfl, rfl, rfl, rfl, hbo, hp _ k1, k2, h2, fun k hk => (hs k hk).1, fun k hk => (hs k hk).2.1, fun k hk => (hs k hk).2.2⟩
theorem sp_round_c {nu nu' la la' me me' : Nat → Int32} {P N S r : Nat} (h : sp_eqN 10 nu nu') (hl : sp_eqN P la la') (hm : sp_eqN P me me') {R R' : sp_R} (hR : sp_rr P R R') : sp_rr P (sp_round nu la me P N S r R) (sp_round nu' la' me' P N S r R') := by
  obtain ⟨rd, pr, pv, sa, pd, lo, bo, co, sh, se, si, er, of_, bi, bt, so⟩ := R
  obtain ⟨rd', pr', pv', sa', pd', lo', bo', co', sh', se', si', er', of', bi', bt', so'⟩ := R'
  obtain ⟨h1, h2, h3, h4, h5, h6, h7, h8, h9, h10, h11, h12, h13⟩ := hR
  subst h1 h2 h3 h4 h5 h6
  unfold sp_round
  dsimp only
  have hA := sp_bid_spec (sp_val nu la me se (Int32.ofNat r) pr pv) (bi, bt, so) P
  have hA' := sp_bid_spec (sp_val nu' la' me' se' (Int32.ofNat r) pr pv) (bi', bt', so') P
  generalize am_fold P (sp_bidOne (sp_val nu la me se (Int32.ofNat r) pr pv)) (bi, bt, so) = A at hA
  generalize am_fold P (sp_bidOne (sp_val nu' la' me' se' (Int32.ofNat r) pr pv)) (bi', bt', so') = A' at hA'
  have hb : sp_eqN P A.1 A'.1 := fun p hp => by rw [(hA p hp).1, (hA' p hp).1, sp_val_c h hl hm h10 hp]
  have hs := sp_sells_c h hb S (X := (co, sh, A.2.1, A.2.2, pr)) (Y := (co', sh', A'.2.1, A'.2.2, pr)) ⟨h8, h9, fun p hp => (hA p hp).2.1.trans (hA' p hp).2.1.symm, fun p hp => (hA p hp).2.2.trans (hA' p hp).2.2.symm, rfl⟩
  rw [hs.1]
  exact sp_tail_c h h7 h10 h11 h12 h13 hs.2
theorem sp_play_c {nu nu' la la' me me' : Nat → Int32} {P N S : Nat} (h : sp_eqN 10 nu nu') (hl : sp_eqN P la la') (hm : sp_eqN P me me') : ∀ (k r : Nat) {R R' : sp_R}, sp_rr P R R' → (sp_play nu la me P N S k r R).1 = (sp_play nu' la' me' P N S k r R').1 ∧ sp_rr P (sp_play nu la me P N S k r R).2 (sp_play nu' la' me' P N S k r R').2 := by
  intro k
  induction k with
  | zero => intro r R R' hR; exact ⟨rfl, hR⟩
  | succ k ih =>
    intro r R R' hR
    unfold sp_play
    by_cases hN : N ≤ r
    · rw [if_pos hN, if_pos hN]
      exact ⟨rfl, hR⟩
    · rw [if_neg hN, if_neg hN]
      obtain ⟨a, b⟩ := ih (r + 1) (sp_round_c (r := r) (N := N) (S := S) h hl hm hR)
      exact ⟨congrArg (· + 1) a, b⟩
theorem sp_play_rd (nu la me : Nat → Int32) (P N S : Nat) : ∀ (k r : Nat) (R : sp_R), R.1 = Int32.ofNat r → (sp_play nu la me P N S k r R).2.1 = Int32.ofNat (r + (sp_play nu la me P N S k r R).1) ∧ (r ≤ N → r + (sp_play nu la me P N S k r R).1 ≤ N) ∧ (r ≤ N → N ≤ r + k → r + (sp_play nu la me P N S k r R).1 = N) := by
  intro k
  induction k with
  | zero => intro r R hR; exact ⟨hR, fun h => h, fun h1 h2 => by show r + 0 = N; omega⟩
  | succ k ih =>
    intro r R hR
    unfold sp_play
    by_cases hN : N ≤ r
    · rw [if_pos hN]
      exact ⟨hR, fun h => h, fun h1 h2 => by show r + 0 = N; omega⟩
    · rw [if_neg hN]
      obtain ⟨a, b, c⟩ := ih (r + 1) (sp_round nu la me P N S r R) (sp_round_rd nu la me P N S r R)
      refine ⟨?_, fun h => ?_, fun h1 h2 => ?_⟩
      · dsimp only
        rw [a]
        congr 1
        omega
      · have := b (by omega)
        dsimp only
        omega
      · have := c (by omega) (by omega)
        dsimp only
        omega
theorem sp_pk_c {bo bo' : Nat → Int32} {n : Nat} (hn : n ≤ 20) (h : sp_eqN 20 bo bo') : sp_pk bo n = sp_pk bo' n := sp_bestB_c (P := n) (fun _ _ => rfl) (fun k hk => h k (by omega)) n (Nat.le_refl n)
theorem sp_peak_c {bo bo' : Nat → Int32} {n : Nat} (hn : n ≤ 20) (h : sp_eqN 20 bo bo') : sp_peak bo n = sp_peak bo' n := by
  unfold sp_peak
  rw [sp_pk_c hn h]
  have hl := sp_bestB_lt (fun _ => true) bo' n
  unfold sp_pk
  generalize am_fold n (sp_bestB (fun _ => true) bo') none = o at hl
  rcases o with _ | q
  · rfl
  · exact h q (by have := hl q rfl; omega)
theorem sp_bub_c {nu nu' bo bo' : Nat → Int32} {n : Nat} (hn : n ≤ 20) (hu : sp_eqN 10 nu nu') (h : sp_eqN 20 bo bo') : am_fold n (sp_bubOne nu bo) 0 = am_fold n (sp_bubOne nu' bo') 0 := am_fold_congr n (fun i hi x => by
  unfold sp_bubOne
  rw [h i (by omega), sp_halves_c hu]) 0
theorem sp_fal_c {nu nu' bo bo' : Nat → Int32} {n : Nat} (hn : n ≤ 20) (hu : sp_eqN 10 nu nu') (h : sp_eqN 20 bo bo') : am_fold n (sp_fallOne nu bo) (none, 0) = am_fold n (sp_fallOne nu' bo') (none, 0) := am_fold_congr n (fun i hi x => by
  have e : sp_fall nu bo i = sp_fall nu' bo' i := by
    rcases i with _ | i
    · unfold sp_fall
      rw [h 0 (by omega), hu 4 (by omega)]
    · show bo i - bo (i + 1) = bo' i - bo' (i + 1)
      rw [h i (by omega), h (i + 1) (by omega)]
  unfold sp_fallOne
  rw [e]) (none, 0)
theorem sp_add_c {co co' : Nat → Int32} {P : Nat} (h : sp_eqN P co co') : am_fold P (sp_addOne co) 0 = am_fold P (sp_addOne co') 0 := am_fold_congr P (fun i hi x => by
  unfold sp_addOne
  rw [h i hi]) 0
theorem an_high_c {nu nu' bo bo' : Nat → Int32} {n : Nat} (hn : n ≤ 20) (hu : sp_eqN 10 nu nu') (h : sp_eqN 20 bo bo') (w : Int32) : an_high nu bo n w = an_high nu' bo' n w := by
  unfold an_high
  rw [sp_peak_c hn h, sp_pk_c hn h, sp_fal_c hn hu h, sp_bub_c hn hu h]
theorem sp_eqN.symm {n : Nat} {f g : Nat → Int32} (h : sp_eqN n f g) : sp_eqN n g f := fun k hk => (h k hk).symm
theorem sp_eqN.trans {n : Nat} {f g e : Nat → Int32} (h : sp_eqN n f g) (h2 : sp_eqN n g e) : sp_eqN n f e := fun k hk => (h k hk).trans (h2 k hk)
theorem sp_eqN.rfl' {n : Nat} {f : Nat → Int32} : sp_eqN n f f := fun _ _ => rfl
theorem sp_eqN.cp {n m : Nat} (f g : Nat → Int32) (h : m ≤ n) : sp_eqN m (sp_cp n f g) f := fun k hk => sp_cp_lt f g (by omega)

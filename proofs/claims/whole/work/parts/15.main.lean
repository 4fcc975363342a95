/-! ===== soundness: one step of the abstract machine ===== -/
theorem am_dn_spec {k j pc : Nat} {ins : Instr} {n : Nat} (h : am_dn k j pc ins n = true) : decode (am_cd k) pc = .ok (ins, n) ∧ am_pc k (j + 1) = pc + n := by
  simp only [am_dn, am_d, Bool.and_eq_true, decide_eq_true_eq] at h
  exact ⟨h.1, Nat.eq_of_beq_eq_true h.2⟩
theorem am_off_spec {k pc t : Nat} {off : Int} (h : am_off k pc off t = true) : (pc : Int) + off = (am_pc k t : Int) := of_decide_eq_true h
theorem am_dl_spec {k pc : Nat} {ins : Instr} (h : am_dl k pc ins = true) : ∃ n, decode (am_cd k) pc = .ok (ins, n) := by
  unfold am_dl at h
  split at h
  · next i n e => exact ⟨n, by rw [e, of_decide_eq_true h]⟩
  · cases h
theorem am_flb_spec {lk k i a b : Nat} (h : am_flb lk k i a b = true) : Cond.fieldLink (am_cn (am_ow k)) i (am_TT a b).1 (am_TT a b).2.1 (am_TT a b).2.2 ∈ xw_tw ∧ b < am_nf a := by
  unfold am_flb at h
  split at h
  · next o i' a' b' pl e =>
    simp only [Bool.and_eq_true] at h
    obtain ⟨⟨⟨h1, h2⟩, h3⟩, h4⟩ := h
    have q1 := Nat.eq_of_beq_eq_true h1
    have q2 := Nat.eq_of_beq_eq_true h2
    have q3 := Nat.eq_of_beq_eq_true h3
    have q4 := Nat.eq_of_beq_eq_true h4
    subst q1 q2 q3 q4
    have := am_fls_ok _ (List.mem_of_getElem? e)
    exact ⟨xw_in pl this.1 rfl, this.2⟩
  · cases h
theorem am_vw_some {a : Nat} (h : a < 8) : ∃ q, vwCl[a]? = some q := by
  match a, h with
  | 0, _ => exact ⟨_, rfl⟩
  | 1, _ => exact ⟨_, rfl⟩
  | 2, _ => exact ⟨_, rfl⟩
  | 3, _ => exact ⟨_, rfl⟩
  | 4, _ => exact ⟨_, rfl⟩
  | 5, _ => exact ⟨_, rfl⟩
  | 6, _ => exact ⟨_, rfl⟩
  | 7, _ => exact ⟨_, rfl⟩
  | n + 8, h => omega
theorem am_Lf_of {lk k i a b : Nat} (h : am_flb lk k i a b = true) (ha : Nat.blt a 8 = true) : am_Lf k i a b := by
  have ha' : a < 8 := Nat.le_of_ble_eq_true ha
  obtain ⟨q, hq⟩ := am_vw_some ha'
  obtain ⟨h1, h2⟩ := am_flb_spec h
  have h3 := (am_vw_cn a q hq).2.1
  refine ⟨q, hq, by rw [h3]; exact h2, ?_⟩
  unfold am_TT at h1
  rw [hq] at h1
  exact h1
theorem am_slb_spec {lk k i a : Nat} (h : am_slb lk k i a = true) : ∃ g, am_gs[a]? = some g ∧ (Cond.fieldLink (am_cn (am_ow k)) i g.1 g.2.1 g.2.2.1 ∈ xw_tw ∨ ∃ ho, Cond.fieldLinkNest (am_cn (am_ow k)) i g.1 g.2.1 g.2.2.1 ho ∈ am_nw) := by
  unfold am_slb at h
  split at h
  · next o i' a' ne pl e =>
    simp only [Bool.and_eq_true] at h
    obtain ⟨⟨h1, h2⟩, h3⟩ := h
    have q1 := Nat.eq_of_beq_eq_true h1
    have q2 := Nat.eq_of_beq_eq_true h2
    have q3 := Nat.eq_of_beq_eq_true h3
    subst q1 q2 q3
    obtain ⟨g, hg, h5⟩ := am_sls_ok _ (List.mem_of_getElem? e)
    refine ⟨g, hg, ?_⟩
    rcases h5 with h5 | h5
    · exact Or.inl (xw_in pl h5.2 rfl)
    · exact Or.inr ⟨_, h5.2⟩
  · cases h
theorem am_kb_spec {lk k i : Nat} {z : Int32} (h : am_kb lk k i z = true) : Cond.constant (am_cn (am_ow k)) i z ∈ xw_tw := by
  unfold am_kb at h
  split at h
  · next o i' z' pl e =>
    simp only [Bool.and_eq_true, decide_eq_true_eq] at h
    obtain ⟨⟨h1, h2⟩, h3⟩ := h
    have q1 := Nat.eq_of_beq_eq_true h1
    have q2 := Nat.eq_of_beq_eq_true h2
    subst q1 q2 h3
    exact xw_in pl (am_kls_ok _ (List.mem_of_getElem? e)) rfl
  · cases h
theorem am_lb_spec {a k i : Nat} {v : Int64} (h : am_lb a k i = true) (hv : am_lc[a]? = some v) : Cond.constantLong (am_cn (am_ow k)) i v ∈ xw_tw := by
  unfold am_lb at h
  split at h
  · next o i' z' pl v' e e' =>
    simp only [Bool.and_eq_true, decide_eq_true_eq] at h
    obtain ⟨⟨h1, h2⟩, h3⟩ := h
    have q1 := Nat.eq_of_beq_eq_true h1
    have q2 := Nat.eq_of_beq_eq_true h2
    rw [hv] at e'
    cases e'
    subst q1 q2 h3
    exact xw_in pl (am_lls_ok _ (List.mem_of_getElem? e)) rfl
  · cases h
theorem am_nlb_spec {lk k i a : Nat} (h : am_nlb lk k i a = true) : Cond.classLink (am_cn (am_ow k)) i (am_cn a) ∈ xw_tw ∧ Cond.instantiable (am_cn a) (am_nf a) ∈ xw_tw ∧ Cond.initialized (am_cn a) ∈ xw_tw := by
  unfold am_nlb at h
  split at h
  · next o i' a' pp e =>
    simp only [Bool.and_eq_true] at h
    obtain ⟨⟨h1, h2⟩, h3⟩ := h
    have q1 := Nat.eq_of_beq_eq_true h1
    have q2 := Nat.eq_of_beq_eq_true h2
    have q3 := Nat.eq_of_beq_eq_true h3
    subst q1 q2 q3
    have := am_nls_ok _ (List.mem_of_getElem? e)
    exact ⟨xw_in pp.1 this.1 rfl, xw_in pp.2.1 this.2.1 rfl, xw_in pp.2.2 this.2.2 rfl⟩
  · cases h
theorem am_mlb_spec {lk k i a : Nat} {ne : Bool} (h : am_mlb lk k i a ne = true) : Cond.methodLink (am_cn (am_ow k)) i (am_tg a) ∈ xw_tw ∨ (ne = true ∧ ∃ ho, Cond.methodLinkNest (am_cn (am_ow k)) i (am_tg a) ho ∈ am_nw) := by
  unfold am_mlb at h
  split at h
  · next o i' a' n' pl e =>
    simp only [Bool.and_eq_true, Bool.or_eq_true] at h
    obtain ⟨⟨⟨h1, h2⟩, h3⟩, h4⟩ := h
    have q1 := Nat.eq_of_beq_eq_true h1
    have q2 := Nat.eq_of_beq_eq_true h2
    have q3 := Nat.eq_of_beq_eq_true h3
    subst q1 q2 q3
    rcases am_mls_ok _ (List.mem_of_getElem? e) with h5 | h5
    · exact Or.inl (xw_in pl h5.2 rfl)
    · rcases h4 with h4 | h4
      · exact Or.inr ⟨h4, _, h5.2⟩
      · have := Nat.eq_of_beq_eq_true h4
        have h6 := h5.1
        dsimp only at h6
        omega
  · cases h
theorem am_tg_lt {a : Nat} (h : Nat.blt a 1000 = true) : am_tg a = am_mt a := by
  have h' : a < 1000 := Nat.le_of_ble_eq_true h
  unfold am_tg
  split <;> first | omega | rfl
theorem am_Lz_of {z : Nat} (h : am_zok z) : am_Lz z := ⟨xw_in _ h.1 rfl, xw_in _ h.2.1 rfl, h.2.2.1.1, h.2.2.1.2⟩
theorem am_cal_spec {k z b kd rc : Nat} (h : am_cal k z b kd rc = true) (h9 : kd ≠ 9) : z < am_mts.length ∧ (am_pl z).1 = kd ∧ (am_pl z).2.2.2.2.2 + rc = b ∧ (am_fr z + 1 ≤ am_fr k ∧ 8 + (am_ml z + 11) + am_lo z ≤ am_lo k) ∧ am_zok z := by
  simp only [am_cal, Bool.and_eq_true] at h
  obtain ⟨⟨⟨⟨h1, h2⟩, h3⟩, h4⟩, h5⟩ := h
  have q2 := Nat.eq_of_beq_eq_true h2
  have hz := Nat.le_of_ble_eq_true h1
  exact ⟨hz, q2, Nat.eq_of_beq_eq_true h3, ⟨Nat.le_of_ble_eq_true h4, Nat.le_of_ble_eq_true h5⟩, am_z_all z hz (by rw [q2]; exact h9)⟩
theorem am_ckt_spec {k pc : Nat} : ∀ (L : List (Int32 × Nat)) (os : List Int) (lo : Int), am_ckt k pc lo L os = true → ∀ (i : Nat) (q : Int32 × Nat), L[i]? = some q → q.1.toInt = lo + (i : Nat) ∧ ∃ off, os[i]? = some off ∧ (pc : Int) + off = (am_pc k q.2 : Int) := by
  intro L
  induction L with
  | nil => intro os lo _ i q h; simp at h
  | cons a L ih =>
    intro os lo hc i q h
    obtain ⟨v, n⟩ := a
    cases os with
    | nil => simp [am_ckt] at hc
    | cons o os =>
      simp only [am_ckt, Bool.and_eq_true, decide_eq_true_eq] at hc
      cases i with
      | zero => simp at h; subst h; exact ⟨by rw [hc.1.1]; simp, o, rfl, am_off_spec hc.1.2⟩
      | succ i =>
        simp at h
        obtain ⟨g1, off, g2, g3⟩ := ih os (lo + 1) hc.2 i q h
        exact ⟨by rw [g1]; push_cast; omega, off, by simpa using g2, g3⟩
theorem am_ckl_spec {k pc : Nat} : ∀ (L : List (Int32 × Nat)) (ps : List (Int × Int)), am_ckl k pc L ps = true → ps.length = L.length ∧ ∀ (i : Nat) (q : Int32 × Nat) (r : Int × Int), L[i]? = some q → ps[i]? = some r → q.1.toInt = r.1 ∧ (pc : Int) + r.2 = (am_pc k q.2 : Int) := by
  intro L
  induction L with
  | nil =>
    intro ps hc
    cases ps with
    | nil => exact ⟨rfl, fun i q r h => by simp at h⟩
    | cons a ps => simp [am_ckl] at hc
  | cons a L ih =>
    intro ps hc
    obtain ⟨v, n⟩ := a
    cases ps with
    | nil => simp [am_ckl] at hc
    | cons o ps =>
      obtain ⟨x, y⟩ := o
      simp only [am_ckl, Bool.and_eq_true, decide_eq_true_eq] at hc
      obtain ⟨g1, g2⟩ := ih ps hc.2
      refine ⟨by simp [g1], fun i q r h1 h2 => ?_⟩
      cases i with
      | zero => simp at h1 h2; subst h1 h2; exact ⟨hc.1.1, am_off_spec hc.1.2⟩
      | succ i => exact g2 i q r (by simpa using h1) (by simpa using h2)
def am_fkb (q : vw_C) (a b : Nat) : Bool := match am_fkd a b with
  | 0 => !(q.2.1 b).2.2.2 && decide (parseFieldDescriptor (q.2.1 b).2.2.1 = some .int)
  | 1 => !(q.2.1 b).2.2.2 && decide (parseFieldDescriptor (q.2.1 b).2.2.1 = some .boolean)
  | 2 => !(q.2.1 b).2.2.2 && decide (parseFieldDescriptor (q.2.1 b).2.2.1 = some .long)
  | _ => (q.2.1 b).2.2.2 && decide ((q.2.1 b).1 = am_cn a) && (match parseFieldDescriptor (q.2.1 b).2.2.1 with
    | some (.object _) => true
    | some (.array _) => true
    | _ => false)
theorem am_fk_tab : ((List.range 8).all fun a => match vwCl[a]? with
  | some q => (List.range q.2.2).all fun b => am_fkb q a b
  | none => true) = true := by decide +kernel
theorem am_fk_all : ∀ (a b : Nat) (q : vw_C), vwCl[a]? = some q → b < q.2.2 → ∀ k, (am_fkd a b = 3 → am_isI k = true ∧ a = am_ow k) → am_fkd a b ≤ 3 → am_Fk k q b (am_fkd a b) := by
  intro a b q hq hb k h3 hle
  have ha : a < 8 := (List.getElem?_eq_some_iff.mp hq).1
  have h := List.all_eq_true.mp am_fk_tab a (List.mem_range.mpr ha)
  rw [hq] at h
  have h := List.all_eq_true.mp h b (List.mem_range.mpr hb)
  unfold am_fkb at h
  generalize am_fkd a b = x at h h3 hle ⊢
  match x, hle, h, h3 with
  | 0, _, h, _ => simp only [Bool.and_eq_true, Bool.not_eq_true', decide_eq_true_eq] at h; exact h
  | 1, _, h, _ => simp only [Bool.and_eq_true, Bool.not_eq_true', decide_eq_true_eq] at h; exact h
  | 2, _, h, _ => simp only [Bool.and_eq_true, Bool.not_eq_true', decide_eq_true_eq] at h; exact h
  | 3, _, h, h3 =>
    simp only [Bool.and_eq_true, decide_eq_true_eq] at h
    obtain ⟨g1, g2⟩ := h3 rfl
    obtain ⟨⟨h1, h2⟩, h4⟩ := h
    refine ⟨h1, g1, by rw [h2, g2], ?_⟩
    split at h4
    · next C e => exact Or.inl ⟨C, e⟩
    · next t e => exact Or.inr ⟨t, e⟩
    · cases h4
section
variable {j : Nat} {ls : am_L} {st : List Value} {M : am_M} {P : Prop} {C' : am_C} {sc : am_Sc}
theorem am_ii_spec {f : Int32 → Int32 → Value} (h : am_ii (j, ls, st, M) f = some (P, C')) : ∃ (x y : Int32) (st2 : List Value), st = .int y :: .int x :: st2 ∧ P = (True) ∧ C' = (j + 1, ls, f x y :: st2, M) := by
  unfold am_ii at h
  split at h
  · next heq =>
    cases heq
    cases h
    exact ⟨_, _, _, rfl, rfl, rfl⟩
  · cases h
theorem am_iid_spec {f : Int32 → Int32 → Value} (h : am_iid (j, ls, st, M) f = some (P, C')) : ∃ (x y : Int32) (st2 : List Value), st = .int y :: .int x :: st2 ∧ P = (¬ y = 0) ∧ C' = (j + 1, ls, f x y :: st2, M) := by
  unfold am_iid at h
  split at h
  · next heq =>
    cases heq
    cases h
    exact ⟨_, _, _, rfl, rfl, rfl⟩
  · cases h
theorem am_i__spec {f : Int32 → Value} (h : am_i_ (j, ls, st, M) f = some (P, C')) : ∃ (x : Int32) (st2 : List Value), st = .int x :: st2 ∧ P = (True) ∧ C' = (j + 1, ls, f x :: st2, M) := by
  unfold am_i_ at h
  split at h
  · next heq =>
    cases heq
    cases h
    exact ⟨_, _, rfl, rfl, rfl⟩
  · cases h
theorem am_ll_spec {f : Int64 → Int64 → Value} (h : am_ll (j, ls, st, M) f = some (P, C')) : ∃ (x y : Int64) (st2 : List Value), st = .long y :: .long x :: st2 ∧ P = (True) ∧ C' = (j + 1, ls, f x y :: st2, M) := by
  unfold am_ll at h
  split at h
  · next heq =>
    cases heq
    cases h
    exact ⟨_, _, _, rfl, rfl, rfl⟩
  · cases h
theorem am_lld_spec {f : Int64 → Int64 → Value} (h : am_lld (j, ls, st, M) f = some (P, C')) : ∃ (x y : Int64) (st2 : List Value), st = .long y :: .long x :: st2 ∧ P = (¬ y = 0) ∧ C' = (j + 1, ls, f x y :: st2, M) := by
  unfold am_lld at h
  split at h
  · next heq =>
    cases heq
    cases h
    exact ⟨_, _, _, rfl, rfl, rfl⟩
  · cases h
theorem am_li_spec {f : Int64 → Int32 → Value} (h : am_li (j, ls, st, M) f = some (P, C')) : ∃ (x : Int64) (y : Int32) (st2 : List Value), st = .int y :: .long x :: st2 ∧ P = (True) ∧ C' = (j + 1, ls, f x y :: st2, M) := by
  unfold am_li at h
  split at h
  · next heq =>
    cases heq
    cases h
    exact ⟨_, _, _, rfl, rfl, rfl⟩
  · cases h
theorem am_l__spec {f : Int64 → Value} (h : am_l_ (j, ls, st, M) f = some (P, C')) : ∃ (x : Int64) (st2 : List Value), st = .long x :: st2 ∧ P = (True) ∧ C' = (j + 1, ls, f x :: st2, M) := by
  unfold am_l_ at h
  split at h
  · next heq =>
    cases heq
    cases h
    exact ⟨_, _, rfl, rfl, rfl⟩
  · cases h
theorem am_c1_spec {f : Nat → Int32 → Nat} (h : am_c1 (j, ls, st, M) f = some (P, C')) : ∃ (x : Int32) (st2 : List Value), st = .int x :: st2 ∧ P = (True) ∧ C' = (f j x, ls, st2, M) := by
  unfold am_c1 at h
  split at h
  · next heq =>
    cases heq
    cases h
    exact ⟨_, _, rfl, rfl, rfl⟩
  · cases h
theorem am_c2_spec {f : Nat → Int32 → Int32 → Nat} (h : am_c2 (j, ls, st, M) f = some (P, C')) : ∃ (x y : Int32) (st2 : List Value), st = .int y :: .int x :: st2 ∧ P = (True) ∧ C' = (f j x y, ls, st2, M) := by
  unfold am_c2 at h
  split at h
  · next heq =>
    cases heq
    cases h
    exact ⟨_, _, _, rfl, rfl, rfl⟩
  · cases h
theorem am_pop_spec  (h : am_pop (j, ls, st, M) = some (P, C')) : ∃ (x : Int32) (st2 : List Value), st = .int x :: st2 ∧ P = (True) ∧ C' = (j + 1, ls, st2, M) := by
  unfold am_pop at h
  split at h
  · next heq =>
    cases heq
    cases h
    exact ⟨_, _, rfl, rfl, rfl⟩
  · cases h
theorem am_si_spec {i : Nat} (h : am_si (j, ls, st, M) i = some (P, C')) : ∃ (x : Int32) (st2 : List Value), st = .int x :: st2 ∧ am_okst ls i = true ∧ P = True ∧ C' = (j + 1, ls.set i (some (.int x)), st2, M) := by
  unfold am_si at h
  split at h
  · next heq =>
    cases heq
    split at h
    · next hk => cases h; exact ⟨_, _, rfl, hk, rfl, rfl⟩
    · cases h
  · cases h
theorem am_sa_spec {i : Nat} (h : am_sa (j, ls, st, M) i = some (P, C')) : ∃ (x : Nat) (st2 : List Value), st = .ref x :: st2 ∧ am_okst ls i = true ∧ P = True ∧ C' = (j + 1, ls.set i (some (.ref x)), st2, M) := by
  unfold am_sa at h
  split at h
  · next heq =>
    cases heq
    split at h
    · next hk => cases h; exact ⟨_, _, rfl, hk, rfl, rfl⟩
    · cases h
  · cases h
theorem am_sl2_spec {i : Nat} (h : am_sl2 (j, ls, st, M) i = some (P, C')) : ∃ (x : Int64) (st2 : List Value), st = .long x :: st2 ∧ am_okst2 ls i = true ∧ P = True ∧ C' = (j + 1, (ls.set i (some (.long x))).set (i + 1) none, st2, M) := by
  unfold am_sl2 at h
  split at h
  · next heq =>
    cases heq
    split at h
    · next hk => cases h; exact ⟨_, _, rfl, hk, rfl, rfl⟩
    · cases h
  · cases h
theorem am_ldi_spec {i : Nat} (h : am_ldi (j, ls, st, M) i = some (P, C')) : ∃ x : Int32, ls[i]? = some (some (.int x)) ∧ P = True ∧ C' = (j + 1, ls, .int x :: st, M) := by
  unfold am_ldi at h
  dsimp only at h
  split at h
  · next hv => cases h; exact ⟨_, hv, rfl, rfl⟩
  · cases h
theorem am_lda_spec {i : Nat} (h : am_lda (j, ls, st, M) i = some (P, C')) : ∃ x : Nat, ls[i]? = some (some (.ref x)) ∧ P = True ∧ C' = (j + 1, ls, .ref x :: st, M) := by
  unfold am_lda at h
  dsimp only at h
  split at h
  · next hv => cases h; exact ⟨_, hv, rfl, rfl⟩
  · cases h
theorem am_ldl_spec {i : Nat} (h : am_ldl (j, ls, st, M) i = some (P, C')) : ∃ x : Int64, ls[i]? = some (some (.long x)) ∧ P = True ∧ C' = (j + 1, ls, .long x :: st, M) := by
  unfold am_ldl at h
  dsimp only at h
  split at h
  · next hv => cases h; exact ⟨_, hv, rfl, rfl⟩
  · cases h
theorem am_iinc_spec {i : Nat} {z : Int32} (h : am_iinc (j, ls, st, M) i z = some (P, C')) : ∃ x : Int32, ls[i]? = some (some (.int x)) ∧ am_okst ls i = true ∧ P = True ∧ C' = (j + 1, ls.set i (some (.int (x + z))), st, M) := by
  unfold am_iinc at h
  dsimp only at h
  split at h
  · next hv =>
    split at h
    · next hk => cases h; exact ⟨_, hv, hk, rfl, rfl⟩
    · cases h
  · cases h
theorem am_dup_spec (h : am_dup (j, ls, st, M) = some (P, C')) : ∃ (v : Value) (st2 : List Value), st = v :: st2 ∧ ((∃ x, v = .int x) ∨ ∃ x, v = .ref x) ∧ P = True ∧ C' = (j + 1, ls, v :: v :: st2, M) := by
  unfold am_dup at h
  split at h
  · next heq => cases heq; cases h; exact ⟨_, _, rfl, Or.inl ⟨_, rfl⟩, rfl, rfl⟩
  · next heq => cases heq; cases h; exact ⟨_, _, rfl, Or.inr ⟨_, rfl⟩, rfl, rfl⟩
  · cases h
theorem am_dup2_spec (h : am_dup2 (j, ls, st, M) = some (P, C')) : ∃ (y : Int32) (v : Value) (st2 : List Value), st = .int y :: v :: st2 ∧ ((∃ x, v = .int x) ∨ ∃ x, v = .ref x) ∧ P = True ∧ C' = (j + 1, ls, .int y :: v :: .int y :: v :: st2, M) := by
  unfold am_dup2 at h
  split at h
  · next heq => cases heq; cases h; exact ⟨_, _, _, rfl, Or.inl ⟨_, rfl⟩, rfl, rfl⟩
  · next heq => cases heq; cases h; exact ⟨_, _, _, rfl, Or.inr ⟨_, rfl⟩, rfl, rfl⟩
  · cases h
theorem am_getf0_spec {a b n : Nat} (h : am_getf0 (j, ls, [], M) a b n st = some (P, C')) : ∃ (fs : List Value) (v : Value), am_get M n = some (.inr (a, fs)) ∧ fs[b]? = some v ∧ P = True ∧ C' = (j + 1, ls, v :: st, M) := by
  unfold am_getf0 at h
  split at h
  · next ci fs hg =>
    split at h
    · next hci =>
      have q1 := Nat.eq_of_beq_eq_true hci
      subst q1
      split at h
      · next v hv => cases h; exact ⟨fs, v, hg, hv, rfl, rfl⟩
      · cases h
    · cases h
  · cases h
theorem am_getfS_spec {b n : Nat} (h : am_getfS (j, ls, [], M) b n st = some (P, C')) : n = 1010 ∧ P = True ∧ ((b = 0 ∧ C' = (j + 1, ls, .ref 1011 :: st, M)) ∨ (1 ≤ b ∧ C' = (j + 1, ls, .int 0 :: st, M))) := by
  unfold am_getfS at h
  split at h
  · next hn1 =>
    have q1 := Nat.eq_of_beq_eq_true hn1
    cases b with
    | zero => cases h; exact ⟨q1, rfl, Or.inl ⟨rfl, rfl⟩⟩
    | succ b => cases h; exact ⟨q1, rfl, Or.inr ⟨by omega, rfl⟩⟩
  · cases h
theorem am_gf_spec {a b kd : Nat} (h : am_gf (j, ls, st, M) a b kd = some (P, C')) : ∃ (n : Nat) (st2 : List Value), st = .ref n :: st2 ∧ ((kd = 0 ∧ am_getf0 (j, ls, [], M) a b n st2 = some (P, C')) ∨ (1 ≤ kd ∧ am_getfS (j, ls, [], M) b n st2 = some (P, C'))) := by
  unfold am_gf at h
  split at h
  · next heq =>
    cases heq
    cases kd with
    | zero => exact ⟨_, _, rfl, Or.inl ⟨rfl, h⟩⟩
    | succ kd => exact ⟨_, _, rfl, Or.inr ⟨by omega, h⟩⟩
  · cases h
theorem am_pf_spec {a b kd : Nat} (h : am_pf (j, ls, st, M) a b kd = some (P, C')) : ∃ (v : Value) (n : Nat) (st2 : List Value) (fs : List Value), st = v :: .ref n :: st2 ∧ am_get M n = some (.inr (a, fs)) ∧ am_pfk kd v = some P ∧ b < fs.length ∧ C' = (j + 1, ls, st2, am_set M n (.inr (a, fs.set b v))) := by
  unfold am_pf at h
  split at h
  · next heq =>
    cases heq
    unfold am_putf at h
    dsimp only at h
    split at h
    · next ci fs hg =>
      split at h
      · next P0 hci hpk hlt =>
        have q1 := Nat.eq_of_beq_eq_true hci
        subst q1
        cases h
        exact ⟨_, _, _, fs, rfl, hg, hpk, Nat.le_of_ble_eq_true hlt, rfl⟩
      · cases h
    · cases h
  · cases h
theorem am_ald_spec {is : Nat → Bool} {i : Int32} {n : Nat} (h : am_ald sc (j, ls, [], M) is i n st = some (P, C')) : ∃ (ty len : Nat) (f : Nat → Int32), am_arr sc M n = some (ty, len, f) ∧ is ty = true ∧ P = am_inb i len ∧ C' = (j + 1, ls, .int (f i.toNatClampNeg) :: st, M) := by
  unfold am_ald at h
  dsimp only at h
  split at h
  · next ty len f ha =>
    split at h
    · next hty => cases h; exact ⟨ty, len, f, ha, hty, rfl, rfl⟩
    · cases h
  · cases h
theorem am_ia_spec (h : am_ia sc (j, ls, st, M) = some (P, C')) : ∃ (i : Int32) (n : Nat) (st2 : List Value), st = .int i :: .ref n :: st2 ∧ am_ald sc (j, ls, [], M) (fun ty => Nat.beq ty 0) i n st2 = some (P, C') := by
  unfold am_ia at h
  split at h
  · next heq => cases heq; exact ⟨_, _, _, rfl, h⟩
  · cases h
theorem am_ba_spec (h : am_ba sc (j, ls, st, M) = some (P, C')) : ∃ (i : Int32) (n : Nat) (st2 : List Value), st = .int i :: .ref n :: st2 ∧ am_ald sc (j, ls, [], M) (fun ty => Nat.beq ty 1 || Nat.beq ty 2) i n st2 = some (P, C') := by
  unfold am_ba at h
  split at h
  · next heq => cases heq; exact ⟨_, _, _, rfl, h⟩
  · cases h
theorem am_is_spec (h : am_is (j, ls, st, M) = some (P, C')) : ∃ (x i : Int32) (n : Nat) (st2 : List Value) (len : Nat) (f : Nat → Int32), st = .int x :: .int i :: .ref n :: st2 ∧ am_get M n = some (.inl (0, len, .inl f)) ∧ P = am_inb i len ∧ C' = (j + 1, ls, st2, am_set M n (.inl (0, len, .inl (upd f i.toNatClampNeg x)))) := by
  unfold am_is at h
  split at h
  · next heq =>
    cases heq
    unfold am_asti at h
    dsimp only at h
    split at h
    · next len f ha => cases h; exact ⟨_, _, _, _, len, f, rfl, ha, rfl, rfl⟩
    · cases h
  · cases h
theorem am_bs_spec (h : am_bs (j, ls, st, M) = some (P, C')) : ∃ (x i : Int32) (n : Nat) (st2 : List Value) (len : Nat) (f : Nat → Int32), st = .int x :: .int i :: .ref n :: st2 ∧ P = am_inb i len ∧ ((am_get M n = some (.inl (1, len, .inl f)) ∧ C' = (j + 1, ls, st2, am_set M n (.inl (1, len, .inl (upd f i.toNatClampNeg (vp_nar .byte x)))))) ∨ (am_get M n = some (.inl (2, len, .inl f)) ∧ C' = (j + 1, ls, st2, am_set M n (.inl (2, len, .inl (upd f i.toNatClampNeg (vp_nar .boolean x))))))) := by
  unfold am_bs at h
  split at h
  · next heq =>
    cases heq
    unfold am_astb at h
    dsimp only at h
    split at h
    · next len f ha => cases h; exact ⟨_, _, _, _, len, f, rfl, rfl, Or.inl ⟨ha, rfl⟩⟩
    · next len f ha => cases h; exact ⟨_, _, _, _, len, f, rfl, rfl, Or.inr ⟨ha, rfl⟩⟩
    · cases h
  · cases h
theorem am_aln_spec (h : am_aln sc (j, ls, st, M) = some (P, C')) : ∃ (n : Nat) (st2 : List Value) (ty len : Nat) (f : Nat → Int32), st = .ref n :: st2 ∧ am_arr sc M n = some (ty, len, f) ∧ ty < 3 ∧ P = True ∧ C' = (j + 1, ls, .int (Int32.ofNat len) :: st2, M) := by
  unfold am_aln at h
  split at h
  · next heq =>
    cases heq
    split at h
    · next ty len f ha =>
      split at h
      · next hty => cases h; exact ⟨_, _, ty, len, f, rfl, ha, Nat.le_of_ble_eq_true hty, rfl, rfl⟩
      · cases h
    · cases h
  · cases h
theorem am_na_spec {t : ArrayType} (h : am_na (j, ls, st, M) t = some (P, C')) : ∃ (n : Int32) (st2 : List Value) (ty : Nat), st = .int n :: st2 ∧ am_aty t = some ty ∧ am_newa (j, ls, [], M) ty n st2 = some (P, C') := by
  unfold am_na at h
  split at h
  · next heq =>
    cases heq
    split at h
    · next ty hty => exact ⟨_, _, ty, rfl, hty, h⟩
    · cases h
  · cases h
theorem am_oi_spec {kd : Nat} (h : am_oi (j, ls, st, M) kd = some (P, C')) : ∃ (n : Nat) (st2 : List Value), st = .ref n :: st2 ∧ kd = 5 ∧ am_cats st2 ≤ 8 ∧ n < 1000 ∧ P = True ∧ C' = (j + 1, ls, st2, M) := by
  unfold am_oi at h
  split at h
  · next heq =>
    cases heq
    split at h
    · next c1 c2 c3 => cases h; exact ⟨_, _, rfl, Nat.eq_of_beq_eq_true c1, Nat.le_of_ble_eq_true c2, Nat.le_of_ble_eq_true c3, rfl, rfl⟩
    · cases h
  · cases h
theorem am_math_spec {kd : Nat} {st1 : List Value} (h : am_math sc (j, ls, st1, M) kd st = some (P, C')) : (kd = 1 ∧ ∃ (x y : Int32) (st2 : List Value), st = .int y :: .int x :: st2 ∧ am_cats st2 ≤ 8 ∧ P = True ∧ C' = (j + 1, ls, .int (if x < y then y else x) :: st2, M)) ∨ (kd = 2 ∧ ∃ (x y : Int32) (st2 : List Value), st = .int y :: .int x :: st2 ∧ am_cats st2 ≤ 8 ∧ P = True ∧ C' = (j + 1, ls, .int (if y < x then y else x) :: st2, M)) ∨ (kd = 3 ∧ ∃ (x : Int32) (st2 : List Value), st = .int x :: st2 ∧ am_cats st2 ≤ 8 ∧ P = True ∧ C' = (j + 1, ls, .int (if 0 ≤ x then x else 0 - x) :: st2, M)) ∨ (kd = 4 ∧ ∃ (n dp sps : Int32) (a a0 : Nat) (st2 : List Value) (n0 n1 : Nat) (f g : Nat → Int32), st = .int n :: .int dp :: .ref a :: .int sps :: .ref a0 :: st2 ∧ am_arr sc M a0 = some (0, n0, f) ∧ am_get M a = some (.inl (0, n1, .inl g)) ∧ am_cats st2 ≤ 8 ∧ P = ((¬ sps < 0 ∧ ¬ dp < 0 ∧ ¬ n < 0) ∧ sps.toNatClampNeg + n.toNatClampNeg ≤ n0 ∧ dp.toNatClampNeg + n.toNatClampNeg ≤ n1) ∧ C' = (j + 1, ls, st2, am_set M a (.inl (0, n1, .inl (va_cpy f g sps.toNatClampNeg dp.toNatClampNeg n.toNatClampNeg))))) := by
  unfold am_math at h
  split at h
  · split at h
    · next c1 => cases h; exact Or.inl ⟨rfl, _, _, _, rfl, Nat.le_of_ble_eq_true c1, rfl, rfl⟩
    · cases h
  · split at h
    · next c1 => cases h; exact Or.inr (Or.inl ⟨rfl, _, _, _, rfl, Nat.le_of_ble_eq_true c1, rfl, rfl⟩)
    · cases h
  · split at h
    · next c1 => cases h; exact Or.inr (Or.inr (Or.inl ⟨rfl, _, _, rfl, Nat.le_of_ble_eq_true c1, rfl, rfl⟩))
    · cases h
  · unfold am_copy at h
    split at h
    · next heq =>
      cases heq
      split at h
      · next h0 h1 h2 h3 => cases h; exact Or.inr (Or.inr (Or.inr ⟨rfl, _, _, _, _, _, _, _, _, _, _, rfl, h0, h1, Nat.le_of_ble_eq_true h3, rfl, rfl⟩))
      · cases h
    · cases h
  · cases h
end
section
variable {sc : am_Sc} {sp : Nat → Value} {z0 : Nat} {cy : Nat → ClassId} {D : va_G} {k : Nat} {l : Launch}
/-- what one plain step gives -/
def am_Step (sc : am_Sc) (sp : Nat → Value) (z0 : Nat) (cy : Nat → ClassId) (D : va_G) (k : Nat) (l : Launch) (C C' : am_C) : Prop := (am_tot C.2.2.2 ≤ am_tot C'.2.2.2 ∧ am_sl C.2.2.2 ≤ am_sl C'.2.2.2) ∧ ∀ {n0 m0 : Nat} {p : Program} {e : Env} {R : Room} {s : State} {m : MethodId} {args : Array Value} {below : List Frame} {meth : Method} {c : Code} {Q : State → Prop}, am_F sc sp z0 cy D k p R s m args meth c → s.heap.size = z0 + n0 → (am_tot C'.2.2.2 ≤ n0 + R.cells ∧ am_sl C'.2.2.2 ≤ m0 + R.slots) → am_W sp z0 cy D n0 m0 k p l e R s m args below meth c Q C' → am_W sp z0 cy D n0 m0 k p l e R s m args below meth c Q C
theorem am_Step.flat {j j' : Nat} {ls ls' : am_L} {st st' : List Value} {M : am_M} (h : ∀ {n0 m0 : Nat} {p : Program} {e : Env} {R : Room} {s : State} {m : MethodId} {args : Array Value} {below : List Frame} {meth : Method} {c : Code} {Q : State → Prop}, am_F sc sp z0 cy D k p R s m args meth c → s.heap.size = z0 + n0 → (am_tot M ≤ n0 + R.cells ∧ am_sl M ≤ m0 + R.slots) → am_W sp z0 cy D n0 m0 k p l e R s m args below meth c Q (j', ls', st', M) → am_W sp z0 cy D n0 m0 k p l e R s m args below meth c Q (j, ls, st, M)) : am_Step sc sp z0 cy D k l (j, ls, st, M) (j', ls', st', M) := ⟨⟨Nat.le_refl _, Nat.le_refl _⟩, h⟩
theorem am_Step.set {j j' : Nat} {ls ls' : am_L} {st st' : List Value} {M : am_M} {n : Nat} {e0 e' : am_E} (hg : am_get M n = some e0) (he : am_esl e' = am_esl e0) (h : ∀ {n0 m0 : Nat} {p : Program} {e : Env} {R : Room} {s : State} {m : MethodId} {args : Array Value} {below : List Frame} {meth : Method} {c : Code} {Q : State → Prop}, am_F sc sp z0 cy D k p R s m args meth c → s.heap.size = z0 + n0 → (am_tot (am_set M n e') ≤ n0 + R.cells ∧ am_sl (am_set M n e') ≤ m0 + R.slots) → am_W sp z0 cy D n0 m0 k p l e R s m args below meth c Q (j', ls', st', am_set M n e') → am_W sp z0 cy D n0 m0 k p l e R s m args below meth c Q (j, ls, st, M)) : am_Step sc sp z0 cy D k l (j, ls, st, M) (j', ls', st', am_set M n e') := ⟨⟨Nat.le_of_eq (am_set_tot hg he).1.symm, Nat.le_of_eq (am_set_tot hg he).2.symm⟩, h⟩
set_option maxHeartbeats 4000000 in
theorem am_one (hsp : ∀ n, sp n = .null ∨ ∃ t, sp n = .ref t) {j : Nat} {ls : am_L} {st : List Value} {M : am_M} {P : Prop} {C' : am_C} (h : am_step (am_tab k) sc (j, ls, st, M) = some (P, C')) (hP : P) : am_Step sc sp z0 cy D k l (j, ls, st, M) C' := by
  unfold am_step at h
  dsimp only at h
  split at h
  · cases h
  · next pc ins a b c kd lk z he =>
    have hb := am_ok he
    have hpc : am_pc k j = pc := by unfold am_pc; rw [he]
    cases ins
    all_goals try (cases h; done)
    case iconst n =>
      obtain ⟨hb, hb2⟩ := Bool.and_eq_true_iff.mp hb
      obtain ⟨hd, hn⟩ := am_dn_spec hb
      cases h
      exact am_Step.flat (fun hF _ _ kk => am_s_iconst hF hd hpc hn (of_decide_eq_true hb2) kk)
    case bipush n =>
      obtain ⟨hb, hb2⟩ := Bool.and_eq_true_iff.mp hb
      obtain ⟨hd, hn⟩ := am_dn_spec hb
      cases h
      exact am_Step.flat (fun hF _ _ kk => am_s_bipush hF hd hpc hn (of_decide_eq_true hb2) kk)
    case sipush n =>
      obtain ⟨hb, hb2⟩ := Bool.and_eq_true_iff.mp hb
      obtain ⟨hd, hn⟩ := am_dn_spec hb
      cases h
      exact am_Step.flat (fun hF _ _ kk => am_s_sipush hF hd hpc hn (of_decide_eq_true hb2) kk)
    case lconst n =>
      obtain ⟨hd, hn⟩ := am_dn_spec hb
      cases h
      exact am_Step.flat (fun hF _ _ kk => am_s_lconst hF hd hpc hn kk)
    case ldc i =>
      obtain ⟨hb, hb2⟩ := Bool.and_eq_true_iff.mp hb
      obtain ⟨hd, hn⟩ := am_dn_spec hb
      match kd, h, hb2 with
      | 0, h, hb2 =>
        cases h
        exact am_Step.flat (fun hF _ _ kk => am_s_ldc hF hd hpc hn (am_kb_spec hb2) kk)
      | 1, h, hb2 =>
        obtain ⟨g1, g2⟩ := Bool.and_eq_true_iff.mp hb2
        have q1 := Nat.eq_of_beq_eq_true g1
        have q2 := Nat.eq_of_beq_eq_true g2
        subst q2
        cases h
        exact am_Step.flat (fun hF _ _ kk => am_s_ldcS hF q1 hd hpc hn kk)
      | x + 2, h, _ => cases h
    case ldc2_w i =>
      obtain ⟨hb, hb2⟩ := Bool.and_eq_true_iff.mp hb
      obtain ⟨hd, hn⟩ := am_dn_spec hb
      dsimp only [am_l2] at h
      split at h
      · next v hv =>
        cases h
        exact am_Step.flat (fun hF _ _ kk => am_s_ldc2 hF hd hpc hn (am_lb_spec hb2 hv) kk)
      · cases h
    case iload_n n =>
      obtain ⟨hd, hn⟩ := am_dn_spec hb
      obtain ⟨x, hv, rfl, rfl⟩ := am_ldi_spec h
      exact am_Step.flat (fun hF _ _ kk => am_s_iload_n hF hd hpc hn hv kk)
    case iload n =>
      obtain ⟨hd, hn⟩ := am_dn_spec hb
      obtain ⟨x, hv, rfl, rfl⟩ := am_ldi_spec h
      exact am_Step.flat (fun hF _ _ kk => am_s_iload hF hd hpc hn hv kk)
    case aload_n n =>
      obtain ⟨hd, hn⟩ := am_dn_spec hb
      obtain ⟨x, hv, rfl, rfl⟩ := am_lda_spec h
      exact am_Step.flat (fun hF _ _ kk => am_s_aload_n hF hsp hd hpc hn hv kk)
    case aload n =>
      obtain ⟨hd, hn⟩ := am_dn_spec hb
      obtain ⟨x, hv, rfl, rfl⟩ := am_lda_spec h
      exact am_Step.flat (fun hF _ _ kk => am_s_aload hF hsp hd hpc hn hv kk)
    case lload_n n =>
      obtain ⟨hd, hn⟩ := am_dn_spec hb
      obtain ⟨x, hv, rfl, rfl⟩ := am_ldl_spec h
      exact am_Step.flat (fun hF _ _ kk => am_s_lload_n hF hd hpc hn hv kk)
    case lload n =>
      obtain ⟨hd, hn⟩ := am_dn_spec hb
      obtain ⟨x, hv, rfl, rfl⟩ := am_ldl_spec h
      exact am_Step.flat (fun hF _ _ kk => am_s_lload hF hd hpc hn hv kk)
    case istore_n n =>
      obtain ⟨hd, hn⟩ := am_dn_spec hb
      obtain ⟨x, st2, rfl, hi, rfl, rfl⟩ := am_si_spec h
      exact am_Step.flat (fun hF _ _ kk => am_s_istore_n hF hsp hd hpc hn hi kk)
    case istore n =>
      obtain ⟨hd, hn⟩ := am_dn_spec hb
      obtain ⟨x, st2, rfl, hi, rfl, rfl⟩ := am_si_spec h
      exact am_Step.flat (fun hF _ _ kk => am_s_istore hF hsp hd hpc hn hi kk)
    case astore_n n =>
      obtain ⟨hd, hn⟩ := am_dn_spec hb
      obtain ⟨x, st2, rfl, hi, rfl, rfl⟩ := am_sa_spec h
      exact am_Step.flat (fun hF _ _ kk => am_s_astore_n hF hsp hd hpc hn hi kk)
    case astore n =>
      obtain ⟨hd, hn⟩ := am_dn_spec hb
      obtain ⟨x, st2, rfl, hi, rfl, rfl⟩ := am_sa_spec h
      exact am_Step.flat (fun hF _ _ kk => am_s_astore hF hsp hd hpc hn hi kk)
    case lstore_n n =>
      obtain ⟨hd, hn⟩ := am_dn_spec hb
      obtain ⟨x, st2, rfl, hi, rfl, rfl⟩ := am_sl2_spec h
      exact am_Step.flat (fun hF _ _ kk => am_s_lstore_n hF hsp hd hpc hn hi kk)
    case lstore n =>
      obtain ⟨hd, hn⟩ := am_dn_spec hb
      obtain ⟨x, st2, rfl, hi, rfl, rfl⟩ := am_sl2_spec h
      exact am_Step.flat (fun hF _ _ kk => am_s_lstore hF hsp hd hpc hn hi kk)
    case iinc n d =>
      obtain ⟨hb, hb2⟩ := Bool.and_eq_true_iff.mp hb
      obtain ⟨hd, hn⟩ := am_dn_spec hb
      obtain ⟨x, hx, hi, rfl, rfl⟩ := am_iinc_spec h
      exact am_Step.flat (fun hF _ _ kk => am_s_iinc hF hsp hd hpc hn (of_decide_eq_true hb2) hx hi kk)
    case iadd =>
      obtain ⟨hd, hn⟩ := am_dn_spec hb
      obtain ⟨x, y, st2, rfl, rfl, rfl⟩ := am_ii_spec h
      exact am_Step.flat (fun hF _ _ kk => am_s_iadd hF hd hpc hn kk)
    case isub =>
      obtain ⟨hd, hn⟩ := am_dn_spec hb
      obtain ⟨x, y, st2, rfl, rfl, rfl⟩ := am_ii_spec h
      exact am_Step.flat (fun hF _ _ kk => am_s_isub hF hd hpc hn kk)
    case imul =>
      obtain ⟨hd, hn⟩ := am_dn_spec hb
      obtain ⟨x, y, st2, rfl, rfl, rfl⟩ := am_ii_spec h
      exact am_Step.flat (fun hF _ _ kk => am_s_imul hF hd hpc hn kk)
    case iand =>
      obtain ⟨hd, hn⟩ := am_dn_spec hb
      obtain ⟨x, y, st2, rfl, rfl, rfl⟩ := am_ii_spec h
      exact am_Step.flat (fun hF _ _ kk => am_s_iand hF hd hpc hn kk)
    case ior =>
      obtain ⟨hd, hn⟩ := am_dn_spec hb
      obtain ⟨x, y, st2, rfl, rfl, rfl⟩ := am_ii_spec h
      exact am_Step.flat (fun hF _ _ kk => am_s_ior hF hd hpc hn kk)
    case ishl =>
      obtain ⟨hd, hn⟩ := am_dn_spec hb
      obtain ⟨x, y, st2, rfl, rfl, rfl⟩ := am_ii_spec h
      exact am_Step.flat (fun hF _ _ kk => am_s_ishl hF hd hpc hn kk)
    case ishr =>
      obtain ⟨hd, hn⟩ := am_dn_spec hb
      obtain ⟨x, y, st2, rfl, rfl, rfl⟩ := am_ii_spec h
      exact am_Step.flat (fun hF _ _ kk => am_s_ishr hF hd hpc hn kk)
    case iushr =>
      obtain ⟨hd, hn⟩ := am_dn_spec hb
      obtain ⟨x, y, st2, rfl, rfl, rfl⟩ := am_ii_spec h
      exact am_Step.flat (fun hF _ _ kk => am_s_iushr hF hd hpc hn kk)
    case idiv =>
      obtain ⟨hd, hn⟩ := am_dn_spec hb
      obtain ⟨x, y, st2, rfl, rfl, rfl⟩ := am_iid_spec h
      exact am_Step.flat (fun hF _ _ kk => am_s_idiv hF hd hpc hn hP kk)
    case irem =>
      obtain ⟨hd, hn⟩ := am_dn_spec hb
      obtain ⟨x, y, st2, rfl, rfl, rfl⟩ := am_iid_spec h
      exact am_Step.flat (fun hF _ _ kk => am_s_irem hF hd hpc hn hP kk)
    case ineg =>
      obtain ⟨hd, hn⟩ := am_dn_spec hb
      obtain ⟨x, st2, rfl, rfl, rfl⟩ := am_i__spec h
      exact am_Step.flat (fun hF _ _ kk => am_s_ineg hF hd hpc hn kk)
    case i2l =>
      obtain ⟨hd, hn⟩ := am_dn_spec hb
      obtain ⟨x, st2, rfl, rfl, rfl⟩ := am_i__spec h
      exact am_Step.flat (fun hF _ _ kk => am_s_i2l hF hd hpc hn kk)
    case i2b =>
      obtain ⟨hd, hn⟩ := am_dn_spec hb
      obtain ⟨x, st2, rfl, rfl, rfl⟩ := am_i__spec h
      exact am_Step.flat (fun hF _ _ kk => am_s_i2b hF hd hpc hn kk)
    case i2c =>
      obtain ⟨hd, hn⟩ := am_dn_spec hb
      obtain ⟨x, st2, rfl, rfl, rfl⟩ := am_i__spec h
      exact am_Step.flat (fun hF _ _ kk => am_s_i2c hF hd hpc hn kk)
    case ladd =>
      obtain ⟨hd, hn⟩ := am_dn_spec hb
      obtain ⟨x, y, st2, rfl, rfl, rfl⟩ := am_ll_spec h
      exact am_Step.flat (fun hF _ _ kk => am_s_ladd hF hd hpc hn kk)
    case lmul =>
      obtain ⟨hd, hn⟩ := am_dn_spec hb
      obtain ⟨x, y, st2, rfl, rfl, rfl⟩ := am_ll_spec h
      exact am_Step.flat (fun hF _ _ kk => am_s_lmul hF hd hpc hn kk)
    case land =>
      obtain ⟨hd, hn⟩ := am_dn_spec hb
      obtain ⟨x, y, st2, rfl, rfl, rfl⟩ := am_ll_spec h
      exact am_Step.flat (fun hF _ _ kk => am_s_land hF hd hpc hn kk)
    case lor =>
      obtain ⟨hd, hn⟩ := am_dn_spec hb
      obtain ⟨x, y, st2, rfl, rfl, rfl⟩ := am_ll_spec h
      exact am_Step.flat (fun hF _ _ kk => am_s_lor hF hd hpc hn kk)
    case lcmp =>
      obtain ⟨hd, hn⟩ := am_dn_spec hb
      obtain ⟨x, y, st2, rfl, rfl, rfl⟩ := am_ll_spec h
      exact am_Step.flat (fun hF _ _ kk => am_s_lcmp hF hd hpc hn kk)
    case ldiv =>
      obtain ⟨hd, hn⟩ := am_dn_spec hb
      obtain ⟨x, y, st2, rfl, rfl, rfl⟩ := am_lld_spec h
      exact am_Step.flat (fun hF _ _ kk => am_s_ldiv hF hd hpc hn hP kk)
    case lshl =>
      obtain ⟨hd, hn⟩ := am_dn_spec hb
      obtain ⟨x, y, st2, rfl, rfl, rfl⟩ := am_li_spec h
      exact am_Step.flat (fun hF _ _ kk => am_s_lshl hF hd hpc hn kk)
    case lshr =>
      obtain ⟨hd, hn⟩ := am_dn_spec hb
      obtain ⟨x, y, st2, rfl, rfl, rfl⟩ := am_li_spec h
      exact am_Step.flat (fun hF _ _ kk => am_s_lshr hF hd hpc hn kk)
    case l2i =>
      obtain ⟨hd, hn⟩ := am_dn_spec hb
      obtain ⟨x, st2, rfl, rfl, rfl⟩ := am_l__spec h
      exact am_Step.flat (fun hF _ _ kk => am_s_l2i hF hd hpc hn kk)
    case dup =>
      obtain ⟨hd, hn⟩ := am_dn_spec hb
      obtain ⟨v, st2, rfl, hv, rfl, rfl⟩ := am_dup_spec h
      exact am_Step.flat (fun hF _ _ kk => am_s_dup hF hd hpc hn (by rw [am_cv_cat (am_sp_cat hsp)]; rcases hv with ⟨x, rfl⟩ | ⟨x, rfl⟩ <;> rfl) kk)
    case dup2 =>
      obtain ⟨hd, hn⟩ := am_dn_spec hb
      obtain ⟨y, v, st2, rfl, hv, rfl, rfl⟩ := am_dup2_spec h
      exact am_Step.flat (fun hF _ _ kk => am_s_dup2 hF hd hpc hn rfl (by rw [am_cv_cat (am_sp_cat hsp)]; rcases hv with ⟨x, rfl⟩ | ⟨x, rfl⟩ <;> rfl) kk)
    case pop =>
      obtain ⟨hd, hn⟩ := am_dn_spec hb
      obtain ⟨x, st2, rfl, rfl, rfl⟩ := am_pop_spec h
      exact am_Step.flat (fun hF _ _ kk => am_s_pop hF hd hpc hn rfl kk)
    case ifCond cnd off =>
      obtain ⟨hb, hb2⟩ := Bool.and_eq_true_iff.mp hb
      obtain ⟨hd, hn⟩ := am_dn_spec hb
      have ho := am_off_spec hb2
      cases cnd
      · obtain ⟨x, st2, rfl, rfl, rfl⟩ := am_c1_spec h
        exact am_Step.flat (fun hF _ _ kk => am_s_if_eq hF hd hpc hn rfl ho kk)
      · obtain ⟨x, st2, rfl, rfl, rfl⟩ := am_c1_spec h
        exact am_Step.flat (fun hF _ _ kk => am_s_if_ne hF hd hpc hn rfl ho kk)
      · obtain ⟨x, st2, rfl, rfl, rfl⟩ := am_c1_spec h
        exact am_Step.flat (fun hF _ _ kk => am_s_if_lt hF hd hpc hn rfl ho kk)
      · obtain ⟨x, st2, rfl, rfl, rfl⟩ := am_c1_spec h
        exact am_Step.flat (fun hF _ _ kk => am_s_if_ge hF hd hpc hn rfl ho kk)
      · obtain ⟨x, st2, rfl, rfl, rfl⟩ := am_c1_spec h
        exact am_Step.flat (fun hF _ _ kk => am_s_if_gt hF hd hpc hn rfl ho kk)
      · obtain ⟨x, st2, rfl, rfl, rfl⟩ := am_c1_spec h
        exact am_Step.flat (fun hF _ _ kk => am_s_if_le hF hd hpc hn rfl ho kk)
    case if_icmp cnd off =>
      obtain ⟨hb, hb2⟩ := Bool.and_eq_true_iff.mp hb
      obtain ⟨hd, hn⟩ := am_dn_spec hb
      have ho := am_off_spec hb2
      cases cnd
      · obtain ⟨x, y, st2, rfl, rfl, rfl⟩ := am_c2_spec h
        exact am_Step.flat (fun hF _ _ kk => am_s_icmp_eq hF hd hpc hn rfl ho kk)
      · obtain ⟨x, y, st2, rfl, rfl, rfl⟩ := am_c2_spec h
        exact am_Step.flat (fun hF _ _ kk => am_s_icmp_ne hF hd hpc hn rfl ho kk)
      · obtain ⟨x, y, st2, rfl, rfl, rfl⟩ := am_c2_spec h
        exact am_Step.flat (fun hF _ _ kk => am_s_icmp_lt hF hd hpc hn rfl ho kk)
      · obtain ⟨x, y, st2, rfl, rfl, rfl⟩ := am_c2_spec h
        exact am_Step.flat (fun hF _ _ kk => am_s_icmp_ge hF hd hpc hn rfl ho kk)
      · obtain ⟨x, y, st2, rfl, rfl, rfl⟩ := am_c2_spec h
        exact am_Step.flat (fun hF _ _ kk => am_s_icmp_gt hF hd hpc hn rfl ho kk)
      · obtain ⟨x, y, st2, rfl, rfl, rfl⟩ := am_c2_spec h
        exact am_Step.flat (fun hF _ _ kk => am_s_icmp_le hF hd hpc hn rfl ho kk)
    case goto off =>
      obtain ⟨hb, hb2⟩ := Bool.and_eq_true_iff.mp hb
      have ho := am_off_spec hb2
      cases h
      exact am_Step.flat (fun hF _ _ kk => am_s_goto hF (of_decide_eq_true hb) hpc rfl ho kk)
    case tableswitch d lo hi offs =>
      dsimp only [am_sws] at h
      split at h
      · next L dd hs =>
        obtain ⟨x, st2, rfl, rfl, rfl⟩ := am_c1_spec h
        dsimp only [am_okb] at hb
        rw [hs] at hb
        simp only [Bool.and_eq_true, decide_eq_true_eq] at hb
        obtain ⟨h1, ⟨h2, h3⟩, h4⟩ := hb
        obtain ⟨len, hd⟩ := am_dl_spec h1
        exact am_Step.flat (fun hF _ _ kk => am_s_tsw hF hd hpc (am_off_spec h2) h3 (fun i q hq => by have g := am_ckt_spec L offs.toList lo h4 i q hq; simpa using g) kk)
      · cases h
    case lookupswitch d ps =>
      dsimp only [am_sws] at h
      split at h
      · next L dd hs =>
        obtain ⟨x, st2, rfl, rfl, rfl⟩ := am_c1_spec h
        dsimp only [am_okb] at hb
        rw [hs] at hb
        simp only [Bool.and_eq_true] at hb
        obtain ⟨h1, ⟨h2, h3⟩, h4⟩ := hb
        obtain ⟨len, hd⟩ := am_dl_spec h1
        have g := am_ckl_spec L ps.toList h3
        exact am_Step.flat (fun hF _ _ kk => am_s_lsw hF hd h4 hpc (am_off_spec h2) g.1 g.2 kk)
      · cases h
    case getfield i =>
      obtain ⟨hb, hb2⟩ := Bool.and_eq_true_iff.mp hb
      obtain ⟨hd, hn⟩ := am_dn_spec hb
      obtain ⟨n, st2, rfl, ⟨rfl, h⟩ | ⟨hkd, h⟩⟩ := am_gf_spec h
      · obtain ⟨g1, g2⟩ := Bool.and_eq_true_iff.mp hb2
        obtain ⟨fs, v, hg, hv, rfl, rfl⟩ := am_getf0_spec h
        exact am_Step.flat (fun hF _ _ kk => am_s_getf hF (am_Lf_of g1 g2) (am_cl_all _) hd hpc hn hg hv kk)
      · have hb3 : am_flb lk k i 9 b = true := by
          cases kd with
          | zero => omega
          | succ x => exact hb2
        obtain ⟨g1, g2⟩ := am_flb_spec hb3
        have g2 : b < 2 := g2
        obtain ⟨rfl, rfl, ⟨rfl, rfl⟩ | ⟨hb1, rfl⟩⟩ := am_getfS_spec h
        · exact am_Step.flat (fun hF _ _ kk => am_s_getSv hF g1 hd hpc hn kk)
        · have hb1 : b = 1 := by omega
          subst hb1
          exact am_Step.flat (fun hF _ _ kk => am_s_getSc hF g1 hd hpc hn kk)
    case putfield i =>
      simp only [am_okb, Bool.and_eq_true] at hb
      obtain ⟨⟨⟨⟨⟨hb1, g1⟩, g2⟩, g3⟩, g4⟩, g5⟩ := hb
      obtain ⟨hd, hn⟩ := am_dn_spec hb1
      obtain ⟨v, n, st2, fs, rfl, hg, hpk, hlt, rfl⟩ := am_pf_spec h
      have q3 := Nat.eq_of_beq_eq_true g3
      have q4 := Nat.le_of_ble_eq_true g4
      refine am_Step.set hg (by simp [am_esl]) (fun hF hz _ kk => am_s_putf hF hz (am_Lf_of g1 g2) (fun q hq => ⟨am_cl_all _ q hq, ?_⟩) hd hpc hn hg hlt hpk hP kk)
      rw [← q3]
      refine am_fk_all a b q hq (by rw [(am_vw_cn a q hq).2.1]; exact (am_flb_spec g1).2) k (fun h3 => ?_) (by omega)
      simp only [Bool.or_eq_true, Bool.and_eq_true] at g5
      rcases g5 with g5 | g5
      · have := Nat.le_of_ble_eq_true g5; omega
      · exact ⟨g5.1, Nat.eq_of_beq_eq_true g5.2⟩
    case getstatic i =>
      obtain ⟨hb, hb2⟩ := Bool.and_eq_true_iff.mp hb
      obtain ⟨hd, hn⟩ := am_dn_spec hb
      obtain ⟨g, hg, hl⟩ := am_slb_spec hb2
      dsimp only [am_gst] at h
      rw [hg] at h
      cases h
      exact am_Step.flat (fun hF _ _ kk => am_s_gets hF (List.mem_of_getElem? hg) hl hd hpc hn kk)
    case iaload =>
      obtain ⟨hd, hn⟩ := am_dn_spec hb
      obtain ⟨i, n, st2, rfl, h⟩ := am_ia_spec h
      obtain ⟨ty, len, f, ha, hty, rfl, rfl⟩ := am_ald_spec h
      have q1 := Nat.eq_of_beq_eq_true hty
      subst q1
      exact am_Step.flat (fun hF _ _ kk => am_s_iald hF ha hP hd hpc hn kk)
    case baload =>
      obtain ⟨hd, hn⟩ := am_dn_spec hb
      obtain ⟨i, n, st2, rfl, h⟩ := am_ba_spec h
      obtain ⟨ty, len, f, ha, hty, rfl, rfl⟩ := am_ald_spec h
      have q1 : ty = 1 ∨ ty = 2 := (Bool.or_eq_true_iff.mp hty).elim (fun q => Or.inl (Nat.eq_of_beq_eq_true q)) (fun q => Or.inr (Nat.eq_of_beq_eq_true q))
      exact am_Step.flat (fun hF _ _ kk => am_s_bald hF ha q1 hP hd hpc hn kk)
    case iastore =>
      obtain ⟨hd, hn⟩ := am_dn_spec hb
      obtain ⟨x, i, n, st2, len, f, rfl, ha, rfl, rfl⟩ := am_is_spec h
      exact am_Step.set ha rfl (fun hF hz _ kk => am_s_iast hF hz ha hP hd hpc hn kk)
    case bastore =>
      obtain ⟨hd, hn⟩ := am_dn_spec hb
      obtain ⟨x, i, n, st2, len, f, rfl, rfl, ⟨ha, rfl⟩ | ⟨ha, rfl⟩⟩ := am_bs_spec h
      · exact am_Step.set ha rfl (fun hF hz _ kk => am_s_bast hF hz ha hP hd hpc hn kk)
      · exact am_Step.set ha rfl (fun hF hz _ kk => am_s_zast hF hz ha hP hd hpc hn kk)
    case arraylength =>
      obtain ⟨hd, hn⟩ := am_dn_spec hb
      obtain ⟨n, st2, ty, len, f, rfl, ha, hty, rfl, rfl⟩ := am_aln_spec h
      exact am_Step.flat (fun hF _ _ kk => am_s_alen hF ha hty hd hpc hn kk)
    case new i =>
      simp only [am_okb, Bool.and_eq_true] at hb
      obtain ⟨⟨hb1, g1⟩, g2⟩ := hb
      obtain ⟨hd, hn⟩ := am_dn_spec hb1
      dsimp only [am_new] at h
      split at h
      · next fs hfs =>
        split at h
        · next hc =>
          obtain ⟨c1, c2⟩ := Bool.and_eq_true_iff.mp hc
          have q1 := Nat.eq_of_beq_eq_true c1
          have q2 : 32 * M.length < 1000 := Nat.le_of_ble_eq_true c2
          cases h
          obtain ⟨q, hq⟩ := am_vw_some (Nat.le_of_ble_eq_true g2 : a < 8)
          obtain ⟨ty, hty⟩ := am_cl_all a q hq
          have g := am_nlb_spec g1
          have gc := am_vw_cn a q hq
          rw [← gc.1, ← gc.2.1] at g
          refine ⟨⟨by dsimp only; rw [am_tot_app]; omega, by dsimp only; rw [am_sl_app]; omega⟩, fun hF _ hl kk => am_s_new hF hq hty hfs g hl q1 q2 hd hpc hn kk⟩
        · cases h
      · cases h
    case newarray t =>
      obtain ⟨hd, hn⟩ := am_dn_spec hb
      obtain ⟨n, st2, ty, rfl, hty, h⟩ := am_na_spec h
      dsimp only [am_newa] at h
      split at h
      · next c1 c2 c3 c4 =>
        obtain ⟨c5, c6⟩ := Bool.and_eq_true_iff.mp c3
        have q1 := Nat.eq_of_beq_eq_true c1
        have q2 : 0 < M.length := Nat.le_of_ble_eq_true c2
        have q3 : (am_last M).2 < 32 := Nat.le_of_ble_eq_true c5
        have q4 : 32 * (am_last M).1 + (am_last M).2 < 1000 := Nat.le_of_ble_eq_true c6
        have q5 := Nat.le_of_ble_eq_true c4
        cases h
        have ga : Cond.arrayClass (newarray.typeOf t) ∈ xw_tw := by
          cases t <;> first | (cases hty; done) | exact am_ac_int | exact am_ac_byte | exact am_ac_boolean
        refine ⟨⟨by dsimp only; rw [am_tot_push _ M q2]; omega, by dsimp only; rw [am_sl_push _ M q2]; omega⟩, fun hF _ hl kk => am_s_newa hF hty ga hl q1 q2 q3 q4 q5 hP hd hpc hn kk⟩
      · cases h
    case invokespecial i =>
      simp only [am_okb, Bool.and_eq_true] at hb
      obtain ⟨hb1, hb2⟩ := hb
      obtain ⟨hd, hn⟩ := am_dn_spec hb1
      obtain ⟨n, st2, rfl, rfl, c1, c2, rfl, rfl⟩ := am_oi_spec h
      simp only [Bool.and_eq_true] at hb2
      obtain ⟨⟨g1, g2⟩, g3⟩ := hb2
      rcases am_mlb_spec g1 with g | ⟨g, -⟩
      · exact am_Step.flat (fun hF _ _ kk => am_s_objI hF hsp ⟨g, am_wobj.1, am_wobj.2⟩ ⟨Nat.le_of_ble_eq_true g2, Nat.le_of_ble_eq_true g3⟩ c1 c2 hd hpc hn kk)
      · cases g
    case invokestatic i =>
      simp only [am_okb, Bool.and_eq_true] at hb
      obtain ⟨hb1, hb2⟩ := hb
      obtain ⟨hd, hn⟩ := am_dn_spec hb1
      obtain ⟨rfl, x, y, st2, rfl, c1, rfl, rfl⟩ | ⟨rfl, x, y, st2, rfl, c1, rfl, rfl⟩ | ⟨rfl, x, st2, rfl, c1, rfl, rfl⟩ | ⟨rfl, n, dp, sps, a1, a0, st2, n0, n1, f, gg, rfl, h0, h1, h3, rfl, rfl⟩ := am_math_spec h
      · simp only [Nat.ble, Bool.and_eq_true] at hb2
        obtain ⟨⟨g1, g2⟩, g3⟩ := hb2
        rcases am_mlb_spec g1 with g | ⟨g, -⟩
        · exact am_Step.flat (fun hF _ hl kk => am_s_max hF hsp ⟨⟨g, am_wmax.1, am_wmax.2.1⟩, am_wmax.2.2⟩ ⟨Nat.le_of_ble_eq_true g2, Nat.le_of_ble_eq_true g3⟩ hl c1 hd hpc hn kk)
        · cases g
      · simp only [Nat.ble, Bool.and_eq_true] at hb2
        obtain ⟨⟨g1, g2⟩, g3⟩ := hb2
        rcases am_mlb_spec g1 with g | ⟨g, -⟩
        · exact am_Step.flat (fun hF _ hl kk => am_s_min hF hsp ⟨⟨g, am_wmin.1, am_wmin.2.1⟩, am_wmin.2.2⟩ ⟨Nat.le_of_ble_eq_true g2, Nat.le_of_ble_eq_true g3⟩ hl c1 hd hpc hn kk)
        · cases g
      · simp only [Nat.ble, Bool.and_eq_true] at hb2
        obtain ⟨⟨g1, g2⟩, g3⟩ := hb2
        rcases am_mlb_spec g1 with g | ⟨g, -⟩
        · exact am_Step.flat (fun hF _ hl kk => am_s_abs hF hsp ⟨⟨g, am_wabs.1, am_wabs.2.1⟩, am_wabs.2.2⟩ ⟨Nat.le_of_ble_eq_true g2, Nat.le_of_ble_eq_true g3⟩ hl c1 hd hpc hn kk)
        · cases g
      · simp only [Nat.ble, Bool.and_eq_true] at hb2
        obtain ⟨⟨g1, g2⟩, g3⟩ := hb2
        rcases am_mlb_spec g1 with g | ⟨g, -⟩
        · exact am_Step.set h1 rfl (fun hF hz _ kk => am_s_copy hF hsp hz ⟨⟨g, am_wcopy.1, am_wcopy.2.1⟩, am_wcopy.2.2⟩ ⟨Nat.le_of_ble_eq_true g2, Nat.le_of_ble_eq_true g3⟩ h3 h0 h1 hP hd hpc hn kk)
        · cases g
end

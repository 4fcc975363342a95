/-! ===== the law's start: what the Statement gives is what the abstract machine asks ===== -/
theorem am_insts : ∀ a, a < 8 → Cond.instantiable (am_cn a) (am_nf a) ∈ xw_tw := by
  intro a h
  match a, h with
  | 0, _ => exact xw_in 303 (by decide +kernel) rfl
  | 1, _ => exact xw_in 261 (by decide +kernel) rfl
  | 2, _ => exact xw_in 143 (by decide +kernel) rfl
  | 3, _ => exact xw_in 278 (by decide +kernel) rfl
  | 4, _ => exact xw_in 187 (by decide +kernel) rfl
  | 5, _ => exact xw_in 81 (by decide +kernel) rfl
  | 6, _ => exact xw_in 73 (by decide +kernel) rfl
  | 7, _ => exact xw_in 774 (by decide +kernel) rfl
  | n + 8, h => omega
theorem am_in_tbl {w : Cond} (i : Nat) (h : lw_tbl[i]? = some w) : w ∈ lw_tbl := List.mem_of_getElem? h
theorem am_nw_tbl : ∀ w ∈ am_nw, w ∈ lw_tbl := by
  intro w hw
  simp only [am_nw, List.mem_cons, List.not_mem_nil, or_false] at hw
  rcases hw with rfl | rfl | rfl | rfl | rfl | rfl
  · exact am_in_tbl 90 (by decide +kernel)
  · exact am_in_tbl 466 (by decide +kernel)
  · exact am_in_tbl 468 (by decide +kernel)
  · exact am_in_tbl 144 (by decide +kernel)
  · exact am_in_tbl 279 (by decide +kernel)
  · exact am_in_tbl 304 (by decide +kernel)
set_option maxRecDepth 100000 in
theorem am_lays : ∀ q ∈ am_gs, Cond.laysStatic q.1 q.2.1 q.2.2.1 ∈ lw_tbl ∧ Cond.initialized q.1 ∈ lw_tbl := by
  intro q hq
  simp only [am_gs, List.mem_cons, List.not_mem_nil, or_false] at hq
  rcases hq with rfl | rfl | rfl | rfl | rfl | rfl | rfl | rfl
  · exact ⟨am_in_tbl 91 (by decide +kernel), am_in_tbl 58 (by decide +kernel)⟩
  · exact ⟨am_in_tbl 467 (by decide +kernel), am_in_tbl 58 (by decide +kernel)⟩
  · exact ⟨am_in_tbl 469 (by decide +kernel), am_in_tbl 58 (by decide +kernel)⟩
  · exact ⟨am_in_tbl 637 (by decide +kernel), am_in_tbl 58 (by decide +kernel)⟩
  · exact ⟨am_in_tbl 748 (by decide +kernel), am_in_tbl 58 (by decide +kernel)⟩
  · exact ⟨am_in_tbl 746 (by decide +kernel), am_in_tbl 58 (by decide +kernel)⟩
  · exact ⟨am_in_tbl 415 (by decide +kernel), am_in_tbl 68 (by decide +kernel)⟩
  · exact ⟨am_in_tbl 431 (by decide +kernel), am_in_tbl 70 (by decide +kernel)⟩
theorem am_sref : Cond.stringRef "PaperPays$Reader" 118 am_txt ∈ lw_tbl := am_in_tbl 405 (by decide +kernel)
def am_fl : List Cond := flatC (Cond.and given_1 narrow_1)
def am_stl (i : Nat) : List Int32 := ((am_sta[i]?).getD (9, 0, [])).2.2
def am_stn (i : Nat) : Nat := ((am_sta[i]?).getD (9, 0, [])).2.1
set_option maxRecDepth 100000 in
theorem am_fs0 : Cond.arrayOf (.static "PaperPays" "USUAL" "[I") .int ∈ am_fl ∧ Cond.eq (.length (.static "PaperPays" "USUAL" "[I")) (.int (Int32.ofNat (am_stn 0))) ∈ am_fl ∧ ∀ j, j < am_stn 0 → Cond.eq (.elem (.static "PaperPays" "USUAL" "[I") (.int (Int32.ofNat j))) (.int ((am_stl 0).getD j 0)) ∈ am_fl := ⟨by decide +kernel, by decide +kernel, by decide +kernel⟩
set_option maxRecDepth 100000 in
theorem am_fs1 : Cond.arrayOf (.static "PaperPays" "LEAST" "[I") .int ∈ am_fl ∧ Cond.eq (.length (.static "PaperPays" "LEAST" "[I")) (.int (Int32.ofNat (am_stn 1))) ∈ am_fl ∧ ∀ j, j < am_stn 1 → Cond.eq (.elem (.static "PaperPays" "LEAST" "[I") (.int (Int32.ofNat j))) (.int ((am_stl 1).getD j 0)) ∈ am_fl := ⟨by decide +kernel, by decide +kernel, by decide +kernel⟩
set_option maxRecDepth 100000 in
theorem am_fs2 : Cond.arrayOf (.static "PaperPays" "MOST" "[I") .int ∈ am_fl ∧ Cond.eq (.length (.static "PaperPays" "MOST" "[I")) (.int (Int32.ofNat (am_stn 2))) ∈ am_fl ∧ ∀ j, j < am_stn 2 → Cond.eq (.elem (.static "PaperPays" "MOST" "[I") (.int (Int32.ofNat j))) (.int ((am_stl 2).getD j 0)) ∈ am_fl := ⟨by decide +kernel, by decide +kernel, by decide +kernel⟩
set_option maxRecDepth 100000 in
theorem am_fs3 : Cond.arrayOf (.static "PaperPays" "WOULD_RULES" "[I") .int ∈ am_fl ∧ Cond.eq (.length (.static "PaperPays" "WOULD_RULES" "[I")) (.int (Int32.ofNat (am_stn 3))) ∈ am_fl ∧ ∀ j, j < am_stn 3 → Cond.eq (.elem (.static "PaperPays" "WOULD_RULES" "[I") (.int (Int32.ofNat j))) (.int ((am_stl 3).getD j 0)) ∈ am_fl := ⟨by decide +kernel, by decide +kernel, by decide +kernel⟩
set_option maxRecDepth 100000 in
theorem am_fs4 : Cond.arrayOf (.static "PaperPays" "KIND_ABOVE" "[I") .int ∈ am_fl ∧ Cond.eq (.length (.static "PaperPays" "KIND_ABOVE" "[I")) (.int (Int32.ofNat (am_stn 4))) ∈ am_fl ∧ ∀ j, j < am_stn 4 → Cond.eq (.elem (.static "PaperPays" "KIND_ABOVE" "[I") (.int (Int32.ofNat j))) (.int ((am_stl 4).getD j 0)) ∈ am_fl := ⟨by decide +kernel, by decide +kernel, by decide +kernel⟩
set_option maxRecDepth 100000 in
theorem am_fs5 : Cond.arrayOf (.static "PaperPays" "KIND_TRACE" "[I") .int ∈ am_fl ∧ Cond.eq (.length (.static "PaperPays" "KIND_TRACE" "[I")) (.int (Int32.ofNat (am_stn 5))) ∈ am_fl ∧ ∀ j, j < am_stn 5 → Cond.eq (.elem (.static "PaperPays" "KIND_TRACE" "[I") (.int (Int32.ofNat j))) (.int ((am_stl 5).getD j 0)) ∈ am_fl := ⟨by decide +kernel, by decide +kernel, by decide +kernel⟩
set_option maxRecDepth 100000 in
theorem am_fsS : Cond.exactly (.string "PaperPays$Reader" 118) "java/lang/String" ∈ am_fl ∧ Cond.eq (.field (.string "PaperPays$Reader" 118) "java/lang/String" "coder" "B") (.int 0) ∈ am_fl ∧ Cond.arrayOf (.field (.string "PaperPays$Reader" 118) "java/lang/String" "value" "[B") .byte ∈ am_fl ∧ Cond.eq (.length (.field (.string "PaperPays$Reader" 118) "java/lang/String" "value" "[B")) (.int (Int32.ofNat (am_stn 11))) ∈ am_fl ∧ ∀ j, j < am_stn 11 → Cond.eq (.elem (.field (.string "PaperPays$Reader" 118) "java/lang/String" "value" "[B") (.int (Int32.ofNat j))) (.int ((am_stl 11).getD j 0)) ∈ am_fl := ⟨by decide +kernel, by decide +kernel, by decide +kernel, by decide +kernel, by decide +kernel⟩
theorem am_fsC : Cond.eq (.static "java/lang/String" "COMPACT_STRINGS" "Z") (.int 1) ∈ am_fl ∧ Cond.isRef (.static "jdk/internal/util/Preconditions" "SIOOBE_FORMATTER" "Ljava/util/function/BiFunction;") ∈ am_fl := ⟨by decide +kernel, by decide +kernel⟩
def am_spf (t : Nat → Nat) (vf : Value) (n : Nat) : Value := match n with
  | 1000 => .ref (t 0)
  | 1001 => .ref (t 1)
  | 1002 => .ref (t 2)
  | 1003 => .ref (t 3)
  | 1004 => .ref (t 4)
  | 1005 => .ref (t 5)
  | 1010 => .ref (t 10)
  | 1011 => .ref (t 11)
  | 1020 => vf
  | 1030 => .ref (t 30)
  | _ => .null
theorem am_spf_ok {t : Nat → Nat} {vf : Value} (h : vf = .null ∨ ∃ x, vf = .ref x) (n : Nat) : am_spf t vf n = .null ∨ ∃ x, am_spf t vf n = .ref x := by
  unfold am_spf
  split <;> first | exact Or.inr ⟨_, rfl⟩ | exact h | exact Or.inl rfl
section
variable {p : Program} {e : Env} {s : State} {m : MethodId} {below : List Frame} {meth : Method} {c : Code} {b L : Nat} {xs : Nat → Int32}
theorem am_stat {args : Array Value} {C n : String} {N : Nat} {l : List Int32} (hN : N < 2 ^ 31) (hl : (Cond.laysStatic C n "[I").before args s = true) (hi : (Cond.initialized C).before args s = true) (h1 : (Cond.arrayOf (.static C n "[I") .int).before args s = true) (h2 : (Cond.eq (.length (.static C n "[I")) (.int (Int32.ofNat N))).before args s = true) (h3 : ∀ j, j < N → (Cond.eq (.elem (.static C n "[I") (.int (Int32.ofNat j))) (.int (l.getD j 0))).before args s = true) : ∃ t : Nat, va_Z C n "[I" (.ref t) (am_A s.heap.size) s s.heap ∧ va_T .int t N (fun j => .int (l.getD j 0)) (am_A s.heap.size) s s.heap := by
  have hA : ∀ a : Nat, a < s.heap.size → ¬ am_A s.heap.size a := fun a h1 h2 => by unfold am_A at h2; omega
  obtain ⟨t, ht, hT⟩ := va_Tof (f := fun j => .int (l.getD j 0)) hN h1 (va_eqt h2) (fun j hj => va_eqt (h3 j hj)) hA
  exact ⟨t, va_Zof hl hi ht hA, hT⟩
set_option maxRecDepth 100000 in
theorem am_world (C0 : lw_At p s m meth c b L xs) : ∃ (sp : Nat → Value) (cy : Nat → ClassId) (D : va_G), (∀ n, sp n = .null ∨ ∃ t, sp n = .ref t) ∧ sp 1030 = .ref b ∧ am_F (L, xs) sp s.heap.size cy D 171 p room_1 s m #[Value.ref b] meth c := by
  obtain ⟨hx, hb, hr, hml, hown, hts, hX, hbl, hlocks, hgv⟩ := C0
  have hfl : ∀ w ∈ am_fl, w.before #[Value.ref b] s = true := flat_of_before _ hgv
  have htw : ∀ w ∈ xw_tw, w.before #[Value.ref b] s = true := fun w hw => hts w (List.mem_filter.mp hw).1
  have hA : ∀ a : Nat, a < s.heap.size → ¬ am_A s.heap.size a := fun a h1 h2 => by unfold am_A at h2; omega
  have hst : ∀ (C n : String) (N : Nat) (l : List Int32) (v : Value), (C, n, "[I", v) ∈ am_gs → N < 2 ^ 31 → (Cond.arrayOf (.static C n "[I") .int ∈ am_fl ∧ Cond.eq (.length (.static C n "[I")) (.int (Int32.ofNat N)) ∈ am_fl ∧ ∀ j, j < N → Cond.eq (.elem (.static C n "[I") (.int (Int32.ofNat j))) (.int (l.getD j 0)) ∈ am_fl) → ∃ t : Nat, va_Z C n "[I" (.ref t) (am_A s.heap.size) s s.heap ∧ va_T .int t N (fun j => .int (l.getD j 0)) (am_A s.heap.size) s s.heap := fun C n N l v hg hN h => am_stat hN (hts _ (am_lays _ hg).1) (hts _ (am_lays _ hg).2) (hfl _ h.1) (hfl _ h.2.1) (fun j hj => hfl _ (h.2.2 j hj))
  obtain ⟨t0, Z0, T0⟩ := hst "PaperPays" "USUAL" (am_stn 0) (am_stl 0) (.ref 1000) (List.mem_of_getElem? (i := 0) rfl) (by decide) am_fs0
  obtain ⟨t1, Z1, T1⟩ := hst "PaperPays" "LEAST" (am_stn 1) (am_stl 1) (.ref 1001) (List.mem_of_getElem? (i := 1) rfl) (by decide) am_fs1
  obtain ⟨t2, Z2, T2⟩ := hst "PaperPays" "MOST" (am_stn 2) (am_stl 2) (.ref 1002) (List.mem_of_getElem? (i := 2) rfl) (by decide) am_fs2
  obtain ⟨t3, Z3, T3⟩ := hst "PaperPays" "WOULD_RULES" (am_stn 3) (am_stl 3) (.ref 1003) (List.mem_of_getElem? (i := 3) rfl) (by decide) am_fs3
  obtain ⟨t4, Z4, T4⟩ := hst "PaperPays" "KIND_ABOVE" (am_stn 4) (am_stl 4) (.ref 1004) (List.mem_of_getElem? (i := 4) rfl) (by decide) am_fs4
  obtain ⟨t5, Z5, T5⟩ := hst "PaperPays" "KIND_TRACE" (am_stn 5) (am_stl 5) (.ref 1005) (List.mem_of_getElem? (i := 5) rfl) (by decide) am_fs5
  have hC := va_Zof (A := am_A s.heap.size) (hts _ (am_lays _ (List.mem_of_getElem? (i := 6) rfl : ("java/lang/String", "COMPACT_STRINGS", "Z", Value.int 1) ∈ am_gs)).1) (hts _ (am_lays _ (List.mem_of_getElem? (i := 6) rfl : ("java/lang/String", "COMPACT_STRINGS", "Z", Value.int 1) ∈ am_gs)).2) (va_eqi (hfl _ am_fsC.1)) hA
  have hG := va_Zqof (A := am_A s.heap.size) (hts _ (am_lays _ (List.mem_of_getElem? (i := 7) rfl : ("jdk/internal/util/Preconditions", "SIOOBE_FORMATTER", "Ljava/util/function/BiFunction;", Value.ref 1020) ∈ am_gs)).1) (hts _ (am_lays _ (List.mem_of_getElem? (i := 7) rfl : ("jdk/internal/util/Preconditions", "SIOOBE_FORMATTER", "Ljava/util/function/BiFunction;", Value.ref 1020) ∈ am_gs)).2) (hfl _ am_fsC.2) hA
  obtain ⟨vf, hvf, hvZ⟩ : ∃ vf : Value, (vf = .null ∨ ∃ x, vf = .ref x) ∧ va_Z "jdk/internal/util/Preconditions" "SIOOBE_FORMATTER" "Ljava/util/function/BiFunction;" vf (am_A s.heap.size) s s.heap := by
    rcases hG with g | ⟨t, g⟩
    · exact ⟨_, Or.inl rfl, g⟩
    · exact ⟨_, Or.inr ⟨t, rfl⟩, g⟩
  have hi0 : ∀ i : Nat, i < 1 → i = 0 := fun i h => by omega
  obtain ⟨adK, adV, hS, hSe⟩ := vk_Sof (args := #[Value.ref b]) (s := s) (N := 1) (tm := fun _ => .string "PaperPays$Reader" 118) (len := [am_stn 11]) (byt := [am_stl 11]) (A := am_A s.heap.size) (fun i hi => by rw [hi0 i hi]; decide) (fun i _ => hfl _ am_fsS.1) (fun i _ => hfl _ am_fsS.2.1) (fun i _ => hfl _ am_fsS.2.2.1) (fun i hi => by rw [hi0 i hi]; exact hfl _ am_fsS.2.2.2.1) (fun i hi j hj => by
      rw [hi0 i hi] at hj ⊢
      exact hfl _ (am_fsS.2.2.2.2 j hj)) (fun i j hi hj hne => by omega) hA
  obtain ⟨hS1, -⟩ := hS
  obtain ⟨s1, s2, s3, s4⟩ := hS1 0 (by omega)
  have hSe := hSe 0 (by omega)
  have hR := vk_R.of (hts _ am_sref) hSe
  obtain ⟨tf, htf⟩ : ∃ tf : Nat → Nat, tf 0 = t0 ∧ tf 1 = t1 ∧ tf 2 = t2 ∧ tf 3 = t3 ∧ tf 4 = t4 ∧ tf 5 = t5 ∧ tf 10 = adK 0 ∧ tf 11 = adV 0 ∧ tf 30 = b := ⟨fun n => match n with
    | 0 => t0
    | 1 => t1
    | 2 => t2
    | 3 => t3
    | 4 => t4
    | 5 => t5
    | 10 => adK 0
    | 11 => adV 0
    | _ => b, rfl, rfl, rfl, rfl, rfl, rfl, rfl, rfl, rfl⟩
  obtain ⟨rfl, rfl, rfl, rfl, rfl, rfl, h10, h11, h30⟩ := htf
  have hK : ∀ cI : Nat, ∃ x : ClassId × (Nat → Nat), ∀ q : vw_C, vwCl[cI]? = some q → u_Kn s q.1 q.2.1 q.2.2 x.1 x.2 := by
    intro cI
    cases hq : vwCl[cI]? with
    | none => exact ⟨(default, fun _ => 0), fun q h => by cases h⟩
    | some q =>
      obtain ⟨ty, hcl⟩ := am_cl_all cI q hq
      have h8 : cI < 8 := (List.getElem?_eq_some_iff.mp hq).1
      have hv := am_vw_cn cI q hq
      obtain ⟨cC, iS, hu⟩ := u_known htw hcl.1 (htw _ (by rw [hv.1, hv.2.1]; exact am_insts cI h8) : (Cond.instantiable q.1 q.2.2).before #[Value.ref b] s = true)
      exact ⟨(cC, iS), fun q' h => by cases h; exact hu⟩
  obtain ⟨f, hf⟩ := Classical.skolem.mp hK
  obtain ⟨cI, kI, mI, i1, i2, i3⟩ := Cond.arrayClass_spec (htw _ am_ac_int)
  obtain ⟨cB, kB, mB, b1, b2, b3⟩ := Cond.arrayClass_spec (htw _ am_ac_byte)
  obtain ⟨cZ, kZ, mZ, z1, z2, z3⟩ := Cond.arrayClass_spec (htw _ am_ac_boolean)
  refine ⟨am_spf tf vf, fun n => match n with
    | 0 => cI
    | 1 => cB
    | _ => cZ, (fun c => (f c).1, fun c => (f c).2), am_spf_ok hvf, by show Value.ref (tf 30) = _; rw [h30], hx, hb, hml, hown, htw, ⟨fun c q hq => hf c q hq, fun k q hk => ?_⟩, ⟨fun q hq => ?_, fun n q hn hq => ?_, fun w hw => va_Nw.of ?_ (hts w (am_nw_tbl w hw)), tf 10, tf 11, rfl, rfl, by rw [h10]; exact hR, by rw [h10]; exact s1, by rw [h10]; exact s2, by rw [h10, h11]; exact s3⟩, fun h => absurd h (by decide), by decide, by decide, Nat.le_refl _⟩
  · match k, hk with
    | 0, hk => cases hk; exact ⟨fun n z => ⟨fun k h => (by cases h), kI, i2, mI, i3⟩, i1⟩
    | 1, hk => cases hk; exact ⟨fun n z => ⟨fun k h => (by cases h), kB, b2, mB, b3⟩, b1⟩
    | 2, hk => cases hk; exact ⟨fun n z => ⟨fun k h => (by cases h), kZ, z2, mZ, z3⟩, z1⟩
    | n + 3, hk => simp at hk
  · simp only [am_gs, List.mem_cons, List.not_mem_nil, or_false] at hq
    rcases hq with rfl | rfl | rfl | rfl | rfl | rfl | rfl | rfl
    · exact Z0
    · exact Z1
    · exact Z2
    · exact Z3
    · exact Z4
    · exact Z5
    · exact hC
    · exact hvZ
  · unfold am_old at hq
    split at hq
    · next h =>
      have hn' : n = 1030 := Nat.eq_of_beq_eq_true h
      subst hn'
      cases hq
      refine ⟨tf 30, rfl, ?_⟩
      obtain ⟨scr, x1, x2, x3, x4, x5⟩ := hX
      rw [h30]
      exact ⟨scr, x1, x2, x3, by show L ≤ _; omega, by rw [x4], x5, hA b hbl⟩
    · obtain ⟨i, rfl⟩ : ∃ i, n = 1000 + i := ⟨n - 1000, by omega⟩
      rw [Nat.add_sub_cancel_left] at hq
      match i, hq with
      | 0, hq => cases hq; exact ⟨_, rfl, T0⟩
      | 1, hq => cases hq; exact ⟨_, rfl, T1⟩
      | 2, hq => cases hq; exact ⟨_, rfl, T2⟩
      | 3, hq => cases hq; exact ⟨_, rfl, T3⟩
      | 4, hq => cases hq; exact ⟨_, rfl, T4⟩
      | 5, hq => cases hq; exact ⟨_, rfl, T5⟩
      | 6, hq => cases hq
      | 7, hq => cases hq
      | 8, hq => cases hq
      | 9, hq => cases hq
      | 10, hq => cases hq
      | 11, hq =>
        cases hq
        refine ⟨tf 11, rfl, ?_⟩
        rw [h11]
        exact s4
      | x + 12, hq => simp [am_sta] at hq
  · simp only [am_nw, List.mem_cons, List.not_mem_nil, or_false] at hw
    rcases hw with rfl | rfl | rfl | rfl | rfl | rfl <;> rfl
theorem am_start (l : Launch) (C0 : lw_At p s m meth c b L xs) (hrun : am_Rn (L, xs) 171 (0, am_entry 171 [.ref 1030], [], []) (fun r M => r = some (.int 1) ∧ am_tot M ≤ 88 ∧ am_sl M ≤ 1984)) : W p l e room_1 s m #[Value.ref b] below meth c s.heap [] 0 0 (lw_Z below #[Value.ref b] s) (entryFrame m ([Value.ref b] : List Value).toArray 4) := by
  obtain ⟨sp, cy, D, hsp, h30, hF⟩ := am_world C0
  obtain ⟨hx, hb, hr, hml, hown, hts, hX, hbl, hlocks, hgv⟩ := C0
  obtain ⟨n, r, M, hr1, rfl, hM1, hM2⟩ := hrun
  have hcv : ([Value.ref 1030] : List Value).map (am_cv s.heap.size sp) = [Value.ref b] := by
    rw [List.map_cons, am_cv_ge (by omega), h30]
    rfl
  rw [lg_entry_eq]
  have hlv := lv_entry ([Value.ref b]) (n := 4) (Nat.le_of_ble_eq_true rfl)
  have hq := (am_snd (sp := sp) (z0 := s.heap.size) (cy := cy) (D := D) (l := l) hsp n 171 _ _ M hr1).2 (n0 := 0) (m0 := 0) (e := e) (below := below) (Q := lw_Z below #[Value.ref b] s) hF rfl ⟨by show _ ≤ 0 + 88; omega, by show _ ≤ 0 + 1984; omega⟩ (fun j ls st P hrt hP => ?_) s.heap [] _ 0 0 ⟨rfl, fun k q h => by simp [am_cm] at h, ⟨fun i j p q h => by simp [am_cm] at h, fun k q h => by simp [am_cm] at h⟩, va_S.rf⟩ rfl rfl ⟨rfl, hlv.1, hlv.2.1, fun i v hi => ?_⟩
  · exact hq
  · intro H locs lsv cells slots hW hc hs hl
    dsimp only at hW hc hs hl ⊢
    unfold am_rtn at hrt
    dsimp only at hrt
    split at hrt
    · cases hrt
    · next pc ins a b' c' kd lk zz he =>
      have hbb := am_ok he
      have hpc : am_pc 171 j = pc := by unfold am_pc; rw [he]
      rw [hpc]
      split at hrt
      · split at hrt
        · next x =>
          cases hrt
          dsimp only [am_okb] at hbb
          obtain ⟨h1, -⟩ := Bool.and_eq_true_iff.mp hbb
          have hd := of_decide_eq_true h1
          refine va_forget (fun q hq => hW.2.2.2.2.2 q hq) ?_
          refine W.widen (k := 88) (n := 1984) (by omega) (by omega) ?_
          exact lw_ret hx hb hr hlocks hd
        · cases hrt
      · split at hrt <;> cases hrt
      · split at hrt <;> cases hrt
      · split at hrt <;> cases hrt
      · cases hrt
  · have hi0 : i = 0 := by
      cases i with
      | zero => rfl
      | succ i =>
        exfalso
        match i, hi with
        | 0, hi => cases hi
        | 1, hi => cases hi
        | 2, hi => cases hi
        | x + 3, hi => cases hi
    subst hi0
    cases hi
    rw [am_cv_ge (by omega), h30]
    exact hlv.2.2 (0, .ref b) (by simp [lv_args])
end

/-! ===== soundness: calls ===== -/
section
variable {sc : am_Sc} {sp : Nat → Value} {z0 : Nat} {cy : Nat → ClassId} {D : va_G} {n0 m0 k : Nat} {p : Program} {l : Launch} {e : Env} {R : Room} {s : State} {m : MethodId} {args : Array Value} {below : List Frame} {meth : Method} {c : Code} {Q : State → Prop}
variable {j pc : Nat} {ls : am_L} {st : List Value} {M M2 : am_M} {H : Heap} {locs : List Loc} {cells slots : Nat}
theorem am_nw_all {P : Cond → Prop} (h : ∀ w ∈ am_nw, P w) : ∀ w ∈ am_nw, P w := h
theorem am_X.go {U : State} (h : am_X sc sp z0 s s.heap) (hW : s.WarmedH U.vm) (hH : ∀ q : Nat, q < s.heap.size → ¬ am_A z0 q → H[q]? = s.heap[q]?) : am_X sc sp z0 U H := by
  obtain ⟨h1, h2, h3, a, t, e1, e2, h4, h5, h6, h7⟩ := h
  refine ⟨fun q hq => ((h1 q hq).moved hW.alike).kept hH, fun n q hn hq => ?_, fun w hw => ?_, a, t, e1, e2, h4.warm hW, (h5.moved hW.alike).kept hH, (h6.moved hW.alike).kept hH, (h7.moved hW.alike).kept hH⟩
  · obtain ⟨x, e3, h8⟩ := h2 n q hn hq
    exact ⟨x, e3, (h8.moved hW.alike).kept hH⟩
  · have h9 := h3 w hw
    simp only [am_nw, List.mem_cons, List.not_mem_nil, or_false] at hw
    rcases hw with rfl | rfl | rfl | rfl | rfl | rfl
    · exact va_Nw.warmF hW h9
    · exact va_Nw.warmF hW h9
    · exact va_Nw.warmF hW h9
    · exact va_Nw.warmM hW h9
    · exact va_Nw.warmM hW h9
    · exact va_Nw.warmM hW h9
theorem am_X.same {U U' : State} (h : am_X sc sp z0 U U.heap) (hv : U'.vm = U.vm) (hh : U'.heap = U.heap) : am_X sc sp z0 U' U'.heap := by
  have ha : U.vm.Alike U'.vm := by rw [hv]; exact Vm.Alike.refl U.vm
  obtain ⟨h1, h2, h3, a, t, e1, e2, h4, h5, h6, h7⟩ := h
  rw [hh]
  refine ⟨fun q hq => (h1 q hq).moved ha, fun n q hn hq => ?_, fun w hw => ?_, a, t, e1, e2, h4.same hv, h5.moved ha, h6.moved ha, h7.moved ha⟩
  · obtain ⟨x, e3, h8⟩ := h2 n q hn hq
    exact ⟨x, e3, h8.moved ha⟩
  · have h9 := h3 w hw
    simp only [am_nw, List.mem_cons, List.not_mem_nil, or_false] at hw
    rcases hw with rfl | rfl | rfl | rfl | rfl | rfl
    · exact va_Nw.same rfl hv.symm h9
    · exact va_Nw.same rfl hv.symm h9
    · exact va_Nw.same rfl hv.symm h9
    · exact va_Nw.same rfl hv.symm h9
    · exact va_Nw.same rfl hv.symm h9
    · exact va_Nw.same rfl hv.symm h9
/-- a contract's start: the world is M -/
def am_B (sc : am_Sc) (sp : Nat → Value) (z0 : Nat) (cy : Nat → ClassId) (D : va_G) (M : am_M) (U : State) : Prop :=
  U.heap.size = z0 + am_tot M ∧ va_P D vwCl (am_cm z0 sp cy 0 M) U.heap ∧ va_K D vwCl (am_tys cy) U ∧ va_D (am_A z0) (am_cm z0 sp cy 0 M) ∧ am_X sc sp z0 U U.heap
/-- a contract's end: r came back, the world is M2 -/
def am_Qc (sp : Nat → Value) (z0 : Nat) (cy : Nat → ClassId) (D : va_G) (r : Option Value) (M2 : am_M) : Array Value → State → Outcome → State → Prop := fun _ st oc t =>
  oc = .returned (r.map (am_cv z0 sp)) ∧ t.heap.size = z0 + am_tot M2 ∧ va_P D vwCl (am_cm z0 sp cy 0 M2) t.heap ∧ va_D (am_A z0) (am_cm z0 sp cy 0 M2) ∧ va_F (am_A z0) st t
def am_wsOf (z : Nat) : List Cond := Cond.code (am_mt z) (am_cd z) (am_ml z) (am_rt z) :: xw_tw
def am_rm (z : Nat) (M M2 : am_M) : Room := { frames := am_fr z, cells := am_tot M2 - am_tot M, slots := am_sl M2 - am_sl M, locals := am_lo z }
/-- the contract of one run of method z -/
def am_Met (l : Launch) (sc : am_Sc) (sp : Nat → Value) (z0 : Nat) (cy : Nat → ClassId) (D : va_G) (z : Nat) (vs : List Value) (M : am_M) (r : Option Value) (M2 : am_M) : Prop :=
  Met l (am_mt z) (am_wsOf z) (am_rm z M M2) (va_Pc (vs.map (am_cv z0 sp)) (am_B sc sp z0 cy D M)) (am_Qc sp z0 cy D r M2) (am_tot M2 - am_tot M) (am_sl M2 - am_sl M) (am_A z0)
theorem am_ran (hF : am_F sc sp z0 cy D k p R s m args meth c) {mc ms : Nat} (hmc : am_tot M + mc = am_tot M2) (hms : am_sl M + ms = am_sl M2) {r : Option Value} {a : Array Value} {lsv : Array Slot} {st0 : List Value} {hW : am_Wd sp z0 cy D M s H locs} (hr : va_Run p l e R s m args below meth c H locs cells slots mc ms (F0 m pc lsv st0) (st.map (am_cv z0 sp)) (am_Qc sp z0 cy D r M2 a) (am_A z0)) (hc : cells + n0 = am_tot M) (hs : slots + m0 = am_sl M) (hl : am_lv sp z0 lsv (am_ml k) ls) (hnx : am_pc k j = pc + 3)
    (kk : am_W sp z0 cy D n0 m0 k p l e R s m args below meth c Q (j, ls, r.toList ++ st, M2)) : W p l e R s m args below meth c H locs cells slots Q (F0 m pc lsv st0) := by
  intro T hT X
  obtain ⟨v, st₀, t, T', L, h0, X', hL, e1, e2, ⟨hv, hsz, hP, hD, hz, hk⟩, stp⟩ := hr T hT X
  cases hv
  rw [h0] at hz hk
  have h := kk T'.heap (locs ++ L) lsv (cells + mc) (slots + ms) ⟨by rw [e1]; exact hsz, by rw [e1]; exact hP, hD, Nat.le_trans hW.2.2.2.1 (by rw [e1]; exact hz), fun q h1 h2 => by
      rw [e1, hk q (Nat.lt_of_lt_of_le h1 hW.2.2.2.1) h2]
      exact hW.2.2.2.2.1 q h1 h2, fun q hq => by
      rcases List.mem_append.mp hq with h | h
      · exact hW.2.2.2.2.2 q h
      · exact hL q h⟩ (by dsimp only; omega) (by dsimp only; omega) hl
  dsimp only at h
  rw [hnx] at h
  have he : (r.toList ++ st).map (am_cv z0 sp) = (r.map (am_cv z0 sp)).toList ++ st.map (am_cv z0 sp) := by cases r <;> rfl
  rw [he] at h
  obtain ⟨t2, a1, b1⟩ := h T' rfl X'
  exact ⟨t2, stp t2 a1, b1⟩
theorem am_blind (vs : List Value) : FrameBlind (va_Pc vs (am_B sc sp z0 cy D M)) := by
  intro a U g mk q
  obtain ⟨q0, q1, q2, q3, q4, q5⟩ := q
  exact ⟨q0, q1, q2, va_K.moved (u := U) (U := U.calling g mk a) (Vm.Alike.refl U.vm) q3, q4, q5.same rfl rfl⟩
theorem am_pre (hF : am_F sc sp z0 cy D k p R s m args meth c) (hW : am_Wd sp z0 cy D M s H locs) (vs : List Value) : ∀ U : State, U.heap = H → s.WarmedH U.vm → va_Pc vs (am_B sc sp z0 cy D M) vs.toArray U := by
  intro U hU hWm
  refine ⟨rfl, by rw [hU]; exact hW.1, by rw [hU]; exact hW.2.1, va_K.moved hWm.alike hF.2.2.2.2.2.1, hW.2.2.1, ?_⟩
  rw [hU]
  exact hF.2.2.2.2.2.2.1.go hWm hW.2.2.2.2.1
/-- what the tables say of a method z of n values (with the receiver) -/
def am_Lz (z : Nat) : Prop := Cond.code (am_mt z) (am_cd z) (am_ml z) (am_rt z) ∈ xw_tw ∧ Cond.initialized (am_mt z).cls ∈ xw_tw ∧ (am_mt z).cls ≠ "java/lang/invoke/MethodHandle" ∧ (am_mt z).cls ≠ "java/lang/invoke/VarHandle"
theorem am_tw_good : GoodIn xw_tw xw_tw := fun w h => ⟨h, good_of_word (List.mem_filter.mp h).2⟩
theorem am_goodOf {ws : List Cond} (h : ∀ w ∈ ws, w ∈ xw_tw) : GoodIn xw_tw ws := fun w hw => am_tw_good w (h w hw)
theorem am_wsOf_good {z : Nat} (h : am_Lz z) : GoodIn xw_tw (am_wsOf z) := am_goodOf (fun w hw => by
  rcases List.mem_cons.mp hw with rfl | hw
  · exact h.1
  · exact hw)
theorem am_split {vs : List Value} {n : Nat} (hn : n ≤ st.length) (hvs : vs = (st.take n).reverse) : st.map (am_cv z0 sp) = (vs.map (am_cv z0 sp)).reverse ++ (st.drop n).map (am_cv z0 sp) := by
  subst hvs
  rw [← List.map_reverse, List.reverse_reverse, ← List.map_append, List.take_append_drop]
theorem am_s_callS (hF : am_F sc sp z0 cy D k p R s m args meth c) (hsp : ∀ n, sp n = .null ∨ ∃ t, sp n = .ref t) {i z n : Nat} {r : Option Value} (hL : am_Lz z) (hl2 : Cond.methodLink (am_cn (am_ow k)) i (am_mt z) ∈ xw_tw ∧ Cond.static (am_mt z) ∈ xw_tw ∧ (parseMethodDescriptor (am_mt z).desc).map (fun d => d.parameters.length) = some n) (hr : am_fr z + 1 ≤ am_fr k ∧ 8 + (am_ml z + 11) + am_lo z ≤ am_lo k) (hle : am_tot M ≤ am_tot M2 ∧ am_sl M ≤ am_sl M2) (hlim : am_tot M2 ≤ n0 + R.cells ∧ am_sl M2 ≤ m0 + R.slots) (hn : n ≤ st.length) (h8 : am_cats (st.drop n) ≤ 8) (hM : am_Met l sc sp z0 cy D z (st.take n).reverse M r M2) (hdg : decode (am_cd k) pc = .ok (.invokestatic i, 3)) (hpc : am_pc k j = pc) (hnx : am_pc k (j + 1) = pc + 3)
    (kk : am_W sp z0 cy D n0 m0 k p l e R s m args below meth c Q (j + 1, ls, r.toList ++ st.drop n, M2)) : am_W sp z0 cy D n0 m0 k p l e R s m args below meth c Q (j, ls, st, M) := fun H locs lsv cells slots hW hc hs hl => by
  dsimp only at hW hc hs hl ⊢
  have hf := hF.2.2.2.2.2.2.2.2.1
  have ho := hF.2.2.2.2.2.2.2.2.2.1
  rw [hpc, am_split (z0 := z0) (sp := sp) hn rfl]
  have hrun := va_runS (locs := locs) (cells := cells) (slots := slots) (e := e) (below := below) (meth := meth) ⟨hF.1, hF.2.1, hF.2.2.1, hF.2.2.2.1, hF.2.2.2.2.1⟩ hM
    (va_cwS (R := R) (own := am_cn (am_ow k)) (index := i) n hF.2.2.2.2.1 (am_goodOf (fun w hw => by
      unfold va_wsS at hw
      rcases List.mem_append.mp hw with hw | hw
      · simp only [List.mem_cons, List.not_mem_nil, or_false] at hw
        rcases hw with rfl | rfl | rfl
        · exact hl2.1
        · exact hl2.2.1
        · exact hL.2.1
      · exact (am_wsOf_good hL w hw).1)) rfl rfl rfl ⟨hL.2.2.1, hL.2.2.2, hl2.2.2⟩ ⟨by show am_fr z + 1 ≤ _; omega, by show 8 + (am_ml z + 11) + am_lo z ≤ _; omega⟩)
    (As := (st.take n).reverse.map (am_cv z0 sp)) (rest := (st.drop n).map (am_cv z0 sp)) ⟨am_blind _, am_pre hF hW _⟩
    (g := F0 m pc lsv (((st.take n).reverse.map (am_cv z0 sp)).reverse ++ (st.drop n).map (am_cv z0 sp))) rfl (by simp; omega) hl.2.1 rfl (lv_room (by rw [am_cats_map (am_sp_cat hsp)]; exact h8)) hdg ⟨by omega, by omega⟩
  exact am_ran hF (hW := hW) (by omega) (by omega) hrun hc hs hl hnx kk
theorem am_take_succ {n o : Nat} {st : List Value} (h : st[n]? = some (.ref o)) : (st.take (n + 1)).reverse = .ref o :: (st.take n).reverse ∧ n < st.length := by
  obtain ⟨hl, he⟩ := List.getElem?_eq_some_iff.mp h
  rw [List.take_succ_eq_append_getElem hl, he]
  simp [hl]
theorem am_s_callV (hF : am_F sc sp z0 cy D k p R s m args meth c) (hsp : ∀ n, sp n = .null ∨ ∃ t, sp n = .ref t) {i z n a : Nat} {r : Option Value} (hL : am_Lz z) (hl2 : Cond.methodLink (am_cn (am_ow k)) i (am_mt z) ∈ xw_tw ∧ Cond.instanceMethod (am_mt z) ∈ xw_tw ∧ Cond.selects (am_mt z).cls (am_mt z) (am_mt z) ∈ xw_tw ∧ (parseMethodDescriptor (am_mt z).desc).map (fun d => d.parameters.length) = some n) (hcl : (a = 100 ∧ (am_mt z).cls = "java/lang/String") ∨ ∃ q, vwCl[a]? = some q ∧ q.1 = (am_mt z).cls ∧ ¬ a = 100) (hr : am_fr z + 1 ≤ am_fr k ∧ 8 + (am_ml z + 11) + am_lo z ≤ am_lo k) (hle : am_tot M ≤ am_tot M2 ∧ am_sl M ≤ am_sl M2) (hlim : am_tot M2 ≤ n0 + R.cells ∧ am_sl M2 ≤ m0 + R.slots) (hrc : am_recv M a n st = true) (h8 : am_cats (st.drop (n + 1)) ≤ 8) (hM : am_Met l sc sp z0 cy D z (st.take (n + 1)).reverse M r M2) (hdg : decode (am_cd k) pc = .ok (.invokevirtual i, 3)) (hpc : am_pc k j = pc) (hnx : am_pc k (j + 1) = pc + 3)
    (kk : am_W sp z0 cy D n0 m0 k p l e R s m args below meth c Q (j + 1, ls, r.toList ++ st.drop (n + 1), M2)) : am_W sp z0 cy D n0 m0 k p l e R s m args below meth c Q (j, ls, st, M) := fun H locs lsv cells slots hW hc hs hl => by
  dsimp only at hW hc hs hl ⊢
  have hf := hF.2.2.2.2.2.2.2.2.1
  have ho := hF.2.2.2.2.2.2.2.2.2.1
  -- the receiver
  have hrec : ∃ (o b : Nat), st[n]? = some (.ref o) ∧ am_cv z0 sp (.ref o) = .ref b ∧ ∃ cellB : Cell, H[b]? = some cellB ∧ cellB.vm.isStatics = false ∧ s.vm.findClass (am_mt z).cls = some cellB.cls := by
    unfold am_recv at hrc
    split at hrc
    · next o hst =>
      rcases hcl with ⟨rfl, h9⟩ | ⟨q, h9, h10, h11⟩
      · have h100 : Nat.beq 100 100 = true := rfl
        rw [h100] at hrc
        dsimp only at hrc
        have : o = 1010 := Nat.eq_of_beq_eq_true hrc
        subst this
        obtain ⟨b, t, e1, e2, hR, hO, -⟩ := hF.2.2.2.2.2.2.1.2.2.2
        obtain ⟨cell, g1, g2, g3, g4⟩ := hO.kept hW.2.2.2.2.1
        exact ⟨1010, b, hst, by rw [am_cv_ge (by omega), e1], cell, g1, g2, by rw [h9]; exact g3⟩
      · have h100 : Nat.beq a 100 = false := by
          cases hb : Nat.beq a 100 with
          | false => rfl
          | true => exact absurd (Nat.eq_of_beq_eq_true hb) h11
        rw [h100] at hrc
        dsimp only at hrc
        split at hrc
        · next ci fs hg =>
          have : ci = a := Nat.eq_of_beq_eq_true hrc
          subst this
          obtain ⟨hn', q0, h1, -⟩ := am_get_at (z0 := z0) (sp := sp) (cy := cy) hg
          have := va_recv hF.2.2.2.2.2.1 hW.2.1 h9 h1
          rw [h10] at this
          exact ⟨o, _, hst, am_cv_lt hn', this⟩
        · cases hrc
    · cases hrc
  obtain ⟨o, b, hst, hb, hcell⟩ := hrec
  obtain ⟨htk, hlt⟩ := am_take_succ hst
  rw [htk] at hM
  unfold am_Met at hM
  rw [List.map_cons, hb] at hM
  rw [hpc, am_split (z0 := z0) (sp := sp) (n := n + 1) (by omega) rfl, htk, List.map_cons, hb, List.reverse_cons, List.append_assoc]
  have hpre := am_pre (sc := sc) hF hW (.ref b :: (st.take n).reverse.map (am_cv z0 sp))
  have hrun := va_runV (locs := locs) (cells := cells) (slots := slots) (e := e) (below := below) (meth := meth) (C := (am_mt z).cls) ⟨hF.1, hF.2.1, hF.2.2.1, hF.2.2.2.1, hF.2.2.2.2.1⟩ hM
    (cwV (R := R) (own := am_cn (am_ow k)) (index := i) n hF.2.2.2.2.1 (am_goodOf (fun w hw => by
      unfold wsV at hw
      rcases List.mem_append.mp hw with hw | hw
      · simp only [List.mem_cons, List.not_mem_nil, or_false] at hw
        rcases hw with rfl | rfl | rfl | rfl
        · exact hl2.1
        · exact hl2.2.1
        · exact hl2.2.2.1
        · exact hL.2.1
      · exact (am_wsOf_good hL w hw).1)) rfl rfl rfl ⟨rfl, hL.2.2.1, hL.2.2.2, hl2.2.2.2⟩ ⟨by show am_fr z + 1 ≤ _; omega, by show 8 + (am_ml z + 11) + am_lo z ≤ _; omega⟩)
    (As := (st.take n).reverse.map (am_cv z0 sp)) (rest := (st.drop (n + 1)).map (am_cv z0 sp)) (b := b) ⟨am_blind _, hcell, hpre⟩
    (g := F0 m pc lsv (((st.take n).reverse.map (am_cv z0 sp)).reverse ++ ([.ref b] ++ (st.drop (n + 1)).map (am_cv z0 sp)))) rfl (by simp; omega) hl.2.1 rfl (lv_room (by rw [am_cats_map (am_sp_cat hsp)]; exact h8)) hdg ⟨by omega, by omega⟩
  exact am_ran hF (hW := hW) (by omega) (by omega) hrun hc hs hl hnx kk
theorem am_s_callI (hF : am_F sc sp z0 cy D k p R s m args meth c) (hsp : ∀ n, sp n = .null ∨ ∃ t, sp n = .ref t) {i z n o : Nat} {r : Option Value} (hL : am_Lz z) (hl2 : (Cond.methodLink (am_cn (am_ow k)) i (am_mt z) ∈ xw_tw ∨ ∃ host, Cond.methodLinkNest (am_cn (am_ow k)) i (am_mt z) host ∈ am_nw) ∧ Cond.instanceMethod (am_mt z) ∈ xw_tw ∧ (am_mt z).name = "<init>" ∧ am_rt z = none ∧ (parseMethodDescriptor (am_mt z).desc).map (fun d => d.parameters.length) = some n) (hr : am_fr z + 1 ≤ am_fr k ∧ 8 + (am_ml z + 11) + am_lo z ≤ am_lo k) (hle : am_tot M ≤ am_tot M2 ∧ am_sl M ≤ am_sl M2) (hlim : am_tot M2 ≤ n0 + R.cells ∧ am_sl M2 ≤ m0 + R.slots) (hst : st[n]? = some (.ref o)) (ho : o < 1000) (h8 : am_cats (st.drop (n + 1)) ≤ 8) (hM : am_Met l sc sp z0 cy D z (st.take (n + 1)).reverse M r M2) (hdg : decode (am_cd k) pc = .ok (.invokespecial i, 3)) (hpc : am_pc k j = pc) (hnx : am_pc k (j + 1) = pc + 3)
    (kk : am_W sp z0 cy D n0 m0 k p l e R s m args below meth c Q (j + 1, ls, r.toList ++ st.drop (n + 1), M2)) : am_W sp z0 cy D n0 m0 k p l e R s m args below meth c Q (j, ls, st, M) := fun H locs lsv cells slots hW hc hs hl => by
  dsimp only at hW hc hs hl ⊢
  have hf := hF.2.2.2.2.2.2.2.2.1
  have hlo := hF.2.2.2.2.2.2.2.2.2.1
  have hb : am_cv z0 sp (.ref o) = .ref (am_ad z0 o) := am_cv_lt ho
  obtain ⟨htk, hlt⟩ := am_take_succ hst
  rw [htk] at hM
  unfold am_Met at hM
  rw [List.map_cons, hb] at hM
  rw [hpc, am_split (z0 := z0) (sp := sp) (n := n + 1) (by omega) rfl, htk, List.map_cons, hb, List.reverse_cons, List.append_assoc]
  have hpre := am_pre (sc := sc) hF hW (.ref (am_ad z0 o) :: (st.take n).reverse.map (am_cv z0 sp))
  have hws : am_wsOf z = Cond.code (am_mt z) (am_cd z) (am_ml z) none :: xw_tw := by unfold am_wsOf; rw [hl2.2.2.2.1]
  rcases hl2.1 with g | ⟨host, g⟩
  · have hrun := va_runI (locs := locs) (cells := cells) (slots := slots) (e := e) (below := below) (meth := meth) ⟨hF.1, hF.2.1, hF.2.2.1, hF.2.2.2.1, hF.2.2.2.2.1⟩ hM
      (cwI (R := R) (own := am_cn (am_ow k)) (index := i) n hF.2.2.2.2.1 (am_wsOf_good hL) hws rfl rfl (hF.2.2.2.2.1 _ hL.2.1) (hF.2.2.2.2.1 _ g) (hF.2.2.2.2.1 _ hl2.2.1) hl2.2.2.1 ⟨hL.2.2.1, hL.2.2.2, hl2.2.2.2.2⟩ ⟨by show am_fr z + 1 ≤ _; omega, by show 8 + (am_ml z + 11) + am_lo z ≤ _; omega⟩)
      (As := (st.take n).reverse.map (am_cv z0 sp)) (rest := (st.drop (n + 1)).map (am_cv z0 sp)) (b := am_ad z0 o) ⟨am_blind _, hpre⟩
      (g := F0 m pc lsv (((st.take n).reverse.map (am_cv z0 sp)).reverse ++ ([.ref (am_ad z0 o)] ++ (st.drop (n + 1)).map (am_cv z0 sp)))) rfl (by simp; omega) hl.2.1 rfl (lv_room (by rw [am_cats_map (am_sp_cat hsp)]; exact h8)) hdg ⟨by omega, by omega⟩
    exact am_ran hF (hW := hW) (by omega) (by omega) hrun hc hs hl hnx kk
  · have hrun := va_runIN (locs := locs) (cells := cells) (slots := slots) (e := e) (below := below) (meth := meth) ⟨hF.1, hF.2.1, hF.2.2.1, hF.2.2.2.1, hF.2.2.2.2.1⟩ hM
      ⟨va_cnB (R := R) (own := am_cn (am_ow k)) (index := i) n hF.2.2.2.2.1 (am_wsOf_good hL) hws rfl rfl (hF.2.2.2.2.2.2.1.2.2.1 _ g) (hF.2.2.2.2.1 _ hL.2.1) ⟨hL.2.2.1, hL.2.2.2, hl2.2.2.2.2⟩ ⟨by show am_fr z + 1 ≤ _; omega, by show 8 + (am_ml z + 11) + am_lo z ≤ _; omega⟩, hl2.2.2.1, hF.2.2.2.2.1 _ hl2.2.1⟩
      (As := (st.take n).reverse.map (am_cv z0 sp)) (rest := (st.drop (n + 1)).map (am_cv z0 sp)) (b := am_ad z0 o) ⟨am_blind _, hpre⟩
      (g := F0 m pc lsv (((st.take n).reverse.map (am_cv z0 sp)).reverse ++ ([.ref (am_ad z0 o)] ++ (st.drop (n + 1)).map (am_cv z0 sp)))) rfl (by simp; omega) hl.2.1 rfl (lv_room (by rw [am_cats_map (am_sp_cat hsp)]; exact h8)) hdg ⟨by omega, by omega⟩
    exact am_ran hF (hW := hW) (by omega) (by omega) hrun hc hs hl hnx kk
end

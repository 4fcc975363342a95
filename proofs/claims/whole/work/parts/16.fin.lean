/-! ===== soundness: calls, returns, whole runs ===== -/
theorem am_mt_cls : ∀ z, z < am_mts.length → (am_mt z).cls = am_cn (am_ow z) := by decide +kernel
theorem am_pc0 : ∀ z, z < am_mts.length → am_pc z 0 = 0 := by decide +kernel
theorem am_mt_plain : ∀ z, z < am_mts.length → plainName (am_mt z).cls = true := by decide +kernel
theorem am_zok_static {z : Nat} (h : am_zok z) (h0 : (am_pl z).1 = 0) : Cond.static (am_mt z) ∈ xw_tw := by
  have h1 := h.2.2.2.2
  rw [h0] at h1
  exact xw_in _ h1 rfl
theorem am_zok_inst {z : Nat} (h : am_zok z) (h0 : (am_pl z).1 = 1) : Cond.instanceMethod (am_mt z) ∈ xw_tw ∧ Cond.selects (am_mt z).cls (am_mt z) (am_mt z) ∈ xw_tw := by
  have h1 := h.2.2.2.2
  rw [h0] at h1
  exact ⟨xw_in _ h1.1 rfl, xw_in _ h1.2 rfl⟩
theorem am_zok_init {z : Nat} (h : am_zok z) (h0 : (am_pl z).1 = 2) : Cond.instanceMethod (am_mt z) ∈ xw_tw ∧ (am_mt z).name = "<init>" ∧ am_rt z = none := by
  have h1 := h.2.2.2.2
  rw [h0] at h1
  exact ⟨xw_in _ h1.1 rfl, h1.2⟩
section
variable {sc : am_Sc} {sp : Nat → Value} {z0 : Nat} {cy : Nat → ClassId} {D : va_G} {l : Launch}
def am_CallOk (sc : am_Sc) (sp : Nat → Value) (z0 : Nat) (cy : Nat → ClassId) (D : va_G) (l : Launch) (k : Nat) (C : am_C) (z : Nat) (args : List Value) (C' : am_C) : Prop := C'.2.2.2 = C.2.2.2 ∧ z < am_mts.length ∧ (am_pl z).1 ≠ 9 ∧ (am_exp args).length ≤ am_ml z ∧
  ∀ {r : Option Value} {M2 : am_M}, (am_tot C.2.2.2 ≤ am_tot M2 ∧ am_sl C.2.2.2 ≤ am_sl M2) → am_Met l sc sp z0 cy D z args C.2.2.2 r M2 → ∀ {n0 m0 : Nat} {p : Program} {e : Env} {R : Room} {s : State} {m : MethodId} {args : Array Value} {below : List Frame} {meth : Method} {c : Code} {Q : State → Prop}, am_F sc sp z0 cy D k p R s m args meth c → s.heap.size = z0 + n0 → (am_tot M2 ≤ n0 + R.cells ∧ am_sl M2 ≤ m0 + R.slots) → am_W sp z0 cy D n0 m0 k p l e R s m args below meth c Q (C'.1, C'.2.1, r.toList ++ C'.2.2.1, M2) → am_W sp z0 cy D n0 m0 k p l e R s m args below meth c Q C
theorem am_call_spec {j : Nat} {ls : am_L} {st : List Value} {M : am_M} {z n : Nat} {z' : Nat} {args : List Value} {C' : am_C} (h : am_call (j, ls, st, M) z n st = some (z', args, C')) : z' = z ∧ args = (st.take n).reverse ∧ C' = (j + 1, ls, st.drop n, M) ∧ n ≤ st.length ∧ am_cats (st.drop n) ≤ 8 ∧ (am_exp (st.take n).reverse).length ≤ am_ml z := by
  unfold am_call at h
  dsimp only at h
  split at h
  · next c1 c2 c3 =>
    cases h
    exact ⟨rfl, rfl, rfl, Nat.le_of_ble_eq_true c1, Nat.le_of_ble_eq_true c2, Nat.le_of_ble_eq_true c3⟩
  · cases h
theorem am_initcall (hsp : ∀ n, sp n = .null ∨ ∃ t, sp n = .ref t) {k j pc i a b lk : Nat} {ls : am_L} {st : List Value} {M : am_M} {z : Nat} {args : List Value} {C' : am_C} (hr : am_rcI (b - 1) st = true) (h : am_call (j, ls, st, M) a b st = some (z, args, C')) (hd : decode (am_cd k) pc = .ok (.invokespecial i, 3)) (hpc : am_pc k j = pc) (hn : am_pc k (j + 1) = pc + 3) (g1 : am_mlb lk k i a true = true) (g2 : Nat.blt a 1000 = true) (g3 : am_cal k a b 2 1 = true) : am_CallOk sc sp z0 cy D l k (j, ls, st, M) z args C' := by
  obtain ⟨rfl, rfl, rfl, h1, h2, h3⟩ := am_call_spec h
  obtain ⟨c1, c2, c3, c4, c5⟩ := am_cal_spec g3 (by decide)
  obtain ⟨w1, w2, w3⟩ := am_zok_init c5 c2
  have hL := am_Lz_of c5
  have hb1 : b - 1 = (am_pl z).2.2.2.2.2 := by omega
  rw [hb1] at hr
  unfold am_rcI at hr
  split at hr
  · next o ho =>
    have ho1 : o < 1000 := Nat.le_of_ble_eq_true hr
    refine ⟨rfl, c1, by rw [c2]; decide, h3, fun hle hM => ?_⟩
    intro n0 m0 p e R s m args below meth c Q hF hz hl kk
    dsimp only at kk hle hM ⊢
    subst c3
    refine am_s_callI hF hsp hL ⟨?_, w1, w2, w3, c5.2.2.2.1⟩ c4 hle hl ho ho1 h2 hM hd hpc hn kk
    rcases am_mlb_spec g1 with g | ⟨-, ho, g⟩
    · rw [am_tg_lt g2] at g; exact Or.inl g
    · rw [am_tg_lt g2] at g; exact Or.inr ⟨ho, g⟩
  · cases hr
theorem am_onecall (hsp : ∀ n, sp n = .null ∨ ∃ t, sp n = .ref t) {k j : Nat} {ls : am_L} {st : List Value} {M : am_M} {z : Nat} {args : List Value} {C' : am_C} (h : am_inv (am_tab k) (j, ls, st, M) = some (z, args, C')) : am_CallOk sc sp z0 cy D l k (j, ls, st, M) z args C' := by
  unfold am_inv at h
  dsimp only at h
  split at h
  · cases h
  · next pc ins a b c kd lk zz he =>
    have hb := am_ok he
    have hpc : am_pc k j = pc := by unfold am_pc; rw [he]
    split at h
    · next i =>
      split at h
      · next hr =>
        simp only [am_okb, Bool.and_eq_true, Bool.or_eq_true] at hb
        obtain ⟨hb1, ⟨⟨g1, g2⟩, g3⟩, g4⟩ := hb
        obtain ⟨hd, hn⟩ := am_dn_spec hb1
        obtain ⟨rfl, rfl, rfl, h1, h2, h3⟩ := am_call_spec h
        obtain ⟨c1, c2, c3, c4, c5⟩ := am_cal_spec g3 (by decide)
        obtain ⟨w1, w2⟩ := am_zok_inst c5 c2
        have hL := am_Lz_of c5
        have hb1 : b - 1 = (am_pl z).2.2.2.2.2 := by omega
        rw [hb1] at hr
        refine ⟨rfl, c1, by rw [c2]; decide, h3, fun hle hM => ?_⟩
        intro n0 m0 p e R s m args below meth c' Q hF hz hl kk
        dsimp only at kk hle hM ⊢
        subst c3
        refine am_s_callV hF hsp hL ⟨?_, w1, w2, c5.2.2.2.1⟩ ?_ c4 hle hl hr h2 hM hd hpc hn kk
        · rcases am_mlb_spec g1 with g | ⟨g, -⟩
          · rw [am_tg_lt g2] at g; exact g
          · cases g
        · rcases g4 with ⟨g5, g6⟩ | ⟨g5, g6⟩
          · refine Or.inl ⟨Nat.eq_of_beq_eq_true g5, ?_⟩
            rw [am_mt_cls z c1, Nat.eq_of_beq_eq_true g6]
            rfl
          · have q5 := Nat.eq_of_beq_eq_true g5
            obtain ⟨q, hq⟩ := am_vw_some (Nat.le_of_ble_eq_true g6 : c < 8)
            have gq := am_vw_cn c q hq
            exact Or.inr ⟨q, hq, by rw [gq.1, am_mt_cls z c1, q5], gq.2.2⟩
      · cases h
    · next i =>
      split at h
      · next hr =>
        simp only [am_okb, Bool.and_eq_true] at hb
        obtain ⟨hb1, ⟨g1, g2⟩, g3⟩ := hb
        obtain ⟨hd, hn⟩ := am_dn_spec hb1
        exact am_initcall hsp hr h hd hpc hn g1 g2 g3
      · next hr =>
        simp only [am_okb, Bool.and_eq_true] at hb
        obtain ⟨hb1, ⟨g1, g2⟩, g3⟩ := hb
        obtain ⟨hd, hn⟩ := am_dn_spec hb1
        exact am_initcall hsp hr h hd hpc hn g1 g2 g3
      · cases h
    · next i =>
      split at h
      · simp only [am_okb, Bool.and_eq_true] at hb
        obtain ⟨hb1, ⟨g1, g2⟩, g3⟩ := hb
        obtain ⟨hd, hn⟩ := am_dn_spec hb1
        obtain ⟨rfl, rfl, rfl, h1, h2, h3⟩ := am_call_spec h
        obtain ⟨c1, c2, c3, c4, c5⟩ := am_cal_spec g3 (by decide)
        have hL := am_Lz_of c5
        refine ⟨rfl, c1, by rw [c2]; decide, h3, fun hle hM => ?_⟩
        intro n0 m0 p e R s m args below meth c' Q hF hz hl kk
        dsimp only at kk hle hM ⊢
        rw [Nat.add_zero] at c3
        refine am_s_callS hF hsp hL ⟨?_, am_zok_static c5 c2, by rw [← c3]; exact c5.2.2.2.1⟩ c4 hle hl h1 h2 hM hd hpc hn kk
        rcases am_mlb_spec g1 with g | ⟨g, -⟩
        · rw [am_tg_lt g2] at g; exact g
        · cases g
      · cases h
    · cases h
/-- a method's return gives its contract's end -/
theorem am_oneret (hsp : ∀ n, sp n = .null ∨ ∃ t, sp n = .ref t) {k j : Nat} {ls : am_L} {st : List Value} {M : am_M} {P : Prop} {r : Option Value} (h : am_rtn (am_tab k) (j, ls, st, M) = some (P, r)) (hP : P) {n0 m0 : Nat} {p : Program} {e : Env} {R : Room} {s : State} {m : MethodId} {args : Array Value} {below : List Frame} {meth : Method} {c : Code} (hF : am_F sc sp z0 cy D k p R s m args meth c) (hrt : meth.sig.returnType = am_rt k) (hlocks : meth.locks = false) :
    am_W sp z0 cy D n0 m0 k p l e R s m args below meth c (MQ below (am_Qc sp z0 cy D r M) args s (am_tot M - n0) (am_sl M - m0) (am_A z0)) (j, ls, st, M) := by
  intro H locs lsv cells slots hW hc hs hl
  dsimp only at hW hc hs hl ⊢
  have hcc : am_tot M - n0 = cells := by omega
  have hss : am_sl M - m0 = slots := by omega
  rw [hcc, hss]
  have fin : ∀ v : Option Value, v = r.map (am_cv z0 sp) → ∀ t : State, t.heap = H → s.WarmedH t.vm → am_Qc sp z0 cy D r M args s (.returned v) t := fun v hv t ht _ => by
    subst hv
    exact ⟨rfl, by rw [ht]; exact hW.1, by rw [ht]; exact hW.2.1, hW.2.2.1, hW.2.2.2.F ht⟩
  unfold am_rtn at h
  dsimp only at h
  split at h
  · cases h
  · next pc ins a b c' kd lk zz he =>
    have hb := am_ok he
    have hpc : am_pc k j = pc := by unfold am_pc; rw [he]
    rw [hpc]
    split at h
    · split at h
      · next x =>
        cases h
        dsimp only [am_okb] at hb
        obtain ⟨h1, h2⟩ := Bool.and_eq_true_iff.mp hb
        have hd := of_decide_eq_true h1
        match a, hP, h2 with
        | 0, _, h2 => exact W.iret hF.1 hF.2.1 (hrt.trans (of_decide_eq_true h2)) (fin _ rfl) hW.2.2.2.2.2 hd hlocks
        | 1, hP, h2 => exact W.zret hF.1 hF.2.1 (hrt.trans (of_decide_eq_true h2)) (by rcases hP with q | q <;> rw [q] <;> rfl) (fin _ rfl) hW.2.2.2.2.2 hd hlocks
        | 2, hP, h2 => exact W.zret hF.1 hF.2.1 (hrt.trans (of_decide_eq_true h2)) hP (fin _ rfl) hW.2.2.2.2.2 hd hlocks
        | x + 3, hP, h2 => exact W.zret hF.1 hF.2.1 (hrt.trans (of_decide_eq_true h2)) hP (fin _ rfl) hW.2.2.2.2.2 hd hlocks
      · cases h
    · split at h
      · next x =>
        cases h
        dsimp only [am_okb] at hb
        obtain ⟨h1, h2⟩ := Bool.and_eq_true_iff.mp hb
        have hd := of_decide_eq_true h1
        exact W.lret hF.1 hF.2.1 (hrt.trans (of_decide_eq_true h2)) (fin _ rfl) hW.2.2.2.2.2 hd hlocks
      · cases h
    · split at h
      · next x =>
        cases h
        dsimp only [am_okb] at hb
        obtain ⟨h1, h2⟩ := Bool.and_eq_true_iff.mp hb
        have hd := of_decide_eq_true h1
        split at h2
        · next C hC => exact W.aret hF.1 hF.2.1 (hrt.trans hC) (Or.inl ⟨_, rfl⟩) (am_cv_ref hsp x) (fin _ rfl) hW.2.2.2.2.2 hd hlocks
        · cases h2
      · cases h
    · split at h
      · cases h
        dsimp only [am_okb] at hb
        obtain ⟨h1, h2⟩ := Bool.and_eq_true_iff.mp hb
        have hd := of_decide_eq_true h1
        exact W.vret hF.1 hF.2.1 (hrt.trans (of_decide_eq_true h2)) (fin _ rfl) hW.2.2.2.2.2 hd hlocks
      · cases h
    · cases h
theorem am_exp_cat (v : Value) (vs : List Value) : am_exp (v :: vs) = if v.category = 2 then some v :: none :: am_exp vs else some v :: am_exp vs := by
  cases v <;> simp [am_exp, Value.category]
theorem am_exp_len (hsp : ∀ n, (sp n).category = 1) (vs : List Value) : (lg_sl (vs.map (am_cv z0 sp))).length = (am_exp vs).length := by
  induction vs with
  | nil => rfl
  | cons v vs ih =>
    rw [am_exp_cat, List.map_cons]
    have hc := am_cv_cat (z0 := z0) hsp v
    by_cases h : v.category = 2
    · rw [if_pos h]
      rw [h] at hc
      simp only [lg_sl, List.flatMap_cons, hc, List.length_append] at ih ⊢
      simp [ih]
      omega
    · rw [if_neg h]
      have hc2 : ¬ (am_cv z0 sp v).category = 2 := by rw [hc]; exact h
      simp only [lg_sl, List.flatMap_cons, if_neg hc2, List.length_append] at ih ⊢
      simp [ih]
      omega
theorem am_args_in (hsp : ∀ n, (sp n).category = 1) : ∀ (vs : List Value) (i n : Nat) (v : Value), (am_exp vs)[n]? = some (some v) → (i + n, am_cv z0 sp v) ∈ lv_args i (vs.map (am_cv z0 sp)) := by
  intro vs
  induction vs with
  | nil => intro i n v h; simp [am_exp] at h
  | cons u vs ih =>
    intro i n v h
    rw [am_exp_cat] at h
    have hc := am_cv_cat (z0 := z0) hsp u
    simp only [List.map_cons, lv_args, List.mem_cons]
    cases n with
    | zero =>
      left
      by_cases h2 : u.category = 2
      · rw [if_pos h2] at h; simp at h; subst h; rfl
      · rw [if_neg h2] at h; simp at h; subst h; rfl
    | succ n =>
      right
      by_cases h2 : u.category = 2
      · rw [if_pos h2] at h
        rw [if_pos (hc.trans h2)]
        cases n with
        | zero => simp at h
        | succ n =>
          have := ih (i + 2) n v (by simpa using h)
          rwa [show i + (n + 1 + 1) = i + 2 + n by omega]
      · rw [if_neg h2] at h
        rw [if_neg (fun q => h2 (hc.symm.trans q))]
        have := ih (i + 1) n v (by simpa using h)
        rwa [show i + (n + 1) = i + 1 + n by omega]
theorem am_snd (hsp : ∀ n, sp n = .null ∨ ∃ t, sp n = .ref t) : ∀ (n k : Nat) (C : am_C) (r : Option Value) (M2 : am_M), am_run sc n k C r M2 → (am_tot C.2.2.2 ≤ am_tot M2 ∧ am_sl C.2.2.2 ≤ am_sl M2) ∧
    ∀ {n0 m0 : Nat} {p : Program} {e : Env} {R : Room} {s : State} {m : MethodId} {args : Array Value} {below : List Frame} {meth : Method} {c : Code} {Q : State → Prop}, am_F sc sp z0 cy D k p R s m args meth c → s.heap.size = z0 + n0 → (am_tot M2 ≤ n0 + R.cells ∧ am_sl M2 ≤ m0 + R.slots) →
      (∀ (j : Nat) (ls : am_L) (st : List Value) (P : Prop), am_rtn (am_tab k) (j, ls, st, M2) = some (P, r) → P → am_W sp z0 cy D n0 m0 k p l e R s m args below meth c Q (j, ls, st, M2)) → am_W sp z0 cy D n0 m0 k p l e R s m args below meth c Q C := by
  intro n
  induction n with
  | zero => intro k C r M2 h; exact h.elim
  | succ n ih =>
    intro k C r M2 h
    obtain ⟨j, ls, st, M⟩ := C
    unfold am_run at h
    rcases h with ⟨P, C', h1, hP, h2⟩ | ⟨z, vs, j2, ls2, st2, M1, r1, M3, h1, h2, h3⟩ | ⟨P, h1, hP, h2⟩
    · obtain ⟨g1, g2⟩ := am_one (sp := sp) (z0 := z0) (cy := cy) (D := D) (l := l) hsp h1 hP
      obtain ⟨g3, g4⟩ := ih k C' r M2 h2
      refine ⟨⟨Nat.le_trans g1.1 g3.1, Nat.le_trans g1.2 g3.2⟩, ?_⟩
      intro n0 m0 p e R s m args below meth c Q hF hz hl hret
      exact g2 hF hz ⟨Nat.le_trans g3.1 hl.1, Nat.le_trans g3.2 hl.2⟩ (g4 hF hz hl hret)
    · obtain ⟨g1, g2, g3, g4, g5⟩ := am_onecall (sc := sc) (sp := sp) (z0 := z0) (cy := cy) (D := D) (l := l) hsp h1
      dsimp only at g1 g5
      subst g1
      obtain ⟨q1, q2⟩ := ih z _ r1 M3 h2
      obtain ⟨q3, q4⟩ := ih k _ r M2 h3
      dsimp only at q1 q3
      refine ⟨⟨Nat.le_trans q1.1 q3.1, Nat.le_trans q1.2 q3.2⟩, ?_⟩
      intro n0 m0 p e R s m args below meth c Q hF hz hl hret
      refine g5 q1 ?_ hF hz ⟨Nat.le_trans q3.1 hl.1, Nat.le_trans q3.2 hl.2⟩ (q4 hF hz hl hret)
      -- the callee's contract
      unfold am_Met
      refine Met.ofW (cc := am_cd z) (maxL := am_ml z) (ret := am_rt z) (am_mt_plain z g2) rfl ?_
      intro p e s m args below meth c s₁ B hml hv
      obtain ⟨rfl, hsz, hWP, hK, hD, hX⟩ := hv
      have hts : ∀ w ∈ xw_tw, w.before _ s = true := fun w hw => atoms_spec (ws := am_wsOf z) B.pre w (List.mem_cons_of_mem _ hw)
      have hcn : s.vm.findClass (am_cn (am_ow z)) = some m.cls := by rw [← am_mt_cls z g2]; exact findClass_of_methodNamed B.named
      have hF2 : am_F sc sp z0 cy D z p (headSpec (am_wsOf z) (am_rm z M1 M3)).room s m (vs.map (am_cv z0 sp)).toArray meth c := ⟨B.exec, B.bytes, hml, hcn, hts, hK, hX, fun hi => by
        rw [(name_of_methodNamed B.named B.method).1]
        exact eq_of_beq hi, Nat.le_refl _, Nat.le_refl _, by omega⟩
      have hle : (am_exp vs).length ≤ am_ml z := g4
      rw [lg_entry_eq]
      have hlv := lv_entry (vs.map (am_cv z0 sp)) (n := am_ml z) (by rw [am_exp_len (am_sp_cat hsp)]; exact hle)
      have hq := q2 (n0 := am_tot M1) (m0 := am_sl M1) (e := e) (below := below) (Q := MQ below (am_Qc sp z0 cy D r1 M3) (vs.map (am_cv z0 sp)).toArray s (am_tot M3 - am_tot M1) (am_sl M3 - am_sl M1) (am_A z0)) hF2 hsz ⟨by show _ ≤ _ + (am_tot M3 - am_tot M1); omega, by show _ ≤ _ + (am_sl M3 - am_sl M1); omega⟩ (fun j ls st P hr hP => am_oneret hsp hr hP hF2 B.returns B.notSynchronized) s.heap [] _ 0 0 ⟨hsz, hWP, hD, Nat.le_refl _, fun _ _ _ => rfl, fun _ h => by cases h⟩ (by dsimp only; omega) (by dsimp only; omega) ⟨by simp only [am_entry, List.length_append, List.length_replicate]; omega, hlv.1, hlv.2.1, fun i v hi => by
        have hi' : (am_exp vs)[i]? = some (some v) := by
          dsimp only at hi
          unfold am_entry at hi
          by_cases hlt : i < (am_exp vs).length
          · rwa [List.getElem?_append_left hlt] at hi
          · rw [List.getElem?_append_right (by omega), List.getElem?_replicate] at hi
            split at hi <;> cases hi
        have := am_args_in (z0 := z0) (am_sp_cat hsp) vs 0 i v hi'
        rw [Nat.zero_add] at this
        exact hlv.2.2 _ this⟩
      dsimp only at hq
      rw [am_pc0 z g2] at hq
      exact hq
    · dsimp only at h2
      subst h2
      refine ⟨⟨Nat.le_refl _, Nat.le_refl _⟩, ?_⟩
      intro n0 m0 p e R s m args below meth c Q hF hz hl hret
      exact hret j ls st P h1 hP
end

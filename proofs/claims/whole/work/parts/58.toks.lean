theorem mm_add (sc : am_Sc) (v : Int64) (c : Int32) (M : am_M) : am_Rn sc 99 (0, am_entry 99 [.long v, .int c], [], M) (fun r M' => r = some (.long (sp_add v c)) ∧ M' = M) := by
  show am_Rn sc 99 (0, [some (.long v), none, some (.int c)], [], _) _
  refine am_Rn.go (t := am_t99) rfl 2 rfl ⟨trivial, trivial, trivial⟩ ?_
  refine am_Rn.br (fun h1 => ?_) (fun h1 => ?_)
  · skip
    refine am_Rn.go (t := am_t99) rfl 2 rfl ⟨trivial, trivial, trivial⟩ ?_
    refine am_Rn.ret (t := am_t99) rfl rfl trivial ?_
    refine ⟨congrArg (fun z => some (Value.long z)) ?_, rfl⟩
    unfold sp_add
    first
      | exact (if_pos (by assumption)).symm
      | exact (if_neg (by assumption)).symm
  · skip
    refine am_Rn.go (t := am_t99) rfl 6 rfl ⟨trivial, trivial, trivial, trivial, trivial, trivial, trivial⟩ ?_
    refine am_Rn.ret (t := am_t99) rfl rfl trivial ?_
    refine ⟨congrArg (fun z => some (Value.long z)) ?_, rfl⟩
    unfold sp_add
    first
      | exact (if_pos (by assumption)).symm
      | exact (if_neg (by assumption)).symm
theorem mm_word (sc : am_Sc) (a b c d e f : Int32) (M : am_M) : am_Rn sc 100 (0, am_entry 100 [.int a, .int b, .int c, .int d, .int e, .int f], [], M) (fun r M' => r = some (.long (sp_w6 a b c d e f)) ∧ M' = M) := by
  show am_Rn sc 100 (0, [some (.int a), some (.int b), some (.int c), some (.int d), some (.int e), some (.int f)], [], _) _
  refine am_Rn.go (t := am_t100) rfl 2 rfl ⟨trivial, trivial, trivial⟩ ?_
  refine am_Rn.call (t := am_t100) rfl rfl (mm_add ..) ?_
  rintro _ _ ⟨rfl, rfl⟩
  refine am_Rn.go (t := am_t100) rfl 1 rfl ⟨trivial, trivial⟩ ?_
  refine am_Rn.call (t := am_t100) rfl rfl (mm_add ..) ?_
  rintro _ _ ⟨rfl, rfl⟩
  refine am_Rn.go (t := am_t100) rfl 1 rfl ⟨trivial, trivial⟩ ?_
  refine am_Rn.call (t := am_t100) rfl rfl (mm_add ..) ?_
  rintro _ _ ⟨rfl, rfl⟩
  refine am_Rn.go (t := am_t100) rfl 1 rfl ⟨trivial, trivial⟩ ?_
  refine am_Rn.call (t := am_t100) rfl rfl (mm_add ..) ?_
  rintro _ _ ⟨rfl, rfl⟩
  refine am_Rn.go (t := am_t100) rfl 1 rfl ⟨trivial, trivial⟩ ?_
  refine am_Rn.call (t := am_t100) rfl rfl (mm_add ..) ?_
  rintro _ _ ⟨rfl, rfl⟩
  refine am_Rn.go (t := am_t100) rfl 1 rfl ⟨trivial, trivial⟩ ?_
  refine am_Rn.call (t := am_t100) rfl rfl (mm_add ..) ?_
  rintro _ _ ⟨rfl, rfl⟩
  refine am_Rn.ret (t := am_t100) rfl rfl trivial ?_
  exact ⟨rfl, rfl⟩
theorem mm_wordOf (sc : am_Sc) (v : Int64) (l : Int32) (M : am_M) : am_Rn sc 101 (0, am_entry 101 [.long v, .int l], [], M) (fun r M' => r = some (.int (sp_wordOf v l)) ∧ M' = M) := by
  show am_Rn sc 101 (0, [some (.long v), none, some (.int l), none, none, none], [], _) _
  have L199 : ∀ (a b x : Int32), am_Rn sc 101 (199, [some (.long v), none, some (.int l), some (.int a), some (.int b), none], [.int x], M) (fun r M' => r = some (.int (if a = -9 then (if b = -9 then x else b) else a)) ∧ M' = M) := by
    intro a b x
    refine am_Rn.go (t := am_t101) rfl 4 rfl ⟨trivial, trivial, trivial, trivial, trivial⟩ ?_
    refine am_Rn.br (fun h1 => ?_) (fun h1 => ?_)
    · skip
      have k1 : a = -9 := h1
      rw [if_pos k1]
      refine am_Rn.go (t := am_t101) rfl 3 rfl ⟨trivial, trivial, trivial, trivial⟩ ?_
      refine am_Rn.br (fun h2 => ?_) (fun h2 => ?_)
      · skip
        have k2 : b = -9 := h2
        rw [if_pos k2]
        refine am_Rn.go (t := am_t101) rfl 1 rfl ⟨trivial, trivial⟩ ?_
        refine am_Rn.ret (t := am_t101) rfl rfl trivial ?_
        exact ⟨rfl, rfl⟩
      · skip
        have k2 : ¬ b = -9 := h2
        rw [if_neg k2]
        refine am_Rn.go (t := am_t101) rfl 2 rfl ⟨trivial, trivial, trivial⟩ ?_
        refine am_Rn.ret (t := am_t101) rfl rfl trivial ?_
        exact ⟨rfl, rfl⟩
    · skip
      have k1 : ¬ a = -9 := h1
      rw [if_neg k1]
      refine am_Rn.go (t := am_t101) rfl 2 rfl ⟨trivial, trivial, trivial⟩ ?_
      refine am_Rn.ret (t := am_t101) rfl rfl trivial ?_
      exact ⟨rfl, rfl⟩
  have L149 : ∀ (a b : Int32), am_Rn sc 101 (149, [some (.long v), none, some (.int l), some (.int a), none, none], [.int b], M) (fun r M' => r = some (.int (if a = -9 then (if b = -9 then sp_f3 v else b) else a)) ∧ M' = M) := by
    intro a b
    refine am_Rn.go (t := am_t101) rfl 8 rfl ⟨trivial, trivial, trivial, trivial, trivial, trivial, trivial, trivial, trivial⟩ ?_
    refine am_Rn.call (t := am_t101) rfl rfl (mm_word ..) ?_
    rintro _ _ ⟨rfl, rfl⟩
    refine am_Rn.go (t := am_t101) rfl 2 rfl ⟨trivial, trivial, trivial⟩ ?_
    refine am_Rn.br (fun h1 => ?_) (fun h1 => ?_)
    · skip
      have k10 : v = sp_w6 119 111 114 116 104 0 := (lg_cmp_eq _ _).mp h1
      refine am_Rn.go (t := am_t101) rfl 2 rfl ⟨trivial, trivial, trivial⟩ ?_
      first
        | (have e : sp_f3 v = 10 := if_pos k10
           rw [e]; exact L199 a b 10)
        | (have e : sp_f3 v = 11 := (if_neg k10).trans (if_pos k11)
           rw [e]; exact L199 a b 11)
        | (have e : sp_f3 v = 12 := (if_neg k10).trans ((if_neg k11).trans (if_pos k12))
           rw [e]; exact L199 a b 12)
        | (have e : sp_f3 v = 14 := (if_neg k10).trans ((if_neg k11).trans ((if_neg k12).trans (if_pos k14)))
           rw [e]; exact L199 a b 14)
        | (have e : sp_f3 v = -9 := (if_neg k10).trans ((if_neg k11).trans ((if_neg k12).trans (if_neg k14)))
           rw [e]; exact L199 a b (-9))
    · skip
      have k10 : ¬ v = sp_w6 119 111 114 116 104 0 := fun z => h1 ((lg_cmp_eq _ _).mpr z)
      refine am_Rn.go (t := am_t101) rfl 7 rfl ⟨trivial, trivial, trivial, trivial, trivial, trivial, trivial, trivial⟩ ?_
      refine am_Rn.call (t := am_t101) rfl rfl (mm_word ..) ?_
      rintro _ _ ⟨rfl, rfl⟩
      refine am_Rn.go (t := am_t101) rfl 2 rfl ⟨trivial, trivial, trivial⟩ ?_
      refine am_Rn.br (fun h2 => ?_) (fun h2 => ?_)
      · skip
        have k11 : v = sp_w6 114 105 115 105 110 103 := (lg_cmp_eq _ _).mp h2
        refine am_Rn.go (t := am_t101) rfl 2 rfl ⟨trivial, trivial, trivial⟩ ?_
        first
          | (have e : sp_f3 v = 10 := if_pos k10
             rw [e]; exact L199 a b 10)
          | (have e : sp_f3 v = 11 := (if_neg k10).trans (if_pos k11)
             rw [e]; exact L199 a b 11)
          | (have e : sp_f3 v = 12 := (if_neg k10).trans ((if_neg k11).trans (if_pos k12))
             rw [e]; exact L199 a b 12)
          | (have e : sp_f3 v = 14 := (if_neg k10).trans ((if_neg k11).trans ((if_neg k12).trans (if_pos k14)))
             rw [e]; exact L199 a b 14)
          | (have e : sp_f3 v = -9 := (if_neg k10).trans ((if_neg k11).trans ((if_neg k12).trans (if_neg k14)))
             rw [e]; exact L199 a b (-9))
      · skip
        have k11 : ¬ v = sp_w6 114 105 115 105 110 103 := fun z => h2 ((lg_cmp_eq _ _).mpr z)
        refine am_Rn.go (t := am_t101) rfl 7 rfl ⟨trivial, trivial, trivial, trivial, trivial, trivial, trivial, trivial⟩ ?_
        refine am_Rn.call (t := am_t101) rfl rfl (mm_word ..) ?_
        rintro _ _ ⟨rfl, rfl⟩
        refine am_Rn.go (t := am_t101) rfl 2 rfl ⟨trivial, trivial, trivial⟩ ?_
        refine am_Rn.br (fun h3 => ?_) (fun h3 => ?_)
        · skip
          have k12 : v = sp_w6 114 105 100 105 110 103 := (lg_cmp_eq _ _).mp h3
          refine am_Rn.go (t := am_t101) rfl 2 rfl ⟨trivial, trivial, trivial⟩ ?_
          first
            | (have e : sp_f3 v = 10 := if_pos k10
               rw [e]; exact L199 a b 10)
            | (have e : sp_f3 v = 11 := (if_neg k10).trans (if_pos k11)
               rw [e]; exact L199 a b 11)
            | (have e : sp_f3 v = 12 := (if_neg k10).trans ((if_neg k11).trans (if_pos k12))
               rw [e]; exact L199 a b 12)
            | (have e : sp_f3 v = 14 := (if_neg k10).trans ((if_neg k11).trans ((if_neg k12).trans (if_pos k14)))
               rw [e]; exact L199 a b 14)
            | (have e : sp_f3 v = -9 := (if_neg k10).trans ((if_neg k11).trans ((if_neg k12).trans (if_neg k14)))
               rw [e]; exact L199 a b (-9))
        · skip
          have k12 : ¬ v = sp_w6 114 105 100 105 110 103 := fun z => h3 ((lg_cmp_eq _ _).mpr z)
          refine am_Rn.go (t := am_t101) rfl 7 rfl ⟨trivial, trivial, trivial, trivial, trivial, trivial, trivial, trivial⟩ ?_
          refine am_Rn.call (t := am_t101) rfl rfl (mm_word ..) ?_
          rintro _ _ ⟨rfl, rfl⟩
          refine am_Rn.go (t := am_t101) rfl 2 rfl ⟨trivial, trivial, trivial⟩ ?_
          refine am_Rn.br (fun h4 => ?_) (fun h4 => ?_)
          · skip
            have k14 : v = sp_w6 102 114 101 115 104 0 := (lg_cmp_eq _ _).mp h4
            refine am_Rn.go (t := am_t101) rfl 2 rfl ⟨trivial, trivial, trivial⟩ ?_
            first
              | (have e : sp_f3 v = 10 := if_pos k10
                 rw [e]; exact L199 a b 10)
              | (have e : sp_f3 v = 11 := (if_neg k10).trans (if_pos k11)
                 rw [e]; exact L199 a b 11)
              | (have e : sp_f3 v = 12 := (if_neg k10).trans ((if_neg k11).trans (if_pos k12))
                 rw [e]; exact L199 a b 12)
              | (have e : sp_f3 v = 14 := (if_neg k10).trans ((if_neg k11).trans ((if_neg k12).trans (if_pos k14)))
                 rw [e]; exact L199 a b 14)
              | (have e : sp_f3 v = -9 := (if_neg k10).trans ((if_neg k11).trans ((if_neg k12).trans (if_neg k14)))
                 rw [e]; exact L199 a b (-9))
          · skip
            have k14 : ¬ v = sp_w6 102 114 101 115 104 0 := fun z => h4 ((lg_cmp_eq _ _).mpr z)
            refine am_Rn.go (t := am_t101) rfl 1 rfl ⟨trivial, trivial⟩ ?_
            first
              | (have e : sp_f3 v = 10 := if_pos k10
                 rw [e]; exact L199 a b 10)
              | (have e : sp_f3 v = 11 := (if_neg k10).trans (if_pos k11)
                 rw [e]; exact L199 a b 11)
              | (have e : sp_f3 v = 12 := (if_neg k10).trans ((if_neg k11).trans (if_pos k12))
                 rw [e]; exact L199 a b 12)
              | (have e : sp_f3 v = 14 := (if_neg k10).trans ((if_neg k11).trans ((if_neg k12).trans (if_pos k14)))
                 rw [e]; exact L199 a b 14)
              | (have e : sp_f3 v = -9 := (if_neg k10).trans ((if_neg k11).trans ((if_neg k12).trans (if_neg k14)))
                 rw [e]; exact L199 a b (-9))
  have L87 : ∀ (a : Int32), am_Rn sc 101 (87, [some (.long v), none, some (.int l), none, none, none], [.int a], M) (fun r M' => r = some (.int (if a = -9 then (if sp_f2 v = -9 then sp_f3 v else sp_f2 v) else a)) ∧ M' = M) := by
    intro a
    refine am_Rn.go (t := am_t101) rfl 8 rfl ⟨trivial, trivial, trivial, trivial, trivial, trivial, trivial, trivial, trivial⟩ ?_
    refine am_Rn.call (t := am_t101) rfl rfl (mm_word ..) ?_
    rintro _ _ ⟨rfl, rfl⟩
    refine am_Rn.go (t := am_t101) rfl 2 rfl ⟨trivial, trivial, trivial⟩ ?_
    refine am_Rn.br (fun h1 => ?_) (fun h1 => ?_)
    · skip
      have k5 : v = sp_w6 115 104 111 114 116 0 := (lg_cmp_eq _ _).mp h1
      refine am_Rn.go (t := am_t101) rfl 2 rfl ⟨trivial, trivial, trivial⟩ ?_
      first
        | (have e : sp_f2 v = 5 := if_pos k5
           rw [e]; exact L149 a 5)
        | (have e : sp_f2 v = 6 := (if_neg k5).trans (if_pos k6)
           rw [e]; exact L149 a 6)
        | (have e : sp_f2 v = 7 := (if_neg k5).trans ((if_neg k6).trans (if_pos k7))
           rw [e]; exact L149 a 7)
        | (have e : sp_f2 v = 8 := (if_neg k5).trans ((if_neg k6).trans ((if_neg k7).trans (if_pos k8)))
           rw [e]; exact L149 a 8)
        | (have e : sp_f2 v = 9 := (if_neg k5).trans ((if_neg k6).trans ((if_neg k7).trans ((if_neg k8).trans (if_pos k9))))
           rw [e]; exact L149 a 9)
        | (have e : sp_f2 v = -9 := (if_neg k5).trans ((if_neg k6).trans ((if_neg k7).trans ((if_neg k8).trans (if_neg k9))))
           rw [e]; exact L149 a (-9))
    · skip
      have k5 : ¬ v = sp_w6 115 104 111 114 116 0 := fun z => h1 ((lg_cmp_eq _ _).mpr z)
      refine am_Rn.go (t := am_t101) rfl 7 rfl ⟨trivial, trivial, trivial, trivial, trivial, trivial, trivial, trivial⟩ ?_
      refine am_Rn.call (t := am_t101) rfl rfl (mm_word ..) ?_
      rintro _ _ ⟨rfl, rfl⟩
      refine am_Rn.go (t := am_t101) rfl 2 rfl ⟨trivial, trivial, trivial⟩ ?_
      refine am_Rn.br (fun h2 => ?_) (fun h2 => ?_)
      · skip
        have k6 : v = sp_w6 108 105 100 0 0 0 := (lg_cmp_eq _ _).mp h2
        refine am_Rn.go (t := am_t101) rfl 2 rfl ⟨trivial, trivial, trivial⟩ ?_
        first
          | (have e : sp_f2 v = 5 := if_pos k5
             rw [e]; exact L149 a 5)
          | (have e : sp_f2 v = 6 := (if_neg k5).trans (if_pos k6)
             rw [e]; exact L149 a 6)
          | (have e : sp_f2 v = 7 := (if_neg k5).trans ((if_neg k6).trans (if_pos k7))
             rw [e]; exact L149 a 7)
          | (have e : sp_f2 v = 8 := (if_neg k5).trans ((if_neg k6).trans ((if_neg k7).trans (if_pos k8)))
             rw [e]; exact L149 a 8)
          | (have e : sp_f2 v = 9 := (if_neg k5).trans ((if_neg k6).trans ((if_neg k7).trans ((if_neg k8).trans (if_pos k9))))
             rw [e]; exact L149 a 9)
          | (have e : sp_f2 v = -9 := (if_neg k5).trans ((if_neg k6).trans ((if_neg k7).trans ((if_neg k8).trans (if_neg k9))))
             rw [e]; exact L149 a (-9))
      · skip
        have k6 : ¬ v = sp_w6 108 105 100 0 0 0 := fun z => h2 ((lg_cmp_eq _ _).mpr z)
        refine am_Rn.go (t := am_t101) rfl 7 rfl ⟨trivial, trivial, trivial, trivial, trivial, trivial, trivial, trivial⟩ ?_
        refine am_Rn.call (t := am_t101) rfl rfl (mm_word ..) ?_
        rintro _ _ ⟨rfl, rfl⟩
        refine am_Rn.go (t := am_t101) rfl 2 rfl ⟨trivial, trivial, trivial⟩ ?_
        refine am_Rn.br (fun h3 => ?_) (fun h3 => ?_)
        · skip
          have k7 : v = sp_w6 102 101 101 0 0 0 := (lg_cmp_eq _ _).mp h3
          refine am_Rn.go (t := am_t101) rfl 2 rfl ⟨trivial, trivial, trivial⟩ ?_
          first
            | (have e : sp_f2 v = 5 := if_pos k5
               rw [e]; exact L149 a 5)
            | (have e : sp_f2 v = 6 := (if_neg k5).trans (if_pos k6)
               rw [e]; exact L149 a 6)
            | (have e : sp_f2 v = 7 := (if_neg k5).trans ((if_neg k6).trans (if_pos k7))
               rw [e]; exact L149 a 7)
            | (have e : sp_f2 v = 8 := (if_neg k5).trans ((if_neg k6).trans ((if_neg k7).trans (if_pos k8)))
               rw [e]; exact L149 a 8)
            | (have e : sp_f2 v = 9 := (if_neg k5).trans ((if_neg k6).trans ((if_neg k7).trans ((if_neg k8).trans (if_pos k9))))
               rw [e]; exact L149 a 9)
            | (have e : sp_f2 v = -9 := (if_neg k5).trans ((if_neg k6).trans ((if_neg k7).trans ((if_neg k8).trans (if_neg k9))))
               rw [e]; exact L149 a (-9))
        · skip
          have k7 : ¬ v = sp_w6 102 101 101 0 0 0 := fun z => h3 ((lg_cmp_eq _ _).mpr z)
          refine am_Rn.go (t := am_t101) rfl 7 rfl ⟨trivial, trivial, trivial, trivial, trivial, trivial, trivial, trivial⟩ ?_
          refine am_Rn.call (t := am_t101) rfl rfl (mm_word ..) ?_
          rintro _ _ ⟨rfl, rfl⟩
          refine am_Rn.go (t := am_t101) rfl 2 rfl ⟨trivial, trivial, trivial⟩ ?_
          refine am_Rn.br (fun h4 => ?_) (fun h4 => ?_)
          · skip
            have k8 : v = sp_w6 115 97 108 101 115 0 := (lg_cmp_eq _ _).mp h4
            refine am_Rn.go (t := am_t101) rfl 2 rfl ⟨trivial, trivial, trivial⟩ ?_
            first
              | (have e : sp_f2 v = 5 := if_pos k5
                 rw [e]; exact L149 a 5)
              | (have e : sp_f2 v = 6 := (if_neg k5).trans (if_pos k6)
                 rw [e]; exact L149 a 6)
              | (have e : sp_f2 v = 7 := (if_neg k5).trans ((if_neg k6).trans (if_pos k7))
                 rw [e]; exact L149 a 7)
              | (have e : sp_f2 v = 8 := (if_neg k5).trans ((if_neg k6).trans ((if_neg k7).trans (if_pos k8)))
                 rw [e]; exact L149 a 8)
              | (have e : sp_f2 v = 9 := (if_neg k5).trans ((if_neg k6).trans ((if_neg k7).trans ((if_neg k8).trans (if_pos k9))))
                 rw [e]; exact L149 a 9)
              | (have e : sp_f2 v = -9 := (if_neg k5).trans ((if_neg k6).trans ((if_neg k7).trans ((if_neg k8).trans (if_neg k9))))
                 rw [e]; exact L149 a (-9))
          · skip
            have k8 : ¬ v = sp_w6 115 97 108 101 115 0 := fun z => h4 ((lg_cmp_eq _ _).mpr z)
            refine am_Rn.go (t := am_t101) rfl 7 rfl ⟨trivial, trivial, trivial, trivial, trivial, trivial, trivial, trivial⟩ ?_
            refine am_Rn.call (t := am_t101) rfl rfl (mm_word ..) ?_
            rintro _ _ ⟨rfl, rfl⟩
            refine am_Rn.go (t := am_t101) rfl 2 rfl ⟨trivial, trivial, trivial⟩ ?_
            refine am_Rn.br (fun h5 => ?_) (fun h5 => ?_)
            · skip
              have k9 : v = sp_w6 112 101 114 115 111 110 := (lg_cmp_eq _ _).mp h5
              refine am_Rn.go (t := am_t101) rfl 2 rfl ⟨trivial, trivial, trivial⟩ ?_
              first
                | (have e : sp_f2 v = 5 := if_pos k5
                   rw [e]; exact L149 a 5)
                | (have e : sp_f2 v = 6 := (if_neg k5).trans (if_pos k6)
                   rw [e]; exact L149 a 6)
                | (have e : sp_f2 v = 7 := (if_neg k5).trans ((if_neg k6).trans (if_pos k7))
                   rw [e]; exact L149 a 7)
                | (have e : sp_f2 v = 8 := (if_neg k5).trans ((if_neg k6).trans ((if_neg k7).trans (if_pos k8)))
                   rw [e]; exact L149 a 8)
                | (have e : sp_f2 v = 9 := (if_neg k5).trans ((if_neg k6).trans ((if_neg k7).trans ((if_neg k8).trans (if_pos k9))))
                   rw [e]; exact L149 a 9)
                | (have e : sp_f2 v = -9 := (if_neg k5).trans ((if_neg k6).trans ((if_neg k7).trans ((if_neg k8).trans (if_neg k9))))
                   rw [e]; exact L149 a (-9))
            · skip
              have k9 : ¬ v = sp_w6 112 101 114 115 111 110 := fun z => h5 ((lg_cmp_eq _ _).mpr z)
              refine am_Rn.go (t := am_t101) rfl 1 rfl ⟨trivial, trivial⟩ ?_
              first
                | (have e : sp_f2 v = 5 := if_pos k5
                   rw [e]; exact L149 a 5)
                | (have e : sp_f2 v = 6 := (if_neg k5).trans (if_pos k6)
                   rw [e]; exact L149 a 6)
                | (have e : sp_f2 v = 7 := (if_neg k5).trans ((if_neg k6).trans (if_pos k7))
                   rw [e]; exact L149 a 7)
                | (have e : sp_f2 v = 8 := (if_neg k5).trans ((if_neg k6).trans ((if_neg k7).trans (if_pos k8)))
                   rw [e]; exact L149 a 8)
                | (have e : sp_f2 v = 9 := (if_neg k5).trans ((if_neg k6).trans ((if_neg k7).trans ((if_neg k8).trans (if_pos k9))))
                   rw [e]; exact L149 a 9)
                | (have e : sp_f2 v = -9 := (if_neg k5).trans ((if_neg k6).trans ((if_neg k7).trans ((if_neg k8).trans (if_neg k9))))
                   rw [e]; exact L149 a (-9))
  refine am_Rn.go (t := am_t101) rfl 3 rfl ⟨trivial, trivial, trivial, trivial⟩ ?_
  refine am_Rn.br (fun h1 => ?_) (fun h1 => ?_)
  · skip
    have h8 : l = 8 := h1
    refine am_Rn.go (t := am_t101) rfl 7 rfl ⟨trivial, trivial, trivial, trivial, trivial, trivial, trivial, trivial⟩ ?_
    refine am_Rn.call (t := am_t101) rfl rfl (mm_word ..) ?_
    rintro _ _ ⟨rfl, rfl⟩
    refine am_Rn.go (t := am_t101) rfl 1 rfl ⟨trivial, trivial⟩ ?_
    refine am_Rn.call (t := am_t101) rfl rfl (mm_add ..) ?_
    rintro _ _ ⟨rfl, rfl⟩
    refine am_Rn.go (t := am_t101) rfl 1 rfl ⟨trivial, trivial⟩ ?_
    refine am_Rn.call (t := am_t101) rfl rfl (mm_add ..) ?_
    rintro _ _ ⟨rfl, rfl⟩
    refine am_Rn.go (t := am_t101) rfl 2 rfl ⟨trivial, trivial, trivial⟩ ?_
    refine am_Rn.br (fun h2 => ?_) (fun h2 => ?_)
    · skip
      have k13 : v = sp_add (sp_add (sp_w6 109 105 115 116 97 107) 101) 110 := (lg_cmp_eq _ _).mp h2
      refine am_Rn.go (t := am_t101) rfl 2 rfl ⟨trivial, trivial, trivial⟩ ?_
      refine am_Rn.ret (t := am_t101) rfl rfl trivial ?_
      refine ⟨congrArg (fun z => some (Value.int z)) ?_, rfl⟩
      first
        | exact ((if_pos h8).trans (if_pos k13)).symm
        | exact ((if_pos h8).trans (if_neg k13)).symm
        | exact ((if_neg h8).trans (if_pos h6)).symm
    · skip
      have k13 : ¬ v = sp_add (sp_add (sp_w6 109 105 115 116 97 107) 101) 110 := fun z => h2 ((lg_cmp_eq _ _).mpr z)
      refine am_Rn.go (t := am_t101) rfl 1 rfl ⟨trivial, trivial⟩ ?_
      refine am_Rn.ret (t := am_t101) rfl rfl trivial ?_
      refine ⟨congrArg (fun z => some (Value.int z)) ?_, rfl⟩
      first
        | exact ((if_pos h8).trans (if_pos k13)).symm
        | exact ((if_pos h8).trans (if_neg k13)).symm
        | exact ((if_neg h8).trans (if_pos h6)).symm
  · skip
    have h8 : ¬ l = 8 := h1
    refine am_Rn.go (t := am_t101) rfl 3 rfl ⟨trivial, trivial, trivial, trivial⟩ ?_
    refine am_Rn.br (fun h3 => ?_) (fun h3 => ?_)
    · skip
      have h6 : ¬ 6 < l := Int32.not_lt.mpr h3
      have e0 : sp_wordOf v l = sp_f123 v := (if_neg h8).trans (if_neg h6)
      rw [e0]
      unfold sp_f123
      refine am_Rn.go (t := am_t101) rfl 7 rfl ⟨trivial, trivial, trivial, trivial, trivial, trivial, trivial, trivial⟩ ?_
      refine am_Rn.call (t := am_t101) rfl rfl (mm_word ..) ?_
      rintro _ _ ⟨rfl, rfl⟩
      refine am_Rn.go (t := am_t101) rfl 2 rfl ⟨trivial, trivial, trivial⟩ ?_
      refine am_Rn.br (fun h4 => ?_) (fun h4 => ?_)
      · skip
        have k0 : v = sp_w6 114 111 117 110 100 115 := (lg_cmp_eq _ _).mp h4
        refine am_Rn.go (t := am_t101) rfl 2 rfl ⟨trivial, trivial, trivial⟩ ?_
        first
          | (have e : sp_f1 v = 0 := if_pos k0
             rw [e]; exact L87 0)
          | (have e : sp_f1 v = 1 := (if_neg k0).trans (if_pos k1)
             rw [e]; exact L87 1)
          | (have e : sp_f1 v = 2 := (if_neg k0).trans ((if_neg k1).trans (if_pos k2))
             rw [e]; exact L87 2)
          | (have e : sp_f1 v = 3 := (if_neg k0).trans ((if_neg k1).trans ((if_neg k2).trans (if_pos k3)))
             rw [e]; exact L87 3)
          | (have e : sp_f1 v = 4 := (if_neg k0).trans ((if_neg k1).trans ((if_neg k2).trans ((if_neg k3).trans (if_pos k4))))
             rw [e]; exact L87 4)
          | (have e : sp_f1 v = -9 := (if_neg k0).trans ((if_neg k1).trans ((if_neg k2).trans ((if_neg k3).trans (if_neg k4))))
             rw [e]; exact L87 (-9))
      · skip
        have k0 : ¬ v = sp_w6 114 111 117 110 100 115 := fun z => h4 ((lg_cmp_eq _ _).mpr z)
        refine am_Rn.go (t := am_t101) rfl 7 rfl ⟨trivial, trivial, trivial, trivial, trivial, trivial, trivial, trivial⟩ ?_
        refine am_Rn.call (t := am_t101) rfl rfl (mm_word ..) ?_
        rintro _ _ ⟨rfl, rfl⟩
        refine am_Rn.go (t := am_t101) rfl 2 rfl ⟨trivial, trivial, trivial⟩ ?_
        refine am_Rn.br (fun h5 => ?_) (fun h5 => ?_)
        · skip
          have k1 : v = sp_w6 112 97 121 115 0 0 := (lg_cmp_eq _ _).mp h5
          refine am_Rn.go (t := am_t101) rfl 2 rfl ⟨trivial, trivial, trivial⟩ ?_
          first
            | (have e : sp_f1 v = 0 := if_pos k0
               rw [e]; exact L87 0)
            | (have e : sp_f1 v = 1 := (if_neg k0).trans (if_pos k1)
               rw [e]; exact L87 1)
            | (have e : sp_f1 v = 2 := (if_neg k0).trans ((if_neg k1).trans (if_pos k2))
               rw [e]; exact L87 2)
            | (have e : sp_f1 v = 3 := (if_neg k0).trans ((if_neg k1).trans ((if_neg k2).trans (if_pos k3)))
               rw [e]; exact L87 3)
            | (have e : sp_f1 v = 4 := (if_neg k0).trans ((if_neg k1).trans ((if_neg k2).trans ((if_neg k3).trans (if_pos k4))))
               rw [e]; exact L87 4)
            | (have e : sp_f1 v = -9 := (if_neg k0).trans ((if_neg k1).trans ((if_neg k2).trans ((if_neg k3).trans (if_neg k4))))
               rw [e]; exact L87 (-9))
        · skip
          have k1 : ¬ v = sp_w6 112 97 121 115 0 0 := fun z => h5 ((lg_cmp_eq _ _).mpr z)
          refine am_Rn.go (t := am_t101) rfl 7 rfl ⟨trivial, trivial, trivial, trivial, trivial, trivial, trivial, trivial⟩ ?_
          refine am_Rn.call (t := am_t101) rfl rfl (mm_word ..) ?_
          rintro _ _ ⟨rfl, rfl⟩
          refine am_Rn.go (t := am_t101) rfl 2 rfl ⟨trivial, trivial, trivial⟩ ?_
          refine am_Rn.br (fun h6 => ?_) (fun h6 => ?_)
          · skip
            have k2 : v = sp_w6 101 110 100 0 0 0 := (lg_cmp_eq _ _).mp h6
            refine am_Rn.go (t := am_t101) rfl 2 rfl ⟨trivial, trivial, trivial⟩ ?_
            first
              | (have e : sp_f1 v = 0 := if_pos k0
                 rw [e]; exact L87 0)
              | (have e : sp_f1 v = 1 := (if_neg k0).trans (if_pos k1)
                 rw [e]; exact L87 1)
              | (have e : sp_f1 v = 2 := (if_neg k0).trans ((if_neg k1).trans (if_pos k2))
                 rw [e]; exact L87 2)
              | (have e : sp_f1 v = 3 := (if_neg k0).trans ((if_neg k1).trans ((if_neg k2).trans (if_pos k3)))
                 rw [e]; exact L87 3)
              | (have e : sp_f1 v = 4 := (if_neg k0).trans ((if_neg k1).trans ((if_neg k2).trans ((if_neg k3).trans (if_pos k4))))
                 rw [e]; exact L87 4)
              | (have e : sp_f1 v = -9 := (if_neg k0).trans ((if_neg k1).trans ((if_neg k2).trans ((if_neg k3).trans (if_neg k4))))
                 rw [e]; exact L87 (-9))
          · skip
            have k2 : ¬ v = sp_w6 101 110 100 0 0 0 := fun z => h6 ((lg_cmp_eq _ _).mpr z)
            refine am_Rn.go (t := am_t101) rfl 7 rfl ⟨trivial, trivial, trivial, trivial, trivial, trivial, trivial, trivial⟩ ?_
            refine am_Rn.call (t := am_t101) rfl rfl (mm_word ..) ?_
            rintro _ _ ⟨rfl, rfl⟩
            refine am_Rn.go (t := am_t101) rfl 2 rfl ⟨trivial, trivial, trivial⟩ ?_
            refine am_Rn.br (fun h7 => ?_) (fun h7 => ?_)
            · skip
              have k3 : v = sp_w6 115 116 97 114 116 0 := (lg_cmp_eq _ _).mp h7
              refine am_Rn.go (t := am_t101) rfl 2 rfl ⟨trivial, trivial, trivial⟩ ?_
              first
                | (have e : sp_f1 v = 0 := if_pos k0
                   rw [e]; exact L87 0)
                | (have e : sp_f1 v = 1 := (if_neg k0).trans (if_pos k1)
                   rw [e]; exact L87 1)
                | (have e : sp_f1 v = 2 := (if_neg k0).trans ((if_neg k1).trans (if_pos k2))
                   rw [e]; exact L87 2)
                | (have e : sp_f1 v = 3 := (if_neg k0).trans ((if_neg k1).trans ((if_neg k2).trans (if_pos k3)))
                   rw [e]; exact L87 3)
                | (have e : sp_f1 v = 4 := (if_neg k0).trans ((if_neg k1).trans ((if_neg k2).trans ((if_neg k3).trans (if_pos k4))))
                   rw [e]; exact L87 4)
                | (have e : sp_f1 v = -9 := (if_neg k0).trans ((if_neg k1).trans ((if_neg k2).trans ((if_neg k3).trans (if_neg k4))))
                   rw [e]; exact L87 (-9))
            · skip
              have k3 : ¬ v = sp_w6 115 116 97 114 116 0 := fun z => h7 ((lg_cmp_eq _ _).mpr z)
              refine am_Rn.go (t := am_t101) rfl 7 rfl ⟨trivial, trivial, trivial, trivial, trivial, trivial, trivial, trivial⟩ ?_
              refine am_Rn.call (t := am_t101) rfl rfl (mm_word ..) ?_
              rintro _ _ ⟨rfl, rfl⟩
              refine am_Rn.go (t := am_t101) rfl 2 rfl ⟨trivial, trivial, trivial⟩ ?_
              refine am_Rn.br (fun h8 => ?_) (fun h8 => ?_)
              · skip
                have k4 : v = sp_w6 108 101 110 116 0 0 := (lg_cmp_eq _ _).mp h8
                refine am_Rn.go (t := am_t101) rfl 2 rfl ⟨trivial, trivial, trivial⟩ ?_
                first
                  | (have e : sp_f1 v = 0 := if_pos k0
                     rw [e]; exact L87 0)
                  | (have e : sp_f1 v = 1 := (if_neg k0).trans (if_pos k1)
                     rw [e]; exact L87 1)
                  | (have e : sp_f1 v = 2 := (if_neg k0).trans ((if_neg k1).trans (if_pos k2))
                     rw [e]; exact L87 2)
                  | (have e : sp_f1 v = 3 := (if_neg k0).trans ((if_neg k1).trans ((if_neg k2).trans (if_pos k3)))
                     rw [e]; exact L87 3)
                  | (have e : sp_f1 v = 4 := (if_neg k0).trans ((if_neg k1).trans ((if_neg k2).trans ((if_neg k3).trans (if_pos k4))))
                     rw [e]; exact L87 4)
                  | (have e : sp_f1 v = -9 := (if_neg k0).trans ((if_neg k1).trans ((if_neg k2).trans ((if_neg k3).trans (if_neg k4))))
                     rw [e]; exact L87 (-9))
              · skip
                have k4 : ¬ v = sp_w6 108 101 110 116 0 0 := fun z => h8 ((lg_cmp_eq _ _).mpr z)
                refine am_Rn.go (t := am_t101) rfl 1 rfl ⟨trivial, trivial⟩ ?_
                first
                  | (have e : sp_f1 v = 0 := if_pos k0
                     rw [e]; exact L87 0)
                  | (have e : sp_f1 v = 1 := (if_neg k0).trans (if_pos k1)
                     rw [e]; exact L87 1)
                  | (have e : sp_f1 v = 2 := (if_neg k0).trans ((if_neg k1).trans (if_pos k2))
                     rw [e]; exact L87 2)
                  | (have e : sp_f1 v = 3 := (if_neg k0).trans ((if_neg k1).trans ((if_neg k2).trans (if_pos k3)))
                     rw [e]; exact L87 3)
                  | (have e : sp_f1 v = 4 := (if_neg k0).trans ((if_neg k1).trans ((if_neg k2).trans ((if_neg k3).trans (if_pos k4))))
                     rw [e]; exact L87 4)
                  | (have e : sp_f1 v = -9 := (if_neg k0).trans ((if_neg k1).trans ((if_neg k2).trans ((if_neg k3).trans (if_neg k4))))
                     rw [e]; exact L87 (-9))
    · skip
      have h6 : 6 < l := Int32.not_le.mp h3
      refine am_Rn.go (t := am_t101) rfl 1 rfl ⟨trivial, trivial⟩ ?_
      refine am_Rn.ret (t := am_t101) rfl rfl trivial ?_
      refine ⟨congrArg (fun z => some (Value.int z)) ?_, rfl⟩
      first
        | exact ((if_pos h8).trans (if_pos k13)).symm
        | exact ((if_pos h8).trans (if_neg k13)).symm
        | exact ((if_neg h8).trans (if_pos h6)).symm
theorem mm_byteAt (sc : am_Sc) (n : Nat) (hn : n ≤ 400) (i : Nat) (hi : i ≤ 400) (tr : Int64) (nx tk pl va fa dp cm : Int32) (tx nu dn la me tc ts ps : Nat → Int32) (P : Nat) (rd pr pv sa pd lo : Int32) (bo co sh se si er of_ sp ke ik bi bt so nr ou ho cl : Nat → Int32) (B0 B1 B2 B3 B4 B5 B6 B7 B8 B9 B10 B11 B12 : List am_E) (Bs : am_M) : am_Rn sc 98 (0, am_entry 98 [.ref 416, .int (Int32.ofNat i)], [], B0 :: B1 :: B2 :: B3 :: B4 :: B5 :: B6 :: B7 :: B8 :: B9 :: B10 :: B11 :: B12 :: bkModel tr (Int32.ofNat n) nx tk pl va fa (Int32.ofNat P) dp cm tx (mp_ru nu dn) (mp_ps (mp_q la me tc ts) ps) (mp_s rd pr pv sa pd lo bo co sh se si er of_) sp ke ik bi bt so nr ou ho cl :: Bs) (fun r M' => r = some (.int (if i < n then tx i else -1)) ∧ M' = B0 :: B1 :: B2 :: B3 :: B4 :: B5 :: B6 :: B7 :: B8 :: B9 :: B10 :: B11 :: B12 :: bkModel tr (Int32.ofNat n) nx tk pl va fa (Int32.ofNat P) dp cm tx (mp_ru nu dn) (mp_ps (mp_q la me tc ts) ps) (mp_s rd pr pv sa pd lo bo co sh se si er of_) sp ke ik bi bt so nr ou ho cl :: Bs) := by
  show am_Rn sc 98 (0, [some (.ref 416), some (.int (Int32.ofNat i))], [], _) _
  have e1 : (Int32.ofNat i).toNatClampNeg = i := am_tn i (by omega)
  refine am_Rn.go (t := am_t98) rfl 4 rfl ⟨trivial, trivial, trivial, trivial, trivial⟩ ?_
  refine am_Rn.br (fun h1 => ?_) (fun h1 => ?_)
  · skip
    have h3 : n ≤ i := (am_le (by omega) (by omega)).mp h1
    rw [if_neg (show ¬ i < n by omega)]
    refine am_Rn.go (t := am_t98) rfl 1 rfl ⟨trivial, trivial⟩ ?_
    refine am_Rn.ret (t := am_t98) rfl rfl trivial ?_
    refine ⟨congrArg (fun z => some (Value.int z)) ?_, rfl⟩
    first | rfl | exact congrArg tx e1
  · skip
    have h3 : i < n := by
      have q := h1
      rw [am_le (by omega) (by omega)] at q
      omega
    rw [if_pos h3]
    refine am_Rn.go (t := am_t98) rfl 5 rfl ⟨trivial, trivial, trivial, (by exact am_inb_of (by omega) (by omega)), trivial, trivial⟩ ?_
    refine am_Rn.ret (t := am_t98) rfl rfl trivial ?_
    refine ⟨congrArg (fun z => some (Value.int z)) ?_, rfl⟩
    first | rfl | exact congrArg tx e1
theorem mm_isWell (sc : am_Sc) (tr : Int64) (ty nx tk pl va fa dp cm : Int32) (tx nu dn la me tc ts ps : Nat → Int32) (P : Nat) (rd pr pv sa pd lo : Int32) (bo co sh se si er of_ sp ke ik bi bt so nr ou ho cl : Nat → Int32) (B0 B1 B2 B3 B4 B5 B6 B7 B8 B9 B10 B11 B12 : List am_E) (Bs : am_M) : am_Rn sc 103 (0, am_entry 103 [.ref 416], [], B0 :: B1 :: B2 :: B3 :: B4 :: B5 :: B6 :: B7 :: B8 :: B9 :: B10 :: B11 :: B12 :: bkModel tr ty nx tk pl va fa (Int32.ofNat P) dp cm tx (mp_ru nu dn) (mp_ps (mp_q la me tc ts) ps) (mp_s rd pr pv sa pd lo bo co sh se si er of_) sp ke ik bi bt so nr ou ho cl :: Bs) (fun r M' => r = some (.int (am_b (fa < 0))) ∧ M' = B0 :: B1 :: B2 :: B3 :: B4 :: B5 :: B6 :: B7 :: B8 :: B9 :: B10 :: B11 :: B12 :: bkModel tr ty nx tk pl va fa (Int32.ofNat P) dp cm tx (mp_ru nu dn) (mp_ps (mp_q la me tc ts) ps) (mp_s rd pr pv sa pd lo bo co sh se si er of_) sp ke ik bi bt so nr ou ho cl :: Bs) := by
  show am_Rn sc 103 (0, [some (.ref 416)], [], _) _
  refine am_Rn.go (t := am_t103) rfl 3 rfl ⟨trivial, trivial, trivial, trivial⟩ ?_
  refine am_Rn.br (fun h1 => ?_) (fun h1 => ?_)
  · skip
    refine am_Rn.go (t := am_t103) rfl 1 rfl ⟨trivial, trivial⟩ ?_
    refine am_Rn.ret (t := am_t103) rfl rfl (by first | exact Or.inl rfl | exact Or.inr rfl | exact am_b01 _) ?_
    refine ⟨congrArg (fun z => some (Value.int z)) ?_, rfl⟩
    first | exact (am_bT (Int32.not_le.mp (by assumption))).symm | exact (am_bF (Int32.not_lt.mpr (by assumption))).symm
  · skip
    refine am_Rn.go (t := am_t103) rfl 2 rfl ⟨trivial, trivial, trivial⟩ ?_
    refine am_Rn.ret (t := am_t103) rfl rfl (by first | exact Or.inl rfl | exact Or.inr rfl | exact am_b01 _) ?_
    refine ⟨congrArg (fun z => some (Value.int z)) ?_, rfl⟩
    first | exact (am_bT (Int32.not_le.mp (by assumption))).symm | exact (am_bF (Int32.not_lt.mpr (by assumption))).symm

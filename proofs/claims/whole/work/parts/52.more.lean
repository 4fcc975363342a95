def sp_incOne (p : Nat) (f : Nat → Int32) : Nat → Int32 := upd f p (f p + 1)
def sp_zeroOne (p : Nat) (f : Nat → Int32) : Nat → Int32 := upd f p 0
def sp_mark (nu co sh se : Nat → Int32) (rd pr : Int32) (q k : Nat) : Int32 := match k with
  | 0 => co q
  | 1 => co q + sh q * sp_worth nu rd
  | 2 => co q + pr
  | 3 => co q - rd
  | 4 => 2 * co q
  | 5 => co q - rd + se q
  | _ => co q + pr - sh q
def sp_mtr (k : Nat) : Int64 := match k with
  | 0 => 1
  | 1 => 11
  | 2 => 101
  | 3 => 1001
  | 4 => 10001
  | 5 => 101001
  | _ => 1000101
theorem sx_go_F (sc : am_Sc) (v : Int32) (tr : Int64) (Bs : am_M) (hv : ¬ (1 ≤ v ∧ v ≤ 20)) : am_Rn sc 64 (0, am_entry 64 [.ref 0, .int v], [], bkMain tr :: Bs) (fun r M' => r = some (.int (-1)) ∧ M' = bkMain tr :: Bs) := by
  show am_Rn sc 64 (0, [some (.ref 0), some (.int v)], [], _) _
  refine am_Rn.go (t := am_t64) rfl 3 rfl ⟨trivial, trivial, trivial, trivial⟩ ?_
  refine am_Rn.call (t := am_t64) rfl rfl (sx_isWithin ..) ?_
  rintro _ _ ⟨rfl, rfl⟩
  refine am_Rn.go (t := am_t64) rfl 1 rfl ⟨trivial, trivial⟩ ?_
  refine am_Rn.brT (am_b0.mpr hv) ?_
  refine am_Rn.go (t := am_t64) rfl 1 rfl ⟨trivial, trivial⟩ ?_
  refine am_Rn.ret (t := am_t64) rfl rfl trivial ?_
  exact ⟨rfl, rfl⟩
theorem sx_go_S (sc : am_Sc) (v : Int32) (tr : Int64) (nu la me tc ts : Nat → Int32) (P : Nat) (hP : P ≤ 9) (rn : Nat) (pr pv sa pd lo : Int32) (bo co sh se si er of_ bi bt so : Nat → Int32) (B2 B3 : List am_E) (Bs : am_M) (hv : 1 ≤ v ∧ v ≤ 20) (N : Nat) (h0 : nu 0 = Int32.ofNat N) (hN : N ≤ 20) (hr : rn ≤ N) (hov : N ≤ rn) : am_Rn sc 64 (0, am_entry 64 [.ref 0, .int v], [], bkMain tr :: bkRules 32 nu la me tc ts (Int32.ofNat P) :: B2 :: B3 :: bkRoom 128 32 (Int32.ofNat rn) pr pv sa pd lo bo co sh se si er of_ bi bt so :: Bs) (fun r M' => r = some (.int (-2)) ∧ M' = bkMain tr :: bkRules 32 nu la me tc ts (Int32.ofNat P) :: B2 :: B3 :: bkRoom 128 32 (Int32.ofNat rn) pr pv sa pd lo bo co sh se si er of_ bi bt so :: Bs) := by
  show am_Rn sc 64 (0, [some (.ref 0), some (.int v)], [], _) _
  refine am_Rn.go (t := am_t64) rfl 3 rfl ⟨trivial, trivial, trivial, trivial⟩ ?_
  refine am_Rn.call (t := am_t64) rfl rfl (sx_isWithin ..) ?_
  rintro _ _ ⟨rfl, rfl⟩
  refine am_Rn.go (t := am_t64) rfl 1 rfl ⟨trivial, trivial⟩ ?_
  refine am_Rn.brF (fun z => am_b0.mp z hv) ?_
  refine am_Rn.go (t := am_t64) rfl 2 rfl ⟨trivial, trivial, trivial⟩ ?_
  refine am_Rn.call (t := am_t64) rfl rfl (sx_isOver_A ..) ?_
  rintro _ _ ⟨rfl, rfl⟩
  refine am_Rn.go (t := am_t64) rfl 1 rfl ⟨trivial, trivial⟩ ?_
  refine am_Rn.brF (fun z => am_b0.mp z ((am_over h0 hN hr).mpr hov)) ?_
  refine am_Rn.go (t := am_t64) rfl 2 rfl ⟨trivial, trivial, trivial⟩ ?_
  refine am_Rn.ret (t := am_t64) rfl rfl trivial ?_
  exact ⟨rfl, rfl⟩
theorem sx_go_T (sc : am_Sc) (G : Nat) (tr : Int64) (nu la me tc ts : Nat → Int32) (P : Nat) (hP : P ≤ 9) (rn : Nat) (pr pv sa pd lo : Int32) (bo co sh se si er of_ bi bt so : Nat → Int32) (B2 B3 : List am_E) (Bs : am_M) (N S : Nat) (hN : N ≤ 20) (h0 : nu 0 = Int32.ofNat N) (hS : S ≤ 9) (h9 : nu 9 = Int32.ofNat S) (hG1 : 1 ≤ G) (hG : G ≤ 20) (hr : rn ≤ N) (hov : ¬ N ≤ rn) : am_Rn sc 64 (0, am_entry 64 [.ref 0, .int (Int32.ofNat G)], [], bkMain tr :: bkRules 32 nu la me tc ts (Int32.ofNat P) :: B2 :: B3 :: bkRoom 128 32 (Int32.ofNat rn) pr pv sa pd lo bo co sh se si er of_ bi bt so :: Bs) (fun r M' => r = some (.int (Int32.ofNat (sp_play nu la me P N S G rn (Int32.ofNat rn, pr, pv, sa, pd, lo, bo, co, sh, se, si, er, of_, bi, bt, so)).1)) ∧ M' = bkMain tr :: bkRules 32 nu la me tc ts (Int32.ofNat P) :: B2 :: B3 :: bkRoomT 128 32 (sp_play nu la me P N S G rn (Int32.ofNat rn, pr, pv, sa, pd, lo, bo, co, sh, se, si, er, of_, bi, bt, so)).2 :: Bs) := by
  show am_Rn sc 64 (0, [some (.ref 0), some (.int (Int32.ofNat G))], [], _) _
  refine am_Rn.go (t := am_t64) rfl 3 rfl ⟨trivial, trivial, trivial, trivial⟩ ?_
  refine am_Rn.call (t := am_t64) rfl rfl (sx_isWithin ..) ?_
  rintro _ _ ⟨rfl, rfl⟩
  refine am_Rn.go (t := am_t64) rfl 1 rfl ⟨trivial, trivial⟩ ?_
  refine am_Rn.brF (fun z => am_b0.mp z ⟨(am_le (i := 1) (by omega) (by omega)).mpr (by omega), (am_le (j := 20) (by omega) (by omega)).mpr (by omega)⟩) ?_
  refine am_Rn.go (t := am_t64) rfl 2 rfl ⟨trivial, trivial, trivial⟩ ?_
  refine am_Rn.call (t := am_t64) rfl rfl (sx_isOver_A ..) ?_
  rintro _ _ ⟨rfl, rfl⟩
  refine am_Rn.go (t := am_t64) rfl 1 rfl ⟨trivial, trivial⟩ ?_
  refine am_Rn.brT (am_b0.mpr (fun q => hov ((am_over h0 hN hr).mp q))) ?_
  refine am_Rn.go (t := am_t64) rfl 3 rfl ⟨trivial, trivial, trivial, trivial⟩ ?_
  refine am_Rn.call (t := am_t64) rfl rfl (sx_play_A sc G hG nu la me tc ts P hP N S rn hN h0 hS h9 (hrN := hr) ..) ?_
  rintro _ _ ⟨rfl, rfl⟩
  refine am_Rn.ret (t := am_t64) rfl rfl trivial ?_
  exact ⟨rfl, rfl⟩
theorem sx_again_S (sc : am_Sc)  (tr : Int64) (nu la me tc ts : Nat → Int32) (P : Nat) (hP : P ≤ 9) (rn : Nat) (pr pv sa pd lo : Int32) (bo co sh se si er of_ bi bt so : Nat → Int32) (B2 B3 : List am_E) (Bs : am_M) (N : Nat) (h0 : nu 0 = Int32.ofNat N) (hN : N ≤ 20) (hr : rn ≤ N) (hov : ¬ N ≤ rn) : am_Rn sc 69 (0, am_entry 69 [.ref 0], [], bkMain tr :: bkRules 32 nu la me tc ts (Int32.ofNat P) :: B2 :: B3 :: bkRoom 128 32 (Int32.ofNat rn) pr pv sa pd lo bo co sh se si er of_ bi bt so :: Bs) (fun r M' => r = some (.int (-2)) ∧ M' = bkMain tr :: bkRules 32 nu la me tc ts (Int32.ofNat P) :: B2 :: B3 :: bkRoom 128 32 (Int32.ofNat rn) pr pv sa pd lo bo co sh se si er of_ bi bt so :: Bs) := by
  show am_Rn sc 69 (0, [some (.ref 0), none], [], _) _
  refine am_Rn.go (t := am_t69) rfl 2 rfl ⟨trivial, trivial, trivial⟩ ?_
  refine am_Rn.call (t := am_t69) rfl rfl (sx_isOver_A ..) ?_
  rintro _ _ ⟨rfl, rfl⟩
  refine am_Rn.go (t := am_t69) rfl 1 rfl ⟨trivial, trivial⟩ ?_
  refine am_Rn.brT (am_b0.mpr (fun q => hov ((am_over h0 hN hr).mp q))) ?_
  refine am_Rn.go (t := am_t69) rfl 1 rfl ⟨trivial, trivial⟩ ?_
  refine am_Rn.ret (t := am_t69) rfl rfl trivial ?_
  exact ⟨rfl, rfl⟩
theorem sx_again_T (sc : am_Sc)  (tr : Int64) (nu la me tc ts : Nat → Int32) (P : Nat) (hP : P ≤ 9) (rn : Nat) (pr pv sa pd lo : Int32) (bo co sh se si er of_ bi bt so : Nat → Int32) (B2 B3 : List am_E) (Bs : am_M) (N : Nat) (h0 : nu 0 = Int32.ofNat N) (hN : N ≤ 20) (hr : rn ≤ N) (hov : N ≤ rn) : am_Rn sc 69 (0, am_entry 69 [.ref 0], [], bkMain tr :: bkRules 32 nu la me tc ts (Int32.ofNat P) :: B2 :: B3 :: bkRoom 128 32 (Int32.ofNat rn) pr pv sa pd lo bo co sh se si er of_ bi bt so :: Bs) (fun r M' => r = some (.int 1) ∧ M' = bkMain tr :: bkRules 32 nu la me tc ts (Int32.ofNat P) :: B2 :: B3 :: bkRoom 128 32 0 (nu 4) (nu 4) 0 0 lo bo (am_fold 9 (sp_begOne tc ts) (co, sh, si)).1 (am_fold 9 (sp_begOne tc ts) (co, sh, si)).2.1 (am_fold P sp_incOne se) (am_fold 9 (sp_begOne tc ts) (co, sh, si)).2.2 er of_ bi bt so :: Bs) := by
  show am_Rn sc 69 (0, [some (.ref 0), none], [], _) _
  have L : ∀ (d i : Nat), i + d = P → am_Rn sc 69 (11, [some (.ref 0), some (.int (Int32.ofNat i))], [], bkMain tr :: bkRules 32 nu la me tc ts (Int32.ofNat P) :: B2 :: B3 :: bkRoom 128 32 0 (nu 4) (nu 4) 0 0 lo bo (am_fold 9 (sp_begOne tc ts) (co, sh, si)).1 (am_fold 9 (sp_begOne tc ts) (co, sh, si)).2.1 (am_fold i sp_incOne se) (am_fold 9 (sp_begOne tc ts) (co, sh, si)).2.2 er of_ bi bt so :: Bs) (fun r M' => r = some (.int 1) ∧ M' = bkMain tr :: bkRules 32 nu la me tc ts (Int32.ofNat P) :: B2 :: B3 :: bkRoom 128 32 0 (nu 4) (nu 4) 0 0 lo bo (am_fold 9 (sp_begOne tc ts) (co, sh, si)).1 (am_fold 9 (sp_begOne tc ts) (co, sh, si)).2.1 (am_fold P sp_incOne se) (am_fold 9 (sp_begOne tc ts) (co, sh, si)).2.2 er of_ bi bt so :: Bs) := by
    intro d
    induction d with
    | zero =>
      intro i  hi
      have hiP : i = P := by omega
      subst i
      refine am_Rn.go (t := am_t69) rfl 5 rfl ⟨trivial, trivial, trivial, trivial, trivial, trivial⟩ ?_
      refine am_Rn.brT (by first | exact (am_le (by omega) (by omega)).mpr (Nat.le_refl _) | exact fun q => absurd ((am_lt (by omega) (by omega)).mp q) (Nat.lt_irrefl _) | exact (am_lt (by omega) (by omega)).mpr (by omega) | decide) ?_
      refine am_Rn.go (t := am_t69) rfl 1 rfl ⟨trivial, trivial⟩ ?_
      refine am_Rn.ret (t := am_t69) rfl rfl trivial ?_
      exact ⟨rfl, rfl⟩
    | succ d ih =>
      intro i  hi
      have hiP : i < P := by omega
      have e1 : (Int32.ofNat i).toNatClampNeg = i := am_tn i (by omega)
      have g := ih (i + 1) (by omega)
      rw [am_fold_succ i sp_incOne, ← am_inc] at g
      generalize hX : (am_fold i sp_incOne se) = X at g ⊢
      refine am_Rn.go (t := am_t69) rfl 5 rfl ⟨trivial, trivial, trivial, trivial, trivial, trivial⟩ ?_
      refine am_Rn.brF (by first | exact fun q => absurd ((am_le (by omega) (by omega)).mp q) (by omega) | exact fun q => absurd ((am_le (i := 9) (by omega) (by omega)).mp q) (by omega) | exact fun q => absurd ((am_le (i := 10) (by omega) (by omega)).mp q) (by omega) | exact fun q => absurd ((am_le (i := 80) (by omega) (by omega)).mp q) (by omega) | exact (am_lt (by omega) (by omega)).mpr hiP | exact fun q => absurd ((am_lt (by omega) (by omega)).mp q) (by omega)) ?_
      refine am_Rn.go (t := am_t69) rfl 9 rfl ⟨trivial, trivial, trivial, trivial, trivial, (by first | exact am_inb_lit rfl | exact am_inb_of (by omega) (by omega)), trivial, trivial, (by first | exact am_inb_lit rfl | exact am_inb_of (by omega) (by omega)), trivial⟩ ?_
      show am_Rn sc 69 (25, _, _, bkMain tr :: bkRules 32 nu la me tc ts (Int32.ofNat P) :: B2 :: B3 :: bkRoom 128 32 0 (nu 4) (nu 4) 0 0 lo bo (am_fold 9 (sp_begOne tc ts) (co, sh, si)).1 (am_fold 9 (sp_begOne tc ts) (co, sh, si)).2.1 (upd X (Int32.ofNat i).toNatClampNeg (X (Int32.ofNat i).toNatClampNeg + 1)) (am_fold 9 (sp_begOne tc ts) (co, sh, si)).2.2 er of_ bi bt so :: Bs) _
      rw [e1]
      refine am_Rn.go (t := am_t69) rfl 2 rfl ⟨trivial, trivial, trivial⟩ ?_
      exact g
  refine am_Rn.go (t := am_t69) rfl 2 rfl ⟨trivial, trivial, trivial⟩ ?_
  refine am_Rn.call (t := am_t69) rfl rfl (sx_isOver_A ..) ?_
  rintro _ _ ⟨rfl, rfl⟩
  refine am_Rn.go (t := am_t69) rfl 1 rfl ⟨trivial, trivial⟩ ?_
  refine am_Rn.brF (fun z => am_b0.mp z ((am_over h0 hN hr).mpr hov)) ?_
  refine am_Rn.go (t := am_t69) rfl 2 rfl ⟨trivial, trivial, trivial⟩ ?_
  refine am_Rn.call (t := am_t69) rfl rfl (sx_begin_A ..) ?_
  rintro _ _ ⟨rfl, rfl⟩
  refine am_Rn.go (t := am_t69) rfl 2 rfl ⟨trivial, trivial, trivial⟩ ?_
  exact L P 0 (by omega)
theorem sx_imageOf0 (sc : am_Sc)  (tr : Int64) (Bs : am_M)  : am_Rn sc 90 (0, am_entry 90 [.ref 0, .int 0], [], bkMain tr :: Bs) (fun r M' => r = some (.ref 224) ∧ M' = bkMain tr :: Bs) := by
  show am_Rn sc 90 (0, [some (.ref 0), some (.int 0)], [], _) _
  refine am_Rn.go (t := am_t90) rfl 2 rfl ⟨trivial, trivial, trivial⟩ ?_
  refine am_Rn.brT (by decide) ?_
  refine am_Rn.go (t := am_t90) rfl 3 rfl ⟨trivial, trivial, trivial, trivial⟩ ?_
  refine am_Rn.ret (t := am_t90) rfl rfl trivial ?_
  exact ⟨rfl, rfl⟩
theorem sx_keep0 (sc : am_Sc)  (tr : Int64) (rn : Nat) (pr pv sa pd lo : Int32) (bo co sh se si er of_ bi bt so : Nat → Int32) (k7 : Int32) (rd8 : Int32) (pr8 pv8 sa8 pd8 lo8 : Int32) (bo8 co8 sh8 se8 si8 er8 of_8 bi8 bt8 so8 : Nat → Int32) (B1 B2 B3 B5 B6 : List am_E) (Bs : am_M)  : am_Rn sc 84 (0, am_entry 84 [.ref 0, .int 0], [], bkMain tr :: B1 :: B2 :: B3 :: bkRoom 128 32 (Int32.ofNat rn) pr pv sa pd lo bo co sh se si er of_ bi bt so :: B5 :: B6 :: bkImg 256 k7 :: bkRoom 256 32 rd8 pr8 pv8 sa8 pd8 lo8 bo8 co8 sh8 se8 si8 er8 of_8 bi8 bt8 so8 :: Bs) (fun r M' => r = some (.int (Int32.ofNat rn)) ∧ M' = bkMain tr :: B1 :: B2 :: B3 :: bkRoom 128 32 (Int32.ofNat rn) pr pv sa pd lo bo co sh se si er of_ bi bt so :: B5 :: B6 :: bkImg 256 1 :: bkRoom 256 32 (Int32.ofNat rn) pr pv sa pd lo (sp_cp 20 bo bo8) (sp_cp 9 co co8) (sp_cp 9 sh sh8) (sp_cp 9 se se8) (sp_cp 9 si si8) (sp_cp 9 er er8) (sp_cp 9 of_ of_8) bi8 bt8 so8 :: Bs) := by
  show am_Rn sc 84 (0, [some (.ref 0), some (.int 0), none], [], _) _
  refine am_Rn.go (t := am_t84) rfl 3 rfl ⟨trivial, trivial, trivial, trivial⟩ ?_
  refine am_Rn.call (t := am_t84) rfl rfl (sx_isWithin ..) ?_
  rintro _ _ ⟨rfl, rfl⟩
  refine am_Rn.go (t := am_t84) rfl 1 rfl ⟨trivial, trivial⟩ ?_
  refine am_Rn.brF (fun z => am_b0.mp z (by decide)) ?_
  refine am_Rn.go (t := am_t84) rfl 2 rfl ⟨trivial, trivial, trivial⟩ ?_
  refine am_Rn.call (t := am_t84) rfl rfl (sx_imageOf0 ..) ?_
  rintro _ _ ⟨rfl, rfl⟩
  refine am_Rn.go (t := am_t84) rfl 5 rfl ⟨trivial, trivial, trivial, trivial, trivial, trivial⟩ ?_
  refine am_Rn.call (t := am_t84) rfl rfl (sx_become_CA ..) ?_
  rintro _ _ ⟨rfl, rfl⟩
  refine am_Rn.go (t := am_t84) rfl 6 rfl ⟨trivial, trivial, (by first | exact Or.inl rfl | exact Or.inr rfl | exact am_b01 _), trivial, trivial, trivial, trivial⟩ ?_
  refine am_Rn.ret (t := am_t84) rfl rfl trivial ?_
  exact ⟨rfl, rfl⟩
theorem sx_back0_S (sc : am_Sc)  (tr : Int64) (k7 : Int32) (B1 B2 B3 B4 B5 B6 : List am_E) (Bs : am_M) (hk : k7 = 0) : am_Rn sc 85 (0, am_entry 85 [.ref 0, .int 0], [], bkMain tr :: B1 :: B2 :: B3 :: B4 :: B5 :: B6 :: bkImg 256 k7 :: Bs) (fun r M' => r = some (.int (-2)) ∧ M' = bkMain tr :: B1 :: B2 :: B3 :: B4 :: B5 :: B6 :: bkImg 256 k7 :: Bs) := by
  show am_Rn sc 85 (0, [some (.ref 0), some (.int 0), none], [], _) _
  refine am_Rn.go (t := am_t85) rfl 3 rfl ⟨trivial, trivial, trivial, trivial⟩ ?_
  refine am_Rn.call (t := am_t85) rfl rfl (sx_isWithin ..) ?_
  rintro _ _ ⟨rfl, rfl⟩
  refine am_Rn.go (t := am_t85) rfl 1 rfl ⟨trivial, trivial⟩ ?_
  refine am_Rn.brF (fun z => am_b0.mp z (by decide)) ?_
  refine am_Rn.go (t := am_t85) rfl 2 rfl ⟨trivial, trivial, trivial⟩ ?_
  refine am_Rn.call (t := am_t85) rfl rfl (sx_imageOf0 ..) ?_
  rintro _ _ ⟨rfl, rfl⟩
  refine am_Rn.go (t := am_t85) rfl 4 rfl ⟨trivial, trivial, trivial, trivial, trivial⟩ ?_
  refine am_Rn.brT hk ?_
  refine am_Rn.go (t := am_t85) rfl 1 rfl ⟨trivial, trivial⟩ ?_
  refine am_Rn.ret (t := am_t85) rfl rfl trivial ?_
  exact ⟨rfl, rfl⟩
theorem sx_back0_T (sc : am_Sc)  (tr : Int64) (rn : Nat) (pr pv sa pd lo : Int32) (bo co sh se si er of_ bi bt so : Nat → Int32) (k7 : Int32) (rd8 : Int32) (pr8 pv8 sa8 pd8 lo8 : Int32) (bo8 co8 sh8 se8 si8 er8 of_8 bi8 bt8 so8 : Nat → Int32) (B1 B2 B3 B5 B6 : List am_E) (Bs : am_M) (hk : ¬ k7 = 0) : am_Rn sc 85 (0, am_entry 85 [.ref 0, .int 0], [], bkMain tr :: B1 :: B2 :: B3 :: bkRoom 128 32 (Int32.ofNat rn) pr pv sa pd lo bo co sh se si er of_ bi bt so :: B5 :: B6 :: bkImg 256 k7 :: bkRoom 256 32 rd8 pr8 pv8 sa8 pd8 lo8 bo8 co8 sh8 se8 si8 er8 of_8 bi8 bt8 so8 :: Bs) (fun r M' => r = some (.int rd8) ∧ M' = bkMain tr :: B1 :: B2 :: B3 :: bkRoom 128 32 rd8 pr8 pv8 sa8 pd8 lo8 (sp_cp 20 bo8 bo) (sp_cp 9 co8 co) (sp_cp 9 sh8 sh) (sp_cp 9 se8 se) (sp_cp 9 si8 si) (sp_cp 9 er8 er) (sp_cp 9 of_8 of_) bi bt so :: B5 :: B6 :: bkImg 256 k7 :: bkRoom 256 32 rd8 pr8 pv8 sa8 pd8 lo8 bo8 co8 sh8 se8 si8 er8 of_8 bi8 bt8 so8 :: Bs) := by
  show am_Rn sc 85 (0, [some (.ref 0), some (.int 0), none], [], _) _
  refine am_Rn.go (t := am_t85) rfl 3 rfl ⟨trivial, trivial, trivial, trivial⟩ ?_
  refine am_Rn.call (t := am_t85) rfl rfl (sx_isWithin ..) ?_
  rintro _ _ ⟨rfl, rfl⟩
  refine am_Rn.go (t := am_t85) rfl 1 rfl ⟨trivial, trivial⟩ ?_
  refine am_Rn.brF (fun z => am_b0.mp z (by decide)) ?_
  refine am_Rn.go (t := am_t85) rfl 2 rfl ⟨trivial, trivial, trivial⟩ ?_
  refine am_Rn.call (t := am_t85) rfl rfl (sx_imageOf0 ..) ?_
  rintro _ _ ⟨rfl, rfl⟩
  refine am_Rn.go (t := am_t85) rfl 4 rfl ⟨trivial, trivial, trivial, trivial, trivial⟩ ?_
  refine am_Rn.brF hk ?_
  refine am_Rn.go (t := am_t85) rfl 4 rfl ⟨trivial, trivial, trivial, trivial, trivial⟩ ?_
  refine am_Rn.call (t := am_t85) rfl rfl (sx_become_AC ..) ?_
  rintro _ _ ⟨rfl, rfl⟩
  refine am_Rn.go (t := am_t85) rfl 3 rfl ⟨trivial, trivial, trivial, trivial⟩ ?_
  refine am_Rn.ret (t := am_t85) rfl rfl trivial ?_
  exact ⟨rfl, rfl⟩
theorem sx_imageOf1 (sc : am_Sc)  (tr : Int64) (Bs : am_M)  : am_Rn sc 90 (0, am_entry 90 [.ref 0, .int 1], [], bkMain tr :: Bs) (fun r M' => r = some (.ref 288) ∧ M' = bkMain tr :: Bs) := by
  show am_Rn sc 90 (0, [some (.ref 0), some (.int 1)], [], _) _
  refine am_Rn.go (t := am_t90) rfl 2 rfl ⟨trivial, trivial, trivial⟩ ?_
  refine am_Rn.brF (by decide) ?_
  refine am_Rn.go (t := am_t90) rfl 2 rfl ⟨trivial, trivial, trivial⟩ ?_
  refine am_Rn.ret (t := am_t90) rfl rfl trivial ?_
  exact ⟨rfl, rfl⟩
theorem sx_keep1 (sc : am_Sc)  (tr : Int64) (rn : Nat) (pr pv sa pd lo : Int32) (bo co sh se si er of_ bi bt so : Nat → Int32) (k9 : Int32) (rd10 : Int32) (pr10 pv10 sa10 pd10 lo10 : Int32) (bo10 co10 sh10 se10 si10 er10 of_10 bi10 bt10 so10 : Nat → Int32) (B1 B2 B3 B5 B6 B7 B8 : List am_E) (Bs : am_M)  : am_Rn sc 84 (0, am_entry 84 [.ref 0, .int 1], [], bkMain tr :: B1 :: B2 :: B3 :: bkRoom 128 32 (Int32.ofNat rn) pr pv sa pd lo bo co sh se si er of_ bi bt so :: B5 :: B6 :: B7 :: B8 :: bkImg 320 k9 :: bkRoom 320 32 rd10 pr10 pv10 sa10 pd10 lo10 bo10 co10 sh10 se10 si10 er10 of_10 bi10 bt10 so10 :: Bs) (fun r M' => r = some (.int (Int32.ofNat rn)) ∧ M' = bkMain tr :: B1 :: B2 :: B3 :: bkRoom 128 32 (Int32.ofNat rn) pr pv sa pd lo bo co sh se si er of_ bi bt so :: B5 :: B6 :: B7 :: B8 :: bkImg 320 1 :: bkRoom 320 32 (Int32.ofNat rn) pr pv sa pd lo (sp_cp 20 bo bo10) (sp_cp 9 co co10) (sp_cp 9 sh sh10) (sp_cp 9 se se10) (sp_cp 9 si si10) (sp_cp 9 er er10) (sp_cp 9 of_ of_10) bi10 bt10 so10 :: Bs) := by
  show am_Rn sc 84 (0, [some (.ref 0), some (.int 1), none], [], _) _
  refine am_Rn.go (t := am_t84) rfl 3 rfl ⟨trivial, trivial, trivial, trivial⟩ ?_
  refine am_Rn.call (t := am_t84) rfl rfl (sx_isWithin ..) ?_
  rintro _ _ ⟨rfl, rfl⟩
  refine am_Rn.go (t := am_t84) rfl 1 rfl ⟨trivial, trivial⟩ ?_
  refine am_Rn.brF (fun z => am_b0.mp z (by decide)) ?_
  refine am_Rn.go (t := am_t84) rfl 2 rfl ⟨trivial, trivial, trivial⟩ ?_
  refine am_Rn.call (t := am_t84) rfl rfl (sx_imageOf1 ..) ?_
  rintro _ _ ⟨rfl, rfl⟩
  refine am_Rn.go (t := am_t84) rfl 5 rfl ⟨trivial, trivial, trivial, trivial, trivial, trivial⟩ ?_
  refine am_Rn.call (t := am_t84) rfl rfl (sx_become_DA ..) ?_
  rintro _ _ ⟨rfl, rfl⟩
  refine am_Rn.go (t := am_t84) rfl 6 rfl ⟨trivial, trivial, (by first | exact Or.inl rfl | exact Or.inr rfl | exact am_b01 _), trivial, trivial, trivial, trivial⟩ ?_
  refine am_Rn.ret (t := am_t84) rfl rfl trivial ?_
  exact ⟨rfl, rfl⟩
theorem sx_back1_S (sc : am_Sc)  (tr : Int64) (k9 : Int32) (B1 B2 B3 B4 B5 B6 B7 B8 : List am_E) (Bs : am_M) (hk : k9 = 0) : am_Rn sc 85 (0, am_entry 85 [.ref 0, .int 1], [], bkMain tr :: B1 :: B2 :: B3 :: B4 :: B5 :: B6 :: B7 :: B8 :: bkImg 320 k9 :: Bs) (fun r M' => r = some (.int (-2)) ∧ M' = bkMain tr :: B1 :: B2 :: B3 :: B4 :: B5 :: B6 :: B7 :: B8 :: bkImg 320 k9 :: Bs) := by
  show am_Rn sc 85 (0, [some (.ref 0), some (.int 1), none], [], _) _
  refine am_Rn.go (t := am_t85) rfl 3 rfl ⟨trivial, trivial, trivial, trivial⟩ ?_
  refine am_Rn.call (t := am_t85) rfl rfl (sx_isWithin ..) ?_
  rintro _ _ ⟨rfl, rfl⟩
  refine am_Rn.go (t := am_t85) rfl 1 rfl ⟨trivial, trivial⟩ ?_
  refine am_Rn.brF (fun z => am_b0.mp z (by decide)) ?_
  refine am_Rn.go (t := am_t85) rfl 2 rfl ⟨trivial, trivial, trivial⟩ ?_
  refine am_Rn.call (t := am_t85) rfl rfl (sx_imageOf1 ..) ?_
  rintro _ _ ⟨rfl, rfl⟩
  refine am_Rn.go (t := am_t85) rfl 4 rfl ⟨trivial, trivial, trivial, trivial, trivial⟩ ?_
  refine am_Rn.brT hk ?_
  refine am_Rn.go (t := am_t85) rfl 1 rfl ⟨trivial, trivial⟩ ?_
  refine am_Rn.ret (t := am_t85) rfl rfl trivial ?_
  exact ⟨rfl, rfl⟩
theorem sx_back1_T (sc : am_Sc)  (tr : Int64) (rn : Nat) (pr pv sa pd lo : Int32) (bo co sh se si er of_ bi bt so : Nat → Int32) (k9 : Int32) (rd10 : Int32) (pr10 pv10 sa10 pd10 lo10 : Int32) (bo10 co10 sh10 se10 si10 er10 of_10 bi10 bt10 so10 : Nat → Int32) (B1 B2 B3 B5 B6 B7 B8 : List am_E) (Bs : am_M) (hk : ¬ k9 = 0) : am_Rn sc 85 (0, am_entry 85 [.ref 0, .int 1], [], bkMain tr :: B1 :: B2 :: B3 :: bkRoom 128 32 (Int32.ofNat rn) pr pv sa pd lo bo co sh se si er of_ bi bt so :: B5 :: B6 :: B7 :: B8 :: bkImg 320 k9 :: bkRoom 320 32 rd10 pr10 pv10 sa10 pd10 lo10 bo10 co10 sh10 se10 si10 er10 of_10 bi10 bt10 so10 :: Bs) (fun r M' => r = some (.int rd10) ∧ M' = bkMain tr :: B1 :: B2 :: B3 :: bkRoom 128 32 rd10 pr10 pv10 sa10 pd10 lo10 (sp_cp 20 bo10 bo) (sp_cp 9 co10 co) (sp_cp 9 sh10 sh) (sp_cp 9 se10 se) (sp_cp 9 si10 si) (sp_cp 9 er10 er) (sp_cp 9 of_10 of_) bi bt so :: B5 :: B6 :: B7 :: B8 :: bkImg 320 k9 :: bkRoom 320 32 rd10 pr10 pv10 sa10 pd10 lo10 bo10 co10 sh10 se10 si10 er10 of_10 bi10 bt10 so10 :: Bs) := by
  show am_Rn sc 85 (0, [some (.ref 0), some (.int 1), none], [], _) _
  refine am_Rn.go (t := am_t85) rfl 3 rfl ⟨trivial, trivial, trivial, trivial⟩ ?_
  refine am_Rn.call (t := am_t85) rfl rfl (sx_isWithin ..) ?_
  rintro _ _ ⟨rfl, rfl⟩
  refine am_Rn.go (t := am_t85) rfl 1 rfl ⟨trivial, trivial⟩ ?_
  refine am_Rn.brF (fun z => am_b0.mp z (by decide)) ?_
  refine am_Rn.go (t := am_t85) rfl 2 rfl ⟨trivial, trivial, trivial⟩ ?_
  refine am_Rn.call (t := am_t85) rfl rfl (sx_imageOf1 ..) ?_
  rintro _ _ ⟨rfl, rfl⟩
  refine am_Rn.go (t := am_t85) rfl 4 rfl ⟨trivial, trivial, trivial, trivial, trivial⟩ ?_
  refine am_Rn.brF hk ?_
  refine am_Rn.go (t := am_t85) rfl 4 rfl ⟨trivial, trivial, trivial, trivial, trivial⟩ ?_
  refine am_Rn.call (t := am_t85) rfl rfl (sx_become_AD ..) ?_
  rintro _ _ ⟨rfl, rfl⟩
  refine am_Rn.go (t := am_t85) rfl 3 rfl ⟨trivial, trivial, trivial, trivial⟩ ?_
  refine am_Rn.ret (t := am_t85) rfl rfl trivial ?_
  exact ⟨rfl, rfl⟩
theorem sx_keep_F (sc : am_Sc) (v : Int32) (tr : Int64) (Bs : am_M) (hv : ¬ (0 ≤ v ∧ v ≤ 1)) : am_Rn sc 84 (0, am_entry 84 [.ref 0, .int v], [], bkMain tr :: Bs) (fun r M' => r = some (.int (-1)) ∧ M' = bkMain tr :: Bs) := by
  show am_Rn sc 84 (0, [some (.ref 0), some (.int v), none], [], _) _
  refine am_Rn.go (t := am_t84) rfl 3 rfl ⟨trivial, trivial, trivial, trivial⟩ ?_
  refine am_Rn.call (t := am_t84) rfl rfl (sx_isWithin ..) ?_
  rintro _ _ ⟨rfl, rfl⟩
  refine am_Rn.go (t := am_t84) rfl 1 rfl ⟨trivial, trivial⟩ ?_
  refine am_Rn.brT (am_b0.mpr hv) ?_
  refine am_Rn.go (t := am_t84) rfl 1 rfl ⟨trivial, trivial⟩ ?_
  refine am_Rn.ret (t := am_t84) rfl rfl trivial ?_
  exact ⟨rfl, rfl⟩
theorem sx_back_F (sc : am_Sc) (v : Int32) (tr : Int64) (Bs : am_M) (hv : ¬ (0 ≤ v ∧ v ≤ 1)) : am_Rn sc 85 (0, am_entry 85 [.ref 0, .int v], [], bkMain tr :: Bs) (fun r M' => r = some (.int (-1)) ∧ M' = bkMain tr :: Bs) := by
  show am_Rn sc 85 (0, [some (.ref 0), some (.int v), none], [], _) _
  refine am_Rn.go (t := am_t85) rfl 3 rfl ⟨trivial, trivial, trivial, trivial⟩ ?_
  refine am_Rn.call (t := am_t85) rfl rfl (sx_isWithin ..) ?_
  rintro _ _ ⟨rfl, rfl⟩
  refine am_Rn.go (t := am_t85) rfl 1 rfl ⟨trivial, trivial⟩ ?_
  refine am_Rn.brT (am_b0.mpr hv) ?_
  refine am_Rn.go (t := am_t85) rfl 1 rfl ⟨trivial, trivial⟩ ?_
  refine am_Rn.ret (t := am_t85) rfl rfl trivial ?_
  exact ⟨rfl, rfl⟩
theorem sx_type_F (sc : am_Sc) (v : Int64) (w : Int32) (tr : Int64) (Bs : am_M) (hw : ¬ (1 ≤ w ∧ w ≤ 8)) : am_Rn sc 57 (0, am_entry 57 [.ref 0, .long v, .int w], [], bkMain tr :: Bs) (fun r M' => r = some (.int (-1)) ∧ M' = bkMain tr :: Bs) := by
  show am_Rn sc 57 (0, [some (.ref 0), some (.long v), none, some (.int w)], [], _) _
  refine am_Rn.go (t := am_t57) rfl 3 rfl ⟨trivial, trivial, trivial, trivial⟩ ?_
  refine am_Rn.br (fun h1 => ?_) (fun h1 => ?_)
  · skip
    refine am_Rn.go (t := am_t57) rfl 1 rfl ⟨trivial, trivial⟩ ?_
    refine am_Rn.ret (t := am_t57) rfl rfl trivial ?_
    exact ⟨rfl, rfl⟩
  · skip
    refine am_Rn.go (t := am_t57) rfl 3 rfl ⟨trivial, trivial, trivial, trivial⟩ ?_
    refine am_Rn.br (fun h2 => ?_) (fun h2 => ?_)
    · skip
      exact absurd ⟨Int32.not_lt.mp (by assumption), (by assumption)⟩ hw
    · skip
      refine am_Rn.go (t := am_t57) rfl 1 rfl ⟨trivial, trivial⟩ ?_
      refine am_Rn.ret (t := am_t57) rfl rfl trivial ?_
      exact ⟨rfl, rfl⟩
theorem sx_type_T (sc : am_Sc) (v : Int64) (k0 : Nat) (h1 : 1 ≤ k0) (h8 : k0 ≤ 8) (tr : Int64) (tx : Nat → Int32) (n : Nat) (hn : n ≤ 400) (it fa nx pl ki va tw : Int32) (B1 : List am_E) (Bs : am_M) (hk : n + k0 ≤ 400) : am_Rn sc 57 (0, am_entry 57 [.ref 0, .long v, .int (Int32.ofNat k0)], [], bkMain tr :: B1 :: bkReader tx (Int32.ofNat n) it fa nx pl ki va tw :: Bs) (fun r M' => r = some (.int (Int32.ofNat (am_down (k0 - 1) (sp_typeOne v) (tx, n)).2)) ∧ M' = bkMain tr :: B1 :: bkReader (am_down (k0 - 1) (sp_typeOne v) (tx, n)).1 (Int32.ofNat (am_down (k0 - 1) (sp_typeOne v) (tx, n)).2) it fa nx pl ki va tw :: Bs) := by
  show am_Rn sc 57 (0, [some (.ref 0), some (.long v), none, some (.int (Int32.ofNat k0))], [], _) _
  refine am_Rn.go (t := am_t57) rfl 3 rfl ⟨trivial, trivial, trivial, trivial⟩ ?_
  refine am_Rn.brF (fun q => absurd ((am_lt (j := 1) (by omega) (by omega)).mp q) (by omega)) ?_
  refine am_Rn.go (t := am_t57) rfl 3 rfl ⟨trivial, trivial, trivial, trivial⟩ ?_
  refine am_Rn.brT ((am_le (j := 8) (by omega) (by omega)).mpr (by omega)) ?_
  refine am_Rn.go (t := am_t57) rfl 4 rfl ⟨trivial, trivial, trivial, trivial, trivial⟩ ?_
  refine am_Rn.call (t := am_t57) rfl rfl (sx_add_T sc v k0 h1 h8 tx n hn (hk := hk) ..) ?_
  rintro _ _ ⟨rfl, rfl⟩
  refine am_Rn.go (t := am_t57) rfl 1 rfl ⟨trivial, trivial⟩ ?_
  refine am_Rn.brF (by decide) ?_
  refine am_Rn.go (t := am_t57) rfl 4 rfl ⟨trivial, trivial, trivial, trivial, trivial⟩ ?_
  refine am_Rn.ret (t := am_t57) rfl rfl trivial ?_
  exact ⟨rfl, rfl⟩
theorem sx_type_U (sc : am_Sc) (v : Int64) (k0 : Nat) (h1 : 1 ≤ k0) (h8 : k0 ≤ 8) (tr : Int64) (tx : Nat → Int32) (n : Nat) (hn : n ≤ 400) (it fa nx pl ki va tw : Int32) (B1 : List am_E) (Bs : am_M) (hk : 400 < n + k0) : am_Rn sc 57 (0, am_entry 57 [.ref 0, .long v, .int (Int32.ofNat k0)], [], bkMain tr :: B1 :: bkReader tx (Int32.ofNat n) it fa nx pl ki va tw :: Bs) (fun r M' => r = some (.int (-3)) ∧ M' = bkMain tr :: B1 :: bkReader tx (Int32.ofNat n) it fa nx pl ki va tw :: Bs) := by
  show am_Rn sc 57 (0, [some (.ref 0), some (.long v), none, some (.int (Int32.ofNat k0))], [], _) _
  refine am_Rn.go (t := am_t57) rfl 3 rfl ⟨trivial, trivial, trivial, trivial⟩ ?_
  refine am_Rn.brF (fun q => absurd ((am_lt (j := 1) (by omega) (by omega)).mp q) (by omega)) ?_
  refine am_Rn.go (t := am_t57) rfl 3 rfl ⟨trivial, trivial, trivial, trivial⟩ ?_
  refine am_Rn.brT ((am_le (j := 8) (by omega) (by omega)).mpr (by omega)) ?_
  refine am_Rn.go (t := am_t57) rfl 4 rfl ⟨trivial, trivial, trivial, trivial, trivial⟩ ?_
  refine am_Rn.call (t := am_t57) rfl rfl (sx_add_F sc v k0 h1 h8 tx n hn (hk := hk) ..) ?_
  rintro _ _ ⟨rfl, rfl⟩
  refine am_Rn.go (t := am_t57) rfl 1 rfl ⟨trivial, trivial⟩ ?_
  refine am_Rn.brT (by decide) ?_
  refine am_Rn.go (t := am_t57) rfl 1 rfl ⟨trivial, trivial⟩ ?_
  refine am_Rn.ret (t := am_t57) rfl rfl trivial ?_
  exact ⟨rfl, rfl⟩
theorem sx_ride_F (sc : am_Sc) (w v : Int32) (tr : Int64) (Bs : am_M) (hw : ¬ ((0 ≤ w ∧ w ≤ 2) ∧ (0 ≤ v ∧ v ≤ 99))) : am_Rn sc 74 (0, am_entry 74 [.ref 0, .int w, .int v], [], bkMain tr :: Bs) (fun r M' => r = some (.int (-1)) ∧ M' = bkMain tr :: Bs) := by
  show am_Rn sc 74 (0, [some (.ref 0), some (.int w), some (.int v)], [], _) _
  refine am_Rn.go (t := am_t74) rfl 3 rfl ⟨trivial, trivial, trivial, trivial⟩ ?_
  refine am_Rn.call (t := am_t74) rfl rfl (sx_isWithin ..) ?_
  rintro _ _ ⟨rfl, rfl⟩
  refine am_Rn.go (t := am_t74) rfl 1 rfl ⟨trivial, trivial⟩ ?_
  refine am_Rn.brB (fun h1 => ?_) (fun h1 => ?_)
  · skip
    refine am_Rn.go (t := am_t74) rfl 1 rfl ⟨trivial, trivial⟩ ?_
    refine am_Rn.ret (t := am_t74) rfl rfl trivial ?_
    exact ⟨rfl, rfl⟩
  · skip
    refine am_Rn.go (t := am_t74) rfl 3 rfl ⟨trivial, trivial, trivial, trivial⟩ ?_
    refine am_Rn.call (t := am_t74) rfl rfl (sx_isWithin ..) ?_
    rintro _ _ ⟨rfl, rfl⟩
    refine am_Rn.go (t := am_t74) rfl 1 rfl ⟨trivial, trivial⟩ ?_
    refine am_Rn.brB (fun h2 => ?_) (fun h2 => ?_)
    · skip
      refine am_Rn.go (t := am_t74) rfl 1 rfl ⟨trivial, trivial⟩ ?_
      refine am_Rn.ret (t := am_t74) rfl rfl trivial ?_
      exact ⟨rfl, rfl⟩
    · skip
      exact absurd ⟨(by assumption), (by assumption)⟩ hw
theorem sx_ride_T (sc : am_Sc) (w : Nat) (hw : w < 3) (v : Int32) (tr : Int64) (nr ho ou : Nat → Int32) (rc fr : Int32) (B1 B2 B3 B4 B5 B6 B7 B8 B9 B10 : List am_E) (Bs : am_M) (hv : 0 ≤ v ∧ v ≤ 99) : am_Rn sc 74 (0, am_entry 74 [.ref 0, .int (Int32.ofNat w), .int v], [], bkMain tr :: B1 :: B2 :: B3 :: B4 :: B5 :: B6 :: B7 :: B8 :: B9 :: B10 :: bkRiders nr ho ou rc fr :: Bs) (fun r M' => r = some (.int (nr w)) ∧ M' = bkMain tr :: B1 :: B2 :: B3 :: B4 :: B5 :: B6 :: B7 :: B8 :: B9 :: B10 :: bkRiders (upd nr w v) ho ou rc fr :: Bs) := by
  show am_Rn sc 74 (0, [some (.ref 0), some (.int (Int32.ofNat w)), some (.int v)], [], _) _
  refine am_Rn.go (t := am_t74) rfl 3 rfl ⟨trivial, trivial, trivial, trivial⟩ ?_
  refine am_Rn.call (t := am_t74) rfl rfl (sx_isWithin ..) ?_
  rintro _ _ ⟨rfl, rfl⟩
  refine am_Rn.go (t := am_t74) rfl 1 rfl ⟨trivial, trivial⟩ ?_
  refine am_Rn.brF (fun z => am_b0.mp z (am_rng2 (k := 2) (by omega) (by omega))) ?_
  refine am_Rn.go (t := am_t74) rfl 3 rfl ⟨trivial, trivial, trivial, trivial⟩ ?_
  refine am_Rn.call (t := am_t74) rfl rfl (sx_isWithin ..) ?_
  rintro _ _ ⟨rfl, rfl⟩
  refine am_Rn.go (t := am_t74) rfl 1 rfl ⟨trivial, trivial⟩ ?_
  refine am_Rn.brF (fun z => am_b0.mp z hv) ?_
  refine am_Rn.go (t := am_t74) rfl 4 rfl ⟨trivial, trivial, trivial, trivial, trivial⟩ ?_
  refine am_Rn.call (t := am_t74) rfl rfl (sx_put sc w hw v ..) ?_
  rintro _ _ ⟨rfl, rfl⟩
  refine am_Rn.ret (t := am_t74) rfl rfl trivial ?_
  exact ⟨rfl, rfl⟩
theorem sx_rests_F (sc : am_Sc) (m l w : Int32) (tr : Int64) (Bs : am_M) (hw : ¬ ((2 ≤ m ∧ m ≤ 3) ∧ (1 ≤ l ∧ l ≤ 8) ∧ (0 ≤ w ∧ w ≤ 1))) : am_Rn sc 75 (0, am_entry 75 [.ref 0, .int m, .int l, .int w], [], bkMain tr :: Bs) (fun r M' => r = some (.int (-1)) ∧ M' = bkMain tr :: Bs) := by
  show am_Rn sc 75 (0, [some (.ref 0), some (.int m), some (.int l), some (.int w)], [], _) _
  refine am_Rn.go (t := am_t75) rfl 3 rfl ⟨trivial, trivial, trivial, trivial⟩ ?_
  refine am_Rn.call (t := am_t75) rfl rfl (sx_isWithin ..) ?_
  rintro _ _ ⟨rfl, rfl⟩
  refine am_Rn.go (t := am_t75) rfl 1 rfl ⟨trivial, trivial⟩ ?_
  refine am_Rn.brB (fun h1 => ?_) (fun h1 => ?_)
  · skip
    refine am_Rn.go (t := am_t75) rfl 1 rfl ⟨trivial, trivial⟩ ?_
    refine am_Rn.ret (t := am_t75) rfl rfl trivial ?_
    exact ⟨rfl, rfl⟩
  · skip
    refine am_Rn.go (t := am_t75) rfl 3 rfl ⟨trivial, trivial, trivial, trivial⟩ ?_
    refine am_Rn.call (t := am_t75) rfl rfl (sx_isWithin ..) ?_
    rintro _ _ ⟨rfl, rfl⟩
    refine am_Rn.go (t := am_t75) rfl 1 rfl ⟨trivial, trivial⟩ ?_
    refine am_Rn.brB (fun h2 => ?_) (fun h2 => ?_)
    · skip
      refine am_Rn.go (t := am_t75) rfl 1 rfl ⟨trivial, trivial⟩ ?_
      refine am_Rn.ret (t := am_t75) rfl rfl trivial ?_
      exact ⟨rfl, rfl⟩
    · skip
      refine am_Rn.go (t := am_t75) rfl 3 rfl ⟨trivial, trivial, trivial, trivial⟩ ?_
      refine am_Rn.call (t := am_t75) rfl rfl (sx_isWithin ..) ?_
      rintro _ _ ⟨rfl, rfl⟩
      refine am_Rn.go (t := am_t75) rfl 1 rfl ⟨trivial, trivial⟩ ?_
      refine am_Rn.brB (fun h3 => ?_) (fun h3 => ?_)
      · skip
        refine am_Rn.go (t := am_t75) rfl 1 rfl ⟨trivial, trivial⟩ ?_
        refine am_Rn.ret (t := am_t75) rfl rfl trivial ?_
        exact ⟨rfl, rfl⟩
      · skip
        exact absurd ⟨(by assumption), (by assumption), (by assumption)⟩ hw
theorem sx_rests0 (sc : am_Sc) (m l : Nat) (hm2 : 2 ≤ m) (hm : m ≤ 3) (hl1 : 1 ≤ l) (hl : l ≤ 8) (tr : Int64) (nr ho ou : Nat → Int32) (rc fr : Int32) (B1 B2 B3 B4 B5 B6 B7 B8 B9 B10 : List am_E) (Bs : am_M)  : am_Rn sc 75 (0, am_entry 75 [.ref 0, .int (Int32.ofNat m), .int (Int32.ofNat l), .int 0], [], bkMain tr :: B1 :: B2 :: B3 :: B4 :: B5 :: B6 :: B7 :: B8 :: B9 :: B10 :: bkRiders nr ho ou rc fr :: Bs) (fun r M' => r = some (.int (sp_rests nr m l).1) ∧ ∃ ou, M' = bkMain tr :: B1 :: B2 :: B3 :: B4 :: B5 :: B6 :: B7 :: B8 :: B9 :: B10 :: bkRiders nr ho ou (sp_rests nr m l).1 (sp_rests nr m l).2 :: Bs) := by
  show am_Rn sc 75 (0, [some (.ref 0), some (.int (Int32.ofNat m)), some (.int (Int32.ofNat l)), some (.int 0)], [], _) _
  refine am_Rn.go (t := am_t75) rfl 3 rfl ⟨trivial, trivial, trivial, trivial⟩ ?_
  refine am_Rn.call (t := am_t75) rfl rfl (sx_isWithin ..) ?_
  rintro _ _ ⟨rfl, rfl⟩
  refine am_Rn.go (t := am_t75) rfl 1 rfl ⟨trivial, trivial⟩ ?_
  refine am_Rn.brF (fun z => am_b0.mp z ⟨(am_le (i := 2) (by omega) (by omega)).mpr (by omega), (am_le (j := 3) (by omega) (by omega)).mpr (by omega)⟩) ?_
  refine am_Rn.go (t := am_t75) rfl 3 rfl ⟨trivial, trivial, trivial, trivial⟩ ?_
  refine am_Rn.call (t := am_t75) rfl rfl (sx_isWithin ..) ?_
  rintro _ _ ⟨rfl, rfl⟩
  refine am_Rn.go (t := am_t75) rfl 1 rfl ⟨trivial, trivial⟩ ?_
  refine am_Rn.brF (fun z => am_b0.mp z ⟨(am_le (i := 1) (by omega) (by omega)).mpr (by omega), (am_le (j := 8) (by omega) (by omega)).mpr (by omega)⟩) ?_
  refine am_Rn.go (t := am_t75) rfl 3 rfl ⟨trivial, trivial, trivial, trivial⟩ ?_
  refine am_Rn.call (t := am_t75) rfl rfl (sx_isWithin ..) ?_
  rintro _ _ ⟨rfl, rfl⟩
  refine am_Rn.go (t := am_t75) rfl 1 rfl ⟨trivial, trivial⟩ ?_
  refine am_Rn.brF (fun z => am_b0.mp z (by decide)) ?_
  refine am_Rn.go (t := am_t75) rfl 4 rfl ⟨trivial, trivial, trivial, trivial, trivial⟩ ?_
  refine am_Rn.call (t := am_t75) rfl rfl (sx_seekRests sc m l hm hl ..) ?_
  rintro _ _ ⟨rfl, ou, rfl⟩
  refine am_Rn.go (t := am_t75) rfl 2 rfl ⟨trivial, trivial, trivial⟩ ?_
  refine am_Rn.brT (by decide) ?_
  refine am_Rn.go (t := am_t75) rfl 4 rfl ⟨trivial, trivial, trivial, trivial, trivial⟩ ?_
  refine am_Rn.ret (t := am_t75) rfl rfl trivial ?_
  exact ⟨rfl, ou, rfl⟩
theorem sx_rests1 (sc : am_Sc) (m l : Nat) (hm2 : 2 ≤ m) (hm : m ≤ 3) (hl1 : 1 ≤ l) (hl : l ≤ 8) (tr : Int64) (nr ho ou : Nat → Int32) (rc fr : Int32) (B1 B2 B3 B4 B5 B6 B7 B8 B9 B10 : List am_E) (Bs : am_M)  : am_Rn sc 75 (0, am_entry 75 [.ref 0, .int (Int32.ofNat m), .int (Int32.ofNat l), .int 1], [], bkMain tr :: B1 :: B2 :: B3 :: B4 :: B5 :: B6 :: B7 :: B8 :: B9 :: B10 :: bkRiders nr ho ou rc fr :: Bs) (fun r M' => r = some (.int (sp_rests nr m l).2) ∧ ∃ ou, M' = bkMain tr :: B1 :: B2 :: B3 :: B4 :: B5 :: B6 :: B7 :: B8 :: B9 :: B10 :: bkRiders nr ho ou (sp_rests nr m l).1 (sp_rests nr m l).2 :: Bs) := by
  show am_Rn sc 75 (0, [some (.ref 0), some (.int (Int32.ofNat m)), some (.int (Int32.ofNat l)), some (.int 1)], [], _) _
  refine am_Rn.go (t := am_t75) rfl 3 rfl ⟨trivial, trivial, trivial, trivial⟩ ?_
  refine am_Rn.call (t := am_t75) rfl rfl (sx_isWithin ..) ?_
  rintro _ _ ⟨rfl, rfl⟩
  refine am_Rn.go (t := am_t75) rfl 1 rfl ⟨trivial, trivial⟩ ?_
  refine am_Rn.brF (fun z => am_b0.mp z ⟨(am_le (i := 2) (by omega) (by omega)).mpr (by omega), (am_le (j := 3) (by omega) (by omega)).mpr (by omega)⟩) ?_
  refine am_Rn.go (t := am_t75) rfl 3 rfl ⟨trivial, trivial, trivial, trivial⟩ ?_
  refine am_Rn.call (t := am_t75) rfl rfl (sx_isWithin ..) ?_
  rintro _ _ ⟨rfl, rfl⟩
  refine am_Rn.go (t := am_t75) rfl 1 rfl ⟨trivial, trivial⟩ ?_
  refine am_Rn.brF (fun z => am_b0.mp z ⟨(am_le (i := 1) (by omega) (by omega)).mpr (by omega), (am_le (j := 8) (by omega) (by omega)).mpr (by omega)⟩) ?_
  refine am_Rn.go (t := am_t75) rfl 3 rfl ⟨trivial, trivial, trivial, trivial⟩ ?_
  refine am_Rn.call (t := am_t75) rfl rfl (sx_isWithin ..) ?_
  rintro _ _ ⟨rfl, rfl⟩
  refine am_Rn.go (t := am_t75) rfl 1 rfl ⟨trivial, trivial⟩ ?_
  refine am_Rn.brF (fun z => am_b0.mp z (by decide)) ?_
  refine am_Rn.go (t := am_t75) rfl 4 rfl ⟨trivial, trivial, trivial, trivial, trivial⟩ ?_
  refine am_Rn.call (t := am_t75) rfl rfl (sx_seekRests sc m l hm hl ..) ?_
  rintro _ _ ⟨rfl, ou, rfl⟩
  refine am_Rn.go (t := am_t75) rfl 2 rfl ⟨trivial, trivial, trivial⟩ ?_
  refine am_Rn.brF (by decide) ?_
  refine am_Rn.go (t := am_t75) rfl 3 rfl ⟨trivial, trivial, trivial, trivial⟩ ?_
  refine am_Rn.ret (t := am_t75) rfl rfl trivial ?_
  exact ⟨rfl, ou, rfl⟩
theorem sx_hold_F (sc : am_Sc) (a b v : Int32) (tr : Int64) (Bs : am_M) (hw : ¬ ((0 ≤ a ∧ a ≤ 9) ∧ (0 ≤ b ∧ b ≤ 9))) : am_Rn sc 76 (0, am_entry 76 [.ref 0, .int a, .int b, .int v], [], bkMain tr :: Bs) (fun r M' => r = some (.int (-1)) ∧ M' = bkMain tr :: Bs) := by
  show am_Rn sc 76 (0, [some (.ref 0), some (.int a), some (.int b), some (.int v)], [], _) _
  refine am_Rn.go (t := am_t76) rfl 3 rfl ⟨trivial, trivial, trivial, trivial⟩ ?_
  refine am_Rn.call (t := am_t76) rfl rfl (sx_isWithin ..) ?_
  rintro _ _ ⟨rfl, rfl⟩
  refine am_Rn.go (t := am_t76) rfl 1 rfl ⟨trivial, trivial⟩ ?_
  refine am_Rn.brB (fun h1 => ?_) (fun h1 => ?_)
  · skip
    refine am_Rn.go (t := am_t76) rfl 1 rfl ⟨trivial, trivial⟩ ?_
    refine am_Rn.ret (t := am_t76) rfl rfl trivial ?_
    exact ⟨rfl, rfl⟩
  · skip
    refine am_Rn.go (t := am_t76) rfl 3 rfl ⟨trivial, trivial, trivial, trivial⟩ ?_
    refine am_Rn.call (t := am_t76) rfl rfl (sx_isWithin ..) ?_
    rintro _ _ ⟨rfl, rfl⟩
    refine am_Rn.go (t := am_t76) rfl 1 rfl ⟨trivial, trivial⟩ ?_
    refine am_Rn.brB (fun h2 => ?_) (fun h2 => ?_)
    · skip
      refine am_Rn.go (t := am_t76) rfl 1 rfl ⟨trivial, trivial⟩ ?_
      refine am_Rn.ret (t := am_t76) rfl rfl trivial ?_
      exact ⟨rfl, rfl⟩
    · skip
      exact absurd ⟨(by assumption), (by assumption)⟩ hw
theorem sx_hold_V (sc : am_Sc) (a b : Nat) (ha : a ≤ 9) (hb : b ≤ 9) (v : Int32) (tr : Int64) (nr ho ou : Nat → Int32) (rc fr : Int32) (B1 B2 B3 B4 B5 B6 B7 B8 B9 B10 : List am_E) (Bs : am_M) (hv : ¬ (0 ≤ v ∧ v ≤ ho a)) : am_Rn sc 76 (0, am_entry 76 [.ref 0, .int (Int32.ofNat a), .int (Int32.ofNat b), .int v], [], bkMain tr :: B1 :: B2 :: B3 :: B4 :: B5 :: B6 :: B7 :: B8 :: B9 :: B10 :: bkRiders nr ho ou rc fr :: Bs) (fun r M' => r = some (.int (-1)) ∧ M' = bkMain tr :: B1 :: B2 :: B3 :: B4 :: B5 :: B6 :: B7 :: B8 :: B9 :: B10 :: bkRiders nr ho ou rc fr :: Bs) := by
  show am_Rn sc 76 (0, [some (.ref 0), some (.int (Int32.ofNat a)), some (.int (Int32.ofNat b)), some (.int v)], [], _) _
  have ea : (Int32.ofNat a).toNatClampNeg = a := am_tn a (by omega)
  have eb : (Int32.ofNat b).toNatClampNeg = b := am_tn b (by omega)
  refine am_Rn.go (t := am_t76) rfl 3 rfl ⟨trivial, trivial, trivial, trivial⟩ ?_
  refine am_Rn.call (t := am_t76) rfl rfl (sx_isWithin ..) ?_
  rintro _ _ ⟨rfl, rfl⟩
  refine am_Rn.go (t := am_t76) rfl 1 rfl ⟨trivial, trivial⟩ ?_
  refine am_Rn.brF (fun z => am_b0.mp z (am_rng2 (k := 9) (by omega) ha)) ?_
  refine am_Rn.go (t := am_t76) rfl 3 rfl ⟨trivial, trivial, trivial, trivial⟩ ?_
  refine am_Rn.call (t := am_t76) rfl rfl (sx_isWithin ..) ?_
  rintro _ _ ⟨rfl, rfl⟩
  refine am_Rn.go (t := am_t76) rfl 1 rfl ⟨trivial, trivial⟩ ?_
  refine am_Rn.brF (fun z => am_b0.mp z (am_rng2 (k := 9) (by omega) hb)) ?_
  refine am_Rn.go (t := am_t76) rfl 7 rfl ⟨trivial, trivial, trivial, trivial, trivial, trivial, (by first | exact am_inb_lit rfl | exact am_inb_of (by omega) (by omega)), trivial⟩ ?_
  refine am_Rn.call (t := am_t76) rfl rfl (sx_isWithin ..) ?_
  rintro _ _ ⟨rfl, rfl⟩
  refine am_Rn.go (t := am_t76) rfl 1 rfl ⟨trivial, trivial⟩ ?_
  refine am_Rn.brT (am_b0.mpr (by rw [ea]; exact hv)) ?_
  refine am_Rn.go (t := am_t76) rfl 1 rfl ⟨trivial, trivial⟩ ?_
  refine am_Rn.ret (t := am_t76) rfl rfl trivial ?_
  exact ⟨rfl, rfl⟩
theorem sx_hold_T (sc : am_Sc) (a b : Nat) (ha : a ≤ 9) (hb : b ≤ 9) (v : Int32) (tr : Int64) (nr ho ou : Nat → Int32) (rc fr : Int32) (B1 B2 B3 B4 B5 B6 B7 B8 B9 B10 : List am_E) (Bs : am_M) (hv : 0 ≤ v ∧ v ≤ ho a) : am_Rn sc 76 (0, am_entry 76 [.ref 0, .int (Int32.ofNat a), .int (Int32.ofNat b), .int v], [], bkMain tr :: B1 :: B2 :: B3 :: B4 :: B5 :: B6 :: B7 :: B8 :: B9 :: B10 :: bkRiders nr ho ou rc fr :: Bs) (fun r M' => r = some (.int ((upd (upd ho a (ho a - v)) b ((upd ho a (ho a - v)) b + v)) b)) ∧ M' = bkMain tr :: B1 :: B2 :: B3 :: B4 :: B5 :: B6 :: B7 :: B8 :: B9 :: B10 :: bkRiders nr (upd (upd ho a (ho a - v)) b ((upd ho a (ho a - v)) b + v)) ou rc fr :: Bs) := by
  show am_Rn sc 76 (0, [some (.ref 0), some (.int (Int32.ofNat a)), some (.int (Int32.ofNat b)), some (.int v)], [], _) _
  have ea : (Int32.ofNat a).toNatClampNeg = a := am_tn a (by omega)
  have eb : (Int32.ofNat b).toNatClampNeg = b := am_tn b (by omega)
  refine am_Rn.go (t := am_t76) rfl 3 rfl ⟨trivial, trivial, trivial, trivial⟩ ?_
  refine am_Rn.call (t := am_t76) rfl rfl (sx_isWithin ..) ?_
  rintro _ _ ⟨rfl, rfl⟩
  refine am_Rn.go (t := am_t76) rfl 1 rfl ⟨trivial, trivial⟩ ?_
  refine am_Rn.brF (fun z => am_b0.mp z (am_rng2 (k := 9) (by omega) ha)) ?_
  refine am_Rn.go (t := am_t76) rfl 3 rfl ⟨trivial, trivial, trivial, trivial⟩ ?_
  refine am_Rn.call (t := am_t76) rfl rfl (sx_isWithin ..) ?_
  rintro _ _ ⟨rfl, rfl⟩
  refine am_Rn.go (t := am_t76) rfl 1 rfl ⟨trivial, trivial⟩ ?_
  refine am_Rn.brF (fun z => am_b0.mp z (am_rng2 (k := 9) (by omega) hb)) ?_
  refine am_Rn.go (t := am_t76) rfl 7 rfl ⟨trivial, trivial, trivial, trivial, trivial, trivial, (by first | exact am_inb_lit rfl | exact am_inb_of (by omega) (by omega)), trivial⟩ ?_
  refine am_Rn.call (t := am_t76) rfl rfl (sx_isWithin ..) ?_
  rintro _ _ ⟨rfl, rfl⟩
  refine am_Rn.go (t := am_t76) rfl 1 rfl ⟨trivial, trivial⟩ ?_
  refine am_Rn.brF (fun z => am_b0.mp z (by rw [ea]; exact hv)) ?_
  refine am_Rn.go (t := am_t76) rfl 9 rfl ⟨trivial, trivial, trivial, trivial, trivial, (by first | exact am_inb_lit rfl | exact am_inb_of (by omega) (by omega)), trivial, trivial, (by first | exact am_inb_lit rfl | exact am_inb_of (by omega) (by omega)), trivial⟩ ?_
  show am_Rn sc 76 (32, _, _, bkMain tr :: B1 :: B2 :: B3 :: B4 :: B5 :: B6 :: B7 :: B8 :: B9 :: B10 :: bkRiders nr (upd ho (Int32.ofNat a).toNatClampNeg (ho (Int32.ofNat a).toNatClampNeg - v)) ou rc fr :: Bs) _
  rw [ea]
  refine am_Rn.go (t := am_t76) rfl 9 rfl ⟨trivial, trivial, trivial, trivial, trivial, (by first | exact am_inb_lit rfl | exact am_inb_of (by omega) (by omega)), trivial, trivial, (by first | exact am_inb_lit rfl | exact am_inb_of (by omega) (by omega)), trivial⟩ ?_
  show am_Rn sc 76 (41, _, _, bkMain tr :: B1 :: B2 :: B3 :: B4 :: B5 :: B6 :: B7 :: B8 :: B9 :: B10 :: bkRiders nr (upd (upd ho a (ho a - v)) (Int32.ofNat b).toNatClampNeg ((upd ho a (ho a - v)) (Int32.ofNat b).toNatClampNeg + v)) ou rc fr :: Bs) _
  rw [eb]
  refine am_Rn.go (t := am_t76) rfl 5 rfl ⟨trivial, trivial, trivial, trivial, (by first | exact am_inb_lit rfl | exact am_inb_of (by omega) (by omega)), trivial⟩ ?_
  refine am_Rn.ret (t := am_t76) rfl rfl trivial ?_
  refine ⟨congrArg (fun z => some (Value.int z)) ?_, rfl⟩
  rw [eb]
theorem sx_out (sc : am_Sc) (w : Int32) (tr : Int64) (nr ho ou : Nat → Int32) (rc fr : Int32) (B1 B2 B3 B4 B5 B6 B7 B8 B9 B10 : List am_E) (Bs : am_M)  : am_Rn sc 77 (0, am_entry 77 [.ref 0, .int w], [], bkMain tr :: B1 :: B2 :: B3 :: B4 :: B5 :: B6 :: B7 :: B8 :: B9 :: B10 :: bkRiders nr ho ou rc fr :: Bs) (fun r M' => r = some (.int (an_out nr ho w)) ∧ M' = bkMain tr :: B1 :: B2 :: B3 :: B4 :: B5 :: B6 :: B7 :: B8 :: B9 :: B10 :: bkRiders nr ho ou rc fr :: Bs) := by
  show am_Rn sc 77 (0, [some (.ref 0), some (.int w), none], [], _) _
  have hb := sp_bestOne_lt nr ho 10 (by omega)
  refine am_Rn.go (t := am_t77) rfl 3 rfl ⟨trivial, trivial, trivial, trivial⟩ ?_
  refine am_Rn.call (t := am_t77) rfl rfl (sx_isWithin ..) ?_
  rintro _ _ ⟨rfl, rfl⟩
  refine am_Rn.go (t := am_t77) rfl 1 rfl ⟨trivial, trivial⟩ ?_
  refine am_Rn.brB (fun h1 => ?_) (fun h1 => ?_)
  · skip
    refine am_Rn.go (t := am_t77) rfl 1 rfl ⟨trivial, trivial⟩ ?_
    refine am_Rn.ret (t := am_t77) rfl rfl trivial ?_
    refine ⟨congrArg (fun z => some (Value.int z)) ?_, rfl⟩
    simp [an_out, *]
  · skip
    refine am_Rn.go (t := am_t77) rfl 2 rfl ⟨trivial, trivial, trivial⟩ ?_
    refine am_Rn.call (t := am_t77) rfl rfl (sx_bestRound ..) ?_
    rintro _ _ ⟨rfl, rfl⟩
    refine am_Rn.go (t := am_t77) rfl 3 rfl ⟨trivial, trivial, trivial, trivial⟩ ?_
    refine am_Rn.br (fun h2 => ?_) (fun h2 => ?_)
    · skip
      refine am_Rn.go (t := am_t77) rfl 2 rfl ⟨trivial, trivial, trivial⟩ ?_
      refine am_Rn.ret (t := am_t77) rfl rfl trivial ?_
      refine ⟨congrArg (fun z => some (Value.int z)) ?_, rfl⟩
      simp [an_out, *]
    · skip
      refine am_Rn.go (t := am_t77) rfl 3 rfl ⟨trivial, trivial, trivial, trivial⟩ ?_
      refine am_Rn.call (t := am_t77) rfl rfl (sx_mean sc _ hb ..) ?_
      rintro _ _ ⟨rfl, rfl⟩
      refine am_Rn.ret (t := am_t77) rfl rfl trivial ?_
      refine ⟨congrArg (fun z => some (Value.int z)) ?_, rfl⟩
      simp [an_out, *]
theorem sx_clue_F (sc : am_Sc) (v : Int32) (tr : Int64) (Bs : am_M) (hv : ¬ (0 ≤ v ∧ v ≤ 999)) : am_Rn sc 78 (0, am_entry 78 [.ref 0, .int v], [], bkMain tr :: Bs) (fun r M' => r = some (.int (-1)) ∧ M' = bkMain tr :: Bs) := by
  show am_Rn sc 78 (0, [some (.ref 0), some (.int v)], [], _) _
  refine am_Rn.go (t := am_t78) rfl 3 rfl ⟨trivial, trivial, trivial, trivial⟩ ?_
  refine am_Rn.call (t := am_t78) rfl rfl (sx_isWithin ..) ?_
  rintro _ _ ⟨rfl, rfl⟩
  refine am_Rn.go (t := am_t78) rfl 1 rfl ⟨trivial, trivial⟩ ?_
  refine am_Rn.brT (am_b0.mpr hv) ?_
  refine am_Rn.go (t := am_t78) rfl 1 rfl ⟨trivial, trivial⟩ ?_
  refine am_Rn.ret (t := am_t78) rfl rfl trivial ?_
  exact ⟨rfl, rfl⟩
theorem sx_clue_U (sc : am_Sc) (v : Int32) (tr : Int64) (cl : Nat → Int32) (C : Nat) (hC : C ≤ 12) (bw br le : Int32) (B1 B2 B3 B4 B5 B6 B7 B8 B9 B10 B11 : List am_E) (Bs : am_M) (hv : 0 ≤ v ∧ v ≤ 999) (hu : C = 12) : am_Rn sc 78 (0, am_entry 78 [.ref 0, .int v], [], bkMain tr :: B1 :: B2 :: B3 :: B4 :: B5 :: B6 :: B7 :: B8 :: B9 :: B10 :: B11 :: bkClues cl (Int32.ofNat C) bw br le :: Bs) (fun r M' => r = some (.int (-3)) ∧ M' = bkMain tr :: B1 :: B2 :: B3 :: B4 :: B5 :: B6 :: B7 :: B8 :: B9 :: B10 :: B11 :: bkClues cl (Int32.ofNat C) bw br le :: Bs) := by
  show am_Rn sc 78 (0, [some (.ref 0), some (.int v)], [], _) _
  refine am_Rn.go (t := am_t78) rfl 3 rfl ⟨trivial, trivial, trivial, trivial⟩ ?_
  refine am_Rn.call (t := am_t78) rfl rfl (sx_isWithin ..) ?_
  rintro _ _ ⟨rfl, rfl⟩
  refine am_Rn.go (t := am_t78) rfl 1 rfl ⟨trivial, trivial⟩ ?_
  refine am_Rn.brF (fun z => am_b0.mp z hv) ?_
  refine am_Rn.go (t := am_t78) rfl 3 rfl ⟨trivial, trivial, trivial, trivial⟩ ?_
  refine am_Rn.call (t := am_t78) rfl rfl (sx_clueAdd_F sc v C hu ..) ?_
  rintro _ _ ⟨rfl, rfl⟩
  refine am_Rn.go (t := am_t78) rfl 1 rfl ⟨trivial, trivial⟩ ?_
  refine am_Rn.brT (by decide) ?_
  refine am_Rn.go (t := am_t78) rfl 1 rfl ⟨trivial, trivial⟩ ?_
  refine am_Rn.ret (t := am_t78) rfl rfl trivial ?_
  exact ⟨rfl, rfl⟩
theorem sx_clue_T (sc : am_Sc) (v : Int32) (tr : Int64) (cl : Nat → Int32) (C : Nat) (hC : C ≤ 12) (bw br le : Int32) (B1 B2 B3 B4 B5 B6 B7 B8 B9 B10 B11 : List am_E) (Bs : am_M) (hv : 0 ≤ v ∧ v ≤ 999) (hu : C < 12) : am_Rn sc 78 (0, am_entry 78 [.ref 0, .int v], [], bkMain tr :: B1 :: B2 :: B3 :: B4 :: B5 :: B6 :: B7 :: B8 :: B9 :: B10 :: B11 :: bkClues cl (Int32.ofNat C) bw br le :: Bs) (fun r M' => r = some (.int (Int32.ofNat (C + 1))) ∧ M' = bkMain tr :: B1 :: B2 :: B3 :: B4 :: B5 :: B6 :: B7 :: B8 :: B9 :: B10 :: B11 :: bkClues (upd cl C v) (Int32.ofNat (C + 1)) bw br le :: Bs) := by
  show am_Rn sc 78 (0, [some (.ref 0), some (.int v)], [], _) _
  refine am_Rn.go (t := am_t78) rfl 3 rfl ⟨trivial, trivial, trivial, trivial⟩ ?_
  refine am_Rn.call (t := am_t78) rfl rfl (sx_isWithin ..) ?_
  rintro _ _ ⟨rfl, rfl⟩
  refine am_Rn.go (t := am_t78) rfl 1 rfl ⟨trivial, trivial⟩ ?_
  refine am_Rn.brF (fun z => am_b0.mp z hv) ?_
  refine am_Rn.go (t := am_t78) rfl 3 rfl ⟨trivial, trivial, trivial, trivial⟩ ?_
  refine am_Rn.call (t := am_t78) rfl rfl (sx_clueAdd_T sc v C hu ..) ?_
  rintro _ _ ⟨rfl, rfl⟩
  refine am_Rn.go (t := am_t78) rfl 1 rfl ⟨trivial, trivial⟩ ?_
  refine am_Rn.brF (by decide) ?_
  refine am_Rn.go (t := am_t78) rfl 4 rfl ⟨trivial, trivial, trivial, trivial, trivial⟩ ?_
  refine am_Rn.ret (t := am_t78) rfl rfl trivial ?_
  exact ⟨rfl, rfl⟩
theorem sx_fit_F (sc : am_Sc) (v w : Int32) (tr : Int64) (Bs : am_M) (hw : ¬ ((0 ≤ v ∧ v ≤ 99) ∧ (0 ≤ w ∧ w ≤ 3))) : am_Rn sc 79 (0, am_entry 79 [.ref 0, .int v, .int w], [], bkMain tr :: Bs) (fun r M' => r = some (.int (-1)) ∧ M' = bkMain tr :: Bs) := by
  show am_Rn sc 79 (0, [some (.ref 0), some (.int v), some (.int w)], [], _) _
  refine am_Rn.go (t := am_t79) rfl 3 rfl ⟨trivial, trivial, trivial, trivial⟩ ?_
  refine am_Rn.call (t := am_t79) rfl rfl (sx_isWithin ..) ?_
  rintro _ _ ⟨rfl, rfl⟩
  refine am_Rn.go (t := am_t79) rfl 1 rfl ⟨trivial, trivial⟩ ?_
  refine am_Rn.brB (fun h1 => ?_) (fun h1 => ?_)
  · skip
    refine am_Rn.go (t := am_t79) rfl 1 rfl ⟨trivial, trivial⟩ ?_
    refine am_Rn.ret (t := am_t79) rfl rfl trivial ?_
    exact ⟨rfl, rfl⟩
  · skip
    refine am_Rn.go (t := am_t79) rfl 3 rfl ⟨trivial, trivial, trivial, trivial⟩ ?_
    refine am_Rn.call (t := am_t79) rfl rfl (sx_isWithin ..) ?_
    rintro _ _ ⟨rfl, rfl⟩
    refine am_Rn.go (t := am_t79) rfl 1 rfl ⟨trivial, trivial⟩ ?_
    refine am_Rn.brB (fun h2 => ?_) (fun h2 => ?_)
    · skip
      refine am_Rn.go (t := am_t79) rfl 1 rfl ⟨trivial, trivial⟩ ?_
      refine am_Rn.ret (t := am_t79) rfl rfl trivial ?_
      exact ⟨rfl, rfl⟩
    · skip
      exact absurd ⟨(by assumption), (by assumption)⟩ hw
theorem sx_fit_S (sc : am_Sc) (v w : Int32) (tr : Int64) (cl : Nat → Int32) (C : Nat) (hC : C ≤ 12) (bw br le : Int32) (B1 B2 B3 B4 B5 B6 B7 B8 B9 B10 B11 : List am_E) (Bs : am_M) (hv : 0 ≤ v ∧ v ≤ 99) (hw : 0 ≤ w ∧ w ≤ 3) (hc : C < 3) : am_Rn sc 79 (0, am_entry 79 [.ref 0, .int v, .int w], [], bkMain tr :: B1 :: B2 :: B3 :: B4 :: B5 :: B6 :: B7 :: B8 :: B9 :: B10 :: B11 :: bkClues cl (Int32.ofNat C) bw br le :: Bs) (fun r M' => r = some (.int (-2)) ∧ M' = bkMain tr :: B1 :: B2 :: B3 :: B4 :: B5 :: B6 :: B7 :: B8 :: B9 :: B10 :: B11 :: bkClues cl (Int32.ofNat C) bw br le :: Bs) := by
  show am_Rn sc 79 (0, [some (.ref 0), some (.int v), some (.int w)], [], _) _
  refine am_Rn.go (t := am_t79) rfl 3 rfl ⟨trivial, trivial, trivial, trivial⟩ ?_
  refine am_Rn.call (t := am_t79) rfl rfl (sx_isWithin ..) ?_
  rintro _ _ ⟨rfl, rfl⟩
  refine am_Rn.go (t := am_t79) rfl 1 rfl ⟨trivial, trivial⟩ ?_
  refine am_Rn.brF (fun z => am_b0.mp z hv) ?_
  refine am_Rn.go (t := am_t79) rfl 3 rfl ⟨trivial, trivial, trivial, trivial⟩ ?_
  refine am_Rn.call (t := am_t79) rfl rfl (sx_isWithin ..) ?_
  rintro _ _ ⟨rfl, rfl⟩
  refine am_Rn.go (t := am_t79) rfl 1 rfl ⟨trivial, trivial⟩ ?_
  refine am_Rn.brF (fun z => am_b0.mp z hw) ?_
  refine am_Rn.go (t := am_t79) rfl 5 rfl ⟨trivial, trivial, trivial, trivial, trivial, trivial⟩ ?_
  refine am_Rn.brF (fun q => absurd ((am_le (i := 3) (by omega) (by omega)).mp q) (by omega)) ?_
  refine am_Rn.go (t := am_t79) rfl 1 rfl ⟨trivial, trivial⟩ ?_
  refine am_Rn.ret (t := am_t79) rfl rfl trivial ?_
  exact ⟨rfl, rfl⟩
def an_fit (X : sp_F3) (w : Int32) : Int32 := if w = 0 then X.2.1 else if w = 1 then X.2.2 else if w = 2 then 10 - X.2.1 - X.2.2 else X.1
theorem sx_fit_T (sc : am_Sc) (v w : Int32) (tr : Int64) (nu la me tc ts : Nat → Int32) (P : Nat) (hP : P ≤ 9) (cl : Nat → Int32) (C : Nat) (hC : C ≤ 12) (bw br le : Int32) (B2 B3 B4 B5 B6 B7 B8 B9 B10 B11 : List am_E) (Bs : am_M) (hv : 0 ≤ v ∧ v ≤ 99) (hw : 0 ≤ w ∧ w ≤ 3) (hc : 3 ≤ C) : am_Rn sc 79 (0, am_entry 79 [.ref 0, .int v, .int w], [], bkMain tr :: bkRules 32 nu la me tc ts (Int32.ofNat P) :: B2 :: B3 :: B4 :: B5 :: B6 :: B7 :: B8 :: B9 :: B10 :: B11 :: bkClues cl (Int32.ofNat C) bw br le :: Bs) (fun r M' => r = some (.int (an_fit (am_down 10 (sp_fitRow nu cl C v) (-1, bw, br)) w)) ∧ M' = bkMain tr :: bkRules 32 nu la me tc ts (Int32.ofNat P) :: B2 :: B3 :: B4 :: B5 :: B6 :: B7 :: B8 :: B9 :: B10 :: B11 :: bkClues cl (Int32.ofNat C) (am_down 10 (sp_fitRow nu cl C v) (-1, bw, br)).2.1 (am_down 10 (sp_fitRow nu cl C v) (-1, bw, br)).2.2 (am_down 10 (sp_fitRow nu cl C v) (-1, bw, br)).1 :: Bs) := by
  show am_Rn sc 79 (0, [some (.ref 0), some (.int v), some (.int w)], [], _) _
  refine am_Rn.go (t := am_t79) rfl 3 rfl ⟨trivial, trivial, trivial, trivial⟩ ?_
  refine am_Rn.call (t := am_t79) rfl rfl (sx_isWithin ..) ?_
  rintro _ _ ⟨rfl, rfl⟩
  refine am_Rn.go (t := am_t79) rfl 1 rfl ⟨trivial, trivial⟩ ?_
  refine am_Rn.brF (fun z => am_b0.mp z hv) ?_
  refine am_Rn.go (t := am_t79) rfl 3 rfl ⟨trivial, trivial, trivial, trivial⟩ ?_
  refine am_Rn.call (t := am_t79) rfl rfl (sx_isWithin ..) ?_
  rintro _ _ ⟨rfl, rfl⟩
  refine am_Rn.go (t := am_t79) rfl 1 rfl ⟨trivial, trivial⟩ ?_
  refine am_Rn.brF (fun z => am_b0.mp z hw) ?_
  refine am_Rn.go (t := am_t79) rfl 5 rfl ⟨trivial, trivial, trivial, trivial, trivial, trivial⟩ ?_
  refine am_Rn.brT ((am_le (i := 3) (by omega) (by omega)).mpr (by omega)) ?_
  refine am_Rn.go (t := am_t79) rfl 5 rfl ⟨trivial, trivial, trivial, trivial, trivial, trivial⟩ ?_
  refine am_Rn.call (t := am_t79) rfl rfl (sx_seekShares sc v C hc hC ..) ?_
  rintro _ _ ⟨rfl, rfl⟩
  refine am_Rn.go (t := am_t79) rfl 2 rfl ⟨trivial, trivial, trivial⟩ ?_
  refine am_Rn.br (fun h4_0 => ?_) (fun h4_0 => ?_)
  · skip
    refine am_Rn.go (t := am_t79) rfl 3 rfl ⟨trivial, trivial, trivial, trivial⟩ ?_
    refine am_Rn.ret (t := am_t79) rfl rfl trivial ?_
    refine ⟨congrArg (fun z => some (Value.int z)) ?_, rfl⟩
    simp [an_fit, *]
  refine am_Rn.br (fun h4_1 => ?_) (fun h4_1 => ?_)
  · skip
    refine am_Rn.go (t := am_t79) rfl 3 rfl ⟨trivial, trivial, trivial, trivial⟩ ?_
    refine am_Rn.ret (t := am_t79) rfl rfl trivial ?_
    refine ⟨congrArg (fun z => some (Value.int z)) ?_, rfl⟩
    simp [an_fit, *]
  refine am_Rn.br (fun h4_2 => ?_) (fun h4_2 => ?_)
  · skip
    refine am_Rn.go (t := am_t79) rfl 9 rfl ⟨trivial, trivial, trivial, trivial, trivial, trivial, trivial, trivial, trivial, trivial⟩ ?_
    refine am_Rn.ret (t := am_t79) rfl rfl trivial ?_
    refine ⟨congrArg (fun z => some (Value.int z)) ?_, rfl⟩
    simp [an_fit, *]
  refine am_Rn.go (t := am_t79) rfl 3 rfl ⟨trivial, trivial, trivial, trivial⟩ ?_
  refine am_Rn.ret (t := am_t79) rfl rfl trivial ?_
  refine ⟨congrArg (fun z => some (Value.int z)) ?_, rfl⟩
  simp [an_fit, *]
theorem sx_markBody0 (sc : am_Sc) (q : Nat) (hq9 : q < 9) (u0 : Int32) (tr : Int64) (nu la me tc ts : Nat → Int32) (P : Nat) (hP : P ≤ 9) (rn : Nat) (pr pv sa pd lo : Int32) (bo co sh se si er of_ bi bt so : Nat → Int32) (B2 B3 : List am_E) (Bs : am_M)  : am_Rn sc 92 (0, am_entry 92 [.ref 0, .int 0, .int (Int32.ofNat q), .int u0], [], bkMain tr :: bkRules 32 nu la me tc ts (Int32.ofNat P) :: B2 :: B3 :: bkRoom 128 32 (Int32.ofNat rn) pr pv sa pd lo bo co sh se si er of_ bi bt so :: Bs) (fun r M' => r = some (.int (co q)) ∧ M' = bkMain (tr + 1) :: bkRules 32 nu la me tc ts (Int32.ofNat P) :: B2 :: B3 :: bkRoom 128 32 (Int32.ofNat rn) pr pv sa pd lo bo co sh se si er of_ bi bt so :: Bs) := by
  show am_Rn sc 92 (0, [some (.ref 0), some (.int 0), some (.int (Int32.ofNat q)), some (.int u0)], [], _) _
  have e1 : (Int32.ofNat q).toNatClampNeg = q := am_tn q (by omega)
  refine am_Rn.go (t := am_t92) rfl 9 rfl ⟨trivial, trivial, trivial, trivial, trivial, (by exact am_inb_lit rfl), trivial, trivial, trivial, trivial⟩ ?_
  show am_Rn sc 92 (9, _, _, bkMain (tr + 1) :: bkRules 32 nu la me tc ts (Int32.ofNat P) :: B2 :: B3 :: bkRoom 128 32 (Int32.ofNat rn) pr pv sa pd lo bo co sh se si er of_ bi bt so :: Bs) _
  refine am_Rn.go (t := am_t92) rfl 2 rfl ⟨trivial, trivial, trivial⟩ ?_
  show am_Rn sc 92 (58, _, _, _) _
  refine am_Rn.go (t := am_t92) rfl 5 rfl ⟨trivial, trivial, trivial, trivial, (by first | exact am_inb_lit rfl | exact am_inb_of (by omega) (by omega)), trivial⟩ ?_
  refine am_Rn.ret (t := am_t92) rfl rfl trivial ?_
  refine ⟨congrArg (fun z => some (Value.int z)) ?_, rfl⟩
  (try rw [e1])
  (try rfl)
theorem sx_markBody1 (sc : am_Sc) (q : Nat) (hq9 : q < 9) (u0 : Int32) (tr : Int64) (nu la me tc ts : Nat → Int32) (P : Nat) (hP : P ≤ 9) (rn : Nat) (pr pv sa pd lo : Int32) (bo co sh se si er of_ bi bt so : Nat → Int32) (B2 B3 : List am_E) (Bs : am_M)  : am_Rn sc 92 (0, am_entry 92 [.ref 0, .int 1, .int (Int32.ofNat q), .int u0], [], bkMain tr :: bkRules 32 nu la me tc ts (Int32.ofNat P) :: B2 :: B3 :: bkRoom 128 32 (Int32.ofNat rn) pr pv sa pd lo bo co sh se si er of_ bi bt so :: Bs) (fun r M' => r = some (.int (u0 + sh q * sp_worth nu (Int32.ofNat rn))) ∧ M' = bkMain (tr + 10) :: bkRules 32 nu la me tc ts (Int32.ofNat P) :: B2 :: B3 :: bkRoom 128 32 (Int32.ofNat rn) pr pv sa pd lo bo co sh se si er of_ bi bt so :: Bs) := by
  show am_Rn sc 92 (0, [some (.ref 0), some (.int 1), some (.int (Int32.ofNat q)), some (.int u0)], [], _) _
  have e1 : (Int32.ofNat q).toNatClampNeg = q := am_tn q (by omega)
  refine am_Rn.go (t := am_t92) rfl 9 rfl ⟨trivial, trivial, trivial, trivial, trivial, (by exact am_inb_lit rfl), trivial, trivial, trivial, trivial⟩ ?_
  show am_Rn sc 92 (9, _, _, bkMain (tr + 10) :: bkRules 32 nu la me tc ts (Int32.ofNat P) :: B2 :: B3 :: bkRoom 128 32 (Int32.ofNat rn) pr pv sa pd lo bo co sh se si er of_ bi bt so :: Bs) _
  refine am_Rn.go (t := am_t92) rfl 2 rfl ⟨trivial, trivial, trivial⟩ ?_
  show am_Rn sc 92 (11, _, _, _) _
  refine am_Rn.go (t := am_t92) rfl 11 rfl ⟨trivial, trivial, trivial, trivial, trivial, (by first | exact am_inb_lit rfl | exact am_inb_of (by omega) (by omega)), trivial, trivial, trivial, trivial, trivial, trivial⟩ ?_
  refine am_Rn.call (t := am_t92) rfl rfl (sx_worthIn_t ..) ?_
  rintro _ _ ⟨rfl, rfl⟩
  refine am_Rn.go (t := am_t92) rfl 2 rfl ⟨trivial, trivial, trivial⟩ ?_
  refine am_Rn.ret (t := am_t92) rfl rfl trivial ?_
  refine ⟨congrArg (fun z => some (Value.int z)) ?_, rfl⟩
  (try rw [e1])
  (try rfl)
theorem sx_markBody2 (sc : am_Sc) (q : Nat) (hq9 : q < 9) (u0 : Int32) (tr : Int64) (nu la me tc ts : Nat → Int32) (P : Nat) (hP : P ≤ 9) (rn : Nat) (pr pv sa pd lo : Int32) (bo co sh se si er of_ bi bt so : Nat → Int32) (B2 B3 : List am_E) (Bs : am_M)  : am_Rn sc 92 (0, am_entry 92 [.ref 0, .int 2, .int (Int32.ofNat q), .int u0], [], bkMain tr :: bkRules 32 nu la me tc ts (Int32.ofNat P) :: B2 :: B3 :: bkRoom 128 32 (Int32.ofNat rn) pr pv sa pd lo bo co sh se si er of_ bi bt so :: Bs) (fun r M' => r = some (.int (u0 + pr)) ∧ M' = bkMain (tr + 100) :: bkRules 32 nu la me tc ts (Int32.ofNat P) :: B2 :: B3 :: bkRoom 128 32 (Int32.ofNat rn) pr pv sa pd lo bo co sh se si er of_ bi bt so :: Bs) := by
  show am_Rn sc 92 (0, [some (.ref 0), some (.int 2), some (.int (Int32.ofNat q)), some (.int u0)], [], _) _
  have e1 : (Int32.ofNat q).toNatClampNeg = q := am_tn q (by omega)
  refine am_Rn.go (t := am_t92) rfl 9 rfl ⟨trivial, trivial, trivial, trivial, trivial, (by exact am_inb_lit rfl), trivial, trivial, trivial, trivial⟩ ?_
  show am_Rn sc 92 (9, _, _, bkMain (tr + 100) :: bkRules 32 nu la me tc ts (Int32.ofNat P) :: B2 :: B3 :: bkRoom 128 32 (Int32.ofNat rn) pr pv sa pd lo bo co sh se si er of_ bi bt so :: Bs) _
  refine am_Rn.go (t := am_t92) rfl 2 rfl ⟨trivial, trivial, trivial⟩ ?_
  show am_Rn sc 92 (26, _, _, _) _
  refine am_Rn.go (t := am_t92) rfl 5 rfl ⟨trivial, trivial, trivial, trivial, trivial, trivial⟩ ?_
  refine am_Rn.ret (t := am_t92) rfl rfl trivial ?_
  refine ⟨congrArg (fun z => some (Value.int z)) ?_, rfl⟩
  (try rw [e1])
  (try rfl)
theorem sx_markBody3 (sc : am_Sc) (q : Nat) (hq9 : q < 9) (u0 : Int32) (tr : Int64) (nu la me tc ts : Nat → Int32) (P : Nat) (hP : P ≤ 9) (rn : Nat) (pr pv sa pd lo : Int32) (bo co sh se si er of_ bi bt so : Nat → Int32) (B2 B3 : List am_E) (Bs : am_M)  : am_Rn sc 92 (0, am_entry 92 [.ref 0, .int 3, .int (Int32.ofNat q), .int u0], [], bkMain tr :: bkRules 32 nu la me tc ts (Int32.ofNat P) :: B2 :: B3 :: bkRoom 128 32 (Int32.ofNat rn) pr pv sa pd lo bo co sh se si er of_ bi bt so :: Bs) (fun r M' => r = some (.int (u0 - Int32.ofNat rn)) ∧ M' = bkMain (tr + 1000) :: bkRules 32 nu la me tc ts (Int32.ofNat P) :: B2 :: B3 :: bkRoom 128 32 (Int32.ofNat rn) pr pv sa pd lo bo co sh se si er of_ bi bt so :: Bs) := by
  show am_Rn sc 92 (0, [some (.ref 0), some (.int 3), some (.int (Int32.ofNat q)), some (.int u0)], [], _) _
  have e1 : (Int32.ofNat q).toNatClampNeg = q := am_tn q (by omega)
  refine am_Rn.go (t := am_t92) rfl 9 rfl ⟨trivial, trivial, trivial, trivial, trivial, (by exact am_inb_lit rfl), trivial, trivial, trivial, trivial⟩ ?_
  show am_Rn sc 92 (9, _, _, bkMain (tr + 1000) :: bkRules 32 nu la me tc ts (Int32.ofNat P) :: B2 :: B3 :: bkRoom 128 32 (Int32.ofNat rn) pr pv sa pd lo bo co sh se si er of_ bi bt so :: Bs) _
  refine am_Rn.go (t := am_t92) rfl 2 rfl ⟨trivial, trivial, trivial⟩ ?_
  show am_Rn sc 92 (32, _, _, _) _
  refine am_Rn.go (t := am_t92) rfl 5 rfl ⟨trivial, trivial, trivial, trivial, trivial, trivial⟩ ?_
  refine am_Rn.ret (t := am_t92) rfl rfl trivial ?_
  refine ⟨congrArg (fun z => some (Value.int z)) ?_, rfl⟩
  (try rw [e1])
  (try rfl)
theorem sx_markBody4 (sc : am_Sc) (q : Nat) (hq9 : q < 9) (u0 : Int32) (tr : Int64) (nu la me tc ts : Nat → Int32) (P : Nat) (hP : P ≤ 9) (rn : Nat) (pr pv sa pd lo : Int32) (bo co sh se si er of_ bi bt so : Nat → Int32) (B2 B3 : List am_E) (Bs : am_M)  : am_Rn sc 92 (0, am_entry 92 [.ref 0, .int 4, .int (Int32.ofNat q), .int u0], [], bkMain tr :: bkRules 32 nu la me tc ts (Int32.ofNat P) :: B2 :: B3 :: bkRoom 128 32 (Int32.ofNat rn) pr pv sa pd lo bo co sh se si er of_ bi bt so :: Bs) (fun r M' => r = some (.int (2 * u0)) ∧ M' = bkMain (tr + 10000) :: bkRules 32 nu la me tc ts (Int32.ofNat P) :: B2 :: B3 :: bkRoom 128 32 (Int32.ofNat rn) pr pv sa pd lo bo co sh se si er of_ bi bt so :: Bs) := by
  show am_Rn sc 92 (0, [some (.ref 0), some (.int 4), some (.int (Int32.ofNat q)), some (.int u0)], [], _) _
  have e1 : (Int32.ofNat q).toNatClampNeg = q := am_tn q (by omega)
  refine am_Rn.go (t := am_t92) rfl 9 rfl ⟨trivial, trivial, trivial, trivial, trivial, (by exact am_inb_lit rfl), trivial, trivial, trivial, trivial⟩ ?_
  show am_Rn sc 92 (9, _, _, bkMain (tr + 10000) :: bkRules 32 nu la me tc ts (Int32.ofNat P) :: B2 :: B3 :: bkRoom 128 32 (Int32.ofNat rn) pr pv sa pd lo bo co sh se si er of_ bi bt so :: Bs) _
  refine am_Rn.go (t := am_t92) rfl 2 rfl ⟨trivial, trivial, trivial⟩ ?_
  show am_Rn sc 92 (38, _, _, _) _
  refine am_Rn.go (t := am_t92) rfl 3 rfl ⟨trivial, trivial, trivial, trivial⟩ ?_
  refine am_Rn.ret (t := am_t92) rfl rfl trivial ?_
  refine ⟨congrArg (fun z => some (Value.int z)) ?_, rfl⟩
  (try rw [e1])
  (try rfl)
theorem sx_markBody5 (sc : am_Sc) (q : Nat) (hq9 : q < 9) (u0 : Int32) (tr : Int64) (nu la me tc ts : Nat → Int32) (P : Nat) (hP : P ≤ 9) (rn : Nat) (pr pv sa pd lo : Int32) (bo co sh se si er of_ bi bt so : Nat → Int32) (B2 B3 : List am_E) (Bs : am_M)  : am_Rn sc 92 (0, am_entry 92 [.ref 0, .int 5, .int (Int32.ofNat q), .int u0], [], bkMain tr :: bkRules 32 nu la me tc ts (Int32.ofNat P) :: B2 :: B3 :: bkRoom 128 32 (Int32.ofNat rn) pr pv sa pd lo bo co sh se si er of_ bi bt so :: Bs) (fun r M' => r = some (.int (u0 + se q)) ∧ M' = bkMain (tr + 100000) :: bkRules 32 nu la me tc ts (Int32.ofNat P) :: B2 :: B3 :: bkRoom 128 32 (Int32.ofNat rn) pr pv sa pd lo bo co sh se si er of_ bi bt so :: Bs) := by
  show am_Rn sc 92 (0, [some (.ref 0), some (.int 5), some (.int (Int32.ofNat q)), some (.int u0)], [], _) _
  have e1 : (Int32.ofNat q).toNatClampNeg = q := am_tn q (by omega)
  refine am_Rn.go (t := am_t92) rfl 9 rfl ⟨trivial, trivial, trivial, trivial, trivial, (by exact am_inb_lit rfl), trivial, trivial, trivial, trivial⟩ ?_
  show am_Rn sc 92 (9, _, _, bkMain (tr + 100000) :: bkRules 32 nu la me tc ts (Int32.ofNat P) :: B2 :: B3 :: bkRoom 128 32 (Int32.ofNat rn) pr pv sa pd lo bo co sh se si er of_ bi bt so :: Bs) _
  refine am_Rn.go (t := am_t92) rfl 2 rfl ⟨trivial, trivial, trivial⟩ ?_
  show am_Rn sc 92 (42, _, _, _) _
  refine am_Rn.go (t := am_t92) rfl 7 rfl ⟨trivial, trivial, trivial, trivial, trivial, (by first | exact am_inb_lit rfl | exact am_inb_of (by omega) (by omega)), trivial, trivial⟩ ?_
  refine am_Rn.ret (t := am_t92) rfl rfl trivial ?_
  refine ⟨congrArg (fun z => some (Value.int z)) ?_, rfl⟩
  (try rw [e1])
  (try rfl)
theorem sx_markBody6 (sc : am_Sc) (q : Nat) (hq9 : q < 9) (u0 : Int32) (tr : Int64) (nu la me tc ts : Nat → Int32) (P : Nat) (hP : P ≤ 9) (rn : Nat) (pr pv sa pd lo : Int32) (bo co sh se si er of_ bi bt so : Nat → Int32) (B2 B3 : List am_E) (Bs : am_M)  : am_Rn sc 92 (0, am_entry 92 [.ref 0, .int 6, .int (Int32.ofNat q), .int u0], [], bkMain tr :: bkRules 32 nu la me tc ts (Int32.ofNat P) :: B2 :: B3 :: bkRoom 128 32 (Int32.ofNat rn) pr pv sa pd lo bo co sh se si er of_ bi bt so :: Bs) (fun r M' => r = some (.int (u0 - sh q)) ∧ M' = bkMain (tr + 1000000) :: bkRules 32 nu la me tc ts (Int32.ofNat P) :: B2 :: B3 :: bkRoom 128 32 (Int32.ofNat rn) pr pv sa pd lo bo co sh se si er of_ bi bt so :: Bs) := by
  show am_Rn sc 92 (0, [some (.ref 0), some (.int 6), some (.int (Int32.ofNat q)), some (.int u0)], [], _) _
  have e1 : (Int32.ofNat q).toNatClampNeg = q := am_tn q (by omega)
  refine am_Rn.go (t := am_t92) rfl 9 rfl ⟨trivial, trivial, trivial, trivial, trivial, (by exact am_inb_lit rfl), trivial, trivial, trivial, trivial⟩ ?_
  show am_Rn sc 92 (9, _, _, bkMain (tr + 1000000) :: bkRules 32 nu la me tc ts (Int32.ofNat P) :: B2 :: B3 :: bkRoom 128 32 (Int32.ofNat rn) pr pv sa pd lo bo co sh se si er of_ bi bt so :: Bs) _
  refine am_Rn.go (t := am_t92) rfl 2 rfl ⟨trivial, trivial, trivial⟩ ?_
  show am_Rn sc 92 (50, _, _, _) _
  refine am_Rn.go (t := am_t92) rfl 7 rfl ⟨trivial, trivial, trivial, trivial, trivial, (by first | exact am_inb_lit rfl | exact am_inb_of (by omega) (by omega)), trivial, trivial⟩ ?_
  refine am_Rn.ret (t := am_t92) rfl rfl trivial ?_
  refine ⟨congrArg (fun z => some (Value.int z)) ?_, rfl⟩
  (try rw [e1])
  (try rfl)
theorem sx_mark0 (sc : am_Sc) (q : Nat) (tr : Int64) (nu la me tc ts : Nat → Int32) (P : Nat) (hP : P ≤ 9) (rn : Nat) (pr pv sa pd lo : Int32) (bo co sh se si er of_ bi bt so : Nat → Int32) (B2 B3 : List am_E) (Bs : am_M) (hq : q < P) : am_Rn sc 83 (0, am_entry 83 [.ref 0, .int 0, .int (Int32.ofNat q)], [], bkMain tr :: bkRules 32 nu la me tc ts (Int32.ofNat P) :: B2 :: B3 :: bkRoom 128 32 (Int32.ofNat rn) pr pv sa pd lo bo co sh se si er of_ bi bt so :: Bs) (fun r M' => r = some (.int (sp_mark nu co sh se (Int32.ofNat rn) pr q 0)) ∧ M' = bkMain (tr + 1) :: bkRules 32 nu la me tc ts (Int32.ofNat P) :: B2 :: B3 :: bkRoom 128 32 (Int32.ofNat rn) pr pv sa pd lo bo co sh se si er of_ bi bt so :: Bs) := by
  show am_Rn sc 83 (0, [some (.ref 0), some (.int 0), some (.int (Int32.ofNat q)), none, none], [], _) _
  refine am_Rn.go (t := am_t83) rfl 3 rfl ⟨trivial, trivial, trivial, trivial⟩ ?_
  refine am_Rn.call (t := am_t83) rfl rfl (sx_isWithin ..) ?_
  rintro _ _ ⟨rfl, rfl⟩
  refine am_Rn.go (t := am_t83) rfl 1 rfl ⟨trivial, trivial⟩ ?_
  refine am_Rn.brF (fun z => am_b0.mp z (by decide)) ?_
  refine am_Rn.go (t := am_t83) rfl 2 rfl ⟨trivial, trivial, trivial⟩ ?_
  refine am_Rn.call (t := am_t83) rfl rfl (sx_isPerson (hP := hP) ..) ?_
  rintro _ _ ⟨rfl, rfl⟩
  refine am_Rn.go (t := am_t83) rfl 1 rfl ⟨trivial, trivial⟩ ?_
  refine am_Rn.brF (fun z => am_b0.mp z (am_pers2 hP hq)) ?_
  refine am_Rn.go (t := am_t83) rfl 4 rfl ⟨trivial, trivial, trivial, trivial, trivial⟩ ?_
  refine am_Rn.call (t := am_t83) rfl rfl (sx_markBody0 sc q (by omega) 0 (hP := hP) ..) ?_
  rintro _ _ ⟨rfl, rfl⟩
  refine am_Rn.go (t := am_t83) rfl 3 rfl ⟨trivial, trivial, trivial, trivial⟩ ?_
  refine am_Rn.brT (by decide) ?_
  refine am_Rn.go (t := am_t83) rfl 1 rfl ⟨trivial, trivial⟩ ?_
  refine am_Rn.ret (t := am_t83) rfl rfl trivial ?_
  exact ⟨rfl, rfl⟩
theorem sx_mark1 (sc : am_Sc) (q : Nat) (tr : Int64) (nu la me tc ts : Nat → Int32) (P : Nat) (hP : P ≤ 9) (rn : Nat) (pr pv sa pd lo : Int32) (bo co sh se si er of_ bi bt so : Nat → Int32) (B2 B3 : List am_E) (Bs : am_M) (hq : q < P) : am_Rn sc 83 (0, am_entry 83 [.ref 0, .int 1, .int (Int32.ofNat q)], [], bkMain tr :: bkRules 32 nu la me tc ts (Int32.ofNat P) :: B2 :: B3 :: bkRoom 128 32 (Int32.ofNat rn) pr pv sa pd lo bo co sh se si er of_ bi bt so :: Bs) (fun r M' => r = some (.int (sp_mark nu co sh se (Int32.ofNat rn) pr q 1)) ∧ M' = bkMain (tr + 11) :: bkRules 32 nu la me tc ts (Int32.ofNat P) :: B2 :: B3 :: bkRoom 128 32 (Int32.ofNat rn) pr pv sa pd lo bo co sh se si er of_ bi bt so :: Bs) := by
  show am_Rn sc 83 (0, [some (.ref 0), some (.int 1), some (.int (Int32.ofNat q)), none, none], [], _) _
  refine am_Rn.go (t := am_t83) rfl 3 rfl ⟨trivial, trivial, trivial, trivial⟩ ?_
  refine am_Rn.call (t := am_t83) rfl rfl (sx_isWithin ..) ?_
  rintro _ _ ⟨rfl, rfl⟩
  refine am_Rn.go (t := am_t83) rfl 1 rfl ⟨trivial, trivial⟩ ?_
  refine am_Rn.brF (fun z => am_b0.mp z (by decide)) ?_
  refine am_Rn.go (t := am_t83) rfl 2 rfl ⟨trivial, trivial, trivial⟩ ?_
  refine am_Rn.call (t := am_t83) rfl rfl (sx_isPerson (hP := hP) ..) ?_
  rintro _ _ ⟨rfl, rfl⟩
  refine am_Rn.go (t := am_t83) rfl 1 rfl ⟨trivial, trivial⟩ ?_
  refine am_Rn.brF (fun z => am_b0.mp z (am_pers2 hP hq)) ?_
  refine am_Rn.go (t := am_t83) rfl 4 rfl ⟨trivial, trivial, trivial, trivial, trivial⟩ ?_
  refine am_Rn.call (t := am_t83) rfl rfl (sx_markBody0 sc q (by omega) 0 (hP := hP) ..) ?_
  rintro _ _ ⟨rfl, rfl⟩
  refine am_Rn.go (t := am_t83) rfl 3 rfl ⟨trivial, trivial, trivial, trivial⟩ ?_
  refine am_Rn.brF (by decide) ?_
  refine am_Rn.go (t := am_t83) rfl 6 rfl ⟨trivial, trivial, (by exact am_inb_lit rfl), trivial, trivial, trivial, trivial⟩ ?_
  refine am_Rn.brT (by decide) ?_
  refine am_Rn.go (t := am_t83) rfl 4 rfl ⟨trivial, trivial, trivial, trivial, trivial⟩ ?_
  refine am_Rn.call (t := am_t83) rfl rfl (sx_markBody1 sc q (by omega) (co q) (hP := hP) ..) ?_
  rintro _ _ ⟨rfl, rfl⟩
  refine am_Rn.ret (t := am_t83) rfl rfl trivial ?_
  refine ⟨rfl, ?_⟩
  rw [show (tr + 11 : Int64) = ((tr + 1) + 10) from (Int64.add_assoc tr 1 10).symm]
theorem sx_mark2 (sc : am_Sc) (q : Nat) (tr : Int64) (nu la me tc ts : Nat → Int32) (P : Nat) (hP : P ≤ 9) (rn : Nat) (pr pv sa pd lo : Int32) (bo co sh se si er of_ bi bt so : Nat → Int32) (B2 B3 : List am_E) (Bs : am_M) (hq : q < P) : am_Rn sc 83 (0, am_entry 83 [.ref 0, .int 2, .int (Int32.ofNat q)], [], bkMain tr :: bkRules 32 nu la me tc ts (Int32.ofNat P) :: B2 :: B3 :: bkRoom 128 32 (Int32.ofNat rn) pr pv sa pd lo bo co sh se si er of_ bi bt so :: Bs) (fun r M' => r = some (.int (sp_mark nu co sh se (Int32.ofNat rn) pr q 2)) ∧ M' = bkMain (tr + 101) :: bkRules 32 nu la me tc ts (Int32.ofNat P) :: B2 :: B3 :: bkRoom 128 32 (Int32.ofNat rn) pr pv sa pd lo bo co sh se si er of_ bi bt so :: Bs) := by
  show am_Rn sc 83 (0, [some (.ref 0), some (.int 2), some (.int (Int32.ofNat q)), none, none], [], _) _
  refine am_Rn.go (t := am_t83) rfl 3 rfl ⟨trivial, trivial, trivial, trivial⟩ ?_
  refine am_Rn.call (t := am_t83) rfl rfl (sx_isWithin ..) ?_
  rintro _ _ ⟨rfl, rfl⟩
  refine am_Rn.go (t := am_t83) rfl 1 rfl ⟨trivial, trivial⟩ ?_
  refine am_Rn.brF (fun z => am_b0.mp z (by decide)) ?_
  refine am_Rn.go (t := am_t83) rfl 2 rfl ⟨trivial, trivial, trivial⟩ ?_
  refine am_Rn.call (t := am_t83) rfl rfl (sx_isPerson (hP := hP) ..) ?_
  rintro _ _ ⟨rfl, rfl⟩
  refine am_Rn.go (t := am_t83) rfl 1 rfl ⟨trivial, trivial⟩ ?_
  refine am_Rn.brF (fun z => am_b0.mp z (am_pers2 hP hq)) ?_
  refine am_Rn.go (t := am_t83) rfl 4 rfl ⟨trivial, trivial, trivial, trivial, trivial⟩ ?_
  refine am_Rn.call (t := am_t83) rfl rfl (sx_markBody0 sc q (by omega) 0 (hP := hP) ..) ?_
  rintro _ _ ⟨rfl, rfl⟩
  refine am_Rn.go (t := am_t83) rfl 3 rfl ⟨trivial, trivial, trivial, trivial⟩ ?_
  refine am_Rn.brF (by decide) ?_
  refine am_Rn.go (t := am_t83) rfl 6 rfl ⟨trivial, trivial, (by exact am_inb_lit rfl), trivial, trivial, trivial, trivial⟩ ?_
  refine am_Rn.brT (by decide) ?_
  refine am_Rn.go (t := am_t83) rfl 4 rfl ⟨trivial, trivial, trivial, trivial, trivial⟩ ?_
  refine am_Rn.call (t := am_t83) rfl rfl (sx_markBody2 sc q (by omega) (co q) (hP := hP) ..) ?_
  rintro _ _ ⟨rfl, rfl⟩
  refine am_Rn.ret (t := am_t83) rfl rfl trivial ?_
  refine ⟨rfl, ?_⟩
  rw [show (tr + 101 : Int64) = ((tr + 1) + 100) from (Int64.add_assoc tr 1 100).symm]
theorem sx_mark3 (sc : am_Sc) (q : Nat) (tr : Int64) (nu la me tc ts : Nat → Int32) (P : Nat) (hP : P ≤ 9) (rn : Nat) (pr pv sa pd lo : Int32) (bo co sh se si er of_ bi bt so : Nat → Int32) (B2 B3 : List am_E) (Bs : am_M) (hq : q < P) : am_Rn sc 83 (0, am_entry 83 [.ref 0, .int 3, .int (Int32.ofNat q)], [], bkMain tr :: bkRules 32 nu la me tc ts (Int32.ofNat P) :: B2 :: B3 :: bkRoom 128 32 (Int32.ofNat rn) pr pv sa pd lo bo co sh se si er of_ bi bt so :: Bs) (fun r M' => r = some (.int (sp_mark nu co sh se (Int32.ofNat rn) pr q 3)) ∧ M' = bkMain (tr + 1001) :: bkRules 32 nu la me tc ts (Int32.ofNat P) :: B2 :: B3 :: bkRoom 128 32 (Int32.ofNat rn) pr pv sa pd lo bo co sh se si er of_ bi bt so :: Bs) := by
  show am_Rn sc 83 (0, [some (.ref 0), some (.int 3), some (.int (Int32.ofNat q)), none, none], [], _) _
  refine am_Rn.go (t := am_t83) rfl 3 rfl ⟨trivial, trivial, trivial, trivial⟩ ?_
  refine am_Rn.call (t := am_t83) rfl rfl (sx_isWithin ..) ?_
  rintro _ _ ⟨rfl, rfl⟩
  refine am_Rn.go (t := am_t83) rfl 1 rfl ⟨trivial, trivial⟩ ?_
  refine am_Rn.brF (fun z => am_b0.mp z (by decide)) ?_
  refine am_Rn.go (t := am_t83) rfl 2 rfl ⟨trivial, trivial, trivial⟩ ?_
  refine am_Rn.call (t := am_t83) rfl rfl (sx_isPerson (hP := hP) ..) ?_
  rintro _ _ ⟨rfl, rfl⟩
  refine am_Rn.go (t := am_t83) rfl 1 rfl ⟨trivial, trivial⟩ ?_
  refine am_Rn.brF (fun z => am_b0.mp z (am_pers2 hP hq)) ?_
  refine am_Rn.go (t := am_t83) rfl 4 rfl ⟨trivial, trivial, trivial, trivial, trivial⟩ ?_
  refine am_Rn.call (t := am_t83) rfl rfl (sx_markBody0 sc q (by omega) 0 (hP := hP) ..) ?_
  rintro _ _ ⟨rfl, rfl⟩
  refine am_Rn.go (t := am_t83) rfl 3 rfl ⟨trivial, trivial, trivial, trivial⟩ ?_
  refine am_Rn.brF (by decide) ?_
  refine am_Rn.go (t := am_t83) rfl 6 rfl ⟨trivial, trivial, (by exact am_inb_lit rfl), trivial, trivial, trivial, trivial⟩ ?_
  refine am_Rn.brT (by decide) ?_
  refine am_Rn.go (t := am_t83) rfl 4 rfl ⟨trivial, trivial, trivial, trivial, trivial⟩ ?_
  refine am_Rn.call (t := am_t83) rfl rfl (sx_markBody3 sc q (by omega) (co q) (hP := hP) ..) ?_
  rintro _ _ ⟨rfl, rfl⟩
  refine am_Rn.ret (t := am_t83) rfl rfl trivial ?_
  refine ⟨rfl, ?_⟩
  rw [show (tr + 1001 : Int64) = ((tr + 1) + 1000) from (Int64.add_assoc tr 1 1000).symm]
theorem sx_mark4 (sc : am_Sc) (q : Nat) (tr : Int64) (nu la me tc ts : Nat → Int32) (P : Nat) (hP : P ≤ 9) (rn : Nat) (pr pv sa pd lo : Int32) (bo co sh se si er of_ bi bt so : Nat → Int32) (B2 B3 : List am_E) (Bs : am_M) (hq : q < P) : am_Rn sc 83 (0, am_entry 83 [.ref 0, .int 4, .int (Int32.ofNat q)], [], bkMain tr :: bkRules 32 nu la me tc ts (Int32.ofNat P) :: B2 :: B3 :: bkRoom 128 32 (Int32.ofNat rn) pr pv sa pd lo bo co sh se si er of_ bi bt so :: Bs) (fun r M' => r = some (.int (sp_mark nu co sh se (Int32.ofNat rn) pr q 4)) ∧ M' = bkMain (tr + 10001) :: bkRules 32 nu la me tc ts (Int32.ofNat P) :: B2 :: B3 :: bkRoom 128 32 (Int32.ofNat rn) pr pv sa pd lo bo co sh se si er of_ bi bt so :: Bs) := by
  show am_Rn sc 83 (0, [some (.ref 0), some (.int 4), some (.int (Int32.ofNat q)), none, none], [], _) _
  refine am_Rn.go (t := am_t83) rfl 3 rfl ⟨trivial, trivial, trivial, trivial⟩ ?_
  refine am_Rn.call (t := am_t83) rfl rfl (sx_isWithin ..) ?_
  rintro _ _ ⟨rfl, rfl⟩
  refine am_Rn.go (t := am_t83) rfl 1 rfl ⟨trivial, trivial⟩ ?_
  refine am_Rn.brF (fun z => am_b0.mp z (by decide)) ?_
  refine am_Rn.go (t := am_t83) rfl 2 rfl ⟨trivial, trivial, trivial⟩ ?_
  refine am_Rn.call (t := am_t83) rfl rfl (sx_isPerson (hP := hP) ..) ?_
  rintro _ _ ⟨rfl, rfl⟩
  refine am_Rn.go (t := am_t83) rfl 1 rfl ⟨trivial, trivial⟩ ?_
  refine am_Rn.brF (fun z => am_b0.mp z (am_pers2 hP hq)) ?_
  refine am_Rn.go (t := am_t83) rfl 4 rfl ⟨trivial, trivial, trivial, trivial, trivial⟩ ?_
  refine am_Rn.call (t := am_t83) rfl rfl (sx_markBody0 sc q (by omega) 0 (hP := hP) ..) ?_
  rintro _ _ ⟨rfl, rfl⟩
  refine am_Rn.go (t := am_t83) rfl 3 rfl ⟨trivial, trivial, trivial, trivial⟩ ?_
  refine am_Rn.brF (by decide) ?_
  refine am_Rn.go (t := am_t83) rfl 6 rfl ⟨trivial, trivial, (by exact am_inb_lit rfl), trivial, trivial, trivial, trivial⟩ ?_
  refine am_Rn.brT (by decide) ?_
  refine am_Rn.go (t := am_t83) rfl 4 rfl ⟨trivial, trivial, trivial, trivial, trivial⟩ ?_
  refine am_Rn.call (t := am_t83) rfl rfl (sx_markBody4 sc q (by omega) (co q) (hP := hP) ..) ?_
  rintro _ _ ⟨rfl, rfl⟩
  refine am_Rn.ret (t := am_t83) rfl rfl trivial ?_
  refine ⟨rfl, ?_⟩
  rw [show (tr + 10001 : Int64) = ((tr + 1) + 10000) from (Int64.add_assoc tr 1 10000).symm]
theorem sx_mark5 (sc : am_Sc) (q : Nat) (tr : Int64) (nu la me tc ts : Nat → Int32) (P : Nat) (hP : P ≤ 9) (rn : Nat) (pr pv sa pd lo : Int32) (bo co sh se si er of_ bi bt so : Nat → Int32) (B2 B3 : List am_E) (Bs : am_M) (hq : q < P) : am_Rn sc 83 (0, am_entry 83 [.ref 0, .int 5, .int (Int32.ofNat q)], [], bkMain tr :: bkRules 32 nu la me tc ts (Int32.ofNat P) :: B2 :: B3 :: bkRoom 128 32 (Int32.ofNat rn) pr pv sa pd lo bo co sh se si er of_ bi bt so :: Bs) (fun r M' => r = some (.int (sp_mark nu co sh se (Int32.ofNat rn) pr q 5)) ∧ M' = bkMain (tr + 101001) :: bkRules 32 nu la me tc ts (Int32.ofNat P) :: B2 :: B3 :: bkRoom 128 32 (Int32.ofNat rn) pr pv sa pd lo bo co sh se si er of_ bi bt so :: Bs) := by
  show am_Rn sc 83 (0, [some (.ref 0), some (.int 5), some (.int (Int32.ofNat q)), none, none], [], _) _
  refine am_Rn.go (t := am_t83) rfl 3 rfl ⟨trivial, trivial, trivial, trivial⟩ ?_
  refine am_Rn.call (t := am_t83) rfl rfl (sx_isWithin ..) ?_
  rintro _ _ ⟨rfl, rfl⟩
  refine am_Rn.go (t := am_t83) rfl 1 rfl ⟨trivial, trivial⟩ ?_
  refine am_Rn.brF (fun z => am_b0.mp z (by decide)) ?_
  refine am_Rn.go (t := am_t83) rfl 2 rfl ⟨trivial, trivial, trivial⟩ ?_
  refine am_Rn.call (t := am_t83) rfl rfl (sx_isPerson (hP := hP) ..) ?_
  rintro _ _ ⟨rfl, rfl⟩
  refine am_Rn.go (t := am_t83) rfl 1 rfl ⟨trivial, trivial⟩ ?_
  refine am_Rn.brF (fun z => am_b0.mp z (am_pers2 hP hq)) ?_
  refine am_Rn.go (t := am_t83) rfl 4 rfl ⟨trivial, trivial, trivial, trivial, trivial⟩ ?_
  refine am_Rn.call (t := am_t83) rfl rfl (sx_markBody0 sc q (by omega) 0 (hP := hP) ..) ?_
  rintro _ _ ⟨rfl, rfl⟩
  refine am_Rn.go (t := am_t83) rfl 3 rfl ⟨trivial, trivial, trivial, trivial⟩ ?_
  refine am_Rn.brF (by decide) ?_
  refine am_Rn.go (t := am_t83) rfl 6 rfl ⟨trivial, trivial, (by exact am_inb_lit rfl), trivial, trivial, trivial, trivial⟩ ?_
  refine am_Rn.brF (by decide) ?_
  refine am_Rn.go (t := am_t83) rfl 4 rfl ⟨trivial, trivial, trivial, trivial, trivial⟩ ?_
  show am_Rn sc 83 (31, _, [.int (co q), .int (Int32.ofNat q), .int 3, .ref 0], _) _
  refine am_Rn.call (t := am_t83) rfl rfl (sx_markBody3 sc q (by omega) (co q) (hP := hP) ..) ?_
  rintro _ _ ⟨rfl, rfl⟩
  refine am_Rn.go (t := am_t83) rfl 5 rfl ⟨trivial, trivial, trivial, trivial, trivial, trivial⟩ ?_
  refine am_Rn.call (t := am_t83) rfl rfl (sx_markBody5 sc q (by omega) (co q - Int32.ofNat rn) (hP := hP) ..) ?_
  rintro _ _ ⟨rfl, rfl⟩
  refine am_Rn.ret (t := am_t83) rfl rfl trivial ?_
  refine ⟨rfl, ?_⟩
  rw [show (tr + 101001 : Int64) = (((tr + 1) + 1000) + 100000) from ((Int64.add_assoc (tr + 1) 1000 100000).trans (Int64.add_assoc tr 1 101000)).symm]
theorem sx_mark6 (sc : am_Sc) (q : Nat) (tr : Int64) (nu la me tc ts : Nat → Int32) (P : Nat) (hP : P ≤ 9) (rn : Nat) (pr pv sa pd lo : Int32) (bo co sh se si er of_ bi bt so : Nat → Int32) (B2 B3 : List am_E) (Bs : am_M) (hq : q < P) : am_Rn sc 83 (0, am_entry 83 [.ref 0, .int 6, .int (Int32.ofNat q)], [], bkMain tr :: bkRules 32 nu la me tc ts (Int32.ofNat P) :: B2 :: B3 :: bkRoom 128 32 (Int32.ofNat rn) pr pv sa pd lo bo co sh se si er of_ bi bt so :: Bs) (fun r M' => r = some (.int (sp_mark nu co sh se (Int32.ofNat rn) pr q 6)) ∧ M' = bkMain (tr + 1000101) :: bkRules 32 nu la me tc ts (Int32.ofNat P) :: B2 :: B3 :: bkRoom 128 32 (Int32.ofNat rn) pr pv sa pd lo bo co sh se si er of_ bi bt so :: Bs) := by
  show am_Rn sc 83 (0, [some (.ref 0), some (.int 6), some (.int (Int32.ofNat q)), none, none], [], _) _
  refine am_Rn.go (t := am_t83) rfl 3 rfl ⟨trivial, trivial, trivial, trivial⟩ ?_
  refine am_Rn.call (t := am_t83) rfl rfl (sx_isWithin ..) ?_
  rintro _ _ ⟨rfl, rfl⟩
  refine am_Rn.go (t := am_t83) rfl 1 rfl ⟨trivial, trivial⟩ ?_
  refine am_Rn.brF (fun z => am_b0.mp z (by decide)) ?_
  refine am_Rn.go (t := am_t83) rfl 2 rfl ⟨trivial, trivial, trivial⟩ ?_
  refine am_Rn.call (t := am_t83) rfl rfl (sx_isPerson (hP := hP) ..) ?_
  rintro _ _ ⟨rfl, rfl⟩
  refine am_Rn.go (t := am_t83) rfl 1 rfl ⟨trivial, trivial⟩ ?_
  refine am_Rn.brF (fun z => am_b0.mp z (am_pers2 hP hq)) ?_
  refine am_Rn.go (t := am_t83) rfl 4 rfl ⟨trivial, trivial, trivial, trivial, trivial⟩ ?_
  refine am_Rn.call (t := am_t83) rfl rfl (sx_markBody0 sc q (by omega) 0 (hP := hP) ..) ?_
  rintro _ _ ⟨rfl, rfl⟩
  refine am_Rn.go (t := am_t83) rfl 3 rfl ⟨trivial, trivial, trivial, trivial⟩ ?_
  refine am_Rn.brF (by decide) ?_
  refine am_Rn.go (t := am_t83) rfl 6 rfl ⟨trivial, trivial, (by exact am_inb_lit rfl), trivial, trivial, trivial, trivial⟩ ?_
  refine am_Rn.brF (by decide) ?_
  refine am_Rn.go (t := am_t83) rfl 4 rfl ⟨trivial, trivial, trivial, trivial, trivial⟩ ?_
  show am_Rn sc 83 (31, _, [.int (co q), .int (Int32.ofNat q), .int 2, .ref 0], _) _
  refine am_Rn.call (t := am_t83) rfl rfl (sx_markBody2 sc q (by omega) (co q) (hP := hP) ..) ?_
  rintro _ _ ⟨rfl, rfl⟩
  refine am_Rn.go (t := am_t83) rfl 5 rfl ⟨trivial, trivial, trivial, trivial, trivial, trivial⟩ ?_
  refine am_Rn.call (t := am_t83) rfl rfl (sx_markBody6 sc q (by omega) (co q + pr) (hP := hP) ..) ?_
  rintro _ _ ⟨rfl, rfl⟩
  refine am_Rn.ret (t := am_t83) rfl rfl trivial ?_
  refine ⟨rfl, ?_⟩
  rw [show (tr + 1000101 : Int64) = (((tr + 1) + 100) + 1000000) from ((Int64.add_assoc (tr + 1) 100 1000000).trans (Int64.add_assoc tr 1 1000100)).symm]
theorem sx_mark_F (sc : am_Sc) (w p : Int32) (tr : Int64) (nu la me tc ts : Nat → Int32) (P : Nat) (hP : P ≤ 9) (Bs : am_M) (hw : ¬ ((0 ≤ w ∧ w ≤ 6) ∧ (0 ≤ p ∧ p ≤ Int32.ofNat P - 1))) : am_Rn sc 83 (0, am_entry 83 [.ref 0, .int w, .int p], [], bkMain tr :: bkRules 32 nu la me tc ts (Int32.ofNat P) :: Bs) (fun r M' => r = some (.int (-1000000)) ∧ M' = bkMain tr :: bkRules 32 nu la me tc ts (Int32.ofNat P) :: Bs) := by
  show am_Rn sc 83 (0, [some (.ref 0), some (.int w), some (.int p), none, none], [], _) _
  refine am_Rn.go (t := am_t83) rfl 3 rfl ⟨trivial, trivial, trivial, trivial⟩ ?_
  refine am_Rn.call (t := am_t83) rfl rfl (sx_isWithin ..) ?_
  rintro _ _ ⟨rfl, rfl⟩
  refine am_Rn.go (t := am_t83) rfl 1 rfl ⟨trivial, trivial⟩ ?_
  refine am_Rn.brB (fun h1 => ?_) (fun h1 => ?_)
  · skip
    refine am_Rn.go (t := am_t83) rfl 1 rfl ⟨trivial, trivial⟩ ?_
    refine am_Rn.ret (t := am_t83) rfl rfl trivial ?_
    exact ⟨rfl, rfl⟩
  · skip
    refine am_Rn.go (t := am_t83) rfl 2 rfl ⟨trivial, trivial, trivial⟩ ?_
    refine am_Rn.call (t := am_t83) rfl rfl (sx_isPerson (hP := hP) ..) ?_
    rintro _ _ ⟨rfl, rfl⟩
    refine am_Rn.go (t := am_t83) rfl 1 rfl ⟨trivial, trivial⟩ ?_
    refine am_Rn.brB (fun h2 => ?_) (fun h2 => ?_)
    · skip
      refine am_Rn.go (t := am_t83) rfl 1 rfl ⟨trivial, trivial⟩ ?_
      refine am_Rn.ret (t := am_t83) rfl rfl trivial ?_
      exact ⟨rfl, rfl⟩
    · skip
      exact absurd ⟨(by assumption), (by assumption)⟩ hw
theorem sx_rules_F (sc : am_Sc)  (tr : Int64) (tx : Nat → Int32) (n : Nat) (hn : n ≤ 400) (it fa nx pl ki va tw : Int32) (nu3 la3 me3 tc3 ts3 : Nat → Int32) (pe3 : Int32) (B1 : List am_E) (Bs : am_M) (p : Nat) (hS : sp_items tx n 401 0 0 (sp_usual nu3, la3, me3, tc3, ts3, 0) 0 = .inl p) : am_Rn sc 59 (0, am_entry 59 [.ref 0], [], bkMain tr :: B1 :: bkReader tx (Int32.ofNat n) it fa nx pl ki va tw :: bkRules 96 nu3 la3 me3 tc3 ts3 pe3 :: Bs) (fun r M' => ∃ it2 nx2 pl2 ki2 va2 tw2 nu4 la4 me4 tc4 ts4 pe4, r = some (.int (-10 - Int32.ofNat p)) ∧ M' = bkMain tr :: B1 :: bkReader tx (Int32.ofNat n) it2 (Int32.ofNat p) nx2 pl2 ki2 va2 tw2 :: bkRules 96 nu4 la4 me4 tc4 ts4 pe4 :: Bs) := by
  show am_Rn sc 59 (0, [some (.ref 0)], [], _) _
  refine am_Rn.go (t := am_t59) rfl 2 rfl ⟨trivial, trivial, trivial⟩ ?_
  refine am_Rn.call (t := am_t59) rfl rfl (sx_read sc tx n hn ..) ?_
  rw [hS]
  rintro _ _ ⟨it2, nx2, pl2, ki2, va2, tw2, nu4, la4, me4, tc4, ts4, pe4, rfl, rfl⟩
  refine am_Rn.go (t := am_t59) rfl 1 rfl ⟨trivial, trivial⟩ ?_
  refine am_Rn.brT (by decide) ?_
  refine am_Rn.go (t := am_t59) rfl 5 rfl ⟨trivial, trivial, trivial, trivial, trivial, trivial⟩ ?_
  refine am_Rn.ret (t := am_t59) rfl rfl trivial ?_
  exact ⟨_, _, _, _, _, _, _, _, _, _, _, _, rfl, rfl⟩
theorem sx_rules_T (sc : am_Sc)  (tr : Int64) (nu la me tc ts : Nat → Int32) (P : Nat) (hP : P ≤ 9) (tx : Nat → Int32) (n : Nat) (hn : n ≤ 400) (it fa nx pl ki va tw : Int32) (nu3 la3 me3 tc3 ts3 : Nat → Int32) (pe3 : Int32) (rn : Nat) (pr pv sa pd lo : Int32) (bo co sh se si er of_ bi bt so : Nat → Int32) (k7 : Int32) (k9 : Int32) (B5 B6 B8 : List am_E) (Bs : am_M) (X : sp_DR × Nat) (hS : sp_items tx n 401 0 0 (sp_usual nu3, la3, me3, tc3, ts3, 0) 0 = .inr X) : am_Rn sc 59 (0, am_entry 59 [.ref 0], [], bkMain tr :: bkRules 32 nu la me tc ts (Int32.ofNat P) :: bkReader tx (Int32.ofNat n) it fa nx pl ki va tw :: bkRules 96 nu3 la3 me3 tc3 ts3 pe3 :: bkRoom 128 32 (Int32.ofNat rn) pr pv sa pd lo bo co sh se si er of_ bi bt so :: B5 :: B6 :: bkImg 256 k7 :: B8 :: bkImg 320 k9 :: Bs) (fun r M' => ∃ fa2 nx2 pl2 ki2 va2 tw2, r = some (.int (Int32.ofNat X.2)) ∧ M' = bkMain tr :: bkRules 32 (sp_cp 10 (sp_settle X.1.1) nu) (sp_cp 9 X.1.2.1 la) (sp_cp 9 X.1.2.2.1 me) (sp_cp 9 X.1.2.2.2.1 tc) (sp_cp 9 X.1.2.2.2.2.1 ts) (Int32.ofNat X.1.2.2.2.2.2) :: bkReader tx 0 (Int32.ofNat X.2) fa2 nx2 pl2 ki2 va2 tw2 :: bkRules 96 (sp_settle X.1.1) X.1.2.1 X.1.2.2.1 X.1.2.2.2.1 X.1.2.2.2.2.1 (Int32.ofNat X.1.2.2.2.2.2) :: bkRoom 128 32 0 ((sp_cp 10 (sp_settle X.1.1) nu) 4) ((sp_cp 10 (sp_settle X.1.1) nu) 4) 0 0 lo bo (am_fold 9 (sp_begOne (sp_cp 9 X.1.2.2.2.1 tc) (sp_cp 9 X.1.2.2.2.2.1 ts)) (co, sh, si)).1 (am_fold 9 (sp_begOne (sp_cp 9 X.1.2.2.2.1 tc) (sp_cp 9 X.1.2.2.2.2.1 ts)) (co, sh, si)).2.1 (am_fold 9 sp_forOne (se, er, of_)).1 (am_fold 9 (sp_begOne (sp_cp 9 X.1.2.2.2.1 tc) (sp_cp 9 X.1.2.2.2.2.1 ts)) (co, sh, si)).2.2 (am_fold 9 sp_forOne (se, er, of_)).2.1 (am_fold 9 sp_forOne (se, er, of_)).2.2 bi bt so :: B5 :: B6 :: bkImg 256 0 :: B8 :: bkImg 320 0 :: Bs) := by
  show am_Rn sc 59 (0, [some (.ref 0)], [], _) _
  refine am_Rn.go (t := am_t59) rfl 2 rfl ⟨trivial, trivial, trivial⟩ ?_
  refine am_Rn.call (t := am_t59) rfl rfl (sx_read sc tx n hn ..) ?_
  rw [hS]
  rintro _ _ ⟨fa2, nx2, pl2, ki2, va2, tw2, rfl, rfl⟩
  refine am_Rn.go (t := am_t59) rfl 1 rfl ⟨trivial, trivial⟩ ?_
  refine am_Rn.brF (by decide) ?_
  refine am_Rn.go (t := am_t59) rfl 5 rfl ⟨trivial, trivial, trivial, trivial, trivial, trivial⟩ ?_
  refine am_Rn.call (t := am_t59) rfl rfl (sx_rbecome_td ..) ?_
  rintro _ _ ⟨rfl, rfl⟩
  refine am_Rn.go (t := am_t59) rfl 6 rfl ⟨trivial, trivial, trivial, trivial, trivial, trivial, trivial⟩ ?_
  refine am_Rn.call (t := am_t59) rfl rfl (sx_forget_A ..) ?_
  rintro _ _ ⟨rfl, rfl⟩
  refine am_Rn.go (t := am_t59) rfl 2 rfl ⟨trivial, trivial, trivial⟩ ?_
  refine am_Rn.call (t := am_t59) rfl rfl (sx_begin_A ..) ?_
  rintro _ _ ⟨rfl, rfl⟩
  refine am_Rn.go (t := am_t59) rfl 11 rfl ⟨trivial, trivial, trivial, (by first | exact Or.inl rfl | exact Or.inr rfl | exact am_b01 _), trivial, trivial, trivial, (by first | exact Or.inl rfl | exact Or.inr rfl | exact am_b01 _), trivial, trivial, trivial, trivial⟩ ?_
  refine am_Rn.ret (t := am_t59) rfl rfl trivial ?_
  exact ⟨_, _, _, _, _, _, rfl, rfl⟩

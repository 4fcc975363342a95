theorem sx_become_BA (sc : am_Sc) (rd pr pv sa pd lo : Int32) (bo co sh se si er of_ bi bt so : Nat → Int32) (rd2 pr2 pv2 sa2 pd2 lo2 : Int32) (bo2 co2 sh2 se2 si2 er2 of_2 bi2 bt2 so2 : Nat → Int32) (B0 B1 B2 B3 B5 : List am_E) (Bs : am_M) : am_Rn sc 30 (0, am_entry 30 [.ref 192, .ref 128], [], B0 :: B1 :: B2 :: B3 :: bkRoom 128 32 rd pr pv sa pd lo bo co sh se si er of_ bi bt so :: B5 :: bkRoom 192 160 rd2 pr2 pv2 sa2 pd2 lo2 bo2 co2 sh2 se2 si2 er2 of_2 bi2 bt2 so2 :: Bs) (fun r M' => r = none ∧ M' = B0 :: B1 :: B2 :: B3 :: bkRoom 128 32 rd pr pv sa pd lo bo co sh se si er of_ bi bt so :: B5 :: bkRoom 192 160 rd pr pv sa pd lo (sp_cp 20 bo bo2) (sp_cp 9 co co2) (sp_cp 9 sh sh2) (sp_cp 9 se se2) (sp_cp 9 si si2) (sp_cp 9 er er2) (sp_cp 9 of_ of_2) bi2 bt2 so2 :: Bs) := by
  show am_Rn sc 30 (0, [some (.ref 192), some (.ref 128)], [], _) _
  refine am_Rn.go (t := am_t30) rfl 4 rfl ⟨trivial, trivial, trivial, trivial, trivial⟩ ?_
  show am_Rn sc 30 (4, _, _, B0 :: B1 :: B2 :: B3 :: bkRoom 128 32 rd pr pv sa pd lo bo co sh se si er of_ bi bt so :: B5 :: bkRoom 192 160 rd pr2 pv2 sa2 pd2 lo2 bo2 co2 sh2 se2 si2 er2 of_2 bi2 bt2 so2 :: Bs) _
  refine am_Rn.go (t := am_t30) rfl 4 rfl ⟨trivial, trivial, trivial, trivial, trivial⟩ ?_
  show am_Rn sc 30 (8, _, _, B0 :: B1 :: B2 :: B3 :: bkRoom 128 32 rd pr pv sa pd lo bo co sh se si er of_ bi bt so :: B5 :: bkRoom 192 160 rd pr pv2 sa2 pd2 lo2 bo2 co2 sh2 se2 si2 er2 of_2 bi2 bt2 so2 :: Bs) _
  refine am_Rn.go (t := am_t30) rfl 4 rfl ⟨trivial, trivial, trivial, trivial, trivial⟩ ?_
  show am_Rn sc 30 (12, _, _, B0 :: B1 :: B2 :: B3 :: bkRoom 128 32 rd pr pv sa pd lo bo co sh se si er of_ bi bt so :: B5 :: bkRoom 192 160 rd pr pv sa2 pd2 lo2 bo2 co2 sh2 se2 si2 er2 of_2 bi2 bt2 so2 :: Bs) _
  refine am_Rn.go (t := am_t30) rfl 4 rfl ⟨trivial, trivial, trivial, trivial, trivial⟩ ?_
  show am_Rn sc 30 (16, _, _, B0 :: B1 :: B2 :: B3 :: bkRoom 128 32 rd pr pv sa pd lo bo co sh se si er of_ bi bt so :: B5 :: bkRoom 192 160 rd pr pv sa pd2 lo2 bo2 co2 sh2 se2 si2 er2 of_2 bi2 bt2 so2 :: Bs) _
  refine am_Rn.go (t := am_t30) rfl 4 rfl ⟨trivial, trivial, trivial, trivial, trivial⟩ ?_
  show am_Rn sc 30 (20, _, _, B0 :: B1 :: B2 :: B3 :: bkRoom 128 32 rd pr pv sa pd lo bo co sh se si er of_ bi bt so :: B5 :: bkRoom 192 160 rd pr pv sa pd lo2 bo2 co2 sh2 se2 si2 er2 of_2 bi2 bt2 so2 :: Bs) _
  refine am_Rn.go (t := am_t30) rfl 4 rfl ⟨trivial, trivial, trivial, trivial, trivial⟩ ?_
  show am_Rn sc 30 (24, _, _, B0 :: B1 :: B2 :: B3 :: bkRoom 128 32 rd pr pv sa pd lo bo co sh se si er of_ bi bt so :: B5 :: bkRoom 192 160 rd pr pv sa pd lo bo2 co2 sh2 se2 si2 er2 of_2 bi2 bt2 so2 :: Bs) _
  refine am_Rn.go (t := am_t30) rfl 8 rfl ⟨trivial, trivial, trivial, trivial, trivial, trivial, trivial, ⟨⟨by decide, by decide, by decide⟩, by decide, by decide⟩, trivial⟩ ?_
  show am_Rn sc 30 (32, _, _, B0 :: B1 :: B2 :: B3 :: bkRoom 128 32 rd pr pv sa pd lo bo co sh se si er of_ bi bt so :: B5 :: bkRoom 192 160 rd pr pv sa pd lo (sp_cp 20 bo bo2) co2 sh2 se2 si2 er2 of_2 bi2 bt2 so2 :: Bs) _
  refine am_Rn.go (t := am_t30) rfl 8 rfl ⟨trivial, trivial, trivial, trivial, trivial, trivial, trivial, ⟨⟨by decide, by decide, by decide⟩, by decide, by decide⟩, trivial⟩ ?_
  show am_Rn sc 30 (40, _, _, B0 :: B1 :: B2 :: B3 :: bkRoom 128 32 rd pr pv sa pd lo bo co sh se si er of_ bi bt so :: B5 :: bkRoom 192 160 rd pr pv sa pd lo (sp_cp 20 bo bo2) (sp_cp 9 co co2) sh2 se2 si2 er2 of_2 bi2 bt2 so2 :: Bs) _
  refine am_Rn.go (t := am_t30) rfl 8 rfl ⟨trivial, trivial, trivial, trivial, trivial, trivial, trivial, ⟨⟨by decide, by decide, by decide⟩, by decide, by decide⟩, trivial⟩ ?_
  show am_Rn sc 30 (48, _, _, B0 :: B1 :: B2 :: B3 :: bkRoom 128 32 rd pr pv sa pd lo bo co sh se si er of_ bi bt so :: B5 :: bkRoom 192 160 rd pr pv sa pd lo (sp_cp 20 bo bo2) (sp_cp 9 co co2) (sp_cp 9 sh sh2) se2 si2 er2 of_2 bi2 bt2 so2 :: Bs) _
  refine am_Rn.go (t := am_t30) rfl 8 rfl ⟨trivial, trivial, trivial, trivial, trivial, trivial, trivial, ⟨⟨by decide, by decide, by decide⟩, by decide, by decide⟩, trivial⟩ ?_
  show am_Rn sc 30 (56, _, _, B0 :: B1 :: B2 :: B3 :: bkRoom 128 32 rd pr pv sa pd lo bo co sh se si er of_ bi bt so :: B5 :: bkRoom 192 160 rd pr pv sa pd lo (sp_cp 20 bo bo2) (sp_cp 9 co co2) (sp_cp 9 sh sh2) (sp_cp 9 se se2) si2 er2 of_2 bi2 bt2 so2 :: Bs) _
  refine am_Rn.go (t := am_t30) rfl 8 rfl ⟨trivial, trivial, trivial, trivial, trivial, trivial, trivial, ⟨⟨by decide, by decide, by decide⟩, by decide, by decide⟩, trivial⟩ ?_
  show am_Rn sc 30 (64, _, _, B0 :: B1 :: B2 :: B3 :: bkRoom 128 32 rd pr pv sa pd lo bo co sh se si er of_ bi bt so :: B5 :: bkRoom 192 160 rd pr pv sa pd lo (sp_cp 20 bo bo2) (sp_cp 9 co co2) (sp_cp 9 sh sh2) (sp_cp 9 se se2) (sp_cp 9 si si2) er2 of_2 bi2 bt2 so2 :: Bs) _
  refine am_Rn.go (t := am_t30) rfl 8 rfl ⟨trivial, trivial, trivial, trivial, trivial, trivial, trivial, ⟨⟨by decide, by decide, by decide⟩, by decide, by decide⟩, trivial⟩ ?_
  show am_Rn sc 30 (72, _, _, B0 :: B1 :: B2 :: B3 :: bkRoom 128 32 rd pr pv sa pd lo bo co sh se si er of_ bi bt so :: B5 :: bkRoom 192 160 rd pr pv sa pd lo (sp_cp 20 bo bo2) (sp_cp 9 co co2) (sp_cp 9 sh sh2) (sp_cp 9 se se2) (sp_cp 9 si si2) (sp_cp 9 er er2) of_2 bi2 bt2 so2 :: Bs) _
  refine am_Rn.go (t := am_t30) rfl 8 rfl ⟨trivial, trivial, trivial, trivial, trivial, trivial, trivial, ⟨⟨by decide, by decide, by decide⟩, by decide, by decide⟩, trivial⟩ ?_
  show am_Rn sc 30 (80, _, _, B0 :: B1 :: B2 :: B3 :: bkRoom 128 32 rd pr pv sa pd lo bo co sh se si er of_ bi bt so :: B5 :: bkRoom 192 160 rd pr pv sa pd lo (sp_cp 20 bo bo2) (sp_cp 9 co co2) (sp_cp 9 sh sh2) (sp_cp 9 se se2) (sp_cp 9 si si2) (sp_cp 9 er er2) (sp_cp 9 of_ of_2) bi2 bt2 so2 :: Bs) _
  refine am_Rn.ret (t := am_t30) rfl rfl trivial ?_
  exact ⟨rfl, rfl⟩
theorem sx_become_CA (sc : am_Sc) (rd pr pv sa pd lo : Int32) (bo co sh se si er of_ bi bt so : Nat → Int32) (rd2 pr2 pv2 sa2 pd2 lo2 : Int32) (bo2 co2 sh2 se2 si2 er2 of_2 bi2 bt2 so2 : Nat → Int32) (B0 B1 B2 B3 B5 B6 B7 : List am_E) (Bs : am_M) : am_Rn sc 30 (0, am_entry 30 [.ref 256, .ref 128], [], B0 :: B1 :: B2 :: B3 :: bkRoom 128 32 rd pr pv sa pd lo bo co sh se si er of_ bi bt so :: B5 :: B6 :: B7 :: bkRoom 256 32 rd2 pr2 pv2 sa2 pd2 lo2 bo2 co2 sh2 se2 si2 er2 of_2 bi2 bt2 so2 :: Bs) (fun r M' => r = none ∧ M' = B0 :: B1 :: B2 :: B3 :: bkRoom 128 32 rd pr pv sa pd lo bo co sh se si er of_ bi bt so :: B5 :: B6 :: B7 :: bkRoom 256 32 rd pr pv sa pd lo (sp_cp 20 bo bo2) (sp_cp 9 co co2) (sp_cp 9 sh sh2) (sp_cp 9 se se2) (sp_cp 9 si si2) (sp_cp 9 er er2) (sp_cp 9 of_ of_2) bi2 bt2 so2 :: Bs) := by
  show am_Rn sc 30 (0, [some (.ref 256), some (.ref 128)], [], _) _
  refine am_Rn.go (t := am_t30) rfl 4 rfl ⟨trivial, trivial, trivial, trivial, trivial⟩ ?_
  show am_Rn sc 30 (4, _, _, B0 :: B1 :: B2 :: B3 :: bkRoom 128 32 rd pr pv sa pd lo bo co sh se si er of_ bi bt so :: B5 :: B6 :: B7 :: bkRoom 256 32 rd pr2 pv2 sa2 pd2 lo2 bo2 co2 sh2 se2 si2 er2 of_2 bi2 bt2 so2 :: Bs) _
  refine am_Rn.go (t := am_t30) rfl 4 rfl ⟨trivial, trivial, trivial, trivial, trivial⟩ ?_
  show am_Rn sc 30 (8, _, _, B0 :: B1 :: B2 :: B3 :: bkRoom 128 32 rd pr pv sa pd lo bo co sh se si er of_ bi bt so :: B5 :: B6 :: B7 :: bkRoom 256 32 rd pr pv2 sa2 pd2 lo2 bo2 co2 sh2 se2 si2 er2 of_2 bi2 bt2 so2 :: Bs) _
  refine am_Rn.go (t := am_t30) rfl 4 rfl ⟨trivial, trivial, trivial, trivial, trivial⟩ ?_
  show am_Rn sc 30 (12, _, _, B0 :: B1 :: B2 :: B3 :: bkRoom 128 32 rd pr pv sa pd lo bo co sh se si er of_ bi bt so :: B5 :: B6 :: B7 :: bkRoom 256 32 rd pr pv sa2 pd2 lo2 bo2 co2 sh2 se2 si2 er2 of_2 bi2 bt2 so2 :: Bs) _
  refine am_Rn.go (t := am_t30) rfl 4 rfl ⟨trivial, trivial, trivial, trivial, trivial⟩ ?_
  show am_Rn sc 30 (16, _, _, B0 :: B1 :: B2 :: B3 :: bkRoom 128 32 rd pr pv sa pd lo bo co sh se si er of_ bi bt so :: B5 :: B6 :: B7 :: bkRoom 256 32 rd pr pv sa pd2 lo2 bo2 co2 sh2 se2 si2 er2 of_2 bi2 bt2 so2 :: Bs) _
  refine am_Rn.go (t := am_t30) rfl 4 rfl ⟨trivial, trivial, trivial, trivial, trivial⟩ ?_
  show am_Rn sc 30 (20, _, _, B0 :: B1 :: B2 :: B3 :: bkRoom 128 32 rd pr pv sa pd lo bo co sh se si er of_ bi bt so :: B5 :: B6 :: B7 :: bkRoom 256 32 rd pr pv sa pd lo2 bo2 co2 sh2 se2 si2 er2 of_2 bi2 bt2 so2 :: Bs) _
  refine am_Rn.go (t := am_t30) rfl 4 rfl ⟨trivial, trivial, trivial, trivial, trivial⟩ ?_
  show am_Rn sc 30 (24, _, _, B0 :: B1 :: B2 :: B3 :: bkRoom 128 32 rd pr pv sa pd lo bo co sh se si er of_ bi bt so :: B5 :: B6 :: B7 :: bkRoom 256 32 rd pr pv sa pd lo bo2 co2 sh2 se2 si2 er2 of_2 bi2 bt2 so2 :: Bs) _
  refine am_Rn.go (t := am_t30) rfl 8 rfl ⟨trivial, trivial, trivial, trivial, trivial, trivial, trivial, ⟨⟨by decide, by decide, by decide⟩, by decide, by decide⟩, trivial⟩ ?_
  show am_Rn sc 30 (32, _, _, B0 :: B1 :: B2 :: B3 :: bkRoom 128 32 rd pr pv sa pd lo bo co sh se si er of_ bi bt so :: B5 :: B6 :: B7 :: bkRoom 256 32 rd pr pv sa pd lo (sp_cp 20 bo bo2) co2 sh2 se2 si2 er2 of_2 bi2 bt2 so2 :: Bs) _
  refine am_Rn.go (t := am_t30) rfl 8 rfl ⟨trivial, trivial, trivial, trivial, trivial, trivial, trivial, ⟨⟨by decide, by decide, by decide⟩, by decide, by decide⟩, trivial⟩ ?_
  show am_Rn sc 30 (40, _, _, B0 :: B1 :: B2 :: B3 :: bkRoom 128 32 rd pr pv sa pd lo bo co sh se si er of_ bi bt so :: B5 :: B6 :: B7 :: bkRoom 256 32 rd pr pv sa pd lo (sp_cp 20 bo bo2) (sp_cp 9 co co2) sh2 se2 si2 er2 of_2 bi2 bt2 so2 :: Bs) _
  refine am_Rn.go (t := am_t30) rfl 8 rfl ⟨trivial, trivial, trivial, trivial, trivial, trivial, trivial, ⟨⟨by decide, by decide, by decide⟩, by decide, by decide⟩, trivial⟩ ?_
  show am_Rn sc 30 (48, _, _, B0 :: B1 :: B2 :: B3 :: bkRoom 128 32 rd pr pv sa pd lo bo co sh se si er of_ bi bt so :: B5 :: B6 :: B7 :: bkRoom 256 32 rd pr pv sa pd lo (sp_cp 20 bo bo2) (sp_cp 9 co co2) (sp_cp 9 sh sh2) se2 si2 er2 of_2 bi2 bt2 so2 :: Bs) _
  refine am_Rn.go (t := am_t30) rfl 8 rfl ⟨trivial, trivial, trivial, trivial, trivial, trivial, trivial, ⟨⟨by decide, by decide, by decide⟩, by decide, by decide⟩, trivial⟩ ?_
  show am_Rn sc 30 (56, _, _, B0 :: B1 :: B2 :: B3 :: bkRoom 128 32 rd pr pv sa pd lo bo co sh se si er of_ bi bt so :: B5 :: B6 :: B7 :: bkRoom 256 32 rd pr pv sa pd lo (sp_cp 20 bo bo2) (sp_cp 9 co co2) (sp_cp 9 sh sh2) (sp_cp 9 se se2) si2 er2 of_2 bi2 bt2 so2 :: Bs) _
  refine am_Rn.go (t := am_t30) rfl 8 rfl ⟨trivial, trivial, trivial, trivial, trivial, trivial, trivial, ⟨⟨by decide, by decide, by decide⟩, by decide, by decide⟩, trivial⟩ ?_
  show am_Rn sc 30 (64, _, _, B0 :: B1 :: B2 :: B3 :: bkRoom 128 32 rd pr pv sa pd lo bo co sh se si er of_ bi bt so :: B5 :: B6 :: B7 :: bkRoom 256 32 rd pr pv sa pd lo (sp_cp 20 bo bo2) (sp_cp 9 co co2) (sp_cp 9 sh sh2) (sp_cp 9 se se2) (sp_cp 9 si si2) er2 of_2 bi2 bt2 so2 :: Bs) _
  refine am_Rn.go (t := am_t30) rfl 8 rfl ⟨trivial, trivial, trivial, trivial, trivial, trivial, trivial, ⟨⟨by decide, by decide, by decide⟩, by decide, by decide⟩, trivial⟩ ?_
  show am_Rn sc 30 (72, _, _, B0 :: B1 :: B2 :: B3 :: bkRoom 128 32 rd pr pv sa pd lo bo co sh se si er of_ bi bt so :: B5 :: B6 :: B7 :: bkRoom 256 32 rd pr pv sa pd lo (sp_cp 20 bo bo2) (sp_cp 9 co co2) (sp_cp 9 sh sh2) (sp_cp 9 se se2) (sp_cp 9 si si2) (sp_cp 9 er er2) of_2 bi2 bt2 so2 :: Bs) _
  refine am_Rn.go (t := am_t30) rfl 8 rfl ⟨trivial, trivial, trivial, trivial, trivial, trivial, trivial, ⟨⟨by decide, by decide, by decide⟩, by decide, by decide⟩, trivial⟩ ?_
  show am_Rn sc 30 (80, _, _, B0 :: B1 :: B2 :: B3 :: bkRoom 128 32 rd pr pv sa pd lo bo co sh se si er of_ bi bt so :: B5 :: B6 :: B7 :: bkRoom 256 32 rd pr pv sa pd lo (sp_cp 20 bo bo2) (sp_cp 9 co co2) (sp_cp 9 sh sh2) (sp_cp 9 se se2) (sp_cp 9 si si2) (sp_cp 9 er er2) (sp_cp 9 of_ of_2) bi2 bt2 so2 :: Bs) _
  refine am_Rn.ret (t := am_t30) rfl rfl trivial ?_
  exact ⟨rfl, rfl⟩
theorem sx_become_DA (sc : am_Sc) (rd pr pv sa pd lo : Int32) (bo co sh se si er of_ bi bt so : Nat → Int32) (rd2 pr2 pv2 sa2 pd2 lo2 : Int32) (bo2 co2 sh2 se2 si2 er2 of_2 bi2 bt2 so2 : Nat → Int32) (B0 B1 B2 B3 B5 B6 B7 B8 B9 : List am_E) (Bs : am_M) : am_Rn sc 30 (0, am_entry 30 [.ref 320, .ref 128], [], B0 :: B1 :: B2 :: B3 :: bkRoom 128 32 rd pr pv sa pd lo bo co sh se si er of_ bi bt so :: B5 :: B6 :: B7 :: B8 :: B9 :: bkRoom 320 32 rd2 pr2 pv2 sa2 pd2 lo2 bo2 co2 sh2 se2 si2 er2 of_2 bi2 bt2 so2 :: Bs) (fun r M' => r = none ∧ M' = B0 :: B1 :: B2 :: B3 :: bkRoom 128 32 rd pr pv sa pd lo bo co sh se si er of_ bi bt so :: B5 :: B6 :: B7 :: B8 :: B9 :: bkRoom 320 32 rd pr pv sa pd lo (sp_cp 20 bo bo2) (sp_cp 9 co co2) (sp_cp 9 sh sh2) (sp_cp 9 se se2) (sp_cp 9 si si2) (sp_cp 9 er er2) (sp_cp 9 of_ of_2) bi2 bt2 so2 :: Bs) := by
  show am_Rn sc 30 (0, [some (.ref 320), some (.ref 128)], [], _) _
  refine am_Rn.go (t := am_t30) rfl 4 rfl ⟨trivial, trivial, trivial, trivial, trivial⟩ ?_
  show am_Rn sc 30 (4, _, _, B0 :: B1 :: B2 :: B3 :: bkRoom 128 32 rd pr pv sa pd lo bo co sh se si er of_ bi bt so :: B5 :: B6 :: B7 :: B8 :: B9 :: bkRoom 320 32 rd pr2 pv2 sa2 pd2 lo2 bo2 co2 sh2 se2 si2 er2 of_2 bi2 bt2 so2 :: Bs) _
  refine am_Rn.go (t := am_t30) rfl 4 rfl ⟨trivial, trivial, trivial, trivial, trivial⟩ ?_
  show am_Rn sc 30 (8, _, _, B0 :: B1 :: B2 :: B3 :: bkRoom 128 32 rd pr pv sa pd lo bo co sh se si er of_ bi bt so :: B5 :: B6 :: B7 :: B8 :: B9 :: bkRoom 320 32 rd pr pv2 sa2 pd2 lo2 bo2 co2 sh2 se2 si2 er2 of_2 bi2 bt2 so2 :: Bs) _
  refine am_Rn.go (t := am_t30) rfl 4 rfl ⟨trivial, trivial, trivial, trivial, trivial⟩ ?_
  show am_Rn sc 30 (12, _, _, B0 :: B1 :: B2 :: B3 :: bkRoom 128 32 rd pr pv sa pd lo bo co sh se si er of_ bi bt so :: B5 :: B6 :: B7 :: B8 :: B9 :: bkRoom 320 32 rd pr pv sa2 pd2 lo2 bo2 co2 sh2 se2 si2 er2 of_2 bi2 bt2 so2 :: Bs) _
  refine am_Rn.go (t := am_t30) rfl 4 rfl ⟨trivial, trivial, trivial, trivial, trivial⟩ ?_
  show am_Rn sc 30 (16, _, _, B0 :: B1 :: B2 :: B3 :: bkRoom 128 32 rd pr pv sa pd lo bo co sh se si er of_ bi bt so :: B5 :: B6 :: B7 :: B8 :: B9 :: bkRoom 320 32 rd pr pv sa pd2 lo2 bo2 co2 sh2 se2 si2 er2 of_2 bi2 bt2 so2 :: Bs) _
  refine am_Rn.go (t := am_t30) rfl 4 rfl ⟨trivial, trivial, trivial, trivial, trivial⟩ ?_
  show am_Rn sc 30 (20, _, _, B0 :: B1 :: B2 :: B3 :: bkRoom 128 32 rd pr pv sa pd lo bo co sh se si er of_ bi bt so :: B5 :: B6 :: B7 :: B8 :: B9 :: bkRoom 320 32 rd pr pv sa pd lo2 bo2 co2 sh2 se2 si2 er2 of_2 bi2 bt2 so2 :: Bs) _
  refine am_Rn.go (t := am_t30) rfl 4 rfl ⟨trivial, trivial, trivial, trivial, trivial⟩ ?_
  show am_Rn sc 30 (24, _, _, B0 :: B1 :: B2 :: B3 :: bkRoom 128 32 rd pr pv sa pd lo bo co sh se si er of_ bi bt so :: B5 :: B6 :: B7 :: B8 :: B9 :: bkRoom 320 32 rd pr pv sa pd lo bo2 co2 sh2 se2 si2 er2 of_2 bi2 bt2 so2 :: Bs) _
  refine am_Rn.go (t := am_t30) rfl 8 rfl ⟨trivial, trivial, trivial, trivial, trivial, trivial, trivial, ⟨⟨by decide, by decide, by decide⟩, by decide, by decide⟩, trivial⟩ ?_
  show am_Rn sc 30 (32, _, _, B0 :: B1 :: B2 :: B3 :: bkRoom 128 32 rd pr pv sa pd lo bo co sh se si er of_ bi bt so :: B5 :: B6 :: B7 :: B8 :: B9 :: bkRoom 320 32 rd pr pv sa pd lo (sp_cp 20 bo bo2) co2 sh2 se2 si2 er2 of_2 bi2 bt2 so2 :: Bs) _
  refine am_Rn.go (t := am_t30) rfl 8 rfl ⟨trivial, trivial, trivial, trivial, trivial, trivial, trivial, ⟨⟨by decide, by decide, by decide⟩, by decide, by decide⟩, trivial⟩ ?_
  show am_Rn sc 30 (40, _, _, B0 :: B1 :: B2 :: B3 :: bkRoom 128 32 rd pr pv sa pd lo bo co sh se si er of_ bi bt so :: B5 :: B6 :: B7 :: B8 :: B9 :: bkRoom 320 32 rd pr pv sa pd lo (sp_cp 20 bo bo2) (sp_cp 9 co co2) sh2 se2 si2 er2 of_2 bi2 bt2 so2 :: Bs) _
  refine am_Rn.go (t := am_t30) rfl 8 rfl ⟨trivial, trivial, trivial, trivial, trivial, trivial, trivial, ⟨⟨by decide, by decide, by decide⟩, by decide, by decide⟩, trivial⟩ ?_
  show am_Rn sc 30 (48, _, _, B0 :: B1 :: B2 :: B3 :: bkRoom 128 32 rd pr pv sa pd lo bo co sh se si er of_ bi bt so :: B5 :: B6 :: B7 :: B8 :: B9 :: bkRoom 320 32 rd pr pv sa pd lo (sp_cp 20 bo bo2) (sp_cp 9 co co2) (sp_cp 9 sh sh2) se2 si2 er2 of_2 bi2 bt2 so2 :: Bs) _
  refine am_Rn.go (t := am_t30) rfl 8 rfl ⟨trivial, trivial, trivial, trivial, trivial, trivial, trivial, ⟨⟨by decide, by decide, by decide⟩, by decide, by decide⟩, trivial⟩ ?_
  show am_Rn sc 30 (56, _, _, B0 :: B1 :: B2 :: B3 :: bkRoom 128 32 rd pr pv sa pd lo bo co sh se si er of_ bi bt so :: B5 :: B6 :: B7 :: B8 :: B9 :: bkRoom 320 32 rd pr pv sa pd lo (sp_cp 20 bo bo2) (sp_cp 9 co co2) (sp_cp 9 sh sh2) (sp_cp 9 se se2) si2 er2 of_2 bi2 bt2 so2 :: Bs) _
  refine am_Rn.go (t := am_t30) rfl 8 rfl ⟨trivial, trivial, trivial, trivial, trivial, trivial, trivial, ⟨⟨by decide, by decide, by decide⟩, by decide, by decide⟩, trivial⟩ ?_
  show am_Rn sc 30 (64, _, _, B0 :: B1 :: B2 :: B3 :: bkRoom 128 32 rd pr pv sa pd lo bo co sh se si er of_ bi bt so :: B5 :: B6 :: B7 :: B8 :: B9 :: bkRoom 320 32 rd pr pv sa pd lo (sp_cp 20 bo bo2) (sp_cp 9 co co2) (sp_cp 9 sh sh2) (sp_cp 9 se se2) (sp_cp 9 si si2) er2 of_2 bi2 bt2 so2 :: Bs) _
  refine am_Rn.go (t := am_t30) rfl 8 rfl ⟨trivial, trivial, trivial, trivial, trivial, trivial, trivial, ⟨⟨by decide, by decide, by decide⟩, by decide, by decide⟩, trivial⟩ ?_
  show am_Rn sc 30 (72, _, _, B0 :: B1 :: B2 :: B3 :: bkRoom 128 32 rd pr pv sa pd lo bo co sh se si er of_ bi bt so :: B5 :: B6 :: B7 :: B8 :: B9 :: bkRoom 320 32 rd pr pv sa pd lo (sp_cp 20 bo bo2) (sp_cp 9 co co2) (sp_cp 9 sh sh2) (sp_cp 9 se se2) (sp_cp 9 si si2) (sp_cp 9 er er2) of_2 bi2 bt2 so2 :: Bs) _
  refine am_Rn.go (t := am_t30) rfl 8 rfl ⟨trivial, trivial, trivial, trivial, trivial, trivial, trivial, ⟨⟨by decide, by decide, by decide⟩, by decide, by decide⟩, trivial⟩ ?_
  show am_Rn sc 30 (80, _, _, B0 :: B1 :: B2 :: B3 :: bkRoom 128 32 rd pr pv sa pd lo bo co sh se si er of_ bi bt so :: B5 :: B6 :: B7 :: B8 :: B9 :: bkRoom 320 32 rd pr pv sa pd lo (sp_cp 20 bo bo2) (sp_cp 9 co co2) (sp_cp 9 sh sh2) (sp_cp 9 se se2) (sp_cp 9 si si2) (sp_cp 9 er er2) (sp_cp 9 of_ of_2) bi2 bt2 so2 :: Bs) _
  refine am_Rn.ret (t := am_t30) rfl rfl trivial ?_
  exact ⟨rfl, rfl⟩
theorem sx_become_AC (sc : am_Sc) (rd pr pv sa pd lo : Int32) (bo co sh se si er of_ bi bt so : Nat → Int32) (rd2 pr2 pv2 sa2 pd2 lo2 : Int32) (bo2 co2 sh2 se2 si2 er2 of_2 bi2 bt2 so2 : Nat → Int32) (B0 B1 B2 B3 B5 B6 B7 : List am_E) (Bs : am_M) : am_Rn sc 30 (0, am_entry 30 [.ref 128, .ref 256], [], B0 :: B1 :: B2 :: B3 :: bkRoom 128 32 rd2 pr2 pv2 sa2 pd2 lo2 bo2 co2 sh2 se2 si2 er2 of_2 bi2 bt2 so2 :: B5 :: B6 :: B7 :: bkRoom 256 32 rd pr pv sa pd lo bo co sh se si er of_ bi bt so :: Bs) (fun r M' => r = none ∧ M' = B0 :: B1 :: B2 :: B3 :: bkRoom 128 32 rd pr pv sa pd lo (sp_cp 20 bo bo2) (sp_cp 9 co co2) (sp_cp 9 sh sh2) (sp_cp 9 se se2) (sp_cp 9 si si2) (sp_cp 9 er er2) (sp_cp 9 of_ of_2) bi2 bt2 so2 :: B5 :: B6 :: B7 :: bkRoom 256 32 rd pr pv sa pd lo bo co sh se si er of_ bi bt so :: Bs) := by
  show am_Rn sc 30 (0, [some (.ref 128), some (.ref 256)], [], _) _
  refine am_Rn.go (t := am_t30) rfl 4 rfl ⟨trivial, trivial, trivial, trivial, trivial⟩ ?_
  show am_Rn sc 30 (4, _, _, B0 :: B1 :: B2 :: B3 :: bkRoom 128 32 rd pr2 pv2 sa2 pd2 lo2 bo2 co2 sh2 se2 si2 er2 of_2 bi2 bt2 so2 :: B5 :: B6 :: B7 :: bkRoom 256 32 rd pr pv sa pd lo bo co sh se si er of_ bi bt so :: Bs) _
  refine am_Rn.go (t := am_t30) rfl 4 rfl ⟨trivial, trivial, trivial, trivial, trivial⟩ ?_
  show am_Rn sc 30 (8, _, _, B0 :: B1 :: B2 :: B3 :: bkRoom 128 32 rd pr pv2 sa2 pd2 lo2 bo2 co2 sh2 se2 si2 er2 of_2 bi2 bt2 so2 :: B5 :: B6 :: B7 :: bkRoom 256 32 rd pr pv sa pd lo bo co sh se si er of_ bi bt so :: Bs) _
  refine am_Rn.go (t := am_t30) rfl 4 rfl ⟨trivial, trivial, trivial, trivial, trivial⟩ ?_
  show am_Rn sc 30 (12, _, _, B0 :: B1 :: B2 :: B3 :: bkRoom 128 32 rd pr pv sa2 pd2 lo2 bo2 co2 sh2 se2 si2 er2 of_2 bi2 bt2 so2 :: B5 :: B6 :: B7 :: bkRoom 256 32 rd pr pv sa pd lo bo co sh se si er of_ bi bt so :: Bs) _
  refine am_Rn.go (t := am_t30) rfl 4 rfl ⟨trivial, trivial, trivial, trivial, trivial⟩ ?_
  show am_Rn sc 30 (16, _, _, B0 :: B1 :: B2 :: B3 :: bkRoom 128 32 rd pr pv sa pd2 lo2 bo2 co2 sh2 se2 si2 er2 of_2 bi2 bt2 so2 :: B5 :: B6 :: B7 :: bkRoom 256 32 rd pr pv sa pd lo bo co sh se si er of_ bi bt so :: Bs) _
  refine am_Rn.go (t := am_t30) rfl 4 rfl ⟨trivial, trivial, trivial, trivial, trivial⟩ ?_
  show am_Rn sc 30 (20, _, _, B0 :: B1 :: B2 :: B3 :: bkRoom 128 32 rd pr pv sa pd lo2 bo2 co2 sh2 se2 si2 er2 of_2 bi2 bt2 so2 :: B5 :: B6 :: B7 :: bkRoom 256 32 rd pr pv sa pd lo bo co sh se si er of_ bi bt so :: Bs) _
  refine am_Rn.go (t := am_t30) rfl 4 rfl ⟨trivial, trivial, trivial, trivial, trivial⟩ ?_
  show am_Rn sc 30 (24, _, _, B0 :: B1 :: B2 :: B3 :: bkRoom 128 32 rd pr pv sa pd lo bo2 co2 sh2 se2 si2 er2 of_2 bi2 bt2 so2 :: B5 :: B6 :: B7 :: bkRoom 256 32 rd pr pv sa pd lo bo co sh se si er of_ bi bt so :: Bs) _
  refine am_Rn.go (t := am_t30) rfl 8 rfl ⟨trivial, trivial, trivial, trivial, trivial, trivial, trivial, ⟨⟨by decide, by decide, by decide⟩, by decide, by decide⟩, trivial⟩ ?_
  show am_Rn sc 30 (32, _, _, B0 :: B1 :: B2 :: B3 :: bkRoom 128 32 rd pr pv sa pd lo (sp_cp 20 bo bo2) co2 sh2 se2 si2 er2 of_2 bi2 bt2 so2 :: B5 :: B6 :: B7 :: bkRoom 256 32 rd pr pv sa pd lo bo co sh se si er of_ bi bt so :: Bs) _
  refine am_Rn.go (t := am_t30) rfl 8 rfl ⟨trivial, trivial, trivial, trivial, trivial, trivial, trivial, ⟨⟨by decide, by decide, by decide⟩, by decide, by decide⟩, trivial⟩ ?_
  show am_Rn sc 30 (40, _, _, B0 :: B1 :: B2 :: B3 :: bkRoom 128 32 rd pr pv sa pd lo (sp_cp 20 bo bo2) (sp_cp 9 co co2) sh2 se2 si2 er2 of_2 bi2 bt2 so2 :: B5 :: B6 :: B7 :: bkRoom 256 32 rd pr pv sa pd lo bo co sh se si er of_ bi bt so :: Bs) _
  refine am_Rn.go (t := am_t30) rfl 8 rfl ⟨trivial, trivial, trivial, trivial, trivial, trivial, trivial, ⟨⟨by decide, by decide, by decide⟩, by decide, by decide⟩, trivial⟩ ?_
  show am_Rn sc 30 (48, _, _, B0 :: B1 :: B2 :: B3 :: bkRoom 128 32 rd pr pv sa pd lo (sp_cp 20 bo bo2) (sp_cp 9 co co2) (sp_cp 9 sh sh2) se2 si2 er2 of_2 bi2 bt2 so2 :: B5 :: B6 :: B7 :: bkRoom 256 32 rd pr pv sa pd lo bo co sh se si er of_ bi bt so :: Bs) _
  refine am_Rn.go (t := am_t30) rfl 8 rfl ⟨trivial, trivial, trivial, trivial, trivial, trivial, trivial, ⟨⟨by decide, by decide, by decide⟩, by decide, by decide⟩, trivial⟩ ?_
  show am_Rn sc 30 (56, _, _, B0 :: B1 :: B2 :: B3 :: bkRoom 128 32 rd pr pv sa pd lo (sp_cp 20 bo bo2) (sp_cp 9 co co2) (sp_cp 9 sh sh2) (sp_cp 9 se se2) si2 er2 of_2 bi2 bt2 so2 :: B5 :: B6 :: B7 :: bkRoom 256 32 rd pr pv sa pd lo bo co sh se si er of_ bi bt so :: Bs) _
  refine am_Rn.go (t := am_t30) rfl 8 rfl ⟨trivial, trivial, trivial, trivial, trivial, trivial, trivial, ⟨⟨by decide, by decide, by decide⟩, by decide, by decide⟩, trivial⟩ ?_
  show am_Rn sc 30 (64, _, _, B0 :: B1 :: B2 :: B3 :: bkRoom 128 32 rd pr pv sa pd lo (sp_cp 20 bo bo2) (sp_cp 9 co co2) (sp_cp 9 sh sh2) (sp_cp 9 se se2) (sp_cp 9 si si2) er2 of_2 bi2 bt2 so2 :: B5 :: B6 :: B7 :: bkRoom 256 32 rd pr pv sa pd lo bo co sh se si er of_ bi bt so :: Bs) _
  refine am_Rn.go (t := am_t30) rfl 8 rfl ⟨trivial, trivial, trivial, trivial, trivial, trivial, trivial, ⟨⟨by decide, by decide, by decide⟩, by decide, by decide⟩, trivial⟩ ?_
  show am_Rn sc 30 (72, _, _, B0 :: B1 :: B2 :: B3 :: bkRoom 128 32 rd pr pv sa pd lo (sp_cp 20 bo bo2) (sp_cp 9 co co2) (sp_cp 9 sh sh2) (sp_cp 9 se se2) (sp_cp 9 si si2) (sp_cp 9 er er2) of_2 bi2 bt2 so2 :: B5 :: B6 :: B7 :: bkRoom 256 32 rd pr pv sa pd lo bo co sh se si er of_ bi bt so :: Bs) _
  refine am_Rn.go (t := am_t30) rfl 8 rfl ⟨trivial, trivial, trivial, trivial, trivial, trivial, trivial, ⟨⟨by decide, by decide, by decide⟩, by decide, by decide⟩, trivial⟩ ?_
  show am_Rn sc 30 (80, _, _, B0 :: B1 :: B2 :: B3 :: bkRoom 128 32 rd pr pv sa pd lo (sp_cp 20 bo bo2) (sp_cp 9 co co2) (sp_cp 9 sh sh2) (sp_cp 9 se se2) (sp_cp 9 si si2) (sp_cp 9 er er2) (sp_cp 9 of_ of_2) bi2 bt2 so2 :: B5 :: B6 :: B7 :: bkRoom 256 32 rd pr pv sa pd lo bo co sh se si er of_ bi bt so :: Bs) _
  refine am_Rn.ret (t := am_t30) rfl rfl trivial ?_
  exact ⟨rfl, rfl⟩
theorem sx_become_AD (sc : am_Sc) (rd pr pv sa pd lo : Int32) (bo co sh se si er of_ bi bt so : Nat → Int32) (rd2 pr2 pv2 sa2 pd2 lo2 : Int32) (bo2 co2 sh2 se2 si2 er2 of_2 bi2 bt2 so2 : Nat → Int32) (B0 B1 B2 B3 B5 B6 B7 B8 B9 : List am_E) (Bs : am_M) : am_Rn sc 30 (0, am_entry 30 [.ref 128, .ref 320], [], B0 :: B1 :: B2 :: B3 :: bkRoom 128 32 rd2 pr2 pv2 sa2 pd2 lo2 bo2 co2 sh2 se2 si2 er2 of_2 bi2 bt2 so2 :: B5 :: B6 :: B7 :: B8 :: B9 :: bkRoom 320 32 rd pr pv sa pd lo bo co sh se si er of_ bi bt so :: Bs) (fun r M' => r = none ∧ M' = B0 :: B1 :: B2 :: B3 :: bkRoom 128 32 rd pr pv sa pd lo (sp_cp 20 bo bo2) (sp_cp 9 co co2) (sp_cp 9 sh sh2) (sp_cp 9 se se2) (sp_cp 9 si si2) (sp_cp 9 er er2) (sp_cp 9 of_ of_2) bi2 bt2 so2 :: B5 :: B6 :: B7 :: B8 :: B9 :: bkRoom 320 32 rd pr pv sa pd lo bo co sh se si er of_ bi bt so :: Bs) := by
  show am_Rn sc 30 (0, [some (.ref 128), some (.ref 320)], [], _) _
  refine am_Rn.go (t := am_t30) rfl 4 rfl ⟨trivial, trivial, trivial, trivial, trivial⟩ ?_
  show am_Rn sc 30 (4, _, _, B0 :: B1 :: B2 :: B3 :: bkRoom 128 32 rd pr2 pv2 sa2 pd2 lo2 bo2 co2 sh2 se2 si2 er2 of_2 bi2 bt2 so2 :: B5 :: B6 :: B7 :: B8 :: B9 :: bkRoom 320 32 rd pr pv sa pd lo bo co sh se si er of_ bi bt so :: Bs) _
  refine am_Rn.go (t := am_t30) rfl 4 rfl ⟨trivial, trivial, trivial, trivial, trivial⟩ ?_
  show am_Rn sc 30 (8, _, _, B0 :: B1 :: B2 :: B3 :: bkRoom 128 32 rd pr pv2 sa2 pd2 lo2 bo2 co2 sh2 se2 si2 er2 of_2 bi2 bt2 so2 :: B5 :: B6 :: B7 :: B8 :: B9 :: bkRoom 320 32 rd pr pv sa pd lo bo co sh se si er of_ bi bt so :: Bs) _
  refine am_Rn.go (t := am_t30) rfl 4 rfl ⟨trivial, trivial, trivial, trivial, trivial⟩ ?_
  show am_Rn sc 30 (12, _, _, B0 :: B1 :: B2 :: B3 :: bkRoom 128 32 rd pr pv sa2 pd2 lo2 bo2 co2 sh2 se2 si2 er2 of_2 bi2 bt2 so2 :: B5 :: B6 :: B7 :: B8 :: B9 :: bkRoom 320 32 rd pr pv sa pd lo bo co sh se si er of_ bi bt so :: Bs) _
  refine am_Rn.go (t := am_t30) rfl 4 rfl ⟨trivial, trivial, trivial, trivial, trivial⟩ ?_
  show am_Rn sc 30 (16, _, _, B0 :: B1 :: B2 :: B3 :: bkRoom 128 32 rd pr pv sa pd2 lo2 bo2 co2 sh2 se2 si2 er2 of_2 bi2 bt2 so2 :: B5 :: B6 :: B7 :: B8 :: B9 :: bkRoom 320 32 rd pr pv sa pd lo bo co sh se si er of_ bi bt so :: Bs) _
  refine am_Rn.go (t := am_t30) rfl 4 rfl ⟨trivial, trivial, trivial, trivial, trivial⟩ ?_
  show am_Rn sc 30 (20, _, _, B0 :: B1 :: B2 :: B3 :: bkRoom 128 32 rd pr pv sa pd lo2 bo2 co2 sh2 se2 si2 er2 of_2 bi2 bt2 so2 :: B5 :: B6 :: B7 :: B8 :: B9 :: bkRoom 320 32 rd pr pv sa pd lo bo co sh se si er of_ bi bt so :: Bs) _
  refine am_Rn.go (t := am_t30) rfl 4 rfl ⟨trivial, trivial, trivial, trivial, trivial⟩ ?_
  show am_Rn sc 30 (24, _, _, B0 :: B1 :: B2 :: B3 :: bkRoom 128 32 rd pr pv sa pd lo bo2 co2 sh2 se2 si2 er2 of_2 bi2 bt2 so2 :: B5 :: B6 :: B7 :: B8 :: B9 :: bkRoom 320 32 rd pr pv sa pd lo bo co sh se si er of_ bi bt so :: Bs) _
  refine am_Rn.go (t := am_t30) rfl 8 rfl ⟨trivial, trivial, trivial, trivial, trivial, trivial, trivial, ⟨⟨by decide, by decide, by decide⟩, by decide, by decide⟩, trivial⟩ ?_
  show am_Rn sc 30 (32, _, _, B0 :: B1 :: B2 :: B3 :: bkRoom 128 32 rd pr pv sa pd lo (sp_cp 20 bo bo2) co2 sh2 se2 si2 er2 of_2 bi2 bt2 so2 :: B5 :: B6 :: B7 :: B8 :: B9 :: bkRoom 320 32 rd pr pv sa pd lo bo co sh se si er of_ bi bt so :: Bs) _
  refine am_Rn.go (t := am_t30) rfl 8 rfl ⟨trivial, trivial, trivial, trivial, trivial, trivial, trivial, ⟨⟨by decide, by decide, by decide⟩, by decide, by decide⟩, trivial⟩ ?_
  show am_Rn sc 30 (40, _, _, B0 :: B1 :: B2 :: B3 :: bkRoom 128 32 rd pr pv sa pd lo (sp_cp 20 bo bo2) (sp_cp 9 co co2) sh2 se2 si2 er2 of_2 bi2 bt2 so2 :: B5 :: B6 :: B7 :: B8 :: B9 :: bkRoom 320 32 rd pr pv sa pd lo bo co sh se si er of_ bi bt so :: Bs) _
  refine am_Rn.go (t := am_t30) rfl 8 rfl ⟨trivial, trivial, trivial, trivial, trivial, trivial, trivial, ⟨⟨by decide, by decide, by decide⟩, by decide, by decide⟩, trivial⟩ ?_
  show am_Rn sc 30 (48, _, _, B0 :: B1 :: B2 :: B3 :: bkRoom 128 32 rd pr pv sa pd lo (sp_cp 20 bo bo2) (sp_cp 9 co co2) (sp_cp 9 sh sh2) se2 si2 er2 of_2 bi2 bt2 so2 :: B5 :: B6 :: B7 :: B8 :: B9 :: bkRoom 320 32 rd pr pv sa pd lo bo co sh se si er of_ bi bt so :: Bs) _
  refine am_Rn.go (t := am_t30) rfl 8 rfl ⟨trivial, trivial, trivial, trivial, trivial, trivial, trivial, ⟨⟨by decide, by decide, by decide⟩, by decide, by decide⟩, trivial⟩ ?_
  show am_Rn sc 30 (56, _, _, B0 :: B1 :: B2 :: B3 :: bkRoom 128 32 rd pr pv sa pd lo (sp_cp 20 bo bo2) (sp_cp 9 co co2) (sp_cp 9 sh sh2) (sp_cp 9 se se2) si2 er2 of_2 bi2 bt2 so2 :: B5 :: B6 :: B7 :: B8 :: B9 :: bkRoom 320 32 rd pr pv sa pd lo bo co sh se si er of_ bi bt so :: Bs) _
  refine am_Rn.go (t := am_t30) rfl 8 rfl ⟨trivial, trivial, trivial, trivial, trivial, trivial, trivial, ⟨⟨by decide, by decide, by decide⟩, by decide, by decide⟩, trivial⟩ ?_
  show am_Rn sc 30 (64, _, _, B0 :: B1 :: B2 :: B3 :: bkRoom 128 32 rd pr pv sa pd lo (sp_cp 20 bo bo2) (sp_cp 9 co co2) (sp_cp 9 sh sh2) (sp_cp 9 se se2) (sp_cp 9 si si2) er2 of_2 bi2 bt2 so2 :: B5 :: B6 :: B7 :: B8 :: B9 :: bkRoom 320 32 rd pr pv sa pd lo bo co sh se si er of_ bi bt so :: Bs) _
  refine am_Rn.go (t := am_t30) rfl 8 rfl ⟨trivial, trivial, trivial, trivial, trivial, trivial, trivial, ⟨⟨by decide, by decide, by decide⟩, by decide, by decide⟩, trivial⟩ ?_
  show am_Rn sc 30 (72, _, _, B0 :: B1 :: B2 :: B3 :: bkRoom 128 32 rd pr pv sa pd lo (sp_cp 20 bo bo2) (sp_cp 9 co co2) (sp_cp 9 sh sh2) (sp_cp 9 se se2) (sp_cp 9 si si2) (sp_cp 9 er er2) of_2 bi2 bt2 so2 :: B5 :: B6 :: B7 :: B8 :: B9 :: bkRoom 320 32 rd pr pv sa pd lo bo co sh se si er of_ bi bt so :: Bs) _
  refine am_Rn.go (t := am_t30) rfl 8 rfl ⟨trivial, trivial, trivial, trivial, trivial, trivial, trivial, ⟨⟨by decide, by decide, by decide⟩, by decide, by decide⟩, trivial⟩ ?_
  show am_Rn sc 30 (80, _, _, B0 :: B1 :: B2 :: B3 :: bkRoom 128 32 rd pr pv sa pd lo (sp_cp 20 bo bo2) (sp_cp 9 co co2) (sp_cp 9 sh sh2) (sp_cp 9 se se2) (sp_cp 9 si si2) (sp_cp 9 er er2) (sp_cp 9 of_ of_2) bi2 bt2 so2 :: B5 :: B6 :: B7 :: B8 :: B9 :: bkRoom 320 32 rd pr pv sa pd lo bo co sh se si er of_ bi bt so :: Bs) _
  refine am_Rn.ret (t := am_t30) rfl rfl trivial ?_
  exact ⟨rfl, rfl⟩
theorem sx_rbecome_td (sc : am_Sc) (nu la me tc ts : Nat → Int32) (pe : Int32) (nu2 la2 me2 tc2 ts2 : Nat → Int32) (pe2 : Int32) (B0 B2 : List am_E) (Bs : am_M) : am_Rn sc 52 (0, am_entry 52 [.ref 32, .ref 96], [], B0 :: bkRules 32 nu2 la2 me2 tc2 ts2 pe2 :: B2 :: bkRules 96 nu la me tc ts pe :: Bs) (fun r M' => r = none ∧ M' = B0 :: bkRules 32 (sp_cp 10 nu nu2) (sp_cp 9 la la2) (sp_cp 9 me me2) (sp_cp 9 tc tc2) (sp_cp 9 ts ts2) pe :: B2 :: bkRules 96 nu la me tc ts pe :: Bs) := by
  show am_Rn sc 52 (0, [some (.ref 32), some (.ref 96)], [], _) _
  refine am_Rn.go (t := am_t52) rfl 8 rfl ⟨trivial, trivial, trivial, trivial, trivial, trivial, trivial, ⟨⟨by decide, by decide, by decide⟩, by decide, by decide⟩, trivial⟩ ?_
  show am_Rn sc 52 (8, _, _, B0 :: bkRules 32 (sp_cp 10 nu nu2) la2 me2 tc2 ts2 pe2 :: B2 :: bkRules 96 nu la me tc ts pe :: Bs) _
  refine am_Rn.go (t := am_t52) rfl 8 rfl ⟨trivial, trivial, trivial, trivial, trivial, trivial, trivial, ⟨⟨by decide, by decide, by decide⟩, by decide, by decide⟩, trivial⟩ ?_
  show am_Rn sc 52 (16, _, _, B0 :: bkRules 32 (sp_cp 10 nu nu2) (sp_cp 9 la la2) me2 tc2 ts2 pe2 :: B2 :: bkRules 96 nu la me tc ts pe :: Bs) _
  refine am_Rn.go (t := am_t52) rfl 8 rfl ⟨trivial, trivial, trivial, trivial, trivial, trivial, trivial, ⟨⟨by decide, by decide, by decide⟩, by decide, by decide⟩, trivial⟩ ?_
  show am_Rn sc 52 (24, _, _, B0 :: bkRules 32 (sp_cp 10 nu nu2) (sp_cp 9 la la2) (sp_cp 9 me me2) tc2 ts2 pe2 :: B2 :: bkRules 96 nu la me tc ts pe :: Bs) _
  refine am_Rn.go (t := am_t52) rfl 8 rfl ⟨trivial, trivial, trivial, trivial, trivial, trivial, trivial, ⟨⟨by decide, by decide, by decide⟩, by decide, by decide⟩, trivial⟩ ?_
  show am_Rn sc 52 (32, _, _, B0 :: bkRules 32 (sp_cp 10 nu nu2) (sp_cp 9 la la2) (sp_cp 9 me me2) (sp_cp 9 tc tc2) ts2 pe2 :: B2 :: bkRules 96 nu la me tc ts pe :: Bs) _
  refine am_Rn.go (t := am_t52) rfl 8 rfl ⟨trivial, trivial, trivial, trivial, trivial, trivial, trivial, ⟨⟨by decide, by decide, by decide⟩, by decide, by decide⟩, trivial⟩ ?_
  show am_Rn sc 52 (40, _, _, B0 :: bkRules 32 (sp_cp 10 nu nu2) (sp_cp 9 la la2) (sp_cp 9 me me2) (sp_cp 9 tc tc2) (sp_cp 9 ts ts2) pe2 :: B2 :: bkRules 96 nu la me tc ts pe :: Bs) _
  refine am_Rn.go (t := am_t52) rfl 4 rfl ⟨trivial, trivial, trivial, trivial, trivial⟩ ?_
  refine am_Rn.ret (t := am_t52) rfl rfl trivial ?_
  exact ⟨rfl, rfl⟩
theorem sx_rbecome_vt (sc : am_Sc) (nu la me tc ts : Nat → Int32) (pe : Int32) (nu2 la2 me2 tc2 ts2 : Nat → Int32) (pe2 : Int32) (B0 B2 B3 B4 : List am_E) (Bs : am_M) : am_Rn sc 52 (0, am_entry 52 [.ref 160, .ref 32], [], B0 :: bkRules 32 nu la me tc ts pe :: B2 :: B3 :: B4 :: bkRules 160 nu2 la2 me2 tc2 ts2 pe2 :: Bs) (fun r M' => r = none ∧ M' = B0 :: bkRules 32 nu la me tc ts pe :: B2 :: B3 :: B4 :: bkRules 160 (sp_cp 10 nu nu2) (sp_cp 9 la la2) (sp_cp 9 me me2) (sp_cp 9 tc tc2) (sp_cp 9 ts ts2) pe :: Bs) := by
  show am_Rn sc 52 (0, [some (.ref 160), some (.ref 32)], [], _) _
  refine am_Rn.go (t := am_t52) rfl 8 rfl ⟨trivial, trivial, trivial, trivial, trivial, trivial, trivial, ⟨⟨by decide, by decide, by decide⟩, by decide, by decide⟩, trivial⟩ ?_
  show am_Rn sc 52 (8, _, _, B0 :: bkRules 32 nu la me tc ts pe :: B2 :: B3 :: B4 :: bkRules 160 (sp_cp 10 nu nu2) la2 me2 tc2 ts2 pe2 :: Bs) _
  refine am_Rn.go (t := am_t52) rfl 8 rfl ⟨trivial, trivial, trivial, trivial, trivial, trivial, trivial, ⟨⟨by decide, by decide, by decide⟩, by decide, by decide⟩, trivial⟩ ?_
  show am_Rn sc 52 (16, _, _, B0 :: bkRules 32 nu la me tc ts pe :: B2 :: B3 :: B4 :: bkRules 160 (sp_cp 10 nu nu2) (sp_cp 9 la la2) me2 tc2 ts2 pe2 :: Bs) _
  refine am_Rn.go (t := am_t52) rfl 8 rfl ⟨trivial, trivial, trivial, trivial, trivial, trivial, trivial, ⟨⟨by decide, by decide, by decide⟩, by decide, by decide⟩, trivial⟩ ?_
  show am_Rn sc 52 (24, _, _, B0 :: bkRules 32 nu la me tc ts pe :: B2 :: B3 :: B4 :: bkRules 160 (sp_cp 10 nu nu2) (sp_cp 9 la la2) (sp_cp 9 me me2) tc2 ts2 pe2 :: Bs) _
  refine am_Rn.go (t := am_t52) rfl 8 rfl ⟨trivial, trivial, trivial, trivial, trivial, trivial, trivial, ⟨⟨by decide, by decide, by decide⟩, by decide, by decide⟩, trivial⟩ ?_
  show am_Rn sc 52 (32, _, _, B0 :: bkRules 32 nu la me tc ts pe :: B2 :: B3 :: B4 :: bkRules 160 (sp_cp 10 nu nu2) (sp_cp 9 la la2) (sp_cp 9 me me2) (sp_cp 9 tc tc2) ts2 pe2 :: Bs) _
  refine am_Rn.go (t := am_t52) rfl 8 rfl ⟨trivial, trivial, trivial, trivial, trivial, trivial, trivial, ⟨⟨by decide, by decide, by decide⟩, by decide, by decide⟩, trivial⟩ ?_
  show am_Rn sc 52 (40, _, _, B0 :: bkRules 32 nu la me tc ts pe :: B2 :: B3 :: B4 :: bkRules 160 (sp_cp 10 nu nu2) (sp_cp 9 la la2) (sp_cp 9 me me2) (sp_cp 9 tc tc2) (sp_cp 9 ts ts2) pe2 :: Bs) _
  refine am_Rn.go (t := am_t52) rfl 4 rfl ⟨trivial, trivial, trivial, trivial, trivial⟩ ?_
  refine am_Rn.ret (t := am_t52) rfl rfl trivial ?_
  exact ⟨rfl, rfl⟩
theorem sx_empty_t (sc : am_Sc) (nu la me tc ts : Nat → Int32) (pe : Int32) (B0 : List am_E) (Bs : am_M) : am_Rn sc 50 (0, am_entry 50 [.ref 32], [], B0 :: bkRules 32 nu la me tc ts pe :: Bs) (fun r M' => r = none ∧ M' = B0 :: bkRules 32 (sp_usual nu) la me tc ts 0 :: Bs) := by
  show am_Rn sc 50 (0, [some (.ref 32)], [], _) _
  refine am_Rn.go (t := am_t50) rfl 10 rfl ⟨trivial, trivial, trivial, trivial, trivial, trivial, ⟨⟨by decide, by decide, by decide⟩, by decide, by decide⟩, trivial, trivial, trivial, trivial⟩ ?_
  refine am_Rn.ret (t := am_t50) rfl rfl trivial ?_
  exact ⟨rfl, rfl⟩
theorem sx_settle_t (sc : am_Sc) (nu la me tc ts : Nat → Int32) (pe : Int32) (B0 : List am_E) (Bs : am_M) : am_Rn sc 51 (0, am_entry 51 [.ref 32], [], B0 :: bkRules 32 nu la me tc ts pe :: Bs) (fun r M' => r = none ∧ M' = B0 :: bkRules 32 (sp_settle nu) la me tc ts pe :: Bs) := by
  show am_Rn sc 51 (0, [some (.ref 32)], [], _) _
  refine am_Rn.go (t := am_t51) rfl 5 rfl ⟨trivial, trivial, trivial, (by first | exact am_inb_lit rfl | exact am_inb_of (by omega) (by omega)), trivial, trivial⟩ ?_
  refine am_Rn.br (fun h1 => ?_) (fun h1 => ?_)
  · skip
    refine am_Rn.go (t := am_t51) rfl 5 rfl ⟨trivial, trivial, trivial, trivial, trivial, trivial⟩ ?_
    refine am_Rn.call (t := am_t51) rfl rfl (sx_worthIn_t ..) ?_
    rintro _ _ ⟨rfl, rfl⟩
    refine am_Rn.go (t := am_t51) rfl 1 rfl ⟨(by first | exact am_inb_lit rfl | exact am_inb_of (by omega) (by omega)), trivial⟩ ?_
    refine am_Rn.ret (t := am_t51) rfl rfl trivial ?_
    refine ⟨rfl, ?_⟩
    unfold sp_settle
    first | (rw [if_pos (by assumption)]; rfl) | (rw [if_neg (by assumption)])
  · skip
    refine am_Rn.ret (t := am_t51) rfl rfl trivial ?_
    refine ⟨rfl, ?_⟩
    unfold sp_settle
    first | (rw [if_pos (by assumption)]; rfl) | (rw [if_neg (by assumption)])
theorem sx_empty_d (sc : am_Sc) (nu la me tc ts : Nat → Int32) (pe : Int32) (B0 B1 B2 : List am_E) (Bs : am_M) : am_Rn sc 50 (0, am_entry 50 [.ref 96], [], B0 :: B1 :: B2 :: bkRules 96 nu la me tc ts pe :: Bs) (fun r M' => r = none ∧ M' = B0 :: B1 :: B2 :: bkRules 96 (sp_usual nu) la me tc ts 0 :: Bs) := by
  show am_Rn sc 50 (0, [some (.ref 96)], [], _) _
  refine am_Rn.go (t := am_t50) rfl 10 rfl ⟨trivial, trivial, trivial, trivial, trivial, trivial, ⟨⟨by decide, by decide, by decide⟩, by decide, by decide⟩, trivial, trivial, trivial, trivial⟩ ?_
  refine am_Rn.ret (t := am_t50) rfl rfl trivial ?_
  exact ⟨rfl, rfl⟩
theorem sx_settle_d (sc : am_Sc) (nu la me tc ts : Nat → Int32) (pe : Int32) (B0 B1 B2 : List am_E) (Bs : am_M) : am_Rn sc 51 (0, am_entry 51 [.ref 96], [], B0 :: B1 :: B2 :: bkRules 96 nu la me tc ts pe :: Bs) (fun r M' => r = none ∧ M' = B0 :: B1 :: B2 :: bkRules 96 (sp_settle nu) la me tc ts pe :: Bs) := by
  show am_Rn sc 51 (0, [some (.ref 96)], [], _) _
  refine am_Rn.go (t := am_t51) rfl 5 rfl ⟨trivial, trivial, trivial, (by first | exact am_inb_lit rfl | exact am_inb_of (by omega) (by omega)), trivial, trivial⟩ ?_
  refine am_Rn.br (fun h1 => ?_) (fun h1 => ?_)
  · skip
    refine am_Rn.go (t := am_t51) rfl 5 rfl ⟨trivial, trivial, trivial, trivial, trivial, trivial⟩ ?_
    refine am_Rn.call (t := am_t51) rfl rfl (sx_worthIn_d ..) ?_
    rintro _ _ ⟨rfl, rfl⟩
    refine am_Rn.go (t := am_t51) rfl 1 rfl ⟨(by first | exact am_inb_lit rfl | exact am_inb_of (by omega) (by omega)), trivial⟩ ?_
    refine am_Rn.ret (t := am_t51) rfl rfl trivial ?_
    refine ⟨rfl, ?_⟩
    unfold sp_settle
    first | (rw [if_pos (by assumption)]; rfl) | (rw [if_neg (by assumption)])
  · skip
    refine am_Rn.ret (t := am_t51) rfl rfl trivial ?_
    refine ⟨rfl, ?_⟩
    unfold sp_settle
    first | (rw [if_pos (by assumption)]; rfl) | (rw [if_neg (by assumption)])
theorem sx_empty_v (sc : am_Sc) (nu la me tc ts : Nat → Int32) (pe : Int32) (B0 B1 B2 B3 B4 : List am_E) (Bs : am_M) : am_Rn sc 50 (0, am_entry 50 [.ref 160], [], B0 :: B1 :: B2 :: B3 :: B4 :: bkRules 160 nu la me tc ts pe :: Bs) (fun r M' => r = none ∧ M' = B0 :: B1 :: B2 :: B3 :: B4 :: bkRules 160 (sp_usual nu) la me tc ts 0 :: Bs) := by
  show am_Rn sc 50 (0, [some (.ref 160)], [], _) _
  refine am_Rn.go (t := am_t50) rfl 10 rfl ⟨trivial, trivial, trivial, trivial, trivial, trivial, ⟨⟨by decide, by decide, by decide⟩, by decide, by decide⟩, trivial, trivial, trivial, trivial⟩ ?_
  refine am_Rn.ret (t := am_t50) rfl rfl trivial ?_
  exact ⟨rfl, rfl⟩
theorem sx_settle_v (sc : am_Sc) (nu la me tc ts : Nat → Int32) (pe : Int32) (B0 B1 B2 B3 B4 : List am_E) (Bs : am_M) : am_Rn sc 51 (0, am_entry 51 [.ref 160], [], B0 :: B1 :: B2 :: B3 :: B4 :: bkRules 160 nu la me tc ts pe :: Bs) (fun r M' => r = none ∧ M' = B0 :: B1 :: B2 :: B3 :: B4 :: bkRules 160 (sp_settle nu) la me tc ts pe :: Bs) := by
  show am_Rn sc 51 (0, [some (.ref 160)], [], _) _
  refine am_Rn.go (t := am_t51) rfl 5 rfl ⟨trivial, trivial, trivial, (by first | exact am_inb_lit rfl | exact am_inb_of (by omega) (by omega)), trivial, trivial⟩ ?_
  refine am_Rn.br (fun h1 => ?_) (fun h1 => ?_)
  · skip
    refine am_Rn.go (t := am_t51) rfl 5 rfl ⟨trivial, trivial, trivial, trivial, trivial, trivial⟩ ?_
    refine am_Rn.call (t := am_t51) rfl rfl (sx_worthIn_v ..) ?_
    rintro _ _ ⟨rfl, rfl⟩
    refine am_Rn.go (t := am_t51) rfl 1 rfl ⟨(by first | exact am_inb_lit rfl | exact am_inb_of (by omega) (by omega)), trivial⟩ ?_
    refine am_Rn.ret (t := am_t51) rfl rfl trivial ?_
    refine ⟨rfl, ?_⟩
    unfold sp_settle
    first | (rw [if_pos (by assumption)]; rfl) | (rw [if_neg (by assumption)])
  · skip
    refine am_Rn.ret (t := am_t51) rfl rfl trivial ?_
    refine ⟨rfl, ?_⟩
    unfold sp_settle
    first | (rw [if_pos (by assumption)]; rfl) | (rw [if_neg (by assumption)])
theorem sx_oddsOf (sc : am_Sc) (r0 k0 : Int32) (D : Nat) (hD20 : D ≤ 20) (nu la me tc ts : Nat → Int32) (pe : Int32) (B0 : List am_E) (Bs : am_M) (hD : nu 0 - r0 = Int32.ofNat D) : am_Rn sc 55 (0, am_entry 55 [.ref 32, .int r0, .int k0], [], B0 :: bkRules 32 nu la me tc ts pe :: Bs) (fun r M' => r = some (.int (am_fold (D + 1) (sp_oddOne nu D k0) (0, 1)).1) ∧ M' = B0 :: bkRules 32 nu la me tc ts pe :: Bs) := by
  show am_Rn sc 55 (0, [some (.ref 32), some (.int r0), some (.int k0), none, none, none, none, none], [], _) _
  have hd : nu 0 - r0 = Int32.ofNat D := hD
  have L : ∀ (d i : Nat) (x7 : Option Value), i + d = (D + 1) → am_Rn sc 55 (13, [some (.ref 32), some (.int r0), some (.int k0), some (.int (Int32.ofNat D)), some (.int (am_fold i (sp_oddOne nu D k0) (0, 1)).1), some (.int (am_fold i (sp_oddOne nu D k0) (0, 1)).2), some (.int (Int32.ofNat i)), x7], [], B0 :: bkRules 32 nu la me tc ts pe :: Bs) (fun r M' => r = some (.int (am_fold (D + 1) (sp_oddOne nu D k0) (0, 1)).1) ∧ M' = B0 :: bkRules 32 nu la me tc ts pe :: Bs) := by
    intro d
    induction d with
    | zero =>
      intro i x7 hi
      obtain rfl : i = (D + 1) := by omega
      refine am_Rn.go (t := am_t55) rfl 3 rfl ⟨trivial, trivial, trivial, trivial⟩ ?_
      refine am_Rn.brT (by first | exact (am_le (by omega) (by omega)).mpr (Nat.le_refl _) | exact fun q => absurd ((am_lt (by omega) (by omega)).mp q) (Nat.lt_irrefl _) | exact (am_lt (by omega) (by omega)).mpr (by omega) | decide) ?_
      refine am_Rn.go (t := am_t55) rfl 1 rfl ⟨trivial, trivial⟩ ?_
      refine am_Rn.ret (t := am_t55) rfl rfl trivial ?_
      exact ⟨rfl, rfl⟩
    | succ d ih =>
      intro i x7 hi
      have hiP : i < (D + 1) := by omega
      have e1 : (Int32.ofNat i).toNatClampNeg = i := am_tn i (by omega)
      refine am_Rn.go (t := am_t55) rfl 3 rfl ⟨trivial, trivial, trivial, trivial⟩ ?_
      refine am_Rn.brF (by first | exact fun q => absurd ((am_le (by omega) (by omega)).mp q) (by omega) | exact fun q => absurd ((am_le (i := 9) (by omega) (by omega)).mp q) (by omega) | exact fun q => absurd ((am_le (i := 10) (by omega) (by omega)).mp q) (by omega) | exact (am_lt (by omega) (by omega)).mpr hiP | exact fun q => absurd ((am_lt (by omega) (by omega)).mp q) (by omega)) ?_
      refine am_Rn.go (t := am_t55) rfl 24 rfl ⟨trivial, trivial, trivial, trivial, trivial, trivial, (by first | exact am_inb_lit rfl | exact am_inb_of (by omega) (by omega)), trivial, trivial, trivial, trivial, trivial, (by first | exact am_inb_lit rfl | exact am_inb_of (by omega) (by omega)), trivial, trivial, trivial, trivial, trivial, (by first | exact am_inb_lit rfl | exact am_inb_of (by omega) (by omega)), trivial, trivial, trivial, trivial, trivial, trivial⟩ ?_
      refine am_Rn.br (fun h2 => ?_) (fun h2 => ?_)
      · skip
        refine am_Rn.go (t := am_t55) rfl 16 rfl ⟨trivial, trivial, trivial, trivial, trivial, trivial, trivial, trivial, trivial, trivial, trivial, trivial, (am_succ_ne (by omega)), trivial, trivial, trivial, trivial⟩ ?_
        have g := ih (i + 1) (some (.int (sp_oddPay nu D i))) (by omega)
        rw [am_fold_succ, ← am_inc] at g
        generalize hX : (am_fold i (sp_oddOne nu D k0) (0, 1)) = X at *
        first
          | (rw [sp_oddOne_T (by assumption)] at g; exact g)
          | (rw [sp_oddOne_F (by assumption)] at g; exact g)
      · skip
        refine am_Rn.go (t := am_t55) rfl 12 rfl ⟨trivial, trivial, trivial, trivial, trivial, trivial, trivial, trivial, (am_succ_ne (by omega)), trivial, trivial, trivial, trivial⟩ ?_
        have g := ih (i + 1) (some (.int (sp_oddPay nu D i))) (by omega)
        rw [am_fold_succ, ← am_inc] at g
        generalize hX : (am_fold i (sp_oddOne nu D k0) (0, 1)) = X at *
        first
          | (rw [sp_oddOne_T (by assumption)] at g; exact g)
          | (rw [sp_oddOne_F (by assumption)] at g; exact g)
  refine am_Rn.go (t := am_t55) rfl 7 rfl ⟨trivial, trivial, trivial, (by first | exact am_inb_lit rfl | exact am_inb_of (by omega) (by omega)), trivial, trivial, trivial, trivial⟩ ?_
  rw [show nu (Int32.toNatClampNeg 0) = nu 0 from rfl, hd]
  refine am_Rn.go (t := am_t55) rfl 6 rfl ⟨trivial, trivial, trivial, trivial, trivial, trivial, trivial⟩ ?_
  exact L (D + 1) 0 _ (by omega)
theorem sx_sum_co (sc : am_Sc) (nu la me tc ts : Nat → Int32) (P : Nat) (hP : P ≤ 9) (rd pr pv sa pd lo : Int32) (bo co sh se si er of_ bi bt so : Nat → Int32) (B0 B2 B3 : List am_E) (Bs : am_M) : am_Rn sc 48 (0, am_entry 48 [.ref 128, .ref 130], [], B0 :: bkRules 32 nu la me tc ts (Int32.ofNat P) :: B2 :: B3 :: bkRoom 128 32 rd pr pv sa pd lo bo co sh se si er of_ bi bt so :: Bs) (fun r M' => r = some (.int (am_fold P (sp_addOne co) 0)) ∧ M' = B0 :: bkRules 32 nu la me tc ts (Int32.ofNat P) :: B2 :: B3 :: bkRoom 128 32 rd pr pv sa pd lo bo co sh se si er of_ bi bt so :: Bs) := by
  show am_Rn sc 48 (0, [some (.ref 128), some (.ref 130), none, none], [], _) _
  have L : ∀ (d i : Nat), i + d = P → am_Rn sc 48 (4, [some (.ref 128), some (.ref 130), some (.int (am_fold i (sp_addOne co) 0)), some (.int (Int32.ofNat i))], [], B0 :: bkRules 32 nu la me tc ts (Int32.ofNat P) :: B2 :: B3 :: bkRoom 128 32 rd pr pv sa pd lo bo co sh se si er of_ bi bt so :: Bs) (fun r M' => r = some (.int (am_fold P (sp_addOne co) 0)) ∧ M' = B0 :: bkRules 32 nu la me tc ts (Int32.ofNat P) :: B2 :: B3 :: bkRoom 128 32 rd pr pv sa pd lo bo co sh se si er of_ bi bt so :: Bs) := by
    intro d
    induction d with
    | zero =>
      intro i  hi
      obtain rfl : i = P := by omega
      refine am_Rn.go (t := am_t48) rfl 5 rfl ⟨trivial, trivial, trivial, trivial, trivial, trivial⟩ ?_
      refine am_Rn.brT (by first | exact (am_le (by omega) (by omega)).mpr (Nat.le_refl _) | exact fun q => absurd ((am_lt (by omega) (by omega)).mp q) (Nat.lt_irrefl _) | exact (am_lt (by omega) (by omega)).mpr (by omega) | decide) ?_
      refine am_Rn.go (t := am_t48) rfl 1 rfl ⟨trivial, trivial⟩ ?_
      refine am_Rn.ret (t := am_t48) rfl rfl trivial ?_
      exact ⟨rfl, rfl⟩
    | succ d ih =>
      intro i  hi
      have hiP : i < P := by omega
      have e1 : (Int32.ofNat i).toNatClampNeg = i := am_tn i (by omega)
      refine am_Rn.go (t := am_t48) rfl 5 rfl ⟨trivial, trivial, trivial, trivial, trivial, trivial⟩ ?_
      refine am_Rn.brF (by first | exact fun q => absurd ((am_le (by omega) (by omega)).mp q) (by omega) | exact fun q => absurd ((am_le (i := 9) (by omega) (by omega)).mp q) (by omega) | exact fun q => absurd ((am_le (i := 10) (by omega) (by omega)).mp q) (by omega) | exact (am_lt (by omega) (by omega)).mpr hiP | exact fun q => absurd ((am_lt (by omega) (by omega)).mp q) (by omega)) ?_
      refine am_Rn.go (t := am_t48) rfl 4 rfl ⟨trivial, trivial, trivial, trivial, trivial⟩ ?_
      refine am_Rn.brF (fun q => absurd ((am_le (i := 9) (by omega) (by omega)).mp q) (by omega)) ?_
      refine am_Rn.go (t := am_t48) rfl 8 rfl ⟨trivial, trivial, trivial, (by first | exact am_inb_lit rfl | exact am_inb_of (by omega) (by omega)), trivial, trivial, trivial, trivial, trivial⟩ ?_
      have g := ih (i + 1) (by omega)
      rw [am_fold_succ, ← am_inc] at g
      generalize hX : (am_fold i (sp_addOne co) 0) = X at *
      simp only [e1] at *
      exact g
  refine am_Rn.go (t := am_t48) rfl 4 rfl ⟨trivial, trivial, trivial, trivial, trivial⟩ ?_
  exact L P 0 (by omega)
theorem sx_sum_sh (sc : am_Sc) (nu la me tc ts : Nat → Int32) (P : Nat) (hP : P ≤ 9) (rd pr pv sa pd lo : Int32) (bo co sh se si er of_ bi bt so : Nat → Int32) (B0 B2 B3 : List am_E) (Bs : am_M) : am_Rn sc 48 (0, am_entry 48 [.ref 128, .ref 131], [], B0 :: bkRules 32 nu la me tc ts (Int32.ofNat P) :: B2 :: B3 :: bkRoom 128 32 rd pr pv sa pd lo bo co sh se si er of_ bi bt so :: Bs) (fun r M' => r = some (.int (am_fold P (sp_addOne sh) 0)) ∧ M' = B0 :: bkRules 32 nu la me tc ts (Int32.ofNat P) :: B2 :: B3 :: bkRoom 128 32 rd pr pv sa pd lo bo co sh se si er of_ bi bt so :: Bs) := by
  show am_Rn sc 48 (0, [some (.ref 128), some (.ref 131), none, none], [], _) _
  have L : ∀ (d i : Nat), i + d = P → am_Rn sc 48 (4, [some (.ref 128), some (.ref 131), some (.int (am_fold i (sp_addOne sh) 0)), some (.int (Int32.ofNat i))], [], B0 :: bkRules 32 nu la me tc ts (Int32.ofNat P) :: B2 :: B3 :: bkRoom 128 32 rd pr pv sa pd lo bo co sh se si er of_ bi bt so :: Bs) (fun r M' => r = some (.int (am_fold P (sp_addOne sh) 0)) ∧ M' = B0 :: bkRules 32 nu la me tc ts (Int32.ofNat P) :: B2 :: B3 :: bkRoom 128 32 rd pr pv sa pd lo bo co sh se si er of_ bi bt so :: Bs) := by
    intro d
    induction d with
    | zero =>
      intro i  hi
      obtain rfl : i = P := by omega
      refine am_Rn.go (t := am_t48) rfl 5 rfl ⟨trivial, trivial, trivial, trivial, trivial, trivial⟩ ?_
      refine am_Rn.brT (by first | exact (am_le (by omega) (by omega)).mpr (Nat.le_refl _) | exact fun q => absurd ((am_lt (by omega) (by omega)).mp q) (Nat.lt_irrefl _) | exact (am_lt (by omega) (by omega)).mpr (by omega) | decide) ?_
      refine am_Rn.go (t := am_t48) rfl 1 rfl ⟨trivial, trivial⟩ ?_
      refine am_Rn.ret (t := am_t48) rfl rfl trivial ?_
      exact ⟨rfl, rfl⟩
    | succ d ih =>
      intro i  hi
      have hiP : i < P := by omega
      have e1 : (Int32.ofNat i).toNatClampNeg = i := am_tn i (by omega)
      refine am_Rn.go (t := am_t48) rfl 5 rfl ⟨trivial, trivial, trivial, trivial, trivial, trivial⟩ ?_
      refine am_Rn.brF (by first | exact fun q => absurd ((am_le (by omega) (by omega)).mp q) (by omega) | exact fun q => absurd ((am_le (i := 9) (by omega) (by omega)).mp q) (by omega) | exact fun q => absurd ((am_le (i := 10) (by omega) (by omega)).mp q) (by omega) | exact (am_lt (by omega) (by omega)).mpr hiP | exact fun q => absurd ((am_lt (by omega) (by omega)).mp q) (by omega)) ?_
      refine am_Rn.go (t := am_t48) rfl 4 rfl ⟨trivial, trivial, trivial, trivial, trivial⟩ ?_
      refine am_Rn.brF (fun q => absurd ((am_le (i := 9) (by omega) (by omega)).mp q) (by omega)) ?_
      refine am_Rn.go (t := am_t48) rfl 8 rfl ⟨trivial, trivial, trivial, (by first | exact am_inb_lit rfl | exact am_inb_of (by omega) (by omega)), trivial, trivial, trivial, trivial, trivial⟩ ?_
      have g := ih (i + 1) (by omega)
      rw [am_fold_succ, ← am_inc] at g
      generalize hX : (am_fold i (sp_addOne sh) 0) = X at *
      simp only [e1] at *
      exact g
  refine am_Rn.go (t := am_t48) rfl 4 rfl ⟨trivial, trivial, trivial, trivial, trivial⟩ ?_
  exact L P 0 (by omega)
theorem sx_isTruer (sc : am_Sc) (p q : Nat) (hp : p < 9) (hq : q < 9) (nu la me tc ts : Nat → Int32) (pe : Int32) (rd pr pv sa pd lo : Int32) (bo co sh se si er of_ bi bt so : Nat → Int32) (B0 B2 B3 : List am_E) (Bs : am_M) : am_Rn sc 47 (0, am_entry 47 [.ref 128, .int (Int32.ofNat p), .int (Int32.ofNat q)], [], B0 :: bkRules 32 nu la me tc ts pe :: B2 :: B3 :: bkRoom 128 32 rd pr pv sa pd lo bo co sh se si er of_ bi bt so :: Bs) (fun r M' => r = some (.int (am_b (sp_truer er of_ p q = true))) ∧ M' = B0 :: bkRules 32 nu la me tc ts pe :: B2 :: B3 :: bkRoom 128 32 rd pr pv sa pd lo bo co sh se si er of_ bi bt so :: Bs) := by
  show am_Rn sc 47 (0, [some (.ref 128), some (.int (Int32.ofNat p)), some (.int (Int32.ofNat q))], [], _) _
  have e1 : (Int32.ofNat p).toNatClampNeg = p := am_tn p (by omega)
  have e2 : (Int32.ofNat q).toNatClampNeg = q := am_tn q (by omega)
  refine am_Rn.go (t := am_t47) rfl 24 rfl ⟨trivial, trivial, trivial, (by first | exact am_inb_lit rfl | exact am_inb_of (by omega) (by omega)), trivial, trivial, trivial, trivial, (by first | exact am_inb_lit rfl | exact am_inb_of (by omega) (by omega)), trivial, trivial, trivial, trivial, trivial, (by first | exact am_inb_lit rfl | exact am_inb_of (by omega) (by omega)), trivial, trivial, trivial, trivial, (by first | exact am_inb_lit rfl | exact am_inb_of (by omega) (by omega)), trivial, trivial, trivial, trivial, trivial⟩ ?_
  refine am_Rn.br (fun h1 => ?_) (fun h1 => ?_)
  · skip
    refine am_Rn.go (t := am_t47) rfl 1 rfl ⟨trivial, trivial⟩ ?_
    refine am_Rn.ret (t := am_t47) rfl rfl (by first | exact Or.inl rfl | exact Or.inr rfl | exact am_b01 _) ?_
    simp only [e1, e2] at h1
    refine ⟨congrArg (fun z => some (Value.int z)) ?_, rfl⟩
    rw [lg_cmp_ge] at h1
    first | exact (am_bF (fun z => Int64.not_lt.mpr h1 (of_decide_eq_true z))).symm | exact (am_bT (decide_eq_true (Int64.not_le.mp h1))).symm
  · skip
    refine am_Rn.go (t := am_t47) rfl 2 rfl ⟨trivial, trivial, trivial⟩ ?_
    refine am_Rn.ret (t := am_t47) rfl rfl (by first | exact Or.inl rfl | exact Or.inr rfl | exact am_b01 _) ?_
    simp only [e1, e2] at h1
    refine ⟨congrArg (fun z => some (Value.int z)) ?_, rfl⟩
    rw [lg_cmp_ge] at h1
    first | exact (am_bF (fun z => Int64.not_lt.mpr h1 (of_decide_eq_true z))).symm | exact (am_bT (decide_eq_true (Int64.not_le.mp h1))).symm
theorem sx_leastWrong (sc : am_Sc) (nu la me tc ts : Nat → Int32) (P : Nat) (hP : P ≤ 9) (rd pr pv sa pd lo : Int32) (bo co sh se si er of_ bi bt so : Nat → Int32) (B0 B2 B3 : List am_E) (Bs : am_M) : am_Rn sc 46 (0, am_entry 46 [.ref 128], [], B0 :: bkRules 32 nu la me tc ts (Int32.ofNat P) :: B2 :: B3 :: bkRoom 128 32 rd pr pv sa pd lo bo co sh se si er of_ bi bt so :: Bs) (fun r M' => r = some (.int (am_on (-9) (am_fold P (sp_trOne er of_) none))) ∧ M' = B0 :: bkRules 32 nu la me tc ts (Int32.ofNat P) :: B2 :: B3 :: bkRoom 128 32 rd pr pv sa pd lo bo co sh se si er of_ bi bt so :: Bs) := by
  show am_Rn sc 46 (0, [some (.ref 128), none, none], [], _) _
  have L : ∀ (d i : Nat), i + d = P → am_Rn sc 46 (4, [some (.ref 128), some (.int (am_on (-9) (am_fold i (sp_trOne er of_) none))), some (.int (Int32.ofNat i))], [], B0 :: bkRules 32 nu la me tc ts (Int32.ofNat P) :: B2 :: B3 :: bkRoom 128 32 rd pr pv sa pd lo bo co sh se si er of_ bi bt so :: Bs) (fun r M' => r = some (.int (am_on (-9) (am_fold P (sp_trOne er of_) none))) ∧ M' = B0 :: bkRules 32 nu la me tc ts (Int32.ofNat P) :: B2 :: B3 :: bkRoom 128 32 rd pr pv sa pd lo bo co sh se si er of_ bi bt so :: Bs) := by
    intro d
    induction d with
    | zero =>
      intro i  hi
      obtain rfl : i = P := by omega
      refine am_Rn.go (t := am_t46) rfl 5 rfl ⟨trivial, trivial, trivial, trivial, trivial, trivial⟩ ?_
      refine am_Rn.brT (by first | exact (am_le (by omega) (by omega)).mpr (Nat.le_refl _) | exact fun q => absurd ((am_lt (by omega) (by omega)).mp q) (Nat.lt_irrefl _) | exact (am_lt (by omega) (by omega)).mpr (by omega) | decide) ?_
      refine am_Rn.go (t := am_t46) rfl 1 rfl ⟨trivial, trivial⟩ ?_
      refine am_Rn.ret (t := am_t46) rfl rfl trivial ?_
      exact ⟨rfl, rfl⟩
    | succ d ih =>
      intro i  hi
      have hiP : i < P := by omega
      have e1 : (Int32.ofNat i).toNatClampNeg = i := am_tn i (by omega)
      have hq := sp_trOne_lt er of_ i
      generalize hF : (am_fold i (sp_trOne er of_) none) = o at hq ⊢
      cases o with
      | none =>
        have e2 := e1
        refine am_Rn.go (t := am_t46) rfl 5 rfl ⟨trivial, trivial, trivial, trivial, trivial, trivial⟩ ?_
        refine am_Rn.brF (by first | exact fun q => absurd ((am_le (by omega) (by omega)).mp q) (by omega) | exact fun q => absurd ((am_le (i := 9) (by omega) (by omega)).mp q) (by omega) | exact fun q => absurd ((am_le (i := 10) (by omega) (by omega)).mp q) (by omega) | exact (am_lt (by omega) (by omega)).mpr hiP | exact fun q => absurd ((am_lt (by omega) (by omega)).mp q) (by omega)) ?_
        refine am_Rn.go (t := am_t46) rfl 5 rfl ⟨trivial, trivial, trivial, (by first | exact am_inb_lit rfl | exact am_inb_of (by omega) (by omega)), trivial, trivial⟩ ?_
        refine am_Rn.br (fun h2 => ?_) (fun h2 => ?_)
        · skip
          refine am_Rn.go (t := am_t46) rfl 2 rfl ⟨trivial, trivial, trivial⟩ ?_
          have g := ih (i + 1) (by omega)
          rw [am_fold_succ, hF, ← am_inc] at g
          (try simp only [e1, e2, am_on] at *)
          first
            | (rw [sp_trOne_T (by first | rfl | (simp only [sp_trOv, Bool.and_true, Bool.and_eq_true, decide_eq_true_eq]; first | exact Int32.not_le.mp (by assumption) | exact ⟨Int32.not_le.mp (by assumption), by assumption⟩))] at g; exact g)
            | (rw [sp_trOne_F (by simp only [sp_trOv, Bool.and_true, Bool.and_eq_true, decide_eq_true_eq]; first | exact Int32.not_lt.mpr (by assumption) | exact fun z => Int32.not_lt.mpr (by assumption) z.1 | exact fun z => absurd z.2 (by assumption))] at g; exact g)
        · skip
          refine am_Rn.go (t := am_t46) rfl 3 rfl ⟨trivial, trivial, trivial, trivial⟩ ?_
          refine am_Rn.brT rfl ?_
          refine am_Rn.go (t := am_t46) rfl 4 rfl ⟨trivial, trivial, trivial, trivial, trivial⟩ ?_
          have g := ih (i + 1) (by omega)
          rw [am_fold_succ, hF, ← am_inc] at g
          (try simp only [e1, e2, am_on] at *)
          first
            | (rw [sp_trOne_T (by first | rfl | (simp only [sp_trOv, Bool.and_true, Bool.and_eq_true, decide_eq_true_eq]; first | exact Int32.not_le.mp (by assumption) | exact ⟨Int32.not_le.mp (by assumption), by assumption⟩))] at g; exact g)
            | (rw [sp_trOne_F (by simp only [sp_trOv, Bool.and_true, Bool.and_eq_true, decide_eq_true_eq]; first | exact Int32.not_lt.mpr (by assumption) | exact fun z => Int32.not_lt.mpr (by assumption) z.1 | exact fun z => absurd z.2 (by assumption))] at g; exact g)
      | some q =>
        have hq1 := hq q rfl
        have e2 : (Int32.ofNat q).toNatClampNeg = q := am_tn q (by omega)
        refine am_Rn.go (t := am_t46) rfl 5 rfl ⟨trivial, trivial, trivial, trivial, trivial, trivial⟩ ?_
        refine am_Rn.brF (by first | exact fun q => absurd ((am_le (by omega) (by omega)).mp q) (by omega) | exact fun q => absurd ((am_le (i := 9) (by omega) (by omega)).mp q) (by omega) | exact fun q => absurd ((am_le (i := 10) (by omega) (by omega)).mp q) (by omega) | exact (am_lt (by omega) (by omega)).mpr hiP | exact fun q => absurd ((am_lt (by omega) (by omega)).mp q) (by omega)) ?_
        refine am_Rn.go (t := am_t46) rfl 5 rfl ⟨trivial, trivial, trivial, (by first | exact am_inb_lit rfl | exact am_inb_of (by omega) (by omega)), trivial, trivial⟩ ?_
        refine am_Rn.br (fun h2 => ?_) (fun h2 => ?_)
        · skip
          refine am_Rn.go (t := am_t46) rfl 2 rfl ⟨trivial, trivial, trivial⟩ ?_
          have g := ih (i + 1) (by omega)
          rw [am_fold_succ, hF, ← am_inc] at g
          (try simp only [e1, e2, am_on] at *)
          first
            | (rw [sp_trOne_T (by first | rfl | (simp only [sp_trOv, Bool.and_true, Bool.and_eq_true, decide_eq_true_eq]; first | exact Int32.not_le.mp (by assumption) | exact ⟨Int32.not_le.mp (by assumption), by assumption⟩))] at g; exact g)
            | (rw [sp_trOne_F (by simp only [sp_trOv, Bool.and_true, Bool.and_eq_true, decide_eq_true_eq]; first | exact Int32.not_lt.mpr (by assumption) | exact fun z => Int32.not_lt.mpr (by assumption) z.1 | exact fun z => absurd z.2 (by assumption))] at g; exact g)
        · skip
          refine am_Rn.go (t := am_t46) rfl 3 rfl ⟨trivial, trivial, trivial, trivial⟩ ?_
          refine am_Rn.brF (fun z : Int32.ofNat q = -9 => by have := congrArg Int32.toInt z; rw [am_ofN q (by omega)] at this; rw [show (-9 : Int32).toInt = -9 from rfl] at this; omega) ?_
          refine am_Rn.go (t := am_t46) rfl 3 rfl ⟨trivial, trivial, trivial, trivial⟩ ?_
          refine am_Rn.call (t := am_t46) rfl rfl (sx_isTruer sc i q (by omega) (by omega) ..) ?_
          rintro _ _ ⟨rfl, rfl⟩
          refine am_Rn.go (t := am_t46) rfl 1 rfl ⟨trivial, trivial⟩ ?_
          refine am_Rn.brB (fun h4 => ?_) (fun h4 => ?_)
          · skip
            refine am_Rn.go (t := am_t46) rfl 2 rfl ⟨trivial, trivial, trivial⟩ ?_
            have g := ih (i + 1) (by omega)
            rw [am_fold_succ, hF, ← am_inc] at g
            (try simp only [e1, e2, am_on] at *)
            first
              | (rw [sp_trOne_T (by first | rfl | (simp only [sp_trOv, Bool.and_true, Bool.and_eq_true, decide_eq_true_eq]; first | exact Int32.not_le.mp (by assumption) | exact ⟨Int32.not_le.mp (by assumption), by assumption⟩))] at g; exact g)
              | (rw [sp_trOne_F (by simp only [sp_trOv, Bool.and_true, Bool.and_eq_true, decide_eq_true_eq]; first | exact Int32.not_lt.mpr (by assumption) | exact fun z => Int32.not_lt.mpr (by assumption) z.1 | exact fun z => absurd z.2 (by assumption))] at g; exact g)
          · skip
            refine am_Rn.go (t := am_t46) rfl 4 rfl ⟨trivial, trivial, trivial, trivial, trivial⟩ ?_
            have g := ih (i + 1) (by omega)
            rw [am_fold_succ, hF, ← am_inc] at g
            (try simp only [e1, e2, am_on] at *)
            first
              | (rw [sp_trOne_T (by first | rfl | (simp only [sp_trOv, Bool.and_true, Bool.and_eq_true, decide_eq_true_eq]; first | exact Int32.not_le.mp (by assumption) | exact ⟨Int32.not_le.mp (by assumption), by assumption⟩))] at g; exact g)
              | (rw [sp_trOne_F (by simp only [sp_trOv, Bool.and_true, Bool.and_eq_true, decide_eq_true_eq]; first | exact Int32.not_lt.mpr (by assumption) | exact fun z => Int32.not_lt.mpr (by assumption) z.1 | exact fun z => absurd z.2 (by assumption))] at g; exact g)
  refine am_Rn.go (t := am_t46) rfl 4 rfl ⟨trivial, trivial, trivial, trivial, trivial⟩ ?_
  exact L P 0 (by omega)

/-! ===== links: what the tables hold (by program) ===== -/
theorem am_places {ws : List Cond} (ps : List Nat) (h : ws = ps.filterMap (fun i => lw_tbl[i]?)) (hg : ws.all goodWord = true) : ∀ w ∈ ws, w ∈ xw_tw := by
  intro w hw
  have h1 := List.all_eq_true.mp hg w hw
  rw [h] at hw
  obtain ⟨i, -, hi⟩ := List.mem_filterMap.mp hw
  exact xw_in i hi h1
set_option maxRecDepth 100000 in
theorem am_cw0 : ∀ w ∈ u_ws RX0 TX0 5, w ∈ xw_tw := am_places [317, 319, 321, 323, 325] (by decide +kernel) (by decide +kernel)
set_option maxRecDepth 100000 in
theorem am_cl0 : am_Cl 0 (RX0, TX0, 5) tyX0 := ⟨am_cw0, tyX0_ok, nmX0, fun fs h => by
  cases h
  exact ⟨rfl, fun _ _ => rfl, by decide +kernel⟩⟩
set_option maxRecDepth 100000 in
theorem am_cw1 : ∀ w ∈ u_ws RX1 TX1 2, w ∈ xw_tw := am_places [272, 274] (by decide +kernel) (by decide +kernel)
set_option maxRecDepth 100000 in
theorem am_cl1 : am_Cl 1 (RX1, TX1, 2) tyX1 := ⟨am_cw1, tyX1_ok, nmX1, fun fs h => by
  cases h
  exact ⟨rfl, fun _ _ => rfl, by decide +kernel⟩⟩
set_option maxRecDepth 100000 in
theorem am_cw2 : ∀ w ∈ u_ws RX2 TX2 10, w ∈ xw_tw := am_places [164, 166, 168, 170, 172, 174, 176, 178, 180, 182] (by decide +kernel) (by decide +kernel)
set_option maxRecDepth 100000 in
theorem am_cl2 : am_Cl 2 (RX2, TX2, 10) tyX2 := ⟨am_cw2, tyX2_ok, nmX2, fun fs h => by
  cases h
  exact ⟨rfl, fun _ _ => rfl, by decide +kernel⟩⟩
set_option maxRecDepth 100000 in
theorem am_cw3 : ∀ w ∈ u_ws RX3 TX3 5, w ∈ xw_tw := am_places [291, 293, 295, 297, 299] (by decide +kernel) (by decide +kernel)
set_option maxRecDepth 100000 in
theorem am_cl3 : am_Cl 3 (RX3, TX3, 5) tyX3 := ⟨am_cw3, tyX3_ok, nmX3, fun fs h => by
  cases h
  exact ⟨rfl, fun _ _ => rfl, by decide +kernel⟩⟩
set_option maxRecDepth 100000 in
theorem am_cw4 : ∀ w ∈ u_ws RX4 TX4 17, w ∈ xw_tw := am_places [225, 227, 229, 231, 233, 235, 237, 239, 241, 243, 245, 247, 249, 251, 253, 255, 257] (by decide +kernel) (by decide +kernel)
set_option maxRecDepth 100000 in
theorem am_cl4 : am_Cl 4 (RX4, TX4, 17) tyX4 := ⟨am_cw4, tyX4_ok, nmX4, fun fs h => by
  cases h
  exact ⟨rfl, fun _ _ => rfl, by decide +kernel⟩⟩
set_option maxRecDepth 100000 in
theorem am_cw5 : ∀ w ∈ u_ws RX5 TX5 6, w ∈ xw_tw := am_places [128, 130, 132, 134, 136, 138] (by decide +kernel) (by decide +kernel)
set_option maxRecDepth 100000 in
theorem am_cl5 : am_Cl 5 (RX5, TX5, 6) tyX5 := ⟨am_cw5, tyX5_ok, nmX5, fun fs h => by
  cases h
  exact ⟨rfl, fun _ _ => rfl, by decide +kernel⟩⟩
set_option maxRecDepth 100000 in
theorem am_cw6 : ∀ w ∈ u_ws RX6 TX6 10, w ∈ xw_tw := am_places [338, 340, 342, 344, 346, 348, 350, 352, 354, 356] (by decide +kernel) (by decide +kernel)
set_option maxRecDepth 100000 in
theorem am_cl6 : am_Cl 6 (RX6, TX6, 10) tyX6 := ⟨am_cw6, tyX6_ok, nmX6, fun fs h => by
  cases h
  exact ⟨rfl, fun _ _ => rfl, by decide +kernel⟩⟩
set_option maxRecDepth 100000 in
theorem am_cw7 : ∀ w ∈ u_ws RX7 TX7 25, w ∈ xw_tw := am_places [824, 826, 828, 830, 832, 834, 836, 838, 840, 842, 844, 846, 848, 850, 852, 854, 856, 858, 860, 862, 864, 866, 868, 870, 872] (by decide +kernel) (by decide +kernel)
set_option maxRecDepth 100000 in
theorem am_cl7 : am_Cl 7 (RX7, TX7, 25) tyX7 := ⟨am_cw7, tyX7_ok, nmX7, fun fs h => by
  cases h
  exact ⟨rfl, fun _ _ => rfl, by decide +kernel⟩⟩
theorem am_cl_all : ∀ (a : Nat) (q : vw_C), vwCl[a]? = some q → ∃ ty, am_Cl a q ty := by
  intro a q h
  match a, h with
  | 0, h => cases h; exact ⟨_, am_cl0⟩
  | 1, h => cases h; exact ⟨_, am_cl1⟩
  | 2, h => cases h; exact ⟨_, am_cl2⟩
  | 3, h => cases h; exact ⟨_, am_cl3⟩
  | 4, h => cases h; exact ⟨_, am_cl4⟩
  | 5, h => cases h; exact ⟨_, am_cl5⟩
  | 6, h => cases h; exact ⟨_, am_cl6⟩
  | 7, h => cases h; exact ⟨_, am_cl7⟩
  | n + 8, h => simp at h
def am_fls : List (Nat × Nat × Nat × Nat × Nat) := [(0, 11, 0, 0, 308), (0, 15, 0, 1, 309), (0, 19, 0, 2, 311), (0, 22, 0, 3, 313), (0, 25, 0, 4, 315), (0, 32, 5, 0, 105), (1, 7, 1, 1, 270), (1, 18, 1, 0, 268), (2, 11, 2, 0, 150), (2, 15, 2, 1, 151), (2, 22, 2, 2, 153), (2, 26, 2, 3, 155), (2, 29, 2, 4, 157), (2, 32, 2, 5, 159), (2, 35, 2, 6, 160), (2, 38, 2, 7, 161), (2, 41, 2, 8, 162), (2, 44, 2, 9, 163), (2, 78, 5, 0, 106), (2, 81, 5, 5, 125), (2, 84, 5, 1, 109), (2, 87, 5, 2, 113), (2, 90, 5, 3, 118), (2, 93, 5, 4, 122), (3, 9, 3, 0, 283), (3, 15, 3, 1, 284), (3, 18, 3, 2, 286), (3, 21, 3, 3, 287), (3, 25, 3, 4, 289), (4, 9, 4, 1, 197), (4, 15, 4, 2, 199), (4, 18, 4, 3, 201), (4, 21, 4, 4, 203), (4, 24, 4, 5, 205), (4, 27, 4, 6, 207), (4, 30, 4, 7, 209), (4, 34, 4, 8, 210), (4, 37, 4, 9, 212), (4, 40, 4, 10, 214), (4, 43, 4, 11, 216), (4, 46, 4, 12, 218), (4, 49, 4, 13, 220), (4, 52, 4, 14, 222), (4, 55, 4, 15, 223), (4, 58, 4, 16, 224), (4, 61, 4, 0, 196), (4, 68, 5, 0, 104), (4, 73, 5, 3, 117), (4, 74, 5, 4, 121), (4, 81, 5, 1, 110), (4, 84, 5, 2, 114), (4, 110, 5, 5, 126), (5, 9, 5, 0, 103), (5, 15, 5, 1, 108), (5, 18, 5, 2, 112), (5, 21, 5, 3, 116), (5, 24, 5, 4, 120), (5, 42, 5, 5, 124), (6, 10, 6, 0, 328), (6, 19, 6, 1, 329), (6, 28, 6, 2, 330), (6, 32, 6, 3, 331), (6, 35, 6, 4, 332), (6, 41, 6, 5, 333), (6, 45, 6, 6, 334), (6, 51, 6, 7, 335), (6, 58, 6, 8, 336), (6, 62, 6, 9, 337), (6, 66, 4, 6, 208), (6, 74, 2, 1, 152), (6, 81, 2, 4, 158), (6, 84, 2, 2, 154), (6, 96, 1, 1, 271), (6, 100, 2, 3, 156), (6, 107, 5, 0, 107), (6, 116, 5, 1, 111), (6, 119, 5, 2, 115), (6, 122, 4, 8, 211), (6, 125, 4, 9, 213), (6, 132, 4, 10, 215), (6, 151, 4, 1, 198), (6, 154, 4, 2, 200), (6, 157, 4, 3, 202), (6, 160, 4, 4, 204), (6, 163, 4, 5, 206), (6, 182, 5, 3, 119), (6, 183, 5, 4, 123), (6, 184, 5, 5, 127), (6, 207, 3, 3, 288), (6, 210, 3, 4, 290), (6, 213, 3, 1, 285), (6, 224, 0, 1, 310), (6, 231, 0, 2, 312), (6, 234, 0, 3, 314), (6, 237, 0, 4, 316), (6, 240, 4, 11, 217), (6, 243, 4, 12, 219), (6, 246, 4, 13, 221), (6, 263, 1, 0, 269), (7, 7, 7, 2, 801), (7, 13, 7, 9, 808), (7, 16, 7, 10, 809), (7, 19, 7, 13, 812), (7, 22, 7, 14, 813), (7, 25, 7, 15, 814), (7, 28, 7, 16, 815), (7, 32, 7, 17, 816), (7, 35, 7, 18, 817), (7, 38, 7, 19, 818), (7, 41, 7, 20, 819), (7, 44, 7, 21, 820), (7, 47, 7, 22, 821), (7, 50, 7, 23, 822), (7, 59, 7, 0, 799), (7, 67, 7, 3, 802), (7, 82, 7, 4, 803), (7, 89, 7, 6, 805), (7, 92, 7, 5, 804), (7, 99, 7, 7, 806), (7, 102, 7, 8, 807), (7, 116, 7, 12, 811), (7, 139, 7, 11, 810), (7, 215, 7, 24, 823), (7, 222, 7, 1, 800), (9, 9, 9, 0, 1140), (9, 15, 9, 1, 1141)]
def am_TT (a b : Nat) : String × String × String := match vwCl[a]? with
  | some q => ((q.2.1 b).1, (q.2.1 b).2.1, (q.2.1 b).2.2.1)
  | none => match b with
    | 0 => ("java/lang/String", "value", "[B")
    | _ => ("java/lang/String", "coder", "B")
def am_nf (a : Nat) : Nat := match vwCl[a]? with
  | some q => q.2.2
  | none => 2
set_option maxRecDepth 100000 in
theorem am_fls_ok : ∀ q ∈ am_fls, lw_tbl[q.2.2.2.2]? = some (.fieldLink (am_cn q.1) q.2.1 (am_TT q.2.2.1 q.2.2.2.1).1 (am_TT q.2.2.1 q.2.2.2.1).2.1 (am_TT q.2.2.1 q.2.2.2.1).2.2) ∧ q.2.2.2.1 < am_nf q.2.2.1 := by decide +kernel
def am_fkt : List (List Nat) := [[3, 0, 0, 0, 0], [3, 1], [3, 0, 3, 0, 0, 0, 0, 0, 0, 0], [3, 3, 3, 0, 0], [3, 0, 0, 0, 0, 0, 0, 3, 3, 3, 3, 3, 3, 3, 3, 3, 3], [3, 3, 3, 3, 3, 0], [3, 3, 3, 3, 3, 3, 3, 3, 3, 2], [0, 2, 3, 0, 0, 0, 0, 0, 0, 3, 3, 0, 0, 3, 3, 3, 3, 3, 3, 3, 3, 3, 3, 3, 0]]
def am_fkd (a b : Nat) : Nat := ((am_fkt[a]?).getD []).getD b 9
def am_sls : List (Nat × Nat × Nat × Nat × Nat) := [(2, 67, 1, 1, 466), (2, 71, 2, 1, 468), (5, 33, 0, 1, 90), (6, 191, 3, 0, 636), (6, 194, 1, 0, 638), (6, 197, 2, 0, 639), (6, 256, 4, 0, 747), (6, 271, 5, 0, 745), (9, 38, 6, 0, 414), (9, 1053, 7, 0, 430)]
set_option maxRecDepth 100000 in
theorem am_sls_ok : ∀ q ∈ am_sls, ∃ g, am_gs[q.2.2.1]? = some g ∧ ((q.2.2.2.1 = 0 ∧ lw_tbl[q.2.2.2.2]? = some (.fieldLink (am_cn q.1) q.2.1 g.1 g.2.1 g.2.2.1)) ∨ (q.2.2.2.1 = 1 ∧ Cond.fieldLinkNest (am_cn q.1) q.2.1 g.1 g.2.1 g.2.2.1 "PaperPays" ∈ am_nw)) := by
  intro q hq
  simp only [am_sls, List.mem_cons, List.not_mem_nil, or_false] at hq
  rcases hq with rfl | rfl | rfl | rfl | rfl | rfl | rfl | rfl | rfl | rfl
  · exact ⟨_, rfl, Or.inr ⟨rfl, by decide +kernel⟩⟩
  · exact ⟨_, rfl, Or.inr ⟨rfl, by decide +kernel⟩⟩
  · exact ⟨_, rfl, Or.inr ⟨rfl, by decide +kernel⟩⟩
  · exact ⟨_, rfl, Or.inl ⟨rfl, by decide +kernel⟩⟩
  · exact ⟨_, rfl, Or.inl ⟨rfl, by decide +kernel⟩⟩
  · exact ⟨_, rfl, Or.inl ⟨rfl, by decide +kernel⟩⟩
  · exact ⟨_, rfl, Or.inl ⟨rfl, by decide +kernel⟩⟩
  · exact ⟨_, rfl, Or.inl ⟨rfl, by decide +kernel⟩⟩
  · exact ⟨_, rfl, Or.inl ⟨rfl, by decide +kernel⟩⟩
  · exact ⟨_, rfl, Or.inl ⟨rfl, by decide +kernel⟩⟩
def am_kls : List (Nat × Nat × Int32 × Nat) := [(4, 119, 1103515245, 560), (6, 115, -1000000, 499), (7, 159, -1000000, 948), (7, 176, 1103515245, 997)]
set_option maxRecDepth 100000 in
theorem am_kls_ok : ∀ q ∈ am_kls, lw_tbl[q.2.2.2]? = some (.constant (am_cn q.1) q.2.1 q.2.2.1) := by decide +kernel
def am_lls : List (Nat × Nat × Int64 × Nat) := [(7, 70, 255, 883), (7, 72, 256, 903), (7, 226, 11, 1117), (7, 228, 101, 1118), (7, 230, 1001, 1119), (7, 232, 10001, 1120), (7, 234, 101001, 1121), (7, 236, 1000101, 1122), (8, 13, 4294967295, 1139)]
set_option maxRecDepth 100000 in
theorem am_lls_ok : ∀ q ∈ am_lls, lw_tbl[q.2.2.2]? = some (.constantLong (am_cn q.1) q.2.1 q.2.2.1) := by decide +kernel
def am_nls : List (Nat × Nat × Nat × Nat × Nat × Nat) := [(1, 13, 4, 266, 187, 62), (2, 19, 5, 148, 81, 59), (6, 7, 5, 80, 81, 59), (6, 16, 2, 142, 143, 61), (6, 23, 4, 186, 187, 62), (6, 38, 1, 260, 261, 63), (6, 48, 3, 277, 278, 64), (6, 55, 0, 302, 303, 65), (8, 7, 6, 72, 73, 58), (8, 10, 7, 773, 774, 66)]
set_option maxRecDepth 100000 in
theorem am_nls_ok : ∀ q ∈ am_nls, lw_tbl[q.2.2.2.1]? = some (.classLink (am_cn q.1) q.2.1 (am_cn q.2.2.1)) ∧ lw_tbl[q.2.2.2.2.1]? = some (.instantiable (am_cn q.2.2.1) (am_nf q.2.2.1)) ∧ lw_tbl[q.2.2.2.2.2]? = some (.initialized (am_cn q.2.2.1)) := by decide +kernel
theorem am_vw_cn : ∀ (a : Nat) (q : vw_C), vwCl[a]? = some q → q.1 = am_cn a ∧ q.2.2 = am_nf a ∧ ¬ a = 100 := by
  intro a q h
  match a, h with
  | 0, h => cases h; exact ⟨rfl, rfl, by decide⟩
  | 1, h => cases h; exact ⟨rfl, rfl, by decide⟩
  | 2, h => cases h; exact ⟨rfl, rfl, by decide⟩
  | 3, h => cases h; exact ⟨rfl, rfl, by decide⟩
  | 4, h => cases h; exact ⟨rfl, rfl, by decide⟩
  | 5, h => cases h; exact ⟨rfl, rfl, by decide⟩
  | 6, h => cases h; exact ⟨rfl, rfl, by decide⟩
  | 7, h => cases h; exact ⟨rfl, rfl, by decide⟩
  | n + 8, h => simp at h
theorem am_ac_int : Cond.arrayClass .int ∈ xw_tw := xw_in 141 (by decide +kernel) rfl
theorem am_ac_byte : Cond.arrayClass .byte ∈ xw_tw := xw_in 185 (by decide +kernel) rfl
theorem am_ac_boolean : Cond.arrayClass .boolean ∈ xw_tw := xw_in 875 (by decide +kernel) rfl
def am_pls : List (Nat × Nat × Nat × Nat × Nat × Nat) := [(2, 306, 305, 0, 65, 0), (1, 701, 699, 700, 65, 1), (1, 709, 707, 708, 65, 2), (1, 713, 712, 21, 65, 4), (2, 264, 263, 0, 63, 1), (2, 146, 145, 0, 61, 0), (1, 366, 364, 365, 61, 2), (1, 378, 376, 377, 61, 0), (1, 465, 464, 6, 61, 1), (1, 457, 456, 4, 61, 0), (1, 461, 460, 5, 61, 2), (1, 473, 472, 7, 61, 0), (1, 387, 386, 1, 61, 1), (1, 383, 382, 0, 61, 0), (1, 394, 393, 2, 61, 0), (1, 404, 403, 3, 61, 0), (0, 390, 389, 0, 61, 1), (0, 400, 399, 0, 61, 1), (2, 281, 280, 0, 64, 0), (1, 651, 649, 650, 64, 2), (1, 672, 671, 19, 64, 1), (1, 659, 657, 658, 64, 2), (1, 676, 675, 20, 64, 1), (1, 663, 662, 17, 64, 2), (1, 667, 666, 18, 64, 2), (1, 692, 690, 691, 64, 1), (1, 688, 686, 687, 64, 0), (2, 190, 189, 0, 62, 1), (1, 195, 193, 194, 62, 0), (1, 482, 480, 481, 62, 0), (1, 630, 628, 629, 62, 1), (1, 537, 535, 536, 62, 0), (1, 503, 501, 502, 62, 1), (1, 507, 506, 9, 62, 2), (1, 541, 539, 540, 62, 1), (1, 546, 545, 10, 62, 0), (1, 551, 550, 11, 62, 0), (1, 555, 554, 12, 62, 0), (1, 559, 558, 13, 62, 1), (1, 564, 563, 14, 62, 1), (1, 568, 567, 15, 62, 0), (1, 583, 581, 582, 62, 1), (1, 595, 593, 594, 62, 0), (1, 591, 589, 590, 62, 0), (1, 601, 599, 600, 62, 0), (1, 605, 603, 604, 62, 0), (1, 732, 730, 731, 62, 0), (1, 736, 735, 22, 62, 2), (1, 768, 766, 767, 62, 1), (2, 84, 83, 0, 59, 0), (1, 89, 87, 88, 59, 0), (1, 98, 96, 97, 59, 0), (1, 478, 476, 477, 59, 1), (1, 521, 519, 520, 59, 1), (1, 102, 100, 101, 59, 1), (1, 529, 527, 528, 59, 2), (2, 76, 75, 0, 58, 0), (1, 362, 360, 361, 58, 2), (1, 370, 368, 369, 58, 0), (1, 374, 372, 373, 58, 0), (1, 487, 485, 486, 58, 1), (1, 494, 492, 493, 58, 2), (1, 516, 514, 515, 58, 2), (1, 525, 523, 524, 58, 2), (1, 533, 531, 532, 58, 1), (1, 575, 573, 574, 58, 1), (1, 579, 577, 578, 58, 1), (1, 587, 585, 586, 58, 1), (1, 610, 608, 609, 58, 1), (1, 614, 612, 613, 58, 0), (1, 618, 616, 617, 58, 1), (1, 622, 620, 621, 58, 1), (1, 635, 633, 634, 58, 3), (1, 643, 641, 642, 58, 1), (1, 647, 645, 646, 58, 2), (1, 655, 653, 654, 58, 3), (1, 680, 678, 679, 58, 3), (1, 684, 682, 683, 58, 1), (1, 697, 695, 696, 58, 1), (1, 705, 703, 704, 58, 2), (1, 720, 718, 719, 58, 2), (1, 724, 722, 723, 58, 2), (1, 728, 726, 727, 58, 0), (1, 740, 738, 739, 58, 2), (1, 752, 750, 751, 58, 1), (1, 760, 758, 759, 58, 1), (1, 764, 762, 763, 58, 1), (1, 772, 770, 771, 58, 0), (0, 490, 489, 0, 58, 3), (1, 498, 497, 8, 58, 1), (1, 756, 755, 24, 58, 1), (1, 626, 625, 16, 58, 1), (1, 744, 743, 23, 58, 3), (2, 777, 776, 0, 66, 0), (0, 882, 881, 0, 66, 3), (0, 1004, 1003, 0, 66, 1), (1, 879, 877, 878, 66, 2), (1, 887, 885, 886, 66, 0), (1, 899, 898, 31, 66, 1), (0, 902, 901, 0, 66, 2), (0, 909, 908, 0, 66, 6), (0, 906, 905, 0, 66, 2), (1, 895, 894, 30, 66, 0), (1, 913, 912, 32, 66, 0), (1, 917, 916, 33, 66, 1), (1, 925, 924, 35, 66, 2), (1, 782, 781, 25, 66, 0), (0, 935, 934, 0, 66, 1), (0, 932, 931, 0, 66, 1), (1, 929, 928, 36, 66, 1), (1, 921, 920, 34, 66, 0), (1, 891, 889, 890, 66, 0), (1, 786, 785, 26, 66, 0), (1, 952, 951, 38, 66, 2), (1, 794, 793, 28, 66, 3), (1, 798, 797, 29, 66, 0), (1, 939, 937, 938, 66, 1), (1, 947, 946, 37, 66, 1), (1, 968, 967, 41, 66, 1), (1, 790, 789, 27, 66, 1), (1, 960, 959, 40, 66, 1), (1, 956, 955, 39, 66, 1), (1, 943, 941, 942, 66, 2), (1, 964, 962, 963, 66, 2), (1, 972, 970, 971, 66, 2), (1, 980, 979, 42, 66, 0), (1, 992, 991, 45, 66, 0), (1, 996, 995, 46, 66, 1), (1, 988, 987, 44, 66, 0), (1, 1001, 1000, 47, 66, 1), (1, 984, 983, 43, 66, 0), (1, 976, 974, 975, 66, 1), (1, 1008, 1006, 1007, 66, 1), (1, 1012, 1010, 1011, 66, 1), (1, 1020, 1019, 48, 66, 1), (1, 1024, 1023, 49, 66, 0), (1, 1028, 1027, 50, 66, 0), (1, 1016, 1014, 1015, 66, 1), (1, 1032, 1030, 1031, 66, 1), (1, 1036, 1034, 1035, 66, 0), (1, 1040, 1038, 1039, 66, 1), (1, 1048, 1047, 51, 66, 1), (1, 1052, 1051, 52, 66, 0), (1, 1044, 1042, 1043, 66, 1), (1, 1056, 1054, 1055, 66, 3), (1, 1060, 1058, 1059, 66, 1), (1, 1064, 1062, 1063, 66, 2), (1, 1080, 1079, 55, 66, 1), (1, 1076, 1075, 54, 66, 2), (1, 1072, 1071, 53, 66, 2), (1, 1068, 1066, 1067, 66, 3), (1, 1084, 1082, 1083, 66, 3), (1, 1088, 1086, 1087, 66, 1), (1, 1092, 1090, 1091, 66, 1), (1, 1100, 1099, 56, 66, 4), (1, 1096, 1094, 1095, 66, 2), (1, 1104, 1102, 1103, 66, 2), (1, 1108, 1106, 1107, 66, 2), (1, 1112, 1110, 1111, 66, 0), (1, 1116, 1114, 1115, 66, 2), (1, 1126, 1124, 1125, 66, 1), (1, 1130, 1128, 1129, 66, 1), (1, 1134, 1132, 1133, 66, 1), (1, 1138, 1136, 1137, 66, 0), (1, 409, 407, 408, 68, 0), (1, 419, 417, 418, 68, 1), (1, 413, 411, 412, 68, 0), (1, 423, 421, 422, 68, 0), (0, 429, 428, 0, 68, 2), (0, 426, 425, 0, 69, 2), (0, 434, 433, 0, 70, 3), (9, 0, 0, 0, 0, 0)]
def am_pl (z : Nat) : Nat × Nat × Nat × Nat × Nat × Nat := (am_pls[z]?).getD (9, 0, 0, 0, 0, 0)
/-- the words of method z, by their places -/
def am_zok (z : Nat) : Prop := lw_tbl[(am_pl z).2.1]? = some (.code (am_mt z) (am_cd z) (am_ml z) (am_rt z)) ∧ lw_tbl[(am_pl z).2.2.2.2.1]? = some (.initialized (am_mt z).cls) ∧ ((am_mt z).cls ≠ "java/lang/invoke/MethodHandle" ∧ (am_mt z).cls ≠ "java/lang/invoke/VarHandle") ∧ (parseMethodDescriptor (am_mt z).desc).map (fun d => d.parameters.length) = some (am_pl z).2.2.2.2.2 ∧ (match (am_pl z).1 with
  | 0 => lw_tbl[(am_pl z).2.2.1]? = some (.static (am_mt z))
  | 1 => lw_tbl[(am_pl z).2.2.1]? = some (.instanceMethod (am_mt z)) ∧ lw_tbl[(am_pl z).2.2.2.1]? = some (.selects (am_mt z).cls (am_mt z) (am_mt z))
  | 2 => lw_tbl[(am_pl z).2.2.1]? = some (.instanceMethod (am_mt z)) ∧ (am_mt z).name = "<init>" ∧ am_rt z = none
  | _ => True)
set_option maxRecDepth 100000 in
theorem am_z0 : am_zok 0 := ⟨by decide +kernel, by decide +kernel, by decide +kernel, by decide +kernel, ⟨by decide +kernel, by decide +kernel, by decide +kernel⟩⟩
set_option maxRecDepth 100000 in
theorem am_z1 : am_zok 1 := ⟨by decide +kernel, by decide +kernel, by decide +kernel, by decide +kernel, ⟨by decide +kernel, by decide +kernel⟩⟩
set_option maxRecDepth 100000 in
theorem am_z2 : am_zok 2 := ⟨by decide +kernel, by decide +kernel, by decide +kernel, by decide +kernel, ⟨by decide +kernel, by decide +kernel⟩⟩
set_option maxRecDepth 100000 in
theorem am_z3 : am_zok 3 := ⟨by decide +kernel, by decide +kernel, by decide +kernel, by decide +kernel, ⟨by decide +kernel, by decide +kernel⟩⟩
set_option maxRecDepth 100000 in
theorem am_z4 : am_zok 4 := ⟨by decide +kernel, by decide +kernel, by decide +kernel, by decide +kernel, ⟨by decide +kernel, by decide +kernel, by decide +kernel⟩⟩
set_option maxRecDepth 100000 in
theorem am_z5 : am_zok 5 := ⟨by decide +kernel, by decide +kernel, by decide +kernel, by decide +kernel, ⟨by decide +kernel, by decide +kernel, by decide +kernel⟩⟩
set_option maxRecDepth 100000 in
theorem am_z6 : am_zok 6 := ⟨by decide +kernel, by decide +kernel, by decide +kernel, by decide +kernel, ⟨by decide +kernel, by decide +kernel⟩⟩
set_option maxRecDepth 100000 in
theorem am_z7 : am_zok 7 := ⟨by decide +kernel, by decide +kernel, by decide +kernel, by decide +kernel, ⟨by decide +kernel, by decide +kernel⟩⟩
set_option maxRecDepth 100000 in
theorem am_z8 : am_zok 8 := ⟨by decide +kernel, by decide +kernel, by decide +kernel, by decide +kernel, ⟨by decide +kernel, by decide +kernel⟩⟩
set_option maxRecDepth 100000 in
theorem am_z9 : am_zok 9 := ⟨by decide +kernel, by decide +kernel, by decide +kernel, by decide +kernel, ⟨by decide +kernel, by decide +kernel⟩⟩
set_option maxRecDepth 100000 in
theorem am_z10 : am_zok 10 := ⟨by decide +kernel, by decide +kernel, by decide +kernel, by decide +kernel, ⟨by decide +kernel, by decide +kernel⟩⟩
set_option maxRecDepth 100000 in
theorem am_z11 : am_zok 11 := ⟨by decide +kernel, by decide +kernel, by decide +kernel, by decide +kernel, ⟨by decide +kernel, by decide +kernel⟩⟩
set_option maxRecDepth 100000 in
theorem am_z12 : am_zok 12 := ⟨by decide +kernel, by decide +kernel, by decide +kernel, by decide +kernel, ⟨by decide +kernel, by decide +kernel⟩⟩
set_option maxRecDepth 100000 in
theorem am_z13 : am_zok 13 := ⟨by decide +kernel, by decide +kernel, by decide +kernel, by decide +kernel, ⟨by decide +kernel, by decide +kernel⟩⟩
set_option maxRecDepth 100000 in
theorem am_z14 : am_zok 14 := ⟨by decide +kernel, by decide +kernel, by decide +kernel, by decide +kernel, ⟨by decide +kernel, by decide +kernel⟩⟩
set_option maxRecDepth 100000 in
theorem am_z15 : am_zok 15 := ⟨by decide +kernel, by decide +kernel, by decide +kernel, by decide +kernel, ⟨by decide +kernel, by decide +kernel⟩⟩
set_option maxRecDepth 100000 in
theorem am_z16 : am_zok 16 := ⟨by decide +kernel, by decide +kernel, by decide +kernel, by decide +kernel, (show lw_tbl[(am_pl 16).2.2.1]? = some (.static (am_mt 16)) by decide +kernel)⟩
set_option maxRecDepth 100000 in
theorem am_z17 : am_zok 17 := ⟨by decide +kernel, by decide +kernel, by decide +kernel, by decide +kernel, (show lw_tbl[(am_pl 17).2.2.1]? = some (.static (am_mt 17)) by decide +kernel)⟩
set_option maxRecDepth 100000 in
theorem am_z18 : am_zok 18 := ⟨by decide +kernel, by decide +kernel, by decide +kernel, by decide +kernel, ⟨by decide +kernel, by decide +kernel, by decide +kernel⟩⟩
set_option maxRecDepth 100000 in
theorem am_z19 : am_zok 19 := ⟨by decide +kernel, by decide +kernel, by decide +kernel, by decide +kernel, ⟨by decide +kernel, by decide +kernel⟩⟩
set_option maxRecDepth 100000 in
theorem am_z20 : am_zok 20 := ⟨by decide +kernel, by decide +kernel, by decide +kernel, by decide +kernel, ⟨by decide +kernel, by decide +kernel⟩⟩
set_option maxRecDepth 100000 in
theorem am_z21 : am_zok 21 := ⟨by decide +kernel, by decide +kernel, by decide +kernel, by decide +kernel, ⟨by decide +kernel, by decide +kernel⟩⟩
set_option maxRecDepth 100000 in
theorem am_z22 : am_zok 22 := ⟨by decide +kernel, by decide +kernel, by decide +kernel, by decide +kernel, ⟨by decide +kernel, by decide +kernel⟩⟩
set_option maxRecDepth 100000 in
theorem am_z23 : am_zok 23 := ⟨by decide +kernel, by decide +kernel, by decide +kernel, by decide +kernel, ⟨by decide +kernel, by decide +kernel⟩⟩
set_option maxRecDepth 100000 in
theorem am_z24 : am_zok 24 := ⟨by decide +kernel, by decide +kernel, by decide +kernel, by decide +kernel, ⟨by decide +kernel, by decide +kernel⟩⟩
set_option maxRecDepth 100000 in
theorem am_z25 : am_zok 25 := ⟨by decide +kernel, by decide +kernel, by decide +kernel, by decide +kernel, ⟨by decide +kernel, by decide +kernel⟩⟩
set_option maxRecDepth 100000 in
theorem am_z26 : am_zok 26 := ⟨by decide +kernel, by decide +kernel, by decide +kernel, by decide +kernel, ⟨by decide +kernel, by decide +kernel⟩⟩
set_option maxRecDepth 100000 in
theorem am_z27 : am_zok 27 := ⟨by decide +kernel, by decide +kernel, by decide +kernel, by decide +kernel, ⟨by decide +kernel, by decide +kernel, by decide +kernel⟩⟩
set_option maxRecDepth 100000 in
theorem am_z28 : am_zok 28 := ⟨by decide +kernel, by decide +kernel, by decide +kernel, by decide +kernel, ⟨by decide +kernel, by decide +kernel⟩⟩
set_option maxRecDepth 100000 in
theorem am_z29 : am_zok 29 := ⟨by decide +kernel, by decide +kernel, by decide +kernel, by decide +kernel, ⟨by decide +kernel, by decide +kernel⟩⟩
set_option maxRecDepth 100000 in
theorem am_z30 : am_zok 30 := ⟨by decide +kernel, by decide +kernel, by decide +kernel, by decide +kernel, ⟨by decide +kernel, by decide +kernel⟩⟩
set_option maxRecDepth 100000 in
theorem am_z31 : am_zok 31 := ⟨by decide +kernel, by decide +kernel, by decide +kernel, by decide +kernel, ⟨by decide +kernel, by decide +kernel⟩⟩
set_option maxRecDepth 100000 in
theorem am_z32 : am_zok 32 := ⟨by decide +kernel, by decide +kernel, by decide +kernel, by decide +kernel, ⟨by decide +kernel, by decide +kernel⟩⟩
set_option maxRecDepth 100000 in
theorem am_z33 : am_zok 33 := ⟨by decide +kernel, by decide +kernel, by decide +kernel, by decide +kernel, ⟨by decide +kernel, by decide +kernel⟩⟩
set_option maxRecDepth 100000 in
theorem am_z34 : am_zok 34 := ⟨by decide +kernel, by decide +kernel, by decide +kernel, by decide +kernel, ⟨by decide +kernel, by decide +kernel⟩⟩
set_option maxRecDepth 100000 in
theorem am_z35 : am_zok 35 := ⟨by decide +kernel, by decide +kernel, by decide +kernel, by decide +kernel, ⟨by decide +kernel, by decide +kernel⟩⟩
set_option maxRecDepth 100000 in
theorem am_z36 : am_zok 36 := ⟨by decide +kernel, by decide +kernel, by decide +kernel, by decide +kernel, ⟨by decide +kernel, by decide +kernel⟩⟩
set_option maxRecDepth 100000 in
theorem am_z37 : am_zok 37 := ⟨by decide +kernel, by decide +kernel, by decide +kernel, by decide +kernel, ⟨by decide +kernel, by decide +kernel⟩⟩
set_option maxRecDepth 100000 in
theorem am_z38 : am_zok 38 := ⟨by decide +kernel, by decide +kernel, by decide +kernel, by decide +kernel, ⟨by decide +kernel, by decide +kernel⟩⟩
set_option maxRecDepth 100000 in
theorem am_z39 : am_zok 39 := ⟨by decide +kernel, by decide +kernel, by decide +kernel, by decide +kernel, ⟨by decide +kernel, by decide +kernel⟩⟩
set_option maxRecDepth 100000 in
theorem am_z40 : am_zok 40 := ⟨by decide +kernel, by decide +kernel, by decide +kernel, by decide +kernel, ⟨by decide +kernel, by decide +kernel⟩⟩
set_option maxRecDepth 100000 in
theorem am_z41 : am_zok 41 := ⟨by decide +kernel, by decide +kernel, by decide +kernel, by decide +kernel, ⟨by decide +kernel, by decide +kernel⟩⟩
set_option maxRecDepth 100000 in
theorem am_z42 : am_zok 42 := ⟨by decide +kernel, by decide +kernel, by decide +kernel, by decide +kernel, ⟨by decide +kernel, by decide +kernel⟩⟩
set_option maxRecDepth 100000 in
theorem am_z43 : am_zok 43 := ⟨by decide +kernel, by decide +kernel, by decide +kernel, by decide +kernel, ⟨by decide +kernel, by decide +kernel⟩⟩
set_option maxRecDepth 100000 in
theorem am_z44 : am_zok 44 := ⟨by decide +kernel, by decide +kernel, by decide +kernel, by decide +kernel, ⟨by decide +kernel, by decide +kernel⟩⟩
set_option maxRecDepth 100000 in
theorem am_z45 : am_zok 45 := ⟨by decide +kernel, by decide +kernel, by decide +kernel, by decide +kernel, ⟨by decide +kernel, by decide +kernel⟩⟩
set_option maxRecDepth 100000 in
theorem am_z46 : am_zok 46 := ⟨by decide +kernel, by decide +kernel, by decide +kernel, by decide +kernel, ⟨by decide +kernel, by decide +kernel⟩⟩
set_option maxRecDepth 100000 in
theorem am_z47 : am_zok 47 := ⟨by decide +kernel, by decide +kernel, by decide +kernel, by decide +kernel, ⟨by decide +kernel, by decide +kernel⟩⟩
set_option maxRecDepth 100000 in
theorem am_z48 : am_zok 48 := ⟨by decide +kernel, by decide +kernel, by decide +kernel, by decide +kernel, ⟨by decide +kernel, by decide +kernel⟩⟩
set_option maxRecDepth 100000 in
theorem am_z49 : am_zok 49 := ⟨by decide +kernel, by decide +kernel, by decide +kernel, by decide +kernel, ⟨by decide +kernel, by decide +kernel, by decide +kernel⟩⟩
set_option maxRecDepth 100000 in
theorem am_z50 : am_zok 50 := ⟨by decide +kernel, by decide +kernel, by decide +kernel, by decide +kernel, ⟨by decide +kernel, by decide +kernel⟩⟩
set_option maxRecDepth 100000 in
theorem am_z51 : am_zok 51 := ⟨by decide +kernel, by decide +kernel, by decide +kernel, by decide +kernel, ⟨by decide +kernel, by decide +kernel⟩⟩
set_option maxRecDepth 100000 in
theorem am_z52 : am_zok 52 := ⟨by decide +kernel, by decide +kernel, by decide +kernel, by decide +kernel, ⟨by decide +kernel, by decide +kernel⟩⟩
set_option maxRecDepth 100000 in
theorem am_z53 : am_zok 53 := ⟨by decide +kernel, by decide +kernel, by decide +kernel, by decide +kernel, ⟨by decide +kernel, by decide +kernel⟩⟩
set_option maxRecDepth 100000 in
theorem am_z54 : am_zok 54 := ⟨by decide +kernel, by decide +kernel, by decide +kernel, by decide +kernel, ⟨by decide +kernel, by decide +kernel⟩⟩
set_option maxRecDepth 100000 in
theorem am_z55 : am_zok 55 := ⟨by decide +kernel, by decide +kernel, by decide +kernel, by decide +kernel, ⟨by decide +kernel, by decide +kernel⟩⟩
set_option maxRecDepth 100000 in
theorem am_z56 : am_zok 56 := ⟨by decide +kernel, by decide +kernel, by decide +kernel, by decide +kernel, ⟨by decide +kernel, by decide +kernel, by decide +kernel⟩⟩
set_option maxRecDepth 100000 in
theorem am_z57 : am_zok 57 := ⟨by decide +kernel, by decide +kernel, by decide +kernel, by decide +kernel, ⟨by decide +kernel, by decide +kernel⟩⟩
set_option maxRecDepth 100000 in
theorem am_z58 : am_zok 58 := ⟨by decide +kernel, by decide +kernel, by decide +kernel, by decide +kernel, ⟨by decide +kernel, by decide +kernel⟩⟩
set_option maxRecDepth 100000 in
theorem am_z59 : am_zok 59 := ⟨by decide +kernel, by decide +kernel, by decide +kernel, by decide +kernel, ⟨by decide +kernel, by decide +kernel⟩⟩
set_option maxRecDepth 100000 in
theorem am_z60 : am_zok 60 := ⟨by decide +kernel, by decide +kernel, by decide +kernel, by decide +kernel, ⟨by decide +kernel, by decide +kernel⟩⟩
set_option maxRecDepth 100000 in
theorem am_z61 : am_zok 61 := ⟨by decide +kernel, by decide +kernel, by decide +kernel, by decide +kernel, ⟨by decide +kernel, by decide +kernel⟩⟩
set_option maxRecDepth 100000 in
theorem am_z62 : am_zok 62 := ⟨by decide +kernel, by decide +kernel, by decide +kernel, by decide +kernel, ⟨by decide +kernel, by decide +kernel⟩⟩
set_option maxRecDepth 100000 in
theorem am_z63 : am_zok 63 := ⟨by decide +kernel, by decide +kernel, by decide +kernel, by decide +kernel, ⟨by decide +kernel, by decide +kernel⟩⟩
set_option maxRecDepth 100000 in
theorem am_z64 : am_zok 64 := ⟨by decide +kernel, by decide +kernel, by decide +kernel, by decide +kernel, ⟨by decide +kernel, by decide +kernel⟩⟩
set_option maxRecDepth 100000 in
theorem am_z65 : am_zok 65 := ⟨by decide +kernel, by decide +kernel, by decide +kernel, by decide +kernel, ⟨by decide +kernel, by decide +kernel⟩⟩
set_option maxRecDepth 100000 in
theorem am_z66 : am_zok 66 := ⟨by decide +kernel, by decide +kernel, by decide +kernel, by decide +kernel, ⟨by decide +kernel, by decide +kernel⟩⟩
set_option maxRecDepth 100000 in
theorem am_z67 : am_zok 67 := ⟨by decide +kernel, by decide +kernel, by decide +kernel, by decide +kernel, ⟨by decide +kernel, by decide +kernel⟩⟩
set_option maxRecDepth 100000 in
theorem am_z68 : am_zok 68 := ⟨by decide +kernel, by decide +kernel, by decide +kernel, by decide +kernel, ⟨by decide +kernel, by decide +kernel⟩⟩
set_option maxRecDepth 100000 in
theorem am_z69 : am_zok 69 := ⟨by decide +kernel, by decide +kernel, by decide +kernel, by decide +kernel, ⟨by decide +kernel, by decide +kernel⟩⟩
set_option maxRecDepth 100000 in
theorem am_z70 : am_zok 70 := ⟨by decide +kernel, by decide +kernel, by decide +kernel, by decide +kernel, ⟨by decide +kernel, by decide +kernel⟩⟩
set_option maxRecDepth 100000 in
theorem am_z71 : am_zok 71 := ⟨by decide +kernel, by decide +kernel, by decide +kernel, by decide +kernel, ⟨by decide +kernel, by decide +kernel⟩⟩
set_option maxRecDepth 100000 in
theorem am_z72 : am_zok 72 := ⟨by decide +kernel, by decide +kernel, by decide +kernel, by decide +kernel, ⟨by decide +kernel, by decide +kernel⟩⟩
set_option maxRecDepth 100000 in
theorem am_z73 : am_zok 73 := ⟨by decide +kernel, by decide +kernel, by decide +kernel, by decide +kernel, ⟨by decide +kernel, by decide +kernel⟩⟩
set_option maxRecDepth 100000 in
theorem am_z74 : am_zok 74 := ⟨by decide +kernel, by decide +kernel, by decide +kernel, by decide +kernel, ⟨by decide +kernel, by decide +kernel⟩⟩
set_option maxRecDepth 100000 in
theorem am_z75 : am_zok 75 := ⟨by decide +kernel, by decide +kernel, by decide +kernel, by decide +kernel, ⟨by decide +kernel, by decide +kernel⟩⟩
set_option maxRecDepth 100000 in
theorem am_z76 : am_zok 76 := ⟨by decide +kernel, by decide +kernel, by decide +kernel, by decide +kernel, ⟨by decide +kernel, by decide +kernel⟩⟩
set_option maxRecDepth 100000 in
theorem am_z77 : am_zok 77 := ⟨by decide +kernel, by decide +kernel, by decide +kernel, by decide +kernel, ⟨by decide +kernel, by decide +kernel⟩⟩
set_option maxRecDepth 100000 in
theorem am_z78 : am_zok 78 := ⟨by decide +kernel, by decide +kernel, by decide +kernel, by decide +kernel, ⟨by decide +kernel, by decide +kernel⟩⟩
set_option maxRecDepth 100000 in
theorem am_z79 : am_zok 79 := ⟨by decide +kernel, by decide +kernel, by decide +kernel, by decide +kernel, ⟨by decide +kernel, by decide +kernel⟩⟩
set_option maxRecDepth 100000 in
theorem am_z80 : am_zok 80 := ⟨by decide +kernel, by decide +kernel, by decide +kernel, by decide +kernel, ⟨by decide +kernel, by decide +kernel⟩⟩
set_option maxRecDepth 100000 in
theorem am_z81 : am_zok 81 := ⟨by decide +kernel, by decide +kernel, by decide +kernel, by decide +kernel, ⟨by decide +kernel, by decide +kernel⟩⟩
set_option maxRecDepth 100000 in
theorem am_z82 : am_zok 82 := ⟨by decide +kernel, by decide +kernel, by decide +kernel, by decide +kernel, ⟨by decide +kernel, by decide +kernel⟩⟩
set_option maxRecDepth 100000 in
theorem am_z83 : am_zok 83 := ⟨by decide +kernel, by decide +kernel, by decide +kernel, by decide +kernel, ⟨by decide +kernel, by decide +kernel⟩⟩
set_option maxRecDepth 100000 in
theorem am_z84 : am_zok 84 := ⟨by decide +kernel, by decide +kernel, by decide +kernel, by decide +kernel, ⟨by decide +kernel, by decide +kernel⟩⟩
set_option maxRecDepth 100000 in
theorem am_z85 : am_zok 85 := ⟨by decide +kernel, by decide +kernel, by decide +kernel, by decide +kernel, ⟨by decide +kernel, by decide +kernel⟩⟩
set_option maxRecDepth 100000 in
theorem am_z86 : am_zok 86 := ⟨by decide +kernel, by decide +kernel, by decide +kernel, by decide +kernel, ⟨by decide +kernel, by decide +kernel⟩⟩
set_option maxRecDepth 100000 in
theorem am_z87 : am_zok 87 := ⟨by decide +kernel, by decide +kernel, by decide +kernel, by decide +kernel, ⟨by decide +kernel, by decide +kernel⟩⟩
set_option maxRecDepth 100000 in
theorem am_z88 : am_zok 88 := ⟨by decide +kernel, by decide +kernel, by decide +kernel, by decide +kernel, (show lw_tbl[(am_pl 88).2.2.1]? = some (.static (am_mt 88)) by decide +kernel)⟩
set_option maxRecDepth 100000 in
theorem am_z89 : am_zok 89 := ⟨by decide +kernel, by decide +kernel, by decide +kernel, by decide +kernel, ⟨by decide +kernel, by decide +kernel⟩⟩
set_option maxRecDepth 100000 in
theorem am_z90 : am_zok 90 := ⟨by decide +kernel, by decide +kernel, by decide +kernel, by decide +kernel, ⟨by decide +kernel, by decide +kernel⟩⟩
set_option maxRecDepth 100000 in
theorem am_z91 : am_zok 91 := ⟨by decide +kernel, by decide +kernel, by decide +kernel, by decide +kernel, ⟨by decide +kernel, by decide +kernel⟩⟩
set_option maxRecDepth 100000 in
theorem am_z92 : am_zok 92 := ⟨by decide +kernel, by decide +kernel, by decide +kernel, by decide +kernel, ⟨by decide +kernel, by decide +kernel⟩⟩
set_option maxRecDepth 100000 in
theorem am_z93 : am_zok 93 := ⟨by decide +kernel, by decide +kernel, by decide +kernel, by decide +kernel, ⟨by decide +kernel, by decide +kernel, by decide +kernel⟩⟩
set_option maxRecDepth 100000 in
theorem am_z94 : am_zok 94 := ⟨by decide +kernel, by decide +kernel, by decide +kernel, by decide +kernel, (show lw_tbl[(am_pl 94).2.2.1]? = some (.static (am_mt 94)) by decide +kernel)⟩
set_option maxRecDepth 100000 in
theorem am_z95 : am_zok 95 := ⟨by decide +kernel, by decide +kernel, by decide +kernel, by decide +kernel, (show lw_tbl[(am_pl 95).2.2.1]? = some (.static (am_mt 95)) by decide +kernel)⟩
set_option maxRecDepth 100000 in
theorem am_z96 : am_zok 96 := ⟨by decide +kernel, by decide +kernel, by decide +kernel, by decide +kernel, ⟨by decide +kernel, by decide +kernel⟩⟩
set_option maxRecDepth 100000 in
theorem am_z97 : am_zok 97 := ⟨by decide +kernel, by decide +kernel, by decide +kernel, by decide +kernel, ⟨by decide +kernel, by decide +kernel⟩⟩
set_option maxRecDepth 100000 in
theorem am_z98 : am_zok 98 := ⟨by decide +kernel, by decide +kernel, by decide +kernel, by decide +kernel, ⟨by decide +kernel, by decide +kernel⟩⟩
set_option maxRecDepth 100000 in
theorem am_z99 : am_zok 99 := ⟨by decide +kernel, by decide +kernel, by decide +kernel, by decide +kernel, (show lw_tbl[(am_pl 99).2.2.1]? = some (.static (am_mt 99)) by decide +kernel)⟩
set_option maxRecDepth 100000 in
theorem am_z100 : am_zok 100 := ⟨by decide +kernel, by decide +kernel, by decide +kernel, by decide +kernel, (show lw_tbl[(am_pl 100).2.2.1]? = some (.static (am_mt 100)) by decide +kernel)⟩
set_option maxRecDepth 100000 in
theorem am_z101 : am_zok 101 := ⟨by decide +kernel, by decide +kernel, by decide +kernel, by decide +kernel, (show lw_tbl[(am_pl 101).2.2.1]? = some (.static (am_mt 101)) by decide +kernel)⟩
set_option maxRecDepth 100000 in
theorem am_z102 : am_zok 102 := ⟨by decide +kernel, by decide +kernel, by decide +kernel, by decide +kernel, ⟨by decide +kernel, by decide +kernel⟩⟩
set_option maxRecDepth 100000 in
theorem am_z103 : am_zok 103 := ⟨by decide +kernel, by decide +kernel, by decide +kernel, by decide +kernel, ⟨by decide +kernel, by decide +kernel⟩⟩
set_option maxRecDepth 100000 in
theorem am_z104 : am_zok 104 := ⟨by decide +kernel, by decide +kernel, by decide +kernel, by decide +kernel, ⟨by decide +kernel, by decide +kernel⟩⟩
set_option maxRecDepth 100000 in
theorem am_z105 : am_zok 105 := ⟨by decide +kernel, by decide +kernel, by decide +kernel, by decide +kernel, ⟨by decide +kernel, by decide +kernel⟩⟩
set_option maxRecDepth 100000 in
theorem am_z106 : am_zok 106 := ⟨by decide +kernel, by decide +kernel, by decide +kernel, by decide +kernel, ⟨by decide +kernel, by decide +kernel⟩⟩
set_option maxRecDepth 100000 in
theorem am_z107 : am_zok 107 := ⟨by decide +kernel, by decide +kernel, by decide +kernel, by decide +kernel, (show lw_tbl[(am_pl 107).2.2.1]? = some (.static (am_mt 107)) by decide +kernel)⟩
set_option maxRecDepth 100000 in
theorem am_z108 : am_zok 108 := ⟨by decide +kernel, by decide +kernel, by decide +kernel, by decide +kernel, (show lw_tbl[(am_pl 108).2.2.1]? = some (.static (am_mt 108)) by decide +kernel)⟩
set_option maxRecDepth 100000 in
theorem am_z109 : am_zok 109 := ⟨by decide +kernel, by decide +kernel, by decide +kernel, by decide +kernel, ⟨by decide +kernel, by decide +kernel⟩⟩
set_option maxRecDepth 100000 in
theorem am_z110 : am_zok 110 := ⟨by decide +kernel, by decide +kernel, by decide +kernel, by decide +kernel, ⟨by decide +kernel, by decide +kernel⟩⟩
set_option maxRecDepth 100000 in
theorem am_z111 : am_zok 111 := ⟨by decide +kernel, by decide +kernel, by decide +kernel, by decide +kernel, ⟨by decide +kernel, by decide +kernel⟩⟩
set_option maxRecDepth 100000 in
theorem am_z112 : am_zok 112 := ⟨by decide +kernel, by decide +kernel, by decide +kernel, by decide +kernel, ⟨by decide +kernel, by decide +kernel⟩⟩
set_option maxRecDepth 100000 in
theorem am_z113 : am_zok 113 := ⟨by decide +kernel, by decide +kernel, by decide +kernel, by decide +kernel, ⟨by decide +kernel, by decide +kernel⟩⟩
set_option maxRecDepth 100000 in
theorem am_z114 : am_zok 114 := ⟨by decide +kernel, by decide +kernel, by decide +kernel, by decide +kernel, ⟨by decide +kernel, by decide +kernel⟩⟩
set_option maxRecDepth 100000 in
theorem am_z115 : am_zok 115 := ⟨by decide +kernel, by decide +kernel, by decide +kernel, by decide +kernel, ⟨by decide +kernel, by decide +kernel⟩⟩
set_option maxRecDepth 100000 in
theorem am_z116 : am_zok 116 := ⟨by decide +kernel, by decide +kernel, by decide +kernel, by decide +kernel, ⟨by decide +kernel, by decide +kernel⟩⟩
set_option maxRecDepth 100000 in
theorem am_z117 : am_zok 117 := ⟨by decide +kernel, by decide +kernel, by decide +kernel, by decide +kernel, ⟨by decide +kernel, by decide +kernel⟩⟩
set_option maxRecDepth 100000 in
theorem am_z118 : am_zok 118 := ⟨by decide +kernel, by decide +kernel, by decide +kernel, by decide +kernel, ⟨by decide +kernel, by decide +kernel⟩⟩
set_option maxRecDepth 100000 in
theorem am_z119 : am_zok 119 := ⟨by decide +kernel, by decide +kernel, by decide +kernel, by decide +kernel, ⟨by decide +kernel, by decide +kernel⟩⟩
set_option maxRecDepth 100000 in
theorem am_z120 : am_zok 120 := ⟨by decide +kernel, by decide +kernel, by decide +kernel, by decide +kernel, ⟨by decide +kernel, by decide +kernel⟩⟩
set_option maxRecDepth 100000 in
theorem am_z121 : am_zok 121 := ⟨by decide +kernel, by decide +kernel, by decide +kernel, by decide +kernel, ⟨by decide +kernel, by decide +kernel⟩⟩
set_option maxRecDepth 100000 in
theorem am_z122 : am_zok 122 := ⟨by decide +kernel, by decide +kernel, by decide +kernel, by decide +kernel, ⟨by decide +kernel, by decide +kernel⟩⟩
set_option maxRecDepth 100000 in
theorem am_z123 : am_zok 123 := ⟨by decide +kernel, by decide +kernel, by decide +kernel, by decide +kernel, ⟨by decide +kernel, by decide +kernel⟩⟩
set_option maxRecDepth 100000 in
theorem am_z124 : am_zok 124 := ⟨by decide +kernel, by decide +kernel, by decide +kernel, by decide +kernel, ⟨by decide +kernel, by decide +kernel⟩⟩
set_option maxRecDepth 100000 in
theorem am_z125 : am_zok 125 := ⟨by decide +kernel, by decide +kernel, by decide +kernel, by decide +kernel, ⟨by decide +kernel, by decide +kernel⟩⟩
set_option maxRecDepth 100000 in
theorem am_z126 : am_zok 126 := ⟨by decide +kernel, by decide +kernel, by decide +kernel, by decide +kernel, ⟨by decide +kernel, by decide +kernel⟩⟩
set_option maxRecDepth 100000 in
theorem am_z127 : am_zok 127 := ⟨by decide +kernel, by decide +kernel, by decide +kernel, by decide +kernel, ⟨by decide +kernel, by decide +kernel⟩⟩
set_option maxRecDepth 100000 in
theorem am_z128 : am_zok 128 := ⟨by decide +kernel, by decide +kernel, by decide +kernel, by decide +kernel, ⟨by decide +kernel, by decide +kernel⟩⟩
set_option maxRecDepth 100000 in
theorem am_z129 : am_zok 129 := ⟨by decide +kernel, by decide +kernel, by decide +kernel, by decide +kernel, ⟨by decide +kernel, by decide +kernel⟩⟩
set_option maxRecDepth 100000 in
theorem am_z130 : am_zok 130 := ⟨by decide +kernel, by decide +kernel, by decide +kernel, by decide +kernel, ⟨by decide +kernel, by decide +kernel⟩⟩
set_option maxRecDepth 100000 in
theorem am_z131 : am_zok 131 := ⟨by decide +kernel, by decide +kernel, by decide +kernel, by decide +kernel, ⟨by decide +kernel, by decide +kernel⟩⟩
set_option maxRecDepth 100000 in
theorem am_z132 : am_zok 132 := ⟨by decide +kernel, by decide +kernel, by decide +kernel, by decide +kernel, ⟨by decide +kernel, by decide +kernel⟩⟩
set_option maxRecDepth 100000 in
theorem am_z133 : am_zok 133 := ⟨by decide +kernel, by decide +kernel, by decide +kernel, by decide +kernel, ⟨by decide +kernel, by decide +kernel⟩⟩
set_option maxRecDepth 100000 in
theorem am_z134 : am_zok 134 := ⟨by decide +kernel, by decide +kernel, by decide +kernel, by decide +kernel, ⟨by decide +kernel, by decide +kernel⟩⟩
set_option maxRecDepth 100000 in
theorem am_z135 : am_zok 135 := ⟨by decide +kernel, by decide +kernel, by decide +kernel, by decide +kernel, ⟨by decide +kernel, by decide +kernel⟩⟩
set_option maxRecDepth 100000 in
theorem am_z136 : am_zok 136 := ⟨by decide +kernel, by decide +kernel, by decide +kernel, by decide +kernel, ⟨by decide +kernel, by decide +kernel⟩⟩
set_option maxRecDepth 100000 in
theorem am_z137 : am_zok 137 := ⟨by decide +kernel, by decide +kernel, by decide +kernel, by decide +kernel, ⟨by decide +kernel, by decide +kernel⟩⟩
set_option maxRecDepth 100000 in
theorem am_z138 : am_zok 138 := ⟨by decide +kernel, by decide +kernel, by decide +kernel, by decide +kernel, ⟨by decide +kernel, by decide +kernel⟩⟩
set_option maxRecDepth 100000 in
theorem am_z139 : am_zok 139 := ⟨by decide +kernel, by decide +kernel, by decide +kernel, by decide +kernel, ⟨by decide +kernel, by decide +kernel⟩⟩
set_option maxRecDepth 100000 in
theorem am_z140 : am_zok 140 := ⟨by decide +kernel, by decide +kernel, by decide +kernel, by decide +kernel, ⟨by decide +kernel, by decide +kernel⟩⟩
set_option maxRecDepth 100000 in
theorem am_z141 : am_zok 141 := ⟨by decide +kernel, by decide +kernel, by decide +kernel, by decide +kernel, ⟨by decide +kernel, by decide +kernel⟩⟩
set_option maxRecDepth 100000 in
theorem am_z142 : am_zok 142 := ⟨by decide +kernel, by decide +kernel, by decide +kernel, by decide +kernel, ⟨by decide +kernel, by decide +kernel⟩⟩
set_option maxRecDepth 100000 in
theorem am_z143 : am_zok 143 := ⟨by decide +kernel, by decide +kernel, by decide +kernel, by decide +kernel, ⟨by decide +kernel, by decide +kernel⟩⟩
set_option maxRecDepth 100000 in
theorem am_z144 : am_zok 144 := ⟨by decide +kernel, by decide +kernel, by decide +kernel, by decide +kernel, ⟨by decide +kernel, by decide +kernel⟩⟩
set_option maxRecDepth 100000 in
theorem am_z145 : am_zok 145 := ⟨by decide +kernel, by decide +kernel, by decide +kernel, by decide +kernel, ⟨by decide +kernel, by decide +kernel⟩⟩
set_option maxRecDepth 100000 in
theorem am_z146 : am_zok 146 := ⟨by decide +kernel, by decide +kernel, by decide +kernel, by decide +kernel, ⟨by decide +kernel, by decide +kernel⟩⟩
set_option maxRecDepth 100000 in
theorem am_z147 : am_zok 147 := ⟨by decide +kernel, by decide +kernel, by decide +kernel, by decide +kernel, ⟨by decide +kernel, by decide +kernel⟩⟩
set_option maxRecDepth 100000 in
theorem am_z148 : am_zok 148 := ⟨by decide +kernel, by decide +kernel, by decide +kernel, by decide +kernel, ⟨by decide +kernel, by decide +kernel⟩⟩
set_option maxRecDepth 100000 in
theorem am_z149 : am_zok 149 := ⟨by decide +kernel, by decide +kernel, by decide +kernel, by decide +kernel, ⟨by decide +kernel, by decide +kernel⟩⟩
set_option maxRecDepth 100000 in
theorem am_z150 : am_zok 150 := ⟨by decide +kernel, by decide +kernel, by decide +kernel, by decide +kernel, ⟨by decide +kernel, by decide +kernel⟩⟩
set_option maxRecDepth 100000 in
theorem am_z151 : am_zok 151 := ⟨by decide +kernel, by decide +kernel, by decide +kernel, by decide +kernel, ⟨by decide +kernel, by decide +kernel⟩⟩
set_option maxRecDepth 100000 in
theorem am_z152 : am_zok 152 := ⟨by decide +kernel, by decide +kernel, by decide +kernel, by decide +kernel, ⟨by decide +kernel, by decide +kernel⟩⟩
set_option maxRecDepth 100000 in
theorem am_z153 : am_zok 153 := ⟨by decide +kernel, by decide +kernel, by decide +kernel, by decide +kernel, ⟨by decide +kernel, by decide +kernel⟩⟩
set_option maxRecDepth 100000 in
theorem am_z154 : am_zok 154 := ⟨by decide +kernel, by decide +kernel, by decide +kernel, by decide +kernel, ⟨by decide +kernel, by decide +kernel⟩⟩
set_option maxRecDepth 100000 in
theorem am_z155 : am_zok 155 := ⟨by decide +kernel, by decide +kernel, by decide +kernel, by decide +kernel, ⟨by decide +kernel, by decide +kernel⟩⟩
set_option maxRecDepth 100000 in
theorem am_z156 : am_zok 156 := ⟨by decide +kernel, by decide +kernel, by decide +kernel, by decide +kernel, ⟨by decide +kernel, by decide +kernel⟩⟩
set_option maxRecDepth 100000 in
theorem am_z157 : am_zok 157 := ⟨by decide +kernel, by decide +kernel, by decide +kernel, by decide +kernel, ⟨by decide +kernel, by decide +kernel⟩⟩
set_option maxRecDepth 100000 in
theorem am_z158 : am_zok 158 := ⟨by decide +kernel, by decide +kernel, by decide +kernel, by decide +kernel, ⟨by decide +kernel, by decide +kernel⟩⟩
set_option maxRecDepth 100000 in
theorem am_z159 : am_zok 159 := ⟨by decide +kernel, by decide +kernel, by decide +kernel, by decide +kernel, ⟨by decide +kernel, by decide +kernel⟩⟩
set_option maxRecDepth 100000 in
theorem am_z160 : am_zok 160 := ⟨by decide +kernel, by decide +kernel, by decide +kernel, by decide +kernel, ⟨by decide +kernel, by decide +kernel⟩⟩
set_option maxRecDepth 100000 in
theorem am_z161 : am_zok 161 := ⟨by decide +kernel, by decide +kernel, by decide +kernel, by decide +kernel, ⟨by decide +kernel, by decide +kernel⟩⟩
set_option maxRecDepth 100000 in
theorem am_z162 : am_zok 162 := ⟨by decide +kernel, by decide +kernel, by decide +kernel, by decide +kernel, ⟨by decide +kernel, by decide +kernel⟩⟩
set_option maxRecDepth 100000 in
theorem am_z163 : am_zok 163 := ⟨by decide +kernel, by decide +kernel, by decide +kernel, by decide +kernel, ⟨by decide +kernel, by decide +kernel⟩⟩
set_option maxRecDepth 100000 in
theorem am_z164 : am_zok 164 := ⟨by decide +kernel, by decide +kernel, by decide +kernel, by decide +kernel, ⟨by decide +kernel, by decide +kernel⟩⟩
set_option maxRecDepth 100000 in
theorem am_z165 : am_zok 165 := ⟨by decide +kernel, by decide +kernel, by decide +kernel, by decide +kernel, ⟨by decide +kernel, by decide +kernel⟩⟩
set_option maxRecDepth 100000 in
theorem am_z166 : am_zok 166 := ⟨by decide +kernel, by decide +kernel, by decide +kernel, by decide +kernel, ⟨by decide +kernel, by decide +kernel⟩⟩
set_option maxRecDepth 100000 in
theorem am_z167 : am_zok 167 := ⟨by decide +kernel, by decide +kernel, by decide +kernel, by decide +kernel, ⟨by decide +kernel, by decide +kernel⟩⟩
set_option maxRecDepth 100000 in
theorem am_z168 : am_zok 168 := ⟨by decide +kernel, by decide +kernel, by decide +kernel, by decide +kernel, (show lw_tbl[(am_pl 168).2.2.1]? = some (.static (am_mt 168)) by decide +kernel)⟩
set_option maxRecDepth 100000 in
theorem am_z169 : am_zok 169 := ⟨by decide +kernel, by decide +kernel, by decide +kernel, by decide +kernel, (show lw_tbl[(am_pl 169).2.2.1]? = some (.static (am_mt 169)) by decide +kernel)⟩
set_option maxRecDepth 100000 in
theorem am_z170 : am_zok 170 := ⟨by decide +kernel, by decide +kernel, by decide +kernel, by decide +kernel, (show lw_tbl[(am_pl 170).2.2.1]? = some (.static (am_mt 170)) by decide +kernel)⟩
theorem am_z171 : (am_pl 171).1 = 9 := rfl
theorem am_z_all : ∀ z, z < 172 → (am_pl z).1 ≠ 9 → am_zok z := by
  intro z hz h9
  match z, hz, h9 with
  | 0, _, h => exact am_z0
  | 1, _, h => exact am_z1
  | 2, _, h => exact am_z2
  | 3, _, h => exact am_z3
  | 4, _, h => exact am_z4
  | 5, _, h => exact am_z5
  | 6, _, h => exact am_z6
  | 7, _, h => exact am_z7
  | 8, _, h => exact am_z8
  | 9, _, h => exact am_z9
  | 10, _, h => exact am_z10
  | 11, _, h => exact am_z11
  | 12, _, h => exact am_z12
  | 13, _, h => exact am_z13
  | 14, _, h => exact am_z14
  | 15, _, h => exact am_z15
  | 16, _, h => exact am_z16
  | 17, _, h => exact am_z17
  | 18, _, h => exact am_z18
  | 19, _, h => exact am_z19
  | 20, _, h => exact am_z20
  | 21, _, h => exact am_z21
  | 22, _, h => exact am_z22
  | 23, _, h => exact am_z23
  | 24, _, h => exact am_z24
  | 25, _, h => exact am_z25
  | 26, _, h => exact am_z26
  | 27, _, h => exact am_z27
  | 28, _, h => exact am_z28
  | 29, _, h => exact am_z29
  | 30, _, h => exact am_z30
  | 31, _, h => exact am_z31
  | 32, _, h => exact am_z32
  | 33, _, h => exact am_z33
  | 34, _, h => exact am_z34
  | 35, _, h => exact am_z35
  | 36, _, h => exact am_z36
  | 37, _, h => exact am_z37
  | 38, _, h => exact am_z38
  | 39, _, h => exact am_z39
  | 40, _, h => exact am_z40
  | 41, _, h => exact am_z41
  | 42, _, h => exact am_z42
  | 43, _, h => exact am_z43
  | 44, _, h => exact am_z44
  | 45, _, h => exact am_z45
  | 46, _, h => exact am_z46
  | 47, _, h => exact am_z47
  | 48, _, h => exact am_z48
  | 49, _, h => exact am_z49
  | 50, _, h => exact am_z50
  | 51, _, h => exact am_z51
  | 52, _, h => exact am_z52
  | 53, _, h => exact am_z53
  | 54, _, h => exact am_z54
  | 55, _, h => exact am_z55
  | 56, _, h => exact am_z56
  | 57, _, h => exact am_z57
  | 58, _, h => exact am_z58
  | 59, _, h => exact am_z59
  | 60, _, h => exact am_z60
  | 61, _, h => exact am_z61
  | 62, _, h => exact am_z62
  | 63, _, h => exact am_z63
  | 64, _, h => exact am_z64
  | 65, _, h => exact am_z65
  | 66, _, h => exact am_z66
  | 67, _, h => exact am_z67
  | 68, _, h => exact am_z68
  | 69, _, h => exact am_z69
  | 70, _, h => exact am_z70
  | 71, _, h => exact am_z71
  | 72, _, h => exact am_z72
  | 73, _, h => exact am_z73
  | 74, _, h => exact am_z74
  | 75, _, h => exact am_z75
  | 76, _, h => exact am_z76
  | 77, _, h => exact am_z77
  | 78, _, h => exact am_z78
  | 79, _, h => exact am_z79
  | 80, _, h => exact am_z80
  | 81, _, h => exact am_z81
  | 82, _, h => exact am_z82
  | 83, _, h => exact am_z83
  | 84, _, h => exact am_z84
  | 85, _, h => exact am_z85
  | 86, _, h => exact am_z86
  | 87, _, h => exact am_z87
  | 88, _, h => exact am_z88
  | 89, _, h => exact am_z89
  | 90, _, h => exact am_z90
  | 91, _, h => exact am_z91
  | 92, _, h => exact am_z92
  | 93, _, h => exact am_z93
  | 94, _, h => exact am_z94
  | 95, _, h => exact am_z95
  | 96, _, h => exact am_z96
  | 97, _, h => exact am_z97
  | 98, _, h => exact am_z98
  | 99, _, h => exact am_z99
  | 100, _, h => exact am_z100
  | 101, _, h => exact am_z101
  | 102, _, h => exact am_z102
  | 103, _, h => exact am_z103
  | 104, _, h => exact am_z104
  | 105, _, h => exact am_z105
  | 106, _, h => exact am_z106
  | 107, _, h => exact am_z107
  | 108, _, h => exact am_z108
  | 109, _, h => exact am_z109
  | 110, _, h => exact am_z110
  | 111, _, h => exact am_z111
  | 112, _, h => exact am_z112
  | 113, _, h => exact am_z113
  | 114, _, h => exact am_z114
  | 115, _, h => exact am_z115
  | 116, _, h => exact am_z116
  | 117, _, h => exact am_z117
  | 118, _, h => exact am_z118
  | 119, _, h => exact am_z119
  | 120, _, h => exact am_z120
  | 121, _, h => exact am_z121
  | 122, _, h => exact am_z122
  | 123, _, h => exact am_z123
  | 124, _, h => exact am_z124
  | 125, _, h => exact am_z125
  | 126, _, h => exact am_z126
  | 127, _, h => exact am_z127
  | 128, _, h => exact am_z128
  | 129, _, h => exact am_z129
  | 130, _, h => exact am_z130
  | 131, _, h => exact am_z131
  | 132, _, h => exact am_z132
  | 133, _, h => exact am_z133
  | 134, _, h => exact am_z134
  | 135, _, h => exact am_z135
  | 136, _, h => exact am_z136
  | 137, _, h => exact am_z137
  | 138, _, h => exact am_z138
  | 139, _, h => exact am_z139
  | 140, _, h => exact am_z140
  | 141, _, h => exact am_z141
  | 142, _, h => exact am_z142
  | 143, _, h => exact am_z143
  | 144, _, h => exact am_z144
  | 145, _, h => exact am_z145
  | 146, _, h => exact am_z146
  | 147, _, h => exact am_z147
  | 148, _, h => exact am_z148
  | 149, _, h => exact am_z149
  | 150, _, h => exact am_z150
  | 151, _, h => exact am_z151
  | 152, _, h => exact am_z152
  | 153, _, h => exact am_z153
  | 154, _, h => exact am_z154
  | 155, _, h => exact am_z155
  | 156, _, h => exact am_z156
  | 157, _, h => exact am_z157
  | 158, _, h => exact am_z158
  | 159, _, h => exact am_z159
  | 160, _, h => exact am_z160
  | 161, _, h => exact am_z161
  | 162, _, h => exact am_z162
  | 163, _, h => exact am_z163
  | 164, _, h => exact am_z164
  | 165, _, h => exact am_z165
  | 166, _, h => exact am_z166
  | 167, _, h => exact am_z167
  | 168, _, h => exact am_z168
  | 169, _, h => exact am_z169
  | 170, _, h => exact am_z170
  | 171, _, h => exact absurd am_z171 h
  | n + 172, h, _ => omega
def am_tg (z : Nat) : MethodName := match z with
  | 1001 => Lib.Math.max.name
  | 1002 => Lib.Math.min.name
  | 1003 => Lib.Math.abs.name
  | 1004 => arraycopyName
  | 1005 => Lib.objectInit
  | z => am_mt z
def am_mls2 : List (Nat × Nat × Nat × Nat × Nat) := [(0, 3, 1005, 0, 307), (0, 28, 3, 0, 710), (0, 37, 1002, 0, 714), (0, 43, 54, 0, 715), (0, 47, 1003, 0, 716), (1, 1, 1005, 0, 265), (1, 15, 27, 0, 267), (2, 3, 1005, 0, 147), (2, 21, 49, 0, 149), (2, 47, 50, 0, 379), (2, 50, 13, 0, 380), (2, 53, 9, 0, 454), (2, 57, 8, 0, 462), (2, 61, 11, 0, 470), (2, 64, 51, 0, 474), (2, 74, 10, 0, 458), (2, 96, 12, 0, 384), (2, 100, 16, 0, 388), (2, 103, 14, 0, 391), (2, 106, 17, 0, 398), (2, 109, 15, 0, 401), (2, 112, 1002, 0, 395), (2, 120, 164, 0, 406), (2, 125, 165, 0, 416), (3, 3, 1005, 0, 282), (3, 28, 23, 0, 660), (3, 32, 22, 0, 673), (3, 36, 24, 0, 664), (3, 40, 1002, 0, 668), (3, 45, 20, 0, 669), (3, 49, 25, 0, 689), (4, 3, 1005, 0, 191), (4, 65, 28, 0, 192), (4, 75, 1004, 0, 631), (4, 87, 33, 0, 504), (4, 91, 1002, 0, 512), (4, 96, 1001, 0, 509), (4, 99, 54, 0, 508), (4, 103, 31, 0, 542), (4, 107, 35, 0, 543), (4, 113, 32, 0, 547), (4, 116, 36, 0, 548), (4, 120, 39, 0, 561), (4, 124, 40, 0, 565), (4, 127, 37, 0, 552), (4, 131, 38, 0, 556), (4, 134, 1003, 0, 569), (4, 137, 41, 0, 596), (4, 140, 42, 0, 592), (4, 143, 53, 0, 606), (4, 146, 47, 0, 733), (5, 3, 1005, 0, 85), (5, 27, 50, 0, 86), (5, 30, 51, 0, 95), (5, 36, 1004, 0, 92), (5, 46, 54, 0, 99), (6, 1, 1005, 0, 77), (6, 9, 49, 0, 82), (6, 18, 5, 1, 144), (6, 25, 27, 0, 188), (6, 40, 4, 0, 262), (6, 50, 18, 1, 279), (6, 57, 0, 1, 304), (6, 70, 6, 0, 363), (6, 77, 7, 0, 375), (6, 87, 52, 0, 475), (6, 90, 29, 0, 479), (6, 93, 28, 0, 483), (6, 103, 88, 0, 488), (6, 111, 89, 0, 495), (6, 128, 32, 0, 500), (6, 135, 54, 0, 517), (6, 138, 53, 0, 518), (6, 141, 55, 0, 526), (6, 145, 31, 0, 534), (6, 148, 34, 0, 538), (6, 166, 41, 0, 580), (6, 169, 43, 0, 588), (6, 173, 42, 0, 597), (6, 176, 44, 0, 598), (6, 179, 45, 0, 602), (6, 187, 91, 0, 623), (6, 200, 19, 0, 648), (6, 203, 21, 0, 656), (6, 216, 26, 0, 685), (6, 219, 25, 0, 693), (6, 222, 1, 0, 698), (6, 227, 2, 0, 706), (6, 249, 46, 0, 729), (6, 252, 92, 0, 741), (6, 259, 90, 0, 753), (6, 264, 30, 0, 627), (6, 267, 48, 0, 765), (7, 1, 1005, 0, 778), (7, 53, 106, 0, 779), (7, 56, 112, 0, 783), (7, 63, 94, 0, 880), (7, 74, 99, 0, 900), (7, 78, 100, 0, 907), (7, 85, 98, 0, 896), (7, 95, 101, 0, 904), (7, 105, 103, 0, 910), (7, 109, 102, 0, 892), (7, 112, 104, 0, 914), (7, 119, 108, 0, 930), (7, 122, 107, 0, 933), (7, 125, 105, 0, 922), (7, 129, 110, 0, 918), (7, 132, 109, 0, 926), (7, 136, 119, 0, 787), (7, 142, 114, 0, 791), (7, 146, 115, 0, 795), (7, 149, 113, 0, 949), (7, 152, 120, 0, 957), (7, 155, 117, 0, 944), (7, 160, 121, 0, 953), (7, 163, 118, 0, 965), (7, 166, 126, 0, 989), (7, 170, 127, 0, 993), (7, 173, 128, 0, 985), (7, 177, 129, 0, 998), (7, 180, 95, 0, 1002), (7, 183, 125, 0, 977), (7, 186, 130, 0, 981), (7, 189, 134, 0, 1017), (7, 192, 135, 0, 1021), (7, 195, 136, 0, 1025), (7, 198, 141, 0, 1045), (7, 202, 142, 0, 1049), (7, 205, 147, 0, 1077), (7, 208, 148, 0, 1073), (7, 211, 149, 0, 1069), (7, 218, 154, 0, 1097), (9, 335, 166, 0, 410), (9, 492, 167, 0, 420), (9, 495, 169, 0, 424), (9, 1059, 170, 0, 432), (10, 9, 168, 0, 427), (8, 9, 56, 0, 74), (8, 12, 93, 0, 775), (8, 15, 57, 0, 359), (8, 19, 96, 0, 876), (8, 20, 58, 0, 367), (8, 24, 97, 0, 884), (8, 25, 59, 0, 371), (8, 28, 111, 0, 888), (8, 29, 60, 0, 484), (8, 33, 116, 0, 936), (8, 34, 61, 0, 491), (8, 38, 122, 0, 940), (8, 39, 62, 0, 513), (8, 42, 123, 0, 961), (8, 43, 63, 0, 522), (8, 46, 124, 0, 969), (8, 47, 64, 0, 530), (8, 50, 131, 0, 973), (8, 51, 65, 0, 572), (8, 54, 132, 0, 1005), (8, 55, 66, 0, 576), (8, 58, 133, 0, 1009), (8, 59, 67, 0, 584), (8, 62, 137, 0, 1013), (8, 63, 68, 0, 607), (8, 66, 138, 0, 1029), (8, 67, 69, 0, 611), (8, 70, 139, 0, 1033), (8, 71, 70, 0, 615), (8, 74, 140, 0, 1037), (8, 75, 71, 0, 619), (8, 78, 143, 0, 1041), (8, 79, 72, 0, 632), (8, 83, 144, 0, 1053), (8, 84, 73, 0, 640), (8, 87, 145, 0, 1057), (8, 88, 74, 0, 644), (8, 91, 146, 0, 1061), (8, 92, 75, 0, 652), (8, 95, 150, 0, 1065), (8, 96, 76, 0, 677), (8, 99, 151, 0, 1081), (8, 100, 77, 0, 681), (8, 103, 152, 0, 1085), (8, 104, 78, 0, 694), (8, 107, 153, 0, 1089), (8, 108, 79, 0, 702), (8, 111, 155, 0, 1093), (8, 112, 80, 0, 717), (8, 115, 156, 0, 1101), (8, 116, 81, 0, 721), (8, 119, 157, 0, 1105), (8, 120, 82, 0, 725), (8, 123, 158, 0, 1109), (8, 124, 83, 0, 737), (8, 127, 159, 0, 1113), (8, 128, 84, 0, 749), (8, 131, 160, 0, 1123), (8, 132, 85, 0, 757), (8, 135, 161, 0, 1127), (8, 136, 86, 0, 761), (8, 139, 162, 0, 1131), (8, 140, 87, 0, 769), (8, 144, 163, 0, 1135)]
set_option maxRecDepth 100000 in
theorem am_mls_ok : ∀ q ∈ am_mls2, (q.2.2.2.1 = 0 ∧ lw_tbl[q.2.2.2.2]? = some (.methodLink (am_cn q.1) q.2.1 (am_tg q.2.2.1))) ∨ (q.2.2.2.1 = 1 ∧ Cond.methodLinkNest (am_cn q.1) q.2.1 (am_tg q.2.2.1) "PaperPays" ∈ am_nw) := by decide +kernel
theorem am_wmax : Cond.static Lib.Math.max.name ∈ xw_tw ∧ Cond.initialized Lib.Math.max.name.cls ∈ xw_tw ∧ Cond.code Lib.Math.max.name Lib.Math.max.code 2 (some .int) ∈ xw_tw := ⟨xw_in 510 (by decide +kernel) rfl, xw_in 67 (by decide +kernel) rfl, xw_in 511 (by decide +kernel) rfl⟩
theorem am_wmin : Cond.static Lib.Math.min.name ∈ xw_tw ∧ Cond.initialized Lib.Math.min.name.cls ∈ xw_tw ∧ Cond.code Lib.Math.min.name Lib.Math.min.code 2 (some .int) ∈ xw_tw := ⟨xw_in 396 (by decide +kernel) rfl, xw_in 67 (by decide +kernel) rfl, xw_in 397 (by decide +kernel) rfl⟩
theorem am_wabs : Cond.static Lib.Math.abs.name ∈ xw_tw ∧ Cond.initialized Lib.Math.abs.name.cls ∈ xw_tw ∧ Cond.code Lib.Math.abs.name Lib.Math.abs.code 1 (some .int) ∈ xw_tw := ⟨xw_in 570 (by decide +kernel) rfl, xw_in 67 (by decide +kernel) rfl, xw_in 571 (by decide +kernel) rfl⟩
theorem am_wcopy : Cond.static arraycopyName ∈ xw_tw ∧ Cond.initialized arraycopyName.cls ∈ xw_tw ∧ Cond.native arraycopyName ∈ xw_tw := ⟨xw_in 93 (by decide +kernel) rfl, xw_in 60 (by decide +kernel) rfl, xw_in 94 (by decide +kernel) rfl⟩
theorem am_wobj : Cond.instanceMethod Lib.objectInit ∈ xw_tw ∧ Cond.code Lib.objectInit ⟨#[0xb1]⟩ 1 none ∈ xw_tw := ⟨xw_in 78 (by decide +kernel) rfl, xw_in 79 (by decide +kernel) rfl⟩

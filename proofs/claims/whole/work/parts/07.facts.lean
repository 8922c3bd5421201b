def g_N : Nat := 4096
def g_sk (G : gG) (i : Nat) : Nat := G.2.2.2.1 i
def fsLand (a : Nat) : List (Option Nat) := [none, none, none, none, none, none, none, none, none, some (a + 1), some (a + 2), some (a + 3), some (a + 4), some (a + 5), some (a + 6), some (a + 7)]
def fsPast (a : Nat) : List (Option Nat) := [some 14, some (a + 1), some (a + 2), none, none, none, none, none, none, none, none]
def fsImg (a : Nat) : List (Option Nat) := [some (a + 1), none]
/-- the class's cells -/
def LC : gL := (49, fun k => match k with
  | 0 => .inr (9, [some 1, some 3, some 14, some 22, some 25, some 29, some 33, some 38, some 41, some 46])
  | 1 => .inr (7, [some 2, none, none, none, none])
  | 2 => .inl (0, 500)
  | 3 => .inr (5, [some 1, some 4, some 12, some 13, none, none, none, none, none, none, none])
  | 4 => .inr (3, fsLand 4)
  | 5 => .inl (0, 40)
  | 6 => .inl (0, 40)
  | 7 => .inl (0, 40)
  | 8 => .inl (0, 40)
  | 9 => .inl (0, 40)
  | 10 => .inl (0, 200)
  | 11 => .inl (0, 40)
  | 12 => .inl (1, 40)
  | 13 => .inl (1, 40)
  | 14 => .inr (3, fsLand 14)
  | 15 => .inl (0, 40)
  | 16 => .inl (0, 40)
  | 17 => .inl (0, 40)
  | 18 => .inl (0, 40)
  | 19 => .inl (0, 40)
  | 20 => .inl (0, 200)
  | 21 => .inl (0, 40)
  | 22 => .inr (4, fsPast 22)
  | 23 => .inl (0, 40)
  | 24 => .inl (0, 40)
  | 25 => .inr (2, fsImg 25)
  | 26 => .inr (4, fsPast 26)
  | 27 => .inl (0, 40)
  | 28 => .inl (0, 40)
  | 29 => .inr (2, fsImg 29)
  | 30 => .inr (4, fsPast 30)
  | 31 => .inl (0, 40)
  | 32 => .inl (0, 40)
  | 33 => .inr (1, [some 14, some 22, some 34, some 35, some 36, some 37])
  | 34 => .inl (0, 40)
  | 35 => .inl (0, 40)
  | 36 => .inl (2, 40)
  | 37 => .inl (2, 40)
  | 38 => .inr (8, [some 14, some 22, some 33, some 39, some 40, none, none, none, none])
  | 39 => .inl (0, 40)
  | 40 => .inl (0, 40)
  | 41 => .inr (6, [some 14, some 22, some 42, some 43, none, some 44, some 45])
  | 42 => .inl (0, 10)
  | 43 => .inl (0, 10)
  | 44 => .inl (1, 40)
  | 45 => .inl (1, 40)
  | 46 => .inr (0, [some 14, some 47, some 48, none])
  | 47 => .inl (0, 30)
  | _ => .inl (0, 30))
/-- the reference's cells -/
def LM : gL := (23, fun k => match k with
  | 0 => .inr (10, [some 1, some 2, some 3, none, none, some 4, some 5, none, some 6, some 7, some 8, none, some 9, some 10, none, some 11, none, none, none, none, none, none, none, none, some 12, some 13, some 14, some 15, some 16, none, none, some 17, none, none, none, none, none, none, none, none, some 18, some 19, none, some 20, some 21, some 22])
  | 1 => .inl (0, 88)
  | 2 => .inl (0, 176)
  | 3 => .inl (1, 2)
  | 4 => .inl (0, 40)
  | 5 => .inl (0, 40)
  | 6 => .inl (0, 4)
  | 7 => .inl (0, 10)
  | 8 => .inl (0, 10)
  | 9 => .inl (0, 30)
  | 10 => .inl (0, 30)
  | 11 => .inl (0, 500)
  | 12 => .inl (0, 40)
  | 13 => .inl (0, 40)
  | 14 => .inl (0, 40)
  | 15 => .inl (1, 40)
  | 16 => .inl (1, 40)
  | 17 => .inl (0, 4)
  | 18 => .inl (2, 40)
  | 19 => .inl (2, 40)
  | 20 => .inl (0, 80)
  | 21 => .inl (1, 40)
  | _ => .inl (1, 40))
def hLand (a : Nat) : Prop := g_obj LC a 3 (fsLand a) ∧ g_arr LC (a + 1) 0 40 ∧ g_arr LC (a + 2) 0 40 ∧ g_arr LC (a + 3) 0 40 ∧ g_arr LC (a + 4) 0 40 ∧ g_arr LC (a + 5) 0 40 ∧ g_arr LC (a + 6) 0 200 ∧ g_arr LC (a + 7) 0 40
def hPast (a : Nat) : Prop := g_obj LC a 4 (fsPast a) ∧ g_arr LC (a + 1) 0 40 ∧ g_arr LC (a + 2) 0 40
def hImg (a : Nat) : Prop := g_obj LC a 2 (fsImg a) ∧ True
theorem hLand_4 : hLand 4 := ⟨⟨by decide, rfl⟩, ⟨by decide, rfl⟩, ⟨by decide, rfl⟩, ⟨by decide, rfl⟩, ⟨by decide, rfl⟩, ⟨by decide, rfl⟩, ⟨by decide, rfl⟩, ⟨by decide, rfl⟩⟩
theorem hLand_14 : hLand 14 := ⟨⟨by decide, rfl⟩, ⟨by decide, rfl⟩, ⟨by decide, rfl⟩, ⟨by decide, rfl⟩, ⟨by decide, rfl⟩, ⟨by decide, rfl⟩, ⟨by decide, rfl⟩, ⟨by decide, rfl⟩⟩
theorem hPast_22 : hPast 22 := ⟨⟨by decide, rfl⟩, ⟨by decide, rfl⟩, ⟨by decide, rfl⟩⟩
theorem hPast_26 : hPast 26 := ⟨⟨by decide, rfl⟩, ⟨by decide, rfl⟩, ⟨by decide, rfl⟩⟩
theorem hPast_30 : hPast 30 := ⟨⟨by decide, rfl⟩, ⟨by decide, rfl⟩, ⟨by decide, rfl⟩⟩
theorem hImg_25 : hImg 25 := ⟨⟨by decide, rfl⟩, trivial⟩
theorem hImg_29 : hImg 29 := ⟨⟨by decide, rfl⟩, trivial⟩
theorem ob_0 : g_obj LC 0 9 [some 1, some 3, some 14, some 22, some 25, some 29, some 33, some 38, some 41, some 46] := ⟨by decide, rfl⟩
theorem ob_1 : g_obj LC 1 7 [some 2, none, none, none, none] := ⟨by decide, rfl⟩
theorem ar_2 : g_arr LC 2 0 500 := ⟨by decide, rfl⟩
theorem ob_3 : g_obj LC 3 5 [some 1, some 4, some 12, some 13, none, none, none, none, none, none, none] := ⟨by decide, rfl⟩
theorem ar_5 : g_arr LC 5 0 40 := ⟨by decide, rfl⟩
theorem ar_6 : g_arr LC 6 0 40 := ⟨by decide, rfl⟩
theorem ar_7 : g_arr LC 7 0 40 := ⟨by decide, rfl⟩
theorem ar_8 : g_arr LC 8 0 40 := ⟨by decide, rfl⟩
theorem ar_9 : g_arr LC 9 0 40 := ⟨by decide, rfl⟩
theorem ar_10 : g_arr LC 10 0 200 := ⟨by decide, rfl⟩
theorem ar_11 : g_arr LC 11 0 40 := ⟨by decide, rfl⟩
theorem ar_12 : g_arr LC 12 1 40 := ⟨by decide, rfl⟩
theorem ar_13 : g_arr LC 13 1 40 := ⟨by decide, rfl⟩
theorem ar_15 : g_arr LC 15 0 40 := ⟨by decide, rfl⟩
theorem ar_16 : g_arr LC 16 0 40 := ⟨by decide, rfl⟩
theorem ar_17 : g_arr LC 17 0 40 := ⟨by decide, rfl⟩
theorem ar_18 : g_arr LC 18 0 40 := ⟨by decide, rfl⟩
theorem ar_19 : g_arr LC 19 0 40 := ⟨by decide, rfl⟩
theorem ar_20 : g_arr LC 20 0 200 := ⟨by decide, rfl⟩
theorem ar_21 : g_arr LC 21 0 40 := ⟨by decide, rfl⟩
theorem ar_23 : g_arr LC 23 0 40 := ⟨by decide, rfl⟩
theorem ar_24 : g_arr LC 24 0 40 := ⟨by decide, rfl⟩
theorem ar_27 : g_arr LC 27 0 40 := ⟨by decide, rfl⟩
theorem ar_28 : g_arr LC 28 0 40 := ⟨by decide, rfl⟩
theorem ar_31 : g_arr LC 31 0 40 := ⟨by decide, rfl⟩
theorem ar_32 : g_arr LC 32 0 40 := ⟨by decide, rfl⟩
theorem ob_33 : g_obj LC 33 1 [some 14, some 22, some 34, some 35, some 36, some 37] := ⟨by decide, rfl⟩
theorem ar_34 : g_arr LC 34 0 40 := ⟨by decide, rfl⟩
theorem ar_35 : g_arr LC 35 0 40 := ⟨by decide, rfl⟩
theorem ar_36 : g_arr LC 36 2 40 := ⟨by decide, rfl⟩
theorem ar_37 : g_arr LC 37 2 40 := ⟨by decide, rfl⟩
theorem ob_38 : g_obj LC 38 8 [some 14, some 22, some 33, some 39, some 40, none, none, none, none] := ⟨by decide, rfl⟩
theorem ar_39 : g_arr LC 39 0 40 := ⟨by decide, rfl⟩
theorem ar_40 : g_arr LC 40 0 40 := ⟨by decide, rfl⟩
theorem ob_41 : g_obj LC 41 6 [some 14, some 22, some 42, some 43, none, some 44, some 45] := ⟨by decide, rfl⟩
theorem ar_42 : g_arr LC 42 0 10 := ⟨by decide, rfl⟩
theorem ar_43 : g_arr LC 43 0 10 := ⟨by decide, rfl⟩
theorem ar_44 : g_arr LC 44 1 40 := ⟨by decide, rfl⟩
theorem ar_45 : g_arr LC 45 1 40 := ⟨by decide, rfl⟩
theorem ob_46 : g_obj LC 46 0 [some 14, some 47, some 48, none] := ⟨by decide, rfl⟩
theorem ar_47 : g_arr LC 47 0 30 := ⟨by decide, rfl⟩
theorem ar_48 : g_arr LC 48 0 30 := ⟨by decide, rfl⟩
theorem ob_m : g_obj LM 0 10 [some 1, some 2, some 3, none, none, some 4, some 5, none, some 6, some 7, some 8, none, some 9, some 10, none, some 11, none, none, none, none, none, none, none, none, some 12, some 13, some 14, some 15, some 16, none, none, some 17, none, none, none, none, none, none, none, none, some 18, some 19, none, some 20, some 21, some 22] := ⟨by decide, rfl⟩
theorem ar_m1 : g_arr LM 1 0 88 := ⟨by decide, rfl⟩
theorem ar_m2 : g_arr LM 2 0 176 := ⟨by decide, rfl⟩
theorem ar_m3 : g_arr LM 3 1 2 := ⟨by decide, rfl⟩
theorem ar_m4 : g_arr LM 4 0 40 := ⟨by decide, rfl⟩
theorem ar_m5 : g_arr LM 5 0 40 := ⟨by decide, rfl⟩
theorem ar_m6 : g_arr LM 6 0 4 := ⟨by decide, rfl⟩
theorem ar_m7 : g_arr LM 7 0 10 := ⟨by decide, rfl⟩
theorem ar_m8 : g_arr LM 8 0 10 := ⟨by decide, rfl⟩
theorem ar_m9 : g_arr LM 9 0 30 := ⟨by decide, rfl⟩
theorem ar_m10 : g_arr LM 10 0 30 := ⟨by decide, rfl⟩
theorem ar_m11 : g_arr LM 11 0 500 := ⟨by decide, rfl⟩
theorem ar_m12 : g_arr LM 12 0 40 := ⟨by decide, rfl⟩
theorem ar_m13 : g_arr LM 13 0 40 := ⟨by decide, rfl⟩
theorem ar_m14 : g_arr LM 14 0 40 := ⟨by decide, rfl⟩
theorem ar_m15 : g_arr LM 15 1 40 := ⟨by decide, rfl⟩
theorem ar_m16 : g_arr LM 16 1 40 := ⟨by decide, rfl⟩
theorem ar_m17 : g_arr LM 17 0 4 := ⟨by decide, rfl⟩
theorem ar_m18 : g_arr LM 18 2 40 := ⟨by decide, rfl⟩
theorem ar_m19 : g_arr LM 19 2 40 := ⟨by decide, rfl⟩
theorem ar_m20 : g_arr LM 20 0 80 := ⟨by decide, rfl⟩
theorem ar_m21 : g_arr LM 21 1 40 := ⟨by decide, rfl⟩
theorem ar_m22 : g_arr LM 22 1 40 := ⟨by decide, rfl⟩
theorem lt_bipush_m10 : (Int8.ofInt (-10)).toInt32 = (-10 : Int32) := by decide
theorem lt_bipush_10 : (Int8.ofInt (10)).toInt32 = (10 : Int32) := by decide
theorem lt_bipush_100 : (Int8.ofInt (100)).toInt32 = (100 : Int32) := by decide
theorem lt_bipush_101 : (Int8.ofInt (101)).toInt32 = (101 : Int32) := by decide
theorem lt_bipush_102 : (Int8.ofInt (102)).toInt32 = (102 : Int32) := by decide
theorem lt_bipush_103 : (Int8.ofInt (103)).toInt32 = (103 : Int32) := by decide
theorem lt_bipush_104 : (Int8.ofInt (104)).toInt32 = (104 : Int32) := by decide
theorem lt_bipush_105 : (Int8.ofInt (105)).toInt32 = (105 : Int32) := by decide
theorem lt_bipush_107 : (Int8.ofInt (107)).toInt32 = (107 : Int32) := by decide
theorem lt_bipush_108 : (Int8.ofInt (108)).toInt32 = (108 : Int32) := by decide
theorem lt_bipush_109 : (Int8.ofInt (109)).toInt32 = (109 : Int32) := by decide
theorem lt_bipush_110 : (Int8.ofInt (110)).toInt32 = (110 : Int32) := by decide
theorem lt_bipush_111 : (Int8.ofInt (111)).toInt32 = (111 : Int32) := by decide
theorem lt_bipush_114 : (Int8.ofInt (114)).toInt32 = (114 : Int32) := by decide
theorem lt_bipush_115 : (Int8.ofInt (115)).toInt32 = (115 : Int32) := by decide
theorem lt_bipush_116 : (Int8.ofInt (116)).toInt32 = (116 : Int32) := by decide
theorem lt_bipush_119 : (Int8.ofInt (119)).toInt32 = (119 : Int32) := by decide
theorem lt_bipush_12 : (Int8.ofInt (12)).toInt32 = (12 : Int32) := by decide
theorem lt_bipush_122 : (Int8.ofInt (122)).toInt32 = (122 : Int32) := by decide
theorem lt_bipush_15 : (Int8.ofInt (15)).toInt32 = (15 : Int32) := by decide
theorem lt_bipush_18 : (Int8.ofInt (18)).toInt32 = (18 : Int32) := by decide
theorem lt_bipush_20 : (Int8.ofInt (20)).toInt32 = (20 : Int32) := by decide
theorem lt_bipush_30 : (Int8.ofInt (30)).toInt32 = (30 : Int32) := by decide
theorem lt_bipush_32 : (Int8.ofInt (32)).toInt32 = (32 : Int32) := by decide
theorem lt_bipush_40 : (Int8.ofInt (40)).toInt32 = (40 : Int32) := by decide
theorem lt_bipush_48 : (Int8.ofInt (48)).toInt32 = (48 : Int32) := by decide
theorem lt_bipush_57 : (Int8.ofInt (57)).toInt32 = (57 : Int32) := by decide
theorem lt_bipush_59 : (Int8.ofInt (59)).toInt32 = (59 : Int32) := by decide
theorem lt_bipush_6 : (Int8.ofInt (6)).toInt32 = (6 : Int32) := by decide
theorem lt_bipush_8 : (Int8.ofInt (8)).toInt32 = (8 : Int32) := by decide
theorem lt_bipush_80 : (Int8.ofInt (80)).toInt32 = (80 : Int32) := by decide
theorem lt_bipush_81 : (Int8.ofInt (81)).toInt32 = (81 : Int32) := by decide
theorem lt_bipush_82 : (Int8.ofInt (82)).toInt32 = (82 : Int32) := by decide
theorem lt_bipush_83 : (Int8.ofInt (83)).toInt32 = (83 : Int32) := by decide
theorem lt_bipush_84 : (Int8.ofInt (84)).toInt32 = (84 : Int32) := by decide
theorem lt_bipush_85 : (Int8.ofInt (85)).toInt32 = (85 : Int32) := by decide
theorem lt_bipush_86 : (Int8.ofInt (86)).toInt32 = (86 : Int32) := by decide
theorem lt_bipush_87 : (Int8.ofInt (87)).toInt32 = (87 : Int32) := by decide
theorem lt_bipush_88 : (Int8.ofInt (88)).toInt32 = (88 : Int32) := by decide
theorem lt_bipush_9 : (Int8.ofInt (9)).toInt32 = (9 : Int32) := by decide
theorem lt_bipush_97 : (Int8.ofInt (97)).toInt32 = (97 : Int32) := by decide
theorem lt_bipush_99 : (Int8.ofInt (99)).toInt32 = (99 : Int32) := by decide
theorem lt_iconst_m1 : Int32.ofInt (-1) = (-1 : Int32) := by decide
theorem lt_iconst_0 : Int32.ofInt (0) = (0 : Int32) := by decide
theorem lt_iconst_1 : Int32.ofInt (1) = (1 : Int32) := by decide
theorem lt_iconst_2 : Int32.ofInt (2) = (2 : Int32) := by decide
theorem lt_iconst_3 : Int32.ofInt (3) = (3 : Int32) := by decide
theorem lt_iconst_4 : Int32.ofInt (4) = (4 : Int32) := by decide
theorem lt_iconst_5 : Int32.ofInt (5) = (5 : Int32) := by decide
theorem lt_iinc_m1 (x : Int32) : x + Int32.ofInt (-1) = x + (-1) := by rw [show Int32.ofInt (-1) = (-1 : Int32) by decide]
theorem lt_iinc_1 (x : Int32) : x + Int32.ofInt (1) = x + 1 := by rw [show Int32.ofInt (1) = (1 : Int32) by decide]
theorem lt_sipush_1000 : (Int16.ofInt (1000)).toInt32 = (1000 : Int32) := by decide
theorem lt_sipush_200 : (Int16.ofInt (200)).toInt32 = (200 : Int32) := by decide
theorem lt_sipush_255 : (Int16.ofInt (255)).toInt32 = (255 : Int32) := by decide
theorem lt_sipush_500 : (Int16.ofInt (500)).toInt32 = (500 : Int32) := by decide
theorem lt_sipush_9999 : (Int16.ofInt (9999)).toInt32 = (9999 : Int32) := by decide
theorem fF_X0_9 : g_F RX0 9 0 1 := ⟨RX0, TX0, 4, rfl, by decide, inlX0, Or.inl wm_146⟩
theorem fF_X0_15 : g_F RX0 15 0 2 := ⟨RX0, TX0, 4, rfl, by decide, inlX0, Or.inl wm_147⟩
theorem fF_X0_18 : g_F RX0 18 0 0 := ⟨RX0, TX0, 4, rfl, by decide, inlX0, Or.inl wm_148⟩
theorem fF_X0_22 : g_F RX0 22 0 3 := ⟨RX0, TX0, 4, rfl, by decide, inlX0, Or.inl wm_920⟩
theorem fF_X1_9 : g_F RX1 9 1 2 := ⟨RX1, TX1, 6, rfl, by decide, inlX1, Or.inl wm_116⟩
theorem fF_X1_15 : g_F RX1 15 1 3 := ⟨RX1, TX1, 6, rfl, by decide, inlX1, Or.inl wm_117⟩
theorem fF_X1_18 : g_F RX1 18 1 4 := ⟨RX1, TX1, 6, rfl, by decide, inlX1, Or.inl wm_119⟩
theorem fF_X1_22 : g_F RX1 22 1 5 := ⟨RX1, TX1, 6, rfl, by decide, inlX1, Or.inl wm_120⟩
theorem fF_X1_25 : g_F RX1 25 1 0 := ⟨RX1, TX1, 6, rfl, by decide, inlX1, Or.inl wm_121⟩
theorem fF_X1_29 : g_F RX1 29 1 1 := ⟨RX1, TX1, 6, rfl, by decide, inlX1, Or.inl wm_122⟩
theorem fF_X1_33 : g_F RX1 33 3 2 := ⟨RX3, TX3, 16, rfl, by decide, inlX3, Or.inr (List.mem_of_getElem? (i := 7) rfl)⟩
theorem fF_X1_39 : g_F RX1 39 4 1 := ⟨RX4, TX4, 11, rfl, by decide, inlX4, Or.inr (List.mem_of_getElem? (i := 29) rfl)⟩
theorem fF_X1_52 : g_F RX1 52 4 5 := ⟨RX4, TX4, 11, rfl, by decide, inlX4, Or.inr (List.mem_of_getElem? (i := 37) rfl)⟩
theorem fF_X1_63 : g_F RX1 63 4 3 := ⟨RX4, TX4, 11, rfl, by decide, inlX4, Or.inr (List.mem_of_getElem? (i := 34) rfl)⟩
theorem fF_X1_78 : g_F RX1 78 3 15 := ⟨RX3, TX3, 16, rfl, by decide, inlX3, Or.inr (List.mem_of_getElem? (i := 26) rfl)⟩
theorem fF_X1_81 : g_F RX1 81 3 4 := ⟨RX3, TX3, 16, rfl, by decide, inlX3, Or.inr (List.mem_of_getElem? (i := 18) rfl)⟩
theorem fF_X10_7 : g_F RX10 7 10 0 := ⟨RX10, TX10, 46, rfl, by decide, inlX10, Or.inl wm_153⟩
theorem fF_X10_13 : g_F RX10 13 10 1 := ⟨RX10, TX10, 46, rfl, by decide, inlX10, Or.inl wm_154⟩
theorem fF_X10_16 : g_F RX10 16 10 2 := ⟨RX10, TX10, 46, rfl, by decide, inlX10, Or.inl wm_155⟩
theorem fF_X10_20 : g_F RX10 20 10 5 := ⟨RX10, TX10, 46, rfl, by decide, inlX10, Or.inl wm_156⟩
theorem fF_X10_23 : g_F RX10 23 10 6 := ⟨RX10, TX10, 46, rfl, by decide, inlX10, Or.inl wm_157⟩
theorem fF_X10_26 : g_F RX10 26 10 7 := ⟨RX10, TX10, 46, rfl, by decide, inlX10, Or.inl wm_158⟩
theorem fF_X10_30 : g_F RX10 30 10 8 := ⟨RX10, TX10, 46, rfl, by decide, inlX10, Or.inl wm_159⟩
theorem fF_X10_33 : g_F RX10 33 10 9 := ⟨RX10, TX10, 46, rfl, by decide, inlX10, Or.inl wm_160⟩
theorem fF_X10_36 : g_F RX10 36 10 10 := ⟨RX10, TX10, 46, rfl, by decide, inlX10, Or.inl wm_161⟩
theorem fF_X10_39 : g_F RX10 39 10 12 := ⟨RX10, TX10, 46, rfl, by decide, inlX10, Or.inl wm_162⟩
theorem fF_X10_42 : g_F RX10 42 10 13 := ⟨RX10, TX10, 46, rfl, by decide, inlX10, Or.inl wm_163⟩
theorem fF_X10_45 : g_F RX10 45 10 15 := ⟨RX10, TX10, 46, rfl, by decide, inlX10, Or.inl wm_164⟩
theorem fF_X10_48 : g_F RX10 48 10 17 := ⟨RX10, TX10, 46, rfl, by decide, inlX10, Or.inl wm_165⟩
theorem fF_X10_51 : g_F RX10 51 10 24 := ⟨RX10, TX10, 46, rfl, by decide, inlX10, Or.inl wm_166⟩
theorem fF_X10_54 : g_F RX10 54 10 25 := ⟨RX10, TX10, 46, rfl, by decide, inlX10, Or.inl wm_167⟩
theorem fF_X10_57 : g_F RX10 57 10 26 := ⟨RX10, TX10, 46, rfl, by decide, inlX10, Or.inl wm_168⟩
theorem fF_X10_60 : g_F RX10 60 10 27 := ⟨RX10, TX10, 46, rfl, by decide, inlX10, Or.inl wm_169⟩
theorem fF_X10_63 : g_F RX10 63 10 28 := ⟨RX10, TX10, 46, rfl, by decide, inlX10, Or.inl wm_170⟩
theorem fF_X10_66 : g_F RX10 66 10 31 := ⟨RX10, TX10, 46, rfl, by decide, inlX10, Or.inl wm_171⟩
theorem fF_X10_69 : g_F RX10 69 10 40 := ⟨RX10, TX10, 46, rfl, by decide, inlX10, Or.inl wm_172⟩
theorem fF_X10_73 : g_F RX10 73 10 41 := ⟨RX10, TX10, 46, rfl, by decide, inlX10, Or.inl wm_173⟩
theorem fF_X10_76 : g_F RX10 76 10 43 := ⟨RX10, TX10, 46, rfl, by decide, inlX10, Or.inl wm_174⟩
theorem fF_X10_79 : g_F RX10 79 10 44 := ⟨RX10, TX10, 46, rfl, by decide, inlX10, Or.inl wm_175⟩
theorem fF_X10_82 : g_F RX10 82 10 45 := ⟨RX10, TX10, 46, rfl, by decide, inlX10, Or.inl wm_176⟩
theorem fF_X10_85 : g_F RX10 85 10 3 := ⟨RX10, TX10, 46, rfl, by decide, inlX10, Or.inl wm_376⟩
theorem fF_X10_88 : g_F RX10 88 10 4 := ⟨RX10, TX10, 46, rfl, by decide, inlX10, Or.inl wm_378⟩
theorem fF_X10_98 : g_F RX10 98 10 16 := ⟨RX10, TX10, 46, rfl, by decide, inlX10, Or.inl wm_194⟩
theorem fF_X10_112 : g_F RX10 112 10 18 := ⟨RX10, TX10, 46, rfl, by decide, inlX10, Or.inl wm_373⟩
theorem fF_X10_115 : g_F RX10 115 10 19 := ⟨RX10, TX10, 46, rfl, by decide, inlX10, Or.inl wm_401⟩
theorem fF_X10_118 : g_F RX10 118 10 20 := ⟨RX10, TX10, 46, rfl, by decide, inlX10, Or.inl wm_387⟩
theorem fF_X10_121 : g_F RX10 121 10 21 := ⟨RX10, TX10, 46, rfl, by decide, inlX10, Or.inl wm_402⟩
theorem fF_X10_135 : g_F RX10 135 10 37 := ⟨RX10, TX10, 46, rfl, by decide, inlX10, Or.inl wm_374⟩
theorem fF_X10_141 : g_F RX10 141 10 38 := ⟨RX10, TX10, 46, rfl, by decide, inlX10, Or.inl wm_417⟩
theorem fF_X10_147 : g_F RX10 147 10 22 := ⟨RX10, TX10, 46, rfl, by decide, inlX10, Or.inl wm_375⟩
theorem fF_X10_154 : g_F RX10 154 10 23 := ⟨RX10, TX10, 46, rfl, by decide, inlX10, Or.inl wm_377⟩
theorem fF_X10_157 : g_F RX10 157 10 39 := ⟨RX10, TX10, 46, rfl, by decide, inlX10, Or.inl wm_447⟩
theorem fF_X10_170 : g_F RX10 170 10 32 := ⟨RX10, TX10, 46, rfl, by decide, inlX10, Or.inl wm_392⟩
theorem fF_X10_179 : g_F RX10 179 10 34 := ⟨RX10, TX10, 46, rfl, by decide, inlX10, Or.inl wm_394⟩
theorem fF_X10_182 : g_F RX10 182 10 33 := ⟨RX10, TX10, 46, rfl, by decide, inlX10, Or.inl wm_393⟩
theorem fF_X10_185 : g_F RX10 185 10 35 := ⟨RX10, TX10, 46, rfl, by decide, inlX10, Or.inl wm_395⟩
theorem fF_X10_189 : g_F RX10 189 10 29 := ⟨RX10, TX10, 46, rfl, by decide, inlX10, Or.inl wm_380⟩
theorem fF_X10_192 : g_F RX10 192 10 30 := ⟨RX10, TX10, 46, rfl, by decide, inlX10, Or.inl wm_379⟩
theorem fF_X10_195 : g_F RX10 195 10 36 := ⟨RX10, TX10, 46, rfl, by decide, inlX10, Or.inl wm_396⟩
theorem fF_X10_229 : g_F RX10 229 10 11 := ⟨RX10, TX10, 46, rfl, by decide, inlX10, Or.inl wm_381⟩
theorem fF_X10_232 : g_F RX10 232 10 14 := ⟨RX10, TX10, 46, rfl, by decide, inlX10, Or.inl wm_382⟩
theorem fF_X10_304 : g_F RX10 304 10 42 := ⟨RX10, TX10, 46, rfl, by decide, inlX10, Or.inl wm_775⟩
theorem fF_X3_9 : g_F RX3 9 3 9 := ⟨RX3, TX3, 16, rfl, by decide, inlX3, Or.inl wm_70⟩
theorem fF_X3_15 : g_F RX3 15 3 10 := ⟨RX3, TX3, 16, rfl, by decide, inlX3, Or.inl wm_71⟩
theorem fF_X3_18 : g_F RX3 18 3 11 := ⟨RX3, TX3, 16, rfl, by decide, inlX3, Or.inl wm_72⟩
theorem fF_X3_21 : g_F RX3 21 3 12 := ⟨RX3, TX3, 16, rfl, by decide, inlX3, Or.inl wm_73⟩
theorem fF_X3_24 : g_F RX3 24 3 13 := ⟨RX3, TX3, 16, rfl, by decide, inlX3, Or.inl wm_74⟩
theorem fF_X3_27 : g_F RX3 27 3 14 := ⟨RX3, TX3, 16, rfl, by decide, inlX3, Or.inl wm_75⟩
theorem fF_X3_30 : g_F RX3 30 3 15 := ⟨RX3, TX3, 16, rfl, by decide, inlX3, Or.inl wm_76⟩
theorem fF_X3_36 : g_F RX3 36 3 0 := ⟨RX3, TX3, 16, rfl, by decide, inlX3, Or.inl wm_81⟩
theorem fF_X3_40 : g_F RX3 40 3 1 := ⟨RX3, TX3, 16, rfl, by decide, inlX3, Or.inl wm_82⟩
theorem fF_X3_43 : g_F RX3 43 3 2 := ⟨RX3, TX3, 16, rfl, by decide, inlX3, Or.inl wm_83⟩
theorem fF_X3_46 : g_F RX3 46 3 3 := ⟨RX3, TX3, 16, rfl, by decide, inlX3, Or.inl wm_84⟩
theorem fF_X3_49 : g_F RX3 49 3 4 := ⟨RX3, TX3, 16, rfl, by decide, inlX3, Or.inl wm_85⟩
theorem fF_X3_56 : g_F RX3 56 3 5 := ⟨RX3, TX3, 16, rfl, by decide, inlX3, Or.inl wm_90⟩
theorem fF_X3_59 : g_F RX3 59 3 6 := ⟨RX3, TX3, 16, rfl, by decide, inlX3, Or.inl wm_91⟩
theorem fF_X3_62 : g_F RX3 62 3 7 := ⟨RX3, TX3, 16, rfl, by decide, inlX3, Or.inl wm_92⟩
theorem fF_X3_65 : g_F RX3 65 3 8 := ⟨RX3, TX3, 16, rfl, by decide, inlX3, Or.inl wm_93⟩
theorem fF_X4_9 : g_F RX4 9 4 1 := ⟨RX4, TX4, 11, rfl, by decide, inlX4, Or.inl wm_99⟩
theorem fF_X4_15 : g_F RX4 15 4 2 := ⟨RX4, TX4, 11, rfl, by decide, inlX4, Or.inl wm_100⟩
theorem fF_X4_18 : g_F RX4 18 4 0 := ⟨RX4, TX4, 11, rfl, by decide, inlX4, Or.inl wm_101⟩
theorem fF_X4_22 : g_F RX4 22 4 3 := ⟨RX4, TX4, 11, rfl, by decide, inlX4, Or.inl wm_102⟩
theorem fF_X4_26 : g_F RX4 26 4 4 := ⟨RX4, TX4, 11, rfl, by decide, inlX4, Or.inl wm_103⟩
theorem fF_X4_29 : g_F RX4 29 4 5 := ⟨RX4, TX4, 11, rfl, by decide, inlX4, Or.inl wm_104⟩
theorem fF_X4_32 : g_F RX4 32 3 11 := ⟨RX3, TX3, 16, rfl, by decide, inlX3, Or.inr (List.mem_of_getElem? (i := 20) rfl)⟩
theorem fF_X4_35 : g_F RX4 35 3 3 := ⟨RX3, TX3, 16, rfl, by decide, inlX3, Or.inr (List.mem_of_getElem? (i := 12) rfl)⟩
theorem fF_X4_36 : g_F RX4 36 4 6 := ⟨RX4, TX4, 11, rfl, by decide, inlX4, Or.inl wm_366⟩
theorem fF_X4_39 : g_F RX4 39 4 7 := ⟨RX4, TX4, 11, rfl, by decide, inlX4, Or.inl wm_367⟩
theorem fF_X4_42 : g_F RX4 42 4 8 := ⟨RX4, TX4, 11, rfl, by decide, inlX4, Or.inl wm_368⟩
theorem fF_X4_45 : g_F RX4 45 4 9 := ⟨RX4, TX4, 11, rfl, by decide, inlX4, Or.inl wm_572⟩
theorem fF_X4_48 : g_F RX4 48 4 10 := ⟨RX4, TX4, 11, rfl, by decide, inlX4, Or.inl wm_586⟩
theorem fF_X4_59 : g_F RX4 59 3 4 := ⟨RX3, TX3, 16, rfl, by decide, inlX3, Or.inr (List.mem_of_getElem? (i := 16) rfl)⟩
theorem fF_X5_12 : g_F RX5 12 5 1 := ⟨RX5, TX5, 11, rfl, by decide, inlX5, Or.inl wm_60⟩
theorem fF_X5_18 : g_F RX5 18 5 2 := ⟨RX5, TX5, 11, rfl, by decide, inlX5, Or.inl wm_62⟩
theorem fF_X5_22 : g_F RX5 22 5 3 := ⟨RX5, TX5, 11, rfl, by decide, inlX5, Or.inl wm_63⟩
theorem fF_X5_25 : g_F RX5 25 5 0 := ⟨RX5, TX5, 11, rfl, by decide, inlX5, Or.inl wm_64⟩
theorem fF_X5_29 : g_F RX5 29 5 10 := ⟨RX5, TX5, 11, rfl, by decide, inlX5, Or.inl wm_65⟩
theorem fF_X5_41 : g_F RX5 41 7 2 := ⟨RX7, TX7, 5, rfl, by decide, inlX7, Or.inr (List.mem_of_getElem? (i := 1) rfl)⟩
theorem fF_X5_51 : g_F RX5 51 5 9 := ⟨RX5, TX5, 11, rfl, by decide, inlX5, Or.inl wm_208⟩
theorem fF_X5_54 : g_F RX5 54 3 2 := ⟨RX3, TX3, 16, rfl, by decide, inlX3, Or.inr (List.mem_of_getElem? (i := 9) rfl)⟩
theorem fF_X5_60 : g_F RX5 60 5 4 := ⟨RX5, TX5, 11, rfl, by decide, inlX5, Or.inl wm_213⟩
theorem fF_X5_63 : g_F RX5 63 5 5 := ⟨RX5, TX5, 11, rfl, by decide, inlX5, Or.inl wm_214⟩
theorem fF_X5_66 : g_F RX5 66 5 6 := ⟨RX5, TX5, 11, rfl, by decide, inlX5, Or.inl wm_215⟩
theorem fF_X5_69 : g_F RX5 69 5 7 := ⟨RX5, TX5, 11, rfl, by decide, inlX5, Or.inl wm_216⟩
theorem fF_X5_73 : g_F RX5 73 5 8 := ⟨RX5, TX5, 11, rfl, by decide, inlX5, Or.inl wm_217⟩
theorem fF_X5_79 : g_F RX5 79 7 3 := ⟨RX7, TX7, 5, rfl, by decide, inlX7, Or.inr (List.mem_of_getElem? (i := 2) rfl)⟩
theorem fF_X5_90 : g_F RX5 90 3 0 := ⟨RX3, TX3, 16, rfl, by decide, inlX3, Or.inr (List.mem_of_getElem? (i := 4) rfl)⟩
theorem fF_X5_97 : g_F RX5 97 3 1 := ⟨RX3, TX3, 16, rfl, by decide, inlX3, Or.inr (List.mem_of_getElem? (i := 6) rfl)⟩
theorem fF_X5_118 : g_F RX5 118 3 11 := ⟨RX3, TX3, 16, rfl, by decide, inlX3, Or.inr (List.mem_of_getElem? (i := 21) rfl)⟩
theorem fF_X5_127 : g_F RX5 127 3 13 := ⟨RX3, TX3, 16, rfl, by decide, inlX3, Or.inr (List.mem_of_getElem? (i := 25) rfl)⟩
theorem fF_X5_153 : g_F RX5 153 3 12 := ⟨RX3, TX3, 16, rfl, by decide, inlX3, Or.inr (List.mem_of_getElem? (i := 23) rfl)⟩
theorem fF_X5_162 : g_F RX5 162 3 3 := ⟨RX3, TX3, 16, rfl, by decide, inlX3, Or.inr (List.mem_of_getElem? (i := 13) rfl)⟩
theorem fF_X5_165 : g_F RX5 165 3 4 := ⟨RX3, TX3, 16, rfl, by decide, inlX3, Or.inr (List.mem_of_getElem? (i := 19) rfl)⟩
theorem fF_X6_9 : g_F RX6 9 6 2 := ⟨RX6, TX6, 7, rfl, by decide, inlX6, Or.inl wm_136⟩
theorem fF_X6_15 : g_F RX6 15 6 3 := ⟨RX6, TX6, 7, rfl, by decide, inlX6, Or.inl wm_137⟩
theorem fF_X6_18 : g_F RX6 18 6 5 := ⟨RX6, TX6, 7, rfl, by decide, inlX6, Or.inl wm_138⟩
theorem fF_X6_22 : g_F RX6 22 6 6 := ⟨RX6, TX6, 7, rfl, by decide, inlX6, Or.inl wm_139⟩
theorem fF_X6_25 : g_F RX6 25 6 0 := ⟨RX6, TX6, 7, rfl, by decide, inlX6, Or.inl wm_140⟩
theorem fF_X6_29 : g_F RX6 29 6 1 := ⟨RX6, TX6, 7, rfl, by decide, inlX6, Or.inl wm_141⟩
theorem fF_X6_33 : g_F RX6 33 6 4 := ⟨RX6, TX6, 7, rfl, by decide, inlX6, Or.inl wm_856⟩
theorem fF_X6_37 : g_F RX6 37 4 3 := ⟨RX4, TX4, 11, rfl, by decide, inlX4, Or.inr (List.mem_of_getElem? (i := 33) rfl)⟩
theorem fF_X6_52 : g_F RX6 52 3 4 := ⟨RX3, TX3, 16, rfl, by decide, inlX3, Or.inr (List.mem_of_getElem? (i := 14) rfl)⟩
theorem fF_X6_58 : g_F RX6 58 3 2 := ⟨RX3, TX3, 16, rfl, by decide, inlX3, Or.inr (List.mem_of_getElem? (i := 10) rfl)⟩
theorem fF_X6_68 : g_F RX6 68 4 9 := ⟨RX4, TX4, 11, rfl, by decide, inlX4, Or.inr (List.mem_of_getElem? (i := 45) rfl)⟩
theorem fF_X7_9 : g_F RX7 9 7 0 := ⟨RX7, TX7, 5, rfl, by decide, inlX7, Or.inl wm_54⟩
theorem fF_X7_15 : g_F RX7 15 7 1 := ⟨RX7, TX7, 5, rfl, by decide, inlX7, Or.inl wm_187⟩
theorem fF_X7_19 : g_F RX7 19 7 2 := ⟨RX7, TX7, 5, rfl, by decide, inlX7, Or.inl wm_223⟩
theorem fF_X7_22 : g_F RX7 22 7 3 := ⟨RX7, TX7, 5, rfl, by decide, inlX7, Or.inl wm_224⟩
theorem fF_X7_25 : g_F RX7 25 7 4 := ⟨RX7, TX7, 5, rfl, by decide, inlX7, Or.inl wm_225⟩
theorem fF_X8_9 : g_F RX8 9 8 3 := ⟨RX8, TX8, 9, rfl, by decide, inlX8, Or.inl wm_127⟩
theorem fF_X8_15 : g_F RX8 15 8 4 := ⟨RX8, TX8, 9, rfl, by decide, inlX8, Or.inl wm_128⟩
theorem fF_X8_18 : g_F RX8 18 8 0 := ⟨RX8, TX8, 9, rfl, by decide, inlX8, Or.inl wm_129⟩
theorem fF_X8_22 : g_F RX8 22 8 1 := ⟨RX8, TX8, 9, rfl, by decide, inlX8, Or.inl wm_130⟩
theorem fF_X8_26 : g_F RX8 26 8 2 := ⟨RX8, TX8, 9, rfl, by decide, inlX8, Or.inl wm_131⟩
theorem fF_X8_30 : g_F RX8 30 3 2 := ⟨RX3, TX3, 16, rfl, by decide, inlX3, Or.inr (List.mem_of_getElem? (i := 8) rfl)⟩
theorem fF_X8_36 : g_F RX8 36 4 9 := ⟨RX4, TX4, 11, rfl, by decide, inlX4, Or.inr (List.mem_of_getElem? (i := 43) rfl)⟩
theorem fF_X8_45 : g_F RX8 45 1 4 := ⟨RX1, TX1, 6, rfl, by decide, inlX1, Or.inr (List.mem_of_getElem? (i := 49) rfl)⟩
theorem fF_X8_57 : g_F RX8 57 3 4 := ⟨RX3, TX3, 16, rfl, by decide, inlX3, Or.inr (List.mem_of_getElem? (i := 15) rfl)⟩
theorem fF_X8_67 : g_F RX8 67 4 5 := ⟨RX4, TX4, 11, rfl, by decide, inlX4, Or.inr (List.mem_of_getElem? (i := 38) rfl)⟩
theorem fF_X8_74 : g_F RX8 74 4 1 := ⟨RX4, TX4, 11, rfl, by decide, inlX4, Or.inr (List.mem_of_getElem? (i := 30) rfl)⟩
theorem fF_X8_85 : g_F RX8 85 8 5 := ⟨RX8, TX8, 9, rfl, by decide, inlX8, Or.inl wm_765⟩
theorem fF_X8_91 : g_F RX8 91 8 6 := ⟨RX8, TX8, 9, rfl, by decide, inlX8, Or.inl wm_797⟩
theorem fF_X8_94 : g_F RX8 94 8 7 := ⟨RX8, TX8, 9, rfl, by decide, inlX8, Or.inl wm_798⟩
theorem fF_X8_105 : g_F RX8 105 8 8 := ⟨RX8, TX8, 9, rfl, by decide, inlX8, Or.inl wm_823⟩
theorem fF_X9_10 : g_F RX9 10 9 0 := ⟨RX9, TX9, 10, rfl, by decide, inlX9, Or.inl wm_16⟩
theorem fF_X9_21 : g_F RX9 21 9 1 := ⟨RX9, TX9, 10, rfl, by decide, inlX9, Or.inl wm_20⟩
theorem fF_X9_28 : g_F RX9 28 9 2 := ⟨RX9, TX9, 10, rfl, by decide, inlX9, Or.inl wm_24⟩
theorem fF_X9_37 : g_F RX9 37 9 3 := ⟨RX9, TX9, 10, rfl, by decide, inlX9, Or.inl wm_28⟩
theorem fF_X9_44 : g_F RX9 44 9 4 := ⟨RX9, TX9, 10, rfl, by decide, inlX9, Or.inl wm_32⟩
theorem fF_X9_48 : g_F RX9 48 9 5 := ⟨RX9, TX9, 10, rfl, by decide, inlX9, Or.inl wm_33⟩
theorem fF_X9_56 : g_F RX9 56 9 6 := ⟨RX9, TX9, 10, rfl, by decide, inlX9, Or.inl wm_37⟩
theorem fF_X9_65 : g_F RX9 65 9 7 := ⟨RX9, TX9, 10, rfl, by decide, inlX9, Or.inl wm_41⟩
theorem fF_X9_72 : g_F RX9 72 9 8 := ⟨RX9, TX9, 10, rfl, by decide, inlX9, Or.inl wm_45⟩
theorem fF_X9_79 : g_F RX9 79 9 9 := ⟨RX9, TX9, 10, rfl, by decide, inlX9, Or.inl wm_49⟩
theorem fF_X9_84 : g_F RX9 84 7 1 := ⟨RX7, TX7, 5, rfl, by decide, inlX7, Or.inr (List.mem_of_getElem? (i := 0) rfl)⟩
theorem fF_X9_100 : g_F RX9 100 5 1 := ⟨RX5, TX5, 11, rfl, by decide, inlX5, Or.inr (List.mem_of_getElem? (i := 27) rfl)⟩
theorem fF_X9_109 : g_F RX9 109 2 1 := ⟨RX2, TX2, 2, rfl, by decide, inlX2, Or.inr (List.mem_of_getElem? (i := 48) rfl)⟩
theorem fF_X9_113 : g_F RX9 113 6 4 := ⟨RX6, TX6, 7, rfl, by decide, inlX6, Or.inr (List.mem_of_getElem? (i := 55) rfl)⟩
theorem fF_X9_116 : g_F RX9 116 0 3 := ⟨RX0, TX0, 4, rfl, by decide, inlX0, Or.inr (List.mem_of_getElem? (i := 56) rfl)⟩
theorem fF_X9_117 : g_F RX9 117 5 10 := ⟨RX5, TX5, 11, rfl, by decide, inlX5, Or.inr (List.mem_of_getElem? (i := 28) rfl)⟩
theorem fF_X9_120 : g_F RX9 120 3 0 := ⟨RX3, TX3, 16, rfl, by decide, inlX3, Or.inr (List.mem_of_getElem? (i := 3) rfl)⟩
theorem fF_X9_123 : g_F RX9 123 3 1 := ⟨RX3, TX3, 16, rfl, by decide, inlX3, Or.inr (List.mem_of_getElem? (i := 5) rfl)⟩
theorem fF_X9_126 : g_F RX9 126 4 9 := ⟨RX4, TX4, 11, rfl, by decide, inlX4, Or.inr (List.mem_of_getElem? (i := 44) rfl)⟩
theorem fF_X9_129 : g_F RX9 129 3 4 := ⟨RX3, TX3, 16, rfl, by decide, inlX3, Or.inr (List.mem_of_getElem? (i := 17) rfl)⟩
theorem fF_X9_132 : g_F RX9 132 4 3 := ⟨RX4, TX4, 11, rfl, by decide, inlX4, Or.inr (List.mem_of_getElem? (i := 35) rfl)⟩
theorem fF_X9_139 : g_F RX9 139 4 4 := ⟨RX4, TX4, 11, rfl, by decide, inlX4, Or.inr (List.mem_of_getElem? (i := 36) rfl)⟩
theorem fF_X9_142 : g_F RX9 142 4 5 := ⟨RX4, TX4, 11, rfl, by decide, inlX4, Or.inr (List.mem_of_getElem? (i := 39) rfl)⟩
theorem fF_X9_145 : g_F RX9 145 4 8 := ⟨RX4, TX4, 11, rfl, by decide, inlX4, Or.inr (List.mem_of_getElem? (i := 42) rfl)⟩
theorem fF_X9_148 : g_F RX9 148 4 6 := ⟨RX4, TX4, 11, rfl, by decide, inlX4, Or.inr (List.mem_of_getElem? (i := 40) rfl)⟩
theorem fF_X9_151 : g_F RX9 151 4 7 := ⟨RX4, TX4, 11, rfl, by decide, inlX4, Or.inr (List.mem_of_getElem? (i := 41) rfl)⟩
theorem fF_X9_163 : g_F RX9 163 4 1 := ⟨RX4, TX4, 11, rfl, by decide, inlX4, Or.inr (List.mem_of_getElem? (i := 31) rfl)⟩
theorem fF_X9_167 : g_F RX9 167 4 2 := ⟨RX4, TX4, 11, rfl, by decide, inlX4, Or.inr (List.mem_of_getElem? (i := 32) rfl)⟩
theorem fF_X9_170 : g_F RX9 170 3 12 := ⟨RX3, TX3, 16, rfl, by decide, inlX3, Or.inr (List.mem_of_getElem? (i := 22) rfl)⟩
theorem fF_X9_173 : g_F RX9 173 3 13 := ⟨RX3, TX3, 16, rfl, by decide, inlX3, Or.inr (List.mem_of_getElem? (i := 24) rfl)⟩
theorem fF_X9_186 : g_F RX9 186 3 2 := ⟨RX3, TX3, 16, rfl, by decide, inlX3, Or.inr (List.mem_of_getElem? (i := 11) rfl)⟩
theorem fF_X9_208 : g_F RX9 208 1 4 := ⟨RX1, TX1, 6, rfl, by decide, inlX1, Or.inr (List.mem_of_getElem? (i := 50) rfl)⟩
theorem fF_X9_221 : g_F RX9 221 8 5 := ⟨RX8, TX8, 9, rfl, by decide, inlX8, Or.inr (List.mem_of_getElem? (i := 51) rfl)⟩
theorem fF_X9_227 : g_F RX9 227 8 6 := ⟨RX8, TX8, 9, rfl, by decide, inlX8, Or.inr (List.mem_of_getElem? (i := 52) rfl)⟩
theorem fF_X9_230 : g_F RX9 230 8 7 := ⟨RX8, TX8, 9, rfl, by decide, inlX8, Or.inr (List.mem_of_getElem? (i := 53) rfl)⟩
theorem fF_X9_236 : g_F RX9 236 8 8 := ⟨RX8, TX8, 9, rfl, by decide, inlX8, Or.inr (List.mem_of_getElem? (i := 54) rfl)⟩
theorem fF_X9_261 : g_F RX9 261 4 10 := ⟨RX4, TX4, 11, rfl, by decide, inlX4, Or.inr (List.mem_of_getElem? (i := 46) rfl)⟩
theorem fF_X9_267 : g_F RX9 267 2 0 := ⟨RX2, TX2, 2, rfl, by decide, inlX2, Or.inr (List.mem_of_getElem? (i := 47) rfl)⟩
theorem fP_X0_22 : g_FP RX0 22 0 3 .int := ⟨RX0, TX0, 4, tyX0, rfl, by decide, inlX0, Or.inl wm_920, tyX0_ok, nmX0, rfl, by decide +kernel⟩
theorem fP_X10_26 : g_FP RX10 26 10 7 .int := ⟨RX10, TX10, 46, tyX10, rfl, by decide, inlX10, Or.inl wm_158, tyX10_ok, nmX10, rfl, by decide +kernel⟩
theorem fP_X10_48 : g_FP RX10 48 10 17 .int := ⟨RX10, TX10, 46, tyX10, rfl, by decide, inlX10, Or.inl wm_165, tyX10_ok, nmX10, rfl, by decide +kernel⟩
theorem fP_X10_85 : g_FP RX10 85 10 3 .int := ⟨RX10, TX10, 46, tyX10, rfl, by decide, inlX10, Or.inl wm_376, tyX10_ok, nmX10, rfl, by decide +kernel⟩
theorem fP_X10_88 : g_FP RX10 88 10 4 .int := ⟨RX10, TX10, 46, tyX10, rfl, by decide, inlX10, Or.inl wm_378, tyX10_ok, nmX10, rfl, by decide +kernel⟩
theorem fP_X10_98 : g_FP RX10 98 10 16 .int := ⟨RX10, TX10, 46, tyX10, rfl, by decide, inlX10, Or.inl wm_194, tyX10_ok, nmX10, rfl, by decide +kernel⟩
theorem fP_X10_112 : g_FP RX10 112 10 18 .int := ⟨RX10, TX10, 46, tyX10, rfl, by decide, inlX10, Or.inl wm_373, tyX10_ok, nmX10, rfl, by decide +kernel⟩
theorem fP_X10_115 : g_FP RX10 115 10 19 .int := ⟨RX10, TX10, 46, tyX10, rfl, by decide, inlX10, Or.inl wm_401, tyX10_ok, nmX10, rfl, by decide +kernel⟩
theorem fP_X10_118 : g_FP RX10 118 10 20 .int := ⟨RX10, TX10, 46, tyX10, rfl, by decide, inlX10, Or.inl wm_387, tyX10_ok, nmX10, rfl, by decide +kernel⟩
theorem fP_X10_121 : g_FP RX10 121 10 21 .int := ⟨RX10, TX10, 46, tyX10, rfl, by decide, inlX10, Or.inl wm_402, tyX10_ok, nmX10, rfl, by decide +kernel⟩
theorem fP_X10_135 : g_FP RX10 135 10 37 .int := ⟨RX10, TX10, 46, tyX10, rfl, by decide, inlX10, Or.inl wm_374, tyX10_ok, nmX10, rfl, by decide +kernel⟩
theorem fP_X10_141 : g_FP RX10 141 10 38 .int := ⟨RX10, TX10, 46, tyX10, rfl, by decide, inlX10, Or.inl wm_417, tyX10_ok, nmX10, rfl, by decide +kernel⟩
theorem fP_X10_147 : g_FP RX10 147 10 22 .int := ⟨RX10, TX10, 46, tyX10, rfl, by decide, inlX10, Or.inl wm_375, tyX10_ok, nmX10, rfl, by decide +kernel⟩
theorem fP_X10_154 : g_FP RX10 154 10 23 .int := ⟨RX10, TX10, 46, tyX10, rfl, by decide, inlX10, Or.inl wm_377, tyX10_ok, nmX10, rfl, by decide +kernel⟩
theorem fP_X10_157 : g_FP RX10 157 10 39 .int := ⟨RX10, TX10, 46, tyX10, rfl, by decide, inlX10, Or.inl wm_447, tyX10_ok, nmX10, rfl, by decide +kernel⟩
theorem fP_X10_170 : g_FP RX10 170 10 32 .int := ⟨RX10, TX10, 46, tyX10, rfl, by decide, inlX10, Or.inl wm_392, tyX10_ok, nmX10, rfl, by decide +kernel⟩
theorem fP_X10_179 : g_FP RX10 179 10 34 .int := ⟨RX10, TX10, 46, tyX10, rfl, by decide, inlX10, Or.inl wm_394, tyX10_ok, nmX10, rfl, by decide +kernel⟩
theorem fP_X10_182 : g_FP RX10 182 10 33 .int := ⟨RX10, TX10, 46, tyX10, rfl, by decide, inlX10, Or.inl wm_393, tyX10_ok, nmX10, rfl, by decide +kernel⟩
theorem fP_X10_185 : g_FP RX10 185 10 35 .boolean := ⟨RX10, TX10, 46, tyX10, rfl, by decide, inlX10, Or.inl wm_395, tyX10_ok, nmX10, rfl, by decide +kernel⟩
theorem fP_X10_189 : g_FP RX10 189 10 29 .int := ⟨RX10, TX10, 46, tyX10, rfl, by decide, inlX10, Or.inl wm_380, tyX10_ok, nmX10, rfl, by decide +kernel⟩
theorem fP_X10_192 : g_FP RX10 192 10 30 .int := ⟨RX10, TX10, 46, tyX10, rfl, by decide, inlX10, Or.inl wm_379, tyX10_ok, nmX10, rfl, by decide +kernel⟩
theorem fP_X10_195 : g_FP RX10 195 10 36 .boolean := ⟨RX10, TX10, 46, tyX10, rfl, by decide, inlX10, Or.inl wm_396, tyX10_ok, nmX10, rfl, by decide +kernel⟩
theorem fP_X10_229 : g_FP RX10 229 10 11 .int := ⟨RX10, TX10, 46, tyX10, rfl, by decide, inlX10, Or.inl wm_381, tyX10_ok, nmX10, rfl, by decide +kernel⟩
theorem fP_X10_232 : g_FP RX10 232 10 14 .int := ⟨RX10, TX10, 46, tyX10, rfl, by decide, inlX10, Or.inl wm_382, tyX10_ok, nmX10, rfl, by decide +kernel⟩
theorem fP_X10_304 : g_FP RX10 304 10 42 .int := ⟨RX10, TX10, 46, tyX10, rfl, by decide, inlX10, Or.inl wm_775, tyX10_ok, nmX10, rfl, by decide +kernel⟩
theorem fP_X3_36 : g_FP RX3 36 3 0 .int := ⟨RX3, TX3, 16, tyX3, rfl, by decide, inlX3, Or.inl wm_81, tyX3_ok, nmX3, rfl, by decide +kernel⟩
theorem fP_X3_40 : g_FP RX3 40 3 1 .int := ⟨RX3, TX3, 16, tyX3, rfl, by decide, inlX3, Or.inl wm_82, tyX3_ok, nmX3, rfl, by decide +kernel⟩
theorem fP_X3_43 : g_FP RX3 43 3 2 .int := ⟨RX3, TX3, 16, tyX3, rfl, by decide, inlX3, Or.inl wm_83, tyX3_ok, nmX3, rfl, by decide +kernel⟩
theorem fP_X3_46 : g_FP RX3 46 3 3 .int := ⟨RX3, TX3, 16, tyX3, rfl, by decide, inlX3, Or.inl wm_84, tyX3_ok, nmX3, rfl, by decide +kernel⟩
theorem fP_X3_49 : g_FP RX3 49 3 4 .int := ⟨RX3, TX3, 16, tyX3, rfl, by decide, inlX3, Or.inl wm_85, tyX3_ok, nmX3, rfl, by decide +kernel⟩
theorem fP_X3_56 : g_FP RX3 56 3 5 .int := ⟨RX3, TX3, 16, tyX3, rfl, by decide, inlX3, Or.inl wm_90, tyX3_ok, nmX3, rfl, by decide +kernel⟩
theorem fP_X3_59 : g_FP RX3 59 3 6 .int := ⟨RX3, TX3, 16, tyX3, rfl, by decide, inlX3, Or.inl wm_91, tyX3_ok, nmX3, rfl, by decide +kernel⟩
theorem fP_X3_62 : g_FP RX3 62 3 7 .int := ⟨RX3, TX3, 16, tyX3, rfl, by decide, inlX3, Or.inl wm_92, tyX3_ok, nmX3, rfl, by decide +kernel⟩
theorem fP_X3_65 : g_FP RX3 65 3 8 .int := ⟨RX3, TX3, 16, tyX3, rfl, by decide, inlX3, Or.inl wm_93, tyX3_ok, nmX3, rfl, by decide +kernel⟩
theorem fP_X4_22 : g_FP RX4 22 4 3 .int := ⟨RX4, TX4, 11, tyX4, rfl, by decide, inlX4, Or.inl wm_102, tyX4_ok, nmX4, rfl, by decide +kernel⟩
theorem fP_X4_26 : g_FP RX4 26 4 4 .int := ⟨RX4, TX4, 11, tyX4, rfl, by decide, inlX4, Or.inl wm_103, tyX4_ok, nmX4, rfl, by decide +kernel⟩
theorem fP_X4_29 : g_FP RX4 29 4 5 .int := ⟨RX4, TX4, 11, tyX4, rfl, by decide, inlX4, Or.inl wm_104, tyX4_ok, nmX4, rfl, by decide +kernel⟩
theorem fP_X4_36 : g_FP RX4 36 4 6 .int := ⟨RX4, TX4, 11, tyX4, rfl, by decide, inlX4, Or.inl wm_366, tyX4_ok, nmX4, rfl, by decide +kernel⟩
theorem fP_X4_39 : g_FP RX4 39 4 7 .int := ⟨RX4, TX4, 11, tyX4, rfl, by decide, inlX4, Or.inl wm_367, tyX4_ok, nmX4, rfl, by decide +kernel⟩
theorem fP_X4_42 : g_FP RX4 42 4 8 .int := ⟨RX4, TX4, 11, tyX4, rfl, by decide, inlX4, Or.inl wm_368, tyX4_ok, nmX4, rfl, by decide +kernel⟩
theorem fP_X4_45 : g_FP RX4 45 4 9 .int := ⟨RX4, TX4, 11, tyX4, rfl, by decide, inlX4, Or.inl wm_572, tyX4_ok, nmX4, rfl, by decide +kernel⟩
theorem fP_X4_48 : g_FP RX4 48 4 10 .int := ⟨RX4, TX4, 11, tyX4, rfl, by decide, inlX4, Or.inl wm_586, tyX4_ok, nmX4, rfl, by decide +kernel⟩
theorem fP_X5_29 : g_FP RX5 29 5 10 .int := ⟨RX5, TX5, 11, tyX5, rfl, by decide, inlX5, Or.inl wm_65, tyX5_ok, nmX5, rfl, by decide +kernel⟩
theorem fP_X5_51 : g_FP RX5 51 5 9 .int := ⟨RX5, TX5, 11, tyX5, rfl, by decide, inlX5, Or.inl wm_208, tyX5_ok, nmX5, rfl, by decide +kernel⟩
theorem fP_X5_60 : g_FP RX5 60 5 4 .int := ⟨RX5, TX5, 11, tyX5, rfl, by decide, inlX5, Or.inl wm_213, tyX5_ok, nmX5, rfl, by decide +kernel⟩
theorem fP_X5_63 : g_FP RX5 63 5 5 .int := ⟨RX5, TX5, 11, tyX5, rfl, by decide, inlX5, Or.inl wm_214, tyX5_ok, nmX5, rfl, by decide +kernel⟩
theorem fP_X5_66 : g_FP RX5 66 5 6 .int := ⟨RX5, TX5, 11, tyX5, rfl, by decide, inlX5, Or.inl wm_215, tyX5_ok, nmX5, rfl, by decide +kernel⟩
theorem fP_X5_69 : g_FP RX5 69 5 7 .boolean := ⟨RX5, TX5, 11, tyX5, rfl, by decide, inlX5, Or.inl wm_216, tyX5_ok, nmX5, rfl, by decide +kernel⟩
theorem fP_X5_73 : g_FP RX5 73 5 8 .boolean := ⟨RX5, TX5, 11, tyX5, rfl, by decide, inlX5, Or.inl wm_217, tyX5_ok, nmX5, rfl, by decide +kernel⟩
theorem fP_X5_162 : g_FP RX5 162 3 3 .int := ⟨RX3, TX3, 16, tyX3, rfl, by decide, inlX3, Or.inr (List.mem_of_getElem? (i := 13) rfl), tyX3_ok, nmX3, rfl, by decide +kernel⟩
theorem fP_X5_165 : g_FP RX5 165 3 4 .int := ⟨RX3, TX3, 16, tyX3, rfl, by decide, inlX3, Or.inr (List.mem_of_getElem? (i := 19) rfl), tyX3_ok, nmX3, rfl, by decide +kernel⟩
theorem fP_X6_33 : g_FP RX6 33 6 4 .int := ⟨RX6, TX6, 7, tyX6, rfl, by decide, inlX6, Or.inl wm_856, tyX6_ok, nmX6, rfl, by decide +kernel⟩
theorem fP_X7_15 : g_FP RX7 15 7 1 .int := ⟨RX7, TX7, 5, tyX7, rfl, by decide, inlX7, Or.inl wm_187, tyX7_ok, nmX7, rfl, by decide +kernel⟩
theorem fP_X7_19 : g_FP RX7 19 7 2 .int := ⟨RX7, TX7, 5, tyX7, rfl, by decide, inlX7, Or.inl wm_223, tyX7_ok, nmX7, rfl, by decide +kernel⟩
theorem fP_X7_22 : g_FP RX7 22 7 3 .int := ⟨RX7, TX7, 5, tyX7, rfl, by decide, inlX7, Or.inl wm_224, tyX7_ok, nmX7, rfl, by decide +kernel⟩
theorem fP_X7_25 : g_FP RX7 25 7 4 .int := ⟨RX7, TX7, 5, tyX7, rfl, by decide, inlX7, Or.inl wm_225, tyX7_ok, nmX7, rfl, by decide +kernel⟩
theorem fP_X8_85 : g_FP RX8 85 8 5 .int := ⟨RX8, TX8, 9, tyX8, rfl, by decide, inlX8, Or.inl wm_765, tyX8_ok, nmX8, rfl, by decide +kernel⟩
theorem fP_X8_91 : g_FP RX8 91 8 6 .int := ⟨RX8, TX8, 9, tyX8, rfl, by decide, inlX8, Or.inl wm_797, tyX8_ok, nmX8, rfl, by decide +kernel⟩
theorem fP_X8_94 : g_FP RX8 94 8 7 .int := ⟨RX8, TX8, 9, tyX8, rfl, by decide, inlX8, Or.inl wm_798, tyX8_ok, nmX8, rfl, by decide +kernel⟩
theorem fP_X8_105 : g_FP RX8 105 8 8 .int := ⟨RX8, TX8, 9, tyX8, rfl, by decide, inlX8, Or.inl wm_823, tyX8_ok, nmX8, rfl, by decide +kernel⟩
theorem fP_X9_109 : g_FP RX9 109 2 1 .boolean := ⟨RX2, TX2, 2, tyX2, rfl, by decide, inlX2, Or.inr (List.mem_of_getElem? (i := 48) rfl), tyX2_ok, nmX2, rfl, by decide +kernel⟩
theorem fP_X9_113 : g_FP RX9 113 6 4 .int := ⟨RX6, TX6, 7, tyX6, rfl, by decide, inlX6, Or.inr (List.mem_of_getElem? (i := 55) rfl), tyX6_ok, nmX6, rfl, by decide +kernel⟩
theorem fP_X9_116 : g_FP RX9 116 0 3 .int := ⟨RX0, TX0, 4, tyX0, rfl, by decide, inlX0, Or.inr (List.mem_of_getElem? (i := 56) rfl), tyX0_ok, nmX0, rfl, by decide +kernel⟩
theorem fP_X9_126 : g_FP RX9 126 4 9 .int := ⟨RX4, TX4, 11, tyX4, rfl, by decide, inlX4, Or.inr (List.mem_of_getElem? (i := 44) rfl), tyX4_ok, nmX4, rfl, by decide +kernel⟩
theorem fP_X9_132 : g_FP RX9 132 4 3 .int := ⟨RX4, TX4, 11, tyX4, rfl, by decide, inlX4, Or.inr (List.mem_of_getElem? (i := 35) rfl), tyX4_ok, nmX4, rfl, by decide +kernel⟩
theorem fP_X9_142 : g_FP RX9 142 4 5 .int := ⟨RX4, TX4, 11, tyX4, rfl, by decide, inlX4, Or.inr (List.mem_of_getElem? (i := 39) rfl), tyX4_ok, nmX4, rfl, by decide +kernel⟩
theorem fP_X9_261 : g_FP RX9 261 4 10 .int := ⟨RX4, TX4, 11, tyX4, rfl, by decide, inlX4, Or.inr (List.mem_of_getElem? (i := 46) rfl), tyX4_ok, nmX4, rfl, by decide +kernel⟩
theorem gl_X0_26 : g_L RX0 26 yX3_tithesOf cX3_tithesOf 7 (some .int) 3 := ⟨wm_543, wm_941, wm_23, by decide, by decide, by decide +kernel⟩
theorem glv_X3_tithesOf : Cond.instanceMethod yX3_tithesOf ∈ wsL_law ∧ Cond.selects yX3_tithesOf.cls yX3_tithesOf yX3_tithesOf ∈ wsL_law := ⟨wm_541, wm_542⟩
theorem gl_X1_44 : g_L RX1 44 yX3_liking cX3_liking 5 (some .int) 3 := ⟨wm_515, wm_683, wm_23, by decide, by decide, by decide +kernel⟩
theorem glv_X3_liking : Cond.instanceMethod yX3_liking ∈ wsL_law ∧ Cond.selects yX3_liking.cls yX3_liking yX3_liking ∈ wsL_law := ⟨wm_513, wm_514⟩
theorem gl_X1_48 : g_L RX1 48 yX1_setLiking cX1_setLiking 6 none 2 := ⟨wm_687, wm_684, wm_36, by decide, by decide, by decide +kernel⟩
theorem glv_X1_setLiking : Cond.instanceMethod yX1_setLiking ∈ wsL_law ∧ Cond.selects yX1_setLiking.cls yX1_setLiking yX1_setLiking ∈ wsL_law := ⟨wm_685, wm_686⟩
theorem gl_X1_55 : g_L RX1 55 yX3_has cX3_has 2 (some .boolean) 1 := ⟨wm_314, wm_688, wm_23, by decide, by decide, by decide +kernel⟩
theorem glv_X3_has : Cond.instanceMethod yX3_has ∈ wsL_law ∧ Cond.selects yX3_has.cls yX3_has yX3_has ∈ wsL_law := ⟨wm_312, wm_313⟩
theorem gl_X1_59 : g_L RX1 59 yX3_wayFrom cX3_wayFrom 3 (some .int) 2 := ⟨wm_580, wm_689, wm_23, by decide, by decide, by decide +kernel⟩
theorem glv_X3_wayFrom : Cond.instanceMethod yX3_wayFrom ∈ wsL_law ∧ Cond.selects yX3_wayFrom.cls yX3_wayFrom yX3_wayFrom ∈ wsL_law := ⟨wm_578, wm_579⟩
theorem gl_X1_68 : g_L RX1 68 yX1_wake cX1_wake 2 none 0 := ⟨wm_697, wm_694, wm_36, by decide, by decide, by decide +kernel⟩
theorem glv_X1_wake : Cond.instanceMethod yX1_wake ∈ wsL_law ∧ Cond.selects yX1_wake.cls yX1_wake yX1_wake ∈ wsL_law := ⟨wm_695, wm_696⟩
theorem gl_X1_71 : g_L RX1 71 yX1_passHour cX1_passHour 2 none 0 := ⟨wm_702, wm_699, wm_36, by decide, by decide, by decide +kernel⟩
theorem glv_X1_passHour : Cond.instanceMethod yX1_passHour ∈ wsL_law ∧ Cond.selects yX1_passHour.cls yX1_passHour yX1_passHour ∈ wsL_law := ⟨wm_700, wm_701⟩
theorem gl_X1_74 : g_L RX1 74 yX1_partFrom cX1_partFrom 10 none 1 := ⟨wm_706, wm_703, wm_36, by decide, by decide, by decide +kernel⟩
theorem glv_X1_partFrom : Cond.instanceMethod yX1_partFrom ∈ wsL_law ∧ Cond.selects yX1_partFrom.cls yX1_partFrom yX1_partFrom ∈ wsL_law := ⟨wm_704, wm_705⟩
theorem gl_X1_84 : g_L RX1 84 yX1_likeliest cX1_likeliest 3 (some .int) 0 := ⟨wm_841, wm_838, wm_36, by decide, by decide, by decide +kernel⟩
theorem glv_X1_likeliest : Cond.instanceMethod yX1_likeliest ∈ wsL_law ∧ Cond.selects yX1_likeliest.cls yX1_likeliest yX1_likeliest ∈ wsL_law := ⟨wm_839, wm_840⟩
theorem gl_X1_88 : g_L RX1 88 yX3_placeOf cX3_placeOf 2 (some .int) 1 := ⟨wm_491, wm_842, wm_23, by decide, by decide, by decide +kernel⟩
theorem glv_X3_placeOf : Cond.instanceMethod yX3_placeOf ∈ wsL_law ∧ Cond.selects yX3_placeOf.cls yX3_placeOf yX3_placeOf ∈ wsL_law := ⟨wm_489, wm_490⟩
theorem gl_X10_91 : g_L RX10 91 yX10_in cX10_in 6 (some .boolean) 3 := ⟨wm_199, wm_197, wm_5, by decide, by decide, by decide +kernel⟩
theorem gl_X10_124 : g_L RX10 124 yX10_isSmall cX10_isSmall 1 (some .boolean) 1 := ⟨wm_405, wm_403, wm_5, by decide, by decide, by decide +kernel⟩
theorem gl_X10_128 : g_L RX10 128 yX10_isFigure cX10_isFigure 1 (some .boolean) 1 := ⟨wm_410, wm_408, wm_5, by decide, by decide, by decide +kernel⟩
theorem gl_X10_131 : g_L RX10 131 yX10_look cX10_look 5 none 1 := ⟨wm_400, wm_397, wm_5, by decide, by decide, by decide +kernel⟩
theorem glv_X10_look : Cond.instanceMethod yX10_look ∈ wsL_law ∧ Cond.selects yX10_look.cls yX10_look yX10_look ∈ wsL_law := ⟨wm_398, wm_399⟩
theorem gl_X10_138 : g_L RX10 138 yX10_faults cX10_faults 2 (some .boolean) 1 := ⟨wm_426, wm_423, wm_5, by decide, by decide, by decide +kernel⟩
theorem glv_X10_faults : Cond.instanceMethod yX10_faults ∈ wsL_law ∧ Cond.selects yX10_faults.cls yX10_faults yX10_faults ∈ wsL_law := ⟨wm_424, wm_425⟩
theorem gl_X10_144 : g_L RX10 144 yX10_goOn cX10_goOn 1 none 0 := ⟨wm_430, wm_427, wm_5, by decide, by decide, by decide +kernel⟩
theorem glv_X10_goOn : Cond.instanceMethod yX10_goOn ∈ wsL_law ∧ Cond.selects yX10_goOn.cls yX10_goOn yX10_goOn ∈ wsL_law := ⟨wm_428, wm_429⟩
theorem gl_X10_150 : g_L RX10 150 yX10_takes cX10_takes 3 (some .boolean) 2 := ⟨wm_434, wm_431, wm_5, by decide, by decide, by decide +kernel⟩
theorem glv_X10_takes : Cond.instanceMethod yX10_takes ∈ wsL_law ∧ Cond.selects yX10_takes.cls yX10_takes yX10_takes ∈ wsL_law := ⟨wm_432, wm_433⟩
theorem gl_X10_160 : g_L RX10 160 yX10_isWord cX10_isWord 10 (some .boolean) 6 := ⟨wm_422, wm_419, wm_5, by decide, by decide, by decide +kernel⟩
theorem glv_X10_isWord : Cond.instanceMethod yX10_isWord ∈ wsL_law ∧ Cond.selects yX10_isWord.cls yX10_isWord yX10_isWord ∈ wsL_law := ⟨wm_420, wm_421⟩
theorem gl_X10_166 : g_L RX10 166 yX10_stops cX10_stops 1 (some .boolean) 0 := ⟨wm_438, wm_435, wm_5, by decide, by decide, by decide +kernel⟩
theorem glv_X10_stops : Cond.instanceMethod yX10_stops ∈ wsL_law ∧ Cond.selects yX10_stops.cls yX10_stops yX10_stops ∈ wsL_law := ⟨wm_436, wm_437⟩
theorem gl_X10_173 : g_L RX10 173 yX10_takesX cX10_takesX 1 (some .boolean) 0 := ⟨wm_451, wm_448, wm_5, by decide, by decide, by decide +kernel⟩
theorem glv_X10_takesX : Cond.instanceMethod yX10_takesX ∈ wsL_law ∧ Cond.selects yX10_takesX.cls yX10_takesX yX10_takesX ∈ wsL_law := ⟨wm_449, wm_450⟩
theorem gl_X10_176 : g_L RX10 176 yX10_seesY cX10_seesY 2 (some .boolean) 1 := ⟨wm_455, wm_452, wm_5, by decide, by decide, by decide +kernel⟩
theorem glv_X10_seesY : Cond.instanceMethod yX10_seesY ∈ wsL_law ∧ Cond.selects yX10_seesY.cls yX10_seesY yX10_seesY ∈ wsL_law := ⟨wm_453, wm_454⟩
theorem gl_X10_198 : g_L RX10 198 yX10_readsGrass cX10_readsGrass 2 (some .boolean) 0 := ⟨wm_446, wm_443, wm_5, by decide, by decide, by decide +kernel⟩
theorem glv_X10_readsGrass : Cond.instanceMethod yX10_readsGrass ∈ wsL_law ∧ Cond.selects yX10_readsGrass.cls yX10_readsGrass yX10_readsGrass ∈ wsL_law := ⟨wm_444, wm_445⟩
theorem gl_X10_201 : g_L RX10 201 yX10_readsThing cX10_readsThing 2 (some .boolean) 0 := ⟨wm_459, wm_456, wm_5, by decide, by decide, by decide +kernel⟩
theorem glv_X10_readsThing : Cond.instanceMethod yX10_readsThing ∈ wsL_law ∧ Cond.selects yX10_readsThing.cls yX10_readsThing yX10_readsThing ∈ wsL_law := ⟨wm_457, wm_458⟩
theorem gl_X10_204 : g_L RX10 204 yX10_readsTithe cX10_readsTithe 2 (some .boolean) 0 := ⟨wm_463, wm_460, wm_5, by decide, by decide, by decide +kernel⟩
theorem glv_X10_readsTithe : Cond.instanceMethod yX10_readsTithe ∈ wsL_law ∧ Cond.selects yX10_readsTithe.cls yX10_readsTithe yX10_readsTithe ∈ wsL_law := ⟨wm_461, wm_462⟩
theorem gl_X10_207 : g_L RX10 207 yX10_readsCow cX10_readsCow 1 (some .boolean) 0 := ⟨wm_467, wm_464, wm_5, by decide, by decide, by decide +kernel⟩
theorem glv_X10_readsCow : Cond.instanceMethod yX10_readsCow ∈ wsL_law ∧ Cond.selects yX10_readsCow.cls yX10_readsCow yX10_readsCow ∈ wsL_law := ⟨wm_465, wm_466⟩
theorem gl_X10_210 : g_L RX10 210 yX10_readsLikes cX10_readsLikes 2 (some .boolean) 0 := ⟨wm_471, wm_468, wm_5, by decide, by decide, by decide +kernel⟩
theorem glv_X10_readsLikes : Cond.instanceMethod yX10_readsLikes ∈ wsL_law ∧ Cond.selects yX10_readsLikes.cls yX10_readsLikes yX10_readsLikes ∈ wsL_law := ⟨wm_469, wm_470⟩
theorem gl_X10_213 : g_L RX10 213 yX10_readsNothing cX10_readsNothing 2 none 0 := ⟨wm_391, wm_388, wm_5, by decide, by decide, by decide +kernel⟩
theorem glv_X10_readsNothing : Cond.instanceMethod yX10_readsNothing ∈ wsL_law ∧ Cond.selects yX10_readsNothing.cls yX10_readsNothing yX10_readsNothing ∈ wsL_law := ⟨wm_389, wm_390⟩
theorem gl_X10_216 : g_L RX10 216 yX10_readsMeadow cX10_readsMeadow 1 (some .boolean) 0 := ⟨wm_416, wm_413, wm_5, by decide, by decide, by decide +kernel⟩
theorem glv_X10_readsMeadow : Cond.instanceMethod yX10_readsMeadow ∈ wsL_law ∧ Cond.selects yX10_readsMeadow.cls yX10_readsMeadow yX10_readsMeadow ∈ wsL_law := ⟨wm_414, wm_415⟩
theorem gl_X10_219 : g_L RX10 219 yX10_readsItem cX10_readsItem 1 (some .boolean) 0 := ⟨wm_442, wm_439, wm_5, by decide, by decide, by decide +kernel⟩
theorem glv_X10_readsItem : Cond.instanceMethod yX10_readsItem ∈ wsL_law ∧ Cond.selects yX10_readsItem.cls yX10_readsItem yX10_readsItem ∈ wsL_law := ⟨wm_440, wm_441⟩
theorem gl_X10_222 : g_L RX10 222 yX10_readsAll cX10_readsAll 2 (some .boolean) 0 := ⟨wm_386, wm_383, wm_5, by decide, by decide, by decide +kernel⟩
theorem glv_X10_readsAll : Cond.instanceMethod yX10_readsAll ∈ wsL_law ∧ Cond.selects yX10_readsAll.cls yX10_readsAll yX10_readsAll ∈ wsL_law := ⟨wm_384, wm_385⟩
theorem gl_X10_225 : g_L RX10 225 yX10_cells cX10_cells 1 (some .int) 0 := ⟨wm_475, wm_472, wm_5, by decide, by decide, by decide +kernel⟩
theorem glv_X10_cells : Cond.instanceMethod yX10_cells ∈ wsL_law ∧ Cond.selects yX10_cells.cls yX10_cells yX10_cells ∈ wsL_law := ⟨wm_473, wm_474⟩
theorem gl_X10_235 : g_L RX10 235 yX10_named cX10_named 2 (some .int) 1 := ⟨wm_499, wm_496, wm_5, by decide, by decide, by decide +kernel⟩
theorem glv_X10_named : Cond.instanceMethod yX10_named ∈ wsL_law ∧ Cond.selects yX10_named.cls yX10_named yX10_named ∈ wsL_law := ⟨wm_497, wm_498⟩
theorem gl_X10_239 : g_L RX10 239 yX10_isCell cX10_isCell 3 (some .boolean) 2 := ⟨wm_528, wm_525, wm_5, by decide, by decide, by decide +kernel⟩
theorem glv_X10_isCell : Cond.instanceMethod yX10_isCell ∈ wsL_law ∧ Cond.selects yX10_isCell.cls yX10_isCell yX10_isCell ∈ wsL_law := ⟨wm_526, wm_527⟩
theorem gl_X10_242 : g_L RX10 242 yX10_way cX10_way 5 (some .int) 2 := ⟨wm_617, wm_614, wm_5, by decide, by decide, by decide +kernel⟩
theorem glv_X10_way : Cond.instanceMethod yX10_way ∈ wsL_law ∧ Cond.selects yX10_way.cls yX10_way yX10_way ∈ wsL_law := ⟨wm_615, wm_616⟩
theorem gl_X10_246 : g_L RX10 246 yX10_liking cX10_liking 3 (some .int) 1 := ⟨wm_532, wm_529, wm_5, by decide, by decide, by decide +kernel⟩
theorem glv_X10_liking : Cond.instanceMethod yX10_liking ∈ wsL_law ∧ Cond.selects yX10_liking.cls yX10_liking yX10_liking ∈ wsL_law := ⟨wm_530, wm_531⟩
theorem gl_X10_249 : g_L RX10 249 yX10_isWest cX10_isWest 7 (some .boolean) 2 := ⟨wm_562, wm_559, wm_5, by decide, by decide, by decide +kernel⟩
theorem glv_X10_isWest : Cond.instanceMethod yX10_isWest ∈ wsL_law ∧ Cond.selects yX10_isWest.cls yX10_isWest yX10_isWest ∈ wsL_law := ⟨wm_560, wm_561⟩
theorem gl_X10_253 : g_L RX10 253 yX10_isParish cX10_isParish 1 (some .boolean) 1 := ⟨wm_554, wm_552, wm_5, by decide, by decide, by decide +kernel⟩
theorem gl_X10_256 : g_L RX10 256 yX10_tithesOf cX10_tithesOf 5 (some .int) 2 := ⟨wm_558, wm_555, wm_5, by decide, by decide, by decide +kernel⟩
theorem glv_X10_tithesOf : Cond.instanceMethod yX10_tithesOf ∈ wsL_law ∧ Cond.selects yX10_tithesOf.cls yX10_tithesOf yX10_tithesOf ∈ wsL_law := ⟨wm_556, wm_557⟩
theorem gl_X10_266 : g_L RX10 266 yX10_likings cX10_likings 5 (some .int) 1 := ⟨wm_613, wm_610, wm_5, by decide, by decide, by decide +kernel⟩
theorem glv_X10_likings : Cond.instanceMethod yX10_likings ∈ wsL_law ∧ Cond.selects yX10_likings.cls yX10_likings yX10_likings ∈ wsL_law := ⟨wm_611, wm_612⟩
theorem gl_X10_269 : g_L RX10 269 yX10_draw cX10_draw 2 (some .int) 1 := ⟨wm_621, wm_618, wm_5, by decide, by decide, by decide +kernel⟩
theorem glv_X10_draw : Cond.instanceMethod yX10_draw ∈ wsL_law ∧ Cond.selects yX10_draw.cls yX10_draw yX10_draw ∈ wsL_law := ⟨wm_619, wm_620⟩
theorem gl_X10_275 : g_L RX10 275 yX10_goHour cX10_goHour 6 (some .int) 1 := ⟨wm_609, wm_606, wm_5, by decide, by decide, by decide +kernel⟩
theorem glv_X10_goHour : Cond.instanceMethod yX10_goHour ∈ wsL_law ∧ Cond.selects yX10_goHour.cls yX10_goHour yX10_goHour ∈ wsL_law := ⟨wm_607, wm_608⟩
theorem gl_X10_280 : g_L RX10 280 yX10_sowOn cX10_sowOn 5 none 2 := ⟨wm_655, wm_652, wm_5, by decide, by decide, by decide +kernel⟩
theorem glv_X10_sowOn : Cond.instanceMethod yX10_sowOn ∈ wsL_law ∧ Cond.selects yX10_sowOn.cls yX10_sowOn yX10_sowOn ∈ wsL_law := ⟨wm_653, wm_654⟩
theorem gl_X10_286 : g_L RX10 286 yX10_part cX10_part 10 none 1 := ⟨wm_728, wm_725, wm_5, by decide, by decide, by decide +kernel⟩
theorem glv_X10_part : Cond.instanceMethod yX10_part ∈ wsL_law ∧ Cond.selects yX10_part.cls yX10_part yX10_part ∈ wsL_law := ⟨wm_726, wm_727⟩
theorem gl_X10_289 : g_L RX10 289 yX10_startOdds cX10_startOdds 2 none 0 := ⟨wm_719, wm_716, wm_5, by decide, by decide, by decide +kernel⟩
theorem glv_X10_startOdds : Cond.instanceMethod yX10_startOdds ∈ wsL_law ∧ Cond.selects yX10_startOdds.cls yX10_startOdds yX10_startOdds ∈ wsL_law := ⟨wm_717, wm_718⟩
theorem gl_X10_292 : g_L RX10 292 yX10_goOdds cX10_goOdds 2 none 0 := ⟨wm_724, wm_721, wm_5, by decide, by decide, by decide +kernel⟩
theorem glv_X10_goOdds : Cond.instanceMethod yX10_goOdds ∈ wsL_law ∧ Cond.selects yX10_goOdds.cls yX10_goOdds yX10_goOdds ∈ wsL_law := ⟨wm_722, wm_723⟩
theorem gl_X10_297 : g_L RX10 297 yX10_findOdds cX10_findOdds 3 none 1 := ⟨wm_715, wm_712, wm_5, by decide, by decide, by decide +kernel⟩
theorem glv_X10_findOdds : Cond.instanceMethod yX10_findOdds ∈ wsL_law ∧ Cond.selects yX10_findOdds.cls yX10_findOdds yX10_findOdds ∈ wsL_law := ⟨wm_713, wm_714⟩
theorem gl_X10_300 : g_L RX10 300 yX10_meanOf cX10_meanOf 5 (some .int) 1 := ⟨wm_756, wm_753, wm_5, by decide, by decide, by decide +kernel⟩
theorem glv_X10_meanOf : Cond.instanceMethod yX10_meanOf ∈ wsL_law ∧ Cond.selects yX10_meanOf.cls yX10_meanOf yX10_meanOf ∈ wsL_law := ⟨wm_754, wm_755⟩
theorem gl_X10_307 : g_L RX10 307 yX10_keepGrass cX10_keepGrass 2 none 0 := ⟨wm_784, wm_781, wm_5, by decide, by decide, by decide +kernel⟩
theorem glv_X10_keepGrass : Cond.instanceMethod yX10_keepGrass ∈ wsL_law ∧ Cond.selects yX10_keepGrass.cls yX10_keepGrass yX10_keepGrass ∈ wsL_law := ⟨wm_782, wm_783⟩
theorem gl_X10_310 : g_L RX10 310 yX10_giveGrass cX10_giveGrass 2 none 0 := ⟨wm_788, wm_785, wm_5, by decide, by decide, by decide +kernel⟩
theorem glv_X10_giveGrass : Cond.instanceMethod yX10_giveGrass ∈ wsL_law ∧ Cond.selects yX10_giveGrass.cls yX10_giveGrass yX10_giveGrass ∈ wsL_law := ⟨wm_786, wm_787⟩
theorem gl_X10_313 : g_L RX10 313 yX10_bestClover cX10_bestClover 7 (some .int) 3 := ⟨wm_779, wm_776, wm_5, by decide, by decide, by decide +kernel⟩
theorem glv_X10_bestClover : Cond.instanceMethod yX10_bestClover ∈ wsL_law ∧ Cond.selects yX10_bestClover.cls yX10_bestClover yX10_bestClover ∈ wsL_law := ⟨wm_777, wm_778⟩
theorem gl_X10_320 : g_L RX10 320 yX10_fit cX10_fit 4 none 1 := ⟨wm_911, wm_908, wm_5, by decide, by decide, by decide +kernel⟩
theorem glv_X10_fit : Cond.instanceMethod yX10_fit ∈ wsL_law ∧ Cond.selects yX10_fit.cls yX10_fit yX10_fit ∈ wsL_law := ⟨wm_909, wm_910⟩
theorem gl_X10_325 : g_L RX10 325 yX10_findCan cX10_findCan 4 none 0 := ⟨wm_907, wm_904, wm_5, by decide, by decide, by decide +kernel⟩
theorem glv_X10_findCan : Cond.instanceMethod yX10_findCan ∈ wsL_law ∧ Cond.selects yX10_findCan.cls yX10_findCan yX10_findCan ∈ wsL_law := ⟨wm_905, wm_906⟩
theorem gl_X3_33 : g_L RX3 33 yX3_clear cX3_clear 1 none 0 := ⟨wm_80, wm_77, wm_23, by decide, by decide, by decide +kernel⟩
theorem glv_X3_clear : Cond.instanceMethod yX3_clear ∈ wsL_law ∧ Cond.selects yX3_clear.cls yX3_clear yX3_clear ∈ wsL_law := ⟨wm_78, wm_79⟩
theorem gl_X3_52 : g_L RX3 52 yX3_setLikes cX3_setLikes 5 none 4 := ⟨wm_89, wm_86, wm_23, by decide, by decide, by decide +kernel⟩
theorem glv_X3_setLikes : Cond.instanceMethod yX3_setLikes ∈ wsL_law ∧ Cond.selects yX3_setLikes.cls yX3_setLikes yX3_setLikes ∈ wsL_law := ⟨wm_87, wm_88⟩
theorem gl_X3_68 : g_L RX3 68 yX3_layCell cX3_layCell 4 none 2 := ⟨wm_306, wm_303, wm_23, by decide, by decide, by decide +kernel⟩
theorem glv_X3_layCell : Cond.instanceMethod yX3_layCell ∈ wsL_law ∧ Cond.selects yX3_layCell.cls yX3_layCell yX3_layCell ∈ wsL_law := ⟨wm_304, wm_305⟩
theorem gl_X3_72 : g_L RX3 72 yX3_cellAt cX3_cellAt 3 (some .int) 2 := ⟨wm_310, wm_307, wm_23, by decide, by decide, by decide +kernel⟩
theorem glv_X3_cellAt : Cond.instanceMethod yX3_cellAt ∈ wsL_law ∧ Cond.selects yX3_cellAt.cls yX3_cellAt yX3_cellAt ∈ wsL_law := ⟨wm_308, wm_309⟩
theorem gl_X3_76 : g_L RX3 76 yX3_has cX3_has 2 (some .boolean) 1 := ⟨wm_314, wm_311, wm_23, by decide, by decide, by decide +kernel⟩
theorem gl_X3_80 : g_L RX3 80 yX3_addWay cX3_addWay 5 none 3 := ⟨wm_318, wm_315, wm_23, by decide, by decide, by decide +kernel⟩
theorem glv_X3_addWay : Cond.instanceMethod yX3_addWay ∈ wsL_law ∧ Cond.selects yX3_addWay.cls yX3_addWay yX3_addWay ∈ wsL_law := ⟨wm_316, wm_317⟩
theorem gl_X3_89 : g_L RX3 89 yX3_isFirstParish cX3_isFirstParish 4 (some .boolean) 3 := ⟨wm_547, wm_544, wm_23, by decide, by decide, by decide +kernel⟩
theorem glv_X3_isFirstParish : Cond.instanceMethod yX3_isFirstParish ∈ wsL_law ∧ Cond.selects yX3_isFirstParish.cls yX3_isFirstParish yX3_isFirstParish ∈ wsL_law := ⟨wm_545, wm_546⟩
theorem gl_X4_51 : g_L RX4 51 yX3_has cX3_has 2 (some .boolean) 1 := ⟨wm_314, wm_511, wm_23, by decide, by decide, by decide +kernel⟩
theorem gl_X4_55 : g_L RX4 55 yX3_liking cX3_liking 5 (some .int) 3 := ⟨wm_515, wm_512, wm_23, by decide, by decide, by decide +kernel⟩
theorem gl_X4_62 : g_L RX4 62 yX4_cellByDraw cX4_cellByDraw 6 (some .int) 1 := ⟨wm_576, wm_573, wm_27, by decide, by decide, by decide +kernel⟩
theorem glv_X4_cellByDraw : Cond.instanceMethod yX4_cellByDraw ∈ wsL_law ∧ Cond.selects yX4_cellByDraw.cls yX4_cellByDraw yX4_cellByDraw ∈ wsL_law := ⟨wm_574, wm_575⟩
theorem gl_X4_66 : g_L RX4 66 yX4_eatAt cX4_eatAt 2 none 1 := ⟨wm_594, wm_591, wm_27, by decide, by decide, by decide +kernel⟩
theorem glv_X4_eatAt : Cond.instanceMethod yX4_eatAt ∈ wsL_law ∧ Cond.selects yX4_eatAt.cls yX4_eatAt yX4_eatAt ∈ wsL_law := ⟨wm_592, wm_593⟩
theorem gl_X4_70 : g_L RX4 70 yX3_tithesOf cX3_tithesOf 7 (some .int) 3 := ⟨wm_543, wm_595, wm_23, by decide, by decide, by decide +kernel⟩
theorem gl_X4_74 : g_L RX4 74 yX4_growByNight cX4_growByNight 2 none 0 := ⟨wm_599, wm_596, wm_27, by decide, by decide, by decide +kernel⟩
theorem glv_X4_growByNight : Cond.instanceMethod yX4_growByNight ∈ wsL_law ∧ Cond.selects yX4_growByNight.cls yX4_growByNight yX4_growByNight ∈ wsL_law := ⟨wm_597, wm_598⟩
theorem gl_X4_77 : g_L RX4 77 yX3_wayFrom cX3_wayFrom 3 (some .int) 2 := ⟨wm_580, wm_577, wm_23, by decide, by decide, by decide +kernel⟩
theorem gl_X4_81 : g_L RX4 81 yX4_likingNow cX4_likingNow 2 (some .int) 1 := ⟨wm_510, wm_581, wm_27, by decide, by decide, by decide +kernel⟩
theorem glv_X4_likingNow : Cond.instanceMethod yX4_likingNow ∈ wsL_law ∧ Cond.selects yX4_likingNow.cls yX4_likingNow yX4_likingNow ∈ wsL_law := ⟨wm_508, wm_509⟩
theorem gl_X4_84 : g_L RX4 84 yX4_draw cX4_draw 4 (some .int) 1 := ⟨wm_585, wm_582, wm_27, by decide, by decide, by decide +kernel⟩
theorem glv_X4_draw : Cond.instanceMethod yX4_draw ∈ wsL_law ∧ Cond.selects yX4_draw.cls yX4_draw yX4_draw ∈ wsL_law := ⟨wm_583, wm_584⟩
theorem gl_X5_33 : g_L RX5 33 yX5_begin cX5_begin 2 none 0 := ⟨wm_212, wm_209, wm_19, by decide, by decide, by decide +kernel⟩
theorem glv_X5_begin : Cond.instanceMethod yX5_begin ∈ wsL_law ∧ Cond.selects yX5_begin.cls yX5_begin yX5_begin ∈ wsL_law := ⟨wm_210, wm_211⟩
theorem gl_X5_36 : g_L RX5 36 yX7_nextToken cX7_nextToken 1 none 0 := ⟨wm_229, wm_226, wm_15, by decide, by decide, by decide +kernel⟩
theorem glv_X7_nextToken : Cond.instanceMethod yX7_nextToken ∈ wsL_law ∧ Cond.selects yX7_nextToken.cls yX7_nextToken yX7_nextToken ∈ wsL_law := ⟨wm_227, wm_228⟩
theorem gl_X5_44 : g_L RX5 44 yX5_readSize cX5_readSize 3 (some .boolean) 0 := ⟨wm_233, wm_230, wm_19, by decide, by decide, by decide +kernel⟩
theorem glv_X5_readSize : Cond.instanceMethod yX5_readSize ∈ wsL_law ∧ Cond.selects yX5_readSize.cls yX5_readSize yX5_readSize ∈ wsL_law := ⟨wm_231, wm_232⟩
theorem gl_X5_48 : g_L RX5 48 yX5_readEntry cX5_readEntry 1 (some .boolean) 0 := ⟨wm_326, wm_323, wm_19, by decide, by decide, by decide +kernel⟩
theorem glv_X5_readEntry : Cond.instanceMethod yX5_readEntry ∈ wsL_law ∧ Cond.selects yX5_readEntry.cls yX5_readEntry yX5_readEntry ∈ wsL_law := ⟨wm_324, wm_325⟩
theorem gl_X5_57 : g_L RX5 57 yX3_clear cX3_clear 1 none 0 := ⟨wm_80, wm_218, wm_23, by decide, by decide, by decide +kernel⟩
theorem gl_X5_76 : g_L RX5 76 yX7_rewind cX7_rewind 1 none 0 := ⟨wm_222, wm_219, wm_15, by decide, by decide, by decide +kernel⟩
theorem glv_X7_rewind : Cond.instanceMethod yX7_rewind ∈ wsL_law ∧ Cond.selects yX7_rewind.cls yX7_rewind yX7_rewind ∈ wsL_law := ⟨wm_220, wm_221⟩
theorem gl_X5_82 : g_L RX5 82 yX5_fail cX5_fail 2 (some .boolean) 1 := ⟨wm_290, wm_287, wm_19, by decide, by decide, by decide +kernel⟩
theorem glv_X5_fail : Cond.instanceMethod yX5_fail ∈ wsL_law ∧ Cond.selects yX5_fail.cls yX5_fail yX5_fail ∈ wsL_law := ⟨wm_288, wm_289⟩
theorem gl_X5_86 : g_L RX5 86 yX7_value cX7_value 3 (some .int) 0 := ⟨wm_298, wm_295, wm_15, by decide, by decide, by decide +kernel⟩
theorem glv_X7_value : Cond.instanceMethod yX7_value ∈ wsL_law ∧ Cond.selects yX7_value.cls yX7_value yX7_value ∈ wsL_law := ⟨wm_296, wm_297⟩
theorem gl_X5_93 : g_L RX5 93 yX5_readNumber cX5_readNumber 4 (some .int) 2 := ⟨wm_294, wm_291, wm_19, by decide, by decide, by decide +kernel⟩
theorem glv_X5_readNumber : Cond.instanceMethod yX5_readNumber ∈ wsL_law ∧ Cond.selects yX5_readNumber.cls yX5_readNumber yX5_readNumber ∈ wsL_law := ⟨wm_292, wm_293⟩
theorem gl_X5_100 : g_L RX5 100 yX3_cellAt cX3_cellAt 3 (some .int) 2 := ⟨wm_310, wm_335, wm_23, by decide, by decide, by decide +kernel⟩
theorem gl_X5_105 : g_L RX5 105 yX7_isWord cX7_isWord 3 (some .boolean) 1 := ⟨wm_237, wm_234, wm_15, by decide, by decide, by decide +kernel⟩
theorem glv_X7_isWord : Cond.instanceMethod yX7_isWord ∈ wsL_law ∧ Cond.selects yX7_isWord.cls yX7_isWord yX7_isWord ∈ wsL_law := ⟨wm_235, wm_236⟩
theorem gl_X5_109 : g_L RX5 109 yX3_layOut cX3_layOut 5 none 2 := ⟨wm_302, wm_299, wm_23, by decide, by decide, by decide +kernel⟩
theorem glv_X3_layOut : Cond.instanceMethod yX3_layOut ∈ wsL_law ∧ Cond.selects yX3_layOut.cls yX3_layOut yX3_layOut ∈ wsL_law := ⟨wm_300, wm_301⟩
theorem gl_X5_113 : g_L RX5 113 yX5_readStop cX5_readStop 1 (some .boolean) 0 := ⟨wm_322, wm_319, wm_19, by decide, by decide, by decide +kernel⟩
theorem glv_X5_readStop : Cond.instanceMethod yX5_readStop ∈ wsL_law ∧ Cond.selects yX5_readStop.cls yX5_readStop yX5_readStop ∈ wsL_law := ⟨wm_320, wm_321⟩
theorem gl_X5_121 : g_L RX5 121 yX5_readValue cX5_readValue 6 (some .boolean) 3 := ⟨wm_330, wm_327, wm_19, by decide, by decide, by decide +kernel⟩
theorem glv_X5_readValue : Cond.instanceMethod yX5_readValue ∈ wsL_law ∧ Cond.selects yX5_readValue.cls yX5_readValue yX5_readValue ∈ wsL_law := ⟨wm_328, wm_329⟩
theorem gl_X5_131 : g_L RX5 131 yX5_readThing cX5_readThing 3 (some .boolean) 0 := ⟨wm_340, wm_337, wm_19, by decide, by decide, by decide +kernel⟩
theorem glv_X5_readThing : Cond.instanceMethod yX5_readThing ∈ wsL_law ∧ Cond.selects yX5_readThing.cls yX5_readThing yX5_readThing ∈ wsL_law := ⟨wm_338, wm_339⟩
theorem gl_X5_136 : g_L RX5 136 yX5_readCow cX5_readCow 3 (some .boolean) 0 := ⟨wm_348, wm_345, wm_19, by decide, by decide, by decide +kernel⟩
theorem glv_X5_readCow : Cond.instanceMethod yX5_readCow ∈ wsL_law ∧ Cond.selects yX5_readCow.cls yX5_readCow yX5_readCow ∈ wsL_law := ⟨wm_346, wm_347⟩
theorem gl_X5_141 : g_L RX5 141 yX5_readLikes cX5_readLikes 5 (some .boolean) 0 := ⟨wm_352, wm_349, wm_19, by decide, by decide, by decide +kernel⟩
theorem glv_X5_readLikes : Cond.instanceMethod yX5_readLikes ∈ wsL_law ∧ Cond.selects yX5_readLikes.cls yX5_readLikes yX5_readLikes ∈ wsL_law := ⟨wm_350, wm_351⟩
theorem gl_X5_144 : g_L RX5 144 yX5_readCell cX5_readCell 3 (some .int) 0 := ⟨wm_334, wm_331, wm_19, by decide, by decide, by decide +kernel⟩
theorem glv_X5_readCell : Cond.instanceMethod yX5_readCell ∈ wsL_law ∧ Cond.selects yX5_readCell.cls yX5_readCell yX5_readCell ∈ wsL_law := ⟨wm_332, wm_333⟩
theorem gl_X5_147 : g_L RX5 147 yX3_has cX3_has 2 (some .boolean) 1 := ⟨wm_314, wm_336, wm_23, by decide, by decide, by decide +kernel⟩
theorem gl_X5_150 : g_L RX5 150 yX5_thingOfWord cX5_thingOfWord 1 (some .int) 0 := ⟨wm_344, wm_341, wm_19, by decide, by decide, by decide +kernel⟩
theorem glv_X5_thingOfWord : Cond.instanceMethod yX5_thingOfWord ∈ wsL_law ∧ Cond.selects yX5_thingOfWord.cls yX5_thingOfWord yX5_thingOfWord ∈ wsL_law := ⟨wm_342, wm_343⟩
theorem gl_X5_168 : g_L RX5 168 yX3_setLikes cX3_setLikes 5 none 4 := ⟨wm_89, wm_353, wm_23, by decide, by decide, by decide +kernel⟩
theorem gl_X6_42 : g_L RX6 42 yX3_has cX3_has 2 (some .boolean) 1 := ⟨wm_314, wm_872, wm_23, by decide, by decide, by decide +kernel⟩
theorem gl_X6_48 : g_L RX6 48 yX6_keepSeen cX6_keepSeen 4 none 1 := ⟨wm_876, wm_873, wm_44, by decide, by decide, by decide +kernel⟩
theorem glv_X6_keepSeen : Cond.instanceMethod yX6_keepSeen ∈ wsL_law ∧ Cond.selects yX6_keepSeen.cls yX6_keepSeen yX6_keepSeen ∈ wsL_law := ⟨wm_874, wm_875⟩
theorem gl_X6_55 : g_L RX6 55 yX6_spread cX6_spread 2 none 0 := ⟨wm_880, wm_877, wm_44, by decide, by decide, by decide +kernel⟩
theorem glv_X6_spread : Cond.instanceMethod yX6_spread ∈ wsL_law ∧ Cond.selects yX6_spread.cls yX6_spread yX6_spread ∈ wsL_law := ⟨wm_878, wm_879⟩
theorem gl_X6_61 : g_L RX6 61 yX6_reachFrom cX6_reachFrom 4 none 1 := ⟨wm_884, wm_881, wm_44, by decide, by decide, by decide +kernel⟩
theorem glv_X6_reachFrom : Cond.instanceMethod yX6_reachFrom ∈ wsL_law ∧ Cond.selects yX6_reachFrom.cls yX6_reachFrom yX6_reachFrom ∈ wsL_law := ⟨wm_882, wm_883⟩
theorem gl_X6_64 : g_L RX6 64 yX3_wayFrom cX3_wayFrom 3 (some .int) 2 := ⟨wm_580, wm_885, wm_23, by decide, by decide, by decide +kernel⟩
theorem gl_X6_71 : g_L RX6 71 yX3_tithesOf cX3_tithesOf 7 (some .int) 3 := ⟨wm_543, wm_894, wm_23, by decide, by decide, by decide +kernel⟩
theorem gl_X6_75 : g_L RX6 75 yX6_fits cX6_fits 3 (some .boolean) 2 := ⟨wm_893, wm_890, wm_44, by decide, by decide, by decide +kernel⟩
theorem glv_X6_fits : Cond.instanceMethod yX6_fits ∈ wsL_law ∧ Cond.selects yX6_fits.cls yX6_fits yX6_fits ∈ wsL_law := ⟨wm_891, wm_892⟩
theorem gl_X8_41 : g_L RX8 41 yX3_tithesOf cX3_tithesOf 7 (some .int) 3 := ⟨wm_543, wm_737, wm_23, by decide, by decide, by decide +kernel⟩
theorem gl_X8_53 : g_L RX8 53 yX1_lookAround cX1_lookAround 3 none 1 := ⟨wm_682, wm_742, wm_36, by decide, by decide, by decide +kernel⟩
theorem glv_X1_lookAround : Cond.instanceMethod yX1_lookAround ∈ wsL_law ∧ Cond.selects yX1_lookAround.cls yX1_lookAround yX1_lookAround ∈ wsL_law := ⟨wm_680, wm_681⟩
theorem gl_X8_60 : g_L RX8 60 yX1_run cX1_run 3 none 1 := ⟨wm_693, wm_743, wm_36, by decide, by decide, by decide +kernel⟩
theorem glv_X1_run : Cond.instanceMethod yX1_run ∈ wsL_law ∧ Cond.selects yX1_run.cls yX1_run yX1_run ∈ wsL_law := ⟨wm_691, wm_692⟩
theorem gl_X8_63 : g_L RX8 63 yX8_meanOf cX8_meanOf 5 (some .int) 1 := ⟨wm_747, wm_744, wm_40, by decide, by decide, by decide +kernel⟩
theorem glv_X8_meanOf : Cond.instanceMethod yX8_meanOf ∈ wsL_law ∧ Cond.selects yX8_meanOf.cls yX8_meanOf yX8_meanOf ∈ wsL_law := ⟨wm_745, wm_746⟩
theorem gl_X8_70 : g_L RX8 70 yX3_has cX3_has 2 (some .boolean) 1 := ⟨wm_314, wm_766, wm_23, by decide, by decide, by decide +kernel⟩
theorem gl_X8_81 : g_L RX8 81 yX1_tryGrass cX1_tryGrass 3 none 2 := ⟨wm_770, wm_767, wm_36, by decide, by decide, by decide +kernel⟩
theorem glv_X1_tryGrass : Cond.instanceMethod yX1_tryGrass ∈ wsL_law ∧ Cond.selects yX1_tryGrass.cls yX1_tryGrass yX1_tryGrass ∈ wsL_law := ⟨wm_768, wm_769⟩
theorem gl_X8_88 : g_L RX8 88 yX8_bestClover cX8_bestClover 8 (some .int) 3 := ⟨wm_764, wm_799, wm_40, by decide, by decide, by decide +kernel⟩
theorem glv_X8_bestClover : Cond.instanceMethod yX8_bestClover ∈ wsL_law ∧ Cond.selects yX8_bestClover.cls yX8_bestClover yX8_bestClover ∈ wsL_law := ⟨wm_762, wm_763⟩
theorem gl_X8_97 : g_L RX8 97 yX8_meanWithLick cX8_meanWithLick 3 (some .int) 2 := ⟨wm_741, wm_824, wm_40, by decide, by decide, by decide +kernel⟩
theorem glv_X8_meanWithLick : Cond.instanceMethod yX8_meanWithLick ∈ wsL_law ∧ Cond.selects yX8_meanWithLick.cls yX8_meanWithLick yX8_meanWithLick ∈ wsL_law := ⟨wm_739, wm_740⟩
theorem gl_X9_89 : g_L RX9 89 yX7_add cX7_add 2 none 1 := ⟨wm_186, wm_183, wm_15, by decide, by decide, by decide +kernel⟩
theorem glv_X7_add : Cond.instanceMethod yX7_add ∈ wsL_law ∧ Cond.selects yX7_add.cls yX7_add yX7_add ∈ wsL_law := ⟨wm_184, wm_185⟩
theorem gl_X9_93 : g_L RX9 93 yX5_read cX5_read 2 (some .int) 0 := ⟨wm_207, wm_204, wm_19, by decide, by decide, by decide +kernel⟩
theorem glv_X5_read : Cond.instanceMethod yX5_read ∈ wsL_law ∧ Cond.selects yX5_read.cls yX5_read yX5_read ∈ wsL_law := ⟨wm_205, wm_206⟩
theorem gl_X9_97 : g_L RX9 97 yX7_clear cX7_clear 1 none 0 := ⟨wm_357, wm_354, wm_15, by decide, by decide, by decide +kernel⟩
theorem glv_X7_clear : Cond.instanceMethod yX7_clear ∈ wsL_law ∧ Cond.selects yX7_clear.cls yX7_clear yX7_clear ∈ wsL_law := ⟨wm_355, wm_356⟩
theorem gl_X9_103 : g_L RX9 103 yX3_takeFrom cX3_takeFrom 3 none 1 := ⟨wm_361, wm_358, wm_23, by decide, by decide, by decide +kernel⟩
theorem glv_X3_takeFrom : Cond.instanceMethod yX3_takeFrom ∈ wsL_law ∧ Cond.selects yX3_takeFrom.cls yX3_takeFrom yX3_takeFrom ∈ wsL_law := ⟨wm_359, wm_360⟩
theorem gl_X9_106 : g_L RX9 106 yX4_settle cX4_settle 2 none 0 := ⟨wm_365, wm_362, wm_27, by decide, by decide, by decide +kernel⟩
theorem glv_X4_settle : Cond.instanceMethod yX4_settle ∈ wsL_law ∧ Cond.selects yX4_settle.cls yX4_settle yX4_settle ∈ wsL_law := ⟨wm_363, wm_364⟩
theorem gl_X9_135 : g_L RX9 135 yX3_placeOf cX3_placeOf 2 (some .int) 1 := ⟨wm_491, wm_488, wm_23, by decide, by decide, by decide +kernel⟩
theorem gl_X9_154 : g_L RX9 154 yX3_cellAt cX3_cellAt 3 (some .int) 2 := ⟨wm_310, wm_505, wm_23, by decide, by decide, by decide +kernel⟩
theorem gl_X9_158 : g_L RX9 158 yX3_has cX3_has 2 (some .boolean) 1 := ⟨wm_314, wm_506, wm_23, by decide, by decide, by decide +kernel⟩
theorem gl_X9_176 : g_L RX9 176 yX4_likingNow cX4_likingNow 2 (some .int) 1 := ⟨wm_510, wm_507, wm_27, by decide, by decide, by decide +kernel⟩
theorem gl_X9_179 : g_L RX9 179 yX9_isParish cX9_isParish 1 (some .boolean) 1 := ⟨wm_539, wm_537, wm_2, by decide, by decide, by decide +kernel⟩
theorem gl_X9_182 : g_L RX9 182 yX3_tithesOf cX3_tithesOf 7 (some .int) 3 := ⟨wm_543, wm_540, wm_23, by decide, by decide, by decide +kernel⟩
theorem gl_X9_190 : g_L RX9 190 yX4_passDay cX4_passDay 2 none 0 := ⟨wm_571, wm_568, wm_27, by decide, by decide, by decide +kernel⟩
theorem glv_X4_passDay : Cond.instanceMethod yX4_passDay ∈ wsL_law ∧ Cond.selects yX4_passDay.cls yX4_passDay yX4_passDay ∈ wsL_law := ⟨wm_569, wm_570⟩
theorem gl_X9_193 : g_L RX9 193 yX9_isClover cX9_isClover 1 (some .boolean) 1 := ⟨wm_641, wm_639, wm_2, by decide, by decide, by decide +kernel⟩
theorem gl_X9_196 : g_L RX9 196 yX9_sown cX9_sown 2 (some .int) 2 := ⟨wm_644, wm_642, wm_2, by decide, by decide, by decide +kernel⟩
theorem gl_X9_199 : g_L RX9 199 yX9_isHourOn cX9_isHourOn 1 (some .boolean) 1 := ⟨wm_678, wm_676, wm_2, by decide, by decide, by decide +kernel⟩
theorem gl_X9_202 : g_L RX9 202 yX1_lookAround cX1_lookAround 3 none 1 := ⟨wm_682, wm_679, wm_36, by decide, by decide, by decide +kernel⟩
theorem gl_X9_205 : g_L RX9 205 yX1_run cX1_run 3 none 1 := ⟨wm_693, wm_690, wm_36, by decide, by decide, by decide +kernel⟩
theorem gl_X9_212 : g_L RX9 212 yX8_reckonBorders cX8_reckonBorders 2 none 0 := ⟨wm_736, wm_733, wm_40, by decide, by decide, by decide +kernel⟩
theorem glv_X8_reckonBorders : Cond.instanceMethod yX8_reckonBorders ∈ wsL_law ∧ Cond.selects yX8_reckonBorders.cls yX8_reckonBorders yX8_reckonBorders ∈ wsL_law := ⟨wm_734, wm_735⟩
theorem gl_X9_215 : g_L RX9 215 yX8_meanWithLick cX8_meanWithLick 3 (some .int) 2 := ⟨wm_741, wm_738, wm_40, by decide, by decide, by decide +kernel⟩
theorem gl_X9_218 : g_L RX9 218 yX8_bestClover cX8_bestClover 8 (some .int) 3 := ⟨wm_764, wm_761, wm_40, by decide, by decide, by decide +kernel⟩
theorem gl_X9_224 : g_L RX9 224 yX8_roundsTillRest cX8_roundsTillRest 5 (some .int) 1 := ⟨wm_796, wm_793, wm_40, by decide, by decide, by decide +kernel⟩
theorem glv_X8_roundsTillRest : Cond.instanceMethod yX8_roundsTillRest ∈ wsL_law ∧ Cond.selects yX8_roundsTillRest.cls yX8_roundsTillRest yX8_roundsTillRest ∈ wsL_law := ⟨wm_794, wm_795⟩
theorem gl_X9_233 : g_L RX9 233 yX8_fairestCell cX8_fairestCell 5 (some .int) 0 := ⟨wm_819, wm_816, wm_40, by decide, by decide, by decide +kernel⟩
theorem glv_X8_fairestCell : Cond.instanceMethod yX8_fairestCell ∈ wsL_law ∧ Cond.selects yX8_fairestCell.cls yX8_fairestCell yX8_fairestCell ∈ wsL_law := ⟨wm_817, wm_818⟩
theorem gl_X9_239 : g_L RX9 239 yX1_bestWatched cX1_bestWatched 8 (some .int) 1 := ⟨wm_837, wm_834, wm_36, by decide, by decide, by decide +kernel⟩
theorem glv_X1_bestWatched : Cond.instanceMethod yX1_bestWatched ∈ wsL_law ∧ Cond.selects yX1_bestWatched.cls yX1_bestWatched yX1_bestWatched ∈ wsL_law := ⟨wm_835, wm_836⟩
theorem gl_X9_242 : g_L RX9 242 yX6_add cX6_add 3 none 2 := ⟨wm_855, wm_852, wm_44, by decide, by decide, by decide +kernel⟩
theorem glv_X6_add : Cond.instanceMethod yX6_add ∈ wsL_law ∧ Cond.selects yX6_add.cls yX6_add yX6_add ∈ wsL_law := ⟨wm_853, wm_854⟩
theorem gl_X9_245 : g_L RX9 245 yX9_isSum cX9_isSum 1 (some .boolean) 1 := ⟨wm_867, wm_865, wm_2, by decide, by decide, by decide +kernel⟩
theorem gl_X9_248 : g_L RX9 248 yX6_followToNoon cX6_followToNoon 2 none 0 := ⟨wm_871, wm_868, wm_44, by decide, by decide, by decide +kernel⟩
theorem glv_X6_followToNoon : Cond.instanceMethod yX6_followToNoon ∈ wsL_law ∧ Cond.selects yX6_followToNoon.cls yX6_followToNoon yX6_followToNoon ∈ wsL_law := ⟨wm_869, wm_870⟩
theorem gl_X9_251 : g_L RX9 251 yX6_countFitting cX6_countFitting 4 (some .int) 1 := ⟨wm_889, wm_886, wm_44, by decide, by decide, by decide +kernel⟩
theorem glv_X6_countFitting : Cond.instanceMethod yX6_countFitting ∈ wsL_law ∧ Cond.selects yX6_countFitting.cls yX6_countFitting yX6_countFitting ∈ wsL_law := ⟨wm_887, wm_888⟩
theorem gl_X9_254 : g_L RX9 254 yX6_fittingCell cX6_fittingCell 5 (some .int) 2 := ⟨wm_898, wm_895, wm_44, by decide, by decide, by decide +kernel⟩
theorem glv_X6_fittingCell : Cond.instanceMethod yX6_fittingCell ∈ wsL_law ∧ Cond.selects yX6_fittingCell.cls yX6_fittingCell yX6_fittingCell ∈ wsL_law := ⟨wm_896, wm_897⟩
theorem gl_X9_257 : g_L RX9 257 yX0_add cX0_add 3 none 2 := ⟨wm_919, wm_916, wm_48, by decide, by decide, by decide +kernel⟩
theorem glv_X0_add : Cond.instanceMethod yX0_add ∈ wsL_law ∧ Cond.selects yX0_add.cls yX0_add yX0_add ∈ wsL_law := ⟨wm_917, wm_918⟩
theorem gl_X9_258 : g_L RX9 258 yX0_firstWrong cX0_firstWrong 3 (some .int) 1 := ⟨wm_940, wm_937, wm_48, by decide, by decide, by decide +kernel⟩
theorem glv_X0_firstWrong : Cond.instanceMethod yX0_firstWrong ∈ wsL_law ∧ Cond.selects yX0_firstWrong.cls yX0_firstWrong yX0_firstWrong ∈ wsL_law := ⟨wm_938, wm_939⟩
theorem gl_X9_264 : g_L RX9 264 yX9_isImage cX9_isImage 1 (some .boolean) 1 := ⟨wm_960, wm_958, wm_2, by decide, by decide, by decide +kernel⟩
theorem gl_X9_270 : g_L RX9 270 yX4_takeFrom cX4_takeFrom 3 none 1 := ⟨wm_964, wm_961, wm_27, by decide, by decide, by decide +kernel⟩
theorem glv_X4_takeFrom : Cond.instanceMethod yX4_takeFrom ∈ wsL_law ∧ Cond.selects yX4_takeFrom.cls yX4_takeFrom yX4_takeFrom ∈ wsL_law := ⟨wm_962, wm_963⟩
section SW
variable {G : gG} {X : gX} {L : gL} {ad : Nat → Nat} {cc : ByteArray} {nL lev : Nat} {own : String} {ret : Option FieldType} {pc q : Nat} {ls : List (Nat × Value)} {st : List Value} {σ : gS} {o o1 o2 : gR}
theorem g_Kap (C : g_K G X L ad cc nL own ret lev) : g_ap L ad := by
  obtain ⟨l, D, kd, adK, adV⟩ := G
  obtain ⟨p, e, R, s, m, args, below, meth, c, A⟩ := X
  exact C.2.2.2.2.2.2.2.2.1
theorem z_case {x : Int32} (v : Int32) (k1 : x = v → g_Z G X L ad nL pc ls (.int x :: st) σ o1) (k2 : ¬ x = v → g_Z G X L ad nL pc ls (.int x :: st) σ o2) : g_Z G X L ad nL pc ls (.int x :: st) σ (if x = v then o1 else o2) := by
  by_cases h : x = v
  · rw [if_pos h]; exact k1 h
  · rw [if_neg h]; exact k2 h
theorem z_tsIn (C : g_K G X L ad cc nL own ret lev) {dflt lo hi : Int} {offs : Array Int} {len : Nat} {x : Int32} {off : Int} {tgt : Nat} (d : decode cc pc = .ok (.tableswitch dflt lo hi offs, len)) (v : Int32) (h : x = v) (h1 : ¬ v.toInt < lo) (h2 : ¬ hi < v.toInt) (ho : offs[(v.toInt - lo).toNat]? = some off) (ht : (pc : Int) + off = (tgt : Int)) (k : g_Z G X L ad nL tgt ls st σ o) : g_Z G X L ad nL pc ls (.int x :: st) σ o := by
  subst h
  obtain ⟨l, D, kd, adK, adV⟩ := G
  obtain ⟨p, e, R, s, m, args, below, meth, c, A⟩ := X
  intro r hr H locs lsA hl hP hS
  exact lv_tableIn C.1 C.2.1 d h1 h2 ho ht (k r hr H locs lsA hl hP hS)
theorem z_tsOut (C : g_K G X L ad cc nL own ret lev) {dflt lo hi : Int} {offs : Array Int} {len : Nat} {x : Int32} {tgt : Nat} (d : decode cc pc = .ok (.tableswitch dflt lo hi offs, len)) (h : x.toInt < lo ∨ hi < x.toInt) (ht : (pc : Int) + dflt = (tgt : Int)) (k : g_Z G X L ad nL tgt ls st σ o) : g_Z G X L ad nL pc ls (.int x :: st) σ o := by
  obtain ⟨l, D, kd, adK, adV⟩ := G
  obtain ⟨p, e, R, s, m, args, below, meth, c, A⟩ := X
  intro r hr H locs lsA hl hP hS
  exact lv_tableOut C.1 C.2.1 d h ht (k r hr H locs lsA hl hP hS)
def g_slen (i : Nat) : Int32 := Int32.ofNat (g_sL.getD i 0)
def g_schr (i : Nat) (j : Int32) : Int32 := (g_sB.getD i []).getD j.toNatClampNeg 0
theorem z_ldcS (C : g_K G X L ad cc nL RX5 ret lev) (i : Nat) (hi : i < g_sN) (d : decode cc pc = .ok (.ldc (g_sI.getD i 0), 2)) (hq : pc + 2 = q) (k : g_Z G X L ad nL q ls (.ref (g_sk G i) :: st) σ o) : g_Z G X L ad nL pc ls st σ o := by
  subst hq
  obtain ⟨l, D, kd, adK, adV⟩ := G
  obtain ⟨p, e, R, s, m, args, below, meth, c, A⟩ := X
  obtain ⟨hx, hb, hml, hr0, hown, hts, hlk, hK, hap, hA, hRc, hRs, hRf, hRl, hStr⟩ := C
  intro r hr H locs lsA hl hP hS
  exact va_ldcS hx hb hown (hStr.2.1 i hi) d (k r hr H locs lsA hl hP hS)
variable {ty : FieldType}
theorem z_nret (C : g_K G X L ad cc nL own (some ty) lev) {x : Int32} (hx1 : narrow ty (.int x) = .int x) (d : decode cc pc = .ok (.ireturn, 1)) : g_Z G X L ad nL pc ls [.int x] σ (some (some (.int x), σ)) := by
  obtain ⟨l, D, kd, adK, adV⟩ := G
  obtain ⟨p, e, R, s, m, args, below, meth, c, A⟩ := X
  obtain ⟨hx, hb, hml, hr0, hown, hts, hlk, hK, hap, hA, hRc, hRs, hRf, hRl, hStr⟩ := C
  intro r hr H locs lsA hl hP hS
  cases hr
  exact W.zret hx hb hr0 hx1 (fun t ht hW => ⟨⟨rfl, by rw [g_B, ht]; exact ⟨hP, va_K.moved hW.alike hK⟩⟩, hS.F ht⟩) hS.2.2 d hlk
def g_sv (G : gG) (i : Nat) : Nat := G.2.2.2.2 i
theorem z_kgetf (C : g_K G X L ad cc nL own ret lev) {i idx : Nat} (hi : i < g_sN) (hw : Cond.fieldLink own idx "java/lang/String" "coder" "B" ∈ wsL_law) (d : decode cc pc = .ok (.getfield idx, 3)) (hq : pc + 3 = q) (k : g_Z G X L ad nL q ls (.int 0 :: st) σ o) : g_Z G X L ad nL pc ls (.ref (g_sk G i) :: st) σ o := by
  subst hq
  obtain ⟨l, D, kd, adK, adV⟩ := G
  obtain ⟨p, e, R, s, m, args, below, meth, c, A⟩ := X
  obtain ⟨hx, hb, hml, hr0, hown, hts, hlk, hK, hap, hA, hRc, hRs, hRf, hRl, hStr⟩ := C
  intro r hr H locs lsA hl hP hS
  exact vk_getf hx hb (hStr.1.1.1 i hi).2.1 hS hown (hts _ hw) (fun _ h => h) d (k r hr H locs lsA hl hP hS)
theorem z_kgetv (C : g_K G X L ad cc nL own ret lev) {i idx : Nat} (hi : i < g_sN) (hw : Cond.fieldLink own idx "java/lang/String" "value" "[B" ∈ wsL_law) (d : decode cc pc = .ok (.getfield idx, 3)) (hq : pc + 3 = q) (k : g_Z G X L ad nL q ls (.ref (g_sv G i) :: st) σ o) : g_Z G X L ad nL pc ls (.ref (g_sk G i) :: st) σ o := by
  subst hq
  obtain ⟨l, D, kd, adK, adV⟩ := G
  obtain ⟨p, e, R, s, m, args, below, meth, c, A⟩ := X
  obtain ⟨hx, hb, hml, hr0, hown, hts, hlk, hK, hap, hA, hRc, hRs, hRf, hRl, hStr⟩ := C
  intro r hr H locs lsA hl hP hS
  exact vk_getf hx hb (hStr.1.1.1 i hi).2.2.1 hS hown (hts _ hw) (fun _ h => h) d (k r hr H locs lsA hl hP hS)
theorem z_kcomp (C : g_K G X L ad cc nL own ret lev) {idx : Nat} (hw : Cond.fieldLink own idx "java/lang/String" "COMPACT_STRINGS" "Z" ∈ wsL_law) (d : decode cc pc = .ok (.getstatic idx, 3)) (hq : pc + 3 = q) (k : g_Z G X L ad nL q ls (.int 1 :: st) σ o) : g_Z G X L ad nL pc ls st σ o := by
  subst hq
  obtain ⟨l, D, kd, adK, adV⟩ := G
  obtain ⟨p, e, R, s, m, args, below, meth, c, A⟩ := X
  obtain ⟨hx, hb, hml, hr0, hown, hts, hlk, hK, hap, hA, hRc, hRs, hRf, hRl, hStr⟩ := C
  intro r hr H locs lsA hl hP hS
  exact va_gets hx hb hStr.1.2.1 hS hown (hts _ hw) (fun _ h => h) d (k r hr H locs lsA hl hP hS)
theorem z_kfmt (C : g_K G X L ad cc nL own ret lev) {idx : Nat} (hw : Cond.fieldLink own idx "jdk/internal/util/Preconditions" "SIOOBE_FORMATTER" "Ljava/util/function/BiFunction;" ∈ wsL_law) (d : decode cc pc = .ok (.getstatic idx, 3)) (hq : pc + 3 = q) (k : ∀ v : Value, v = .null ∨ (∃ t : Nat, v = .ref t) → g_Z G X L ad nL q ls (v :: st) σ o) : g_Z G X L ad nL pc ls st σ o := by
  subst hq
  obtain ⟨l, D, kd, adK, adV⟩ := G
  obtain ⟨p, e, R, s, m, args, below, meth, c, A⟩ := X
  obtain ⟨hx, hb, hml, hr0, hown, hts, hlk, hK, hap, hA, hRc, hRs, hRf, hRl, hStr⟩ := C
  intro r hr H locs lsA hl hP hS
  rcases hStr.1.2.2 with h | ⟨t, h⟩
  · exact va_gets hx hb h hS hown (hts _ hw) (fun _ h => h) d (k .null (Or.inl rfl) r hr H locs lsA hl hP hS)
  · exact va_gets hx hb h hS hown (hts _ hw) (fun _ h => h) d (k (.ref t) (Or.inr ⟨t, rfl⟩) r hr H locs lsA hl hP hS)
theorem z_ktlen (C : g_K G X L ad cc nL own ret lev) {i : Nat} (hi : i < g_sN) (d : decode cc pc = .ok (.arraylength, 1)) (hq : pc + 1 = q) (k : g_Z G X L ad nL q ls (.int (g_slen i) :: st) σ o) : g_Z G X L ad nL pc ls (.ref (g_sv G i) :: st) σ o := by
  subst hq
  obtain ⟨l, D, kd, adK, adV⟩ := G
  obtain ⟨p, e, R, s, m, args, below, meth, c, A⟩ := X
  obtain ⟨hx, hb, hml, hr0, hown, hts, hlk, hK, hap, hA, hRc, hRs, hRf, hRl, hStr⟩ := C
  intro r hr H locs lsA hl hP hS
  exact va_tlen hx hb (hStr.1.1.1 i hi).2.2.2 hS rfl d (k r hr H locs lsA hl hP hS)
theorem z_ktb (C : g_K G X L ad cc nL own ret lev) {i : Nat} {j : Int32} (hi : i < g_sN) (d : decode cc pc = .ok (.baload, 1)) (hq : pc + 1 = q) (k : g_Z G X L ad nL q ls (.int (g_schr i j) :: st) σ o) : g_Z G X L ad nL pc ls (.int j :: .ref (g_sv G i) :: st) σ (g_ix j (g_sL.getD i 0) o) := by
  subst hq
  obtain ⟨l, D, kd, adK, adV⟩ := G
  obtain ⟨p, e, R, s, m, args, below, meth, c, A⟩ := X
  obtain ⟨hx, hb, hml, hr0, hown, hts, hlk, hK, hap, hA, hRc, hRs, hRf, hRl, hStr⟩ := C
  intro r hr H locs lsA hl hP hS
  obtain ⟨h1, h2⟩ := g_ix_in hr
  exact va_tb hx hb (hStr.1.1.1 i hi).2.2.2 hS h1 rfl d (k r h2 H locs lsA hl hP hS)
theorem z_i2c (C : g_K G X L ad cc nL own ret lev) {x v : Int32} (hv : (x.toUInt32 % 65536).toInt32 = v) (d : decode cc pc = .ok (.i2c, 1)) (hq : pc + 1 = q) (k : g_Z G X L ad nL q ls (.int v :: st) σ o) : g_Z G X L ad nL pc ls (.int x :: st) σ o := by
  subst hq
  obtain ⟨l, D, kd, adK, adV⟩ := G
  obtain ⟨p, e, R, s, m, args, below, meth, c, A⟩ := X
  intro r hr H locs lsA hl hP hS
  exact lv_i2c C.1 C.2.1 d hv (k r hr H locs lsA hl hP hS)
theorem z_callK1 (C : g_K G X L ad cc nL own ret lev) {y : MethodName} {cy : ByteArray} {nLy levy n idx i : Nat} {rety : Option FieldType} {st0 : List Value} {v1 : Option Value} {σ1 : gS} (As : List Value)
    (hi : i < g_sN) (hcls : y.cls = "java/lang/String") (hL : g_L own idx y cy nLy rety n) (hLV : Cond.instanceMethod y ∈ wsL_law ∧ Cond.selects y.cls y y ∈ wsL_law) (hM : g_M G L ad y cy nLy rety levy (.ref (g_sk G i) :: As) σ (some (v1, σ1))) (hn : As.length = n) (hst : st0 = As.reverse ++ .ref (g_sk G i) :: st) (hcat : (st.map fun v => v.category).sum ≤ 8) (hlev : levy + 1 ≤ lev ∧ 8 + (nLy + 11) + 40 * levy ≤ 40 * lev)
    (d : decode cc pc = .ok (.invokevirtual idx, 3)) (hq : pc + 3 = q) (k : g_Z G X L ad nL q ls (v1.toList ++ st) σ1 o) : g_Z G X L ad nL pc ls st0 σ o := by
  subst hq
  subst hst
  obtain ⟨l, D, kd, adK, adV⟩ := G
  obtain ⟨p, e, R, s, m, args, below, meth, c, A⟩ := X
  obtain ⟨hx, hb, hml, hr0, hown, hts, hlk, hK, hap, hA, hRc, hRs, hRf, hRl, hStr⟩ := C
  intro r hr H locs lsA hl hP hS
  have hmono : ∀ q, g_A L ad H.size q → A q := by rw [hA]; exact g_A_mono hS.1
  refine g_after (va_runV (As := As) (rest := st) ⟨hx, hb, hml, hown, hts⟩ (hM (v1, σ1) rfl H.size) ⟨g_callB hL hts (by omega) (by omega), hts _ hLV.1, hts _ hLV.2⟩ ⟨g_blind, by rw [hcls]; exact vk_recv hStr.1.1 hi hS, fun U hU hW => ⟨rfl, by rw [hU], by rw [hU]; exact hP, va_K.moved hW.alike hK, g_Str_at hStr hS hmono hU hW⟩⟩ rfl hn hl.1 rfl (lv_room hcat) d ⟨by omega, by omega⟩) hS hmono (fun H1 locs1 hP1 hS1 => ?_)
  exact k r hr H1 locs1 lsA hl hP1 hS1
theorem z_callS1 (C : g_K G X L ad cc nL own ret lev) {y : MethodName} {cy : ByteArray} {nLy levy n idx : Nat} {rety : Option FieldType} {st0 : List Value} {v1 : Option Value} {σ1 : gS} (As : List Value)
    (hL : g_L own idx y cy nLy rety n) (hLS : Cond.static y ∈ wsL_law) (hM : g_M G L ad y cy nLy rety levy As σ (some (v1, σ1))) (hn : As.length = n) (hst : st0 = As.reverse ++ st) (hcat : (st.map fun v => v.category).sum ≤ 8) (hlev : levy + 1 ≤ lev ∧ 8 + (nLy + 11) + 40 * levy ≤ 40 * lev)
    (d : decode cc pc = .ok (.invokestatic idx, 3)) (hq : pc + 3 = q) (k : g_Z G X L ad nL q ls (v1.toList ++ st) σ1 o) : g_Z G X L ad nL pc ls st0 σ o := by
  subst hq
  subst hst
  obtain ⟨l, D, kd, adK, adV⟩ := G
  obtain ⟨p, e, R, s, m, args, below, meth, c, A⟩ := X
  obtain ⟨hx, hb, hml, hr0, hown, hts, hlk, hK, hap, hA, hRc, hRs, hRf, hRl, hStr⟩ := C
  intro r hr H locs lsA hl hP hS
  have hmono : ∀ q, g_A L ad H.size q → A q := by rw [hA]; exact g_A_mono hS.1
  refine g_after (va_runS (As := As) (rest := st) ⟨hx, hb, hml, hown, hts⟩ (hM (v1, σ1) rfl H.size) ⟨g_callB hL hts (by omega) (by omega), hts _ hLS⟩ ⟨g_blind, fun U hU hW => ⟨rfl, by rw [hU], by rw [hU]; exact hP, va_K.moved hW.alike hK, g_Str_at hStr hS hmono hU hW⟩⟩ rfl hn hl.1 rfl (lv_room hcat) d ⟨by omega, by omega⟩) hS hmono (fun H1 locs1 hP1 hS1 => ?_)
  exact k r hr H1 locs1 lsA hl hP1 hS1
theorem glk_coder : g_L RJ0 335 yJ0_coder_7d493 cJ0_coder_7d493 1 (some .byte) 0 := ⟨wm_247, wm_244, wm_241, by decide, by decide, by decide +kernel⟩
theorem glk_isLatin1 : g_L RJ0 492 yJ0_isLatin1_aae02 cJ0_isLatin1_aae02 1 (some .boolean) 0 := ⟨wm_257, wm_254, wm_241, by decide, by decide, by decide +kernel⟩
theorem glk_check3 : g_L RJ0 1059 yJ3_checkIndex_8e157 cJ3_checkIndex_8e157 3 (some .int) 3 := ⟨wm_269, wm_266, wm_268, by decide, by decide, by decide +kernel⟩
theorem glk_check0 : g_L RJ1 9 yJ0_checkIndex_df160 cJ0_checkIndex_df160 2 none 2 := ⟨wm_264, wm_262, wm_241, by decide, by decide, by decide +kernel⟩
theorem glk_charAt1 : g_L RJ0 495 yJ1_charAt_3b067 cJ1_charAt_3b067 2 (some .char) 2 := ⟨wm_261, wm_258, wm_260, by decide, by decide, by decide +kernel⟩
theorem glvk_coder : Cond.instanceMethod yJ0_coder_7d493 ∈ wsL_law ∧ Cond.selects yJ0_coder_7d493.cls yJ0_coder_7d493 yJ0_coder_7d493 ∈ wsL_law := ⟨wm_245, wm_246⟩
theorem glvk_isLatin1 : Cond.instanceMethod yJ0_isLatin1_aae02 ∈ wsL_law ∧ Cond.selects yJ0_isLatin1_aae02.cls yJ0_isLatin1_aae02 yJ0_isLatin1_aae02 ∈ wsL_law := ⟨wm_255, wm_256⟩
theorem glvk_length : Cond.instanceMethod yJ0_length_8abf5 ∈ wsL_law ∧ Cond.selects yJ0_length_8abf5.cls yJ0_length_8abf5 yJ0_length_8abf5 ∈ wsL_law := ⟨wm_239, wm_240⟩
theorem glvk_charAt : Cond.instanceMethod yJ0_charAt_5068e ∈ wsL_law ∧ Cond.selects yJ0_charAt_5068e.cls yJ0_charAt_5068e yJ0_charAt_5068e ∈ wsL_law := ⟨wm_251, wm_252⟩
theorem glsk_check3 : Cond.static yJ3_checkIndex_8e157 ∈ wsL_law := wm_267
theorem glsk_check0 : Cond.static yJ0_checkIndex_df160 ∈ wsL_law := wm_263
theorem glsk_charAt1 : Cond.static yJ1_charAt_3b067 ∈ wsL_law := wm_259
set_option maxRecDepth 100000 in
theorem mk_coder (hap : g_ap L ad) {i : Nat} (hi : i < g_sN) (σ : gS) : g_M G L ad yJ0_coder_7d493 cJ0_coder_7d493 1 (some .byte) 0 [.ref (g_sk G i)] σ (some (some (.int 0), σ)) := by
  refine g_entry (by decide) hap (Nat.le_of_ble_eq_true rfl) [(0, .ref (g_sk G i))] rfl (fun X C => ?_)
  refine z_kcomp C (idx := 38) (q := 3) wm_248 dJ0_coder_7d493_0 rfl ?_
  rw [show (some (some (Value.int 0), σ) : gR) = (if (1 : Int32) = 0 then none else some (some (.int 0), σ)) from rfl]
  refine z_if_eq C (tgt := 13) (q := 6) dJ0_coder_7d493_3 rfl rfl z_none ?_
  refine z_aload_n C (q := 7) 0 dJ0_coder_7d493_6 rfl rfl ?_
  refine z_kgetf C (q := 10) hi wm_249 dJ0_coder_7d493_7 rfl ?_
  refine z_goto C (tgt := 14) dJ0_coder_7d493_10 rfl ?_
  exact z_nret C rfl dJ0_coder_7d493_14
set_option maxRecDepth 100000 in
theorem mk_isLatin1 (hap : g_ap L ad) {i : Nat} (hi : i < g_sN) (σ : gS) : g_M G L ad yJ0_isLatin1_aae02 cJ0_isLatin1_aae02 1 (some .boolean) 0 [.ref (g_sk G i)] σ (some (some (.int 1), σ)) := by
  refine g_entry (by decide) hap (Nat.le_of_ble_eq_true rfl) [(0, .ref (g_sk G i))] rfl (fun X C => ?_)
  refine z_kcomp C (idx := 38) (q := 3) wm_248 dJ0_isLatin1_aae02_0 rfl ?_
  rw [show (some (some (Value.int 1), σ) : gR) = (if (1 : Int32) = 0 then none else (if (0 : Int32) = 0 then some (some (.int 1), σ) else none)) from rfl]
  refine z_if_eq C (tgt := 17) (q := 6) dJ0_isLatin1_aae02_3 rfl rfl z_none ?_
  refine z_aload_n C (q := 7) 0 dJ0_isLatin1_aae02_6 rfl rfl ?_
  refine z_kgetf C (q := 10) hi wm_249 dJ0_isLatin1_aae02_7 rfl ?_
  refine z_if_ne C (tgt := 17) (q := 13) dJ0_isLatin1_aae02_10 rfl rfl z_none ?_
  refine z_iconst C (q := 14) (v := 1) dJ0_isLatin1_aae02_13 rfl (by decide) ?_
  refine z_goto C (tgt := 18) dJ0_isLatin1_aae02_14 rfl ?_
  exact z_nret C rfl dJ0_isLatin1_aae02_18
theorem g_slen_shr {i : Nat} : g_slen i >>> ((0 : Int32) &&& 31) = g_slen i := by
  rw [show (0 : Int32) &&& 31 = 0 by decide]
  exact Int32.shiftRight_zero
set_option maxRecDepth 100000 in
theorem mk_length (hap : g_ap L ad) {i : Nat} (hi : i < g_sN) (σ : gS) : g_M G L ad yJ0_length_8abf5 cJ0_length_8abf5 1 (some .int) 1 [.ref (g_sk G i)] σ (some (some (.int (g_slen i)), σ)) := by
  refine g_entry (by decide) hap (Nat.le_of_ble_eq_true rfl) [(0, .ref (g_sk G i))] rfl (fun X C => ?_)
  refine z_aload_n C (q := 1) 0 dJ0_length_8abf5_0 rfl rfl ?_
  refine z_kgetv C (q := 4) hi wm_243 dJ0_length_8abf5_1 rfl ?_
  refine z_ktlen C (q := 5) hi dJ0_length_8abf5_4 rfl ?_
  refine z_aload_n C (q := 6) 0 dJ0_length_8abf5_5 rfl rfl ?_
  refine z_callK1 C (q := 9) (i := i) (levy := 0) (st := [.int (g_slen i)]) [] hi rfl glk_coder glvk_coder (mk_coder hap hi σ) rfl rfl (Nat.le_of_ble_eq_true rfl) ⟨by omega, by omega⟩ dJ0_length_8abf5_6 rfl ?_
  refine z_ishr C (q := 10) dJ0_length_8abf5_9 rfl ?_
  rw [g_slen_shr]
  exact z_iret C dJ0_length_8abf5_10
set_option maxRecDepth 100000 in
theorem mk_check3 (hap : g_ap L ad) {x y : Int32} {v : Value} (hv : v = .null ∨ (∃ t : Nat, v = .ref t)) (h1 : ¬ x < 0) (h2 : x < y) (σ : gS) : g_M G L ad yJ3_checkIndex_8e157 cJ3_checkIndex_8e157 3 (some .int) 0 [.int x, .int y, v] σ (some (some (.int x), σ)) := by
  refine g_entry (by decide) hap (by rcases hv with rfl | ⟨t, rfl⟩ <;> exact Nat.le_of_ble_eq_true rfl) [(0, .int x), (1, .int y), (2, v)] (by rcases hv with rfl | ⟨t, rfl⟩ <;> rfl) (fun X C => ?_)
  rw [show (some (some (Value.int x), σ) : gR) = (if x < 0 then none else if x < y then some (some (.int x), σ) else none) by rw [if_neg h1, if_pos h2]]
  refine z_iload_n C (q := 1) 0 dJ3_checkIndex_8e157_0 rfl rfl ?_
  refine z_if_lt C (tgt := 9) (q := 4) dJ3_checkIndex_8e157_1 rfl rfl z_none ?_
  refine z_iload_n C (q := 5) 0 dJ3_checkIndex_8e157_4 rfl rfl ?_
  refine z_iload_n C (q := 6) 1 dJ3_checkIndex_8e157_5 rfl rfl ?_
  refine z_icmp_lt C (tgt := 16) (q := 9) dJ3_checkIndex_8e157_6 rfl rfl ?_ z_none
  refine z_iload_n C (q := 17) 0 dJ3_checkIndex_8e157_16 rfl rfl ?_
  exact z_iret C dJ3_checkIndex_8e157_17
set_option maxRecDepth 100000 in
theorem mk_check0 (hap : g_ap L ad) {x y : Int32} (h1 : ¬ x < 0) (h2 : x < y) (σ : gS) : g_M G L ad yJ0_checkIndex_df160 cJ0_checkIndex_df160 2 none 1 [.int x, .int y] σ (some (none, σ)) := by
  refine g_entry (by decide) hap (Nat.le_of_ble_eq_true rfl) [(0, .int x), (1, .int y)] rfl (fun X C => ?_)
  refine z_iload_n C (q := 1) 0 dJ0_checkIndex_df160_0 rfl rfl ?_
  refine z_iload_n C (q := 2) 1 dJ0_checkIndex_df160_1 rfl rfl ?_
  refine z_kfmt C (idx := 1053) (q := 5) wm_265 dJ0_checkIndex_df160_2 rfl (fun v hv => ?_)
  refine z_callS1 C (q := 8) (levy := 0) (st := []) [.int x, .int y, v] glk_check3 glsk_check3 (mk_check3 hap hv h1 h2 σ) rfl rfl (Nat.le_of_ble_eq_true rfl) ⟨by omega, by omega⟩ dJ0_checkIndex_df160_5 rfl ?_
  refine z_pop C (q := 9) dJ0_checkIndex_df160_8 rfl rfl ?_
  exact z_vret C dJ0_checkIndex_df160_9
theorem vp_in_lt {j : Int32} {n : Nat} (hn : n < 2 ^ 31) (h : vp_in j n) : ¬ j < 0 ∧ j < Int32.ofNat n := by
  have h1 : ¬ j < 0 := fun z => h (Or.inl z)
  obtain ⟨k, hk, rfl⟩ := nI_of h1
  refine ⟨h1, (nI_ltI hk hn).mpr ?_⟩
  have : ¬ n ≤ (nI k).toNatClampNeg := fun z => h (Or.inr z)
  rw [nI_clamp hk] at this
  omega
theorem g_chr_ok : ∀ i, i < g_sN → ∀ b ∈ g_sB.getD i [], (((b &&& 255).toUInt32 % 65536).toInt32 = b ∧ narrow .char (.int b) = .int b) := by decide +kernel
theorem g_chr0 : ((((0 : Int32) &&& 255).toUInt32 % 65536).toInt32 = 0 ∧ narrow .char (.int 0) = .int 0) := by decide +kernel
theorem g_chr_c {i : Nat} (hi : i < g_sN) (j : Int32) : ((g_schr i j &&& 255).toUInt32 % 65536).toInt32 = g_schr i j ∧ narrow .char (.int (g_schr i j)) = .int (g_schr i j) := by
  unfold g_schr
  rw [List.getD_eq_getElem?_getD]
  cases h : (g_sB.getD i [])[j.toNatClampNeg]? with
  | none => exact g_chr0
  | some b => exact g_chr_ok i hi b (List.mem_of_getElem? h)
theorem g_sL_lt : ∀ i, i < g_sN → g_sL.getD i 0 < 2 ^ 31 := by decide +kernel
set_option maxRecDepth 100000 in
theorem mk_charAt1 (hap : g_ap L ad) {i : Nat} (hi : i < g_sN) {j : Int32} (hj : vp_in j (g_sL.getD i 0)) (σ : gS) : g_M G L ad yJ1_charAt_3b067 cJ1_charAt_3b067 2 (some .char) 2 [.ref (g_sv G i), .int j] σ (some (some (.int (g_schr i j)), σ)) := by
  obtain ⟨h1, h2⟩ := vp_in_lt (g_sL_lt i hi) hj
  refine g_entry (by decide) hap (Nat.le_of_ble_eq_true rfl) [(0, .ref (g_sv G i)), (1, .int j)] rfl (fun X C => ?_)
  refine z_iload_n C (q := 1) 1 dJ1_charAt_3b067_0 rfl rfl ?_
  refine z_aload_n C (q := 2) 0 dJ1_charAt_3b067_1 rfl rfl ?_
  refine z_ktlen C (q := 3) hi dJ1_charAt_3b067_2 rfl ?_
  refine z_callS1 C (q := 6) (levy := 1) (st := []) [.int j, .int (g_slen i)] glk_check0 glsk_check0 (mk_check0 hap h1 h2 σ) rfl rfl (Nat.le_of_ble_eq_true rfl) ⟨by omega, by omega⟩ dJ1_charAt_3b067_3 rfl ?_
  refine z_aload_n C (q := 7) 0 dJ1_charAt_3b067_6 rfl rfl ?_
  refine z_iload_n C (q := 8) 1 dJ1_charAt_3b067_7 rfl rfl ?_
  rw [show (some (some (Value.int (g_schr i j)), σ) : gR) = g_ix j (g_sL.getD i 0) (some (some (.int (g_schr i j)), σ)) from (if_neg hj).symm]
  refine z_ktb C (q := 9) hi dJ1_charAt_3b067_8 rfl ?_
  refine z_sipush C (q := 12) (v := 255) dJ1_charAt_3b067_9 rfl (by decide) ?_
  refine z_iand C (q := 13) dJ1_charAt_3b067_12 rfl ?_
  refine z_i2c C (q := 14) (g_chr_c hi j).1 dJ1_charAt_3b067_13 rfl ?_
  exact z_nret C (g_chr_c hi j).2 dJ1_charAt_3b067_14
set_option maxRecDepth 100000 in
theorem mk_charAt (hap : g_ap L ad) {i : Nat} (hi : i < g_sN) {j : Int32} (hj : vp_in j (g_sL.getD i 0)) (σ : gS) : g_M G L ad yJ0_charAt_5068e cJ0_charAt_5068e 2 (some .char) 3 [.ref (g_sk G i), .int j] σ (some (some (.int (g_schr i j)), σ)) := by
  refine g_entry (by decide) hap (Nat.le_of_ble_eq_true rfl) [(0, .ref (g_sk G i)), (1, .int j)] rfl (fun X C => ?_)
  refine z_aload_n C (q := 1) 0 dJ0_charAt_5068e_0 rfl rfl ?_
  refine z_callK1 C (q := 4) (i := i) (levy := 0) (st := []) [] hi rfl glk_isLatin1 glvk_isLatin1 (mk_isLatin1 hap hi σ) rfl rfl (Nat.le_of_ble_eq_true rfl) ⟨by omega, by omega⟩ dJ0_charAt_5068e_1 rfl ?_
  rw [show (some (some (Value.int (g_schr i j)), σ) : gR) = (if (1 : Int32) = 0 then none else some (some (.int (g_schr i j)), σ)) from rfl]
  refine z_if_eq C (tgt := 16) (q := 7) dJ0_charAt_5068e_4 rfl rfl z_none ?_
  refine z_aload_n C (q := 8) 0 dJ0_charAt_5068e_7 rfl rfl ?_
  refine z_kgetv C (q := 11) hi wm_243 dJ0_charAt_5068e_8 rfl ?_
  refine z_iload_n C (q := 12) 1 dJ0_charAt_5068e_11 rfl rfl ?_
  refine z_callS1 C (q := 15) (levy := 2) (st := []) [.ref (g_sv G i), .int j] glk_charAt1 glsk_charAt1 (mk_charAt1 hap hi hj σ) rfl rfl (Nat.le_of_ble_eq_true rfl) ⟨by omega, by omega⟩ dJ0_charAt_5068e_12 rfl ?_
  exact z_nret C (g_chr_c hi j).2 dJ0_charAt_5068e_15
theorem z_slen (C : g_K G X L ad cc nL RX7 ret lev) {i idx : Nat} (hi : i < g_sN) (hlev : 3 ≤ lev) (hcat : (st.map fun v => v.category).sum ≤ 8) (hw : Cond.methodLink RX7 idx yJ0_length_8abf5 ∈ wsL_law) (d : decode cc pc = .ok (.invokevirtual idx, 3)) (hq : pc + 3 = q) (k : g_Z G X L ad nL q ls (.int (g_slen i) :: st) σ o) : g_Z G X L ad nL pc ls (.ref (g_sk G i) :: st) σ o :=
  z_callK1 C (levy := 1) (n := 0) [] hi rfl ⟨wm_242, hw, wm_241, by decide, by decide, by decide +kernel⟩ glvk_length (mk_length (g_Kap C) hi σ) rfl rfl hcat ⟨by omega, by omega⟩ d hq k
theorem z_schr (C : g_K G X L ad cc nL RX7 ret lev) {i idx : Nat} {j : Int32} (hi : i < g_sN) (hlev : 4 ≤ lev) (hcat : (st.map fun v => v.category).sum ≤ 8) (hw : Cond.methodLink RX7 idx yJ0_charAt_5068e ∈ wsL_law) (d : decode cc pc = .ok (.invokevirtual idx, 3)) (hq : pc + 3 = q) (k : g_Z G X L ad nL q ls (.int (g_schr i j) :: st) σ o) : g_Z G X L ad nL pc ls (.int j :: .ref (g_sk G i) :: st) σ (g_ix j (g_sL.getD i 0) o) := by
  by_cases hj : j < 0 ∨ g_sL.getD i 0 ≤ j.toNatClampNeg
  · rw [show g_ix j (g_sL.getD i 0) o = none from if_pos hj]; exact z_none
  · rw [show g_ix j (g_sL.getD i 0) o = o from if_neg hj]
    exact z_callK1 C (levy := 3) (n := 1) [.int j] hi rfl ⟨wm_253, hw, wm_241, by decide, by decide, by decide +kernel⟩ glvk_charAt (mk_charAt (g_Kap C) hi hj σ) rfl rfl hcat ⟨by omega, by omega⟩ d hq k
end SW

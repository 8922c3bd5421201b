set_option maxRecDepth 100000 in
set_option maxHeartbeats 4000000 in
theorem m_X0_add (G : gG) {ad : Nat → Nat} (hap : g_ap LC ad)   (v1 : Int32) (v2 : Int32) (s : gS) : g_M G LC ad yX0_add cX0_add 3 none 0 [.ref (ad 46), .int v1, .int v2] s (f_X0_add v1 v2 s) := by
  refine g_entry (by decide) hap (Nat.le_of_ble_eq_true rfl) [(0, .ref (ad 46)), (1, .int v1), (2, .int v2)] rfl (fun X C => ?_)
  unfold f_X0_add
  refine z_aload_n C (q := 1) 0 dX0_add_0 rfl rfl ?_
  refine z_getI C (q := 4) ob_46 fF_X0_22 rfl dX0_add_1 rfl ?_
  refine z_if_lt C (tgt := 16) (q := 7) dX0_add_4 (by decide) rfl ?_ ?_
  · exact z_vret C dX0_add_16
  refine z_aload_n C (q := 8) 0 dX0_add_7 rfl rfl ?_
  refine z_getI C (q := 11) ob_46 fF_X0_22 rfl dX0_add_8 rfl ?_
  refine z_bipush C (q := 13) dX0_add_11 rfl lt_bipush_30 ?_
  refine z_icmp_lt C (tgt := 17) (q := 16) dX0_add_13 (by decide) rfl ?_ ?_
  · refine z_aload_n C (q := 18) 0 dX0_add_17 rfl rfl ?_
    refine z_getR C (q := 21) ob_46 fF_X0_9 rfl dX0_add_18 rfl ?_
    refine z_aload_n C (q := 22) 0 dX0_add_21 rfl rfl ?_
    refine z_getI C (q := 25) ob_46 fF_X0_22 rfl dX0_add_22 rfl ?_
    refine z_iload_n C (q := 26) 1 dX0_add_25 rfl rfl ?_
    refine z_iast C (q := 27) ar_47 dX0_add_26 rfl (fun s1 => ?_)
    refine z_aload_n C (q := 28) 0 dX0_add_27 rfl rfl ?_
    refine z_getR C (q := 31) ob_46 fF_X0_15 rfl dX0_add_28 rfl ?_
    refine z_aload_n C (q := 32) 0 dX0_add_31 rfl rfl ?_
    refine z_getI C (q := 35) ob_46 fF_X0_22 rfl dX0_add_32 rfl ?_
    refine z_iload_n C (q := 36) 2 dX0_add_35 rfl rfl ?_
    refine z_iast C (q := 37) ar_48 dX0_add_36 rfl (fun s2 => ?_)
    refine z_aload_n C (q := 38) 0 dX0_add_37 rfl rfl ?_
    refine z_dup C (q := 39) dX0_add_38 rfl rfl ?_
    refine z_getI C (q := 42) ob_46 fF_X0_22 rfl dX0_add_39 rfl ?_
    refine z_iconst C (q := 43) dX0_add_42 rfl lt_iconst_1 ?_
    refine z_iadd C (q := 44) dX0_add_43 rfl ?_
    refine z_putI C (q := 47) ob_46 fP_X0_22 rfl dX0_add_44 rfl (fun s3 => ?_)
    exact z_vret C dX0_add_47
  exact z_vret C dX0_add_16
set_option maxRecDepth 100000 in
set_option maxHeartbeats 4000000 in
theorem m_X3_has (G : gG) {ad : Nat → Nat} (hap : g_ap LC ad) (a : Nat) (ha : hLand a) (v1 : Int32) (s : gS) : g_M G LC ad yX3_has cX3_has 2 (some .boolean) 0 [.ref (ad a), .int v1] s (f_X3_has a v1 s) := by
  refine g_entry (by decide) hap (Nat.le_of_ble_eq_true rfl) [(0, .ref (ad a)), (1, .int v1)] rfl (fun X C => ?_)
  unfold f_X3_has
  refine z_iload_n C (q := 1) 1 dX3_has_0 rfl rfl ?_
  refine z_if_lt C (tgt := 22) (q := 4) dX3_has_1 (by decide) rfl ?_ ?_
  · refine z_iconst C (q := 23) dX3_has_22 rfl lt_iconst_0 ?_
    exact z_zretK C (by decide) dX3_has_23
  refine z_iload_n C (q := 5) 1 dX3_has_4 rfl rfl ?_
  refine z_aload_n C (q := 6) 0 dX3_has_5 rfl rfl ?_
  refine z_getI C (q := 9) ha.1 fF_X3_43 rfl dX3_has_6 rfl ?_
  refine z_icmp_ge C (tgt := 22) (q := 12) dX3_has_9 (by decide) rfl ?_ ?_
  · refine z_iconst C (q := 23) dX3_has_22 rfl lt_iconst_0 ?_
    exact z_zretK C (by decide) dX3_has_23
  refine z_iload_n C (q := 13) 1 dX3_has_12 rfl rfl ?_
  refine z_bipush C (q := 15) dX3_has_13 rfl lt_bipush_40 ?_
  refine z_icmp_ge C (tgt := 22) (q := 18) dX3_has_15 (by decide) rfl ?_ ?_
  · refine z_iconst C (q := 23) dX3_has_22 rfl lt_iconst_0 ?_
    exact z_zretK C (by decide) dX3_has_23
  refine z_iconst C (q := 19) dX3_has_18 rfl lt_iconst_1 ?_
  refine z_goto C (tgt := 23) dX3_has_19 (by decide) ?_
  exact z_zretK C (by decide) dX3_has_23
set_option maxRecDepth 100000 in
set_option maxHeartbeats 4000000 in
theorem m_X3_isFirstParish (G : gG) {ad : Nat → Nat} (hap : g_ap LC ad) (a : Nat) (ha : hLand a) (v1 : Int32) (v2 : Int32) (v3 : Int32) (s : gS) : g_M G LC ad yX3_isFirstParish cX3_isFirstParish 4 (some .boolean) 1 [.ref (ad a), .int v1, .int v2, .int v3] s (f_X3_isFirstParish a v1 v2 v3 s) := by
  refine g_entry (by decide) hap (Nat.le_of_ble_eq_true rfl) [(0, .ref (ad a)), (1, .int v1), (2, .int v2), (3, .int v3)] rfl (fun X C => ?_)
  unfold f_X3_isFirstParish
  refine z_aload_n C (q := 1) 0 dX3_isFirstParish_0 rfl rfl ?_
  refine z_iload_n C (q := 2) 1 dX3_isFirstParish_1 rfl rfl ?_
  refine z_callV C (q := 5) [.int v1] gl_X3_76 glv_X3_has ha.1 rfl (m_X3_has G (g_Kap C) a ha v1 _) rfl rfl (Nat.le_of_ble_eq_true rfl) ⟨by decide, by decide⟩ dX3_isFirstParish_2 rfl (z_ki (fun r2 s1 => ?_))
  refine z_if_eq C (tgt := 16) (q := 8) dX3_isFirstParish_5 (by decide) rfl ?_ ?_
  · refine z_iconst C (q := 17) dX3_isFirstParish_16 rfl lt_iconst_0 ?_
    exact z_zretK C (by decide) dX3_isFirstParish_17
  refine z_aload_n C (q := 9) 0 dX3_isFirstParish_8 rfl rfl ?_
  refine z_iload_n C (q := 10) 2 dX3_isFirstParish_9 rfl rfl ?_
  refine z_callV C (q := 13) [.int v2] gl_X3_76 glv_X3_has ha.1 rfl (m_X3_has G (g_Kap C) a ha v2 _) rfl rfl (Nat.le_of_ble_eq_true rfl) ⟨by decide, by decide⟩ dX3_isFirstParish_10 rfl (z_ki (fun r4 s3 => ?_))
  refine z_if_ne C (tgt := 18) (q := 16) dX3_isFirstParish_13 (by decide) rfl ?_ ?_
  · refine z_iload_n C (q := 19) 3 dX3_isFirstParish_18 rfl rfl ?_
    refine z_if_ne C (tgt := 73) (q := 22) dX3_isFirstParish_19 (by decide) rfl ?_ ?_
    · refine z_iload_n C (q := 74) 3 dX3_isFirstParish_73 rfl rfl ?_
      refine z_iconst C (q := 75) dX3_isFirstParish_74 rfl lt_iconst_1 ?_
      refine z_icmp_ne C (tgt := 129) (q := 78) dX3_isFirstParish_75 (by decide) rfl ?_ ?_
      · refine z_aload_n C (q := 130) 0 dX3_isFirstParish_129 rfl rfl ?_
        refine z_getR C (q := 133) ha.1 fF_X3_9 rfl dX3_isFirstParish_130 rfl ?_
        refine z_iload_n C (q := 134) 1 dX3_isFirstParish_133 rfl rfl ?_
        refine z_iald C (q := 135) ha.2.1 dX3_isFirstParish_134 rfl ?_
        refine z_aload_n C (q := 136) 0 dX3_isFirstParish_135 rfl rfl ?_
        refine z_getR C (q := 139) ha.1 fF_X3_15 rfl dX3_isFirstParish_136 rfl ?_
        refine z_iload_n C (q := 140) 1 dX3_isFirstParish_139 rfl rfl ?_
        refine z_iald C (q := 141) ha.2.2.1 dX3_isFirstParish_140 rfl ?_
        refine z_iadd C (q := 142) dX3_isFirstParish_141 rfl ?_
        refine z_aload_n C (q := 143) 0 dX3_isFirstParish_142 rfl rfl ?_
        refine z_getR C (q := 146) ha.1 fF_X3_9 rfl dX3_isFirstParish_143 rfl ?_
        refine z_iload_n C (q := 147) 2 dX3_isFirstParish_146 rfl rfl ?_
        refine z_iald C (q := 148) ha.2.1 dX3_isFirstParish_147 rfl ?_
        refine z_aload_n C (q := 149) 0 dX3_isFirstParish_148 rfl rfl ?_
        refine z_getR C (q := 152) ha.1 fF_X3_15 rfl dX3_isFirstParish_149 rfl ?_
        refine z_iload_n C (q := 153) 2 dX3_isFirstParish_152 rfl rfl ?_
        refine z_iald C (q := 154) ha.2.2.1 dX3_isFirstParish_153 rfl ?_
        refine z_iadd C (q := 155) dX3_isFirstParish_154 rfl ?_
        refine z_icmp_ge C (tgt := 162) (q := 158) dX3_isFirstParish_155 (by decide) rfl ?_ ?_
        · refine z_iconst C (q := 163) dX3_isFirstParish_162 rfl lt_iconst_0 ?_
          exact z_zretK C (by decide) dX3_isFirstParish_163
        refine z_iconst C (q := 159) dX3_isFirstParish_158 rfl lt_iconst_1 ?_
        refine z_goto C (tgt := 163) dX3_isFirstParish_159 (by decide) ?_
        exact z_zretK C (by decide) dX3_isFirstParish_163
      refine z_aload_n C (q := 79) 0 dX3_isFirstParish_78 rfl rfl ?_
      refine z_getR C (q := 82) ha.1 fF_X3_15 rfl dX3_isFirstParish_79 rfl ?_
      refine z_iload_n C (q := 83) 1 dX3_isFirstParish_82 rfl rfl ?_
      refine z_iald C (q := 84) ha.2.2.1 dX3_isFirstParish_83 rfl ?_
      refine z_aload_n C (q := 85) 0 dX3_isFirstParish_84 rfl rfl ?_
      refine z_getR C (q := 88) ha.1 fF_X3_15 rfl dX3_isFirstParish_85 rfl ?_
      refine z_iload_n C (q := 89) 2 dX3_isFirstParish_88 rfl rfl ?_
      refine z_iald C (q := 90) ha.2.2.1 dX3_isFirstParish_89 rfl ?_
      refine z_icmp_lt C (tgt := 123) (q := 93) dX3_isFirstParish_90 (by decide) rfl ?_ ?_
      · refine z_iconst C (q := 124) dX3_isFirstParish_123 rfl lt_iconst_1 ?_
        refine z_goto C (tgt := 128) dX3_isFirstParish_124 (by decide) ?_
        exact z_zretK C (by decide) dX3_isFirstParish_128
      refine z_aload_n C (q := 94) 0 dX3_isFirstParish_93 rfl rfl ?_
      refine z_getR C (q := 97) ha.1 fF_X3_15 rfl dX3_isFirstParish_94 rfl ?_
      refine z_iload_n C (q := 98) 1 dX3_isFirstParish_97 rfl rfl ?_
      refine z_iald C (q := 99) ha.2.2.1 dX3_isFirstParish_98 rfl ?_
      refine z_aload_n C (q := 100) 0 dX3_isFirstParish_99 rfl rfl ?_
      refine z_getR C (q := 103) ha.1 fF_X3_15 rfl dX3_isFirstParish_100 rfl ?_
      refine z_iload_n C (q := 104) 2 dX3_isFirstParish_103 rfl rfl ?_
      refine z_iald C (q := 105) ha.2.2.1 dX3_isFirstParish_104 rfl ?_
      refine z_icmp_ne C (tgt := 127) (q := 108) dX3_isFirstParish_105 (by decide) rfl ?_ ?_
      · refine z_iconst C (q := 128) dX3_isFirstParish_127 rfl lt_iconst_0 ?_
        exact z_zretK C (by decide) dX3_isFirstParish_128
      refine z_aload_n C (q := 109) 0 dX3_isFirstParish_108 rfl rfl ?_
      refine z_getR C (q := 112) ha.1 fF_X3_9 rfl dX3_isFirstParish_109 rfl ?_
      refine z_iload_n C (q := 113) 1 dX3_isFirstParish_112 rfl rfl ?_
      refine z_iald C (q := 114) ha.2.1 dX3_isFirstParish_113 rfl ?_
      refine z_aload_n C (q := 115) 0 dX3_isFirstParish_114 rfl rfl ?_
      refine z_getR C (q := 118) ha.1 fF_X3_9 rfl dX3_isFirstParish_115 rfl ?_
      refine z_iload_n C (q := 119) 2 dX3_isFirstParish_118 rfl rfl ?_
      refine z_iald C (q := 120) ha.2.1 dX3_isFirstParish_119 rfl ?_
      refine z_icmp_ge C (tgt := 127) (q := 123) dX3_isFirstParish_120 (by decide) rfl ?_ ?_
      · refine z_iconst C (q := 128) dX3_isFirstParish_127 rfl lt_iconst_0 ?_
        exact z_zretK C (by decide) dX3_isFirstParish_128
      refine z_iconst C (q := 124) dX3_isFirstParish_123 rfl lt_iconst_1 ?_
      refine z_goto C (tgt := 128) dX3_isFirstParish_124 (by decide) ?_
      exact z_zretK C (by decide) dX3_isFirstParish_128
    refine z_aload_n C (q := 23) 0 dX3_isFirstParish_22 rfl rfl ?_
    refine z_getR C (q := 26) ha.1 fF_X3_9 rfl dX3_isFirstParish_23 rfl ?_
    refine z_iload_n C (q := 27) 1 dX3_isFirstParish_26 rfl rfl ?_
    refine z_iald C (q := 28) ha.2.1 dX3_isFirstParish_27 rfl ?_
    refine z_aload_n C (q := 29) 0 dX3_isFirstParish_28 rfl rfl ?_
    refine z_getR C (q := 32) ha.1 fF_X3_9 rfl dX3_isFirstParish_29 rfl ?_
    refine z_iload_n C (q := 33) 2 dX3_isFirstParish_32 rfl rfl ?_
    refine z_iald C (q := 34) ha.2.1 dX3_isFirstParish_33 rfl ?_
    refine z_icmp_lt C (tgt := 67) (q := 37) dX3_isFirstParish_34 (by decide) rfl ?_ ?_
    · refine z_iconst C (q := 68) dX3_isFirstParish_67 rfl lt_iconst_1 ?_
      refine z_goto C (tgt := 72) dX3_isFirstParish_68 (by decide) ?_
      exact z_zretK C (by decide) dX3_isFirstParish_72
    refine z_aload_n C (q := 38) 0 dX3_isFirstParish_37 rfl rfl ?_
    refine z_getR C (q := 41) ha.1 fF_X3_9 rfl dX3_isFirstParish_38 rfl ?_
    refine z_iload_n C (q := 42) 1 dX3_isFirstParish_41 rfl rfl ?_
    refine z_iald C (q := 43) ha.2.1 dX3_isFirstParish_42 rfl ?_
    refine z_aload_n C (q := 44) 0 dX3_isFirstParish_43 rfl rfl ?_
    refine z_getR C (q := 47) ha.1 fF_X3_9 rfl dX3_isFirstParish_44 rfl ?_
    refine z_iload_n C (q := 48) 2 dX3_isFirstParish_47 rfl rfl ?_
    refine z_iald C (q := 49) ha.2.1 dX3_isFirstParish_48 rfl ?_
    refine z_icmp_ne C (tgt := 71) (q := 52) dX3_isFirstParish_49 (by decide) rfl ?_ ?_
    · refine z_iconst C (q := 72) dX3_isFirstParish_71 rfl lt_iconst_0 ?_
      exact z_zretK C (by decide) dX3_isFirstParish_72
    refine z_aload_n C (q := 53) 0 dX3_isFirstParish_52 rfl rfl ?_
    refine z_getR C (q := 56) ha.1 fF_X3_15 rfl dX3_isFirstParish_53 rfl ?_
    refine z_iload_n C (q := 57) 1 dX3_isFirstParish_56 rfl rfl ?_
    refine z_iald C (q := 58) ha.2.2.1 dX3_isFirstParish_57 rfl ?_
    refine z_aload_n C (q := 59) 0 dX3_isFirstParish_58 rfl rfl ?_
    refine z_getR C (q := 62) ha.1 fF_X3_15 rfl dX3_isFirstParish_59 rfl ?_
    refine z_iload_n C (q := 63) 2 dX3_isFirstParish_62 rfl rfl ?_
    refine z_iald C (q := 64) ha.2.2.1 dX3_isFirstParish_63 rfl ?_
    refine z_icmp_ge C (tgt := 71) (q := 67) dX3_isFirstParish_64 (by decide) rfl ?_ ?_
    · refine z_iconst C (q := 72) dX3_isFirstParish_71 rfl lt_iconst_0 ?_
      exact z_zretK C (by decide) dX3_isFirstParish_72
    refine z_iconst C (q := 68) dX3_isFirstParish_67 rfl lt_iconst_1 ?_
    refine z_goto C (tgt := 72) dX3_isFirstParish_68 (by decide) ?_
    exact z_zretK C (by decide) dX3_isFirstParish_72
  refine z_iconst C (q := 17) dX3_isFirstParish_16 rfl lt_iconst_0 ?_
  exact z_zretK C (by decide) dX3_isFirstParish_17
set_option maxRecDepth 100000 in
set_option maxHeartbeats 4000000 in
theorem l_X3_tithesOf_16 {G : gG} {X : gX} {ad : Nat → Nat} (C : g_K G X LC ad cX3_tithesOf 7 RX3 (some .int) 2) (a : Nat) (ha : hLand a) (v1 : Int32) (v2 : Int32) (v3 : Int32) {k : Int32 → Int32 → gS → gR} (hk : ∀ (v4 : Int32) (v5 : Int32) (s : gS), g_Z G X LC ad 7 67 [(4, .int v4)] [] s (k v4 v5 s)) : ∀ (n : Nat) (v4 : Int32) (v5 : Int32) (s : gS), g_Z G X LC ad 7 16 [(0, .ref (ad a)), (1, .int v1), (2, .int v2), (3, .int v3), (4, .int v4), (5, .int v5)] [] s (f_X3_tithesOf_16 a v1 v2 v3 k n v4 v5 s) := by
  intro n
  induction n with
  | zero => intros; exact z_none
  | succ n ih =>
    intro v4 v5 s
    rw [f_X3_tithesOf_16.eq_2]
    refine z_iload C (q := 18) 5 dX3_tithesOf_16 rfl rfl ?_
    refine z_aload_n C (q := 19) 0 dX3_tithesOf_18 rfl rfl ?_
    refine z_getI C (q := 22) ha.1 fF_X3_43 rfl dX3_tithesOf_19 rfl ?_
    refine z_icmp_ge C (tgt := 67) (q := 25) dX3_tithesOf_22 (by decide) rfl ?_ ?_
    · exact z_sub [4] rfl (hk v4 v5 s)
    refine z_aload_n C (q := 26) 0 dX3_tithesOf_25 rfl rfl ?_
    refine z_iload C (q := 28) 5 dX3_tithesOf_26 rfl rfl ?_
    refine z_iload_n C (q := 29) 2 dX3_tithesOf_28 rfl rfl ?_
    refine z_iload_n C (q := 30) 3 dX3_tithesOf_29 rfl rfl ?_
    refine z_callV C (q := 33) [.int v5, .int v2, .int v3] gl_X3_89 glv_X3_isFirstParish ha.1 rfl (m_X3_isFirstParish G (g_Kap C) a ha v5 v2 v3 _) rfl rfl (Nat.le_of_ble_eq_true rfl) ⟨by decide, by decide⟩ dX3_tithesOf_30 rfl (z_ki (fun r4 s3 => ?_))
    refine z_istore C (q := 35) [(6, .int r4), (0, .ref (ad a)), (1, .int v1), (2, .int v2), (3, .int v3), (4, .int v4), (5, .int v5)] dX3_tithesOf_33 rfl (by decide) rfl ?_
    refine z_iload C (q := 37) 0 dX3_tithesOf_35 rfl rfl ?_
    refine z_iload_n C (q := 38) 2 dX3_tithesOf_37 rfl rfl ?_
    refine z_if_ne C (tgt := 45) (q := 41) dX3_tithesOf_38 (by decide) rfl ?_ ?_
    · refine z_iconst C (q := 46) dX3_tithesOf_45 rfl lt_iconst_0 ?_
      refine z_icmp_ne C (tgt := 61) (q := 49) dX3_tithesOf_46 (by decide) rfl ?_ ?_
      · refine z_iinc C (q := 64) 6 [(5, .int (v5 + 1)), (6, .int r4), (0, .ref (ad a)), (1, .int v1), (2, .int v2), (3, .int v3), (4, .int v4)] dX3_tithesOf_61 rfl rfl (lt_iinc_1 _) (by decide) rfl ?_
        refine z_goto C (tgt := 16) dX3_tithesOf_64 (by decide) ?_
        exact z_sub [2, 3, 4, 5, 6, 0] rfl (ih v4 (v5 + 1) s3)
      refine z_iload C (q := 51) 5 dX3_tithesOf_49 rfl rfl ?_
      refine z_aload_n C (q := 52) 1 dX3_tithesOf_51 rfl rfl ?_
      refine z_getR C (q := 55) ha.1 fF_X3_24 rfl dX3_tithesOf_52 rfl ?_
      refine z_iload C (q := 57) 6 dX3_tithesOf_55 rfl rfl ?_
      refine z_iald C (q := 58) ha.2.2.2.2.2.1 dX3_tithesOf_57 rfl ?_
      refine z_iadd C (q := 59) dX3_tithesOf_58 rfl ?_
      refine z_leti (fun v4_5 => ?_)
      refine z_istore C (q := 61) [(4, .int v4_5), (6, .int r4), (0, .ref (ad a)), (1, .int v1), (2, .int v2), (3, .int v3), (5, .int v5)] dX3_tithesOf_59 rfl (by decide) rfl ?_
      refine z_iinc C (q := 64) 6 [(5, .int (v5 + 1)), (4, .int v4_5), (6, .int r4), (0, .ref (ad a)), (1, .int v1), (2, .int v2), (3, .int v3)] dX3_tithesOf_61 rfl rfl (lt_iinc_1 _) (by decide) rfl ?_
      refine z_goto C (tgt := 16) dX3_tithesOf_64 (by decide) ?_
      exact z_sub [3, 4, 5, 6, 1, 0] rfl (ih v4_5 (v5 + 1) s3)
    refine z_iconst C (q := 42) dX3_tithesOf_41 rfl lt_iconst_1 ?_
    refine z_goto C (tgt := 46) dX3_tithesOf_42 (by decide) ?_
    refine z_icmp_ne C (tgt := 61) (q := 49) dX3_tithesOf_46 (by decide) rfl ?_ ?_
    · refine z_iinc C (q := 64) 6 [(5, .int (v5 + 1)), (6, .int r4), (0, .ref (ad a)), (1, .int v1), (2, .int v2), (3, .int v3), (4, .int v4)] dX3_tithesOf_61 rfl rfl (lt_iinc_1 _) (by decide) rfl ?_
      refine z_goto C (tgt := 16) dX3_tithesOf_64 (by decide) ?_
      exact z_sub [2, 3, 4, 5, 6, 0] rfl (ih v4 (v5 + 1) s3)
    refine z_iload C (q := 51) 5 dX3_tithesOf_49 rfl rfl ?_
    refine z_aload_n C (q := 52) 1 dX3_tithesOf_51 rfl rfl ?_
    refine z_getR C (q := 55) ha.1 fF_X3_24 rfl dX3_tithesOf_52 rfl ?_
    refine z_iload C (q := 57) 6 dX3_tithesOf_55 rfl rfl ?_
    refine z_iald C (q := 58) ha.2.2.2.2.2.1 dX3_tithesOf_57 rfl ?_
    refine z_iadd C (q := 59) dX3_tithesOf_58 rfl ?_
    refine z_leti (fun v4_6 => ?_)
    refine z_istore C (q := 61) [(4, .int v4_6), (6, .int r4), (0, .ref (ad a)), (1, .int v1), (2, .int v2), (3, .int v3), (5, .int v5)] dX3_tithesOf_59 rfl (by decide) rfl ?_
    refine z_iinc C (q := 64) 6 [(5, .int (v5 + 1)), (4, .int v4_6), (6, .int r4), (0, .ref (ad a)), (1, .int v1), (2, .int v2), (3, .int v3)] dX3_tithesOf_61 rfl rfl (lt_iinc_1 _) (by decide) rfl ?_
    refine z_goto C (tgt := 16) dX3_tithesOf_64 (by decide) ?_
    exact z_sub [3, 4, 5, 6, 1, 0] rfl (ih v4_6 (v5 + 1) s3)
set_option maxRecDepth 100000 in
set_option maxHeartbeats 4000000 in
theorem m_X3_tithesOf (G : gG) {ad : Nat → Nat} (hap : g_ap LC ad) (a : Nat) (ha : hLand a) (v1 : Int32) (v2 : Int32) (v3 : Int32) (s : gS) : g_M G LC ad yX3_tithesOf cX3_tithesOf 7 (some .int) 2 [.ref (ad a), .int v1, .int v2, .int v3] s (f_X3_tithesOf a v1 v2 v3 s) := by
  refine g_entry (by decide) hap (Nat.le_of_ble_eq_true rfl) [(0, .ref (ad a)), (1, .int v1), (2, .int v2), (3, .int v3)] rfl (fun X C => ?_)
  unfold f_X3_tithesOf
  refine z_aload_n C (q := 1) 0 dX3_tithesOf_0 rfl rfl ?_
  refine z_iload_n C (q := 2) 2 dX3_tithesOf_1 rfl rfl ?_
  refine z_callV C (q := 5) [.int v2] gl_X3_76 glv_X3_has ha.1 rfl (m_X3_has G (g_Kap C) a ha v2 _) rfl rfl (Nat.le_of_ble_eq_true rfl) ⟨by decide, by decide⟩ dX3_tithesOf_2 rfl (z_ki (fun r2 s1 => ?_))
  refine z_if_ne C (tgt := 10) (q := 8) dX3_tithesOf_5 (by decide) rfl ?_ ?_
  · refine z_iconst C (q := 11) dX3_tithesOf_10 rfl lt_iconst_0 ?_
    refine z_istore C (q := 13) [(4, .int (0 : Int32)), (0, .ref (ad a)), (1, .int v1), (2, .int v2), (3, .int v3)] dX3_tithesOf_11 rfl (by decide) rfl ?_
    refine z_iconst C (q := 14) dX3_tithesOf_13 rfl lt_iconst_0 ?_
    refine z_istore C (q := 16) [(5, .int (0 : Int32)), (4, .int (0 : Int32)), (0, .ref (ad a)), (1, .int v1), (2, .int v2), (3, .int v3)] dX3_tithesOf_14 rfl (by decide) rfl ?_
    refine z_sub [2, 3, 4, 5, 1, 0] rfl (l_X3_tithesOf_16 C a ha v1 v2 v3 (fun v4_7 v5_8 s9 => ?_) g_N (0 : Int32) (0 : Int32) s1)
    refine z_iload C (q := 69) 0 dX3_tithesOf_67 rfl rfl ?_
    exact z_iret C dX3_tithesOf_69
  refine z_iconst C (q := 9) dX3_tithesOf_8 rfl lt_iconst_0 ?_
  exact z_iret C dX3_tithesOf_9
set_option maxRecDepth 100000 in
set_option maxHeartbeats 4000000 in
theorem l_X0_firstWrong_2 {G : gG} {X : gX} {ad : Nat → Nat} (C : g_K G X LC ad cX0_firstWrong 3 RX0 (some .int) 3)   (v1 : Int32) {k : Int32 → gS → gR} (hk : ∀ (v2 : Int32) (s : gS), g_Z G X LC ad 3 48 [] [] s (k v2 s)) : ∀ (n : Nat) (v2 : Int32) (s : gS), g_Z G X LC ad 3 2 [(0, .ref (ad 46)), (1, .int v1), (2, .int v2)] [] s (f_X0_firstWrong_2 v1 k n v2 s) := by
  intro n
  induction n with
  | zero => intros; exact z_none
  | succ n ih =>
    intro v2 s
    rw [f_X0_firstWrong_2.eq_2]
    refine z_iload_n C (q := 3) 2 dX0_firstWrong_2 rfl rfl ?_
    refine z_aload_n C (q := 4) 0 dX0_firstWrong_3 rfl rfl ?_
    refine z_getI C (q := 7) ob_46 fF_X0_22 rfl dX0_firstWrong_4 rfl ?_
    refine z_icmp_ge C (tgt := 48) (q := 10) dX0_firstWrong_7 (by decide) rfl ?_ ?_
    · exact z_sub [] rfl (hk v2 s)
    refine z_iload_n C (q := 11) 2 dX0_firstWrong_10 rfl rfl ?_
    refine z_bipush C (q := 13) dX0_firstWrong_11 rfl lt_bipush_30 ?_
    refine z_icmp_ge C (tgt := 48) (q := 16) dX0_firstWrong_13 (by decide) rfl ?_ ?_
    · exact z_sub [] rfl (hk v2 s)
    refine z_aload_n C (q := 17) 0 dX0_firstWrong_16 rfl rfl ?_
    refine z_getR C (q := 20) ob_46 fF_X0_18 rfl dX0_firstWrong_17 rfl ?_
    refine z_iconst C (q := 21) dX0_firstWrong_20 rfl lt_iconst_0 ?_
    refine z_aload_n C (q := 22) 0 dX0_firstWrong_21 rfl rfl ?_
    refine z_getR C (q := 25) ob_46 fF_X0_9 rfl dX0_firstWrong_22 rfl ?_
    refine z_iload_n C (q := 26) 2 dX0_firstWrong_25 rfl rfl ?_
    refine z_iald C (q := 27) ar_47 dX0_firstWrong_26 rfl ?_
    refine z_iload_n C (q := 28) 1 dX0_firstWrong_27 rfl rfl ?_
    refine z_callV C (q := 31) [.int (0 : Int32), .int (s.1 47 v2.toNatClampNeg), .int v1] gl_X0_26 glv_X3_tithesOf hLand_14.1 rfl (m_X3_tithesOf G (g_Kap C) 14 hLand_14 (0 : Int32) (s.1 47 v2.toNatClampNeg) v1 _) rfl rfl (Nat.le_of_ble_eq_true rfl) ⟨by decide, by decide⟩ dX0_firstWrong_28 rfl (z_ki (fun r2 s1 => ?_))
    refine z_aload_n C (q := 32) 0 dX0_firstWrong_31 rfl rfl ?_
    refine z_getR C (q := 35) ob_46 fF_X0_15 rfl dX0_firstWrong_32 rfl ?_
    refine z_iload_n C (q := 36) 2 dX0_firstWrong_35 rfl rfl ?_
    refine z_iald C (q := 37) ar_48 dX0_firstWrong_36 rfl ?_
    refine z_icmp_eq C (tgt := 42) (q := 40) dX0_firstWrong_37 (by decide) rfl ?_ ?_
    · refine z_iinc C (q := 45) 2 [(2, .int (v2 + 1)), (0, .ref (ad 46)), (1, .int v1)] dX0_firstWrong_42 rfl rfl (lt_iinc_1 _) (by decide) rfl ?_
      refine z_goto C (tgt := 2) dX0_firstWrong_45 (by decide) ?_
      exact z_sub [1, 2, 0] rfl (ih (v2 + 1) s1)
    refine z_iload_n C (q := 41) 2 dX0_firstWrong_40 rfl rfl ?_
    exact z_iret C dX0_firstWrong_41
set_option maxRecDepth 100000 in
set_option maxHeartbeats 4000000 in
theorem m_X0_firstWrong (G : gG) {ad : Nat → Nat} (hap : g_ap LC ad)   (v1 : Int32) (s : gS) : g_M G LC ad yX0_firstWrong cX0_firstWrong 3 (some .int) 3 [.ref (ad 46), .int v1] s (f_X0_firstWrong v1 s) := by
  refine g_entry (by decide) hap (Nat.le_of_ble_eq_true rfl) [(0, .ref (ad 46)), (1, .int v1)] rfl (fun X C => ?_)
  unfold f_X0_firstWrong
  refine z_iconst C (q := 1) dX0_firstWrong_0 rfl lt_iconst_0 ?_
  refine z_istore_n C (q := 2) [(2, .int (0 : Int32)), (0, .ref (ad 46)), (1, .int v1)] dX0_firstWrong_1 rfl rfl (by decide) rfl ?_
  refine z_sub [1, 2, 0] rfl (l_X0_firstWrong_2 C v1 (fun v2_3 s4 => ?_) g_N (0 : Int32) s)
  refine z_iconst C (q := 49) dX0_firstWrong_48 rfl lt_iconst_m1 ?_
  exact z_iret C dX0_firstWrong_49
set_option maxRecDepth 100000 in
set_option maxHeartbeats 4000000 in
theorem m_X3_liking (G : gG) {ad : Nat → Nat} (hap : g_ap LC ad) (a : Nat) (ha : hLand a) (v1 : Int32) (v2 : Int32) (v3 : Int32) (s : gS) : g_M G LC ad yX3_liking cX3_liking 5 (some .int) 1 [.ref (ad a), .int v1, .int v2, .int v3] s (f_X3_liking a v1 v2 v3 s) := by
  refine g_entry (by decide) hap (Nat.le_of_ble_eq_true rfl) [(0, .ref (ad a)), (1, .int v1), (2, .int v2), (3, .int v3)] rfl (fun X C => ?_)
  unfold f_X3_liking
  refine z_aload_n C (q := 1) 0 dX3_liking_0 rfl rfl ?_
  refine z_iload_n C (q := 2) 1 dX3_liking_1 rfl rfl ?_
  refine z_callV C (q := 5) [.int v1] gl_X3_76 glv_X3_has ha.1 rfl (m_X3_has G (g_Kap C) a ha v1 _) rfl rfl (Nat.le_of_ble_eq_true rfl) ⟨by decide, by decide⟩ dX3_liking_2 rfl (z_ki (fun r2 s1 => ?_))
  refine z_if_ne C (tgt := 10) (q := 8) dX3_liking_5 (by decide) rfl ?_ ?_
  · refine z_iconst C (q := 11) dX3_liking_10 rfl lt_iconst_1 ?_
    refine z_aload_n C (q := 12) 0 dX3_liking_11 rfl rfl ?_
    refine z_getI C (q := 15) ha.1 fF_X3_56 rfl dX3_liking_12 rfl ?_
    refine z_iload_n C (q := 16) 2 dX3_liking_15 rfl rfl ?_
    refine z_imul C (q := 17) dX3_liking_16 rfl ?_
    refine z_iadd C (q := 18) dX3_liking_17 rfl ?_
    refine z_leti (fun v4_3 => ?_)
    refine z_istore C (q := 20) [(4, .int v4_3), (0, .ref (ad a)), (1, .int v1), (2, .int v2), (3, .int v3)] dX3_liking_18 rfl (by decide) rfl ?_
    refine z_aload_n C (q := 21) 1 dX3_liking_20 rfl rfl ?_
    refine z_getR C (q := 24) ha.1 fF_X3_21 rfl dX3_liking_21 rfl ?_
    refine z_iload_n C (q := 25) 2 dX3_liking_24 rfl rfl ?_
    refine z_iald C (q := 26) ha.2.2.2.2.1 dX3_liking_25 rfl ?_
    refine z_iconst C (q := 27) dX3_liking_26 rfl lt_iconst_1 ?_
    refine z_iand C (q := 28) dX3_liking_27 rfl ?_
    refine z_if_eq C (tgt := 40) (q := 31) dX3_liking_28 (by decide) rfl ?_ ?_
    · refine z_aload_n C (q := 41) 1 dX3_liking_40 rfl rfl ?_
      refine z_getR C (q := 44) ha.1 fF_X3_21 rfl dX3_liking_41 rfl ?_
      refine z_iload_n C (q := 45) 2 dX3_liking_44 rfl rfl ?_
      refine z_iald C (q := 46) ha.2.2.2.2.1 dX3_liking_45 rfl ?_
      refine z_iconst C (q := 47) dX3_liking_46 rfl lt_iconst_2 ?_
      refine z_iand C (q := 48) dX3_liking_47 rfl ?_
      refine z_if_eq C (tgt := 60) (q := 51) dX3_liking_48 (by decide) rfl ?_ ?_
      · refine z_aload_n C (q := 61) 1 dX3_liking_60 rfl rfl ?_
        refine z_getR C (q := 64) ha.1 fF_X3_21 rfl dX3_liking_61 rfl ?_
        refine z_iload_n C (q := 65) 2 dX3_liking_64 rfl rfl ?_
        refine z_iald C (q := 66) ha.2.2.2.2.1 dX3_liking_65 rfl ?_
        refine z_iconst C (q := 67) dX3_liking_66 rfl lt_iconst_4 ?_
        refine z_iand C (q := 68) dX3_liking_67 rfl ?_
        refine z_if_eq C (tgt := 80) (q := 71) dX3_liking_68 (by decide) rfl ?_ ?_
        · refine z_iconst C (q := 81) dX3_liking_80 rfl lt_iconst_1 ?_
          refine z_iload C (q := 83) 0 dX3_liking_81 rfl rfl ?_
          refine z_mmax C (q := 86) wm_516 wm_517 wm_518 wm_519 (by decide) (Nat.le_of_ble_eq_true rfl) dX3_liking_83 rfl ?_
          refine z_iload_n C (q := 87) 4 dX3_liking_86 rfl rfl ?_
          refine z_if_eq C (tgt := 95) (q := 90) dX3_liking_87 (by decide) rfl ?_ ?_
          · refine z_iconst C (q := 96) dX3_liking_95 rfl lt_iconst_0 ?_
            refine z_iadd C (q := 97) dX3_liking_96 rfl ?_
            exact z_iret C dX3_liking_97
          refine z_bipush C (q := 92) dX3_liking_90 rfl lt_bipush_20 ?_
          refine z_goto C (tgt := 96) dX3_liking_92 (by decide) ?_
          refine z_iadd C (q := 97) dX3_liking_96 rfl ?_
          exact z_iret C dX3_liking_97
        refine z_iload C (q := 73) 0 dX3_liking_71 rfl rfl ?_
        refine z_aload_n C (q := 74) 1 dX3_liking_73 rfl rfl ?_
        refine z_getI C (q := 77) ha.1 fF_X3_65 rfl dX3_liking_74 rfl ?_
        refine z_isub C (q := 78) dX3_liking_77 rfl ?_
        refine z_leti (fun v4_4 => ?_)
        refine z_istore C (q := 80) [(4, .int v4_4), (0, .ref (ad a)), (1, .int v1), (2, .int v2), (3, .int v3)] dX3_liking_78 rfl (by decide) rfl ?_
        refine z_iconst C (q := 81) dX3_liking_80 rfl lt_iconst_1 ?_
        refine z_iload C (q := 83) 0 dX3_liking_81 rfl rfl ?_
        refine z_mmax C (q := 86) wm_516 wm_517 wm_518 wm_519 (by decide) (Nat.le_of_ble_eq_true rfl) dX3_liking_83 rfl ?_
        refine z_iload_n C (q := 87) 4 dX3_liking_86 rfl rfl ?_
        refine z_if_eq C (tgt := 95) (q := 90) dX3_liking_87 (by decide) rfl ?_ ?_
        · refine z_iconst C (q := 96) dX3_liking_95 rfl lt_iconst_0 ?_
          refine z_iadd C (q := 97) dX3_liking_96 rfl ?_
          exact z_iret C dX3_liking_97
        refine z_bipush C (q := 92) dX3_liking_90 rfl lt_bipush_20 ?_
        refine z_goto C (tgt := 96) dX3_liking_92 (by decide) ?_
        refine z_iadd C (q := 97) dX3_liking_96 rfl ?_
        exact z_iret C dX3_liking_97
      refine z_iload C (q := 53) 0 dX3_liking_51 rfl rfl ?_
      refine z_aload_n C (q := 54) 1 dX3_liking_53 rfl rfl ?_
      refine z_getI C (q := 57) ha.1 fF_X3_62 rfl dX3_liking_54 rfl ?_
      refine z_iadd C (q := 58) dX3_liking_57 rfl ?_
      refine z_leti (fun v4_5 => ?_)
      refine z_istore C (q := 60) [(4, .int v4_5), (0, .ref (ad a)), (1, .int v1), (2, .int v2), (3, .int v3)] dX3_liking_58 rfl (by decide) rfl ?_
      refine z_aload_n C (q := 61) 1 dX3_liking_60 rfl rfl ?_
      refine z_getR C (q := 64) ha.1 fF_X3_21 rfl dX3_liking_61 rfl ?_
      refine z_iload_n C (q := 65) 2 dX3_liking_64 rfl rfl ?_
      refine z_iald C (q := 66) ha.2.2.2.2.1 dX3_liking_65 rfl ?_
      refine z_iconst C (q := 67) dX3_liking_66 rfl lt_iconst_4 ?_
      refine z_iand C (q := 68) dX3_liking_67 rfl ?_
      refine z_if_eq C (tgt := 80) (q := 71) dX3_liking_68 (by decide) rfl ?_ ?_
      · refine z_iconst C (q := 81) dX3_liking_80 rfl lt_iconst_1 ?_
        refine z_iload C (q := 83) 0 dX3_liking_81 rfl rfl ?_
        refine z_mmax C (q := 86) wm_516 wm_517 wm_518 wm_519 (by decide) (Nat.le_of_ble_eq_true rfl) dX3_liking_83 rfl ?_
        refine z_iload_n C (q := 87) 4 dX3_liking_86 rfl rfl ?_
        refine z_if_eq C (tgt := 95) (q := 90) dX3_liking_87 (by decide) rfl ?_ ?_
        · refine z_iconst C (q := 96) dX3_liking_95 rfl lt_iconst_0 ?_
          refine z_iadd C (q := 97) dX3_liking_96 rfl ?_
          exact z_iret C dX3_liking_97
        refine z_bipush C (q := 92) dX3_liking_90 rfl lt_bipush_20 ?_
        refine z_goto C (tgt := 96) dX3_liking_92 (by decide) ?_
        refine z_iadd C (q := 97) dX3_liking_96 rfl ?_
        exact z_iret C dX3_liking_97
      refine z_iload C (q := 73) 0 dX3_liking_71 rfl rfl ?_
      refine z_aload_n C (q := 74) 1 dX3_liking_73 rfl rfl ?_
      refine z_getI C (q := 77) ha.1 fF_X3_65 rfl dX3_liking_74 rfl ?_
      refine z_isub C (q := 78) dX3_liking_77 rfl ?_
      refine z_leti (fun v4_6 => ?_)
      refine z_istore C (q := 80) [(4, .int v4_6), (0, .ref (ad a)), (1, .int v1), (2, .int v2), (3, .int v3)] dX3_liking_78 rfl (by decide) rfl ?_
      refine z_iconst C (q := 81) dX3_liking_80 rfl lt_iconst_1 ?_
      refine z_iload C (q := 83) 0 dX3_liking_81 rfl rfl ?_
      refine z_mmax C (q := 86) wm_516 wm_517 wm_518 wm_519 (by decide) (Nat.le_of_ble_eq_true rfl) dX3_liking_83 rfl ?_
      refine z_iload_n C (q := 87) 4 dX3_liking_86 rfl rfl ?_
      refine z_if_eq C (tgt := 95) (q := 90) dX3_liking_87 (by decide) rfl ?_ ?_
      · refine z_iconst C (q := 96) dX3_liking_95 rfl lt_iconst_0 ?_
        refine z_iadd C (q := 97) dX3_liking_96 rfl ?_
        exact z_iret C dX3_liking_97
      refine z_bipush C (q := 92) dX3_liking_90 rfl lt_bipush_20 ?_
      refine z_goto C (tgt := 96) dX3_liking_92 (by decide) ?_
      refine z_iadd C (q := 97) dX3_liking_96 rfl ?_
      exact z_iret C dX3_liking_97
    refine z_iload C (q := 33) 0 dX3_liking_31 rfl rfl ?_
    refine z_aload_n C (q := 34) 1 dX3_liking_33 rfl rfl ?_
    refine z_getI C (q := 37) ha.1 fF_X3_59 rfl dX3_liking_34 rfl ?_
    refine z_iadd C (q := 38) dX3_liking_37 rfl ?_
    refine z_leti (fun v4_7 => ?_)
    refine z_istore C (q := 40) [(4, .int v4_7), (0, .ref (ad a)), (1, .int v1), (2, .int v2), (3, .int v3)] dX3_liking_38 rfl (by decide) rfl ?_
    refine z_aload_n C (q := 41) 1 dX3_liking_40 rfl rfl ?_
    refine z_getR C (q := 44) ha.1 fF_X3_21 rfl dX3_liking_41 rfl ?_
    refine z_iload_n C (q := 45) 2 dX3_liking_44 rfl rfl ?_
    refine z_iald C (q := 46) ha.2.2.2.2.1 dX3_liking_45 rfl ?_
    refine z_iconst C (q := 47) dX3_liking_46 rfl lt_iconst_2 ?_
    refine z_iand C (q := 48) dX3_liking_47 rfl ?_
    refine z_if_eq C (tgt := 60) (q := 51) dX3_liking_48 (by decide) rfl ?_ ?_
    · refine z_aload_n C (q := 61) 1 dX3_liking_60 rfl rfl ?_
      refine z_getR C (q := 64) ha.1 fF_X3_21 rfl dX3_liking_61 rfl ?_
      refine z_iload_n C (q := 65) 2 dX3_liking_64 rfl rfl ?_
      refine z_iald C (q := 66) ha.2.2.2.2.1 dX3_liking_65 rfl ?_
      refine z_iconst C (q := 67) dX3_liking_66 rfl lt_iconst_4 ?_
      refine z_iand C (q := 68) dX3_liking_67 rfl ?_
      refine z_if_eq C (tgt := 80) (q := 71) dX3_liking_68 (by decide) rfl ?_ ?_
      · refine z_iconst C (q := 81) dX3_liking_80 rfl lt_iconst_1 ?_
        refine z_iload C (q := 83) 0 dX3_liking_81 rfl rfl ?_
        refine z_mmax C (q := 86) wm_516 wm_517 wm_518 wm_519 (by decide) (Nat.le_of_ble_eq_true rfl) dX3_liking_83 rfl ?_
        refine z_iload_n C (q := 87) 4 dX3_liking_86 rfl rfl ?_
        refine z_if_eq C (tgt := 95) (q := 90) dX3_liking_87 (by decide) rfl ?_ ?_
        · refine z_iconst C (q := 96) dX3_liking_95 rfl lt_iconst_0 ?_
          refine z_iadd C (q := 97) dX3_liking_96 rfl ?_
          exact z_iret C dX3_liking_97
        refine z_bipush C (q := 92) dX3_liking_90 rfl lt_bipush_20 ?_
        refine z_goto C (tgt := 96) dX3_liking_92 (by decide) ?_
        refine z_iadd C (q := 97) dX3_liking_96 rfl ?_
        exact z_iret C dX3_liking_97
      refine z_iload C (q := 73) 0 dX3_liking_71 rfl rfl ?_
      refine z_aload_n C (q := 74) 1 dX3_liking_73 rfl rfl ?_
      refine z_getI C (q := 77) ha.1 fF_X3_65 rfl dX3_liking_74 rfl ?_
      refine z_isub C (q := 78) dX3_liking_77 rfl ?_
      refine z_leti (fun v4_8 => ?_)
      refine z_istore C (q := 80) [(4, .int v4_8), (0, .ref (ad a)), (1, .int v1), (2, .int v2), (3, .int v3)] dX3_liking_78 rfl (by decide) rfl ?_
      refine z_iconst C (q := 81) dX3_liking_80 rfl lt_iconst_1 ?_
      refine z_iload C (q := 83) 0 dX3_liking_81 rfl rfl ?_
      refine z_mmax C (q := 86) wm_516 wm_517 wm_518 wm_519 (by decide) (Nat.le_of_ble_eq_true rfl) dX3_liking_83 rfl ?_
      refine z_iload_n C (q := 87) 4 dX3_liking_86 rfl rfl ?_
      refine z_if_eq C (tgt := 95) (q := 90) dX3_liking_87 (by decide) rfl ?_ ?_
      · refine z_iconst C (q := 96) dX3_liking_95 rfl lt_iconst_0 ?_
        refine z_iadd C (q := 97) dX3_liking_96 rfl ?_
        exact z_iret C dX3_liking_97
      refine z_bipush C (q := 92) dX3_liking_90 rfl lt_bipush_20 ?_
      refine z_goto C (tgt := 96) dX3_liking_92 (by decide) ?_
      refine z_iadd C (q := 97) dX3_liking_96 rfl ?_
      exact z_iret C dX3_liking_97
    refine z_iload C (q := 53) 0 dX3_liking_51 rfl rfl ?_
    refine z_aload_n C (q := 54) 1 dX3_liking_53 rfl rfl ?_
    refine z_getI C (q := 57) ha.1 fF_X3_62 rfl dX3_liking_54 rfl ?_
    refine z_iadd C (q := 58) dX3_liking_57 rfl ?_
    refine z_leti (fun v4_9 => ?_)
    refine z_istore C (q := 60) [(4, .int v4_9), (0, .ref (ad a)), (1, .int v1), (2, .int v2), (3, .int v3)] dX3_liking_58 rfl (by decide) rfl ?_
    refine z_aload_n C (q := 61) 1 dX3_liking_60 rfl rfl ?_
    refine z_getR C (q := 64) ha.1 fF_X3_21 rfl dX3_liking_61 rfl ?_
    refine z_iload_n C (q := 65) 2 dX3_liking_64 rfl rfl ?_
    refine z_iald C (q := 66) ha.2.2.2.2.1 dX3_liking_65 rfl ?_
    refine z_iconst C (q := 67) dX3_liking_66 rfl lt_iconst_4 ?_
    refine z_iand C (q := 68) dX3_liking_67 rfl ?_
    refine z_if_eq C (tgt := 80) (q := 71) dX3_liking_68 (by decide) rfl ?_ ?_
    · refine z_iconst C (q := 81) dX3_liking_80 rfl lt_iconst_1 ?_
      refine z_iload C (q := 83) 0 dX3_liking_81 rfl rfl ?_
      refine z_mmax C (q := 86) wm_516 wm_517 wm_518 wm_519 (by decide) (Nat.le_of_ble_eq_true rfl) dX3_liking_83 rfl ?_
      refine z_iload_n C (q := 87) 4 dX3_liking_86 rfl rfl ?_
      refine z_if_eq C (tgt := 95) (q := 90) dX3_liking_87 (by decide) rfl ?_ ?_
      · refine z_iconst C (q := 96) dX3_liking_95 rfl lt_iconst_0 ?_
        refine z_iadd C (q := 97) dX3_liking_96 rfl ?_
        exact z_iret C dX3_liking_97
      refine z_bipush C (q := 92) dX3_liking_90 rfl lt_bipush_20 ?_
      refine z_goto C (tgt := 96) dX3_liking_92 (by decide) ?_
      refine z_iadd C (q := 97) dX3_liking_96 rfl ?_
      exact z_iret C dX3_liking_97
    refine z_iload C (q := 73) 0 dX3_liking_71 rfl rfl ?_
    refine z_aload_n C (q := 74) 1 dX3_liking_73 rfl rfl ?_
    refine z_getI C (q := 77) ha.1 fF_X3_65 rfl dX3_liking_74 rfl ?_
    refine z_isub C (q := 78) dX3_liking_77 rfl ?_
    refine z_leti (fun v4_10 => ?_)
    refine z_istore C (q := 80) [(4, .int v4_10), (0, .ref (ad a)), (1, .int v1), (2, .int v2), (3, .int v3)] dX3_liking_78 rfl (by decide) rfl ?_
    refine z_iconst C (q := 81) dX3_liking_80 rfl lt_iconst_1 ?_
    refine z_iload C (q := 83) 0 dX3_liking_81 rfl rfl ?_
    refine z_mmax C (q := 86) wm_516 wm_517 wm_518 wm_519 (by decide) (Nat.le_of_ble_eq_true rfl) dX3_liking_83 rfl ?_
    refine z_iload_n C (q := 87) 4 dX3_liking_86 rfl rfl ?_
    refine z_if_eq C (tgt := 95) (q := 90) dX3_liking_87 (by decide) rfl ?_ ?_
    · refine z_iconst C (q := 96) dX3_liking_95 rfl lt_iconst_0 ?_
      refine z_iadd C (q := 97) dX3_liking_96 rfl ?_
      exact z_iret C dX3_liking_97
    refine z_bipush C (q := 92) dX3_liking_90 rfl lt_bipush_20 ?_
    refine z_goto C (tgt := 96) dX3_liking_92 (by decide) ?_
    refine z_iadd C (q := 97) dX3_liking_96 rfl ?_
    exact z_iret C dX3_liking_97
  refine z_iconst C (q := 9) dX3_liking_8 rfl lt_iconst_0 ?_
  exact z_iret C dX3_liking_9
set_option maxRecDepth 100000 in
set_option maxHeartbeats 4000000 in
theorem m_X3_wayFrom (G : gG) {ad : Nat → Nat} (hap : g_ap LC ad) (a : Nat) (ha : hLand a) (v1 : Int32) (v2 : Int32) (s : gS) : g_M G LC ad yX3_wayFrom cX3_wayFrom 3 (some .int) 0 [.ref (ad a), .int v1, .int v2] s (f_X3_wayFrom a v1 v2 s) := by
  refine g_entry (by decide) hap (Nat.le_of_ble_eq_true rfl) [(0, .ref (ad a)), (1, .int v1), (2, .int v2)] rfl (fun X C => ?_)
  unfold f_X3_wayFrom
  refine z_iload_n C (q := 1) 1 dX3_wayFrom_0 rfl rfl ?_
  refine z_if_lt C (tgt := 18) (q := 4) dX3_wayFrom_1 (by decide) rfl ?_ ?_
  · refine z_iconst C (q := 19) dX3_wayFrom_18 rfl lt_iconst_m1 ?_
    exact z_iret C dX3_wayFrom_19
  refine z_iload_n C (q := 5) 1 dX3_wayFrom_4 rfl rfl ?_
  refine z_aload_n C (q := 6) 0 dX3_wayFrom_5 rfl rfl ?_
  refine z_getI C (q := 9) ha.1 fF_X3_43 rfl dX3_wayFrom_6 rfl ?_
  refine z_icmp_ge C (tgt := 18) (q := 12) dX3_wayFrom_9 (by decide) rfl ?_ ?_
  · refine z_iconst C (q := 19) dX3_wayFrom_18 rfl lt_iconst_m1 ?_
    exact z_iret C dX3_wayFrom_19
  refine z_iload_n C (q := 13) 1 dX3_wayFrom_12 rfl rfl ?_
  refine z_bipush C (q := 15) dX3_wayFrom_13 rfl lt_bipush_40 ?_
  refine z_icmp_lt C (tgt := 20) (q := 18) dX3_wayFrom_15 (by decide) rfl ?_ ?_
  · refine z_iload_n C (q := 21) 2 dX3_wayFrom_20 rfl rfl ?_
    refine z_if_lt C (tgt := 39) (q := 24) dX3_wayFrom_21 (by decide) rfl ?_ ?_
    · refine z_iconst C (q := 40) dX3_wayFrom_39 rfl lt_iconst_m1 ?_
      exact z_iret C dX3_wayFrom_40
    refine z_iload_n C (q := 25) 2 dX3_wayFrom_24 rfl rfl ?_
    refine z_aload_n C (q := 26) 0 dX3_wayFrom_25 rfl rfl ?_
    refine z_getR C (q := 29) ha.1 fF_X3_30 rfl dX3_wayFrom_26 rfl ?_
    refine z_iload_n C (q := 30) 1 dX3_wayFrom_29 rfl rfl ?_
    refine z_iald C (q := 31) ha.2.2.2.2.2.2.2 dX3_wayFrom_30 rfl ?_
    refine z_icmp_ge C (tgt := 39) (q := 34) dX3_wayFrom_31 (by decide) rfl ?_ ?_
    · refine z_iconst C (q := 40) dX3_wayFrom_39 rfl lt_iconst_m1 ?_
      exact z_iret C dX3_wayFrom_40
    refine z_iload_n C (q := 35) 2 dX3_wayFrom_34 rfl rfl ?_
    refine z_iconst C (q := 36) dX3_wayFrom_35 rfl lt_iconst_5 ?_
    refine z_icmp_lt C (tgt := 41) (q := 39) dX3_wayFrom_36 (by decide) rfl ?_ ?_
    · refine z_aload_n C (q := 42) 0 dX3_wayFrom_41 rfl rfl ?_
      refine z_getR C (q := 45) ha.1 fF_X3_27 rfl dX3_wayFrom_42 rfl ?_
      refine z_iload_n C (q := 46) 1 dX3_wayFrom_45 rfl rfl ?_
      refine z_iconst C (q := 47) dX3_wayFrom_46 rfl lt_iconst_5 ?_
      refine z_imul C (q := 48) dX3_wayFrom_47 rfl ?_
      refine z_iload_n C (q := 49) 2 dX3_wayFrom_48 rfl rfl ?_
      refine z_iadd C (q := 50) dX3_wayFrom_49 rfl ?_
      refine z_iald C (q := 51) ha.2.2.2.2.2.2.1 dX3_wayFrom_50 rfl ?_
      exact z_iret C dX3_wayFrom_51
    refine z_iconst C (q := 40) dX3_wayFrom_39 rfl lt_iconst_m1 ?_
    exact z_iret C dX3_wayFrom_40
  refine z_iconst C (q := 19) dX3_wayFrom_18 rfl lt_iconst_m1 ?_
  exact z_iret C dX3_wayFrom_19
set_option maxRecDepth 100000 in
set_option maxHeartbeats 4000000 in
theorem l_X1_setLiking_31 {G : gG} {X : gX} {ad : Nat → Nat} (C : g_K G X LC ad cX1_setLiking 6 RX1 none 1)   (v1 : Int32) (v3 : Int32) {k : Int32 → gS → gR} (hk : ∀ (v4 : Int32) (s : gS), g_Z G X LC ad 6 78 [] [] s (k v4 s)) : ∀ (n : Nat) (v4 : Int32) (s : gS), g_Z G X LC ad 6 31 [(0, .ref (ad 33)), (1, .int v1), (3, .int v3), (4, .int v4)] [] s (f_X1_setLiking_31 v1 v3 k n v4 s) := by
  intro n
  induction n with
  | zero => intros; exact z_none
  | succ n ih =>
    intro v4 s
    rw [f_X1_setLiking_31.eq_2]
    refine z_iload C (q := 33) 3 dX1_setLiking_31 rfl rfl ?_
    refine z_iconst C (q := 34) dX1_setLiking_33 rfl lt_iconst_5 ?_
    refine z_icmp_ge C (tgt := 78) (q := 37) dX1_setLiking_34 (by decide) rfl ?_ ?_
    · exact z_sub [] rfl (hk v4 s)
    refine z_aload_n C (q := 38) 0 dX1_setLiking_37 rfl rfl ?_
    refine z_getR C (q := 41) ob_33 fF_X1_25 rfl dX1_setLiking_38 rfl ?_
    refine z_iload_n C (q := 42) 1 dX1_setLiking_41 rfl rfl ?_
    refine z_iload C (q := 44) 3 dX1_setLiking_42 rfl rfl ?_
    refine z_callV C (q := 47) [.int v1, .int v4] gl_X1_59 glv_X3_wayFrom hLand_14.1 rfl (m_X3_wayFrom G (g_Kap C) 14 hLand_14 v1 v4 _) rfl rfl (Nat.le_of_ble_eq_true rfl) ⟨by decide, by decide⟩ dX1_setLiking_44 rfl (z_ki (fun r6 s5 => ?_))
    refine z_istore C (q := 49) [(5, .int r6), (0, .ref (ad 33)), (1, .int v1), (3, .int v3), (4, .int v4)] dX1_setLiking_47 rfl (by decide) rfl ?_
    refine z_aload_n C (q := 50) 1 dX1_setLiking_49 rfl rfl ?_
    refine z_getR C (q := 53) ob_33 fF_X1_25 rfl dX1_setLiking_50 rfl ?_
    refine z_iload C (q := 55) 0 dX1_setLiking_53 rfl rfl ?_
    refine z_callV C (q := 58) [.int r6] gl_X1_55 glv_X3_has hLand_14.1 rfl (m_X3_has G (g_Kap C) 14 hLand_14 r6 _) rfl rfl (Nat.le_of_ble_eq_true rfl) ⟨by decide, by decide⟩ dX1_setLiking_55 rfl (z_ki (fun r8 s7 => ?_))
    refine z_if_eq C (tgt := 72) (q := 61) dX1_setLiking_58 (by decide) rfl ?_ ?_
    · refine z_iinc C (q := 75) 4 [(4, .int (v4 + 1)), (5, .int r6), (0, .ref (ad 33)), (1, .int v1), (3, .int v3)] dX1_setLiking_72 rfl rfl (lt_iinc_1 _) (by decide) rfl ?_
      refine z_goto C (tgt := 31) dX1_setLiking_75 (by decide) ?_
      exact z_sub [2, 3, 4, 0] rfl (ih (v4 + 1) s7)
    refine z_aload_n C (q := 62) 1 dX1_setLiking_61 rfl rfl ?_
    refine z_getR C (q := 65) ob_33 fF_X1_15 rfl dX1_setLiking_62 rfl ?_
    refine z_iload C (q := 67) 0 dX1_setLiking_65 rfl rfl ?_
    refine z_dup2_11 C (q := 68) dX1_setLiking_67 rfl rfl rfl ?_
    refine z_iald C (q := 69) ar_35 dX1_setLiking_68 rfl ?_
    refine z_iload_n C (q := 70) 3 dX1_setLiking_69 rfl rfl ?_
    refine z_iadd C (q := 71) dX1_setLiking_70 rfl ?_
    refine z_iast C (q := 72) ar_35 dX1_setLiking_71 rfl (fun s9 => ?_)
    refine z_iinc C (q := 75) 4 [(4, .int (v4 + 1)), (5, .int r6), (0, .ref (ad 33)), (1, .int v1), (3, .int v3)] dX1_setLiking_72 rfl rfl (lt_iinc_1 _) (by decide) rfl ?_
    refine z_goto C (tgt := 31) dX1_setLiking_75 (by decide) ?_
    exact z_sub [2, 3, 4, 0] rfl (ih (v4 + 1) s9)
set_option maxRecDepth 100000 in
set_option maxHeartbeats 4000000 in
theorem m_X1_setLiking (G : gG) {ad : Nat → Nat} (hap : g_ap LC ad)   (v1 : Int32) (v2 : Int32) (s : gS) : g_M G LC ad yX1_setLiking cX1_setLiking 6 none 1 [.ref (ad 33), .int v1, .int v2] s (f_X1_setLiking v1 v2 s) := by
  refine g_entry (by decide) hap (Nat.le_of_ble_eq_true rfl) [(0, .ref (ad 33)), (1, .int v1), (2, .int v2)] rfl (fun X C => ?_)
  unfold f_X1_setLiking
  refine z_aload_n C (q := 1) 0 dX1_setLiking_0 rfl rfl ?_
  refine z_getR C (q := 4) ob_33 fF_X1_25 rfl dX1_setLiking_1 rfl ?_
  refine z_iload_n C (q := 5) 1 dX1_setLiking_4 rfl rfl ?_
  refine z_callV C (q := 8) [.int v1] gl_X1_55 glv_X3_has hLand_14.1 rfl (m_X3_has G (g_Kap C) 14 hLand_14 v1 _) rfl rfl (Nat.le_of_ble_eq_true rfl) ⟨by decide, by decide⟩ dX1_setLiking_5 rfl (z_ki (fun r2 s1 => ?_))
  refine z_if_ne C (tgt := 12) (q := 11) dX1_setLiking_8 (by decide) rfl ?_ ?_
  · refine z_iload_n C (q := 13) 2 dX1_setLiking_12 rfl rfl ?_
    refine z_aload_n C (q := 14) 0 dX1_setLiking_13 rfl rfl ?_
    refine z_getR C (q := 17) ob_33 fF_X1_9 rfl dX1_setLiking_14 rfl ?_
    refine z_iload_n C (q := 18) 1 dX1_setLiking_17 rfl rfl ?_
    refine z_iald C (q := 19) ar_34 dX1_setLiking_18 rfl ?_
    refine z_isub C (q := 20) dX1_setLiking_19 rfl ?_
    refine z_leti (fun v3_3 => ?_)
    refine z_istore_n C (q := 21) [(3, .int v3_3), (0, .ref (ad 33)), (1, .int v1), (2, .int v2)] dX1_setLiking_20 rfl rfl (by decide) rfl ?_
    refine z_aload_n C (q := 22) 1 dX1_setLiking_21 rfl rfl ?_
    refine z_getR C (q := 25) ob_33 fF_X1_9 rfl dX1_setLiking_22 rfl ?_
    refine z_iload_n C (q := 26) 2 dX1_setLiking_25 rfl rfl ?_
    refine z_iload_n C (q := 27) 3 dX1_setLiking_26 rfl rfl ?_
    refine z_iast C (q := 28) ar_34 dX1_setLiking_27 rfl (fun s4 => ?_)
    refine z_iconst C (q := 29) dX1_setLiking_28 rfl lt_iconst_0 ?_
    refine z_istore C (q := 31) [(4, .int (0 : Int32)), (3, .int v3_3), (0, .ref (ad 33)), (1, .int v1), (2, .int v2)] dX1_setLiking_29 rfl (by decide) rfl ?_
    refine z_sub [2, 3, 1, 0] rfl (l_X1_setLiking_31 C v1 v3_3 (fun v4_10 s11 => ?_) g_N (0 : Int32) s4)
    exact z_vret C dX1_setLiking_78
  exact z_vret C dX1_setLiking_11
set_option maxRecDepth 100000 in
set_option maxHeartbeats 4000000 in
theorem l_X1_lookAround_2 {G : gG} {X : gX} {ad : Nat → Nat} (C : g_K G X LC ad cX1_lookAround 3 RX1 none 2)   (v1 : Int32) {k : Int32 → gS → gR} (hk : ∀ (v2 : Int32) (s : gS), g_Z G X LC ad 3 33 [(0, .ref (ad 33)), (1, .int v1)] [] s (k v2 s)) : ∀ (n : Nat) (v2 : Int32) (s : gS), g_Z G X LC ad 3 2 [(0, .ref (ad 33)), (1, .int v1), (2, .int v2)] [] s (f_X1_lookAround_2 v1 k n v2 s) := by
  intro n
  induction n with
  | zero => intros; exact z_none
  | succ n ih =>
    intro v2 s
    rw [f_X1_lookAround_2.eq_2]
    refine z_iload_n C (q := 3) 2 dX1_lookAround_2 rfl rfl ?_
    refine z_aload_n C (q := 4) 0 dX1_lookAround_3 rfl rfl ?_
    refine z_getR C (q := 7) ob_33 fF_X1_25 rfl dX1_lookAround_4 rfl ?_
    refine z_getI C (q := 10) hLand_14.1 fF_X1_33 rfl dX1_lookAround_7 rfl ?_
    refine z_icmp_ge C (tgt := 33) (q := 13) dX1_lookAround_10 (by decide) rfl ?_ ?_
    · exact z_sub [0, 1] rfl (hk v2 s)
    refine z_aload_n C (q := 14) 0 dX1_lookAround_13 rfl rfl ?_
    refine z_getR C (q := 17) ob_33 fF_X1_9 rfl dX1_lookAround_14 rfl ?_
    refine z_iload_n C (q := 18) 2 dX1_lookAround_17 rfl rfl ?_
    refine z_iconst C (q := 19) dX1_lookAround_18 rfl lt_iconst_0 ?_
    refine z_iast C (q := 20) ar_34 dX1_lookAround_19 rfl (fun s1 => ?_)
    refine z_aload_n C (q := 21) 0 dX1_lookAround_20 rfl rfl ?_
    refine z_getR C (q := 24) ob_33 fF_X1_15 rfl dX1_lookAround_21 rfl ?_
    refine z_iload_n C (q := 25) 2 dX1_lookAround_24 rfl rfl ?_
    refine z_iconst C (q := 26) dX1_lookAround_25 rfl lt_iconst_0 ?_
    refine z_iast C (q := 27) ar_35 dX1_lookAround_26 rfl (fun s2 => ?_)
    refine z_iinc C (q := 30) 2 [(2, .int (v2 + 1)), (0, .ref (ad 33)), (1, .int v1)] dX1_lookAround_27 rfl rfl (lt_iinc_1 _) (by decide) rfl ?_
    refine z_goto C (tgt := 2) dX1_lookAround_30 (by decide) ?_
    exact z_sub [1, 2, 0] rfl (ih (v2 + 1) s2)
set_option maxRecDepth 100000 in
set_option maxHeartbeats 4000000 in
theorem l_X1_lookAround_35 {G : gG} {X : gX} {ad : Nat → Nat} (C : g_K G X LC ad cX1_lookAround 3 RX1 none 2)   (v1 : Int32) {k : Int32 → gS → gR} (hk : ∀ (v2 : Int32) (s : gS), g_Z G X LC ad 3 84 [] [] s (k v2 s)) : ∀ (n : Nat) (v2 : Int32) (s : gS), g_Z G X LC ad 3 35 [(0, .ref (ad 33)), (1, .int v1), (2, .int v2)] [] s (f_X1_lookAround_35 v1 k n v2 s) := by
  intro n
  induction n with
  | zero => intros; exact z_none
  | succ n ih =>
    intro v2 s
    rw [f_X1_lookAround_35.eq_2]
    refine z_iload_n C (q := 36) 2 dX1_lookAround_35 rfl rfl ?_
    refine z_aload_n C (q := 37) 0 dX1_lookAround_36 rfl rfl ?_
    refine z_getR C (q := 40) ob_33 fF_X1_25 rfl dX1_lookAround_37 rfl ?_
    refine z_getI C (q := 43) hLand_14.1 fF_X1_33 rfl dX1_lookAround_40 rfl ?_
    refine z_icmp_ge C (tgt := 84) (q := 46) dX1_lookAround_43 (by decide) rfl ?_ ?_
    · exact z_sub [] rfl (hk v2 s)
    refine z_aload_n C (q := 47) 0 dX1_lookAround_46 rfl rfl ?_
    refine z_iload_n C (q := 48) 2 dX1_lookAround_47 rfl rfl ?_
    refine z_aload_n C (q := 49) 0 dX1_lookAround_48 rfl rfl ?_
    refine z_getR C (q := 52) ob_33 fF_X1_25 rfl dX1_lookAround_49 rfl ?_
    refine z_iload_n C (q := 53) 2 dX1_lookAround_52 rfl rfl ?_
    refine z_aload_n C (q := 54) 0 dX1_lookAround_53 rfl rfl ?_
    refine z_getR C (q := 57) ob_33 fF_X1_29 rfl dX1_lookAround_54 rfl ?_
    refine z_getR C (q := 60) hPast_22.1 fF_X1_39 rfl dX1_lookAround_57 rfl ?_
    refine z_iload_n C (q := 61) 2 dX1_lookAround_60 rfl rfl ?_
    refine z_iald C (q := 62) hPast_22.2.1 dX1_lookAround_61 rfl ?_
    refine z_iload_n C (q := 63) 2 dX1_lookAround_62 rfl rfl ?_
    refine z_iload_n C (q := 64) 1 dX1_lookAround_63 rfl rfl ?_
    refine z_icmp_ne C (tgt := 71) (q := 67) dX1_lookAround_64 (by decide) rfl ?_ ?_
    · refine z_iconst C (q := 72) dX1_lookAround_71 rfl lt_iconst_0 ?_
      refine z_callV C (q := 75) [.int v2, .int (s.1 23 v2.toNatClampNeg), .int (0 : Int32)] gl_X1_44 glv_X3_liking hLand_14.1 rfl (m_X3_liking G (g_Kap C) 14 hLand_14 v2 (s.1 23 v2.toNatClampNeg) (0 : Int32) _) rfl rfl (Nat.le_of_ble_eq_true rfl) ⟨by decide, by decide⟩ dX1_lookAround_72 rfl (z_ki (fun r6 s5 => ?_))
      refine z_callV C (q := 78) [.int v2, .int r6] gl_X1_48 glv_X1_setLiking ob_33 rfl (m_X1_setLiking G (g_Kap C) v2 r6 _) rfl rfl (Nat.le_of_ble_eq_true rfl) ⟨by decide, by decide⟩ dX1_lookAround_75 rfl (z_kv (fun s7 => ?_))
      refine z_iinc C (q := 81) 2 [(2, .int (v2 + 1)), (0, .ref (ad 33)), (1, .int v1)] dX1_lookAround_78 rfl rfl (lt_iinc_1 _) (by decide) rfl ?_
      refine z_goto C (tgt := 35) dX1_lookAround_81 (by decide) ?_
      exact z_sub [1, 2, 0] rfl (ih (v2 + 1) s7)
    refine z_iconst C (q := 68) dX1_lookAround_67 rfl lt_iconst_1 ?_
    refine z_goto C (tgt := 72) dX1_lookAround_68 (by decide) ?_
    refine z_callV C (q := 75) [.int v2, .int (s.1 23 v2.toNatClampNeg), .int (1 : Int32)] gl_X1_44 glv_X3_liking hLand_14.1 rfl (m_X3_liking G (g_Kap C) 14 hLand_14 v2 (s.1 23 v2.toNatClampNeg) (1 : Int32) _) rfl rfl (Nat.le_of_ble_eq_true rfl) ⟨by decide, by decide⟩ dX1_lookAround_72 rfl (z_ki (fun r9 s8 => ?_))
    refine z_callV C (q := 78) [.int v2, .int r9] gl_X1_48 glv_X1_setLiking ob_33 rfl (m_X1_setLiking G (g_Kap C) v2 r9 _) rfl rfl (Nat.le_of_ble_eq_true rfl) ⟨by decide, by decide⟩ dX1_lookAround_75 rfl (z_kv (fun s10 => ?_))
    refine z_iinc C (q := 81) 2 [(2, .int (v2 + 1)), (0, .ref (ad 33)), (1, .int v1)] dX1_lookAround_78 rfl rfl (lt_iinc_1 _) (by decide) rfl ?_
    refine z_goto C (tgt := 35) dX1_lookAround_81 (by decide) ?_
    exact z_sub [1, 2, 0] rfl (ih (v2 + 1) s10)
set_option maxRecDepth 100000 in
set_option maxHeartbeats 4000000 in
theorem m_X1_lookAround (G : gG) {ad : Nat → Nat} (hap : g_ap LC ad)   (v1 : Int32) (s : gS) : g_M G LC ad yX1_lookAround cX1_lookAround 3 none 2 [.ref (ad 33), .int v1] s (f_X1_lookAround v1 s) := by
  refine g_entry (by decide) hap (Nat.le_of_ble_eq_true rfl) [(0, .ref (ad 33)), (1, .int v1)] rfl (fun X C => ?_)
  unfold f_X1_lookAround
  refine z_iconst C (q := 1) dX1_lookAround_0 rfl lt_iconst_0 ?_
  refine z_istore_n C (q := 2) [(2, .int (0 : Int32)), (0, .ref (ad 33)), (1, .int v1)] dX1_lookAround_1 rfl rfl (by decide) rfl ?_
  refine z_sub [1, 2, 0] rfl (l_X1_lookAround_2 C v1 (fun v2_3 s4 => ?_) g_N (0 : Int32) s)
  refine z_iconst C (q := 34) dX1_lookAround_33 rfl lt_iconst_0 ?_
  refine z_istore_n C (q := 35) [(2, .int (0 : Int32)), (0, .ref (ad 33)), (1, .int v1)] dX1_lookAround_34 rfl rfl (by decide) rfl ?_
  refine z_sub [1, 2, 0] rfl (l_X1_lookAround_35 C v1 (fun v2_11 s12 => ?_) g_N (0 : Int32) s4)
  exact z_vret C dX1_lookAround_84
set_option maxRecDepth 100000 in
set_option maxHeartbeats 4000000 in
theorem m_X1_tryGrass (G : gG) {ad : Nat → Nat} (hap : g_ap LC ad)   (v1 : Int32) (v2 : Int32) (s : gS) : g_M G LC ad yX1_tryGrass cX1_tryGrass 3 none 2 [.ref (ad 33), .int v1, .int v2] s (f_X1_tryGrass v1 v2 s) := by
  refine g_entry (by decide) hap (Nat.le_of_ble_eq_true rfl) [(0, .ref (ad 33)), (1, .int v1), (2, .int v2)] rfl (fun X C => ?_)
  unfold f_X1_tryGrass
  refine z_aload_n C (q := 1) 0 dX1_tryGrass_0 rfl rfl ?_
  refine z_iload_n C (q := 2) 1 dX1_tryGrass_1 rfl rfl ?_
  refine z_aload_n C (q := 3) 0 dX1_tryGrass_2 rfl rfl ?_
  refine z_getR C (q := 6) ob_33 fF_X1_25 rfl dX1_tryGrass_3 rfl ?_
  refine z_iload_n C (q := 7) 1 dX1_tryGrass_6 rfl rfl ?_
  refine z_iload_n C (q := 8) 2 dX1_tryGrass_7 rfl rfl ?_
  refine z_iload_n C (q := 9) 1 dX1_tryGrass_8 rfl rfl ?_
  refine z_aload_n C (q := 10) 0 dX1_tryGrass_9 rfl rfl ?_
  refine z_getR C (q := 13) ob_33 fF_X1_29 rfl dX1_tryGrass_10 rfl ?_
  refine z_getI C (q := 16) hPast_22.1 fF_X1_52 rfl dX1_tryGrass_13 rfl ?_
  refine z_icmp_ne C (tgt := 23) (q := 19) dX1_tryGrass_16 (by decide) rfl ?_ ?_
  · refine z_iconst C (q := 24) dX1_tryGrass_23 rfl lt_iconst_0 ?_
    refine z_callV C (q := 27) [.int v1, .int v2, .int (0 : Int32)] gl_X1_44 glv_X3_liking hLand_14.1 rfl (m_X3_liking G (g_Kap C) 14 hLand_14 v1 v2 (0 : Int32) _) rfl rfl (Nat.le_of_ble_eq_true rfl) ⟨by decide, by decide⟩ dX1_tryGrass_24 rfl (z_ki (fun r2 s1 => ?_))
    refine z_callV C (q := 30) [.int v1, .int r2] gl_X1_48 glv_X1_setLiking ob_33 rfl (m_X1_setLiking G (g_Kap C) v1 r2 _) rfl rfl (Nat.le_of_ble_eq_true rfl) ⟨by decide, by decide⟩ dX1_tryGrass_27 rfl (z_kv (fun s3 => ?_))
    exact z_vret C dX1_tryGrass_30
  refine z_iconst C (q := 20) dX1_tryGrass_19 rfl lt_iconst_1 ?_
  refine z_goto C (tgt := 24) dX1_tryGrass_20 (by decide) ?_
  refine z_callV C (q := 27) [.int v1, .int v2, .int (1 : Int32)] gl_X1_44 glv_X3_liking hLand_14.1 rfl (m_X3_liking G (g_Kap C) 14 hLand_14 v1 v2 (1 : Int32) _) rfl rfl (Nat.le_of_ble_eq_true rfl) ⟨by decide, by decide⟩ dX1_tryGrass_24 rfl (z_ki (fun r5 s4 => ?_))
  refine z_callV C (q := 30) [.int v1, .int r5] gl_X1_48 glv_X1_setLiking ob_33 rfl (m_X1_setLiking G (g_Kap C) v1 r5 _) rfl rfl (Nat.le_of_ble_eq_true rfl) ⟨by decide, by decide⟩ dX1_tryGrass_27 rfl (z_kv (fun s6 => ?_))
  exact z_vret C dX1_tryGrass_30
set_option maxRecDepth 100000 in
set_option maxHeartbeats 4000000 in
theorem l_X1_wake_2 {G : gG} {X : gX} {ad : Nat → Nat} (C : g_K G X LC ad cX1_wake 2 RX1 none 1)    {k : Int32 → gS → gR} (hk : ∀ (v1 : Int32) (s : gS), g_Z G X LC ad 2 21 [(0, .ref (ad 33))] [] s (k v1 s)) : ∀ (n : Nat) (v1 : Int32) (s : gS), g_Z G X LC ad 2 2 [(0, .ref (ad 33)), (1, .int v1)] [] s (f_X1_wake_2  k n v1 s) := by
  intro n
  induction n with
  | zero => intros; exact z_none
  | succ n ih =>
    intro v1 s
    rw [f_X1_wake_2.eq_2]
    refine z_iload_n C (q := 3) 1 dX1_wake_2 rfl rfl ?_
    refine z_bipush C (q := 5) dX1_wake_3 rfl lt_bipush_40 ?_
    refine z_icmp_ge C (tgt := 21) (q := 8) dX1_wake_5 (by decide) rfl ?_ ?_
    · exact z_sub [0] rfl (hk v1 s)
    refine z_aload_n C (q := 9) 0 dX1_wake_8 rfl rfl ?_
    refine z_getR C (q := 12) ob_33 fF_X1_18 rfl dX1_wake_9 rfl ?_
    refine z_iload_n C (q := 13) 1 dX1_wake_12 rfl rfl ?_
    refine z_lconst C (q := 14) (v := 0) dX1_wake_13 rfl rfl ?_
    refine z_last C (q := 15) ar_36 dX1_wake_14 rfl (fun s1 => ?_)
    refine z_iinc C (q := 18) 1 [(1, .int (v1 + 1)), (0, .ref (ad 33))] dX1_wake_15 rfl rfl (lt_iinc_1 _) (by decide) rfl ?_
    refine z_goto C (tgt := 2) dX1_wake_18 (by decide) ?_
    exact z_sub [1, 0] rfl (ih (v1 + 1) s1)
set_option maxRecDepth 100000 in
set_option maxHeartbeats 4000000 in
theorem m_X1_wake (G : gG) {ad : Nat → Nat} (hap : g_ap LC ad)    (s : gS) : g_M G LC ad yX1_wake cX1_wake 2 none 1 [.ref (ad 33)] s (f_X1_wake s) := by
  refine g_entry (by decide) hap (Nat.le_of_ble_eq_true rfl) [(0, .ref (ad 33))] rfl (fun X C => ?_)
  unfold f_X1_wake
  refine z_iconst C (q := 1) dX1_wake_0 rfl lt_iconst_0 ?_
  refine z_istore_n C (q := 2) [(1, .int (0 : Int32)), (0, .ref (ad 33))] dX1_wake_1 rfl rfl (by decide) rfl ?_
  refine z_sub [1, 0] rfl (l_X1_wake_2 C  (fun v1_2 s3 => ?_) g_N (0 : Int32) s)
  refine z_aload_n C (q := 22) 0 dX1_wake_21 rfl rfl ?_
  refine z_getR C (q := 25) ob_33 fF_X1_25 rfl dX1_wake_22 rfl ?_
  refine z_aload_n C (q := 26) 0 dX1_wake_25 rfl rfl ?_
  refine z_getR C (q := 29) ob_33 fF_X1_29 rfl dX1_wake_26 rfl ?_
  refine z_getI C (q := 32) hPast_22.1 fF_X1_63 rfl dX1_wake_29 rfl ?_
  refine z_callV C (q := 35) [.int (s3.1 22 3)] gl_X1_55 glv_X3_has hLand_14.1 rfl (m_X3_has G (g_Kap C) 14 hLand_14 (s3.1 22 3) _) rfl rfl (Nat.le_of_ble_eq_true rfl) ⟨by decide, by decide⟩ dX1_wake_32 rfl (z_ki (fun r5 s4 => ?_))
  refine z_if_eq C (tgt := 53) (q := 38) dX1_wake_35 (by decide) rfl ?_ ?_
  · exact z_vret C dX1_wake_53
  refine z_aload_n C (q := 39) 0 dX1_wake_38 rfl rfl ?_
  refine z_getR C (q := 42) ob_33 fF_X1_18 rfl dX1_wake_39 rfl ?_
  refine z_aload_n C (q := 43) 0 dX1_wake_42 rfl rfl ?_
  refine z_getR C (q := 46) ob_33 fF_X1_29 rfl dX1_wake_43 rfl ?_
  refine z_getI C (q := 49) hPast_22.1 fF_X1_63 rfl dX1_wake_46 rfl ?_
  refine z_ldc2 C (q := 52) dX1_wake_49 rfl wm_698 ?_
  refine z_last C (q := 53) ar_36 dX1_wake_52 rfl (fun s6 => ?_)
  exact z_vret C dX1_wake_53
set_option maxRecDepth 100000 in
set_option maxHeartbeats 4000000 in
theorem l_X1_partFrom_36 {G : gG} {X : gX} {ad : Nat → Nat} (C : g_K G X LC ad cX1_partFrom 10 RX1 none 1)   (v1 : Int32) (v2 : Int32) (v5 : Int32) {k : Int64 → Int32 → gS → gR} (hk : ∀ (v3 : Int64) (v6 : Int32) (s : gS), g_Z G X LC ad 10 113 [(0, .ref (ad 33)), (1, .int v1), (3, .long v3), (5, .int v5)] [] s (k v3 v6 s)) : ∀ (n : Nat) (v3 : Int64) (v6 : Int32) (s : gS), g_Z G X LC ad 10 36 [(0, .ref (ad 33)), (1, .int v1), (2, .int v2), (3, .long v3), (5, .int v5), (6, .int v6)] [] s (f_X1_partFrom_36 v1 v2 v5 k n v3 v6 s) := by
  intro n
  induction n with
  | zero => intros; exact z_none
  | succ n ih =>
    intro v3 v6 s
    rw [f_X1_partFrom_36.eq_2]
    refine z_iload C (q := 38) 5 dX1_partFrom_36 rfl rfl ?_
    refine z_iload C (q := 40) 4 dX1_partFrom_38 rfl rfl ?_
    refine z_icmp_ge C (tgt := 113) (q := 43) dX1_partFrom_40 (by decide) rfl ?_ ?_
    · exact z_sub [0, 1, 3, 4] rfl (hk v3 v6 s)
    refine z_aload_n C (q := 44) 0 dX1_partFrom_43 rfl rfl ?_
    refine z_getR C (q := 47) ob_33 fF_X1_25 rfl dX1_partFrom_44 rfl ?_
    refine z_iload_n C (q := 48) 1 dX1_partFrom_47 rfl rfl ?_
    refine z_iload C (q := 50) 5 dX1_partFrom_48 rfl rfl ?_
    refine z_callV C (q := 53) [.int v1, .int v6] gl_X1_59 glv_X3_wayFrom hLand_14.1 rfl (m_X3_wayFrom G (g_Kap C) 14 hLand_14 v1 v6 _) rfl rfl (Nat.le_of_ble_eq_true rfl) ⟨by decide, by decide⟩ dX1_partFrom_50 rfl (z_ki (fun r5 s4 => ?_))
    refine z_istore C (q := 55) [(7, .int r5), (0, .ref (ad 33)), (1, .int v1), (2, .int v2), (3, .long v3), (5, .int v5), (6, .int v6)] dX1_partFrom_53 rfl (by decide) rfl ?_
    refine z_aload_n C (q := 56) 1 dX1_partFrom_55 rfl rfl ?_
    refine z_getR C (q := 59) ob_33 fF_X1_25 rfl dX1_partFrom_56 rfl ?_
    refine z_iload C (q := 61) 0 dX1_partFrom_59 rfl rfl ?_
    refine z_callV C (q := 64) [.int r5] gl_X1_55 glv_X3_has hLand_14.1 rfl (m_X3_has G (g_Kap C) 14 hLand_14 r5 _) rfl rfl (Nat.le_of_ble_eq_true rfl) ⟨by decide, by decide⟩ dX1_partFrom_61 rfl (z_ki (fun r7 s6 => ?_))
    refine z_if_ne C (tgt := 70) (q := 67) dX1_partFrom_64 (by decide) rfl ?_ ?_
    · refine z_aload_n C (q := 71) 1 dX1_partFrom_70 rfl rfl ?_
      refine z_getR C (q := 74) ob_33 fF_X1_18 rfl dX1_partFrom_71 rfl ?_
      refine z_iload_n C (q := 75) 2 dX1_partFrom_74 rfl rfl ?_
      refine z_lald C (q := 76) ar_36 dX1_partFrom_75 rfl ?_
      refine z_aload_n C (q := 77) 1 dX1_partFrom_76 rfl rfl ?_
      refine z_getR C (q := 80) ob_33 fF_X1_9 rfl dX1_partFrom_77 rfl ?_
      refine z_iload C (q := 82) 0 dX1_partFrom_80 rfl rfl ?_
      refine z_iald C (q := 83) ar_34 dX1_partFrom_82 rfl ?_
      refine z_i2l C (q := 84) dX1_partFrom_83 rfl ?_
      refine z_lmul C (q := 85) dX1_partFrom_84 rfl ?_
      refine z_iload_n C (q := 86) 3 dX1_partFrom_85 rfl rfl ?_
      refine z_i2l C (q := 87) dX1_partFrom_86 rfl ?_
      refine z_ldiv C (q := 88) dX1_partFrom_87 rfl ?_
      refine z_letl (fun v8_8 => ?_)
      refine z_lstore C (q := 90) [(8, .long v8_8), (7, .int r5), (0, .ref (ad 33)), (1, .int v1), (2, .int v2), (3, .long v3), (5, .int v5), (6, .int v6)] dX1_partFrom_88 rfl (by decide) rfl ?_
      refine z_aload_n C (q := 91) 2 dX1_partFrom_90 rfl rfl ?_
      refine z_getR C (q := 94) ob_33 fF_X1_22 rfl dX1_partFrom_91 rfl ?_
      refine z_iload C (q := 96) 1 dX1_partFrom_94 rfl rfl ?_
      refine z_dup2_11 C (q := 97) dX1_partFrom_96 rfl rfl rfl ?_
      refine z_lald C (q := 98) ar_37 dX1_partFrom_97 rfl ?_
      refine z_lload C (q := 100) 0 dX1_partFrom_98 rfl rfl ?_
      refine z_ladd C (q := 101) dX1_partFrom_100 rfl ?_
      refine z_last C (q := 102) ar_37 dX1_partFrom_101 rfl (fun s9 => ?_)
      refine z_lload_n C (q := 103) 5 dX1_partFrom_102 rfl rfl ?_
      refine z_lload C (q := 105) 0 dX1_partFrom_103 rfl rfl ?_
      refine z_lsub C (q := 106) dX1_partFrom_105 rfl ?_
      refine z_letl (fun v3_10 => ?_)
      refine z_lstore_n C (q := 107) [(3, .long v3_10), (8, .long v8_8), (7, .int r5), (0, .ref (ad 33)), (1, .int v1), (2, .int v2), (5, .int v5), (6, .int v6)] dX1_partFrom_106 rfl rfl (by decide) rfl ?_
      refine z_iinc C (q := 110) 7 [(6, .int (v6 + 1)), (3, .long v3_10), (8, .long v8_8), (7, .int r5), (0, .ref (ad 33)), (1, .int v1), (2, .int v2), (5, .int v5)] dX1_partFrom_107 rfl rfl (lt_iinc_1 _) (by decide) rfl ?_
      refine z_goto C (tgt := 36) dX1_partFrom_110 (by decide) ?_
      exact z_sub [4, 5, 6, 1, 7, 0] rfl (ih v3_10 (v6 + 1) s9)
    refine z_goto C (tgt := 107) dX1_partFrom_67 (by decide) ?_
    refine z_iinc C (q := 110) 6 [(6, .int (v6 + 1)), (7, .int r5), (0, .ref (ad 33)), (1, .int v1), (2, .int v2), (3, .long v3), (5, .int v5)] dX1_partFrom_107 rfl rfl (lt_iinc_1 _) (by decide) rfl ?_
    refine z_goto C (tgt := 36) dX1_partFrom_110 (by decide) ?_
    exact z_sub [2, 3, 4, 5, 6, 0] rfl (ih v3 (v6 + 1) s6)
set_option maxRecDepth 100000 in
set_option maxHeartbeats 4000000 in
theorem m_X1_partFrom (G : gG) {ad : Nat → Nat} (hap : g_ap LC ad)   (v1 : Int32) (s : gS) : g_M G LC ad yX1_partFrom cX1_partFrom 10 none 1 [.ref (ad 33), .int v1] s (f_X1_partFrom v1 s) := by
  refine g_entry (by decide) hap (Nat.le_of_ble_eq_true rfl) [(0, .ref (ad 33)), (1, .int v1)] rfl (fun X C => ?_)
  unfold f_X1_partFrom
  refine z_aload_n C (q := 1) 0 dX1_partFrom_0 rfl rfl ?_
  refine z_getR C (q := 4) ob_33 fF_X1_15 rfl dX1_partFrom_1 rfl ?_
  refine z_iload_n C (q := 5) 1 dX1_partFrom_4 rfl rfl ?_
  refine z_iald C (q := 6) ar_35 dX1_partFrom_5 rfl ?_
  refine z_leti (fun v2_1 => ?_)
  refine z_istore_n C (q := 7) [(2, .int v2_1), (0, .ref (ad 33)), (1, .int v1)] dX1_partFrom_6 rfl rfl (by decide) rfl ?_
  refine z_iload_n C (q := 8) 0 dX1_partFrom_7 rfl rfl ?_
  refine z_iconst C (q := 9) dX1_partFrom_8 rfl lt_iconst_1 ?_
  refine z_icmp_ge C (tgt := 13) (q := 12) dX1_partFrom_9 (by decide) rfl ?_ ?_
  · refine z_aload_n C (q := 14) 1 dX1_partFrom_13 rfl rfl ?_
    refine z_getR C (q := 17) ob_33 fF_X1_18 rfl dX1_partFrom_14 rfl ?_
    refine z_iload_n C (q := 18) 2 dX1_partFrom_17 rfl rfl ?_
    refine z_lald C (q := 19) ar_36 dX1_partFrom_18 rfl ?_
    refine z_letl (fun v3_2 => ?_)
    refine z_lstore_n C (q := 20) [(3, .long v3_2), (2, .int v2_1), (0, .ref (ad 33)), (1, .int v1)] dX1_partFrom_19 rfl rfl (by decide) rfl ?_
    refine z_aload_n C (q := 21) 2 dX1_partFrom_20 rfl rfl ?_
    refine z_getR C (q := 24) ob_33 fF_X1_25 rfl dX1_partFrom_21 rfl ?_
    refine z_getR C (q := 27) hLand_14.1 fF_X1_78 rfl dX1_partFrom_24 rfl ?_
    refine z_iload_n C (q := 28) 3 dX1_partFrom_27 rfl rfl ?_
    refine z_iald C (q := 29) hLand_14.2.2.2.2.2.2.2 dX1_partFrom_28 rfl ?_
    refine z_iconst C (q := 30) dX1_partFrom_29 rfl lt_iconst_1 ?_
    refine z_isub C (q := 31) dX1_partFrom_30 rfl ?_
    refine z_leti (fun v5_3 => ?_)
    refine z_istore C (q := 33) [(5, .int v5_3), (3, .long v3_2), (2, .int v2_1), (0, .ref (ad 33)), (1, .int v1)] dX1_partFrom_31 rfl (by decide) rfl ?_
    refine z_iconst C (q := 34) dX1_partFrom_33 rfl lt_iconst_0 ?_
    refine z_istore C (q := 36) [(6, .int (0 : Int32)), (5, .int v5_3), (3, .long v3_2), (2, .int v2_1), (0, .ref (ad 33)), (1, .int v1)] dX1_partFrom_34 rfl (by decide) rfl ?_
    refine z_sub [4, 5, 3, 2, 1, 0] rfl (l_X1_partFrom_36 C v1 v2_1 v5_3 (fun v3_11 v6_12 s13 => ?_) g_N v3_2 (0 : Int32) s)
    refine z_aload_n C (q := 114) 0 dX1_partFrom_113 rfl rfl ?_
    refine z_getR C (q := 117) ob_33 fF_X1_25 rfl dX1_partFrom_114 rfl ?_
    refine z_iload_n C (q := 118) 1 dX1_partFrom_117 rfl rfl ?_
    refine z_iload C (q := 120) 3 dX1_partFrom_118 rfl rfl ?_
    refine z_callV C (q := 123) [.int v1, .int v5_3] gl_X1_59 glv_X3_wayFrom hLand_14.1 rfl (m_X3_wayFrom G (g_Kap C) 14 hLand_14 v1 v5_3 _) rfl rfl (Nat.le_of_ble_eq_true rfl) ⟨by decide, by decide⟩ dX1_partFrom_120 rfl (z_ki (fun r15 s14 => ?_))
    refine z_istore C (q := 125) [(6, .int r15), (0, .ref (ad 33)), (1, .int v1), (3, .long v3_11), (5, .int v5_3)] dX1_partFrom_123 rfl (by decide) rfl ?_
    refine z_aload_n C (q := 126) 1 dX1_partFrom_125 rfl rfl ?_
    refine z_getR C (q := 129) ob_33 fF_X1_25 rfl dX1_partFrom_126 rfl ?_
    refine z_iload C (q := 131) 0 dX1_partFrom_129 rfl rfl ?_
    refine z_callV C (q := 134) [.int r15] gl_X1_55 glv_X3_has hLand_14.1 rfl (m_X3_has G (g_Kap C) 14 hLand_14 r15 _) rfl rfl (Nat.le_of_ble_eq_true rfl) ⟨by decide, by decide⟩ dX1_partFrom_131 rfl (z_ki (fun r17 s16 => ?_))
    refine z_if_eq C (tgt := 148) (q := 137) dX1_partFrom_134 (by decide) rfl ?_ ?_
    · exact z_vret C dX1_partFrom_148
    refine z_aload_n C (q := 138) 1 dX1_partFrom_137 rfl rfl ?_
    refine z_getR C (q := 141) ob_33 fF_X1_22 rfl dX1_partFrom_138 rfl ?_
    refine z_iload C (q := 143) 0 dX1_partFrom_141 rfl rfl ?_
    refine z_dup2_11 C (q := 144) dX1_partFrom_143 rfl rfl rfl ?_
    refine z_lald C (q := 145) ar_37 dX1_partFrom_144 rfl ?_
    refine z_lload_n C (q := 146) 3 dX1_partFrom_145 rfl rfl ?_
    refine z_ladd C (q := 147) dX1_partFrom_146 rfl ?_
    refine z_last C (q := 148) ar_37 dX1_partFrom_147 rfl (fun s18 => ?_)
    exact z_vret C dX1_partFrom_148
  exact z_vret C dX1_partFrom_12
set_option maxRecDepth 100000 in
set_option maxHeartbeats 4000000 in
theorem l_X1_passHour_2 {G : gG} {X : gX} {ad : Nat → Nat} (C : g_K G X LC ad cX1_passHour 2 RX1 none 2)    {k : Int32 → gS → gR} (hk : ∀ (v1 : Int32) (s : gS), g_Z G X LC ad 2 21 [(0, .ref (ad 33))] [] s (k v1 s)) : ∀ (n : Nat) (v1 : Int32) (s : gS), g_Z G X LC ad 2 2 [(0, .ref (ad 33)), (1, .int v1)] [] s (f_X1_passHour_2  k n v1 s) := by
  intro n
  induction n with
  | zero => intros; exact z_none
  | succ n ih =>
    intro v1 s
    rw [f_X1_passHour_2.eq_2]
    refine z_iload_n C (q := 3) 1 dX1_passHour_2 rfl rfl ?_
    refine z_bipush C (q := 5) dX1_passHour_3 rfl lt_bipush_40 ?_
    refine z_icmp_ge C (tgt := 21) (q := 8) dX1_passHour_5 (by decide) rfl ?_ ?_
    · exact z_sub [0] rfl (hk v1 s)
    refine z_aload_n C (q := 9) 0 dX1_passHour_8 rfl rfl ?_
    refine z_getR C (q := 12) ob_33 fF_X1_22 rfl dX1_passHour_9 rfl ?_
    refine z_iload_n C (q := 13) 1 dX1_passHour_12 rfl rfl ?_
    refine z_lconst C (q := 14) (v := 0) dX1_passHour_13 rfl rfl ?_
    refine z_last C (q := 15) ar_37 dX1_passHour_14 rfl (fun s1 => ?_)
    refine z_iinc C (q := 18) 1 [(1, .int (v1 + 1)), (0, .ref (ad 33))] dX1_passHour_15 rfl rfl (lt_iinc_1 _) (by decide) rfl ?_
    refine z_goto C (tgt := 2) dX1_passHour_18 (by decide) ?_
    exact z_sub [1, 0] rfl (ih (v1 + 1) s1)
set_option maxRecDepth 100000 in
set_option maxHeartbeats 4000000 in
theorem l_X1_passHour_23 {G : gG} {X : gX} {ad : Nat → Nat} (C : g_K G X LC ad cX1_passHour 2 RX1 none 2)    {k : Int32 → gS → gR} (hk : ∀ (v1 : Int32) (s : gS), g_Z G X LC ad 2 56 [(0, .ref (ad 33))] [] s (k v1 s)) : ∀ (n : Nat) (v1 : Int32) (s : gS), g_Z G X LC ad 2 23 [(0, .ref (ad 33)), (1, .int v1)] [] s (f_X1_passHour_23  k n v1 s) := by
  intro n
  induction n with
  | zero => intros; exact z_none
  | succ n ih =>
    intro v1 s
    rw [f_X1_passHour_23.eq_2]
    refine z_iload_n C (q := 24) 1 dX1_passHour_23 rfl rfl ?_
    refine z_aload_n C (q := 25) 0 dX1_passHour_24 rfl rfl ?_
    refine z_getR C (q := 28) ob_33 fF_X1_25 rfl dX1_passHour_25 rfl ?_
    refine z_getI C (q := 31) hLand_14.1 fF_X1_33 rfl dX1_passHour_28 rfl ?_
    refine z_icmp_ge C (tgt := 56) (q := 34) dX1_passHour_31 (by decide) rfl ?_ ?_
    · exact z_sub [0] rfl (hk v1 s)
    refine z_aload_n C (q := 35) 0 dX1_passHour_34 rfl rfl ?_
    refine z_getR C (q := 38) ob_33 fF_X1_18 rfl dX1_passHour_35 rfl ?_
    refine z_iload_n C (q := 39) 1 dX1_passHour_38 rfl rfl ?_
    refine z_lald C (q := 40) ar_36 dX1_passHour_39 rfl ?_
    refine z_lconst C (q := 41) (v := 0) dX1_passHour_40 rfl rfl ?_
    refine z_lcmp C (q := 42) dX1_passHour_41 rfl ?_
    refine z_if_le C (tgt := 50) (q := 45) dX1_passHour_42 (by decide) rfl ?_ ?_
    · refine z_iinc C (q := 53) 1 [(1, .int (v1 + 1)), (0, .ref (ad 33))] dX1_passHour_50 rfl rfl (lt_iinc_1 _) (by decide) rfl ?_
      refine z_goto C (tgt := 23) dX1_passHour_53 (by decide) ?_
      exact z_sub [1, 0] rfl (ih (v1 + 1) s)
    refine z_aload_n C (q := 46) 0 dX1_passHour_45 rfl rfl ?_
    refine z_iload_n C (q := 47) 1 dX1_passHour_46 rfl rfl ?_
    refine z_callV C (q := 50) [.int v1] gl_X1_74 glv_X1_partFrom ob_33 rfl (m_X1_partFrom G (g_Kap C) v1 _) rfl rfl (Nat.le_of_ble_eq_true rfl) ⟨by decide, by decide⟩ dX1_passHour_47 rfl (z_kv (fun s4 => ?_))
    refine z_iinc C (q := 53) 1 [(1, .int (v1 + 1)), (0, .ref (ad 33))] dX1_passHour_50 rfl rfl (lt_iinc_1 _) (by decide) rfl ?_
    refine z_goto C (tgt := 23) dX1_passHour_53 (by decide) ?_
    exact z_sub [1, 0] rfl (ih (v1 + 1) s4)
set_option maxRecDepth 100000 in
set_option maxHeartbeats 4000000 in
theorem l_X1_passHour_58 {G : gG} {X : gX} {ad : Nat → Nat} (C : g_K G X LC ad cX1_passHour 2 RX1 none 2)    {k : Int32 → gS → gR} (hk : ∀ (v1 : Int32) (s : gS), g_Z G X LC ad 2 82 [] [] s (k v1 s)) : ∀ (n : Nat) (v1 : Int32) (s : gS), g_Z G X LC ad 2 58 [(0, .ref (ad 33)), (1, .int v1)] [] s (f_X1_passHour_58  k n v1 s) := by
  intro n
  induction n with
  | zero => intros; exact z_none
  | succ n ih =>
    intro v1 s
    rw [f_X1_passHour_58.eq_2]
    refine z_iload_n C (q := 59) 1 dX1_passHour_58 rfl rfl ?_
    refine z_bipush C (q := 61) dX1_passHour_59 rfl lt_bipush_40 ?_
    refine z_icmp_ge C (tgt := 82) (q := 64) dX1_passHour_61 (by decide) rfl ?_ ?_
    · exact z_sub [] rfl (hk v1 s)
    refine z_aload_n C (q := 65) 0 dX1_passHour_64 rfl rfl ?_
    refine z_getR C (q := 68) ob_33 fF_X1_18 rfl dX1_passHour_65 rfl ?_
    refine z_iload_n C (q := 69) 1 dX1_passHour_68 rfl rfl ?_
    refine z_aload_n C (q := 70) 0 dX1_passHour_69 rfl rfl ?_
    refine z_getR C (q := 73) ob_33 fF_X1_22 rfl dX1_passHour_70 rfl ?_
    refine z_iload_n C (q := 74) 1 dX1_passHour_73 rfl rfl ?_
    refine z_lald C (q := 75) ar_37 dX1_passHour_74 rfl ?_
    refine z_last C (q := 76) ar_36 dX1_passHour_75 rfl (fun s7 => ?_)
    refine z_iinc C (q := 79) 1 [(1, .int (v1 + 1)), (0, .ref (ad 33))] dX1_passHour_76 rfl rfl (lt_iinc_1 _) (by decide) rfl ?_
    refine z_goto C (tgt := 58) dX1_passHour_79 (by decide) ?_
    exact z_sub [1, 0] rfl (ih (v1 + 1) s7)
set_option maxRecDepth 100000 in
set_option maxHeartbeats 4000000 in
theorem m_X1_passHour (G : gG) {ad : Nat → Nat} (hap : g_ap LC ad)    (s : gS) : g_M G LC ad yX1_passHour cX1_passHour 2 none 2 [.ref (ad 33)] s (f_X1_passHour s) := by
  refine g_entry (by decide) hap (Nat.le_of_ble_eq_true rfl) [(0, .ref (ad 33))] rfl (fun X C => ?_)
  unfold f_X1_passHour
  refine z_iconst C (q := 1) dX1_passHour_0 rfl lt_iconst_0 ?_
  refine z_istore_n C (q := 2) [(1, .int (0 : Int32)), (0, .ref (ad 33))] dX1_passHour_1 rfl rfl (by decide) rfl ?_
  refine z_sub [1, 0] rfl (l_X1_passHour_2 C  (fun v1_2 s3 => ?_) g_N (0 : Int32) s)
  refine z_iconst C (q := 22) dX1_passHour_21 rfl lt_iconst_0 ?_
  refine z_istore_n C (q := 23) [(1, .int (0 : Int32)), (0, .ref (ad 33))] dX1_passHour_22 rfl rfl (by decide) rfl ?_
  refine z_sub [1, 0] rfl (l_X1_passHour_23 C  (fun v1_5 s6 => ?_) g_N (0 : Int32) s3)
  refine z_iconst C (q := 57) dX1_passHour_56 rfl lt_iconst_0 ?_
  refine z_istore_n C (q := 58) [(1, .int (0 : Int32)), (0, .ref (ad 33))] dX1_passHour_57 rfl rfl (by decide) rfl ?_
  refine z_sub [1, 0] rfl (l_X1_passHour_58 C  (fun v1_8 s9 => ?_) g_N (0 : Int32) s6)
  exact z_vret C dX1_passHour_82
set_option maxRecDepth 100000 in
set_option maxHeartbeats 4000000 in
theorem l_X1_run_6 {G : gG} {X : gX} {ad : Nat → Nat} (C : g_K G X LC ad cX1_run 3 RX1 none 3)   (v1 : Int32) {k : Int32 → gS → gR} (hk : ∀ (v2 : Int32) (s : gS), g_Z G X LC ad 3 21 [] [] s (k v2 s)) : ∀ (n : Nat) (v2 : Int32) (s : gS), g_Z G X LC ad 3 6 [(0, .ref (ad 33)), (1, .int v1), (2, .int v2)] [] s (f_X1_run_6 v1 k n v2 s) := by
  intro n
  induction n with
  | zero => intros; exact z_none
  | succ n ih =>
    intro v2 s
    rw [f_X1_run_6.eq_2]
    refine z_iload_n C (q := 7) 2 dX1_run_6 rfl rfl ?_
    refine z_iload_n C (q := 8) 1 dX1_run_7 rfl rfl ?_
    refine z_icmp_ge C (tgt := 21) (q := 11) dX1_run_8 (by decide) rfl ?_ ?_
    · exact z_sub [] rfl (hk v2 s)
    refine z_aload_n C (q := 12) 0 dX1_run_11 rfl rfl ?_
    refine z_callV C (q := 15) [] gl_X1_71 glv_X1_passHour ob_33 rfl (m_X1_passHour G (g_Kap C)  _) rfl rfl (Nat.le_of_ble_eq_true rfl) ⟨by decide, by decide⟩ dX1_run_12 rfl (z_kv (fun s2 => ?_))
    refine z_iinc C (q := 18) 2 [(2, .int (v2 + 1)), (0, .ref (ad 33)), (1, .int v1)] dX1_run_15 rfl rfl (lt_iinc_1 _) (by decide) rfl ?_
    refine z_goto C (tgt := 6) dX1_run_18 (by decide) ?_
    exact z_sub [1, 2, 0] rfl (ih (v2 + 1) s2)
set_option maxRecDepth 100000 in
set_option maxHeartbeats 4000000 in
theorem m_X1_run (G : gG) {ad : Nat → Nat} (hap : g_ap LC ad)   (v1 : Int32) (s : gS) : g_M G LC ad yX1_run cX1_run 3 none 3 [.ref (ad 33), .int v1] s (f_X1_run v1 s) := by
  refine g_entry (by decide) hap (Nat.le_of_ble_eq_true rfl) [(0, .ref (ad 33)), (1, .int v1)] rfl (fun X C => ?_)
  unfold f_X1_run
  refine z_aload_n C (q := 1) 0 dX1_run_0 rfl rfl ?_
  refine z_callV C (q := 4) [] gl_X1_68 glv_X1_wake ob_33 rfl (m_X1_wake G (g_Kap C)  _) rfl rfl (Nat.le_of_ble_eq_true rfl) ⟨by decide, by decide⟩ dX1_run_1 rfl (z_kv (fun s1 => ?_))
  refine z_iconst C (q := 5) dX1_run_4 rfl lt_iconst_0 ?_
  refine z_istore_n C (q := 6) [(2, .int (0 : Int32)), (0, .ref (ad 33)), (1, .int v1)] dX1_run_5 rfl rfl (by decide) rfl ?_
  refine z_sub [1, 2, 0] rfl (l_X1_run_6 C v1 (fun v2_3 s4 => ?_) g_N (0 : Int32) s1)
  exact z_vret C dX1_run_21
set_option maxRecDepth 100000 in
set_option maxHeartbeats 4000000 in
theorem l_X1_likeliest_4 {G : gG} {X : gX} {ad : Nat → Nat} (C : g_K G X LC ad cX1_likeliest 3 RX1 (some .int) 0)    {k : Int32 → Int32 → gS → gR} (hk : ∀ (v1 : Int32) (v2 : Int32) (s : gS), g_Z G X LC ad 3 39 [(1, .int v1)] [] s (k v1 v2 s)) : ∀ (n : Nat) (v1 : Int32) (v2 : Int32) (s : gS), g_Z G X LC ad 3 4 [(0, .ref (ad 33)), (1, .int v1), (2, .int v2)] [] s (f_X1_likeliest_4  k n v1 v2 s) := by
  intro n
  induction n with
  | zero => intros; exact z_none
  | succ n ih =>
    intro v1 v2 s
    rw [f_X1_likeliest_4.eq_2]
    refine z_iload_n C (q := 5) 2 dX1_likeliest_4 rfl rfl ?_
    refine z_aload_n C (q := 6) 0 dX1_likeliest_5 rfl rfl ?_
    refine z_getR C (q := 9) ob_33 fF_X1_25 rfl dX1_likeliest_6 rfl ?_
    refine z_getI C (q := 12) hLand_14.1 fF_X1_33 rfl dX1_likeliest_9 rfl ?_
    refine z_icmp_ge C (tgt := 39) (q := 15) dX1_likeliest_12 (by decide) rfl ?_ ?_
    · exact z_sub [1] rfl (hk v1 v2 s)
    refine z_aload_n C (q := 16) 0 dX1_likeliest_15 rfl rfl ?_
    refine z_getR C (q := 19) ob_33 fF_X1_18 rfl dX1_likeliest_16 rfl ?_
    refine z_iload_n C (q := 20) 2 dX1_likeliest_19 rfl rfl ?_
    refine z_lald C (q := 21) ar_36 dX1_likeliest_20 rfl ?_
    refine z_aload_n C (q := 22) 0 dX1_likeliest_21 rfl rfl ?_
    refine z_getR C (q := 25) ob_33 fF_X1_18 rfl dX1_likeliest_22 rfl ?_
    refine z_iload_n C (q := 26) 1 dX1_likeliest_25 rfl rfl ?_
    refine z_lald C (q := 27) ar_36 dX1_likeliest_26 rfl ?_
    refine z_lcmp C (q := 28) dX1_likeliest_27 rfl ?_
    refine z_if_le C (tgt := 33) (q := 31) dX1_likeliest_28 (by decide) rfl ?_ ?_
    · refine z_iinc C (q := 36) 2 [(2, .int (v2 + 1)), (0, .ref (ad 33)), (1, .int v1)] dX1_likeliest_33 rfl rfl (lt_iinc_1 _) (by decide) rfl ?_
      refine z_goto C (tgt := 4) dX1_likeliest_36 (by decide) ?_
      exact z_sub [1, 2, 0] rfl (ih v1 (v2 + 1) s)
    refine z_iload_n C (q := 32) 2 dX1_likeliest_31 rfl rfl ?_
    refine z_istore_n C (q := 33) [(1, .int v2), (0, .ref (ad 33)), (2, .int v2)] dX1_likeliest_32 rfl rfl (by decide) rfl ?_
    refine z_iinc C (q := 36) 2 [(2, .int (v2 + 1)), (1, .int v2), (0, .ref (ad 33))] dX1_likeliest_33 rfl rfl (lt_iinc_1 _) (by decide) rfl ?_
    refine z_goto C (tgt := 4) dX1_likeliest_36 (by decide) ?_
    exact z_sub [2, 1, 0] rfl (ih v2 (v2 + 1) s)
set_option maxRecDepth 100000 in
set_option maxHeartbeats 4000000 in
theorem m_X1_likeliest (G : gG) {ad : Nat → Nat} (hap : g_ap LC ad)    (s : gS) : g_M G LC ad yX1_likeliest cX1_likeliest 3 (some .int) 0 [.ref (ad 33)] s (f_X1_likeliest s) := by
  refine g_entry (by decide) hap (Nat.le_of_ble_eq_true rfl) [(0, .ref (ad 33))] rfl (fun X C => ?_)
  unfold f_X1_likeliest
  refine z_iconst C (q := 1) dX1_likeliest_0 rfl lt_iconst_0 ?_
  refine z_istore_n C (q := 2) [(1, .int (0 : Int32)), (0, .ref (ad 33))] dX1_likeliest_1 rfl rfl (by decide) rfl ?_
  refine z_iconst C (q := 3) dX1_likeliest_2 rfl lt_iconst_1 ?_
  refine z_istore_n C (q := 4) [(2, .int (1 : Int32)), (1, .int (0 : Int32)), (0, .ref (ad 33))] dX1_likeliest_3 rfl rfl (by decide) rfl ?_
  refine z_sub [2, 1, 0] rfl (l_X1_likeliest_4 C  (fun v1_1 v2_2 s3 => ?_) g_N (0 : Int32) (1 : Int32) s)
  refine z_iload_n C (q := 40) 0 dX1_likeliest_39 rfl rfl ?_
  exact z_iret C dX1_likeliest_40
set_option maxRecDepth 100000 in
set_option maxHeartbeats 4000000 in
theorem m_X3_placeOf (G : gG) {ad : Nat → Nat} (hap : g_ap LC ad) (a : Nat) (ha : hLand a) (v1 : Int32) (s : gS) : g_M G LC ad yX3_placeOf cX3_placeOf 2 (some .int) 1 [.ref (ad a), .int v1] s (f_X3_placeOf a v1 s) := by
  refine g_entry (by decide) hap (Nat.le_of_ble_eq_true rfl) [(0, .ref (ad a)), (1, .int v1)] rfl (fun X C => ?_)
  unfold f_X3_placeOf
  refine z_aload_n C (q := 1) 0 dX3_placeOf_0 rfl rfl ?_
  refine z_iload_n C (q := 2) 1 dX3_placeOf_1 rfl rfl ?_
  refine z_callV C (q := 5) [.int v1] gl_X3_76 glv_X3_has ha.1 rfl (m_X3_has G (g_Kap C) a ha v1 _) rfl rfl (Nat.le_of_ble_eq_true rfl) ⟨by decide, by decide⟩ dX3_placeOf_2 rfl (z_ki (fun r2 s1 => ?_))
  refine z_if_eq C (tgt := 27) (q := 8) dX3_placeOf_5 (by decide) rfl ?_ ?_
  · refine z_iconst C (q := 28) dX3_placeOf_27 rfl lt_iconst_m1 ?_
    exact z_iret C dX3_placeOf_28
  refine z_bipush C (q := 10) dX3_placeOf_8 rfl lt_bipush_10 ?_
  refine z_aload_n C (q := 11) 0 dX3_placeOf_10 rfl rfl ?_
  refine z_getR C (q := 14) ha.1 fF_X3_9 rfl dX3_placeOf_11 rfl ?_
  refine z_iload_n C (q := 15) 1 dX3_placeOf_14 rfl rfl ?_
  refine z_iald C (q := 16) ha.2.1 dX3_placeOf_15 rfl ?_
  refine z_imul C (q := 17) dX3_placeOf_16 rfl ?_
  refine z_aload_n C (q := 18) 0 dX3_placeOf_17 rfl rfl ?_
  refine z_getR C (q := 21) ha.1 fF_X3_15 rfl dX3_placeOf_18 rfl ?_
  refine z_iload_n C (q := 22) 1 dX3_placeOf_21 rfl rfl ?_
  refine z_iald C (q := 23) ha.2.2.1 dX3_placeOf_22 rfl ?_
  refine z_iadd C (q := 24) dX3_placeOf_23 rfl ?_
  refine z_goto C (tgt := 28) dX3_placeOf_24 (by decide) ?_
  exact z_iret C dX3_placeOf_28
set_option maxRecDepth 100000 in
set_option maxHeartbeats 4000000 in
theorem l_X1_bestWatched_14 {G : gG} {X : gX} {ad : Nat → Nat} (C : g_K G X LC ad cX1_bestWatched 8 RX1 (some .int) 3)   (v1 : Int32) {k : Int32 → Int32 → Int64 → Int32 → gS → gR} (hk : ∀ (v2 : Int32) (v3 : Int32) (v4 : Int64) (v6 : Int32) (s : gS), g_Z G X LC ad 8 73 [(0, .ref (ad 33)), (1, .int v1), (2, .int v2), (3, .int v3), (4, .long v4)] [] s (k v2 v3 v4 v6 s)) : ∀ (n : Nat) (v2 : Int32) (v3 : Int32) (v4 : Int64) (v6 : Int32) (s : gS), g_Z G X LC ad 8 14 [(0, .ref (ad 33)), (1, .int v1), (2, .int v2), (3, .int v3), (4, .long v4), (6, .int v6)] [] s (f_X1_bestWatched_14 v1 k n v2 v3 v4 v6 s) := by
  intro n
  induction n with
  | zero => intros; exact z_none
  | succ n ih =>
    intro v2 v3 v4 v6 s
    rw [f_X1_bestWatched_14.eq_2]
    refine z_iload C (q := 16) 5 dX1_bestWatched_14 rfl rfl ?_
    refine z_aload_n C (q := 17) 0 dX1_bestWatched_16 rfl rfl ?_
    refine z_getR C (q := 20) ob_33 fF_X1_25 rfl dX1_bestWatched_17 rfl ?_
    refine z_getI C (q := 23) hLand_14.1 fF_X1_81 rfl dX1_bestWatched_20 rfl ?_
    refine z_icmp_gt C (tgt := 73) (q := 26) dX1_bestWatched_23 (by decide) rfl ?_ ?_
    · exact z_sub [0, 1, 2, 3, 4] rfl (hk v2 v3 v4 v6 s)
    refine z_aload_n C (q := 27) 0 dX1_bestWatched_26 rfl rfl ?_
    refine z_callV C (q := 30) [] gl_X1_71 glv_X1_passHour ob_33 rfl (m_X1_passHour G (g_Kap C)  _) rfl rfl (Nat.le_of_ble_eq_true rfl) ⟨by decide, by decide⟩ dX1_bestWatched_27 rfl (z_kv (fun s2 => ?_))
    refine z_aload_n C (q := 31) 0 dX1_bestWatched_30 rfl rfl ?_
    refine z_callV C (q := 34) [] gl_X1_84 glv_X1_likeliest ob_33 rfl (m_X1_likeliest G (g_Kap C)  _) rfl rfl (Nat.le_of_ble_eq_true rfl) ⟨by decide, by decide⟩ dX1_bestWatched_31 rfl (z_ki (fun r4 s3 => ?_))
    refine z_istore C (q := 36) [(7, .int r4), (0, .ref (ad 33)), (1, .int v1), (2, .int v2), (3, .int v3), (4, .long v4), (6, .int v6)] dX1_bestWatched_34 rfl (by decide) rfl ?_
    refine z_aload_n C (q := 37) 1 dX1_bestWatched_36 rfl rfl ?_
    refine z_getR C (q := 40) ob_33 fF_X1_18 rfl dX1_bestWatched_37 rfl ?_
    refine z_iload C (q := 42) 0 dX1_bestWatched_40 rfl rfl ?_
    refine z_lald C (q := 43) ar_36 dX1_bestWatched_42 rfl ?_
    refine z_lload C (q := 45) 5 dX1_bestWatched_43 rfl rfl ?_
    refine z_lcmp C (q := 46) dX1_bestWatched_45 rfl ?_
    refine z_if_ge C (tgt := 52) (q := 49) dX1_bestWatched_46 (by decide) rfl ?_ ?_
    · refine z_iload C (q := 54) 6 dX1_bestWatched_52 rfl rfl ?_
      refine z_istore_n C (q := 55) [(2, .int v6), (7, .int r4), (0, .ref (ad 33)), (1, .int v1), (3, .int v3), (4, .long v4), (6, .int v6)] dX1_bestWatched_54 rfl rfl (by decide) rfl ?_
      refine z_iload C (q := 57) 1 dX1_bestWatched_55 rfl rfl ?_
      refine z_istore_n C (q := 58) [(3, .int r4), (2, .int v6), (7, .int r4), (0, .ref (ad 33)), (1, .int v1), (4, .long v4), (6, .int v6)] dX1_bestWatched_57 rfl rfl (by decide) rfl ?_
      refine z_aload_n C (q := 59) 3 dX1_bestWatched_58 rfl rfl ?_
      refine z_getR C (q := 62) ob_33 fF_X1_18 rfl dX1_bestWatched_59 rfl ?_
      refine z_iload C (q := 64) 2 dX1_bestWatched_62 rfl rfl ?_
      refine z_lald C (q := 65) ar_36 dX1_bestWatched_64 rfl ?_
      refine z_letl (fun v4_5 => ?_)
      refine z_lstore C (q := 67) [(4, .long v4_5), (3, .int r4), (2, .int v6), (7, .int r4), (0, .ref (ad 33)), (1, .int v1), (6, .int v6)] dX1_bestWatched_65 rfl (by decide) rfl ?_
      refine z_iinc C (q := 70) 6 [(6, .int (v6 + 1)), (4, .long v4_5), (3, .int r4), (2, .int v6), (7, .int r4), (0, .ref (ad 33)), (1, .int v1)] dX1_bestWatched_67 rfl rfl (lt_iinc_1 _) (by decide) rfl ?_
      refine z_goto C (tgt := 14) dX1_bestWatched_70 (by decide) ?_
      exact z_sub [5, 6, 3, 2, 1, 0] rfl (ih v6 r4 v4_5 (v6 + 1) s3)
    refine z_goto C (tgt := 67) dX1_bestWatched_49 (by decide) ?_
    refine z_iinc C (q := 70) 6 [(6, .int (v6 + 1)), (7, .int r4), (0, .ref (ad 33)), (1, .int v1), (2, .int v2), (3, .int v3), (4, .long v4)] dX1_bestWatched_67 rfl rfl (lt_iinc_1 _) (by decide) rfl ?_
    refine z_goto C (tgt := 14) dX1_bestWatched_70 (by decide) ?_
    exact z_sub [2, 3, 4, 5, 6, 0] rfl (ih v2 v3 v4 (v6 + 1) s3)
set_option maxRecDepth 100000 in
set_option maxHeartbeats 4000000 in
theorem m_X1_bestWatched (G : gG) {ad : Nat → Nat} (hap : g_ap LC ad)   (v1 : Int32) (s : gS) : g_M G LC ad yX1_bestWatched cX1_bestWatched 8 (some .int) 3 [.ref (ad 33), .int v1] s (f_X1_bestWatched v1 s) := by
  refine g_entry (by decide) hap (Nat.le_of_ble_eq_true rfl) [(0, .ref (ad 33)), (1, .int v1)] rfl (fun X C => ?_)
  unfold f_X1_bestWatched
  refine z_iconst C (q := 1) dX1_bestWatched_0 rfl lt_iconst_0 ?_
  refine z_istore_n C (q := 2) [(2, .int (0 : Int32)), (0, .ref (ad 33)), (1, .int v1)] dX1_bestWatched_1 rfl rfl (by decide) rfl ?_
  refine z_iconst C (q := 3) dX1_bestWatched_2 rfl lt_iconst_m1 ?_
  refine z_istore_n C (q := 4) [(3, .int (-1 : Int32)), (2, .int (0 : Int32)), (0, .ref (ad 33)), (1, .int v1)] dX1_bestWatched_3 rfl rfl (by decide) rfl ?_
  refine z_lconst C (q := 5) (v := 0) dX1_bestWatched_4 rfl rfl ?_
  refine z_lstore C (q := 7) [(4, .long (0 : Int64)), (3, .int (-1 : Int32)), (2, .int (0 : Int32)), (0, .ref (ad 33)), (1, .int v1)] dX1_bestWatched_5 rfl (by decide) rfl ?_
  refine z_aload_n C (q := 8) 3 dX1_bestWatched_7 rfl rfl ?_
  refine z_callV C (q := 11) [] gl_X1_68 glv_X1_wake ob_33 rfl (m_X1_wake G (g_Kap C)  _) rfl rfl (Nat.le_of_ble_eq_true rfl) ⟨by decide, by decide⟩ dX1_bestWatched_8 rfl (z_kv (fun s1 => ?_))
  refine z_iconst C (q := 12) dX1_bestWatched_11 rfl lt_iconst_1 ?_
  refine z_istore C (q := 14) [(6, .int (1 : Int32)), (4, .long (0 : Int64)), (3, .int (-1 : Int32)), (2, .int (0 : Int32)), (0, .ref (ad 33)), (1, .int v1)] dX1_bestWatched_12 rfl (by decide) rfl ?_
  refine z_sub [4, 5, 3, 2, 1, 0] rfl (l_X1_bestWatched_14 C v1 (fun v2_6 v3_7 v4_8 v6_9 s10 => ?_) g_N (0 : Int32) (-1 : Int32) (0 : Int64) (1 : Int32) s1)
  refine z_iload_n C (q := 74) 1 dX1_bestWatched_73 rfl rfl ?_
  refine z_if_ne C (tgt := 79) (q := 77) dX1_bestWatched_74 (by decide) rfl ?_ ?_
  · refine z_iload_n C (q := 80) 1 dX1_bestWatched_79 rfl rfl ?_
    refine z_iconst C (q := 81) dX1_bestWatched_80 rfl lt_iconst_1 ?_
    refine z_icmp_ne C (tgt := 95) (q := 84) dX1_bestWatched_81 (by decide) rfl ?_ ?_
    · refine z_lload C (q := 97) 4 dX1_bestWatched_95 rfl rfl ?_
      refine z_l2i C (q := 98) dX1_bestWatched_97 rfl ?_
      exact z_iret C dX1_bestWatched_98
    refine z_aload_n C (q := 85) 0 dX1_bestWatched_84 rfl rfl ?_
    refine z_getR C (q := 88) ob_33 fF_X1_25 rfl dX1_bestWatched_85 rfl ?_
    refine z_iload_n C (q := 89) 3 dX1_bestWatched_88 rfl rfl ?_
    refine z_callV C (q := 92) [.int v3_7] gl_X1_88 glv_X3_placeOf hLand_14.1 rfl (m_X3_placeOf G (g_Kap C) 14 hLand_14 v3_7 _) rfl rfl (Nat.le_of_ble_eq_true rfl) ⟨by decide, by decide⟩ dX1_bestWatched_89 rfl (z_ki (fun r12 s11 => ?_))
    refine z_goto C (tgt := 98) dX1_bestWatched_92 (by decide) ?_
    exact z_iret C dX1_bestWatched_98
  refine z_iload_n C (q := 78) 2 dX1_bestWatched_77 rfl rfl ?_
  exact z_iret C dX1_bestWatched_78
set_option maxRecDepth 100000 in
set_option maxHeartbeats 4000000 in
theorem m_X3_setLikes (G : gG) {ad : Nat → Nat} (hap : g_ap LC ad) (a : Nat) (ha : hLand a) (v1 : Int32) (v2 : Int32) (v3 : Int32) (v4 : Int32) (s : gS) : g_M G LC ad yX3_setLikes cX3_setLikes 5 none 0 [.ref (ad a), .int v1, .int v2, .int v3, .int v4] s (f_X3_setLikes a v1 v2 v3 v4 s) := by
  refine g_entry (by decide) hap (Nat.le_of_ble_eq_true rfl) [(0, .ref (ad a)), (1, .int v1), (2, .int v2), (3, .int v3), (4, .int v4)] rfl (fun X C => ?_)
  unfold f_X3_setLikes
  refine z_aload_n C (q := 1) 0 dX3_setLikes_0 rfl rfl ?_
  refine z_iload_n C (q := 2) 1 dX3_setLikes_1 rfl rfl ?_
  refine z_putI C (q := 5) ha.1 fP_X3_56 rfl dX3_setLikes_2 rfl (fun s1 => ?_)
  refine z_aload_n C (q := 6) 0 dX3_setLikes_5 rfl rfl ?_
  refine z_iload_n C (q := 7) 2 dX3_setLikes_6 rfl rfl ?_
  refine z_putI C (q := 10) ha.1 fP_X3_59 rfl dX3_setLikes_7 rfl (fun s2 => ?_)
  refine z_aload_n C (q := 11) 0 dX3_setLikes_10 rfl rfl ?_
  refine z_iload_n C (q := 12) 3 dX3_setLikes_11 rfl rfl ?_
  refine z_putI C (q := 15) ha.1 fP_X3_62 rfl dX3_setLikes_12 rfl (fun s3 => ?_)
  refine z_aload_n C (q := 16) 0 dX3_setLikes_15 rfl rfl ?_
  refine z_iload C (q := 18) 4 dX3_setLikes_16 rfl rfl ?_
  refine z_putI C (q := 21) ha.1 fP_X3_65 rfl dX3_setLikes_18 rfl (fun s4 => ?_)
  exact z_vret C dX3_setLikes_21
set_option maxRecDepth 100000 in
set_option maxHeartbeats 4000000 in
theorem m_X3_clear (G : gG) {ad : Nat → Nat} (hap : g_ap LC ad) (a : Nat) (ha : hLand a)  (s : gS) : g_M G LC ad yX3_clear cX3_clear 1 none 1 [.ref (ad a)] s (f_X3_clear a s) := by
  refine g_entry (by decide) hap (Nat.le_of_ble_eq_true rfl) [(0, .ref (ad a))] rfl (fun X C => ?_)
  unfold f_X3_clear
  refine z_aload_n C (q := 1) 0 dX3_clear_0 rfl rfl ?_
  refine z_iconst C (q := 2) dX3_clear_1 rfl lt_iconst_0 ?_
  refine z_putI C (q := 5) ha.1 fP_X3_36 rfl dX3_clear_2 rfl (fun s1 => ?_)
  refine z_aload_n C (q := 6) 0 dX3_clear_5 rfl rfl ?_
  refine z_iconst C (q := 7) dX3_clear_6 rfl lt_iconst_0 ?_
  refine z_putI C (q := 10) ha.1 fP_X3_40 rfl dX3_clear_7 rfl (fun s2 => ?_)
  refine z_aload_n C (q := 11) 0 dX3_clear_10 rfl rfl ?_
  refine z_iconst C (q := 12) dX3_clear_11 rfl lt_iconst_0 ?_
  refine z_putI C (q := 15) ha.1 fP_X3_43 rfl dX3_clear_12 rfl (fun s3 => ?_)
  refine z_aload_n C (q := 16) 0 dX3_clear_15 rfl rfl ?_
  refine z_iconst C (q := 17) dX3_clear_16 rfl lt_iconst_m1 ?_
  refine z_putI C (q := 20) ha.1 fP_X3_46 rfl dX3_clear_17 rfl (fun s4 => ?_)
  refine z_aload_n C (q := 21) 0 dX3_clear_20 rfl rfl ?_
  refine z_iconst C (q := 22) dX3_clear_21 rfl lt_iconst_4 ?_
  refine z_putI C (q := 25) ha.1 fP_X3_49 rfl dX3_clear_22 rfl (fun s5 => ?_)
  refine z_aload_n C (q := 26) 0 dX3_clear_25 rfl rfl ?_
  refine z_iconst C (q := 27) dX3_clear_26 rfl lt_iconst_2 ?_
  refine z_iconst C (q := 28) dX3_clear_27 rfl lt_iconst_3 ?_
  refine z_iconst C (q := 29) dX3_clear_28 rfl lt_iconst_3 ?_
  refine z_iconst C (q := 30) dX3_clear_29 rfl lt_iconst_4 ?_
  refine z_callV C (q := 33) [.int (2 : Int32), .int (3 : Int32), .int (3 : Int32), .int (4 : Int32)] gl_X3_52 glv_X3_setLikes ha.1 rfl (m_X3_setLikes G (g_Kap C) a ha (2 : Int32) (3 : Int32) (3 : Int32) (4 : Int32) _) rfl rfl (Nat.le_of_ble_eq_true rfl) ⟨by decide, by decide⟩ dX3_clear_30 rfl (z_kv (fun s6 => ?_))
  exact z_vret C dX3_clear_33
set_option maxRecDepth 100000 in
set_option maxHeartbeats 4000000 in
theorem m_X3_cellAt (G : gG) {ad : Nat → Nat} (hap : g_ap LC ad) (a : Nat) (ha : hLand a) (v1 : Int32) (v2 : Int32) (s : gS) : g_M G LC ad yX3_cellAt cX3_cellAt 3 (some .int) 0 [.ref (ad a), .int v1, .int v2] s (f_X3_cellAt a v1 v2 s) := by
  refine g_entry (by decide) hap (Nat.le_of_ble_eq_true rfl) [(0, .ref (ad a)), (1, .int v1), (2, .int v2)] rfl (fun X C => ?_)
  unfold f_X3_cellAt
  refine z_iload_n C (q := 1) 1 dX3_cellAt_0 rfl rfl ?_
  refine z_if_lt C (tgt := 24) (q := 4) dX3_cellAt_1 (by decide) rfl ?_ ?_
  · refine z_iconst C (q := 25) dX3_cellAt_24 rfl lt_iconst_m1 ?_
    exact z_iret C dX3_cellAt_25
  refine z_iload_n C (q := 5) 1 dX3_cellAt_4 rfl rfl ?_
  refine z_aload_n C (q := 6) 0 dX3_cellAt_5 rfl rfl ?_
  refine z_getI C (q := 9) ha.1 fF_X3_36 rfl dX3_cellAt_6 rfl ?_
  refine z_icmp_ge C (tgt := 24) (q := 12) dX3_cellAt_9 (by decide) rfl ?_ ?_
  · refine z_iconst C (q := 25) dX3_cellAt_24 rfl lt_iconst_m1 ?_
    exact z_iret C dX3_cellAt_25
  refine z_iload_n C (q := 13) 2 dX3_cellAt_12 rfl rfl ?_
  refine z_if_lt C (tgt := 24) (q := 16) dX3_cellAt_13 (by decide) rfl ?_ ?_
  · refine z_iconst C (q := 25) dX3_cellAt_24 rfl lt_iconst_m1 ?_
    exact z_iret C dX3_cellAt_25
  refine z_iload_n C (q := 17) 2 dX3_cellAt_16 rfl rfl ?_
  refine z_aload_n C (q := 18) 0 dX3_cellAt_17 rfl rfl ?_
  refine z_getI C (q := 21) ha.1 fF_X3_40 rfl dX3_cellAt_18 rfl ?_
  refine z_icmp_lt C (tgt := 26) (q := 24) dX3_cellAt_21 (by decide) rfl ?_ ?_
  · refine z_iload_n C (q := 27) 2 dX3_cellAt_26 rfl rfl ?_
    refine z_aload_n C (q := 28) 0 dX3_cellAt_27 rfl rfl ?_
    refine z_getI C (q := 31) ha.1 fF_X3_36 rfl dX3_cellAt_28 rfl ?_
    refine z_imul C (q := 32) dX3_cellAt_31 rfl ?_
    refine z_iload_n C (q := 33) 1 dX3_cellAt_32 rfl rfl ?_
    refine z_iadd C (q := 34) dX3_cellAt_33 rfl ?_
    exact z_iret C dX3_cellAt_34
  refine z_iconst C (q := 25) dX3_cellAt_24 rfl lt_iconst_m1 ?_
  exact z_iret C dX3_cellAt_25
set_option maxRecDepth 100000 in
set_option maxHeartbeats 4000000 in
theorem m_X3_addWay (G : gG) {ad : Nat → Nat} (hap : g_ap LC ad) (a : Nat) (ha : hLand a) (v1 : Int32) (v2 : Int32) (v3 : Int32) (s : gS) : g_M G LC ad yX3_addWay cX3_addWay 5 none 1 [.ref (ad a), .int v1, .int v2, .int v3] s (f_X3_addWay a v1 v2 v3 s) := by
  refine g_entry (by decide) hap (Nat.le_of_ble_eq_true rfl) [(0, .ref (ad a)), (1, .int v1), (2, .int v2), (3, .int v3)] rfl (fun X C => ?_)
  unfold f_X3_addWay
  refine z_aload_n C (q := 1) 0 dX3_addWay_0 rfl rfl ?_
  refine z_iload_n C (q := 2) 2 dX3_addWay_1 rfl rfl ?_
  refine z_iload_n C (q := 3) 3 dX3_addWay_2 rfl rfl ?_
  refine z_callV C (q := 6) [.int v2, .int v3] gl_X3_72 glv_X3_cellAt ha.1 rfl (m_X3_cellAt G (g_Kap C) a ha v2 v3 _) rfl rfl (Nat.le_of_ble_eq_true rfl) ⟨by decide, by decide⟩ dX3_addWay_3 rfl (z_ki (fun r2 s1 => ?_))
  refine z_istore C (q := 8) [(4, .int r2), (0, .ref (ad a)), (1, .int v1), (2, .int v2), (3, .int v3)] dX3_addWay_6 rfl (by decide) rfl ?_
  refine z_aload_n C (q := 9) 1 dX3_addWay_8 rfl rfl ?_
  refine z_iload C (q := 11) 0 dX3_addWay_9 rfl rfl ?_
  refine z_callV C (q := 14) [.int r2] gl_X3_76 glv_X3_has ha.1 rfl (m_X3_has G (g_Kap C) a ha r2 _) rfl rfl (Nat.le_of_ble_eq_true rfl) ⟨by decide, by decide⟩ dX3_addWay_11 rfl (z_ki (fun r4 s3 => ?_))
  refine z_if_eq C (tgt := 27) (q := 17) dX3_addWay_14 (by decide) rfl ?_ ?_
  · exact z_vret C dX3_addWay_27
  refine z_aload_n C (q := 18) 1 dX3_addWay_17 rfl rfl ?_
  refine z_getR C (q := 21) ha.1 fF_X3_30 rfl dX3_addWay_18 rfl ?_
  refine z_iload_n C (q := 22) 2 dX3_addWay_21 rfl rfl ?_
  refine z_iald C (q := 23) ha.2.2.2.2.2.2.2 dX3_addWay_22 rfl ?_
  refine z_iconst C (q := 24) dX3_addWay_23 rfl lt_iconst_5 ?_
  refine z_icmp_lt C (tgt := 28) (q := 27) dX3_addWay_24 (by decide) rfl ?_ ?_
  · refine z_aload_n C (q := 29) 1 dX3_addWay_28 rfl rfl ?_
    refine z_getR C (q := 32) ha.1 fF_X3_27 rfl dX3_addWay_29 rfl ?_
    refine z_iload_n C (q := 33) 2 dX3_addWay_32 rfl rfl ?_
    refine z_iconst C (q := 34) dX3_addWay_33 rfl lt_iconst_5 ?_
    refine z_imul C (q := 35) dX3_addWay_34 rfl ?_
    refine z_aload_n C (q := 36) 1 dX3_addWay_35 rfl rfl ?_
    refine z_getR C (q := 39) ha.1 fF_X3_30 rfl dX3_addWay_36 rfl ?_
    refine z_iload_n C (q := 40) 2 dX3_addWay_39 rfl rfl ?_
    refine z_iald C (q := 41) ha.2.2.2.2.2.2.2 dX3_addWay_40 rfl ?_
    refine z_iadd C (q := 42) dX3_addWay_41 rfl ?_
    refine z_iload C (q := 44) 0 dX3_addWay_42 rfl rfl ?_
    refine z_iast C (q := 45) ha.2.2.2.2.2.2.1 dX3_addWay_44 rfl (fun s5 => ?_)
    refine z_aload_n C (q := 46) 1 dX3_addWay_45 rfl rfl ?_
    refine z_getR C (q := 49) ha.1 fF_X3_30 rfl dX3_addWay_46 rfl ?_
    refine z_iload_n C (q := 50) 2 dX3_addWay_49 rfl rfl ?_
    refine z_dup2_11 C (q := 51) dX3_addWay_50 rfl rfl rfl ?_
    refine z_iald C (q := 52) ha.2.2.2.2.2.2.2 dX3_addWay_51 rfl ?_
    refine z_iconst C (q := 53) dX3_addWay_52 rfl lt_iconst_1 ?_
    refine z_iadd C (q := 54) dX3_addWay_53 rfl ?_
    refine z_iast C (q := 55) ha.2.2.2.2.2.2.2 dX3_addWay_54 rfl (fun s6 => ?_)
    exact z_vret C dX3_addWay_55
  exact z_vret C dX3_addWay_27
set_option maxRecDepth 100000 in
set_option maxHeartbeats 4000000 in
theorem m_X3_layCell (G : gG) {ad : Nat → Nat} (hap : g_ap LC ad) (a : Nat) (ha : hLand a) (v1 : Int32) (v2 : Int32) (s : gS) : g_M G LC ad yX3_layCell cX3_layCell 4 none 2 [.ref (ad a), .int v1, .int v2] s (f_X3_layCell a v1 v2 s) := by
  refine g_entry (by decide) hap (Nat.le_of_ble_eq_true rfl) [(0, .ref (ad a)), (1, .int v1), (2, .int v2)] rfl (fun X C => ?_)
  unfold f_X3_layCell
  refine z_aload_n C (q := 1) 0 dX3_layCell_0 rfl rfl ?_
  refine z_iload_n C (q := 2) 1 dX3_layCell_1 rfl rfl ?_
  refine z_iload_n C (q := 3) 2 dX3_layCell_2 rfl rfl ?_
  refine z_callV C (q := 6) [.int v1, .int v2] gl_X3_72 glv_X3_cellAt ha.1 rfl (m_X3_cellAt G (g_Kap C) a ha v1 v2 _) rfl rfl (Nat.le_of_ble_eq_true rfl) ⟨by decide, by decide⟩ dX3_layCell_3 rfl (z_ki (fun r2 s1 => ?_))
  refine z_istore_n C (q := 7) [(3, .int r2), (0, .ref (ad a)), (1, .int v1), (2, .int v2)] dX3_layCell_6 rfl rfl (by decide) rfl ?_
  refine z_aload_n C (q := 8) 1 dX3_layCell_7 rfl rfl ?_
  refine z_iload_n C (q := 9) 0 dX3_layCell_8 rfl rfl ?_
  refine z_callV C (q := 12) [.int r2] gl_X3_76 glv_X3_has ha.1 rfl (m_X3_has G (g_Kap C) a ha r2 _) rfl rfl (Nat.le_of_ble_eq_true rfl) ⟨by decide, by decide⟩ dX3_layCell_9 rfl (z_ki (fun r4 s3 => ?_))
  refine z_if_ne C (tgt := 16) (q := 15) dX3_layCell_12 (by decide) rfl ?_ ?_
  · refine z_aload_n C (q := 17) 1 dX3_layCell_16 rfl rfl ?_
    refine z_getR C (q := 20) ha.1 fF_X3_9 rfl dX3_layCell_17 rfl ?_
    refine z_iload_n C (q := 21) 0 dX3_layCell_20 rfl rfl ?_
    refine z_iload_n C (q := 22) 2 dX3_layCell_21 rfl rfl ?_
    refine z_iast C (q := 23) ha.2.1 dX3_layCell_22 rfl (fun s5 => ?_)
    refine z_aload_n C (q := 24) 1 dX3_layCell_23 rfl rfl ?_
    refine z_getR C (q := 27) ha.1 fF_X3_15 rfl dX3_layCell_24 rfl ?_
    refine z_iload_n C (q := 28) 0 dX3_layCell_27 rfl rfl ?_
    refine z_iload_n C (q := 29) 3 dX3_layCell_28 rfl rfl ?_
    refine z_iast C (q := 30) ha.2.2.1 dX3_layCell_29 rfl (fun s6 => ?_)
    refine z_aload_n C (q := 31) 1 dX3_layCell_30 rfl rfl ?_
    refine z_getR C (q := 34) ha.1 fF_X3_18 rfl dX3_layCell_31 rfl ?_
    refine z_iload_n C (q := 35) 0 dX3_layCell_34 rfl rfl ?_
    refine z_iconst C (q := 36) dX3_layCell_35 rfl lt_iconst_1 ?_
    refine z_iast C (q := 37) ha.2.2.2.1 dX3_layCell_36 rfl (fun s7 => ?_)
    refine z_aload_n C (q := 38) 1 dX3_layCell_37 rfl rfl ?_
    refine z_getR C (q := 41) ha.1 fF_X3_21 rfl dX3_layCell_38 rfl ?_
    refine z_iload_n C (q := 42) 0 dX3_layCell_41 rfl rfl ?_
    refine z_iconst C (q := 43) dX3_layCell_42 rfl lt_iconst_0 ?_
    refine z_iast C (q := 44) ha.2.2.2.2.1 dX3_layCell_43 rfl (fun s8 => ?_)
    refine z_aload_n C (q := 45) 1 dX3_layCell_44 rfl rfl ?_
    refine z_getR C (q := 48) ha.1 fF_X3_24 rfl dX3_layCell_45 rfl ?_
    refine z_iload_n C (q := 49) 0 dX3_layCell_48 rfl rfl ?_
    refine z_iconst C (q := 50) dX3_layCell_49 rfl lt_iconst_1 ?_
    refine z_iast C (q := 51) ha.2.2.2.2.2.1 dX3_layCell_50 rfl (fun s9 => ?_)
    refine z_aload_n C (q := 52) 1 dX3_layCell_51 rfl rfl ?_
    refine z_getR C (q := 55) ha.1 fF_X3_30 rfl dX3_layCell_52 rfl ?_
    refine z_iload_n C (q := 56) 0 dX3_layCell_55 rfl rfl ?_
    refine z_iconst C (q := 57) dX3_layCell_56 rfl lt_iconst_0 ?_
    refine z_iast C (q := 58) ha.2.2.2.2.2.2.2 dX3_layCell_57 rfl (fun s10 => ?_)
    refine z_aload_n C (q := 59) 1 dX3_layCell_58 rfl rfl ?_
    refine z_iload_n C (q := 60) 0 dX3_layCell_59 rfl rfl ?_
    refine z_iload_n C (q := 61) 2 dX3_layCell_60 rfl rfl ?_
    refine z_iload_n C (q := 62) 3 dX3_layCell_61 rfl rfl ?_
    refine z_callV C (q := 65) [.int r2, .int v1, .int v2] gl_X3_80 glv_X3_addWay ha.1 rfl (m_X3_addWay G (g_Kap C) a ha r2 v1 v2 _) rfl rfl (Nat.le_of_ble_eq_true rfl) ⟨by decide, by decide⟩ dX3_layCell_62 rfl (z_kv (fun s11 => ?_))
    refine z_aload_n C (q := 66) 1 dX3_layCell_65 rfl rfl ?_
    refine z_iload_n C (q := 67) 0 dX3_layCell_66 rfl rfl ?_
    refine z_iload_n C (q := 68) 2 dX3_layCell_67 rfl rfl ?_
    refine z_iload_n C (q := 69) 3 dX3_layCell_68 rfl rfl ?_
    refine z_iconst C (q := 70) dX3_layCell_69 rfl lt_iconst_1 ?_
    refine z_isub C (q := 71) dX3_layCell_70 rfl ?_
    refine z_callV C (q := 74) [.int r2, .int v1, .int (v2 - (1 : Int32))] gl_X3_80 glv_X3_addWay ha.1 rfl (m_X3_addWay G (g_Kap C) a ha r2 v1 (v2 - (1 : Int32)) _) rfl rfl (Nat.le_of_ble_eq_true rfl) ⟨by decide, by decide⟩ dX3_layCell_71 rfl (z_kv (fun s12 => ?_))
    refine z_aload_n C (q := 75) 1 dX3_layCell_74 rfl rfl ?_
    refine z_iload_n C (q := 76) 0 dX3_layCell_75 rfl rfl ?_
    refine z_iload_n C (q := 77) 2 dX3_layCell_76 rfl rfl ?_
    refine z_iconst C (q := 78) dX3_layCell_77 rfl lt_iconst_1 ?_
    refine z_iadd C (q := 79) dX3_layCell_78 rfl ?_
    refine z_iload_n C (q := 80) 3 dX3_layCell_79 rfl rfl ?_
    refine z_callV C (q := 83) [.int r2, .int (v1 + (1 : Int32)), .int v2] gl_X3_80 glv_X3_addWay ha.1 rfl (m_X3_addWay G (g_Kap C) a ha r2 (v1 + (1 : Int32)) v2 _) rfl rfl (Nat.le_of_ble_eq_true rfl) ⟨by decide, by decide⟩ dX3_layCell_80 rfl (z_kv (fun s13 => ?_))
    refine z_aload_n C (q := 84) 1 dX3_layCell_83 rfl rfl ?_
    refine z_iload_n C (q := 85) 0 dX3_layCell_84 rfl rfl ?_
    refine z_iload_n C (q := 86) 2 dX3_layCell_85 rfl rfl ?_
    refine z_iload_n C (q := 87) 3 dX3_layCell_86 rfl rfl ?_
    refine z_iconst C (q := 88) dX3_layCell_87 rfl lt_iconst_1 ?_
    refine z_iadd C (q := 89) dX3_layCell_88 rfl ?_
    refine z_callV C (q := 92) [.int r2, .int v1, .int (v2 + (1 : Int32))] gl_X3_80 glv_X3_addWay ha.1 rfl (m_X3_addWay G (g_Kap C) a ha r2 v1 (v2 + (1 : Int32)) _) rfl rfl (Nat.le_of_ble_eq_true rfl) ⟨by decide, by decide⟩ dX3_layCell_89 rfl (z_kv (fun s14 => ?_))
    refine z_aload_n C (q := 93) 1 dX3_layCell_92 rfl rfl ?_
    refine z_iload_n C (q := 94) 0 dX3_layCell_93 rfl rfl ?_
    refine z_iload_n C (q := 95) 2 dX3_layCell_94 rfl rfl ?_
    refine z_iconst C (q := 96) dX3_layCell_95 rfl lt_iconst_1 ?_
    refine z_isub C (q := 97) dX3_layCell_96 rfl ?_
    refine z_iload_n C (q := 98) 3 dX3_layCell_97 rfl rfl ?_
    refine z_callV C (q := 101) [.int r2, .int (v1 - (1 : Int32)), .int v2] gl_X3_80 glv_X3_addWay ha.1 rfl (m_X3_addWay G (g_Kap C) a ha r2 (v1 - (1 : Int32)) v2 _) rfl rfl (Nat.le_of_ble_eq_true rfl) ⟨by decide, by decide⟩ dX3_layCell_98 rfl (z_kv (fun s15 => ?_))
    exact z_vret C dX3_layCell_101
  exact z_vret C dX3_layCell_15
set_option maxRecDepth 100000 in
set_option maxHeartbeats 4000000 in
theorem l_X3_layOut_71 {G : gG} {X : gX} {ad : Nat → Nat} (C : g_K G X LC ad cX3_layOut 5 RX3 none 3) (a : Nat) (ha : hLand a) (v3 : Int32) {k : Int32 → gS → gR} (hk : ∀ (v4 : Int32) (s : gS), g_Z G X LC ad 5 93 [(0, .ref (ad a)), (3, .int v3)] [] s (k v4 s)) : ∀ (n : Nat) (v4 : Int32) (s : gS), g_Z G X LC ad 5 71 [(0, .ref (ad a)), (3, .int v3), (4, .int v4)] [] s (f_X3_layOut_71 a v3 k n v4 s) := by
  intro n
  induction n with
  | zero => intros; exact z_none
  | succ n ih =>
    intro v4 s
    rw [f_X3_layOut_71.eq_2]
    refine z_iload C (q := 73) 2 dX3_layOut_71 rfl rfl ?_
    refine z_aload_n C (q := 74) 0 dX3_layOut_73 rfl rfl ?_
    refine z_getI C (q := 77) ha.1 fF_X3_36 rfl dX3_layOut_74 rfl ?_
    refine z_icmp_ge C (tgt := 93) (q := 80) dX3_layOut_77 (by decide) rfl ?_ ?_
    · exact z_sub [0, 1] rfl (hk v4 s)
    refine z_aload_n C (q := 81) 0 dX3_layOut_80 rfl rfl ?_
    refine z_iload C (q := 83) 2 dX3_layOut_81 rfl rfl ?_
    refine z_iload_n C (q := 84) 1 dX3_layOut_83 rfl rfl ?_
    refine z_callV C (q := 87) [.int v4, .int v3] gl_X3_68 glv_X3_layCell ha.1 rfl (m_X3_layCell G (g_Kap C) a ha v4 v3 _) rfl rfl (Nat.le_of_ble_eq_true rfl) ⟨by decide, by decide⟩ dX3_layOut_84 rfl (z_kv (fun s6 => ?_))
    refine z_iinc C (q := 90) 2 [(4, .int (v4 + 1)), (0, .ref (ad a)), (3, .int v3)] dX3_layOut_87 rfl rfl (lt_iinc_1 _) (by decide) rfl ?_
    refine z_goto C (tgt := 71) dX3_layOut_90 (by decide) ?_
    exact z_sub [1, 2, 0] rfl (ih (v4 + 1) s6)
set_option maxRecDepth 100000 in
set_option maxHeartbeats 4000000 in
theorem l_X3_layOut_60 {G : gG} {X : gX} {ad : Nat → Nat} (C : g_K G X LC ad cX3_layOut 5 RX3 none 3) (a : Nat) (ha : hLand a)  {k : Int32 → gS → gR} (hk : ∀ (v3 : Int32) (s : gS), g_Z G X LC ad 5 99 [] [] s (k v3 s)) : ∀ (n : Nat) (v3 : Int32) (s : gS), g_Z G X LC ad 5 60 [(0, .ref (ad a)), (3, .int v3)] [] s (f_X3_layOut_60 a k n v3 s) := by
  intro n
  induction n with
  | zero => intros; exact z_none
  | succ n ih =>
    intro v3 s
    rw [f_X3_layOut_60.eq_2]
    refine z_iload_n C (q := 61) 1 dX3_layOut_60 rfl rfl ?_
    refine z_aload_n C (q := 62) 0 dX3_layOut_61 rfl rfl ?_
    refine z_getI C (q := 65) ha.1 fF_X3_40 rfl dX3_layOut_62 rfl ?_
    refine z_icmp_ge C (tgt := 99) (q := 68) dX3_layOut_65 (by decide) rfl ?_ ?_
    · exact z_sub [] rfl (hk v3 s)
    refine z_iconst C (q := 69) dX3_layOut_68 rfl lt_iconst_0 ?_
    refine z_istore C (q := 71) [(4, .int (0 : Int32)), (0, .ref (ad a)), (3, .int v3)] dX3_layOut_69 rfl (by decide) rfl ?_
    refine z_sub [1, 2, 0] rfl (l_X3_layOut_71 C a ha v3 (fun v4_7 s8 => ?_) g_N (0 : Int32) s)
    refine z_iinc C (q := 96) 1 [(3, .int (v3 + 1)), (0, .ref (ad a))] dX3_layOut_93 rfl rfl (lt_iinc_1 _) (by decide) rfl ?_
    refine z_goto C (tgt := 60) dX3_layOut_96 (by decide) ?_
    exact z_sub [1, 0] rfl (ih (v3 + 1) s8)
set_option maxRecDepth 100000 in
set_option maxHeartbeats 4000000 in
theorem m_X3_layOut (G : gG) {ad : Nat → Nat} (hap : g_ap LC ad) (a : Nat) (ha : hLand a) (v1 : Int32) (v2 : Int32) (s : gS) : g_M G LC ad yX3_layOut cX3_layOut 5 none 3 [.ref (ad a), .int v1, .int v2] s (f_X3_layOut a v1 v2 s) := by
  refine g_entry (by decide) hap (Nat.le_of_ble_eq_true rfl) [(0, .ref (ad a)), (1, .int v1), (2, .int v2)] rfl (fun X C => ?_)
  unfold f_X3_layOut
  refine z_aload_n C (q := 1) 0 dX3_layOut_0 rfl rfl ?_
  refine z_callV C (q := 4) [] gl_X3_33 glv_X3_clear ha.1 rfl (m_X3_clear G (g_Kap C) a ha _) rfl rfl (Nat.le_of_ble_eq_true rfl) ⟨by decide, by decide⟩ dX3_layOut_1 rfl (z_kv (fun s1 => ?_))
  refine z_iload_n C (q := 5) 1 dX3_layOut_4 rfl rfl ?_
  refine z_iconst C (q := 6) dX3_layOut_5 rfl lt_iconst_1 ?_
  refine z_icmp_lt C (tgt := 26) (q := 9) dX3_layOut_6 (by decide) rfl ?_ ?_
  · exact z_vret C dX3_layOut_26
  refine z_iload_n C (q := 10) 1 dX3_layOut_9 rfl rfl ?_
  refine z_bipush C (q := 12) dX3_layOut_10 rfl lt_bipush_9 ?_
  refine z_icmp_gt C (tgt := 26) (q := 15) dX3_layOut_12 (by decide) rfl ?_ ?_
  · exact z_vret C dX3_layOut_26
  refine z_iload_n C (q := 16) 2 dX3_layOut_15 rfl rfl ?_
  refine z_iconst C (q := 17) dX3_layOut_16 rfl lt_iconst_1 ?_
  refine z_icmp_lt C (tgt := 26) (q := 20) dX3_layOut_17 (by decide) rfl ?_ ?_
  · exact z_vret C dX3_layOut_26
  refine z_iload_n C (q := 21) 2 dX3_layOut_20 rfl rfl ?_
  refine z_bipush C (q := 23) dX3_layOut_21 rfl lt_bipush_9 ?_
  refine z_icmp_le C (tgt := 27) (q := 26) dX3_layOut_23 (by decide) rfl ?_ ?_
  · refine z_iload_n C (q := 28) 1 dX3_layOut_27 rfl rfl ?_
    refine z_iload_n C (q := 29) 2 dX3_layOut_28 rfl rfl ?_
    refine z_imul C (q := 30) dX3_layOut_29 rfl ?_
    refine z_bipush C (q := 32) dX3_layOut_30 rfl lt_bipush_40 ?_
    refine z_icmp_le C (tgt := 36) (q := 35) dX3_layOut_32 (by decide) rfl ?_ ?_
    · refine z_aload_n C (q := 37) 0 dX3_layOut_36 rfl rfl ?_
      refine z_iload_n C (q := 38) 1 dX3_layOut_37 rfl rfl ?_
      refine z_putI C (q := 41) ha.1 fP_X3_36 rfl dX3_layOut_38 rfl (fun s2 => ?_)
      refine z_aload_n C (q := 42) 0 dX3_layOut_41 rfl rfl ?_
      refine z_iload_n C (q := 43) 2 dX3_layOut_42 rfl rfl ?_
      refine z_putI C (q := 46) ha.1 fP_X3_40 rfl dX3_layOut_43 rfl (fun s3 => ?_)
      refine z_aload_n C (q := 47) 0 dX3_layOut_46 rfl rfl ?_
      refine z_iload_n C (q := 48) 1 dX3_layOut_47 rfl rfl ?_
      refine z_iload_n C (q := 49) 2 dX3_layOut_48 rfl rfl ?_
      refine z_imul C (q := 50) dX3_layOut_49 rfl ?_
      refine z_putI C (q := 53) ha.1 fP_X3_43 rfl dX3_layOut_50 rfl (fun s4 => ?_)
      refine z_aload_n C (q := 54) 0 dX3_layOut_53 rfl rfl ?_
      refine z_iconst C (q := 55) dX3_layOut_54 rfl lt_iconst_0 ?_
      refine z_putI C (q := 58) ha.1 fP_X3_46 rfl dX3_layOut_55 rfl (fun s5 => ?_)
      refine z_iconst C (q := 59) dX3_layOut_58 rfl lt_iconst_0 ?_
      refine z_istore_n C (q := 60) [(3, .int (0 : Int32)), (0, .ref (ad a)), (1, .int v1), (2, .int v2)] dX3_layOut_59 rfl rfl (by decide) rfl ?_
      refine z_sub [1, 0] rfl (l_X3_layOut_60 C a ha (fun v3_9 s10 => ?_) g_N (0 : Int32) s5)
      exact z_vret C dX3_layOut_99
    exact z_vret C dX3_layOut_35
  exact z_vret C dX3_layOut_26
set_option maxRecDepth 100000 in
set_option maxHeartbeats 4000000 in
theorem l_X3_takeFrom_62 {G : gG} {X : gX} {ad : Nat → Nat} (C : g_K G X LC ad cX3_takeFrom 3 RX3 none 1) (a : Nat) (b : Nat) (ha : hLand a) (hb : hLand b)  {k : Int32 → gS → gR} (hk : ∀ (v2 : Int32) (s : gS), g_Z G X LC ad 3 146 [(0, .ref (ad a)), (1, .ref (ad b))] [] s (k v2 s)) : ∀ (n : Nat) (v2 : Int32) (s : gS), g_Z G X LC ad 3 62 [(0, .ref (ad a)), (1, .ref (ad b)), (2, .int v2)] [] s (f_X3_takeFrom_62 a b k n v2 s) := by
  intro n
  induction n with
  | zero => intros; exact z_none
  | succ n ih =>
    intro v2 s
    rw [f_X3_takeFrom_62.eq_2]
    refine z_iload_n C (q := 63) 2 dX3_takeFrom_62 rfl rfl ?_
    refine z_bipush C (q := 65) dX3_takeFrom_63 rfl lt_bipush_40 ?_
    refine z_icmp_ge C (tgt := 146) (q := 68) dX3_takeFrom_65 (by decide) rfl ?_ ?_
    · exact z_sub [0, 1] rfl (hk v2 s)
    refine z_aload_n C (q := 69) 0 dX3_takeFrom_68 rfl rfl ?_
    refine z_getR C (q := 72) ha.1 fF_X3_9 rfl dX3_takeFrom_69 rfl ?_
    refine z_iload_n C (q := 73) 2 dX3_takeFrom_72 rfl rfl ?_
    refine z_aload_n C (q := 74) 1 dX3_takeFrom_73 rfl rfl ?_
    refine z_getR C (q := 77) hb.1 fF_X3_9 rfl dX3_takeFrom_74 rfl ?_
    refine z_iload_n C (q := 78) 2 dX3_takeFrom_77 rfl rfl ?_
    refine z_iald C (q := 79) hb.2.1 dX3_takeFrom_78 rfl ?_
    refine z_iast C (q := 80) ha.2.1 dX3_takeFrom_79 rfl (fun s7 => ?_)
    refine z_aload_n C (q := 81) 0 dX3_takeFrom_80 rfl rfl ?_
    refine z_getR C (q := 84) ha.1 fF_X3_15 rfl dX3_takeFrom_81 rfl ?_
    refine z_iload_n C (q := 85) 2 dX3_takeFrom_84 rfl rfl ?_
    refine z_aload_n C (q := 86) 1 dX3_takeFrom_85 rfl rfl ?_
    refine z_getR C (q := 89) hb.1 fF_X3_15 rfl dX3_takeFrom_86 rfl ?_
    refine z_iload_n C (q := 90) 2 dX3_takeFrom_89 rfl rfl ?_
    refine z_iald C (q := 91) hb.2.2.1 dX3_takeFrom_90 rfl ?_
    refine z_iast C (q := 92) ha.2.2.1 dX3_takeFrom_91 rfl (fun s8 => ?_)
    refine z_aload_n C (q := 93) 0 dX3_takeFrom_92 rfl rfl ?_
    refine z_getR C (q := 96) ha.1 fF_X3_18 rfl dX3_takeFrom_93 rfl ?_
    refine z_iload_n C (q := 97) 2 dX3_takeFrom_96 rfl rfl ?_
    refine z_aload_n C (q := 98) 1 dX3_takeFrom_97 rfl rfl ?_
    refine z_getR C (q := 101) hb.1 fF_X3_18 rfl dX3_takeFrom_98 rfl ?_
    refine z_iload_n C (q := 102) 2 dX3_takeFrom_101 rfl rfl ?_
    refine z_iald C (q := 103) hb.2.2.2.1 dX3_takeFrom_102 rfl ?_
    refine z_iast C (q := 104) ha.2.2.2.1 dX3_takeFrom_103 rfl (fun s9 => ?_)
    refine z_aload_n C (q := 105) 0 dX3_takeFrom_104 rfl rfl ?_
    refine z_getR C (q := 108) ha.1 fF_X3_21 rfl dX3_takeFrom_105 rfl ?_
    refine z_iload_n C (q := 109) 2 dX3_takeFrom_108 rfl rfl ?_
    refine z_aload_n C (q := 110) 1 dX3_takeFrom_109 rfl rfl ?_
    refine z_getR C (q := 113) hb.1 fF_X3_21 rfl dX3_takeFrom_110 rfl ?_
    refine z_iload_n C (q := 114) 2 dX3_takeFrom_113 rfl rfl ?_
    refine z_iald C (q := 115) hb.2.2.2.2.1 dX3_takeFrom_114 rfl ?_
    refine z_iast C (q := 116) ha.2.2.2.2.1 dX3_takeFrom_115 rfl (fun s10 => ?_)
    refine z_aload_n C (q := 117) 0 dX3_takeFrom_116 rfl rfl ?_
    refine z_getR C (q := 120) ha.1 fF_X3_24 rfl dX3_takeFrom_117 rfl ?_
    refine z_iload_n C (q := 121) 2 dX3_takeFrom_120 rfl rfl ?_
    refine z_aload_n C (q := 122) 1 dX3_takeFrom_121 rfl rfl ?_
    refine z_getR C (q := 125) hb.1 fF_X3_24 rfl dX3_takeFrom_122 rfl ?_
    refine z_iload_n C (q := 126) 2 dX3_takeFrom_125 rfl rfl ?_
    refine z_iald C (q := 127) hb.2.2.2.2.2.1 dX3_takeFrom_126 rfl ?_
    refine z_iast C (q := 128) ha.2.2.2.2.2.1 dX3_takeFrom_127 rfl (fun s11 => ?_)
    refine z_aload_n C (q := 129) 0 dX3_takeFrom_128 rfl rfl ?_
    refine z_getR C (q := 132) ha.1 fF_X3_30 rfl dX3_takeFrom_129 rfl ?_
    refine z_iload_n C (q := 133) 2 dX3_takeFrom_132 rfl rfl ?_
    refine z_aload_n C (q := 134) 1 dX3_takeFrom_133 rfl rfl ?_
    refine z_getR C (q := 137) hb.1 fF_X3_30 rfl dX3_takeFrom_134 rfl ?_
    refine z_iload_n C (q := 138) 2 dX3_takeFrom_137 rfl rfl ?_
    refine z_iald C (q := 139) hb.2.2.2.2.2.2.2 dX3_takeFrom_138 rfl ?_
    refine z_iast C (q := 140) ha.2.2.2.2.2.2.2 dX3_takeFrom_139 rfl (fun s12 => ?_)
    refine z_iinc C (q := 143) 2 [(2, .int (v2 + 1)), (0, .ref (ad a)), (1, .ref (ad b))] dX3_takeFrom_140 rfl rfl (lt_iinc_1 _) (by decide) rfl ?_
    refine z_goto C (tgt := 62) dX3_takeFrom_143 (by decide) ?_
    exact z_sub [1, 2, 0] rfl (ih (v2 + 1) s12)
set_option maxRecDepth 100000 in
set_option maxHeartbeats 4000000 in
theorem l_X3_takeFrom_148 {G : gG} {X : gX} {ad : Nat → Nat} (C : g_K G X LC ad cX3_takeFrom 3 RX3 none 1) (a : Nat) (b : Nat) (ha : hLand a) (hb : hLand b)  {k : Int32 → gS → gR} (hk : ∀ (v2 : Int32) (s : gS), g_Z G X LC ad 3 173 [] [] s (k v2 s)) : ∀ (n : Nat) (v2 : Int32) (s : gS), g_Z G X LC ad 3 148 [(0, .ref (ad a)), (1, .ref (ad b)), (2, .int v2)] [] s (f_X3_takeFrom_148 a b k n v2 s) := by
  intro n
  induction n with
  | zero => intros; exact z_none
  | succ n ih =>
    intro v2 s
    rw [f_X3_takeFrom_148.eq_2]
    refine z_iload_n C (q := 149) 2 dX3_takeFrom_148 rfl rfl ?_
    refine z_sipush C (q := 152) dX3_takeFrom_149 rfl lt_sipush_200 ?_
    refine z_icmp_ge C (tgt := 173) (q := 155) dX3_takeFrom_152 (by decide) rfl ?_ ?_
    · exact z_sub [] rfl (hk v2 s)
    refine z_aload_n C (q := 156) 0 dX3_takeFrom_155 rfl rfl ?_
    refine z_getR C (q := 159) ha.1 fF_X3_27 rfl dX3_takeFrom_156 rfl ?_
    refine z_iload_n C (q := 160) 2 dX3_takeFrom_159 rfl rfl ?_
    refine z_aload_n C (q := 161) 1 dX3_takeFrom_160 rfl rfl ?_
    refine z_getR C (q := 164) hb.1 fF_X3_27 rfl dX3_takeFrom_161 rfl ?_
    refine z_iload_n C (q := 165) 2 dX3_takeFrom_164 rfl rfl ?_
    refine z_iald C (q := 166) hb.2.2.2.2.2.2.1 dX3_takeFrom_165 rfl ?_
    refine z_iast C (q := 167) ha.2.2.2.2.2.2.1 dX3_takeFrom_166 rfl (fun s15 => ?_)
    refine z_iinc C (q := 170) 2 [(2, .int (v2 + 1)), (0, .ref (ad a)), (1, .ref (ad b))] dX3_takeFrom_167 rfl rfl (lt_iinc_1 _) (by decide) rfl ?_
    refine z_goto C (tgt := 148) dX3_takeFrom_170 (by decide) ?_
    exact z_sub [1, 2, 0] rfl (ih (v2 + 1) s15)
set_option maxRecDepth 100000 in
set_option maxHeartbeats 4000000 in
theorem m_X3_takeFrom (G : gG) {ad : Nat → Nat} (hap : g_ap LC ad) (a : Nat) (b : Nat) (ha : hLand a) (hb : hLand b)  (s : gS) : g_M G LC ad yX3_takeFrom cX3_takeFrom 3 none 1 [.ref (ad a), .ref (ad b)] s (f_X3_takeFrom a b s) := by
  refine g_entry (by decide) hap (Nat.le_of_ble_eq_true rfl) [(0, .ref (ad a)), (1, .ref (ad b))] rfl (fun X C => ?_)
  unfold f_X3_takeFrom
  refine z_aload_n C (q := 1) 0 dX3_takeFrom_0 rfl rfl ?_
  refine z_aload_n C (q := 2) 1 dX3_takeFrom_1 rfl rfl ?_
  refine z_getI C (q := 5) hb.1 fF_X3_36 rfl dX3_takeFrom_2 rfl ?_
  refine z_putI C (q := 8) ha.1 fP_X3_36 rfl dX3_takeFrom_5 rfl (fun s1 => ?_)
  refine z_aload_n C (q := 9) 0 dX3_takeFrom_8 rfl rfl ?_
  refine z_aload_n C (q := 10) 1 dX3_takeFrom_9 rfl rfl ?_
  refine z_getI C (q := 13) hb.1 fF_X3_40 rfl dX3_takeFrom_10 rfl ?_
  refine z_putI C (q := 16) ha.1 fP_X3_40 rfl dX3_takeFrom_13 rfl (fun s2 => ?_)
  refine z_aload_n C (q := 17) 0 dX3_takeFrom_16 rfl rfl ?_
  refine z_aload_n C (q := 18) 1 dX3_takeFrom_17 rfl rfl ?_
  refine z_getI C (q := 21) hb.1 fF_X3_43 rfl dX3_takeFrom_18 rfl ?_
  refine z_putI C (q := 24) ha.1 fP_X3_43 rfl dX3_takeFrom_21 rfl (fun s3 => ?_)
  refine z_aload_n C (q := 25) 0 dX3_takeFrom_24 rfl rfl ?_
  refine z_aload_n C (q := 26) 1 dX3_takeFrom_25 rfl rfl ?_
  refine z_getI C (q := 29) hb.1 fF_X3_46 rfl dX3_takeFrom_26 rfl ?_
  refine z_putI C (q := 32) ha.1 fP_X3_46 rfl dX3_takeFrom_29 rfl (fun s4 => ?_)
  refine z_aload_n C (q := 33) 0 dX3_takeFrom_32 rfl rfl ?_
  refine z_aload_n C (q := 34) 1 dX3_takeFrom_33 rfl rfl ?_
  refine z_getI C (q := 37) hb.1 fF_X3_49 rfl dX3_takeFrom_34 rfl ?_
  refine z_putI C (q := 40) ha.1 fP_X3_49 rfl dX3_takeFrom_37 rfl (fun s5 => ?_)
  refine z_aload_n C (q := 41) 0 dX3_takeFrom_40 rfl rfl ?_
  refine z_aload_n C (q := 42) 1 dX3_takeFrom_41 rfl rfl ?_
  refine z_getI C (q := 45) hb.1 fF_X3_56 rfl dX3_takeFrom_42 rfl ?_
  refine z_aload_n C (q := 46) 1 dX3_takeFrom_45 rfl rfl ?_
  refine z_getI C (q := 49) hb.1 fF_X3_59 rfl dX3_takeFrom_46 rfl ?_
  refine z_aload_n C (q := 50) 1 dX3_takeFrom_49 rfl rfl ?_
  refine z_getI C (q := 53) hb.1 fF_X3_62 rfl dX3_takeFrom_50 rfl ?_
  refine z_aload_n C (q := 54) 1 dX3_takeFrom_53 rfl rfl ?_
  refine z_getI C (q := 57) hb.1 fF_X3_65 rfl dX3_takeFrom_54 rfl ?_
  refine z_callV C (q := 60) [.int (s5.1 b 5), .int (s5.1 b 6), .int (s5.1 b 7), .int (s5.1 b 8)] gl_X3_52 glv_X3_setLikes ha.1 rfl (m_X3_setLikes G (g_Kap C) a ha (s5.1 b 5) (s5.1 b 6) (s5.1 b 7) (s5.1 b 8) _) rfl rfl (Nat.le_of_ble_eq_true rfl) ⟨by decide, by decide⟩ dX3_takeFrom_57 rfl (z_kv (fun s6 => ?_))
  refine z_iconst C (q := 61) dX3_takeFrom_60 rfl lt_iconst_0 ?_
  refine z_istore_n C (q := 62) [(2, .int (0 : Int32)), (0, .ref (ad a)), (1, .ref (ad b))] dX3_takeFrom_61 rfl rfl (by decide) rfl ?_
  refine z_sub [1, 2, 0] rfl (l_X3_takeFrom_62 C a b ha hb (fun v2_13 s14 => ?_) g_N (0 : Int32) s6)
  refine z_iconst C (q := 147) dX3_takeFrom_146 rfl lt_iconst_0 ?_
  refine z_istore_n C (q := 148) [(2, .int (0 : Int32)), (0, .ref (ad a)), (1, .ref (ad b))] dX3_takeFrom_147 rfl rfl (by decide) rfl ?_
  refine z_sub [1, 2, 0] rfl (l_X3_takeFrom_148 C a b ha hb (fun v2_16 s17 => ?_) g_N (0 : Int32) s14)
  exact z_vret C dX3_takeFrom_173
set_option maxRecDepth 100000 in
set_option maxHeartbeats 4000000 in
theorem l_X4_settle_2 {G : gG} {X : gX} {ad : Nat → Nat} (C : g_K G X LC ad cX4_settle 2 RX4 none 0) (a : Nat) (ha : hPast a)  {k : Int32 → gS → gR} (hk : ∀ (v1 : Int32) (s : gS), g_Z G X LC ad 2 44 [(0, .ref (ad a))] [] s (k v1 s)) : ∀ (n : Nat) (v1 : Int32) (s : gS), g_Z G X LC ad 2 2 [(0, .ref (ad a)), (1, .int v1)] [] s (f_X4_settle_2 a k n v1 s) := by
  intro n
  induction n with
  | zero => intros; exact z_none
  | succ n ih =>
    intro v1 s
    rw [f_X4_settle_2.eq_2]
    refine z_iload_n C (q := 3) 1 dX4_settle_2 rfl rfl ?_
    refine z_bipush C (q := 5) dX4_settle_3 rfl lt_bipush_40 ?_
    refine z_icmp_ge C (tgt := 44) (q := 8) dX4_settle_5 (by decide) rfl ?_ ?_
    · exact z_sub [0] rfl (hk v1 s)
    refine z_aload_n C (q := 9) 0 dX4_settle_8 rfl rfl ?_
    refine z_getR C (q := 12) ha.1 fF_X4_9 rfl dX4_settle_9 rfl ?_
    refine z_iload_n C (q := 13) 1 dX4_settle_12 rfl rfl ?_
    refine z_aload_n C (q := 14) 0 dX4_settle_13 rfl rfl ?_
    refine z_getR C (q := 17) ha.1 fF_X4_18 rfl dX4_settle_14 rfl ?_
    refine z_getR C (q := 20) hLand_14.1 fF_X4_32 rfl dX4_settle_17 rfl ?_
    refine z_iload_n C (q := 21) 1 dX4_settle_20 rfl rfl ?_
    refine z_iald C (q := 22) hLand_14.2.2.2.1 dX4_settle_21 rfl ?_
    refine z_iast C (q := 23) ha.2.1 dX4_settle_22 rfl (fun s1 => ?_)
    refine z_aload_n C (q := 24) 0 dX4_settle_23 rfl rfl ?_
    refine z_getR C (q := 27) ha.1 fF_X4_15 rfl dX4_settle_24 rfl ?_
    refine z_iload_n C (q := 28) 1 dX4_settle_27 rfl rfl ?_
    refine z_aload_n C (q := 29) 0 dX4_settle_28 rfl rfl ?_
    refine z_getR C (q := 32) ha.1 fF_X4_18 rfl dX4_settle_29 rfl ?_
    refine z_getR C (q := 35) hLand_14.1 fF_X4_32 rfl dX4_settle_32 rfl ?_
    refine z_iload_n C (q := 36) 1 dX4_settle_35 rfl rfl ?_
    refine z_iald C (q := 37) hLand_14.2.2.2.1 dX4_settle_36 rfl ?_
    refine z_iast C (q := 38) ha.2.2 dX4_settle_37 rfl (fun s2 => ?_)
    refine z_iinc C (q := 41) 1 [(1, .int (v1 + 1)), (0, .ref (ad a))] dX4_settle_38 rfl rfl (lt_iinc_1 _) (by decide) rfl ?_
    refine z_goto C (tgt := 2) dX4_settle_41 (by decide) ?_
    exact z_sub [1, 0] rfl (ih (v1 + 1) s2)
set_option maxRecDepth 100000 in
set_option maxHeartbeats 4000000 in
theorem m_X4_settle (G : gG) {ad : Nat → Nat} (hap : g_ap LC ad) (a : Nat) (ha : hPast a)  (s : gS) : g_M G LC ad yX4_settle cX4_settle 2 none 0 [.ref (ad a)] s (f_X4_settle a s) := by
  refine g_entry (by decide) hap (Nat.le_of_ble_eq_true rfl) [(0, .ref (ad a))] rfl (fun X C => ?_)
  unfold f_X4_settle
  refine z_iconst C (q := 1) dX4_settle_0 rfl lt_iconst_0 ?_
  refine z_istore_n C (q := 2) [(1, .int (0 : Int32)), (0, .ref (ad a))] dX4_settle_1 rfl rfl (by decide) rfl ?_
  refine z_sub [1, 0] rfl (l_X4_settle_2 C a ha (fun v1_3 s4 => ?_) g_N (0 : Int32) s)
  refine z_aload_n C (q := 45) 0 dX4_settle_44 rfl rfl ?_
  refine z_aload_n C (q := 46) 0 dX4_settle_45 rfl rfl ?_
  refine z_getR C (q := 49) ha.1 fF_X4_18 rfl dX4_settle_46 rfl ?_
  refine z_getI C (q := 52) hLand_14.1 fF_X4_35 rfl dX4_settle_49 rfl ?_
  refine z_putI C (q := 55) ha.1 fP_X4_22 rfl dX4_settle_52 rfl (fun s5 => ?_)
  refine z_aload_n C (q := 56) 0 dX4_settle_55 rfl rfl ?_
  refine z_iconst C (q := 57) dX4_settle_56 rfl lt_iconst_m1 ?_
  refine z_putI C (q := 60) ha.1 fP_X4_26 rfl dX4_settle_57 rfl (fun s6 => ?_)
  refine z_aload_n C (q := 61) 0 dX4_settle_60 rfl rfl ?_
  refine z_iconst C (q := 62) dX4_settle_61 rfl lt_iconst_m1 ?_
  refine z_putI C (q := 65) ha.1 fP_X4_29 rfl dX4_settle_62 rfl (fun s7 => ?_)
  refine z_aload_n C (q := 66) 0 dX4_settle_65 rfl rfl ?_
  refine z_iconst C (q := 67) dX4_settle_66 rfl lt_iconst_0 ?_
  refine z_putI C (q := 70) ha.1 fP_X4_36 rfl dX4_settle_67 rfl (fun s8 => ?_)
  refine z_aload_n C (q := 71) 0 dX4_settle_70 rfl rfl ?_
  refine z_iconst C (q := 72) dX4_settle_71 rfl lt_iconst_0 ?_
  refine z_putI C (q := 75) ha.1 fP_X4_39 rfl dX4_settle_72 rfl (fun s9 => ?_)
  refine z_aload_n C (q := 76) 0 dX4_settle_75 rfl rfl ?_
  refine z_iconst C (q := 77) dX4_settle_76 rfl lt_iconst_0 ?_
  refine z_putI C (q := 80) ha.1 fP_X4_42 rfl dX4_settle_77 rfl (fun s10 => ?_)
  exact z_vret C dX4_settle_80
set_option maxRecDepth 100000 in
set_option maxHeartbeats 4000000 in
theorem l_X4_takeFrom_2 {G : gG} {X : gX} {ad : Nat → Nat} (C : g_K G X LC ad cX4_takeFrom 3 RX4 none 0) (a : Nat) (b : Nat) (ha : hPast a) (hb : hPast b)  {k : Int32 → gS → gR} (hk : ∀ (v2 : Int32) (s : gS), g_Z G X LC ad 3 38 [(0, .ref (ad a)), (1, .ref (ad b))] [] s (k v2 s)) : ∀ (n : Nat) (v2 : Int32) (s : gS), g_Z G X LC ad 3 2 [(0, .ref (ad a)), (1, .ref (ad b)), (2, .int v2)] [] s (f_X4_takeFrom_2 a b k n v2 s) := by
  intro n
  induction n with
  | zero => intros; exact z_none
  | succ n ih =>
    intro v2 s
    rw [f_X4_takeFrom_2.eq_2]
    refine z_iload_n C (q := 3) 2 dX4_takeFrom_2 rfl rfl ?_
    refine z_bipush C (q := 5) dX4_takeFrom_3 rfl lt_bipush_40 ?_
    refine z_icmp_ge C (tgt := 38) (q := 8) dX4_takeFrom_5 (by decide) rfl ?_ ?_
    · exact z_sub [0, 1] rfl (hk v2 s)
    refine z_aload_n C (q := 9) 0 dX4_takeFrom_8 rfl rfl ?_
    refine z_getR C (q := 12) ha.1 fF_X4_9 rfl dX4_takeFrom_9 rfl ?_
    refine z_iload_n C (q := 13) 2 dX4_takeFrom_12 rfl rfl ?_
    refine z_aload_n C (q := 14) 1 dX4_takeFrom_13 rfl rfl ?_
    refine z_getR C (q := 17) hb.1 fF_X4_9 rfl dX4_takeFrom_14 rfl ?_
    refine z_iload_n C (q := 18) 2 dX4_takeFrom_17 rfl rfl ?_
    refine z_iald C (q := 19) hb.2.1 dX4_takeFrom_18 rfl ?_
    refine z_iast C (q := 20) ha.2.1 dX4_takeFrom_19 rfl (fun s1 => ?_)
    refine z_aload_n C (q := 21) 0 dX4_takeFrom_20 rfl rfl ?_
    refine z_getR C (q := 24) ha.1 fF_X4_15 rfl dX4_takeFrom_21 rfl ?_
    refine z_iload_n C (q := 25) 2 dX4_takeFrom_24 rfl rfl ?_
    refine z_aload_n C (q := 26) 1 dX4_takeFrom_25 rfl rfl ?_
    refine z_getR C (q := 29) hb.1 fF_X4_15 rfl dX4_takeFrom_26 rfl ?_
    refine z_iload_n C (q := 30) 2 dX4_takeFrom_29 rfl rfl ?_
    refine z_iald C (q := 31) hb.2.2 dX4_takeFrom_30 rfl ?_
    refine z_iast C (q := 32) ha.2.2 dX4_takeFrom_31 rfl (fun s2 => ?_)
    refine z_iinc C (q := 35) 2 [(2, .int (v2 + 1)), (0, .ref (ad a)), (1, .ref (ad b))] dX4_takeFrom_32 rfl rfl (lt_iinc_1 _) (by decide) rfl ?_
    refine z_goto C (tgt := 2) dX4_takeFrom_35 (by decide) ?_
    exact z_sub [1, 2, 0] rfl (ih (v2 + 1) s2)
set_option maxRecDepth 100000 in
set_option maxHeartbeats 4000000 in
theorem m_X4_takeFrom (G : gG) {ad : Nat → Nat} (hap : g_ap LC ad) (a : Nat) (b : Nat) (ha : hPast a) (hb : hPast b)  (s : gS) : g_M G LC ad yX4_takeFrom cX4_takeFrom 3 none 0 [.ref (ad a), .ref (ad b)] s (f_X4_takeFrom a b s) := by
  refine g_entry (by decide) hap (Nat.le_of_ble_eq_true rfl) [(0, .ref (ad a)), (1, .ref (ad b))] rfl (fun X C => ?_)
  unfold f_X4_takeFrom
  refine z_iconst C (q := 1) dX4_takeFrom_0 rfl lt_iconst_0 ?_
  refine z_istore_n C (q := 2) [(2, .int (0 : Int32)), (0, .ref (ad a)), (1, .ref (ad b))] dX4_takeFrom_1 rfl rfl (by decide) rfl ?_
  refine z_sub [1, 2, 0] rfl (l_X4_takeFrom_2 C a b ha hb (fun v2_3 s4 => ?_) g_N (0 : Int32) s)
  refine z_aload_n C (q := 39) 0 dX4_takeFrom_38 rfl rfl ?_
  refine z_aload_n C (q := 40) 1 dX4_takeFrom_39 rfl rfl ?_
  refine z_getI C (q := 43) hb.1 fF_X4_22 rfl dX4_takeFrom_40 rfl ?_
  refine z_putI C (q := 46) ha.1 fP_X4_22 rfl dX4_takeFrom_43 rfl (fun s5 => ?_)
  refine z_aload_n C (q := 47) 0 dX4_takeFrom_46 rfl rfl ?_
  refine z_aload_n C (q := 48) 1 dX4_takeFrom_47 rfl rfl ?_
  refine z_getI C (q := 51) hb.1 fF_X4_26 rfl dX4_takeFrom_48 rfl ?_
  refine z_putI C (q := 54) ha.1 fP_X4_26 rfl dX4_takeFrom_51 rfl (fun s6 => ?_)
  refine z_aload_n C (q := 55) 0 dX4_takeFrom_54 rfl rfl ?_
  refine z_aload_n C (q := 56) 1 dX4_takeFrom_55 rfl rfl ?_
  refine z_getI C (q := 59) hb.1 fF_X4_29 rfl dX4_takeFrom_56 rfl ?_
  refine z_putI C (q := 62) ha.1 fP_X4_29 rfl dX4_takeFrom_59 rfl (fun s7 => ?_)
  refine z_aload_n C (q := 63) 0 dX4_takeFrom_62 rfl rfl ?_
  refine z_aload_n C (q := 64) 1 dX4_takeFrom_63 rfl rfl ?_
  refine z_getI C (q := 67) hb.1 fF_X4_36 rfl dX4_takeFrom_64 rfl ?_
  refine z_putI C (q := 70) ha.1 fP_X4_36 rfl dX4_takeFrom_67 rfl (fun s8 => ?_)
  refine z_aload_n C (q := 71) 0 dX4_takeFrom_70 rfl rfl ?_
  refine z_aload_n C (q := 72) 1 dX4_takeFrom_71 rfl rfl ?_
  refine z_getI C (q := 75) hb.1 fF_X4_39 rfl dX4_takeFrom_72 rfl ?_
  refine z_putI C (q := 78) ha.1 fP_X4_39 rfl dX4_takeFrom_75 rfl (fun s9 => ?_)
  refine z_aload_n C (q := 79) 0 dX4_takeFrom_78 rfl rfl ?_
  refine z_aload_n C (q := 80) 1 dX4_takeFrom_79 rfl rfl ?_
  refine z_getI C (q := 83) hb.1 fF_X4_42 rfl dX4_takeFrom_80 rfl ?_
  refine z_putI C (q := 86) ha.1 fP_X4_42 rfl dX4_takeFrom_83 rfl (fun s10 => ?_)
  refine z_aload_n C (q := 87) 0 dX4_takeFrom_86 rfl rfl ?_
  refine z_aload_n C (q := 88) 1 dX4_takeFrom_87 rfl rfl ?_
  refine z_getI C (q := 91) hb.1 fF_X4_45 rfl dX4_takeFrom_88 rfl ?_
  refine z_putI C (q := 94) ha.1 fP_X4_45 rfl dX4_takeFrom_91 rfl (fun s11 => ?_)
  refine z_aload_n C (q := 95) 0 dX4_takeFrom_94 rfl rfl ?_
  refine z_aload_n C (q := 96) 1 dX4_takeFrom_95 rfl rfl ?_
  refine z_getI C (q := 99) hb.1 fF_X4_48 rfl dX4_takeFrom_96 rfl ?_
  refine z_putI C (q := 102) ha.1 fP_X4_48 rfl dX4_takeFrom_99 rfl (fun s12 => ?_)
  exact z_vret C dX4_takeFrom_102
set_option maxRecDepth 100000 in
set_option maxHeartbeats 4000000 in
theorem m_X4_likingNow (G : gG) {ad : Nat → Nat} (hap : g_ap LC ad) (a : Nat) (ha : hPast a) (v1 : Int32) (s : gS) : g_M G LC ad yX4_likingNow cX4_likingNow 2 (some .int) 2 [.ref (ad a), .int v1] s (f_X4_likingNow a v1 s) := by
  refine g_entry (by decide) hap (Nat.le_of_ble_eq_true rfl) [(0, .ref (ad a)), (1, .int v1)] rfl (fun X C => ?_)
  unfold f_X4_likingNow
  refine z_aload_n C (q := 1) 0 dX4_likingNow_0 rfl rfl ?_
  refine z_getR C (q := 4) ha.1 fF_X4_18 rfl dX4_likingNow_1 rfl ?_
  refine z_iload_n C (q := 5) 1 dX4_likingNow_4 rfl rfl ?_
  refine z_callV C (q := 8) [.int v1] gl_X4_51 glv_X3_has hLand_14.1 rfl (m_X3_has G (g_Kap C) 14 hLand_14 v1 _) rfl rfl (Nat.le_of_ble_eq_true rfl) ⟨by decide, by decide⟩ dX4_likingNow_5 rfl (z_ki (fun r2 s1 => ?_))
  refine z_if_eq C (tgt := 41) (q := 11) dX4_likingNow_8 (by decide) rfl ?_ ?_
  · refine z_iconst C (q := 42) dX4_likingNow_41 rfl lt_iconst_0 ?_
    exact z_iret C dX4_likingNow_42
  refine z_aload_n C (q := 12) 0 dX4_likingNow_11 rfl rfl ?_
  refine z_getR C (q := 15) ha.1 fF_X4_18 rfl dX4_likingNow_12 rfl ?_
  refine z_iload_n C (q := 16) 1 dX4_likingNow_15 rfl rfl ?_
  refine z_aload_n C (q := 17) 0 dX4_likingNow_16 rfl rfl ?_
  refine z_getR C (q := 20) ha.1 fF_X4_9 rfl dX4_likingNow_17 rfl ?_
  refine z_iload_n C (q := 21) 1 dX4_likingNow_20 rfl rfl ?_
  refine z_iald C (q := 22) ha.2.1 dX4_likingNow_21 rfl ?_
  refine z_iload_n C (q := 23) 1 dX4_likingNow_22 rfl rfl ?_
  refine z_aload_n C (q := 24) 0 dX4_likingNow_23 rfl rfl ?_
  refine z_getI C (q := 27) ha.1 fF_X4_29 rfl dX4_likingNow_24 rfl ?_
  refine z_icmp_ne C (tgt := 34) (q := 30) dX4_likingNow_27 (by decide) rfl ?_ ?_
  · refine z_iconst C (q := 35) dX4_likingNow_34 rfl lt_iconst_0 ?_
    refine z_callV C (q := 38) [.int v1, .int (s1.1 (a + 1) v1.toNatClampNeg), .int (0 : Int32)] gl_X4_55 glv_X3_liking hLand_14.1 rfl (m_X3_liking G (g_Kap C) 14 hLand_14 v1 (s1.1 (a + 1) v1.toNatClampNeg) (0 : Int32) _) rfl rfl (Nat.le_of_ble_eq_true rfl) ⟨by decide, by decide⟩ dX4_likingNow_35 rfl (z_ki (fun r4 s3 => ?_))
    refine z_goto C (tgt := 42) dX4_likingNow_38 (by decide) ?_
    exact z_iret C dX4_likingNow_42
  refine z_iconst C (q := 31) dX4_likingNow_30 rfl lt_iconst_1 ?_
  refine z_goto C (tgt := 35) dX4_likingNow_31 (by decide) ?_
  refine z_callV C (q := 38) [.int v1, .int (s1.1 (a + 1) v1.toNatClampNeg), .int (1 : Int32)] gl_X4_55 glv_X3_liking hLand_14.1 rfl (m_X3_liking G (g_Kap C) 14 hLand_14 v1 (s1.1 (a + 1) v1.toNatClampNeg) (1 : Int32) _) rfl rfl (Nat.le_of_ble_eq_true rfl) ⟨by decide, by decide⟩ dX4_likingNow_35 rfl (z_ki (fun r6 s5 => ?_))
  refine z_goto C (tgt := 42) dX4_likingNow_38 (by decide) ?_
  exact z_iret C dX4_likingNow_42
set_option maxRecDepth 100000 in
set_option maxHeartbeats 4000000 in
theorem m_X4_draw (G : gG) {ad : Nat → Nat} (hap : g_ap LC ad) (a : Nat) (ha : hPast a) (v1 : Int32) (s : gS) : g_M G LC ad yX4_draw cX4_draw 4 (some .int) 0 [.ref (ad a), .int v1] s (f_X4_draw a v1 s) := by
  refine g_entry (by decide) hap (Nat.le_of_ble_eq_true rfl) [(0, .ref (ad a)), (1, .int v1)] rfl (fun X C => ?_)
  unfold f_X4_draw
  refine z_aload_n C (q := 1) 0 dX4_draw_0 rfl rfl ?_
  refine z_getI C (q := 4) ha.1 fF_X4_48 rfl dX4_draw_1 rfl ?_
  refine z_i2l C (q := 5) dX4_draw_4 rfl ?_
  refine z_ldc2 C (q := 8) dX4_draw_5 rfl wm_587 ?_
  refine z_lmul C (q := 9) dX4_draw_8 rfl ?_
  refine z_ldc2 C (q := 12) dX4_draw_9 rfl wm_588 ?_
  refine z_ladd C (q := 13) dX4_draw_12 rfl ?_
  refine z_letl (fun v2_1 => ?_)
  refine z_lstore_n C (q := 14) [(2, .long v2_1), (0, .ref (ad a)), (1, .int v1)] dX4_draw_13 rfl rfl (by decide) rfl ?_
  refine z_aload_n C (q := 15) 1 dX4_draw_14 rfl rfl ?_
  refine z_lload_n C (q := 16) 0 dX4_draw_15 rfl rfl ?_
  refine z_ldc2 C (q := 19) dX4_draw_16 rfl wm_589 ?_
  refine z_land C (q := 20) dX4_draw_19 rfl ?_
  refine z_l2i C (q := 21) dX4_draw_20 rfl ?_
  refine z_putI C (q := 24) ha.1 fP_X4_48 rfl dX4_draw_21 rfl (fun s2 => ?_)
  refine z_iload_n C (q := 25) 2 dX4_draw_24 rfl rfl ?_
  refine z_if_le C (tgt := 40) (q := 28) dX4_draw_25 (by decide) rfl ?_ ?_
  · refine z_iconst C (q := 41) dX4_draw_40 rfl lt_iconst_0 ?_
    exact z_iret C dX4_draw_41
  refine z_aload_n C (q := 29) 1 dX4_draw_28 rfl rfl ?_
  refine z_getI C (q := 32) ha.1 fF_X4_48 rfl dX4_draw_29 rfl ?_
  refine z_ldc C (q := 34) dX4_draw_32 rfl wm_590 ?_
  refine z_idivK C (q := 35) (by decide) dX4_draw_34 rfl ?_
  refine z_iload_n C (q := 36) 2 dX4_draw_35 rfl rfl ?_
  refine z_irem C (q := 37) dX4_draw_36 rfl ?_
  refine z_goto C (tgt := 41) dX4_draw_37 (by decide) ?_
  exact z_iret C dX4_draw_41
set_option maxRecDepth 100000 in
set_option maxHeartbeats 4000000 in
theorem l_X4_cellByDraw_4 {G : gG} {X : gX} {ad : Nat → Nat} (C : g_K G X LC ad cX4_cellByDraw 6 RX4 (some .int) 3) (a : Nat) (ha : hPast a) (v1 : Int32) {k : Int32 → Int32 → gS → gR} (hk : ∀ (v2 : Int32) (v3 : Int32) (s : gS), g_Z G X LC ad 6 31 [(0, .ref (ad a)), (1, .int v1), (2, .int v2)] [] s (k v2 v3 s)) : ∀ (n : Nat) (v2 : Int32) (v3 : Int32) (s : gS), g_Z G X LC ad 6 4 [(0, .ref (ad a)), (1, .int v1), (2, .int v2), (3, .int v3)] [] s (f_X4_cellByDraw_4 a v1 k n v2 v3 s) := by
  intro n
  induction n with
  | zero => intros; exact z_none
  | succ n ih =>
    intro v2 v3 s
    rw [f_X4_cellByDraw_4.eq_2]
    refine z_iload_n C (q := 5) 3 dX4_cellByDraw_4 rfl rfl ?_
    refine z_iconst C (q := 6) dX4_cellByDraw_5 rfl lt_iconst_5 ?_
    refine z_icmp_ge C (tgt := 31) (q := 9) dX4_cellByDraw_6 (by decide) rfl ?_ ?_
    · exact z_sub [0, 1, 2] rfl (hk v2 v3 s)
    refine z_iload_n C (q := 10) 2 dX4_cellByDraw_9 rfl rfl ?_
    refine z_aload_n C (q := 11) 0 dX4_cellByDraw_10 rfl rfl ?_
    refine z_aload_n C (q := 12) 0 dX4_cellByDraw_11 rfl rfl ?_
    refine z_getR C (q := 15) ha.1 fF_X4_18 rfl dX4_cellByDraw_12 rfl ?_
    refine z_iload_n C (q := 16) 1 dX4_cellByDraw_15 rfl rfl ?_
    refine z_iload_n C (q := 17) 3 dX4_cellByDraw_16 rfl rfl ?_
    refine z_callV C (q := 20) [.int v1, .int v3] gl_X4_77 glv_X3_wayFrom hLand_14.1 rfl (m_X3_wayFrom G (g_Kap C) 14 hLand_14 v1 v3 _) rfl rfl (Nat.le_of_ble_eq_true rfl) ⟨by decide, by decide⟩ dX4_cellByDraw_17 rfl (z_ki (fun r2 s1 => ?_))
    refine z_callV C (q := 23) [.int r2] gl_X4_81 glv_X4_likingNow ha.1 rfl (m_X4_likingNow G (g_Kap C) a ha r2 _) rfl rfl (Nat.le_of_ble_eq_true rfl) ⟨by decide, by decide⟩ dX4_cellByDraw_20 rfl (z_ki (fun r4 s3 => ?_))
    refine z_iadd C (q := 24) dX4_cellByDraw_23 rfl ?_
    refine z_leti (fun v2_5 => ?_)
    refine z_istore_n C (q := 25) [(2, .int v2_5), (0, .ref (ad a)), (1, .int v1), (3, .int v3)] dX4_cellByDraw_24 rfl rfl (by decide) rfl ?_
    refine z_iinc C (q := 28) 3 [(3, .int (v3 + 1)), (2, .int v2_5), (0, .ref (ad a)), (1, .int v1)] dX4_cellByDraw_25 rfl rfl (lt_iinc_1 _) (by decide) rfl ?_
    refine z_goto C (tgt := 4) dX4_cellByDraw_28 (by decide) ?_
    exact z_sub [2, 3, 1, 0] rfl (ih v2_5 (v3 + 1) s3)
set_option maxRecDepth 100000 in
set_option maxHeartbeats 4000000 in
theorem l_X4_cellByDraw_40 {G : gG} {X : gX} {ad : Nat → Nat} (C : g_K G X LC ad cX4_cellByDraw 6 RX4 (some .int) 3) (a : Nat) (ha : hPast a) (v1 : Int32) {k : Int32 → Int32 → gS → gR} (hk : ∀ (v3 : Int32) (v4 : Int32) (s : gS), g_Z G X LC ad 6 80 [(1, .int v1)] [] s (k v3 v4 s)) : ∀ (n : Nat) (v3 : Int32) (v4 : Int32) (s : gS), g_Z G X LC ad 6 40 [(0, .ref (ad a)), (1, .int v1), (3, .int v3), (4, .int v4)] [] s (f_X4_cellByDraw_40 a v1 k n v3 v4 s) := by
  intro n
  induction n with
  | zero => intros; exact z_none
  | succ n ih =>
    intro v3 v4 s
    rw [f_X4_cellByDraw_40.eq_2]
    refine z_iload C (q := 42) 3 dX4_cellByDraw_40 rfl rfl ?_
    refine z_iconst C (q := 43) dX4_cellByDraw_42 rfl lt_iconst_5 ?_
    refine z_icmp_ge C (tgt := 80) (q := 46) dX4_cellByDraw_43 (by decide) rfl ?_ ?_
    · exact z_sub [1] rfl (hk v3 v4 s)
    refine z_aload_n C (q := 47) 0 dX4_cellByDraw_46 rfl rfl ?_
    refine z_getR C (q := 50) ha.1 fF_X4_18 rfl dX4_cellByDraw_47 rfl ?_
    refine z_iload_n C (q := 51) 1 dX4_cellByDraw_50 rfl rfl ?_
    refine z_iload C (q := 53) 3 dX4_cellByDraw_51 rfl rfl ?_
    refine z_callV C (q := 56) [.int v1, .int v4] gl_X4_77 glv_X3_wayFrom hLand_14.1 rfl (m_X3_wayFrom G (g_Kap C) 14 hLand_14 v1 v4 _) rfl rfl (Nat.le_of_ble_eq_true rfl) ⟨by decide, by decide⟩ dX4_cellByDraw_53 rfl (z_ki (fun r12 s11 => ?_))
    refine z_istore C (q := 58) [(5, .int r12), (0, .ref (ad a)), (1, .int v1), (3, .int v3), (4, .int v4)] dX4_cellByDraw_56 rfl (by decide) rfl ?_
    refine z_iload_n C (q := 59) 3 dX4_cellByDraw_58 rfl rfl ?_
    refine z_aload_n C (q := 60) 1 dX4_cellByDraw_59 rfl rfl ?_
    refine z_iload C (q := 62) 0 dX4_cellByDraw_60 rfl rfl ?_
    refine z_callV C (q := 65) [.int r12] gl_X4_81 glv_X4_likingNow ha.1 rfl (m_X4_likingNow G (g_Kap C) a ha r12 _) rfl rfl (Nat.le_of_ble_eq_true rfl) ⟨by decide, by decide⟩ dX4_cellByDraw_62 rfl (z_ki (fun r14 s13 => ?_))
    refine z_isub C (q := 66) dX4_cellByDraw_65 rfl ?_
    refine z_leti (fun v3_15 => ?_)
    refine z_istore_n C (q := 67) [(3, .int v3_15), (5, .int r12), (0, .ref (ad a)), (1, .int v1), (4, .int v4)] dX4_cellByDraw_66 rfl rfl (by decide) rfl ?_
    refine z_iload_n C (q := 68) 0 dX4_cellByDraw_67 rfl rfl ?_
    refine z_if_ge C (tgt := 74) (q := 71) dX4_cellByDraw_68 (by decide) rfl ?_ ?_
    · refine z_iinc C (q := 77) 4 [(4, .int (v4 + 1)), (3, .int v3_15), (5, .int r12), (0, .ref (ad a)), (1, .int v1)] dX4_cellByDraw_74 rfl rfl (lt_iinc_1 _) (by decide) rfl ?_
      refine z_goto C (tgt := 40) dX4_cellByDraw_77 (by decide) ?_
      exact z_sub [3, 4, 1, 0] rfl (ih v3_15 (v4 + 1) s13)
    refine z_iload C (q := 73) 1 dX4_cellByDraw_71 rfl rfl ?_
    exact z_iret C dX4_cellByDraw_73
set_option maxRecDepth 100000 in
set_option maxHeartbeats 4000000 in
theorem m_X4_cellByDraw (G : gG) {ad : Nat → Nat} (hap : g_ap LC ad) (a : Nat) (ha : hPast a) (v1 : Int32) (s : gS) : g_M G LC ad yX4_cellByDraw cX4_cellByDraw 6 (some .int) 3 [.ref (ad a), .int v1] s (f_X4_cellByDraw a v1 s) := by
  refine g_entry (by decide) hap (Nat.le_of_ble_eq_true rfl) [(0, .ref (ad a)), (1, .int v1)] rfl (fun X C => ?_)
  unfold f_X4_cellByDraw
  refine z_iconst C (q := 1) dX4_cellByDraw_0 rfl lt_iconst_0 ?_
  refine z_istore_n C (q := 2) [(2, .int (0 : Int32)), (0, .ref (ad a)), (1, .int v1)] dX4_cellByDraw_1 rfl rfl (by decide) rfl ?_
  refine z_iconst C (q := 3) dX4_cellByDraw_2 rfl lt_iconst_0 ?_
  refine z_istore_n C (q := 4) [(3, .int (0 : Int32)), (2, .int (0 : Int32)), (0, .ref (ad a)), (1, .int v1)] dX4_cellByDraw_3 rfl rfl (by decide) rfl ?_
  refine z_sub [2, 3, 1, 0] rfl (l_X4_cellByDraw_4 C a ha v1 (fun v2_6 v3_7 s8 => ?_) g_N (0 : Int32) (0 : Int32) s)
  refine z_aload_n C (q := 32) 0 dX4_cellByDraw_31 rfl rfl ?_
  refine z_iload_n C (q := 33) 2 dX4_cellByDraw_32 rfl rfl ?_
  refine z_callV C (q := 36) [.int v2_6] gl_X4_84 glv_X4_draw ha.1 rfl (m_X4_draw G (g_Kap C) a ha v2_6 _) rfl rfl (Nat.le_of_ble_eq_true rfl) ⟨by decide, by decide⟩ dX4_cellByDraw_33 rfl (z_ki (fun r10 s9 => ?_))
  refine z_istore_n C (q := 37) [(3, .int r10), (0, .ref (ad a)), (1, .int v1), (2, .int v2_6)] dX4_cellByDraw_36 rfl rfl (by decide) rfl ?_
  refine z_iconst C (q := 38) dX4_cellByDraw_37 rfl lt_iconst_0 ?_
  refine z_istore C (q := 40) [(4, .int (0 : Int32)), (3, .int r10), (0, .ref (ad a)), (1, .int v1), (2, .int v2_6)] dX4_cellByDraw_38 rfl (by decide) rfl ?_
  refine z_sub [2, 3, 1, 0] rfl (l_X4_cellByDraw_40 C a ha v1 (fun v3_16 v4_17 s18 => ?_) g_N r10 (0 : Int32) s9)
  refine z_iload_n C (q := 81) 0 dX4_cellByDraw_80 rfl rfl ?_
  exact z_iret C dX4_cellByDraw_81
set_option maxRecDepth 100000 in
set_option maxHeartbeats 4000000 in
theorem m_X4_eatAt (G : gG) {ad : Nat → Nat} (hap : g_ap LC ad) (a : Nat) (ha : hPast a) (v1 : Int32) (s : gS) : g_M G LC ad yX4_eatAt cX4_eatAt 2 none 1 [.ref (ad a), .int v1] s (f_X4_eatAt a v1 s) := by
  refine g_entry (by decide) hap (Nat.le_of_ble_eq_true rfl) [(0, .ref (ad a)), (1, .int v1)] rfl (fun X C => ?_)
  unfold f_X4_eatAt
  refine z_aload_n C (q := 1) 0 dX4_eatAt_0 rfl rfl ?_
  refine z_getR C (q := 4) ha.1 fF_X4_18 rfl dX4_eatAt_1 rfl ?_
  refine z_iload_n C (q := 5) 1 dX4_eatAt_4 rfl rfl ?_
  refine z_callV C (q := 8) [.int v1] gl_X4_51 glv_X3_has hLand_14.1 rfl (m_X3_has G (g_Kap C) 14 hLand_14 v1 _) rfl rfl (Nat.le_of_ble_eq_true rfl) ⟨by decide, by decide⟩ dX4_eatAt_5 rfl (z_ki (fun r2 s1 => ?_))
  refine z_if_eq C (tgt := 30) (q := 11) dX4_eatAt_8 (by decide) rfl ?_ ?_
  · exact z_vret C dX4_eatAt_30
  refine z_aload_n C (q := 12) 0 dX4_eatAt_11 rfl rfl ?_
  refine z_getR C (q := 15) ha.1 fF_X4_9 rfl dX4_eatAt_12 rfl ?_
  refine z_iload_n C (q := 16) 1 dX4_eatAt_15 rfl rfl ?_
  refine z_iald C (q := 17) ha.2.1 dX4_eatAt_16 rfl ?_
  refine z_if_le C (tgt := 30) (q := 20) dX4_eatAt_17 (by decide) rfl ?_ ?_
  · exact z_vret C dX4_eatAt_30
  refine z_aload_n C (q := 21) 0 dX4_eatAt_20 rfl rfl ?_
  refine z_getR C (q := 24) ha.1 fF_X4_9 rfl dX4_eatAt_21 rfl ?_
  refine z_iload_n C (q := 25) 1 dX4_eatAt_24 rfl rfl ?_
  refine z_dup2_11 C (q := 26) dX4_eatAt_25 rfl rfl rfl ?_
  refine z_iald C (q := 27) ha.2.1 dX4_eatAt_26 rfl ?_
  refine z_iconst C (q := 28) dX4_eatAt_27 rfl lt_iconst_1 ?_
  refine z_isub C (q := 29) dX4_eatAt_28 rfl ?_
  refine z_iast C (q := 30) ha.2.1 dX4_eatAt_29 rfl (fun s3 => ?_)
  exact z_vret C dX4_eatAt_30
set_option maxRecDepth 100000 in
set_option maxHeartbeats 4000000 in
theorem l_X4_growByNight_2 {G : gG} {X : gX} {ad : Nat → Nat} (C : g_K G X LC ad cX4_growByNight 2 RX4 none 0) (a : Nat) (ha : hPast a)  {k : Int32 → gS → gR} (hk : ∀ (v1 : Int32) (s : gS), g_Z G X LC ad 2 39 [] [] s (k v1 s)) : ∀ (n : Nat) (v1 : Int32) (s : gS), g_Z G X LC ad 2 2 [(0, .ref (ad a)), (1, .int v1)] [] s (f_X4_growByNight_2 a k n v1 s) := by
  intro n
  induction n with
  | zero => intros; exact z_none
  | succ n ih =>
    intro v1 s
    rw [f_X4_growByNight_2.eq_2]
    refine z_iload_n C (q := 3) 1 dX4_growByNight_2 rfl rfl ?_
    refine z_bipush C (q := 5) dX4_growByNight_3 rfl lt_bipush_40 ?_
    refine z_icmp_ge C (tgt := 39) (q := 8) dX4_growByNight_5 (by decide) rfl ?_ ?_
    · exact z_sub [] rfl (hk v1 s)
    refine z_aload_n C (q := 9) 0 dX4_growByNight_8 rfl rfl ?_
    refine z_getR C (q := 12) ha.1 fF_X4_9 rfl dX4_growByNight_9 rfl ?_
    refine z_iload_n C (q := 13) 1 dX4_growByNight_12 rfl rfl ?_
    refine z_iald C (q := 14) ha.2.1 dX4_growByNight_13 rfl ?_
    refine z_aload_n C (q := 15) 0 dX4_growByNight_14 rfl rfl ?_
    refine z_getR C (q := 18) ha.1 fF_X4_15 rfl dX4_growByNight_15 rfl ?_
    refine z_iload_n C (q := 19) 1 dX4_growByNight_18 rfl rfl ?_
    refine z_iald C (q := 20) ha.2.2 dX4_growByNight_19 rfl ?_
    refine z_icmp_ge C (tgt := 33) (q := 23) dX4_growByNight_20 (by decide) rfl ?_ ?_
    · refine z_iinc C (q := 36) 1 [(1, .int (v1 + 1)), (0, .ref (ad a))] dX4_growByNight_33 rfl rfl (lt_iinc_1 _) (by decide) rfl ?_
      refine z_goto C (tgt := 2) dX4_growByNight_36 (by decide) ?_
      exact z_sub [1, 0] rfl (ih (v1 + 1) s)
    refine z_aload_n C (q := 24) 0 dX4_growByNight_23 rfl rfl ?_
    refine z_getR C (q := 27) ha.1 fF_X4_9 rfl dX4_growByNight_24 rfl ?_
    refine z_iload_n C (q := 28) 1 dX4_growByNight_27 rfl rfl ?_
    refine z_dup2_11 C (q := 29) dX4_growByNight_28 rfl rfl rfl ?_
    refine z_iald C (q := 30) ha.2.1 dX4_growByNight_29 rfl ?_
    refine z_iconst C (q := 31) dX4_growByNight_30 rfl lt_iconst_1 ?_
    refine z_iadd C (q := 32) dX4_growByNight_31 rfl ?_
    refine z_iast C (q := 33) ha.2.1 dX4_growByNight_32 rfl (fun s1 => ?_)
    refine z_iinc C (q := 36) 1 [(1, .int (v1 + 1)), (0, .ref (ad a))] dX4_growByNight_33 rfl rfl (lt_iinc_1 _) (by decide) rfl ?_
    refine z_goto C (tgt := 2) dX4_growByNight_36 (by decide) ?_
    exact z_sub [1, 0] rfl (ih (v1 + 1) s1)
set_option maxRecDepth 100000 in
set_option maxHeartbeats 4000000 in
theorem m_X4_growByNight (G : gG) {ad : Nat → Nat} (hap : g_ap LC ad) (a : Nat) (ha : hPast a)  (s : gS) : g_M G LC ad yX4_growByNight cX4_growByNight 2 none 0 [.ref (ad a)] s (f_X4_growByNight a s) := by
  refine g_entry (by decide) hap (Nat.le_of_ble_eq_true rfl) [(0, .ref (ad a))] rfl (fun X C => ?_)
  unfold f_X4_growByNight
  refine z_iconst C (q := 1) dX4_growByNight_0 rfl lt_iconst_0 ?_
  refine z_istore_n C (q := 2) [(1, .int (0 : Int32)), (0, .ref (ad a))] dX4_growByNight_1 rfl rfl (by decide) rfl ?_
  refine z_sub [1, 0] rfl (l_X4_growByNight_2 C a ha (fun v1_2 s3 => ?_) g_N (0 : Int32) s)
  exact z_vret C dX4_growByNight_39
set_option maxRecDepth 100000 in
set_option maxHeartbeats 4000000 in
theorem l_X4_passDay_2 {G : gG} {X : gX} {ad : Nat → Nat} (C : g_K G X LC ad cX4_passDay 2 RX4 none 4) (a : Nat) (ha : hPast a)  {k : Int32 → gS → gR} (hk : ∀ (v1 : Int32) (s : gS), g_Z G X LC ad 2 39 [(0, .ref (ad a))] [] s (k v1 s)) : ∀ (n : Nat) (v1 : Int32) (s : gS), g_Z G X LC ad 2 2 [(0, .ref (ad a)), (1, .int v1)] [] s (f_X4_passDay_2 a k n v1 s) := by
  intro n
  induction n with
  | zero => intros; exact z_none
  | succ n ih =>
    intro v1 s
    rw [f_X4_passDay_2.eq_2]
    refine z_iload_n C (q := 3) 1 dX4_passDay_2 rfl rfl ?_
    refine z_aload_n C (q := 4) 0 dX4_passDay_3 rfl rfl ?_
    refine z_getR C (q := 7) ha.1 fF_X4_18 rfl dX4_passDay_4 rfl ?_
    refine z_getI C (q := 10) hLand_14.1 fF_X4_59 rfl dX4_passDay_7 rfl ?_
    refine z_icmp_ge C (tgt := 39) (q := 13) dX4_passDay_10 (by decide) rfl ?_ ?_
    · exact z_sub [0] rfl (hk v1 s)
    refine z_aload_n C (q := 14) 0 dX4_passDay_13 rfl rfl ?_
    refine z_aload_n C (q := 15) 0 dX4_passDay_14 rfl rfl ?_
    refine z_aload_n C (q := 16) 0 dX4_passDay_15 rfl rfl ?_
    refine z_getI C (q := 19) ha.1 fF_X4_22 rfl dX4_passDay_16 rfl ?_
    refine z_callV C (q := 22) [.int (s.1 a 3)] gl_X4_62 glv_X4_cellByDraw ha.1 rfl (m_X4_cellByDraw G (g_Kap C) a ha (s.1 a 3) _) rfl rfl (Nat.le_of_ble_eq_true rfl) ⟨by decide, by decide⟩ dX4_passDay_19 rfl (z_ki (fun r2 s1 => ?_))
    refine z_putI C (q := 25) ha.1 fP_X4_22 rfl dX4_passDay_22 rfl (fun s3 => ?_)
    refine z_aload_n C (q := 26) 0 dX4_passDay_25 rfl rfl ?_
    refine z_aload_n C (q := 27) 0 dX4_passDay_26 rfl rfl ?_
    refine z_getI C (q := 30) ha.1 fF_X4_22 rfl dX4_passDay_27 rfl ?_
    refine z_callV C (q := 33) [.int (s3.1 a 3)] gl_X4_66 glv_X4_eatAt ha.1 rfl (m_X4_eatAt G (g_Kap C) a ha (s3.1 a 3) _) rfl rfl (Nat.le_of_ble_eq_true rfl) ⟨by decide, by decide⟩ dX4_passDay_30 rfl (z_kv (fun s4 => ?_))
    refine z_iinc C (q := 36) 1 [(1, .int (v1 + 1)), (0, .ref (ad a))] dX4_passDay_33 rfl rfl (lt_iinc_1 _) (by decide) rfl ?_
    refine z_goto C (tgt := 2) dX4_passDay_36 (by decide) ?_
    exact z_sub [1, 0] rfl (ih (v1 + 1) s4)
set_option maxRecDepth 100000 in
set_option maxHeartbeats 4000000 in
theorem m_X4_passDay (G : gG) {ad : Nat → Nat} (hap : g_ap LC ad) (a : Nat) (ha : hPast a)  (s : gS) : g_M G LC ad yX4_passDay cX4_passDay 2 none 4 [.ref (ad a)] s (f_X4_passDay a s) := by
  refine g_entry (by decide) hap (Nat.le_of_ble_eq_true rfl) [(0, .ref (ad a))] rfl (fun X C => ?_)
  unfold f_X4_passDay
  refine z_iconst C (q := 1) dX4_passDay_0 rfl lt_iconst_0 ?_
  refine z_istore_n C (q := 2) [(1, .int (0 : Int32)), (0, .ref (ad a))] dX4_passDay_1 rfl rfl (by decide) rfl ?_
  refine z_sub [1, 0] rfl (l_X4_passDay_2 C a ha (fun v1_5 s6 => ?_) g_N (0 : Int32) s)
  refine z_aload_n C (q := 40) 0 dX4_passDay_39 rfl rfl ?_
  refine z_aload_n C (q := 41) 0 dX4_passDay_40 rfl rfl ?_
  refine z_getI C (q := 44) ha.1 fF_X4_22 rfl dX4_passDay_41 rfl ?_
  refine z_putI C (q := 47) ha.1 fP_X4_26 rfl dX4_passDay_44 rfl (fun s7 => ?_)
  refine z_aload_n C (q := 48) 0 dX4_passDay_47 rfl rfl ?_
  refine z_dup C (q := 49) dX4_passDay_48 rfl rfl ?_
  refine z_getI C (q := 52) ha.1 fF_X4_36 rfl dX4_passDay_49 rfl ?_
  refine z_aload_n C (q := 53) 0 dX4_passDay_52 rfl rfl ?_
  refine z_getR C (q := 56) ha.1 fF_X4_18 rfl dX4_passDay_53 rfl ?_
  refine z_iconst C (q := 57) dX4_passDay_56 rfl lt_iconst_0 ?_
  refine z_aload_n C (q := 58) 0 dX4_passDay_57 rfl rfl ?_
  refine z_getI C (q := 61) ha.1 fF_X4_26 rfl dX4_passDay_58 rfl ?_
  refine z_aload_n C (q := 62) 0 dX4_passDay_61 rfl rfl ?_
  refine z_getI C (q := 65) ha.1 fF_X4_45 rfl dX4_passDay_62 rfl ?_
  refine z_callV C (q := 68) [.int (0 : Int32), .int (s7.1 a 4), .int (s7.1 a 9)] gl_X4_70 glv_X3_tithesOf hLand_14.1 rfl (m_X3_tithesOf G (g_Kap C) 14 hLand_14 (0 : Int32) (s7.1 a 4) (s7.1 a 9) _) rfl rfl (Nat.le_of_ble_eq_true rfl) ⟨by decide, by decide⟩ dX4_passDay_65 rfl (z_ki (fun r9 s8 => ?_))
  refine z_iadd C (q := 69) dX4_passDay_68 rfl ?_
  refine z_putI C (q := 72) ha.1 fP_X4_36 rfl dX4_passDay_69 rfl (fun s10 => ?_)
  refine z_aload_n C (q := 73) 0 dX4_passDay_72 rfl rfl ?_
  refine z_dup C (q := 74) dX4_passDay_73 rfl rfl ?_
  refine z_getI C (q := 77) ha.1 fF_X4_39 rfl dX4_passDay_74 rfl ?_
  refine z_aload_n C (q := 78) 0 dX4_passDay_77 rfl rfl ?_
  refine z_getR C (q := 81) ha.1 fF_X4_18 rfl dX4_passDay_78 rfl ?_
  refine z_iconst C (q := 82) dX4_passDay_81 rfl lt_iconst_1 ?_
  refine z_aload_n C (q := 83) 0 dX4_passDay_82 rfl rfl ?_
  refine z_getI C (q := 86) ha.1 fF_X4_26 rfl dX4_passDay_83 rfl ?_
  refine z_aload_n C (q := 87) 0 dX4_passDay_86 rfl rfl ?_
  refine z_getI C (q := 90) ha.1 fF_X4_45 rfl dX4_passDay_87 rfl ?_
  refine z_callV C (q := 93) [.int (1 : Int32), .int (s10.1 a 4), .int (s10.1 a 9)] gl_X4_70 glv_X3_tithesOf hLand_14.1 rfl (m_X3_tithesOf G (g_Kap C) 14 hLand_14 (1 : Int32) (s10.1 a 4) (s10.1 a 9) _) rfl rfl (Nat.le_of_ble_eq_true rfl) ⟨by decide, by decide⟩ dX4_passDay_90 rfl (z_ki (fun r12 s11 => ?_))
  refine z_iadd C (q := 94) dX4_passDay_93 rfl ?_
  refine z_putI C (q := 97) ha.1 fP_X4_39 rfl dX4_passDay_94 rfl (fun s13 => ?_)
  refine z_aload_n C (q := 98) 0 dX4_passDay_97 rfl rfl ?_
  refine z_dup C (q := 99) dX4_passDay_98 rfl rfl ?_
  refine z_getI C (q := 102) ha.1 fF_X4_42 rfl dX4_passDay_99 rfl ?_
  refine z_iconst C (q := 103) dX4_passDay_102 rfl lt_iconst_1 ?_
  refine z_iadd C (q := 104) dX4_passDay_103 rfl ?_
  refine z_putI C (q := 107) ha.1 fP_X4_42 rfl dX4_passDay_104 rfl (fun s14 => ?_)
  refine z_aload_n C (q := 108) 0 dX4_passDay_107 rfl rfl ?_
  refine z_callV C (q := 111) [] gl_X4_74 glv_X4_growByNight ha.1 rfl (m_X4_growByNight G (g_Kap C) a ha _) rfl rfl (Nat.le_of_ble_eq_true rfl) ⟨by decide, by decide⟩ dX4_passDay_108 rfl (z_kv (fun s15 => ?_))
  exact z_vret C dX4_passDay_111
set_option maxRecDepth 100000 in
set_option maxHeartbeats 4000000 in
theorem m_X7_rewind (G : gG) {ad : Nat → Nat} (hap : g_ap LC ad)    (s : gS) : g_M G LC ad yX7_rewind cX7_rewind 1 none 0 [.ref (ad 1)] s (f_X7_rewind s) := by
  refine g_entry (by decide) hap (Nat.le_of_ble_eq_true rfl) [(0, .ref (ad 1))] rfl (fun X C => ?_)
  unfold f_X7_rewind
  refine z_aload_n C (q := 1) 0 dX7_rewind_0 rfl rfl ?_
  refine z_iconst C (q := 2) dX7_rewind_1 rfl lt_iconst_0 ?_
  refine z_putI C (q := 5) ob_1 fP_X7_19 rfl dX7_rewind_2 rfl (fun s1 => ?_)
  refine z_aload_n C (q := 6) 0 dX7_rewind_5 rfl rfl ?_
  refine z_iconst C (q := 7) dX7_rewind_6 rfl lt_iconst_0 ?_
  refine z_putI C (q := 10) ob_1 fP_X7_22 rfl dX7_rewind_7 rfl (fun s2 => ?_)
  refine z_aload_n C (q := 11) 0 dX7_rewind_10 rfl rfl ?_
  refine z_iconst C (q := 12) dX7_rewind_11 rfl lt_iconst_0 ?_
  refine z_putI C (q := 15) ob_1 fP_X7_25 rfl dX7_rewind_12 rfl (fun s3 => ?_)
  exact z_vret C dX7_rewind_15
set_option maxRecDepth 100000 in
set_option maxHeartbeats 4000000 in
theorem l_X5_begin_34 {G : gG} {X : gX} {ad : Nat → Nat} (C : g_K G X LC ad cX5_begin 2 RX5 none 2)    {k : Int32 → gS → gR} (hk : ∀ (v1 : Int32) (s : gS), g_Z G X LC ad 2 60 [(0, .ref (ad 3))] [] s (k v1 s)) : ∀ (n : Nat) (v1 : Int32) (s : gS), g_Z G X LC ad 2 34 [(0, .ref (ad 3)), (1, .int v1)] [] s (f_X5_begin_34  k n v1 s) := by
  intro n
  induction n with
  | zero => intros; exact z_none
  | succ n ih =>
    intro v1 s
    rw [f_X5_begin_34.eq_2]
    refine z_iload_n C (q := 35) 1 dX5_begin_34 rfl rfl ?_
    refine z_bipush C (q := 37) dX5_begin_35 rfl lt_bipush_40 ?_
    refine z_icmp_ge C (tgt := 60) (q := 40) dX5_begin_37 (by decide) rfl ?_ ?_
    · exact z_sub [0] rfl (hk v1 s)
    refine z_aload_n C (q := 41) 0 dX5_begin_40 rfl rfl ?_
    refine z_getR C (q := 44) ob_3 fF_X5_18 rfl dX5_begin_41 rfl ?_
    refine z_iload_n C (q := 45) 1 dX5_begin_44 rfl rfl ?_
    refine z_iconst C (q := 46) dX5_begin_45 rfl lt_iconst_0 ?_
    refine z_zast C (q := 47) ar_12 dX5_begin_46 rfl (fun s7 => ?_)
    refine z_aload_n C (q := 48) 0 dX5_begin_47 rfl rfl ?_
    refine z_getR C (q := 51) ob_3 fF_X5_22 rfl dX5_begin_48 rfl ?_
    refine z_iload_n C (q := 52) 1 dX5_begin_51 rfl rfl ?_
    refine z_iconst C (q := 53) dX5_begin_52 rfl lt_iconst_0 ?_
    refine z_zast C (q := 54) ar_13 dX5_begin_53 rfl (fun s8 => ?_)
    refine z_iinc C (q := 57) 1 [(1, .int (v1 + 1)), (0, .ref (ad 3))] dX5_begin_54 rfl rfl (lt_iinc_1 _) (by decide) rfl ?_
    refine z_goto C (tgt := 34) dX5_begin_57 (by decide) ?_
    exact z_sub [1, 0] rfl (ih (v1 + 1) s8)
set_option maxRecDepth 100000 in
set_option maxHeartbeats 4000000 in
theorem m_X5_begin (G : gG) {ad : Nat → Nat} (hap : g_ap LC ad)    (s : gS) : g_M G LC ad yX5_begin cX5_begin 2 none 2 [.ref (ad 3)] s (f_X5_begin s) := by
  refine g_entry (by decide) hap (Nat.le_of_ble_eq_true rfl) [(0, .ref (ad 3))] rfl (fun X C => ?_)
  unfold f_X5_begin
  refine z_aload_n C (q := 1) 0 dX5_begin_0 rfl rfl ?_
  refine z_getR C (q := 4) ob_3 fF_X5_12 rfl dX5_begin_1 rfl ?_
  refine z_callV C (q := 7) [] gl_X5_57 glv_X3_clear hLand_4.1 rfl (m_X3_clear G (g_Kap C) 4 hLand_4 _) rfl rfl (Nat.le_of_ble_eq_true rfl) ⟨by decide, by decide⟩ dX5_begin_4 rfl (z_kv (fun s1 => ?_))
  refine z_aload_n C (q := 8) 0 dX5_begin_7 rfl rfl ?_
  refine z_iconst C (q := 9) dX5_begin_8 rfl lt_iconst_0 ?_
  refine z_putI C (q := 12) ob_3 fP_X5_60 rfl dX5_begin_9 rfl (fun s2 => ?_)
  refine z_aload_n C (q := 13) 0 dX5_begin_12 rfl rfl ?_
  refine z_iconst C (q := 14) dX5_begin_13 rfl lt_iconst_0 ?_
  refine z_putI C (q := 17) ob_3 fP_X5_63 rfl dX5_begin_14 rfl (fun s3 => ?_)
  refine z_aload_n C (q := 18) 0 dX5_begin_17 rfl rfl ?_
  refine z_iconst C (q := 19) dX5_begin_18 rfl lt_iconst_0 ?_
  refine z_putI C (q := 22) ob_3 fP_X5_66 rfl dX5_begin_19 rfl (fun s4 => ?_)
  refine z_aload_n C (q := 23) 0 dX5_begin_22 rfl rfl ?_
  refine z_iconst C (q := 24) dX5_begin_23 rfl lt_iconst_0 ?_
  refine z_putZK C (q := 27) (by decide) ob_3 fP_X5_69 rfl dX5_begin_24 rfl (fun s5 => ?_)
  refine z_aload_n C (q := 28) 0 dX5_begin_27 rfl rfl ?_
  refine z_iconst C (q := 29) dX5_begin_28 rfl lt_iconst_0 ?_
  refine z_putZK C (q := 32) (by decide) ob_3 fP_X5_73 rfl dX5_begin_29 rfl (fun s6 => ?_)
  refine z_iconst C (q := 33) dX5_begin_32 rfl lt_iconst_0 ?_
  refine z_istore_n C (q := 34) [(1, .int (0 : Int32)), (0, .ref (ad 3))] dX5_begin_33 rfl rfl (by decide) rfl ?_
  refine z_sub [1, 0] rfl (l_X5_begin_34 C  (fun v1_9 s10 => ?_) g_N (0 : Int32) s6)
  refine z_aload_n C (q := 61) 0 dX5_begin_60 rfl rfl ?_
  refine z_getR C (q := 64) ob_3 fF_X5_25 rfl dX5_begin_61 rfl ?_
  refine z_callV C (q := 67) [] gl_X5_76 glv_X7_rewind ob_1 rfl (m_X7_rewind G (g_Kap C)  _) rfl rfl (Nat.le_of_ble_eq_true rfl) ⟨by decide, by decide⟩ dX5_begin_64 rfl (z_kv (fun s11 => ?_))
  refine z_aload_n C (q := 68) 0 dX5_begin_67 rfl rfl ?_
  refine z_iconst C (q := 69) dX5_begin_68 rfl lt_iconst_0 ?_
  refine z_putI C (q := 72) ob_3 fP_X5_51 rfl dX5_begin_69 rfl (fun s12 => ?_)
  refine z_aload_n C (q := 73) 0 dX5_begin_72 rfl rfl ?_
  refine z_iconst C (q := 74) dX5_begin_73 rfl lt_iconst_m1 ?_
  refine z_putI C (q := 77) ob_3 fP_X5_29 rfl dX5_begin_74 rfl (fun s13 => ?_)
  exact z_vret C dX5_begin_77
set_option maxRecDepth 100000 in
set_option maxHeartbeats 4000000 in
theorem l_X7_nextToken_8 {G : gG} {X : gX} {ad : Nat → Nat} (C : g_K G X LC ad cX7_nextToken 1 RX7 none 0)    {k : gS → gR} (hk : ∀  (s : gS), g_Z G X LC ad 1 46 [(0, .ref (ad 1))] [] s (k s)) : ∀ (n : Nat)  (s : gS), g_Z G X LC ad 1 8 [(0, .ref (ad 1))] [] s (f_X7_nextToken_8  k n s) := by
  intro n
  induction n with
  | zero => intros; exact z_none
  | succ n ih =>
    intro  s
    rw [f_X7_nextToken_8.eq_2]
    refine z_aload_n C (q := 9) 0 dX7_nextToken_8 rfl rfl ?_
    refine z_getI C (q := 12) ob_1 fF_X7_22 rfl dX7_nextToken_9 rfl ?_
    refine z_aload_n C (q := 13) 0 dX7_nextToken_12 rfl rfl ?_
    refine z_getI C (q := 16) ob_1 fF_X7_15 rfl dX7_nextToken_13 rfl ?_
    refine z_icmp_ge C (tgt := 46) (q := 19) dX7_nextToken_16 (by decide) rfl ?_ ?_
    · exact z_sub [0] rfl (hk s)
    refine z_aload_n C (q := 20) 0 dX7_nextToken_19 rfl rfl ?_
    refine z_getR C (q := 23) ob_1 fF_X7_9 rfl dX7_nextToken_20 rfl ?_
    refine z_aload_n C (q := 24) 0 dX7_nextToken_23 rfl rfl ?_
    refine z_getI C (q := 27) ob_1 fF_X7_22 rfl dX7_nextToken_24 rfl ?_
    refine z_iald C (q := 28) ar_2 dX7_nextToken_27 rfl ?_
    refine z_bipush C (q := 30) dX7_nextToken_28 rfl lt_bipush_32 ?_
    refine z_icmp_ne C (tgt := 46) (q := 33) dX7_nextToken_30 (by decide) rfl ?_ ?_
    · exact z_sub [0] rfl (hk s)
    refine z_aload_n C (q := 34) 0 dX7_nextToken_33 rfl rfl ?_
    refine z_dup C (q := 35) dX7_nextToken_34 rfl rfl ?_
    refine z_getI C (q := 38) ob_1 fF_X7_22 rfl dX7_nextToken_35 rfl ?_
    refine z_iconst C (q := 39) dX7_nextToken_38 rfl lt_iconst_1 ?_
    refine z_iadd C (q := 40) dX7_nextToken_39 rfl ?_
    refine z_putI C (q := 43) ob_1 fP_X7_22 rfl dX7_nextToken_40 rfl (fun s2 => ?_)
    refine z_goto C (tgt := 8) dX7_nextToken_43 (by decide) ?_
    exact z_sub [0] rfl (ih s2)
set_option maxRecDepth 100000 in
set_option maxHeartbeats 4000000 in
theorem l_X7_nextToken_54 {G : gG} {X : gX} {ad : Nat → Nat} (C : g_K G X LC ad cX7_nextToken 1 RX7 none 0)    {k : gS → gR} (hk : ∀  (s : gS), g_Z G X LC ad 1 106 [(0, .ref (ad 1))] [] s (k s)) : ∀ (n : Nat)  (s : gS), g_Z G X LC ad 1 54 [(0, .ref (ad 1))] [] s (f_X7_nextToken_54  k n s) := by
  intro n
  induction n with
  | zero => intros; exact z_none
  | succ n ih =>
    intro  s
    rw [f_X7_nextToken_54.eq_2]
    refine z_aload_n C (q := 55) 0 dX7_nextToken_54 rfl rfl ?_
    refine z_getI C (q := 58) ob_1 fF_X7_25 rfl dX7_nextToken_55 rfl ?_
    refine z_aload_n C (q := 59) 0 dX7_nextToken_58 rfl rfl ?_
    refine z_getI C (q := 62) ob_1 fF_X7_15 rfl dX7_nextToken_59 rfl ?_
    refine z_icmp_ge C (tgt := 106) (q := 65) dX7_nextToken_62 (by decide) rfl ?_ ?_
    · exact z_sub [0] rfl (hk s)
    refine z_aload_n C (q := 66) 0 dX7_nextToken_65 rfl rfl ?_
    refine z_getR C (q := 69) ob_1 fF_X7_9 rfl dX7_nextToken_66 rfl ?_
    refine z_aload_n C (q := 70) 0 dX7_nextToken_69 rfl rfl ?_
    refine z_getI C (q := 73) ob_1 fF_X7_25 rfl dX7_nextToken_70 rfl ?_
    refine z_iald C (q := 74) ar_2 dX7_nextToken_73 rfl ?_
    refine z_bipush C (q := 76) dX7_nextToken_74 rfl lt_bipush_97 ?_
    refine z_icmp_lt C (tgt := 106) (q := 79) dX7_nextToken_76 (by decide) rfl ?_ ?_
    · exact z_sub [0] rfl (hk s)
    refine z_aload_n C (q := 80) 0 dX7_nextToken_79 rfl rfl ?_
    refine z_getR C (q := 83) ob_1 fF_X7_9 rfl dX7_nextToken_80 rfl ?_
    refine z_aload_n C (q := 84) 0 dX7_nextToken_83 rfl rfl ?_
    refine z_getI C (q := 87) ob_1 fF_X7_25 rfl dX7_nextToken_84 rfl ?_
    refine z_iald C (q := 88) ar_2 dX7_nextToken_87 rfl ?_
    refine z_bipush C (q := 90) dX7_nextToken_88 rfl lt_bipush_122 ?_
    refine z_icmp_gt C (tgt := 106) (q := 93) dX7_nextToken_90 (by decide) rfl ?_ ?_
    · exact z_sub [0] rfl (hk s)
    refine z_aload_n C (q := 94) 0 dX7_nextToken_93 rfl rfl ?_
    refine z_dup C (q := 95) dX7_nextToken_94 rfl rfl ?_
    refine z_getI C (q := 98) ob_1 fF_X7_25 rfl dX7_nextToken_95 rfl ?_
    refine z_iconst C (q := 99) dX7_nextToken_98 rfl lt_iconst_1 ?_
    refine z_iadd C (q := 100) dX7_nextToken_99 rfl ?_
    refine z_putI C (q := 103) ob_1 fP_X7_25 rfl dX7_nextToken_100 rfl (fun s5 => ?_)
    refine z_goto C (tgt := 54) dX7_nextToken_103 (by decide) ?_
    exact z_sub [0] rfl (ih s5)
set_option maxRecDepth 100000 in
set_option maxHeartbeats 4000000 in
theorem l_X7_nextToken_123 {G : gG} {X : gX} {ad : Nat → Nat} (C : g_K G X LC ad cX7_nextToken 1 RX7 none 0)    {k : gS → gR} (hk : ∀  (s : gS), g_Z G X LC ad 1 175 [(0, .ref (ad 1))] [] s (k s)) : ∀ (n : Nat)  (s : gS), g_Z G X LC ad 1 123 [(0, .ref (ad 1))] [] s (f_X7_nextToken_123  k n s) := by
  intro n
  induction n with
  | zero => intros; exact z_none
  | succ n ih =>
    intro  s
    rw [f_X7_nextToken_123.eq_2]
    refine z_aload_n C (q := 124) 0 dX7_nextToken_123 rfl rfl ?_
    refine z_getI C (q := 127) ob_1 fF_X7_25 rfl dX7_nextToken_124 rfl ?_
    refine z_aload_n C (q := 128) 0 dX7_nextToken_127 rfl rfl ?_
    refine z_getI C (q := 131) ob_1 fF_X7_15 rfl dX7_nextToken_128 rfl ?_
    refine z_icmp_ge C (tgt := 175) (q := 134) dX7_nextToken_131 (by decide) rfl ?_ ?_
    · exact z_sub [0] rfl (hk s)
    refine z_aload_n C (q := 135) 0 dX7_nextToken_134 rfl rfl ?_
    refine z_getR C (q := 138) ob_1 fF_X7_9 rfl dX7_nextToken_135 rfl ?_
    refine z_aload_n C (q := 139) 0 dX7_nextToken_138 rfl rfl ?_
    refine z_getI C (q := 142) ob_1 fF_X7_25 rfl dX7_nextToken_139 rfl ?_
    refine z_iald C (q := 143) ar_2 dX7_nextToken_142 rfl ?_
    refine z_bipush C (q := 145) dX7_nextToken_143 rfl lt_bipush_48 ?_
    refine z_icmp_lt C (tgt := 175) (q := 148) dX7_nextToken_145 (by decide) rfl ?_ ?_
    · exact z_sub [0] rfl (hk s)
    refine z_aload_n C (q := 149) 0 dX7_nextToken_148 rfl rfl ?_
    refine z_getR C (q := 152) ob_1 fF_X7_9 rfl dX7_nextToken_149 rfl ?_
    refine z_aload_n C (q := 153) 0 dX7_nextToken_152 rfl rfl ?_
    refine z_getI C (q := 156) ob_1 fF_X7_25 rfl dX7_nextToken_153 rfl ?_
    refine z_iald C (q := 157) ar_2 dX7_nextToken_156 rfl ?_
    refine z_bipush C (q := 159) dX7_nextToken_157 rfl lt_bipush_57 ?_
    refine z_icmp_gt C (tgt := 175) (q := 162) dX7_nextToken_159 (by decide) rfl ?_ ?_
    · exact z_sub [0] rfl (hk s)
    refine z_aload_n C (q := 163) 0 dX7_nextToken_162 rfl rfl ?_
    refine z_dup C (q := 164) dX7_nextToken_163 rfl rfl ?_
    refine z_getI C (q := 167) ob_1 fF_X7_25 rfl dX7_nextToken_164 rfl ?_
    refine z_iconst C (q := 168) dX7_nextToken_167 rfl lt_iconst_1 ?_
    refine z_iadd C (q := 169) dX7_nextToken_168 rfl ?_
    refine z_putI C (q := 172) ob_1 fP_X7_25 rfl dX7_nextToken_169 rfl (fun s8 => ?_)
    refine z_goto C (tgt := 123) dX7_nextToken_172 (by decide) ?_
    exact z_sub [0] rfl (ih s8)
set_option maxRecDepth 100000 in
set_option maxHeartbeats 4000000 in
theorem m_X7_nextToken (G : gG) {ad : Nat → Nat} (hap : g_ap LC ad)    (s : gS) : g_M G LC ad yX7_nextToken cX7_nextToken 1 none 0 [.ref (ad 1)] s (f_X7_nextToken s) := by
  refine g_entry (by decide) hap (Nat.le_of_ble_eq_true rfl) [(0, .ref (ad 1))] rfl (fun X C => ?_)
  unfold f_X7_nextToken
  refine z_aload_n C (q := 1) 0 dX7_nextToken_0 rfl rfl ?_
  refine z_aload_n C (q := 2) 0 dX7_nextToken_1 rfl rfl ?_
  refine z_getI C (q := 5) ob_1 fF_X7_25 rfl dX7_nextToken_2 rfl ?_
  refine z_putI C (q := 8) ob_1 fP_X7_22 rfl dX7_nextToken_5 rfl (fun s1 => ?_)
  refine z_sub [0] rfl (l_X7_nextToken_8 C  (fun s3 => ?_) g_N s1)
  refine z_aload_n C (q := 47) 0 dX7_nextToken_46 rfl rfl ?_
  refine z_aload_n C (q := 48) 0 dX7_nextToken_47 rfl rfl ?_
  refine z_getI C (q := 51) ob_1 fF_X7_22 rfl dX7_nextToken_48 rfl ?_
  refine z_putI C (q := 54) ob_1 fP_X7_25 rfl dX7_nextToken_51 rfl (fun s4 => ?_)
  refine z_sub [0] rfl (l_X7_nextToken_54 C  (fun s6 => ?_) g_N s4)
  refine z_aload_n C (q := 107) 0 dX7_nextToken_106 rfl rfl ?_
  refine z_iconst C (q := 108) dX7_nextToken_107 rfl lt_iconst_1 ?_
  refine z_putI C (q := 111) ob_1 fP_X7_19 rfl dX7_nextToken_108 rfl (fun s7 => ?_)
  refine z_aload_n C (q := 112) 0 dX7_nextToken_111 rfl rfl ?_
  refine z_getI C (q := 115) ob_1 fF_X7_25 rfl dX7_nextToken_112 rfl ?_
  refine z_aload_n C (q := 116) 0 dX7_nextToken_115 rfl rfl ?_
  refine z_getI C (q := 119) ob_1 fF_X7_22 rfl dX7_nextToken_116 rfl ?_
  refine z_icmp_le C (tgt := 123) (q := 122) dX7_nextToken_119 (by decide) rfl ?_ ?_
  · refine z_sub [0] rfl (l_X7_nextToken_123 C  (fun s9 => ?_) g_N s7)
    refine z_aload_n C (q := 176) 0 dX7_nextToken_175 rfl rfl ?_
    refine z_iconst C (q := 177) dX7_nextToken_176 rfl lt_iconst_2 ?_
    refine z_putI C (q := 180) ob_1 fP_X7_19 rfl dX7_nextToken_177 rfl (fun s10 => ?_)
    refine z_aload_n C (q := 181) 0 dX7_nextToken_180 rfl rfl ?_
    refine z_getI C (q := 184) ob_1 fF_X7_25 rfl dX7_nextToken_181 rfl ?_
    refine z_aload_n C (q := 185) 0 dX7_nextToken_184 rfl rfl ?_
    refine z_getI C (q := 188) ob_1 fF_X7_22 rfl dX7_nextToken_185 rfl ?_
    refine z_icmp_le C (tgt := 192) (q := 191) dX7_nextToken_188 (by decide) rfl ?_ ?_
    · refine z_aload_n C (q := 193) 0 dX7_nextToken_192 rfl rfl ?_
      refine z_iconst C (q := 194) dX7_nextToken_193 rfl lt_iconst_0 ?_
      refine z_putI C (q := 197) ob_1 fP_X7_19 rfl dX7_nextToken_194 rfl (fun s11 => ?_)
      refine z_aload_n C (q := 198) 0 dX7_nextToken_197 rfl rfl ?_
      refine z_getI C (q := 201) ob_1 fF_X7_22 rfl dX7_nextToken_198 rfl ?_
      refine z_aload_n C (q := 202) 0 dX7_nextToken_201 rfl rfl ?_
      refine z_getI C (q := 205) ob_1 fF_X7_15 rfl dX7_nextToken_202 rfl ?_
      refine z_icmp_lt C (tgt := 209) (q := 208) dX7_nextToken_205 (by decide) rfl ?_ ?_
      · refine z_aload_n C (q := 210) 0 dX7_nextToken_209 rfl rfl ?_
        refine z_aload_n C (q := 211) 0 dX7_nextToken_210 rfl rfl ?_
        refine z_getR C (q := 214) ob_1 fF_X7_9 rfl dX7_nextToken_211 rfl ?_
        refine z_aload_n C (q := 215) 0 dX7_nextToken_214 rfl rfl ?_
        refine z_getI C (q := 218) ob_1 fF_X7_22 rfl dX7_nextToken_215 rfl ?_
        refine z_iald C (q := 219) ar_2 dX7_nextToken_218 rfl ?_
        refine z_bipush C (q := 221) dX7_nextToken_219 rfl lt_bipush_59 ?_
        refine z_icmp_ne C (tgt := 228) (q := 224) dX7_nextToken_221 (by decide) rfl ?_ ?_
        · refine z_iconst C (q := 229) dX7_nextToken_228 rfl lt_iconst_4 ?_
          refine z_putI C (q := 232) ob_1 fP_X7_19 rfl dX7_nextToken_229 rfl (fun s12 => ?_)
          refine z_aload_n C (q := 233) 0 dX7_nextToken_232 rfl rfl ?_
          refine z_aload_n C (q := 234) 0 dX7_nextToken_233 rfl rfl ?_
          refine z_getI C (q := 237) ob_1 fF_X7_22 rfl dX7_nextToken_234 rfl ?_
          refine z_iconst C (q := 238) dX7_nextToken_237 rfl lt_iconst_1 ?_
          refine z_iadd C (q := 239) dX7_nextToken_238 rfl ?_
          refine z_putI C (q := 242) ob_1 fP_X7_25 rfl dX7_nextToken_239 rfl (fun s13 => ?_)
          exact z_vret C dX7_nextToken_242
        refine z_iconst C (q := 225) dX7_nextToken_224 rfl lt_iconst_3 ?_
        refine z_goto C (tgt := 229) dX7_nextToken_225 (by decide) ?_
        refine z_putI C (q := 232) ob_1 fP_X7_19 rfl dX7_nextToken_229 rfl (fun s14 => ?_)
        refine z_aload_n C (q := 233) 0 dX7_nextToken_232 rfl rfl ?_
        refine z_aload_n C (q := 234) 0 dX7_nextToken_233 rfl rfl ?_
        refine z_getI C (q := 237) ob_1 fF_X7_22 rfl dX7_nextToken_234 rfl ?_
        refine z_iconst C (q := 238) dX7_nextToken_237 rfl lt_iconst_1 ?_
        refine z_iadd C (q := 239) dX7_nextToken_238 rfl ?_
        refine z_putI C (q := 242) ob_1 fP_X7_25 rfl dX7_nextToken_239 rfl (fun s15 => ?_)
        exact z_vret C dX7_nextToken_242
      exact z_vret C dX7_nextToken_208
    exact z_vret C dX7_nextToken_191
  exact z_vret C dX7_nextToken_122
set_option maxRecDepth 100000 in
set_option maxHeartbeats 4000000 in
theorem l_X7_isWord_39 {G : gG} {X : gX} {ad : Nat → Nat} (C : g_K G X LC ad cX7_isWord 3 RX7 (some .boolean) 4) (w : Nat) (hw : w < g_sN)  {k : Int32 → gS → gR} (hk : ∀ (v2 : Int32) (s : gS), g_Z G X LC ad 3 74 [] [] s (k v2 s)) : ∀ (n : Nat) (v2 : Int32) (s : gS), g_Z G X LC ad 3 39 [(0, .ref (ad 1)), (1, .ref (g_sk G w)), (2, .int v2)] [] s (f_X7_isWord_39 w k n v2 s) := by
  intro n
  induction n with
  | zero => intros; exact z_none
  | succ n ih =>
    intro v2 s
    rw [f_X7_isWord_39.eq_2]
    refine z_iload_n C (q := 40) 2 dX7_isWord_39 rfl rfl ?_
    refine z_aload_n C (q := 41) 1 dX7_isWord_40 rfl rfl ?_
    refine z_slen C (q := 44) hw (by decide) (Nat.le_of_ble_eq_true rfl) wm_238 dX7_isWord_41 rfl ?_
    refine z_icmp_ge C (tgt := 74) (q := 47) dX7_isWord_44 (by decide) rfl ?_ ?_
    · exact z_sub [] rfl (hk v2 s)
    refine z_aload_n C (q := 48) 0 dX7_isWord_47 rfl rfl ?_
    refine z_getR C (q := 51) ob_1 fF_X7_9 rfl dX7_isWord_48 rfl ?_
    refine z_aload_n C (q := 52) 0 dX7_isWord_51 rfl rfl ?_
    refine z_getI C (q := 55) ob_1 fF_X7_22 rfl dX7_isWord_52 rfl ?_
    refine z_iload_n C (q := 56) 2 dX7_isWord_55 rfl rfl ?_
    refine z_iadd C (q := 57) dX7_isWord_56 rfl ?_
    refine z_iald C (q := 58) ar_2 dX7_isWord_57 rfl ?_
    refine z_aload_n C (q := 59) 1 dX7_isWord_58 rfl rfl ?_
    refine z_iload_n C (q := 60) 2 dX7_isWord_59 rfl rfl ?_
    refine z_schr C (q := 63) hw (by decide) (Nat.le_of_ble_eq_true rfl) wm_250 dX7_isWord_60 rfl ?_
    refine z_icmp_eq C (tgt := 68) (q := 66) dX7_isWord_63 (by decide) rfl ?_ ?_
    · refine z_iinc C (q := 71) 2 [(2, .int (v2 + 1)), (0, .ref (ad 1)), (1, .ref (g_sk G w))] dX7_isWord_68 rfl rfl (lt_iinc_1 _) (by decide) rfl ?_
      refine z_goto C (tgt := 39) dX7_isWord_71 (by decide) ?_
      exact z_sub [1, 2, 0] rfl (ih (v2 + 1) s)
    refine z_iconst C (q := 67) dX7_isWord_66 rfl lt_iconst_0 ?_
    exact z_zretK C (by decide) dX7_isWord_67
set_option maxRecDepth 100000 in
set_option maxHeartbeats 4000000 in
theorem m_X7_isWord (G : gG) {ad : Nat → Nat} (hap : g_ap LC ad) (w : Nat) (hw : w < g_sN)  (s : gS) : g_M G LC ad yX7_isWord cX7_isWord 3 (some .boolean) 4 [.ref (ad 1), .ref (g_sk G w)] s (f_X7_isWord w s) := by
  refine g_entry (by decide) hap (Nat.le_of_ble_eq_true rfl) [(0, .ref (ad 1)), (1, .ref (g_sk G w))] rfl (fun X C => ?_)
  unfold f_X7_isWord
  refine z_aload_n C (q := 1) 0 dX7_isWord_0 rfl rfl ?_
  refine z_getI C (q := 4) ob_1 fF_X7_19 rfl dX7_isWord_1 rfl ?_
  refine z_iconst C (q := 5) dX7_isWord_4 rfl lt_iconst_1 ?_
  refine z_icmp_ne C (tgt := 35) (q := 8) dX7_isWord_5 (by decide) rfl ?_ ?_
  · refine z_iconst C (q := 36) dX7_isWord_35 rfl lt_iconst_0 ?_
    exact z_zretK C (by decide) dX7_isWord_36
  refine z_aload_n C (q := 9) 0 dX7_isWord_8 rfl rfl ?_
  refine z_getI C (q := 12) ob_1 fF_X7_25 rfl dX7_isWord_9 rfl ?_
  refine z_aload_n C (q := 13) 0 dX7_isWord_12 rfl rfl ?_
  refine z_getI C (q := 16) ob_1 fF_X7_22 rfl dX7_isWord_13 rfl ?_
  refine z_isub C (q := 17) dX7_isWord_16 rfl ?_
  refine z_aload_n C (q := 18) 1 dX7_isWord_17 rfl rfl ?_
  refine z_slen C (q := 21) hw (by decide) (Nat.le_of_ble_eq_true rfl) wm_238 dX7_isWord_18 rfl ?_
  refine z_icmp_ne C (tgt := 35) (q := 24) dX7_isWord_21 (by decide) rfl ?_ ?_
  · refine z_iconst C (q := 36) dX7_isWord_35 rfl lt_iconst_0 ?_
    exact z_zretK C (by decide) dX7_isWord_36
  refine z_aload_n C (q := 25) 0 dX7_isWord_24 rfl rfl ?_
  refine z_getI C (q := 28) ob_1 fF_X7_25 rfl dX7_isWord_25 rfl ?_
  refine z_aload_n C (q := 29) 0 dX7_isWord_28 rfl rfl ?_
  refine z_getI C (q := 32) ob_1 fF_X7_15 rfl dX7_isWord_29 rfl ?_
  refine z_icmp_le C (tgt := 37) (q := 35) dX7_isWord_32 (by decide) rfl ?_ ?_
  · refine z_iconst C (q := 38) dX7_isWord_37 rfl lt_iconst_0 ?_
    refine z_istore_n C (q := 39) [(2, .int (0 : Int32)), (0, .ref (ad 1)), (1, .ref (g_sk G w))] dX7_isWord_38 rfl rfl (by decide) rfl ?_
    refine z_sub [1, 2, 0] rfl (l_X7_isWord_39 C w hw (fun v2_1 s2 => ?_) g_N (0 : Int32) s)
    refine z_iconst C (q := 75) dX7_isWord_74 rfl lt_iconst_1 ?_
    exact z_zretK C (by decide) dX7_isWord_75
  refine z_iconst C (q := 36) dX7_isWord_35 rfl lt_iconst_0 ?_
  exact z_zretK C (by decide) dX7_isWord_36
set_option maxRecDepth 100000 in
set_option maxHeartbeats 4000000 in
theorem m_X5_fail (G : gG) {ad : Nat → Nat} (hap : g_ap LC ad)   (v1 : Int32) (s : gS) : g_M G LC ad yX5_fail cX5_fail 2 (some .boolean) 0 [.ref (ad 3), .int v1] s (f_X5_fail v1 s) := by
  refine g_entry (by decide) hap (Nat.le_of_ble_eq_true rfl) [(0, .ref (ad 3)), (1, .int v1)] rfl (fun X C => ?_)
  unfold f_X5_fail
  refine z_aload_n C (q := 1) 0 dX5_fail_0 rfl rfl ?_
  refine z_iload_n C (q := 2) 1 dX5_fail_1 rfl rfl ?_
  refine z_putI C (q := 5) ob_3 fP_X5_51 rfl dX5_fail_2 rfl (fun s1 => ?_)
  refine z_aload_n C (q := 6) 0 dX5_fail_5 rfl rfl ?_
  refine z_aload_n C (q := 7) 0 dX5_fail_6 rfl rfl ?_
  refine z_getR C (q := 10) ob_3 fF_X5_25 rfl dX5_fail_7 rfl ?_
  refine z_getI C (q := 13) ob_1 fF_X5_79 rfl dX5_fail_10 rfl ?_
  refine z_putI C (q := 16) ob_3 fP_X5_29 rfl dX5_fail_13 rfl (fun s2 => ?_)
  refine z_iconst C (q := 17) dX5_fail_16 rfl lt_iconst_0 ?_
  exact z_zretK C (by decide) dX5_fail_17
set_option maxRecDepth 100000 in
set_option maxHeartbeats 4000000 in
theorem l_X7_value_41 {G : gG} {X : gX} {ad : Nat → Nat} (C : g_K G X LC ad cX7_value 3 RX7 (some .int) 0)    {k : Int32 → Int32 → gS → gR} (hk : ∀ (v1 : Int32) (v2 : Int32) (s : gS), g_Z G X LC ad 3 70 [(1, .int v1)] [] s (k v1 v2 s)) : ∀ (n : Nat) (v1 : Int32) (v2 : Int32) (s : gS), g_Z G X LC ad 3 41 [(0, .ref (ad 1)), (1, .int v1), (2, .int v2)] [] s (f_X7_value_41  k n v1 v2 s) := by
  intro n
  induction n with
  | zero => intros; exact z_none
  | succ n ih =>
    intro v1 v2 s
    rw [f_X7_value_41.eq_2]
    refine z_iload_n C (q := 42) 2 dX7_value_41 rfl rfl ?_
    refine z_aload_n C (q := 43) 0 dX7_value_42 rfl rfl ?_
    refine z_getI C (q := 46) ob_1 fF_X7_25 rfl dX7_value_43 rfl ?_
    refine z_icmp_ge C (tgt := 70) (q := 49) dX7_value_46 (by decide) rfl ?_ ?_
    · exact z_sub [1] rfl (hk v1 v2 s)
    refine z_bipush C (q := 51) dX7_value_49 rfl lt_bipush_10 ?_
    refine z_iload_n C (q := 52) 1 dX7_value_51 rfl rfl ?_
    refine z_imul C (q := 53) dX7_value_52 rfl ?_
    refine z_aload_n C (q := 54) 0 dX7_value_53 rfl rfl ?_
    refine z_getR C (q := 57) ob_1 fF_X7_9 rfl dX7_value_54 rfl ?_
    refine z_iload_n C (q := 58) 2 dX7_value_57 rfl rfl ?_
    refine z_iald C (q := 59) ar_2 dX7_value_58 rfl ?_
    refine z_iadd C (q := 60) dX7_value_59 rfl ?_
    refine z_bipush C (q := 62) dX7_value_60 rfl lt_bipush_48 ?_
    refine z_isub C (q := 63) dX7_value_62 rfl ?_
    refine z_leti (fun v1_2 => ?_)
    refine z_istore_n C (q := 64) [(1, .int v1_2), (0, .ref (ad 1)), (2, .int v2)] dX7_value_63 rfl rfl (by decide) rfl ?_
    refine z_iinc C (q := 67) 2 [(2, .int (v2 + 1)), (1, .int v1_2), (0, .ref (ad 1))] dX7_value_64 rfl rfl (lt_iinc_1 _) (by decide) rfl ?_
    refine z_goto C (tgt := 41) dX7_value_67 (by decide) ?_
    exact z_sub [2, 1, 0] rfl (ih v1_2 (v2 + 1) s)
set_option maxRecDepth 100000 in
set_option maxHeartbeats 4000000 in
theorem m_X7_value (G : gG) {ad : Nat → Nat} (hap : g_ap LC ad)    (s : gS) : g_M G LC ad yX7_value cX7_value 3 (some .int) 0 [.ref (ad 1)] s (f_X7_value s) := by
  refine g_entry (by decide) hap (Nat.le_of_ble_eq_true rfl) [(0, .ref (ad 1))] rfl (fun X C => ?_)
  unfold f_X7_value
  refine z_aload_n C (q := 1) 0 dX7_value_0 rfl rfl ?_
  refine z_getI C (q := 4) ob_1 fF_X7_19 rfl dX7_value_1 rfl ?_
  refine z_iconst C (q := 5) dX7_value_4 rfl lt_iconst_2 ?_
  refine z_icmp_ne C (tgt := 32) (q := 8) dX7_value_5 (by decide) rfl ?_ ?_
  · refine z_iconst C (q := 33) dX7_value_32 rfl lt_iconst_m1 ?_
    exact z_iret C dX7_value_33
  refine z_aload_n C (q := 9) 0 dX7_value_8 rfl rfl ?_
  refine z_getI C (q := 12) ob_1 fF_X7_25 rfl dX7_value_9 rfl ?_
  refine z_aload_n C (q := 13) 0 dX7_value_12 rfl rfl ?_
  refine z_getI C (q := 16) ob_1 fF_X7_22 rfl dX7_value_13 rfl ?_
  refine z_isub C (q := 17) dX7_value_16 rfl ?_
  refine z_iconst C (q := 18) dX7_value_17 rfl lt_iconst_3 ?_
  refine z_icmp_gt C (tgt := 32) (q := 21) dX7_value_18 (by decide) rfl ?_ ?_
  · refine z_iconst C (q := 33) dX7_value_32 rfl lt_iconst_m1 ?_
    exact z_iret C dX7_value_33
  refine z_aload_n C (q := 22) 0 dX7_value_21 rfl rfl ?_
  refine z_getI C (q := 25) ob_1 fF_X7_25 rfl dX7_value_22 rfl ?_
  refine z_aload_n C (q := 26) 0 dX7_value_25 rfl rfl ?_
  refine z_getI C (q := 29) ob_1 fF_X7_15 rfl dX7_value_26 rfl ?_
  refine z_icmp_le C (tgt := 34) (q := 32) dX7_value_29 (by decide) rfl ?_ ?_
  · refine z_iconst C (q := 35) dX7_value_34 rfl lt_iconst_0 ?_
    refine z_istore_n C (q := 36) [(1, .int (0 : Int32)), (0, .ref (ad 1))] dX7_value_35 rfl rfl (by decide) rfl ?_
    refine z_aload_n C (q := 37) 1 dX7_value_36 rfl rfl ?_
    refine z_getI C (q := 40) ob_1 fF_X7_22 rfl dX7_value_37 rfl ?_
    refine z_leti (fun v2_1 => ?_)
    refine z_istore_n C (q := 41) [(2, .int v2_1), (1, .int (0 : Int32)), (0, .ref (ad 1))] dX7_value_40 rfl rfl (by decide) rfl ?_
    refine z_sub [2, 1, 0] rfl (l_X7_value_41 C  (fun v1_3 v2_4 s5 => ?_) g_N (0 : Int32) v2_1 s)
    refine z_iload_n C (q := 71) 0 dX7_value_70 rfl rfl ?_
    exact z_iret C dX7_value_71
  refine z_iconst C (q := 33) dX7_value_32 rfl lt_iconst_m1 ?_
  exact z_iret C dX7_value_33
set_option maxRecDepth 100000 in
set_option maxHeartbeats 4000000 in
theorem m_X5_readNumber (G : gG) {ad : Nat → Nat} (hap : g_ap LC ad)   (v1 : Int32) (v2 : Int32) (s : gS) : g_M G LC ad yX5_readNumber cX5_readNumber 4 (some .int) 1 [.ref (ad 3), .int v1, .int v2] s (f_X5_readNumber v1 v2 s) := by
  refine g_entry (by decide) hap (Nat.le_of_ble_eq_true rfl) [(0, .ref (ad 3)), (1, .int v1), (2, .int v2)] rfl (fun X C => ?_)
  unfold f_X5_readNumber
  refine z_aload_n C (q := 1) 0 dX5_readNumber_0 rfl rfl ?_
  refine z_getR C (q := 4) ob_3 fF_X5_25 rfl dX5_readNumber_1 rfl ?_
  refine z_callV C (q := 7) [] gl_X5_36 glv_X7_nextToken ob_1 rfl (m_X7_nextToken G (g_Kap C)  _) rfl rfl (Nat.le_of_ble_eq_true rfl) ⟨by decide, by decide⟩ dX5_readNumber_4 rfl (z_kv (fun s1 => ?_))
  refine z_aload_n C (q := 8) 0 dX5_readNumber_7 rfl rfl ?_
  refine z_getR C (q := 11) ob_3 fF_X5_25 rfl dX5_readNumber_8 rfl ?_
  refine z_getI C (q := 14) ob_1 fF_X5_41 rfl dX5_readNumber_11 rfl ?_
  refine z_iconst C (q := 15) dX5_readNumber_14 rfl lt_iconst_2 ?_
  refine z_icmp_eq C (tgt := 26) (q := 18) dX5_readNumber_15 (by decide) rfl ?_ ?_
  · refine z_aload_n C (q := 27) 0 dX5_readNumber_26 rfl rfl ?_
    refine z_getR C (q := 30) ob_3 fF_X5_25 rfl dX5_readNumber_27 rfl ?_
    refine z_callV C (q := 33) [] gl_X5_86 glv_X7_value ob_1 rfl (m_X7_value G (g_Kap C)  _) rfl rfl (Nat.le_of_ble_eq_true rfl) ⟨by decide, by decide⟩ dX5_readNumber_30 rfl (z_ki (fun r3 s2 => ?_))
    refine z_istore_n C (q := 34) [(3, .int r3), (0, .ref (ad 3)), (1, .int v1), (2, .int v2)] dX5_readNumber_33 rfl rfl (by decide) rfl ?_
    refine z_iload_n C (q := 35) 0 dX5_readNumber_34 rfl rfl ?_
    refine z_iload_n C (q := 36) 2 dX5_readNumber_35 rfl rfl ?_
    refine z_icmp_lt C (tgt := 44) (q := 39) dX5_readNumber_36 (by decide) rfl ?_ ?_
    · refine z_aload_n C (q := 45) 1 dX5_readNumber_44 rfl rfl ?_
      refine z_iconst C (q := 46) dX5_readNumber_45 rfl lt_iconst_2 ?_
      refine z_callV C (q := 49) [.int (2 : Int32)] gl_X5_82 glv_X5_fail ob_3 rfl (m_X5_fail G (g_Kap C) (2 : Int32) _) rfl rfl (Nat.le_of_ble_eq_true rfl) ⟨by decide, by decide⟩ dX5_readNumber_46 rfl (z_ki (fun r5 s4 => ?_))
      refine z_pop C (q := 50) dX5_readNumber_49 rfl rfl ?_
      refine z_iconst C (q := 51) dX5_readNumber_50 rfl lt_iconst_m1 ?_
      exact z_iret C dX5_readNumber_51
    refine z_iload_n C (q := 40) 0 dX5_readNumber_39 rfl rfl ?_
    refine z_iload_n C (q := 41) 3 dX5_readNumber_40 rfl rfl ?_
    refine z_icmp_le C (tgt := 52) (q := 44) dX5_readNumber_41 (by decide) rfl ?_ ?_
    · refine z_iload_n C (q := 53) 0 dX5_readNumber_52 rfl rfl ?_
      exact z_iret C dX5_readNumber_53
    refine z_aload_n C (q := 45) 1 dX5_readNumber_44 rfl rfl ?_
    refine z_iconst C (q := 46) dX5_readNumber_45 rfl lt_iconst_2 ?_
    refine z_callV C (q := 49) [.int (2 : Int32)] gl_X5_82 glv_X5_fail ob_3 rfl (m_X5_fail G (g_Kap C) (2 : Int32) _) rfl rfl (Nat.le_of_ble_eq_true rfl) ⟨by decide, by decide⟩ dX5_readNumber_46 rfl (z_ki (fun r7 s6 => ?_))
    refine z_pop C (q := 50) dX5_readNumber_49 rfl rfl ?_
    refine z_iconst C (q := 51) dX5_readNumber_50 rfl lt_iconst_m1 ?_
    exact z_iret C dX5_readNumber_51
  refine z_aload_n C (q := 19) 0 dX5_readNumber_18 rfl rfl ?_
  refine z_iconst C (q := 20) dX5_readNumber_19 rfl lt_iconst_1 ?_
  refine z_callV C (q := 23) [.int (1 : Int32)] gl_X5_82 glv_X5_fail ob_3 rfl (m_X5_fail G (g_Kap C) (1 : Int32) _) rfl rfl (Nat.le_of_ble_eq_true rfl) ⟨by decide, by decide⟩ dX5_readNumber_20 rfl (z_ki (fun r9 s8 => ?_))
  refine z_pop C (q := 24) dX5_readNumber_23 rfl rfl ?_
  refine z_iconst C (q := 25) dX5_readNumber_24 rfl lt_iconst_m1 ?_
  exact z_iret C dX5_readNumber_25
set_option maxRecDepth 100000 in
set_option maxHeartbeats 4000000 in
theorem m_X5_readStop (G : gG) {ad : Nat → Nat} (hap : g_ap LC ad)    (s : gS) : g_M G LC ad yX5_readStop cX5_readStop 1 (some .boolean) 1 [.ref (ad 3)] s (f_X5_readStop s) := by
  refine g_entry (by decide) hap (Nat.le_of_ble_eq_true rfl) [(0, .ref (ad 3))] rfl (fun X C => ?_)
  unfold f_X5_readStop
  refine z_aload_n C (q := 1) 0 dX5_readStop_0 rfl rfl ?_
  refine z_getR C (q := 4) ob_3 fF_X5_25 rfl dX5_readStop_1 rfl ?_
  refine z_callV C (q := 7) [] gl_X5_36 glv_X7_nextToken ob_1 rfl (m_X7_nextToken G (g_Kap C)  _) rfl rfl (Nat.le_of_ble_eq_true rfl) ⟨by decide, by decide⟩ dX5_readStop_4 rfl (z_kv (fun s1 => ?_))
  refine z_aload_n C (q := 8) 0 dX5_readStop_7 rfl rfl ?_
  refine z_getR C (q := 11) ob_3 fF_X5_25 rfl dX5_readStop_8 rfl ?_
  refine z_getI C (q := 14) ob_1 fF_X5_41 rfl dX5_readStop_11 rfl ?_
  refine z_iconst C (q := 15) dX5_readStop_14 rfl lt_iconst_3 ?_
  refine z_icmp_eq C (tgt := 26) (q := 18) dX5_readStop_15 (by decide) rfl ?_ ?_
  · refine z_iconst C (q := 27) dX5_readStop_26 rfl lt_iconst_1 ?_
    refine z_goto C (tgt := 31) dX5_readStop_27 (by decide) ?_
    exact z_zretK C (by decide) dX5_readStop_31
  refine z_aload_n C (q := 19) 0 dX5_readStop_18 rfl rfl ?_
  refine z_iconst C (q := 20) dX5_readStop_19 rfl lt_iconst_1 ?_
  refine z_callV C (q := 23) [.int (1 : Int32)] gl_X5_82 glv_X5_fail ob_3 rfl (m_X5_fail G (g_Kap C) (1 : Int32) _) rfl rfl (Nat.le_of_ble_eq_true rfl) ⟨by decide, by decide⟩ dX5_readStop_20 rfl (z_ki (fun r3 s2 => ?_))
  refine z_if_eq C (tgt := 30) (q := 26) dX5_readStop_23 (by decide) rfl ?_ ?_
  · refine z_iconst C (q := 31) dX5_readStop_30 rfl lt_iconst_0 ?_
    exact z_zretK C (by decide) dX5_readStop_31
  refine z_iconst C (q := 27) dX5_readStop_26 rfl lt_iconst_1 ?_
  refine z_goto C (tgt := 31) dX5_readStop_27 (by decide) ?_
  exact z_zretK C (by decide) dX5_readStop_31
set_option maxRecDepth 100000 in
set_option maxHeartbeats 4000000 in
theorem m_X5_readSize (G : gG) {ad : Nat → Nat} (hap : g_ap LC ad)    (s : gS) : g_M G LC ad yX5_readSize cX5_readSize 3 (some .boolean) 5 [.ref (ad 3)] s (f_X5_readSize s) := by
  refine g_entry (by decide) hap (Nat.le_of_ble_eq_true rfl) [(0, .ref (ad 3))] rfl (fun X C => ?_)
  unfold f_X5_readSize
  refine z_aload_n C (q := 1) 0 dX5_readSize_0 rfl rfl ?_
  refine z_getR C (q := 4) ob_3 fF_X5_25 rfl dX5_readSize_1 rfl ?_
  refine z_ldcS C (q := 6) 0 (by decide) dX5_readSize_4 rfl ?_
  refine z_callV C (q := 9) [.ref (g_sk G 0)] gl_X5_105 glv_X7_isWord ob_1 rfl (m_X7_isWord G (g_Kap C) 0 (by decide) _) rfl rfl (Nat.le_of_ble_eq_true rfl) ⟨by decide, by decide⟩ dX5_readSize_6 rfl (z_ki (fun r2 s1 => ?_))
  refine z_if_ne C (tgt := 18) (q := 12) dX5_readSize_9 (by decide) rfl ?_ ?_
  · refine z_aload_n C (q := 19) 0 dX5_readSize_18 rfl rfl ?_
    refine z_iconst C (q := 20) dX5_readSize_19 rfl lt_iconst_1 ?_
    refine z_bipush C (q := 22) dX5_readSize_20 rfl lt_bipush_9 ?_
    refine z_callV C (q := 25) [.int (1 : Int32), .int (9 : Int32)] gl_X5_93 glv_X5_readNumber ob_3 rfl (m_X5_readNumber G (g_Kap C) (1 : Int32) (9 : Int32) _) rfl rfl (Nat.le_of_ble_eq_true rfl) ⟨by decide, by decide⟩ dX5_readSize_22 rfl (z_ki (fun r4 s3 => ?_))
    refine z_istore_n C (q := 26) [(1, .int r4), (0, .ref (ad 3))] dX5_readSize_25 rfl rfl (by decide) rfl ?_
    refine z_iload_n C (q := 27) 0 dX5_readSize_26 rfl rfl ?_
    refine z_if_ge C (tgt := 32) (q := 30) dX5_readSize_27 (by decide) rfl ?_ ?_
    · refine z_aload_n C (q := 33) 1 dX5_readSize_32 rfl rfl ?_
      refine z_iconst C (q := 34) dX5_readSize_33 rfl lt_iconst_1 ?_
      refine z_bipush C (q := 36) dX5_readSize_34 rfl lt_bipush_9 ?_
      refine z_callV C (q := 39) [.int (1 : Int32), .int (9 : Int32)] gl_X5_93 glv_X5_readNumber ob_3 rfl (m_X5_readNumber G (g_Kap C) (1 : Int32) (9 : Int32) _) rfl rfl (Nat.le_of_ble_eq_true rfl) ⟨by decide, by decide⟩ dX5_readSize_36 rfl (z_ki (fun r6 s5 => ?_))
      refine z_istore_n C (q := 40) [(2, .int r6), (1, .int r4), (0, .ref (ad 3))] dX5_readSize_39 rfl rfl (by decide) rfl ?_
      refine z_iload_n C (q := 41) 0 dX5_readSize_40 rfl rfl ?_
      refine z_if_ge C (tgt := 46) (q := 44) dX5_readSize_41 (by decide) rfl ?_ ?_
      · refine z_iload_n C (q := 47) 1 dX5_readSize_46 rfl rfl ?_
        refine z_iload_n C (q := 48) 0 dX5_readSize_47 rfl rfl ?_
        refine z_imul C (q := 49) dX5_readSize_48 rfl ?_
        refine z_bipush C (q := 51) dX5_readSize_49 rfl lt_bipush_40 ?_
        refine z_icmp_le C (tgt := 60) (q := 54) dX5_readSize_51 (by decide) rfl ?_ ?_
        · refine z_aload_n C (q := 61) 2 dX5_readSize_60 rfl rfl ?_
          refine z_getR C (q := 64) ob_3 fF_X5_12 rfl dX5_readSize_61 rfl ?_
          refine z_iload_n C (q := 65) 1 dX5_readSize_64 rfl rfl ?_
          refine z_iload_n C (q := 66) 0 dX5_readSize_65 rfl rfl ?_
          refine z_callV C (q := 69) [.int r4, .int r6] gl_X5_109 glv_X3_layOut hLand_4.1 rfl (m_X3_layOut G (g_Kap C) 4 hLand_4 r4 r6 _) rfl rfl (Nat.le_of_ble_eq_true rfl) ⟨by decide, by decide⟩ dX5_readSize_66 rfl (z_kv (fun s7 => ?_))
          refine z_aload_n C (q := 70) 2 dX5_readSize_69 rfl rfl ?_
          refine z_callV C (q := 73) [] gl_X5_113 glv_X5_readStop ob_3 rfl (m_X5_readStop G (g_Kap C)  _) rfl rfl (Nat.le_of_ble_eq_true rfl) ⟨by decide, by decide⟩ dX5_readSize_70 rfl (z_ki (fun r9 s8 => ?_))
          exact z_zret C dX5_readSize_73
        refine z_aload_n C (q := 55) 2 dX5_readSize_54 rfl rfl ?_
        refine z_iconst C (q := 56) dX5_readSize_55 rfl lt_iconst_2 ?_
        refine z_callV C (q := 59) [.int (2 : Int32)] gl_X5_82 glv_X5_fail ob_3 rfl (m_X5_fail G (g_Kap C) (2 : Int32) _) rfl rfl (Nat.le_of_ble_eq_true rfl) ⟨by decide, by decide⟩ dX5_readSize_56 rfl (z_ki (fun r11 s10 => ?_))
        exact z_zret C dX5_readSize_59
      refine z_iconst C (q := 45) dX5_readSize_44 rfl lt_iconst_0 ?_
      exact z_zretK C (by decide) dX5_readSize_45
    refine z_iconst C (q := 31) dX5_readSize_30 rfl lt_iconst_0 ?_
    exact z_zretK C (by decide) dX5_readSize_31
  refine z_aload_n C (q := 13) 0 dX5_readSize_12 rfl rfl ?_
  refine z_iconst C (q := 14) dX5_readSize_13 rfl lt_iconst_1 ?_
  refine z_callV C (q := 17) [.int (1 : Int32)] gl_X5_82 glv_X5_fail ob_3 rfl (m_X5_fail G (g_Kap C) (1 : Int32) _) rfl rfl (Nat.le_of_ble_eq_true rfl) ⟨by decide, by decide⟩ dX5_readSize_14 rfl (z_ki (fun r13 s12 => ?_))
  exact z_zret C dX5_readSize_17
set_option maxRecDepth 100000 in
set_option maxHeartbeats 4000000 in
theorem m_X5_readCell (G : gG) {ad : Nat → Nat} (hap : g_ap LC ad)    (s : gS) : g_M G LC ad yX5_readCell cX5_readCell 3 (some .int) 2 [.ref (ad 3)] s (f_X5_readCell s) := by
  refine g_entry (by decide) hap (Nat.le_of_ble_eq_true rfl) [(0, .ref (ad 3))] rfl (fun X C => ?_)
  unfold f_X5_readCell
  refine z_aload_n C (q := 1) 0 dX5_readCell_0 rfl rfl ?_
  refine z_iconst C (q := 2) dX5_readCell_1 rfl lt_iconst_0 ?_
  refine z_aload_n C (q := 3) 0 dX5_readCell_2 rfl rfl ?_
  refine z_getR C (q := 6) ob_3 fF_X5_12 rfl dX5_readCell_3 rfl ?_
  refine z_getI C (q := 9) hLand_4.1 fF_X5_90 rfl dX5_readCell_6 rfl ?_
  refine z_iconst C (q := 10) dX5_readCell_9 rfl lt_iconst_1 ?_
  refine z_isub C (q := 11) dX5_readCell_10 rfl ?_
  refine z_callV C (q := 14) [.int (0 : Int32), .int ((s.1 4 0) - (1 : Int32))] gl_X5_93 glv_X5_readNumber ob_3 rfl (m_X5_readNumber G (g_Kap C) (0 : Int32) ((s.1 4 0) - (1 : Int32)) _) rfl rfl (Nat.le_of_ble_eq_true rfl) ⟨by decide, by decide⟩ dX5_readCell_11 rfl (z_ki (fun r2 s1 => ?_))
  refine z_istore_n C (q := 15) [(1, .int r2), (0, .ref (ad 3))] dX5_readCell_14 rfl rfl (by decide) rfl ?_
  refine z_iload_n C (q := 16) 0 dX5_readCell_15 rfl rfl ?_
  refine z_if_ge C (tgt := 21) (q := 19) dX5_readCell_16 (by decide) rfl ?_ ?_
  · refine z_aload_n C (q := 22) 1 dX5_readCell_21 rfl rfl ?_
    refine z_iconst C (q := 23) dX5_readCell_22 rfl lt_iconst_0 ?_
    refine z_aload_n C (q := 24) 1 dX5_readCell_23 rfl rfl ?_
    refine z_getR C (q := 27) ob_3 fF_X5_12 rfl dX5_readCell_24 rfl ?_
    refine z_getI C (q := 30) hLand_4.1 fF_X5_97 rfl dX5_readCell_27 rfl ?_
    refine z_iconst C (q := 31) dX5_readCell_30 rfl lt_iconst_1 ?_
    refine z_isub C (q := 32) dX5_readCell_31 rfl ?_
    refine z_callV C (q := 35) [.int (0 : Int32), .int ((s1.1 4 1) - (1 : Int32))] gl_X5_93 glv_X5_readNumber ob_3 rfl (m_X5_readNumber G (g_Kap C) (0 : Int32) ((s1.1 4 1) - (1 : Int32)) _) rfl rfl (Nat.le_of_ble_eq_true rfl) ⟨by decide, by decide⟩ dX5_readCell_32 rfl (z_ki (fun r4 s3 => ?_))
    refine z_istore_n C (q := 36) [(2, .int r4), (1, .int r2), (0, .ref (ad 3))] dX5_readCell_35 rfl rfl (by decide) rfl ?_
    refine z_iload_n C (q := 37) 0 dX5_readCell_36 rfl rfl ?_
    refine z_if_ge C (tgt := 42) (q := 40) dX5_readCell_37 (by decide) rfl ?_ ?_
    · refine z_aload_n C (q := 43) 2 dX5_readCell_42 rfl rfl ?_
      refine z_getR C (q := 46) ob_3 fF_X5_12 rfl dX5_readCell_43 rfl ?_
      refine z_iload_n C (q := 47) 1 dX5_readCell_46 rfl rfl ?_
      refine z_iload_n C (q := 48) 0 dX5_readCell_47 rfl rfl ?_
      refine z_callV C (q := 51) [.int r2, .int r4] gl_X5_100 glv_X3_cellAt hLand_4.1 rfl (m_X3_cellAt G (g_Kap C) 4 hLand_4 r2 r4 _) rfl rfl (Nat.le_of_ble_eq_true rfl) ⟨by decide, by decide⟩ dX5_readCell_48 rfl (z_ki (fun r6 s5 => ?_))
      exact z_iret C dX5_readCell_51
    refine z_iconst C (q := 41) dX5_readCell_40 rfl lt_iconst_m1 ?_
    exact z_iret C dX5_readCell_41
  refine z_iconst C (q := 20) dX5_readCell_19 rfl lt_iconst_m1 ?_
  exact z_iret C dX5_readCell_20
set_option maxRecDepth 100000 in
set_option maxHeartbeats 4000000 in
theorem m_X5_readValue (G : gG) {ad : Nat → Nat} (hap : g_ap LC ad) (b : Nat) (e : Nat) (hb : g_arr LC b 1 40) (he : g_arr LC e 0 40) (v3 : Int32) (s : gS) : g_M G LC ad yX5_readValue cX5_readValue 6 (some .boolean) 3 [.ref (ad 3), .ref (ad b), .ref (ad e), .int v3] s (f_X5_readValue b e v3 s) := by
  refine g_entry (by decide) hap (Nat.le_of_ble_eq_true rfl) [(0, .ref (ad 3)), (1, .ref (ad b)), (2, .ref (ad e)), (3, .int v3)] rfl (fun X C => ?_)
  unfold f_X5_readValue
  refine z_aload_n C (q := 1) 0 dX5_readValue_0 rfl rfl ?_
  refine z_callV C (q := 4) [] gl_X5_144 glv_X5_readCell ob_3 rfl (m_X5_readCell G (g_Kap C)  _) rfl rfl (Nat.le_of_ble_eq_true rfl) ⟨by decide, by decide⟩ dX5_readValue_1 rfl (z_ki (fun r2 s1 => ?_))
  refine z_istore C (q := 6) [(4, .int r2), (0, .ref (ad 3)), (1, .ref (ad b)), (2, .ref (ad e)), (3, .int v3)] dX5_readValue_4 rfl (by decide) rfl ?_
  refine z_aload_n C (q := 7) 1 dX5_readValue_6 rfl rfl ?_
  refine z_getR C (q := 10) ob_3 fF_X5_12 rfl dX5_readValue_7 rfl ?_
  refine z_iload C (q := 12) 0 dX5_readValue_10 rfl rfl ?_
  refine z_callV C (q := 15) [.int r2] gl_X5_147 glv_X3_has hLand_4.1 rfl (m_X3_has G (g_Kap C) 4 hLand_4 r2 _) rfl rfl (Nat.le_of_ble_eq_true rfl) ⟨by decide, by decide⟩ dX5_readValue_12 rfl (z_ki (fun r4 s3 => ?_))
  refine z_if_eq C (tgt := 32) (q := 18) dX5_readValue_15 (by decide) rfl ?_ ?_
  · refine z_iconst C (q := 33) dX5_readValue_32 rfl lt_iconst_0 ?_
    exact z_zretK C (by decide) dX5_readValue_33
  refine z_iload C (q := 20) 0 dX5_readValue_18 rfl rfl ?_
  refine z_aload_n C (q := 21) 2 dX5_readValue_20 rfl rfl ?_
  refine z_alen C (q := 22) (v := 40) hb (by decide) rfl dX5_readValue_21 rfl ?_
  refine z_icmp_ge C (tgt := 32) (q := 25) dX5_readValue_22 (by decide) rfl ?_ ?_
  · refine z_iconst C (q := 33) dX5_readValue_32 rfl lt_iconst_0 ?_
    exact z_zretK C (by decide) dX5_readValue_33
  refine z_iload C (q := 27) 0 dX5_readValue_25 rfl rfl ?_
  refine z_aload_n C (q := 28) 3 dX5_readValue_27 rfl rfl ?_
  refine z_alen C (q := 29) (v := 40) he (by decide) rfl dX5_readValue_28 rfl ?_
  refine z_icmp_lt C (tgt := 34) (q := 32) dX5_readValue_29 (by decide) rfl ?_ ?_
  · refine z_aload_n C (q := 35) 2 dX5_readValue_34 rfl rfl ?_
    refine z_iload C (q := 37) 0 dX5_readValue_35 rfl rfl ?_
    refine z_zald C (q := 38) hb dX5_readValue_37 rfl ?_
    refine z_if_eq C (tgt := 47) (q := 41) dX5_readValue_38 (by decide) rfl ?_ ?_
    · refine z_aload_n C (q := 48) 2 dX5_readValue_47 rfl rfl ?_
      refine z_iload C (q := 50) 0 dX5_readValue_48 rfl rfl ?_
      refine z_iconst C (q := 51) dX5_readValue_50 rfl lt_iconst_1 ?_
      refine z_zast C (q := 52) hb dX5_readValue_51 rfl (fun s5 => ?_)
      refine z_aload_n C (q := 53) 1 dX5_readValue_52 rfl rfl ?_
      refine z_iconst C (q := 54) dX5_readValue_53 rfl lt_iconst_0 ?_
      refine z_iload_n C (q := 55) 4 dX5_readValue_54 rfl rfl ?_
      refine z_callV C (q := 58) [.int (0 : Int32), .int v3] gl_X5_93 glv_X5_readNumber ob_3 rfl (m_X5_readNumber G (g_Kap C) (0 : Int32) v3 _) rfl rfl (Nat.le_of_ble_eq_true rfl) ⟨by decide, by decide⟩ dX5_readValue_55 rfl (z_ki (fun r7 s6 => ?_))
      refine z_istore C (q := 60) [(5, .int r7), (4, .int r2), (0, .ref (ad 3)), (1, .ref (ad b)), (2, .ref (ad e)), (3, .int v3)] dX5_readValue_58 rfl (by decide) rfl ?_
      refine z_iload C (q := 62) 0 dX5_readValue_60 rfl rfl ?_
      refine z_if_ge C (tgt := 67) (q := 65) dX5_readValue_62 (by decide) rfl ?_ ?_
      · refine z_aload_n C (q := 68) 4 dX5_readValue_67 rfl rfl ?_
        refine z_iload C (q := 70) 1 dX5_readValue_68 rfl rfl ?_
        refine z_iload C (q := 72) 0 dX5_readValue_70 rfl rfl ?_
        refine z_iast C (q := 73) he dX5_readValue_72 rfl (fun s8 => ?_)
        refine z_aload_n C (q := 74) 2 dX5_readValue_73 rfl rfl ?_
        refine z_callV C (q := 77) [] gl_X5_113 glv_X5_readStop ob_3 rfl (m_X5_readStop G (g_Kap C)  _) rfl rfl (Nat.le_of_ble_eq_true rfl) ⟨by decide, by decide⟩ dX5_readValue_74 rfl (z_ki (fun r10 s9 => ?_))
        exact z_zret C dX5_readValue_77
      refine z_iconst C (q := 66) dX5_readValue_65 rfl lt_iconst_0 ?_
      exact z_zretK C (by decide) dX5_readValue_66
    refine z_aload_n C (q := 42) 1 dX5_readValue_41 rfl rfl ?_
    refine z_iconst C (q := 43) dX5_readValue_42 rfl lt_iconst_4 ?_
    refine z_callV C (q := 46) [.int (4 : Int32)] gl_X5_82 glv_X5_fail ob_3 rfl (m_X5_fail G (g_Kap C) (4 : Int32) _) rfl rfl (Nat.le_of_ble_eq_true rfl) ⟨by decide, by decide⟩ dX5_readValue_43 rfl (z_ki (fun r12 s11 => ?_))
    exact z_zret C dX5_readValue_46
  refine z_iconst C (q := 33) dX5_readValue_32 rfl lt_iconst_0 ?_
  exact z_zretK C (by decide) dX5_readValue_33
set_option maxRecDepth 100000 in
set_option maxHeartbeats 4000000 in
theorem m_X5_thingOfWord (G : gG) {ad : Nat → Nat} (hap : g_ap LC ad)    (s : gS) : g_M G LC ad yX5_thingOfWord cX5_thingOfWord 1 (some .int) 5 [.ref (ad 3)] s (f_X5_thingOfWord s) := by
  refine g_entry (by decide) hap (Nat.le_of_ble_eq_true rfl) [(0, .ref (ad 3))] rfl (fun X C => ?_)
  unfold f_X5_thingOfWord
  refine z_aload_n C (q := 1) 0 dX5_thingOfWord_0 rfl rfl ?_
  refine z_getR C (q := 4) ob_3 fF_X5_25 rfl dX5_thingOfWord_1 rfl ?_
  refine z_ldcS C (q := 6) 4 (by decide) dX5_thingOfWord_4 rfl ?_
  refine z_callV C (q := 9) [.ref (g_sk G 4)] gl_X5_105 glv_X7_isWord ob_1 rfl (m_X7_isWord G (g_Kap C) 4 (by decide) _) rfl rfl (Nat.le_of_ble_eq_true rfl) ⟨by decide, by decide⟩ dX5_thingOfWord_6 rfl (z_ki (fun r2 s1 => ?_))
  refine z_if_eq C (tgt := 14) (q := 12) dX5_thingOfWord_9 (by decide) rfl ?_ ?_
  · refine z_aload_n C (q := 15) 0 dX5_thingOfWord_14 rfl rfl ?_
    refine z_getR C (q := 18) ob_3 fF_X5_25 rfl dX5_thingOfWord_15 rfl ?_
    refine z_ldcS C (q := 20) 5 (by decide) dX5_thingOfWord_18 rfl ?_
    refine z_callV C (q := 23) [.ref (g_sk G 5)] gl_X5_105 glv_X7_isWord ob_1 rfl (m_X7_isWord G (g_Kap C) 5 (by decide) _) rfl rfl (Nat.le_of_ble_eq_true rfl) ⟨by decide, by decide⟩ dX5_thingOfWord_20 rfl (z_ki (fun r4 s3 => ?_))
    refine z_if_eq C (tgt := 28) (q := 26) dX5_thingOfWord_23 (by decide) rfl ?_ ?_
    · refine z_aload_n C (q := 29) 0 dX5_thingOfWord_28 rfl rfl ?_
      refine z_getR C (q := 32) ob_3 fF_X5_25 rfl dX5_thingOfWord_29 rfl ?_
      refine z_ldcS C (q := 34) 6 (by decide) dX5_thingOfWord_32 rfl ?_
      refine z_callV C (q := 37) [.ref (g_sk G 6)] gl_X5_105 glv_X7_isWord ob_1 rfl (m_X7_isWord G (g_Kap C) 6 (by decide) _) rfl rfl (Nat.le_of_ble_eq_true rfl) ⟨by decide, by decide⟩ dX5_thingOfWord_34 rfl (z_ki (fun r6 s5 => ?_))
      refine z_if_eq C (tgt := 44) (q := 40) dX5_thingOfWord_37 (by decide) rfl ?_ ?_
      · refine z_iconst C (q := 45) dX5_thingOfWord_44 rfl lt_iconst_0 ?_
        exact z_iret C dX5_thingOfWord_45
      refine z_iconst C (q := 41) dX5_thingOfWord_40 rfl lt_iconst_4 ?_
      refine z_goto C (tgt := 45) dX5_thingOfWord_41 (by decide) ?_
      exact z_iret C dX5_thingOfWord_45
    refine z_iconst C (q := 27) dX5_thingOfWord_26 rfl lt_iconst_2 ?_
    exact z_iret C dX5_thingOfWord_27
  refine z_iconst C (q := 13) dX5_thingOfWord_12 rfl lt_iconst_1 ?_
  exact z_iret C dX5_thingOfWord_13
set_option maxRecDepth 100000 in
set_option maxHeartbeats 4000000 in
theorem m_X5_readThing (G : gG) {ad : Nat → Nat} (hap : g_ap LC ad)    (s : gS) : g_M G LC ad yX5_readThing cX5_readThing 3 (some .boolean) 6 [.ref (ad 3)] s (f_X5_readThing s) := by
  refine g_entry (by decide) hap (Nat.le_of_ble_eq_true rfl) [(0, .ref (ad 3))] rfl (fun X C => ?_)
  unfold f_X5_readThing
  refine z_aload_n C (q := 1) 0 dX5_readThing_0 rfl rfl ?_
  refine z_getR C (q := 4) ob_3 fF_X5_25 rfl dX5_readThing_1 rfl ?_
  refine z_callV C (q := 7) [] gl_X5_36 glv_X7_nextToken ob_1 rfl (m_X7_nextToken G (g_Kap C)  _) rfl rfl (Nat.le_of_ble_eq_true rfl) ⟨by decide, by decide⟩ dX5_readThing_4 rfl (z_kv (fun s1 => ?_))
  refine z_aload_n C (q := 8) 0 dX5_readThing_7 rfl rfl ?_
  refine z_callV C (q := 11) [] gl_X5_150 glv_X5_thingOfWord ob_3 rfl (m_X5_thingOfWord G (g_Kap C)  _) rfl rfl (Nat.le_of_ble_eq_true rfl) ⟨by decide, by decide⟩ dX5_readThing_8 rfl (z_ki (fun r3 s2 => ?_))
  refine z_istore_n C (q := 12) [(1, .int r3), (0, .ref (ad 3))] dX5_readThing_11 rfl rfl (by decide) rfl ?_
  refine z_iload_n C (q := 13) 0 dX5_readThing_12 rfl rfl ?_
  refine z_if_ne C (tgt := 22) (q := 16) dX5_readThing_13 (by decide) rfl ?_ ?_
  · refine z_aload_n C (q := 23) 1 dX5_readThing_22 rfl rfl ?_
    refine z_callV C (q := 26) [] gl_X5_144 glv_X5_readCell ob_3 rfl (m_X5_readCell G (g_Kap C)  _) rfl rfl (Nat.le_of_ble_eq_true rfl) ⟨by decide, by decide⟩ dX5_readThing_23 rfl (z_ki (fun r5 s4 => ?_))
    refine z_istore_n C (q := 27) [(2, .int r5), (1, .int r3), (0, .ref (ad 3))] dX5_readThing_26 rfl rfl (by decide) rfl ?_
    refine z_aload_n C (q := 28) 2 dX5_readThing_27 rfl rfl ?_
    refine z_getR C (q := 31) ob_3 fF_X5_12 rfl dX5_readThing_28 rfl ?_
    refine z_iload_n C (q := 32) 0 dX5_readThing_31 rfl rfl ?_
    refine z_callV C (q := 35) [.int r5] gl_X5_147 glv_X3_has hLand_4.1 rfl (m_X3_has G (g_Kap C) 4 hLand_4 r5 _) rfl rfl (Nat.le_of_ble_eq_true rfl) ⟨by decide, by decide⟩ dX5_readThing_32 rfl (z_ki (fun r7 s6 => ?_))
    refine z_if_ne C (tgt := 40) (q := 38) dX5_readThing_35 (by decide) rfl ?_ ?_
    · refine z_aload_n C (q := 41) 2 dX5_readThing_40 rfl rfl ?_
      refine z_getR C (q := 44) ob_3 fF_X5_12 rfl dX5_readThing_41 rfl ?_
      refine z_getR C (q := 47) hLand_4.1 fF_X5_153 rfl dX5_readThing_44 rfl ?_
      refine z_iload_n C (q := 48) 0 dX5_readThing_47 rfl rfl ?_
      refine z_iald C (q := 49) hLand_4.2.2.2.2.1 dX5_readThing_48 rfl ?_
      refine z_iload_n C (q := 50) 1 dX5_readThing_49 rfl rfl ?_
      refine z_iand C (q := 51) dX5_readThing_50 rfl ?_
      refine z_if_eq C (tgt := 60) (q := 54) dX5_readThing_51 (by decide) rfl ?_ ?_
      · refine z_aload_n C (q := 61) 2 dX5_readThing_60 rfl rfl ?_
        refine z_getR C (q := 64) ob_3 fF_X5_12 rfl dX5_readThing_61 rfl ?_
        refine z_getR C (q := 67) hLand_4.1 fF_X5_153 rfl dX5_readThing_64 rfl ?_
        refine z_iload_n C (q := 68) 0 dX5_readThing_67 rfl rfl ?_
        refine z_dup2_11 C (q := 69) dX5_readThing_68 rfl rfl rfl ?_
        refine z_iald C (q := 70) hLand_4.2.2.2.2.1 dX5_readThing_69 rfl ?_
        refine z_iload_n C (q := 71) 1 dX5_readThing_70 rfl rfl ?_
        refine z_ior C (q := 72) dX5_readThing_71 rfl ?_
        refine z_iast C (q := 73) hLand_4.2.2.2.2.1 dX5_readThing_72 rfl (fun s8 => ?_)
        refine z_aload_n C (q := 74) 2 dX5_readThing_73 rfl rfl ?_
        refine z_callV C (q := 77) [] gl_X5_113 glv_X5_readStop ob_3 rfl (m_X5_readStop G (g_Kap C)  _) rfl rfl (Nat.le_of_ble_eq_true rfl) ⟨by decide, by decide⟩ dX5_readThing_74 rfl (z_ki (fun r10 s9 => ?_))
        exact z_zret C dX5_readThing_77
      refine z_aload_n C (q := 55) 2 dX5_readThing_54 rfl rfl ?_
      refine z_iconst C (q := 56) dX5_readThing_55 rfl lt_iconst_4 ?_
      refine z_callV C (q := 59) [.int (4 : Int32)] gl_X5_82 glv_X5_fail ob_3 rfl (m_X5_fail G (g_Kap C) (4 : Int32) _) rfl rfl (Nat.le_of_ble_eq_true rfl) ⟨by decide, by decide⟩ dX5_readThing_56 rfl (z_ki (fun r12 s11 => ?_))
      exact z_zret C dX5_readThing_59
    refine z_iconst C (q := 39) dX5_readThing_38 rfl lt_iconst_0 ?_
    exact z_zretK C (by decide) dX5_readThing_39
  refine z_aload_n C (q := 17) 1 dX5_readThing_16 rfl rfl ?_
  refine z_iconst C (q := 18) dX5_readThing_17 rfl lt_iconst_1 ?_
  refine z_callV C (q := 21) [.int (1 : Int32)] gl_X5_82 glv_X5_fail ob_3 rfl (m_X5_fail G (g_Kap C) (1 : Int32) _) rfl rfl (Nat.le_of_ble_eq_true rfl) ⟨by decide, by decide⟩ dX5_readThing_18 rfl (z_ki (fun r14 s13 => ?_))
  exact z_zret C dX5_readThing_21
set_option maxRecDepth 100000 in
set_option maxHeartbeats 4000000 in
theorem m_X5_readCow (G : gG) {ad : Nat → Nat} (hap : g_ap LC ad)    (s : gS) : g_M G LC ad yX5_readCow cX5_readCow 3 (some .boolean) 3 [.ref (ad 3)] s (f_X5_readCow s) := by
  refine g_entry (by decide) hap (Nat.le_of_ble_eq_true rfl) [(0, .ref (ad 3))] rfl (fun X C => ?_)
  unfold f_X5_readCow
  refine z_aload_n C (q := 1) 0 dX5_readCow_0 rfl rfl ?_
  refine z_iconst C (q := 2) dX5_readCow_1 rfl lt_iconst_1 ?_
  refine z_putZK C (q := 5) (by decide) ob_3 fP_X5_69 rfl dX5_readCow_2 rfl (fun s1 => ?_)
  refine z_aload_n C (q := 6) 0 dX5_readCow_5 rfl rfl ?_
  refine z_callV C (q := 9) [] gl_X5_144 glv_X5_readCell ob_3 rfl (m_X5_readCell G (g_Kap C)  _) rfl rfl (Nat.le_of_ble_eq_true rfl) ⟨by decide, by decide⟩ dX5_readCow_6 rfl (z_ki (fun r3 s2 => ?_))
  refine z_istore_n C (q := 10) [(1, .int r3), (0, .ref (ad 3))] dX5_readCow_9 rfl rfl (by decide) rfl ?_
  refine z_aload_n C (q := 11) 1 dX5_readCow_10 rfl rfl ?_
  refine z_getR C (q := 14) ob_3 fF_X5_12 rfl dX5_readCow_11 rfl ?_
  refine z_iload_n C (q := 15) 0 dX5_readCow_14 rfl rfl ?_
  refine z_callV C (q := 18) [.int r3] gl_X5_147 glv_X3_has hLand_4.1 rfl (m_X3_has G (g_Kap C) 4 hLand_4 r3 _) rfl rfl (Nat.le_of_ble_eq_true rfl) ⟨by decide, by decide⟩ dX5_readCow_15 rfl (z_ki (fun r5 s4 => ?_))
  refine z_if_ne C (tgt := 23) (q := 21) dX5_readCow_18 (by decide) rfl ?_ ?_
  · refine z_aload_n C (q := 24) 1 dX5_readCow_23 rfl rfl ?_
    refine z_iconst C (q := 25) dX5_readCow_24 rfl lt_iconst_1 ?_
    refine z_bipush C (q := 27) dX5_readCow_25 rfl lt_bipush_8 ?_
    refine z_callV C (q := 30) [.int (1 : Int32), .int (8 : Int32)] gl_X5_93 glv_X5_readNumber ob_3 rfl (m_X5_readNumber G (g_Kap C) (1 : Int32) (8 : Int32) _) rfl rfl (Nat.le_of_ble_eq_true rfl) ⟨by decide, by decide⟩ dX5_readCow_27 rfl (z_ki (fun r7 s6 => ?_))
    refine z_istore_n C (q := 31) [(2, .int r7), (1, .int r3), (0, .ref (ad 3))] dX5_readCow_30 rfl rfl (by decide) rfl ?_
    refine z_iload_n C (q := 32) 0 dX5_readCow_31 rfl rfl ?_
    refine z_if_ge C (tgt := 37) (q := 35) dX5_readCow_32 (by decide) rfl ?_ ?_
    · refine z_aload_n C (q := 38) 2 dX5_readCow_37 rfl rfl ?_
      refine z_getR C (q := 41) ob_3 fF_X5_12 rfl dX5_readCow_38 rfl ?_
      refine z_iload_n C (q := 42) 1 dX5_readCow_41 rfl rfl ?_
      refine z_putI C (q := 45) hLand_4.1 fP_X5_162 rfl dX5_readCow_42 rfl (fun s8 => ?_)
      refine z_aload_n C (q := 46) 2 dX5_readCow_45 rfl rfl ?_
      refine z_getR C (q := 49) ob_3 fF_X5_12 rfl dX5_readCow_46 rfl ?_
      refine z_iload_n C (q := 50) 0 dX5_readCow_49 rfl rfl ?_
      refine z_putI C (q := 53) hLand_4.1 fP_X5_165 rfl dX5_readCow_50 rfl (fun s9 => ?_)
      refine z_aload_n C (q := 54) 2 dX5_readCow_53 rfl rfl ?_
      refine z_callV C (q := 57) [] gl_X5_113 glv_X5_readStop ob_3 rfl (m_X5_readStop G (g_Kap C)  _) rfl rfl (Nat.le_of_ble_eq_true rfl) ⟨by decide, by decide⟩ dX5_readCow_54 rfl (z_ki (fun r11 s10 => ?_))
      exact z_zret C dX5_readCow_57
    refine z_iconst C (q := 36) dX5_readCow_35 rfl lt_iconst_0 ?_
    exact z_zretK C (by decide) dX5_readCow_36
  refine z_iconst C (q := 22) dX5_readCow_21 rfl lt_iconst_0 ?_
  exact z_zretK C (by decide) dX5_readCow_22
set_option maxRecDepth 100000 in
set_option maxHeartbeats 4000000 in
theorem m_X5_readLikes (G : gG) {ad : Nat → Nat} (hap : g_ap LC ad)    (s : gS) : g_M G LC ad yX5_readLikes cX5_readLikes 5 (some .boolean) 2 [.ref (ad 3)] s (f_X5_readLikes s) := by
  refine g_entry (by decide) hap (Nat.le_of_ble_eq_true rfl) [(0, .ref (ad 3))] rfl (fun X C => ?_)
  unfold f_X5_readLikes
  refine z_aload_n C (q := 1) 0 dX5_readLikes_0 rfl rfl ?_
  refine z_iconst C (q := 2) dX5_readLikes_1 rfl lt_iconst_1 ?_
  refine z_putZK C (q := 5) (by decide) ob_3 fP_X5_73 rfl dX5_readLikes_2 rfl (fun s1 => ?_)
  refine z_aload_n C (q := 6) 0 dX5_readLikes_5 rfl rfl ?_
  refine z_iconst C (q := 7) dX5_readLikes_6 rfl lt_iconst_0 ?_
  refine z_bipush C (q := 9) dX5_readLikes_7 rfl lt_bipush_9 ?_
  refine z_callV C (q := 12) [.int (0 : Int32), .int (9 : Int32)] gl_X5_93 glv_X5_readNumber ob_3 rfl (m_X5_readNumber G (g_Kap C) (0 : Int32) (9 : Int32) _) rfl rfl (Nat.le_of_ble_eq_true rfl) ⟨by decide, by decide⟩ dX5_readLikes_9 rfl (z_ki (fun r3 s2 => ?_))
  refine z_istore_n C (q := 13) [(1, .int r3), (0, .ref (ad 3))] dX5_readLikes_12 rfl rfl (by decide) rfl ?_
  refine z_iload_n C (q := 14) 0 dX5_readLikes_13 rfl rfl ?_
  refine z_if_ge C (tgt := 19) (q := 17) dX5_readLikes_14 (by decide) rfl ?_ ?_
  · refine z_aload_n C (q := 20) 1 dX5_readLikes_19 rfl rfl ?_
    refine z_iconst C (q := 21) dX5_readLikes_20 rfl lt_iconst_0 ?_
    refine z_bipush C (q := 23) dX5_readLikes_21 rfl lt_bipush_9 ?_
    refine z_callV C (q := 26) [.int (0 : Int32), .int (9 : Int32)] gl_X5_93 glv_X5_readNumber ob_3 rfl (m_X5_readNumber G (g_Kap C) (0 : Int32) (9 : Int32) _) rfl rfl (Nat.le_of_ble_eq_true rfl) ⟨by decide, by decide⟩ dX5_readLikes_23 rfl (z_ki (fun r5 s4 => ?_))
    refine z_istore_n C (q := 27) [(2, .int r5), (1, .int r3), (0, .ref (ad 3))] dX5_readLikes_26 rfl rfl (by decide) rfl ?_
    refine z_iload_n C (q := 28) 0 dX5_readLikes_27 rfl rfl ?_
    refine z_if_ge C (tgt := 33) (q := 31) dX5_readLikes_28 (by decide) rfl ?_ ?_
    · refine z_aload_n C (q := 34) 2 dX5_readLikes_33 rfl rfl ?_
      refine z_iconst C (q := 35) dX5_readLikes_34 rfl lt_iconst_0 ?_
      refine z_bipush C (q := 37) dX5_readLikes_35 rfl lt_bipush_9 ?_
      refine z_callV C (q := 40) [.int (0 : Int32), .int (9 : Int32)] gl_X5_93 glv_X5_readNumber ob_3 rfl (m_X5_readNumber G (g_Kap C) (0 : Int32) (9 : Int32) _) rfl rfl (Nat.le_of_ble_eq_true rfl) ⟨by decide, by decide⟩ dX5_readLikes_37 rfl (z_ki (fun r7 s6 => ?_))
      refine z_istore_n C (q := 41) [(3, .int r7), (2, .int r5), (1, .int r3), (0, .ref (ad 3))] dX5_readLikes_40 rfl rfl (by decide) rfl ?_
      refine z_iload_n C (q := 42) 0 dX5_readLikes_41 rfl rfl ?_
      refine z_if_ge C (tgt := 47) (q := 45) dX5_readLikes_42 (by decide) rfl ?_ ?_
      · refine z_aload_n C (q := 48) 3 dX5_readLikes_47 rfl rfl ?_
        refine z_iconst C (q := 49) dX5_readLikes_48 rfl lt_iconst_0 ?_
        refine z_bipush C (q := 51) dX5_readLikes_49 rfl lt_bipush_9 ?_
        refine z_callV C (q := 54) [.int (0 : Int32), .int (9 : Int32)] gl_X5_93 glv_X5_readNumber ob_3 rfl (m_X5_readNumber G (g_Kap C) (0 : Int32) (9 : Int32) _) rfl rfl (Nat.le_of_ble_eq_true rfl) ⟨by decide, by decide⟩ dX5_readLikes_51 rfl (z_ki (fun r9 s8 => ?_))
        refine z_istore C (q := 56) [(4, .int r9), (3, .int r7), (2, .int r5), (1, .int r3), (0, .ref (ad 3))] dX5_readLikes_54 rfl (by decide) rfl ?_
        refine z_iload C (q := 58) 0 dX5_readLikes_56 rfl rfl ?_
        refine z_if_ge C (tgt := 63) (q := 61) dX5_readLikes_58 (by decide) rfl ?_ ?_
        · refine z_aload_n C (q := 64) 4 dX5_readLikes_63 rfl rfl ?_
          refine z_getR C (q := 67) ob_3 fF_X5_12 rfl dX5_readLikes_64 rfl ?_
          refine z_iload_n C (q := 68) 3 dX5_readLikes_67 rfl rfl ?_
          refine z_iload_n C (q := 69) 2 dX5_readLikes_68 rfl rfl ?_
          refine z_iload_n C (q := 70) 1 dX5_readLikes_69 rfl rfl ?_
          refine z_iload C (q := 72) 0 dX5_readLikes_70 rfl rfl ?_
          refine z_callV C (q := 75) [.int r3, .int r5, .int r7, .int r9] gl_X5_168 glv_X3_setLikes hLand_4.1 rfl (m_X3_setLikes G (g_Kap C) 4 hLand_4 r3 r5 r7 r9 _) rfl rfl (Nat.le_of_ble_eq_true rfl) ⟨by decide, by decide⟩ dX5_readLikes_72 rfl (z_kv (fun s10 => ?_))
          refine z_aload_n C (q := 76) 4 dX5_readLikes_75 rfl rfl ?_
          refine z_callV C (q := 79) [] gl_X5_113 glv_X5_readStop ob_3 rfl (m_X5_readStop G (g_Kap C)  _) rfl rfl (Nat.le_of_ble_eq_true rfl) ⟨by decide, by decide⟩ dX5_readLikes_76 rfl (z_ki (fun r12 s11 => ?_))
          exact z_zret C dX5_readLikes_79
        refine z_iconst C (q := 62) dX5_readLikes_61 rfl lt_iconst_0 ?_
        exact z_zretK C (by decide) dX5_readLikes_62
      refine z_iconst C (q := 46) dX5_readLikes_45 rfl lt_iconst_0 ?_
      exact z_zretK C (by decide) dX5_readLikes_46
    refine z_iconst C (q := 32) dX5_readLikes_31 rfl lt_iconst_0 ?_
    exact z_zretK C (by decide) dX5_readLikes_32
  refine z_iconst C (q := 18) dX5_readLikes_17 rfl lt_iconst_0 ?_
  exact z_zretK C (by decide) dX5_readLikes_18
set_option maxRecDepth 100000 in
set_option maxHeartbeats 4000000 in
theorem m_X5_readEntry (G : gG) {ad : Nat → Nat} (hap : g_ap LC ad)    (s : gS) : g_M G LC ad yX5_readEntry cX5_readEntry 1 (some .boolean) 7 [.ref (ad 3)] s (f_X5_readEntry s) := by
  refine g_entry (by decide) hap (Nat.le_of_ble_eq_true rfl) [(0, .ref (ad 3))] rfl (fun X C => ?_)
  unfold f_X5_readEntry
  refine z_aload_n C (q := 1) 0 dX5_readEntry_0 rfl rfl ?_
  refine z_getR C (q := 4) ob_3 fF_X5_25 rfl dX5_readEntry_1 rfl ?_
  refine z_ldcS C (q := 6) 1 (by decide) dX5_readEntry_4 rfl ?_
  refine z_callV C (q := 9) [.ref (g_sk G 1)] gl_X5_105 glv_X7_isWord ob_1 rfl (m_X7_isWord G (g_Kap C) 1 (by decide) _) rfl rfl (Nat.le_of_ble_eq_true rfl) ⟨by decide, by decide⟩ dX5_readEntry_6 rfl (z_ki (fun r2 s1 => ?_))
  refine z_if_eq C (tgt := 57) (q := 12) dX5_readEntry_9 (by decide) rfl ?_ ?_
  · refine z_aload_n C (q := 58) 0 dX5_readEntry_57 rfl rfl ?_
    refine z_getR C (q := 61) ob_3 fF_X5_25 rfl dX5_readEntry_58 rfl ?_
    refine z_ldcS C (q := 63) 2 (by decide) dX5_readEntry_61 rfl ?_
    refine z_callV C (q := 66) [.ref (g_sk G 2)] gl_X5_105 glv_X7_isWord ob_1 rfl (m_X7_isWord G (g_Kap C) 2 (by decide) _) rfl rfl (Nat.le_of_ble_eq_true rfl) ⟨by decide, by decide⟩ dX5_readEntry_63 rfl (z_ki (fun r4 s3 => ?_))
    refine z_if_eq C (tgt := 114) (q := 69) dX5_readEntry_66 (by decide) rfl ?_ ?_
    · refine z_aload_n C (q := 115) 0 dX5_readEntry_114 rfl rfl ?_
      refine z_getR C (q := 118) ob_3 fF_X5_25 rfl dX5_readEntry_115 rfl ?_
      refine z_ldcS C (q := 120) 3 (by decide) dX5_readEntry_118 rfl ?_
      refine z_callV C (q := 123) [.ref (g_sk G 3)] gl_X5_105 glv_X7_isWord ob_1 rfl (m_X7_isWord G (g_Kap C) 3 (by decide) _) rfl rfl (Nat.le_of_ble_eq_true rfl) ⟨by decide, by decide⟩ dX5_readEntry_120 rfl (z_ki (fun r6 s5 => ?_))
      refine z_if_eq C (tgt := 158) (q := 126) dX5_readEntry_123 (by decide) rfl ?_ ?_
      · refine z_aload_n C (q := 159) 0 dX5_readEntry_158 rfl rfl ?_
        refine z_getR C (q := 162) ob_3 fF_X5_25 rfl dX5_readEntry_159 rfl ?_
        refine z_ldcS C (q := 164) 7 (by decide) dX5_readEntry_162 rfl ?_
        refine z_callV C (q := 167) [.ref (g_sk G 7)] gl_X5_105 glv_X7_isWord ob_1 rfl (m_X7_isWord G (g_Kap C) 7 (by decide) _) rfl rfl (Nat.le_of_ble_eq_true rfl) ⟨by decide, by decide⟩ dX5_readEntry_164 rfl (z_ki (fun r8 s7 => ?_))
        refine z_if_eq C (tgt := 190) (q := 170) dX5_readEntry_167 (by decide) rfl ?_ ?_
        · refine z_aload_n C (q := 191) 0 dX5_readEntry_190 rfl rfl ?_
          refine z_getR C (q := 194) ob_3 fF_X5_25 rfl dX5_readEntry_191 rfl ?_
          refine z_ldcS C (q := 196) 8 (by decide) dX5_readEntry_194 rfl ?_
          refine z_callV C (q := 199) [.ref (g_sk G 8)] gl_X5_105 glv_X7_isWord ob_1 rfl (m_X7_isWord G (g_Kap C) 8 (by decide) _) rfl rfl (Nat.le_of_ble_eq_true rfl) ⟨by decide, by decide⟩ dX5_readEntry_196 rfl (z_ki (fun r10 s9 => ?_))
          refine z_if_eq C (tgt := 222) (q := 202) dX5_readEntry_199 (by decide) rfl ?_ ?_
          · refine z_aload_n C (q := 223) 0 dX5_readEntry_222 rfl rfl ?_
            refine z_aload_n C (q := 224) 0 dX5_readEntry_223 rfl rfl ?_
            refine z_getR C (q := 227) ob_3 fF_X5_25 rfl dX5_readEntry_224 rfl ?_
            refine z_ldcS C (q := 229) 0 (by decide) dX5_readEntry_227 rfl ?_
            refine z_callV C (q := 232) [.ref (g_sk G 0)] gl_X5_105 glv_X7_isWord ob_1 rfl (m_X7_isWord G (g_Kap C) 0 (by decide) _) rfl rfl (Nat.le_of_ble_eq_true rfl) ⟨by decide, by decide⟩ dX5_readEntry_229 rfl (z_ki (fun r12 s11 => ?_))
            refine z_if_eq C (tgt := 239) (q := 235) dX5_readEntry_232 (by decide) rfl ?_ ?_
            · refine z_iconst C (q := 240) dX5_readEntry_239 rfl lt_iconst_1 ?_
              refine z_callV C (q := 243) [.int (1 : Int32)] gl_X5_82 glv_X5_fail ob_3 rfl (m_X5_fail G (g_Kap C) (1 : Int32) _) rfl rfl (Nat.le_of_ble_eq_true rfl) ⟨by decide, by decide⟩ dX5_readEntry_240 rfl (z_ki (fun r14 s13 => ?_))
              exact z_zret C dX5_readEntry_243
            refine z_iconst C (q := 236) dX5_readEntry_235 rfl lt_iconst_3 ?_
            refine z_goto C (tgt := 240) dX5_readEntry_236 (by decide) ?_
            refine z_callV C (q := 243) [.int (3 : Int32)] gl_X5_82 glv_X5_fail ob_3 rfl (m_X5_fail G (g_Kap C) (3 : Int32) _) rfl rfl (Nat.le_of_ble_eq_true rfl) ⟨by decide, by decide⟩ dX5_readEntry_240 rfl (z_ki (fun r16 s15 => ?_))
            exact z_zret C dX5_readEntry_243
          refine z_aload_n C (q := 203) 0 dX5_readEntry_202 rfl rfl ?_
          refine z_getI C (q := 206) ob_3 fF_X5_73 rfl dX5_readEntry_203 rfl ?_
          refine z_if_eq C (tgt := 217) (q := 209) dX5_readEntry_206 (by decide) rfl ?_ ?_
          · refine z_aload_n C (q := 218) 0 dX5_readEntry_217 rfl rfl ?_
            refine z_callV C (q := 221) [] gl_X5_141 glv_X5_readLikes ob_3 rfl (m_X5_readLikes G (g_Kap C)  _) rfl rfl (Nat.le_of_ble_eq_true rfl) ⟨by decide, by decide⟩ dX5_readEntry_218 rfl (z_ki (fun r18 s17 => ?_))
            exact z_zret C dX5_readEntry_221
          refine z_aload_n C (q := 210) 0 dX5_readEntry_209 rfl rfl ?_
          refine z_iconst C (q := 211) dX5_readEntry_210 rfl lt_iconst_3 ?_
          refine z_callV C (q := 214) [.int (3 : Int32)] gl_X5_82 glv_X5_fail ob_3 rfl (m_X5_fail G (g_Kap C) (3 : Int32) _) rfl rfl (Nat.le_of_ble_eq_true rfl) ⟨by decide, by decide⟩ dX5_readEntry_211 rfl (z_ki (fun r20 s19 => ?_))
          refine z_goto C (tgt := 221) dX5_readEntry_214 (by decide) ?_
          exact z_zret C dX5_readEntry_221
        refine z_aload_n C (q := 171) 0 dX5_readEntry_170 rfl rfl ?_
        refine z_getI C (q := 174) ob_3 fF_X5_69 rfl dX5_readEntry_171 rfl ?_
        refine z_if_eq C (tgt := 185) (q := 177) dX5_readEntry_174 (by decide) rfl ?_ ?_
        · refine z_aload_n C (q := 186) 0 dX5_readEntry_185 rfl rfl ?_
          refine z_callV C (q := 189) [] gl_X5_136 glv_X5_readCow ob_3 rfl (m_X5_readCow G (g_Kap C)  _) rfl rfl (Nat.le_of_ble_eq_true rfl) ⟨by decide, by decide⟩ dX5_readEntry_186 rfl (z_ki (fun r22 s21 => ?_))
          exact z_zret C dX5_readEntry_189
        refine z_aload_n C (q := 178) 0 dX5_readEntry_177 rfl rfl ?_
        refine z_iconst C (q := 179) dX5_readEntry_178 rfl lt_iconst_3 ?_
        refine z_callV C (q := 182) [.int (3 : Int32)] gl_X5_82 glv_X5_fail ob_3 rfl (m_X5_fail G (g_Kap C) (3 : Int32) _) rfl rfl (Nat.le_of_ble_eq_true rfl) ⟨by decide, by decide⟩ dX5_readEntry_179 rfl (z_ki (fun r24 s23 => ?_))
        refine z_goto C (tgt := 189) dX5_readEntry_182 (by decide) ?_
        exact z_zret C dX5_readEntry_189
      refine z_aload_n C (q := 127) 0 dX5_readEntry_126 rfl rfl ?_
      refine z_dup C (q := 128) dX5_readEntry_127 rfl rfl ?_
      refine z_getI C (q := 131) ob_3 fF_X5_66 rfl dX5_readEntry_128 rfl ?_
      refine z_iconst C (q := 132) dX5_readEntry_131 rfl lt_iconst_1 ?_
      refine z_iadd C (q := 133) dX5_readEntry_132 rfl ?_
      refine z_putI C (q := 136) ob_3 fP_X5_66 rfl dX5_readEntry_133 rfl (fun s25 => ?_)
      refine z_aload_n C (q := 137) 0 dX5_readEntry_136 rfl rfl ?_
      refine z_getI C (q := 140) ob_3 fF_X5_66 rfl dX5_readEntry_137 rfl ?_
      refine z_bipush C (q := 142) dX5_readEntry_140 rfl lt_bipush_15 ?_
      refine z_icmp_le C (tgt := 153) (q := 145) dX5_readEntry_142 (by decide) rfl ?_ ?_
      · refine z_aload_n C (q := 154) 0 dX5_readEntry_153 rfl rfl ?_
        refine z_callV C (q := 157) [] gl_X5_131 glv_X5_readThing ob_3 rfl (m_X5_readThing G (g_Kap C)  _) rfl rfl (Nat.le_of_ble_eq_true rfl) ⟨by decide, by decide⟩ dX5_readEntry_154 rfl (z_ki (fun r27 s26 => ?_))
        exact z_zret C dX5_readEntry_157
      refine z_aload_n C (q := 146) 0 dX5_readEntry_145 rfl rfl ?_
      refine z_iconst C (q := 147) dX5_readEntry_146 rfl lt_iconst_3 ?_
      refine z_callV C (q := 150) [.int (3 : Int32)] gl_X5_82 glv_X5_fail ob_3 rfl (m_X5_fail G (g_Kap C) (3 : Int32) _) rfl rfl (Nat.le_of_ble_eq_true rfl) ⟨by decide, by decide⟩ dX5_readEntry_147 rfl (z_ki (fun r29 s28 => ?_))
      refine z_goto C (tgt := 157) dX5_readEntry_150 (by decide) ?_
      exact z_zret C dX5_readEntry_157
    refine z_aload_n C (q := 70) 0 dX5_readEntry_69 rfl rfl ?_
    refine z_dup C (q := 71) dX5_readEntry_70 rfl rfl ?_
    refine z_getI C (q := 74) ob_3 fF_X5_63 rfl dX5_readEntry_71 rfl ?_
    refine z_iconst C (q := 75) dX5_readEntry_74 rfl lt_iconst_1 ?_
    refine z_iadd C (q := 76) dX5_readEntry_75 rfl ?_
    refine z_putI C (q := 79) ob_3 fP_X5_63 rfl dX5_readEntry_76 rfl (fun s30 => ?_)
    refine z_aload_n C (q := 80) 0 dX5_readEntry_79 rfl rfl ?_
    refine z_getI C (q := 83) ob_3 fF_X5_63 rfl dX5_readEntry_80 rfl ?_
    refine z_bipush C (q := 85) dX5_readEntry_83 rfl lt_bipush_20 ?_
    refine z_icmp_le C (tgt := 96) (q := 88) dX5_readEntry_85 (by decide) rfl ?_ ?_
    · refine z_aload_n C (q := 97) 0 dX5_readEntry_96 rfl rfl ?_
      refine z_aload_n C (q := 98) 0 dX5_readEntry_97 rfl rfl ?_
      refine z_getR C (q := 101) ob_3 fF_X5_22 rfl dX5_readEntry_98 rfl ?_
      refine z_aload_n C (q := 102) 0 dX5_readEntry_101 rfl rfl ?_
      refine z_getR C (q := 105) ob_3 fF_X5_12 rfl dX5_readEntry_102 rfl ?_
      refine z_getR C (q := 108) hLand_4.1 fF_X5_127 rfl dX5_readEntry_105 rfl ?_
      refine z_bipush C (q := 110) dX5_readEntry_108 rfl lt_bipush_99 ?_
      refine z_callV C (q := 113) [.ref (ad 13), .ref (ad 9), .int (99 : Int32)] gl_X5_121 glv_X5_readValue ob_3 rfl (m_X5_readValue G (g_Kap C) 13 9 ar_13 hLand_4.2.2.2.2.2.1 (99 : Int32) _) rfl rfl (Nat.le_of_ble_eq_true rfl) ⟨by decide, by decide⟩ dX5_readEntry_110 rfl (z_ki (fun r32 s31 => ?_))
      exact z_zret C dX5_readEntry_113
    refine z_aload_n C (q := 89) 0 dX5_readEntry_88 rfl rfl ?_
    refine z_iconst C (q := 90) dX5_readEntry_89 rfl lt_iconst_3 ?_
    refine z_callV C (q := 93) [.int (3 : Int32)] gl_X5_82 glv_X5_fail ob_3 rfl (m_X5_fail G (g_Kap C) (3 : Int32) _) rfl rfl (Nat.le_of_ble_eq_true rfl) ⟨by decide, by decide⟩ dX5_readEntry_90 rfl (z_ki (fun r34 s33 => ?_))
    refine z_goto C (tgt := 113) dX5_readEntry_93 (by decide) ?_
    exact z_zret C dX5_readEntry_113
  refine z_aload_n C (q := 13) 0 dX5_readEntry_12 rfl rfl ?_
  refine z_dup C (q := 14) dX5_readEntry_13 rfl rfl ?_
  refine z_getI C (q := 17) ob_3 fF_X5_60 rfl dX5_readEntry_14 rfl ?_
  refine z_iconst C (q := 18) dX5_readEntry_17 rfl lt_iconst_1 ?_
  refine z_iadd C (q := 19) dX5_readEntry_18 rfl ?_
  refine z_putI C (q := 22) ob_3 fP_X5_60 rfl dX5_readEntry_19 rfl (fun s35 => ?_)
  refine z_aload_n C (q := 23) 0 dX5_readEntry_22 rfl rfl ?_
  refine z_getI C (q := 26) ob_3 fF_X5_60 rfl dX5_readEntry_23 rfl ?_
  refine z_bipush C (q := 28) dX5_readEntry_26 rfl lt_bipush_20 ?_
  refine z_icmp_le C (tgt := 39) (q := 31) dX5_readEntry_28 (by decide) rfl ?_ ?_
  · refine z_aload_n C (q := 40) 0 dX5_readEntry_39 rfl rfl ?_
    refine z_aload_n C (q := 41) 0 dX5_readEntry_40 rfl rfl ?_
    refine z_getR C (q := 44) ob_3 fF_X5_18 rfl dX5_readEntry_41 rfl ?_
    refine z_aload_n C (q := 45) 0 dX5_readEntry_44 rfl rfl ?_
    refine z_getR C (q := 48) ob_3 fF_X5_12 rfl dX5_readEntry_45 rfl ?_
    refine z_getR C (q := 51) hLand_4.1 fF_X5_118 rfl dX5_readEntry_48 rfl ?_
    refine z_bipush C (q := 53) dX5_readEntry_51 rfl lt_bipush_9 ?_
    refine z_callV C (q := 56) [.ref (ad 12), .ref (ad 7), .int (9 : Int32)] gl_X5_121 glv_X5_readValue ob_3 rfl (m_X5_readValue G (g_Kap C) 12 7 ar_12 hLand_4.2.2.2.1 (9 : Int32) _) rfl rfl (Nat.le_of_ble_eq_true rfl) ⟨by decide, by decide⟩ dX5_readEntry_53 rfl (z_ki (fun r37 s36 => ?_))
    exact z_zret C dX5_readEntry_56
  refine z_aload_n C (q := 32) 0 dX5_readEntry_31 rfl rfl ?_
  refine z_iconst C (q := 33) dX5_readEntry_32 rfl lt_iconst_3 ?_
  refine z_callV C (q := 36) [.int (3 : Int32)] gl_X5_82 glv_X5_fail ob_3 rfl (m_X5_fail G (g_Kap C) (3 : Int32) _) rfl rfl (Nat.le_of_ble_eq_true rfl) ⟨by decide, by decide⟩ dX5_readEntry_33 rfl (z_ki (fun r39 s38 => ?_))
  refine z_goto C (tgt := 56) dX5_readEntry_36 (by decide) ?_
  exact z_zret C dX5_readEntry_56
set_option maxRecDepth 100000 in
set_option maxHeartbeats 4000000 in
theorem l_X5_read_37 {G : gG} {X : gX} {ad : Nat → Nat} (C : g_K G X LC ad cX5_read 2 RX5 (some .int) 8)    {k : Int32 → gS → gR} (hk : ∀ (v1 : Int32) (s : gS), g_Z G X LC ad 2 77 [(0, .ref (ad 3))] [] s (k v1 s)) : ∀ (n : Nat) (v1 : Int32) (s : gS), g_Z G X LC ad 2 37 [(0, .ref (ad 3)), (1, .int v1)] [] s (f_X5_read_37  k n v1 s) := by
  intro n
  induction n with
  | zero => intros; exact z_none
  | succ n ih =>
    intro v1 s
    rw [f_X5_read_37.eq_2]
    refine z_iload_n C (q := 38) 1 dX5_read_37 rfl rfl ?_
    refine z_sipush C (q := 41) dX5_read_38 rfl lt_sipush_500 ?_
    refine z_icmp_ge C (tgt := 77) (q := 44) dX5_read_41 (by decide) rfl ?_ ?_
    · exact z_sub [0] rfl (hk v1 s)
    refine z_aload_n C (q := 45) 0 dX5_read_44 rfl rfl ?_
    refine z_getR C (q := 48) ob_3 fF_X5_25 rfl dX5_read_45 rfl ?_
    refine z_getI C (q := 51) ob_1 fF_X5_41 rfl dX5_read_48 rfl ?_
    refine z_if_eq C (tgt := 77) (q := 54) dX5_read_51 (by decide) rfl ?_ ?_
    · exact z_sub [0] rfl (hk v1 s)
    refine z_aload_n C (q := 55) 0 dX5_read_54 rfl rfl ?_
    refine z_callV C (q := 58) [] gl_X5_48 glv_X5_readEntry ob_3 rfl (m_X5_readEntry G (g_Kap C)  _) rfl rfl (Nat.le_of_ble_eq_true rfl) ⟨by decide, by decide⟩ dX5_read_55 rfl (z_ki (fun r7 s6 => ?_))
    refine z_if_ne C (tgt := 64) (q := 61) dX5_read_58 (by decide) rfl ?_ ?_
    · refine z_aload_n C (q := 65) 0 dX5_read_64 rfl rfl ?_
      refine z_getR C (q := 68) ob_3 fF_X5_25 rfl dX5_read_65 rfl ?_
      refine z_callV C (q := 71) [] gl_X5_36 glv_X7_nextToken ob_1 rfl (m_X7_nextToken G (g_Kap C)  _) rfl rfl (Nat.le_of_ble_eq_true rfl) ⟨by decide, by decide⟩ dX5_read_68 rfl (z_kv (fun s8 => ?_))
      refine z_iinc C (q := 74) 1 [(1, .int (v1 + 1)), (0, .ref (ad 3))] dX5_read_71 rfl rfl (lt_iinc_1 _) (by decide) rfl ?_
      refine z_goto C (tgt := 37) dX5_read_74 (by decide) ?_
      exact z_sub [1, 0] rfl (ih (v1 + 1) s8)
    refine z_goto C (tgt := 77) dX5_read_61 (by decide) ?_
    exact z_sub [0] rfl (hk v1 s6)
set_option maxRecDepth 100000 in
set_option maxHeartbeats 4000000 in
theorem m_X5_read (G : gG) {ad : Nat → Nat} (hap : g_ap LC ad)    (s : gS) : g_M G LC ad yX5_read cX5_read 2 (some .int) 8 [.ref (ad 3)] s (f_X5_read s) := by
  refine g_entry (by decide) hap (Nat.le_of_ble_eq_true rfl) [(0, .ref (ad 3))] rfl (fun X C => ?_)
  unfold f_X5_read
  refine z_aload_n C (q := 1) 0 dX5_read_0 rfl rfl ?_
  refine z_callV C (q := 4) [] gl_X5_33 glv_X5_begin ob_3 rfl (m_X5_begin G (g_Kap C)  _) rfl rfl (Nat.le_of_ble_eq_true rfl) ⟨by decide, by decide⟩ dX5_read_1 rfl (z_kv (fun s1 => ?_))
  refine z_aload_n C (q := 5) 0 dX5_read_4 rfl rfl ?_
  refine z_getR C (q := 8) ob_3 fF_X5_25 rfl dX5_read_5 rfl ?_
  refine z_callV C (q := 11) [] gl_X5_36 glv_X7_nextToken ob_1 rfl (m_X7_nextToken G (g_Kap C)  _) rfl rfl (Nat.le_of_ble_eq_true rfl) ⟨by decide, by decide⟩ dX5_read_8 rfl (z_kv (fun s2 => ?_))
  refine z_aload_n C (q := 12) 0 dX5_read_11 rfl rfl ?_
  refine z_getR C (q := 15) ob_3 fF_X5_25 rfl dX5_read_12 rfl ?_
  refine z_getI C (q := 18) ob_1 fF_X5_41 rfl dX5_read_15 rfl ?_
  refine z_if_eq C (tgt := 77) (q := 21) dX5_read_18 (by decide) rfl ?_ ?_
  · refine z_aload_n C (q := 78) 0 dX5_read_77 rfl rfl ?_
    refine z_getI C (q := 81) ob_3 fF_X5_51 rfl dX5_read_78 rfl ?_
    refine z_if_ne C (tgt := 94) (q := 84) dX5_read_81 (by decide) rfl ?_ ?_
    · refine z_bipush C (q := 96) dX5_read_94 rfl lt_bipush_m10 ?_
      refine z_aload_n C (q := 97) 0 dX5_read_96 rfl rfl ?_
      refine z_getI C (q := 100) ob_3 fF_X5_51 rfl dX5_read_97 rfl ?_
      refine z_isub C (q := 101) dX5_read_100 rfl ?_
      exact z_iret C dX5_read_101
    refine z_aload_n C (q := 85) 0 dX5_read_84 rfl rfl ?_
    refine z_getR C (q := 88) ob_3 fF_X5_12 rfl dX5_read_85 rfl ?_
    refine z_getI C (q := 91) hLand_4.1 fF_X5_54 rfl dX5_read_88 rfl ?_
    refine z_goto C (tgt := 101) dX5_read_91 (by decide) ?_
    exact z_iret C dX5_read_101
  refine z_aload_n C (q := 22) 0 dX5_read_21 rfl rfl ?_
  refine z_callV C (q := 25) [] gl_X5_44 glv_X5_readSize ob_3 rfl (m_X5_readSize G (g_Kap C)  _) rfl rfl (Nat.le_of_ble_eq_true rfl) ⟨by decide, by decide⟩ dX5_read_22 rfl (z_ki (fun r4 s3 => ?_))
  refine z_if_eq C (tgt := 77) (q := 28) dX5_read_25 (by decide) rfl ?_ ?_
  · refine z_aload_n C (q := 78) 0 dX5_read_77 rfl rfl ?_
    refine z_getI C (q := 81) ob_3 fF_X5_51 rfl dX5_read_78 rfl ?_
    refine z_if_ne C (tgt := 94) (q := 84) dX5_read_81 (by decide) rfl ?_ ?_
    · refine z_bipush C (q := 96) dX5_read_94 rfl lt_bipush_m10 ?_
      refine z_aload_n C (q := 97) 0 dX5_read_96 rfl rfl ?_
      refine z_getI C (q := 100) ob_3 fF_X5_51 rfl dX5_read_97 rfl ?_
      refine z_isub C (q := 101) dX5_read_100 rfl ?_
      exact z_iret C dX5_read_101
    refine z_aload_n C (q := 85) 0 dX5_read_84 rfl rfl ?_
    refine z_getR C (q := 88) ob_3 fF_X5_12 rfl dX5_read_85 rfl ?_
    refine z_getI C (q := 91) hLand_4.1 fF_X5_54 rfl dX5_read_88 rfl ?_
    refine z_goto C (tgt := 101) dX5_read_91 (by decide) ?_
    exact z_iret C dX5_read_101
  refine z_aload_n C (q := 29) 0 dX5_read_28 rfl rfl ?_
  refine z_getR C (q := 32) ob_3 fF_X5_25 rfl dX5_read_29 rfl ?_
  refine z_callV C (q := 35) [] gl_X5_36 glv_X7_nextToken ob_1 rfl (m_X7_nextToken G (g_Kap C)  _) rfl rfl (Nat.le_of_ble_eq_true rfl) ⟨by decide, by decide⟩ dX5_read_32 rfl (z_kv (fun s5 => ?_))
  refine z_iconst C (q := 36) dX5_read_35 rfl lt_iconst_0 ?_
  refine z_istore_n C (q := 37) [(1, .int (0 : Int32)), (0, .ref (ad 3))] dX5_read_36 rfl rfl (by decide) rfl ?_
  refine z_sub [1, 0] rfl (l_X5_read_37 C  (fun v1_9 s10 => ?_) g_N (0 : Int32) s5)
  refine z_aload_n C (q := 78) 0 dX5_read_77 rfl rfl ?_
  refine z_getI C (q := 81) ob_3 fF_X5_51 rfl dX5_read_78 rfl ?_
  refine z_if_ne C (tgt := 94) (q := 84) dX5_read_81 (by decide) rfl ?_ ?_
  · refine z_bipush C (q := 96) dX5_read_94 rfl lt_bipush_m10 ?_
    refine z_aload_n C (q := 97) 0 dX5_read_96 rfl rfl ?_
    refine z_getI C (q := 100) ob_3 fF_X5_51 rfl dX5_read_97 rfl ?_
    refine z_isub C (q := 101) dX5_read_100 rfl ?_
    exact z_iret C dX5_read_101
  refine z_aload_n C (q := 85) 0 dX5_read_84 rfl rfl ?_
  refine z_getR C (q := 88) ob_3 fF_X5_12 rfl dX5_read_85 rfl ?_
  refine z_getI C (q := 91) hLand_4.1 fF_X5_54 rfl dX5_read_88 rfl ?_
  refine z_goto C (tgt := 101) dX5_read_91 (by decide) ?_
  exact z_iret C dX5_read_101
set_option maxRecDepth 100000 in
set_option maxHeartbeats 4000000 in
theorem m_X6_add (G : gG) {ad : Nat → Nat} (hap : g_ap LC ad)   (v1 : Int32) (v2 : Int32) (s : gS) : g_M G LC ad yX6_add cX6_add 3 none 0 [.ref (ad 41), .int v1, .int v2] s (f_X6_add v1 v2 s) := by
  refine g_entry (by decide) hap (Nat.le_of_ble_eq_true rfl) [(0, .ref (ad 41)), (1, .int v1), (2, .int v2)] rfl (fun X C => ?_)
  unfold f_X6_add
  refine z_aload_n C (q := 1) 0 dX6_add_0 rfl rfl ?_
  refine z_getI C (q := 4) ob_41 fF_X6_33 rfl dX6_add_1 rfl ?_
  refine z_if_lt C (tgt := 16) (q := 7) dX6_add_4 (by decide) rfl ?_ ?_
  · exact z_vret C dX6_add_16
  refine z_aload_n C (q := 8) 0 dX6_add_7 rfl rfl ?_
  refine z_getI C (q := 11) ob_41 fF_X6_33 rfl dX6_add_8 rfl ?_
  refine z_bipush C (q := 13) dX6_add_11 rfl lt_bipush_10 ?_
  refine z_icmp_lt C (tgt := 17) (q := 16) dX6_add_13 (by decide) rfl ?_ ?_
  · refine z_aload_n C (q := 18) 0 dX6_add_17 rfl rfl ?_
    refine z_getR C (q := 21) ob_41 fF_X6_9 rfl dX6_add_18 rfl ?_
    refine z_aload_n C (q := 22) 0 dX6_add_21 rfl rfl ?_
    refine z_getI C (q := 25) ob_41 fF_X6_33 rfl dX6_add_22 rfl ?_
    refine z_iload_n C (q := 26) 1 dX6_add_25 rfl rfl ?_
    refine z_iast C (q := 27) ar_42 dX6_add_26 rfl (fun s1 => ?_)
    refine z_aload_n C (q := 28) 0 dX6_add_27 rfl rfl ?_
    refine z_getR C (q := 31) ob_41 fF_X6_15 rfl dX6_add_28 rfl ?_
    refine z_aload_n C (q := 32) 0 dX6_add_31 rfl rfl ?_
    refine z_getI C (q := 35) ob_41 fF_X6_33 rfl dX6_add_32 rfl ?_
    refine z_iload_n C (q := 36) 2 dX6_add_35 rfl rfl ?_
    refine z_iast C (q := 37) ar_43 dX6_add_36 rfl (fun s2 => ?_)
    refine z_aload_n C (q := 38) 0 dX6_add_37 rfl rfl ?_
    refine z_dup C (q := 39) dX6_add_38 rfl rfl ?_
    refine z_getI C (q := 42) ob_41 fF_X6_33 rfl dX6_add_39 rfl ?_
    refine z_iconst C (q := 43) dX6_add_42 rfl lt_iconst_1 ?_
    refine z_iadd C (q := 44) dX6_add_43 rfl ?_
    refine z_putI C (q := 47) ob_41 fP_X6_33 rfl dX6_add_44 rfl (fun s3 => ?_)
    exact z_vret C dX6_add_47
  exact z_vret C dX6_add_16
set_option maxRecDepth 100000 in
set_option maxHeartbeats 4000000 in
theorem l_X6_keepSeen_31 {G : gG} {X : gX} {ad : Nat → Nat} (C : g_K G X LC ad cX6_keepSeen 4 RX6 none 0)   (v1 : Int32) (v2 : Int32) {k : Int32 → gS → gR} (hk : ∀ (v3 : Int32) (s : gS), g_Z G X LC ad 4 60 [(0, .ref (ad 41)), (1, .int v1), (2, .int v2)] [] s (k v3 s)) : ∀ (n : Nat) (v3 : Int32) (s : gS), g_Z G X LC ad 4 31 [(0, .ref (ad 41)), (1, .int v1), (2, .int v2), (3, .int v3)] [] s (f_X6_keepSeen_31 v1 v2 k n v3 s) := by
  intro n
  induction n with
  | zero => intros; exact z_none
  | succ n ih =>
    intro v3 s
    rw [f_X6_keepSeen_31.eq_2]
    refine z_iload_n C (q := 32) 3 dX6_keepSeen_31 rfl rfl ?_
    refine z_bipush C (q := 34) dX6_keepSeen_32 rfl lt_bipush_40 ?_
    refine z_icmp_ge C (tgt := 60) (q := 37) dX6_keepSeen_34 (by decide) rfl ?_ ?_
    · exact z_sub [0, 1, 2] rfl (hk v3 s)
    refine z_iload_n C (q := 38) 3 dX6_keepSeen_37 rfl rfl ?_
    refine z_aload_n C (q := 39) 0 dX6_keepSeen_38 rfl rfl ?_
    refine z_getR C (q := 42) ob_41 fF_X6_9 rfl dX6_keepSeen_39 rfl ?_
    refine z_iload_n C (q := 43) 2 dX6_keepSeen_42 rfl rfl ?_
    refine z_iald C (q := 44) ar_42 dX6_keepSeen_43 rfl ?_
    refine z_icmp_eq C (tgt := 54) (q := 47) dX6_keepSeen_44 (by decide) rfl ?_ ?_
    · refine z_iinc C (q := 57) 3 [(3, .int (v3 + 1)), (0, .ref (ad 41)), (1, .int v1), (2, .int v2)] dX6_keepSeen_54 rfl rfl (lt_iinc_1 _) (by decide) rfl ?_
      refine z_goto C (tgt := 31) dX6_keepSeen_57 (by decide) ?_
      exact z_sub [1, 2, 3, 0] rfl (ih (v3 + 1) s)
    refine z_aload_n C (q := 48) 0 dX6_keepSeen_47 rfl rfl ?_
    refine z_getR C (q := 51) ob_41 fF_X6_18 rfl dX6_keepSeen_48 rfl ?_
    refine z_iload_n C (q := 52) 3 dX6_keepSeen_51 rfl rfl ?_
    refine z_iconst C (q := 53) dX6_keepSeen_52 rfl lt_iconst_0 ?_
    refine z_zast C (q := 54) ar_44 dX6_keepSeen_53 rfl (fun s1 => ?_)
    refine z_iinc C (q := 57) 3 [(3, .int (v3 + 1)), (0, .ref (ad 41)), (1, .int v1), (2, .int v2)] dX6_keepSeen_54 rfl rfl (lt_iinc_1 _) (by decide) rfl ?_
    refine z_goto C (tgt := 31) dX6_keepSeen_57 (by decide) ?_
    exact z_sub [1, 2, 3, 0] rfl (ih (v3 + 1) s1)
set_option maxRecDepth 100000 in
set_option maxHeartbeats 4000000 in
theorem l_X6_keepSeen_2 {G : gG} {X : gX} {ad : Nat → Nat} (C : g_K G X LC ad cX6_keepSeen 4 RX6 none 0)   (v1 : Int32) {k : Int32 → gS → gR} (hk : ∀ (v2 : Int32) (s : gS), g_Z G X LC ad 4 66 [] [] s (k v2 s)) : ∀ (n : Nat) (v2 : Int32) (s : gS), g_Z G X LC ad 4 2 [(0, .ref (ad 41)), (1, .int v1), (2, .int v2)] [] s (f_X6_keepSeen_2 v1 k n v2 s) := by
  intro n
  induction n with
  | zero => intros; exact z_none
  | succ n ih =>
    intro v2 s
    rw [f_X6_keepSeen_2.eq_2]
    refine z_iload_n C (q := 3) 2 dX6_keepSeen_2 rfl rfl ?_
    refine z_aload_n C (q := 4) 0 dX6_keepSeen_3 rfl rfl ?_
    refine z_getI C (q := 7) ob_41 fF_X6_33 rfl dX6_keepSeen_4 rfl ?_
    refine z_icmp_ge C (tgt := 66) (q := 10) dX6_keepSeen_7 (by decide) rfl ?_ ?_
    · exact z_sub [] rfl (hk v2 s)
    refine z_iload_n C (q := 11) 2 dX6_keepSeen_10 rfl rfl ?_
    refine z_bipush C (q := 13) dX6_keepSeen_11 rfl lt_bipush_10 ?_
    refine z_icmp_ge C (tgt := 66) (q := 16) dX6_keepSeen_13 (by decide) rfl ?_ ?_
    · exact z_sub [] rfl (hk v2 s)
    refine z_aload_n C (q := 17) 0 dX6_keepSeen_16 rfl rfl ?_
    refine z_getR C (q := 20) ob_41 fF_X6_15 rfl dX6_keepSeen_17 rfl ?_
    refine z_iload_n C (q := 21) 2 dX6_keepSeen_20 rfl rfl ?_
    refine z_iald C (q := 22) ar_43 dX6_keepSeen_21 rfl ?_
    refine z_iload_n C (q := 23) 1 dX6_keepSeen_22 rfl rfl ?_
    refine z_icmp_eq C (tgt := 29) (q := 26) dX6_keepSeen_23 (by decide) rfl ?_ ?_
    · refine z_iconst C (q := 30) dX6_keepSeen_29 rfl lt_iconst_0 ?_
      refine z_istore_n C (q := 31) [(3, .int (0 : Int32)), (0, .ref (ad 41)), (1, .int v1), (2, .int v2)] dX6_keepSeen_30 rfl rfl (by decide) rfl ?_
      refine z_sub [1, 2, 3, 0] rfl (l_X6_keepSeen_31 C v1 v2 (fun v3_2 s3 => ?_) g_N (0 : Int32) s)
      refine z_iinc C (q := 63) 2 [(2, .int (v2 + 1)), (0, .ref (ad 41)), (1, .int v1)] dX6_keepSeen_60 rfl rfl (lt_iinc_1 _) (by decide) rfl ?_
      refine z_goto C (tgt := 2) dX6_keepSeen_63 (by decide) ?_
      exact z_sub [1, 2, 0] rfl (ih (v2 + 1) s3)
    refine z_goto C (tgt := 60) dX6_keepSeen_26 (by decide) ?_
    refine z_iinc C (q := 63) 2 [(2, .int (v2 + 1)), (0, .ref (ad 41)), (1, .int v1)] dX6_keepSeen_60 rfl rfl (lt_iinc_1 _) (by decide) rfl ?_
    refine z_goto C (tgt := 2) dX6_keepSeen_63 (by decide) ?_
    exact z_sub [1, 2, 0] rfl (ih (v2 + 1) s)
set_option maxRecDepth 100000 in
set_option maxHeartbeats 4000000 in
theorem m_X6_keepSeen (G : gG) {ad : Nat → Nat} (hap : g_ap LC ad)   (v1 : Int32) (s : gS) : g_M G LC ad yX6_keepSeen cX6_keepSeen 4 none 0 [.ref (ad 41), .int v1] s (f_X6_keepSeen v1 s) := by
  refine g_entry (by decide) hap (Nat.le_of_ble_eq_true rfl) [(0, .ref (ad 41)), (1, .int v1)] rfl (fun X C => ?_)
  unfold f_X6_keepSeen
  refine z_iconst C (q := 1) dX6_keepSeen_0 rfl lt_iconst_0 ?_
  refine z_istore_n C (q := 2) [(2, .int (0 : Int32)), (0, .ref (ad 41)), (1, .int v1)] dX6_keepSeen_1 rfl rfl (by decide) rfl ?_
  refine z_sub [1, 2, 0] rfl (l_X6_keepSeen_2 C v1 (fun v2_4 s5 => ?_) g_N (0 : Int32) s)
  exact z_vret C dX6_keepSeen_66
set_option maxRecDepth 100000 in
set_option maxHeartbeats 4000000 in
theorem l_X6_reachFrom_2 {G : gG} {X : gX} {ad : Nat → Nat} (C : g_K G X LC ad cX6_reachFrom 4 RX6 none 1)   (v1 : Int32) {k : Int32 → gS → gR} (hk : ∀ (v2 : Int32) (s : gS), g_Z G X LC ad 4 41 [] [] s (k v2 s)) : ∀ (n : Nat) (v2 : Int32) (s : gS), g_Z G X LC ad 4 2 [(0, .ref (ad 41)), (1, .int v1), (2, .int v2)] [] s (f_X6_reachFrom_2 v1 k n v2 s) := by
  intro n
  induction n with
  | zero => intros; exact z_none
  | succ n ih =>
    intro v2 s
    rw [f_X6_reachFrom_2.eq_2]
    refine z_iload_n C (q := 3) 2 dX6_reachFrom_2 rfl rfl ?_
    refine z_iconst C (q := 4) dX6_reachFrom_3 rfl lt_iconst_5 ?_
    refine z_icmp_ge C (tgt := 41) (q := 7) dX6_reachFrom_4 (by decide) rfl ?_ ?_
    · exact z_sub [] rfl (hk v2 s)
    refine z_aload_n C (q := 8) 0 dX6_reachFrom_7 rfl rfl ?_
    refine z_getR C (q := 11) ob_41 fF_X6_25 rfl dX6_reachFrom_8 rfl ?_
    refine z_iload_n C (q := 12) 1 dX6_reachFrom_11 rfl rfl ?_
    refine z_iload_n C (q := 13) 2 dX6_reachFrom_12 rfl rfl ?_
    refine z_callV C (q := 16) [.int v1, .int v2] gl_X6_64 glv_X3_wayFrom hLand_14.1 rfl (m_X3_wayFrom G (g_Kap C) 14 hLand_14 v1 v2 _) rfl rfl (Nat.le_of_ble_eq_true rfl) ⟨by decide, by decide⟩ dX6_reachFrom_13 rfl (z_ki (fun r2 s1 => ?_))
    refine z_istore_n C (q := 17) [(3, .int r2), (0, .ref (ad 41)), (1, .int v1), (2, .int v2)] dX6_reachFrom_16 rfl rfl (by decide) rfl ?_
    refine z_aload_n C (q := 18) 1 dX6_reachFrom_17 rfl rfl ?_
    refine z_getR C (q := 21) ob_41 fF_X6_25 rfl dX6_reachFrom_18 rfl ?_
    refine z_iload_n C (q := 22) 0 dX6_reachFrom_21 rfl rfl ?_
    refine z_callV C (q := 25) [.int r2] gl_X6_42 glv_X3_has hLand_14.1 rfl (m_X3_has G (g_Kap C) 14 hLand_14 r2 _) rfl rfl (Nat.le_of_ble_eq_true rfl) ⟨by decide, by decide⟩ dX6_reachFrom_22 rfl (z_ki (fun r4 s3 => ?_))
    refine z_if_eq C (tgt := 35) (q := 28) dX6_reachFrom_25 (by decide) rfl ?_ ?_
    · refine z_iinc C (q := 38) 3 [(2, .int (v2 + 1)), (3, .int r2), (0, .ref (ad 41)), (1, .int v1)] dX6_reachFrom_35 rfl rfl (lt_iinc_1 _) (by decide) rfl ?_
      refine z_goto C (tgt := 2) dX6_reachFrom_38 (by decide) ?_
      exact z_sub [2, 3, 0] rfl (ih (v2 + 1) s3)
    refine z_aload_n C (q := 29) 1 dX6_reachFrom_28 rfl rfl ?_
    refine z_getR C (q := 32) ob_41 fF_X6_22 rfl dX6_reachFrom_29 rfl ?_
    refine z_iload_n C (q := 33) 0 dX6_reachFrom_32 rfl rfl ?_
    refine z_iconst C (q := 34) dX6_reachFrom_33 rfl lt_iconst_1 ?_
    refine z_zast C (q := 35) ar_45 dX6_reachFrom_34 rfl (fun s5 => ?_)
    refine z_iinc C (q := 38) 3 [(2, .int (v2 + 1)), (3, .int r2), (0, .ref (ad 41)), (1, .int v1)] dX6_reachFrom_35 rfl rfl (lt_iinc_1 _) (by decide) rfl ?_
    refine z_goto C (tgt := 2) dX6_reachFrom_38 (by decide) ?_
    exact z_sub [2, 3, 0] rfl (ih (v2 + 1) s5)
set_option maxRecDepth 100000 in
set_option maxHeartbeats 4000000 in
theorem m_X6_reachFrom (G : gG) {ad : Nat → Nat} (hap : g_ap LC ad)   (v1 : Int32) (s : gS) : g_M G LC ad yX6_reachFrom cX6_reachFrom 4 none 1 [.ref (ad 41), .int v1] s (f_X6_reachFrom v1 s) := by
  refine g_entry (by decide) hap (Nat.le_of_ble_eq_true rfl) [(0, .ref (ad 41)), (1, .int v1)] rfl (fun X C => ?_)
  unfold f_X6_reachFrom
  refine z_iconst C (q := 1) dX6_reachFrom_0 rfl lt_iconst_0 ?_
  refine z_istore_n C (q := 2) [(2, .int (0 : Int32)), (0, .ref (ad 41)), (1, .int v1)] dX6_reachFrom_1 rfl rfl (by decide) rfl ?_
  refine z_sub [1, 2, 0] rfl (l_X6_reachFrom_2 C v1 (fun v2_6 s7 => ?_) g_N (0 : Int32) s)
  exact z_vret C dX6_reachFrom_41
set_option maxRecDepth 100000 in
set_option maxHeartbeats 4000000 in
theorem l_X6_spread_2 {G : gG} {X : gX} {ad : Nat → Nat} (C : g_K G X LC ad cX6_spread 2 RX6 none 2)    {k : Int32 → gS → gR} (hk : ∀ (v1 : Int32) (s : gS), g_Z G X LC ad 2 21 [(0, .ref (ad 41))] [] s (k v1 s)) : ∀ (n : Nat) (v1 : Int32) (s : gS), g_Z G X LC ad 2 2 [(0, .ref (ad 41)), (1, .int v1)] [] s (f_X6_spread_2  k n v1 s) := by
  intro n
  induction n with
  | zero => intros; exact z_none
  | succ n ih =>
    intro v1 s
    rw [f_X6_spread_2.eq_2]
    refine z_iload_n C (q := 3) 1 dX6_spread_2 rfl rfl ?_
    refine z_bipush C (q := 5) dX6_spread_3 rfl lt_bipush_40 ?_
    refine z_icmp_ge C (tgt := 21) (q := 8) dX6_spread_5 (by decide) rfl ?_ ?_
    · exact z_sub [0] rfl (hk v1 s)
    refine z_aload_n C (q := 9) 0 dX6_spread_8 rfl rfl ?_
    refine z_getR C (q := 12) ob_41 fF_X6_22 rfl dX6_spread_9 rfl ?_
    refine z_iload_n C (q := 13) 1 dX6_spread_12 rfl rfl ?_
    refine z_iconst C (q := 14) dX6_spread_13 rfl lt_iconst_0 ?_
    refine z_zast C (q := 15) ar_45 dX6_spread_14 rfl (fun s1 => ?_)
    refine z_iinc C (q := 18) 1 [(1, .int (v1 + 1)), (0, .ref (ad 41))] dX6_spread_15 rfl rfl (lt_iinc_1 _) (by decide) rfl ?_
    refine z_goto C (tgt := 2) dX6_spread_18 (by decide) ?_
    exact z_sub [1, 0] rfl (ih (v1 + 1) s1)
set_option maxRecDepth 100000 in
set_option maxHeartbeats 4000000 in
theorem l_X6_spread_23 {G : gG} {X : gX} {ad : Nat → Nat} (C : g_K G X LC ad cX6_spread 2 RX6 none 2)    {k : Int32 → gS → gR} (hk : ∀ (v1 : Int32) (s : gS), g_Z G X LC ad 2 54 [(0, .ref (ad 41))] [] s (k v1 s)) : ∀ (n : Nat) (v1 : Int32) (s : gS), g_Z G X LC ad 2 23 [(0, .ref (ad 41)), (1, .int v1)] [] s (f_X6_spread_23  k n v1 s) := by
  intro n
  induction n with
  | zero => intros; exact z_none
  | succ n ih =>
    intro v1 s
    rw [f_X6_spread_23.eq_2]
    refine z_iload_n C (q := 24) 1 dX6_spread_23 rfl rfl ?_
    refine z_aload_n C (q := 25) 0 dX6_spread_24 rfl rfl ?_
    refine z_getR C (q := 28) ob_41 fF_X6_25 rfl dX6_spread_25 rfl ?_
    refine z_getI C (q := 31) hLand_14.1 fF_X6_58 rfl dX6_spread_28 rfl ?_
    refine z_icmp_ge C (tgt := 54) (q := 34) dX6_spread_31 (by decide) rfl ?_ ?_
    · exact z_sub [0] rfl (hk v1 s)
    refine z_aload_n C (q := 35) 0 dX6_spread_34 rfl rfl ?_
    refine z_getR C (q := 38) ob_41 fF_X6_18 rfl dX6_spread_35 rfl ?_
    refine z_iload_n C (q := 39) 1 dX6_spread_38 rfl rfl ?_
    refine z_zald C (q := 40) ar_44 dX6_spread_39 rfl ?_
    refine z_if_eq C (tgt := 48) (q := 43) dX6_spread_40 (by decide) rfl ?_ ?_
    · refine z_iinc C (q := 51) 1 [(1, .int (v1 + 1)), (0, .ref (ad 41))] dX6_spread_48 rfl rfl (lt_iinc_1 _) (by decide) rfl ?_
      refine z_goto C (tgt := 23) dX6_spread_51 (by decide) ?_
      exact z_sub [1, 0] rfl (ih (v1 + 1) s)
    refine z_aload_n C (q := 44) 0 dX6_spread_43 rfl rfl ?_
    refine z_iload_n C (q := 45) 1 dX6_spread_44 rfl rfl ?_
    refine z_callV C (q := 48) [.int v1] gl_X6_61 glv_X6_reachFrom ob_41 rfl (m_X6_reachFrom G (g_Kap C) v1 _) rfl rfl (Nat.le_of_ble_eq_true rfl) ⟨by decide, by decide⟩ dX6_spread_45 rfl (z_kv (fun s4 => ?_))
    refine z_iinc C (q := 51) 1 [(1, .int (v1 + 1)), (0, .ref (ad 41))] dX6_spread_48 rfl rfl (lt_iinc_1 _) (by decide) rfl ?_
    refine z_goto C (tgt := 23) dX6_spread_51 (by decide) ?_
    exact z_sub [1, 0] rfl (ih (v1 + 1) s4)
set_option maxRecDepth 100000 in
set_option maxHeartbeats 4000000 in
theorem l_X6_spread_56 {G : gG} {X : gX} {ad : Nat → Nat} (C : g_K G X LC ad cX6_spread 2 RX6 none 2)    {k : Int32 → gS → gR} (hk : ∀ (v1 : Int32) (s : gS), g_Z G X LC ad 2 80 [] [] s (k v1 s)) : ∀ (n : Nat) (v1 : Int32) (s : gS), g_Z G X LC ad 2 56 [(0, .ref (ad 41)), (1, .int v1)] [] s (f_X6_spread_56  k n v1 s) := by
  intro n
  induction n with
  | zero => intros; exact z_none
  | succ n ih =>
    intro v1 s
    rw [f_X6_spread_56.eq_2]
    refine z_iload_n C (q := 57) 1 dX6_spread_56 rfl rfl ?_
    refine z_bipush C (q := 59) dX6_spread_57 rfl lt_bipush_40 ?_
    refine z_icmp_ge C (tgt := 80) (q := 62) dX6_spread_59 (by decide) rfl ?_ ?_
    · exact z_sub [] rfl (hk v1 s)
    refine z_aload_n C (q := 63) 0 dX6_spread_62 rfl rfl ?_
    refine z_getR C (q := 66) ob_41 fF_X6_18 rfl dX6_spread_63 rfl ?_
    refine z_iload_n C (q := 67) 1 dX6_spread_66 rfl rfl ?_
    refine z_aload_n C (q := 68) 0 dX6_spread_67 rfl rfl ?_
    refine z_getR C (q := 71) ob_41 fF_X6_22 rfl dX6_spread_68 rfl ?_
    refine z_iload_n C (q := 72) 1 dX6_spread_71 rfl rfl ?_
    refine z_zald C (q := 73) ar_45 dX6_spread_72 rfl ?_
    refine z_zast C (q := 74) ar_44 dX6_spread_73 rfl (fun s7 => ?_)
    refine z_iinc C (q := 77) 1 [(1, .int (v1 + 1)), (0, .ref (ad 41))] dX6_spread_74 rfl rfl (lt_iinc_1 _) (by decide) rfl ?_
    refine z_goto C (tgt := 56) dX6_spread_77 (by decide) ?_
    exact z_sub [1, 0] rfl (ih (v1 + 1) s7)
set_option maxRecDepth 100000 in
set_option maxHeartbeats 4000000 in
theorem m_X6_spread (G : gG) {ad : Nat → Nat} (hap : g_ap LC ad)    (s : gS) : g_M G LC ad yX6_spread cX6_spread 2 none 2 [.ref (ad 41)] s (f_X6_spread s) := by
  refine g_entry (by decide) hap (Nat.le_of_ble_eq_true rfl) [(0, .ref (ad 41))] rfl (fun X C => ?_)
  unfold f_X6_spread
  refine z_iconst C (q := 1) dX6_spread_0 rfl lt_iconst_0 ?_
  refine z_istore_n C (q := 2) [(1, .int (0 : Int32)), (0, .ref (ad 41))] dX6_spread_1 rfl rfl (by decide) rfl ?_
  refine z_sub [1, 0] rfl (l_X6_spread_2 C  (fun v1_2 s3 => ?_) g_N (0 : Int32) s)
  refine z_iconst C (q := 22) dX6_spread_21 rfl lt_iconst_0 ?_
  refine z_istore_n C (q := 23) [(1, .int (0 : Int32)), (0, .ref (ad 41))] dX6_spread_22 rfl rfl (by decide) rfl ?_
  refine z_sub [1, 0] rfl (l_X6_spread_23 C  (fun v1_5 s6 => ?_) g_N (0 : Int32) s3)
  refine z_iconst C (q := 55) dX6_spread_54 rfl lt_iconst_0 ?_
  refine z_istore_n C (q := 56) [(1, .int (0 : Int32)), (0, .ref (ad 41))] dX6_spread_55 rfl rfl (by decide) rfl ?_
  refine z_sub [1, 0] rfl (l_X6_spread_56 C  (fun v1_8 s9 => ?_) g_N (0 : Int32) s6)
  exact z_vret C dX6_spread_80
set_option maxRecDepth 100000 in
set_option maxHeartbeats 4000000 in
theorem l_X6_followToNoon_2 {G : gG} {X : gX} {ad : Nat → Nat} (C : g_K G X LC ad cX6_followToNoon 2 RX6 none 3)    {k : Int32 → gS → gR} (hk : ∀ (v1 : Int32) (s : gS), g_Z G X LC ad 2 21 [(0, .ref (ad 41))] [] s (k v1 s)) : ∀ (n : Nat) (v1 : Int32) (s : gS), g_Z G X LC ad 2 2 [(0, .ref (ad 41)), (1, .int v1)] [] s (f_X6_followToNoon_2  k n v1 s) := by
  intro n
  induction n with
  | zero => intros; exact z_none
  | succ n ih =>
    intro v1 s
    rw [f_X6_followToNoon_2.eq_2]
    refine z_iload_n C (q := 3) 1 dX6_followToNoon_2 rfl rfl ?_
    refine z_bipush C (q := 5) dX6_followToNoon_3 rfl lt_bipush_40 ?_
    refine z_icmp_ge C (tgt := 21) (q := 8) dX6_followToNoon_5 (by decide) rfl ?_ ?_
    · exact z_sub [0] rfl (hk v1 s)
    refine z_aload_n C (q := 9) 0 dX6_followToNoon_8 rfl rfl ?_
    refine z_getR C (q := 12) ob_41 fF_X6_18 rfl dX6_followToNoon_9 rfl ?_
    refine z_iload_n C (q := 13) 1 dX6_followToNoon_12 rfl rfl ?_
    refine z_iconst C (q := 14) dX6_followToNoon_13 rfl lt_iconst_0 ?_
    refine z_zast C (q := 15) ar_44 dX6_followToNoon_14 rfl (fun s1 => ?_)
    refine z_iinc C (q := 18) 1 [(1, .int (v1 + 1)), (0, .ref (ad 41))] dX6_followToNoon_15 rfl rfl (lt_iinc_1 _) (by decide) rfl ?_
    refine z_goto C (tgt := 2) dX6_followToNoon_18 (by decide) ?_
    exact z_sub [1, 0] rfl (ih (v1 + 1) s1)
set_option maxRecDepth 100000 in
set_option maxHeartbeats 4000000 in
theorem l_X6_followToNoon_58 {G : gG} {X : gX} {ad : Nat → Nat} (C : g_K G X LC ad cX6_followToNoon 2 RX6 none 3)    {k : Int32 → gS → gR} (hk : ∀ (v1 : Int32) (s : gS), g_Z G X LC ad 2 84 [] [] s (k v1 s)) : ∀ (n : Nat) (v1 : Int32) (s : gS), g_Z G X LC ad 2 58 [(0, .ref (ad 41)), (1, .int v1)] [] s (f_X6_followToNoon_58  k n v1 s) := by
  intro n
  induction n with
  | zero => intros; exact z_none
  | succ n ih =>
    intro v1 s
    rw [f_X6_followToNoon_58.eq_2]
    refine z_iload_n C (q := 59) 1 dX6_followToNoon_58 rfl rfl ?_
    refine z_aload_n C (q := 60) 0 dX6_followToNoon_59 rfl rfl ?_
    refine z_getR C (q := 63) ob_41 fF_X6_25 rfl dX6_followToNoon_60 rfl ?_
    refine z_getI C (q := 66) hLand_14.1 fF_X6_52 rfl dX6_followToNoon_63 rfl ?_
    refine z_icmp_gt C (tgt := 84) (q := 69) dX6_followToNoon_66 (by decide) rfl ?_ ?_
    · exact z_sub [] rfl (hk v1 s)
    refine z_aload_n C (q := 70) 0 dX6_followToNoon_69 rfl rfl ?_
    refine z_callV C (q := 73) [] gl_X6_55 glv_X6_spread ob_41 rfl (m_X6_spread G (g_Kap C)  _) rfl rfl (Nat.le_of_ble_eq_true rfl) ⟨by decide, by decide⟩ dX6_followToNoon_70 rfl (z_kv (fun s7 => ?_))
    refine z_aload_n C (q := 74) 0 dX6_followToNoon_73 rfl rfl ?_
    refine z_iload_n C (q := 75) 1 dX6_followToNoon_74 rfl rfl ?_
    refine z_callV C (q := 78) [.int v1] gl_X6_48 glv_X6_keepSeen ob_41 rfl (m_X6_keepSeen G (g_Kap C) v1 _) rfl rfl (Nat.le_of_ble_eq_true rfl) ⟨by decide, by decide⟩ dX6_followToNoon_75 rfl (z_kv (fun s8 => ?_))
    refine z_iinc C (q := 81) 1 [(1, .int (v1 + 1)), (0, .ref (ad 41))] dX6_followToNoon_78 rfl rfl (lt_iinc_1 _) (by decide) rfl ?_
    refine z_goto C (tgt := 58) dX6_followToNoon_81 (by decide) ?_
    exact z_sub [1, 0] rfl (ih (v1 + 1) s8)
set_option maxRecDepth 100000 in
set_option maxHeartbeats 4000000 in
theorem m_X6_followToNoon (G : gG) {ad : Nat → Nat} (hap : g_ap LC ad)    (s : gS) : g_M G LC ad yX6_followToNoon cX6_followToNoon 2 none 3 [.ref (ad 41)] s (f_X6_followToNoon s) := by
  refine g_entry (by decide) hap (Nat.le_of_ble_eq_true rfl) [(0, .ref (ad 41))] rfl (fun X C => ?_)
  unfold f_X6_followToNoon
  refine z_iconst C (q := 1) dX6_followToNoon_0 rfl lt_iconst_0 ?_
  refine z_istore_n C (q := 2) [(1, .int (0 : Int32)), (0, .ref (ad 41))] dX6_followToNoon_1 rfl rfl (by decide) rfl ?_
  refine z_sub [1, 0] rfl (l_X6_followToNoon_2 C  (fun v1_2 s3 => ?_) g_N (0 : Int32) s)
  refine z_aload_n C (q := 22) 0 dX6_followToNoon_21 rfl rfl ?_
  refine z_getR C (q := 25) ob_41 fF_X6_25 rfl dX6_followToNoon_22 rfl ?_
  refine z_aload_n C (q := 26) 0 dX6_followToNoon_25 rfl rfl ?_
  refine z_getR C (q := 29) ob_41 fF_X6_29 rfl dX6_followToNoon_26 rfl ?_
  refine z_getI C (q := 32) hPast_22.1 fF_X6_37 rfl dX6_followToNoon_29 rfl ?_
  refine z_callV C (q := 35) [.int (s3.1 22 3)] gl_X6_42 glv_X3_has hLand_14.1 rfl (m_X3_has G (g_Kap C) 14 hLand_14 (s3.1 22 3) _) rfl rfl (Nat.le_of_ble_eq_true rfl) ⟨by decide, by decide⟩ dX6_followToNoon_32 rfl (z_ki (fun r5 s4 => ?_))
  refine z_if_eq C (tgt := 51) (q := 38) dX6_followToNoon_35 (by decide) rfl ?_ ?_
  · refine z_aload_n C (q := 52) 0 dX6_followToNoon_51 rfl rfl ?_
    refine z_iconst C (q := 53) dX6_followToNoon_52 rfl lt_iconst_0 ?_
    refine z_callV C (q := 56) [.int (0 : Int32)] gl_X6_48 glv_X6_keepSeen ob_41 rfl (m_X6_keepSeen G (g_Kap C) (0 : Int32) _) rfl rfl (Nat.le_of_ble_eq_true rfl) ⟨by decide, by decide⟩ dX6_followToNoon_53 rfl (z_kv (fun s6 => ?_))
    refine z_iconst C (q := 57) dX6_followToNoon_56 rfl lt_iconst_1 ?_
    refine z_istore_n C (q := 58) [(1, .int (1 : Int32)), (0, .ref (ad 41))] dX6_followToNoon_57 rfl rfl (by decide) rfl ?_
    refine z_sub [1, 0] rfl (l_X6_followToNoon_58 C  (fun v1_9 s10 => ?_) g_N (1 : Int32) s6)
    exact z_vret C dX6_followToNoon_84
  refine z_aload_n C (q := 39) 0 dX6_followToNoon_38 rfl rfl ?_
  refine z_getR C (q := 42) ob_41 fF_X6_18 rfl dX6_followToNoon_39 rfl ?_
  refine z_aload_n C (q := 43) 0 dX6_followToNoon_42 rfl rfl ?_
  refine z_getR C (q := 46) ob_41 fF_X6_29 rfl dX6_followToNoon_43 rfl ?_
  refine z_getI C (q := 49) hPast_22.1 fF_X6_37 rfl dX6_followToNoon_46 rfl ?_
  refine z_iconst C (q := 50) dX6_followToNoon_49 rfl lt_iconst_1 ?_
  refine z_zast C (q := 51) ar_44 dX6_followToNoon_50 rfl (fun s11 => ?_)
  refine z_aload_n C (q := 52) 0 dX6_followToNoon_51 rfl rfl ?_
  refine z_iconst C (q := 53) dX6_followToNoon_52 rfl lt_iconst_0 ?_
  refine z_callV C (q := 56) [.int (0 : Int32)] gl_X6_48 glv_X6_keepSeen ob_41 rfl (m_X6_keepSeen G (g_Kap C) (0 : Int32) _) rfl rfl (Nat.le_of_ble_eq_true rfl) ⟨by decide, by decide⟩ dX6_followToNoon_53 rfl (z_kv (fun s12 => ?_))
  refine z_iconst C (q := 57) dX6_followToNoon_56 rfl lt_iconst_1 ?_
  refine z_istore_n C (q := 58) [(1, .int (1 : Int32)), (0, .ref (ad 41))] dX6_followToNoon_57 rfl rfl (by decide) rfl ?_
  refine z_sub [1, 0] rfl (l_X6_followToNoon_58 C  (fun v1_13 s14 => ?_) g_N (1 : Int32) s12)
  exact z_vret C dX6_followToNoon_84
set_option maxRecDepth 100000 in
set_option maxHeartbeats 4000000 in
theorem m_X6_fits (G : gG) {ad : Nat → Nat} (hap : g_ap LC ad)   (v1 : Int32) (v2 : Int32) (s : gS) : g_M G LC ad yX6_fits cX6_fits 3 (some .boolean) 3 [.ref (ad 41), .int v1, .int v2] s (f_X6_fits v1 v2 s) := by
  refine g_entry (by decide) hap (Nat.le_of_ble_eq_true rfl) [(0, .ref (ad 41)), (1, .int v1), (2, .int v2)] rfl (fun X C => ?_)
  unfold f_X6_fits
  refine z_aload_n C (q := 1) 0 dX6_fits_0 rfl rfl ?_
  refine z_getR C (q := 4) ob_41 fF_X6_25 rfl dX6_fits_1 rfl ?_
  refine z_iload_n C (q := 5) 1 dX6_fits_4 rfl rfl ?_
  refine z_callV C (q := 8) [.int v1] gl_X6_42 glv_X3_has hLand_14.1 rfl (m_X3_has G (g_Kap C) 14 hLand_14 v1 _) rfl rfl (Nat.le_of_ble_eq_true rfl) ⟨by decide, by decide⟩ dX6_fits_5 rfl (z_ki (fun r2 s1 => ?_))
  refine z_if_eq C (tgt := 20) (q := 11) dX6_fits_8 (by decide) rfl ?_ ?_
  · refine z_iconst C (q := 21) dX6_fits_20 rfl lt_iconst_0 ?_
    exact z_zretK C (by decide) dX6_fits_21
  refine z_aload_n C (q := 12) 0 dX6_fits_11 rfl rfl ?_
  refine z_getR C (q := 15) ob_41 fF_X6_18 rfl dX6_fits_12 rfl ?_
  refine z_iload_n C (q := 16) 1 dX6_fits_15 rfl rfl ?_
  refine z_zald C (q := 17) ar_44 dX6_fits_16 rfl ?_
  refine z_if_ne C (tgt := 22) (q := 20) dX6_fits_17 (by decide) rfl ?_ ?_
  · refine z_iload_n C (q := 23) 2 dX6_fits_22 rfl rfl ?_
    refine z_iconst C (q := 24) dX6_fits_23 rfl lt_iconst_m1 ?_
    refine z_icmp_eq C (tgt := 47) (q := 27) dX6_fits_24 (by decide) rfl ?_ ?_
    · refine z_iconst C (q := 48) dX6_fits_47 rfl lt_iconst_1 ?_
      refine z_goto C (tgt := 52) dX6_fits_48 (by decide) ?_
      exact z_zretK C (by decide) dX6_fits_52
    refine z_aload_n C (q := 28) 0 dX6_fits_27 rfl rfl ?_
    refine z_getR C (q := 31) ob_41 fF_X6_25 rfl dX6_fits_28 rfl ?_
    refine z_iconst C (q := 32) dX6_fits_31 rfl lt_iconst_0 ?_
    refine z_iload_n C (q := 33) 1 dX6_fits_32 rfl rfl ?_
    refine z_aload_n C (q := 34) 0 dX6_fits_33 rfl rfl ?_
    refine z_getR C (q := 37) ob_41 fF_X6_29 rfl dX6_fits_34 rfl ?_
    refine z_getI C (q := 40) hPast_22.1 fF_X6_68 rfl dX6_fits_37 rfl ?_
    refine z_callV C (q := 43) [.int (0 : Int32), .int v1, .int (s1.1 22 9)] gl_X6_71 glv_X3_tithesOf hLand_14.1 rfl (m_X3_tithesOf G (g_Kap C) 14 hLand_14 (0 : Int32) v1 (s1.1 22 9) _) rfl rfl (Nat.le_of_ble_eq_true rfl) ⟨by decide, by decide⟩ dX6_fits_40 rfl (z_ki (fun r4 s3 => ?_))
    refine z_iload_n C (q := 44) 2 dX6_fits_43 rfl rfl ?_
    refine z_icmp_ne C (tgt := 51) (q := 47) dX6_fits_44 (by decide) rfl ?_ ?_
    · refine z_iconst C (q := 52) dX6_fits_51 rfl lt_iconst_0 ?_
      exact z_zretK C (by decide) dX6_fits_52
    refine z_iconst C (q := 48) dX6_fits_47 rfl lt_iconst_1 ?_
    refine z_goto C (tgt := 52) dX6_fits_48 (by decide) ?_
    exact z_zretK C (by decide) dX6_fits_52
  refine z_iconst C (q := 21) dX6_fits_20 rfl lt_iconst_0 ?_
  exact z_zretK C (by decide) dX6_fits_21
set_option maxRecDepth 100000 in
set_option maxHeartbeats 4000000 in
theorem l_X6_countFitting_4 {G : gG} {X : gX} {ad : Nat → Nat} (C : g_K G X LC ad cX6_countFitting 4 RX6 (some .int) 4)   (v1 : Int32) {k : Int32 → Int32 → gS → gR} (hk : ∀ (v2 : Int32) (v3 : Int32) (s : gS), g_Z G X LC ad 4 33 [(2, .int v2)] [] s (k v2 v3 s)) : ∀ (n : Nat) (v2 : Int32) (v3 : Int32) (s : gS), g_Z G X LC ad 4 4 [(0, .ref (ad 41)), (1, .int v1), (2, .int v2), (3, .int v3)] [] s (f_X6_countFitting_4 v1 k n v2 v3 s) := by
  intro n
  induction n with
  | zero => intros; exact z_none
  | succ n ih =>
    intro v2 v3 s
    rw [f_X6_countFitting_4.eq_2]
    refine z_iload_n C (q := 5) 3 dX6_countFitting_4 rfl rfl ?_
    refine z_aload_n C (q := 6) 0 dX6_countFitting_5 rfl rfl ?_
    refine z_getR C (q := 9) ob_41 fF_X6_25 rfl dX6_countFitting_6 rfl ?_
    refine z_getI C (q := 12) hLand_14.1 fF_X6_58 rfl dX6_countFitting_9 rfl ?_
    refine z_icmp_ge C (tgt := 33) (q := 15) dX6_countFitting_12 (by decide) rfl ?_ ?_
    · exact z_sub [2] rfl (hk v2 v3 s)
    refine z_aload_n C (q := 16) 0 dX6_countFitting_15 rfl rfl ?_
    refine z_iload_n C (q := 17) 3 dX6_countFitting_16 rfl rfl ?_
    refine z_iload_n C (q := 18) 1 dX6_countFitting_17 rfl rfl ?_
    refine z_callV C (q := 21) [.int v3, .int v1] gl_X6_75 glv_X6_fits ob_41 rfl (m_X6_fits G (g_Kap C) v3 v1 _) rfl rfl (Nat.le_of_ble_eq_true rfl) ⟨by decide, by decide⟩ dX6_countFitting_18 rfl (z_ki (fun r2 s1 => ?_))
    refine z_if_eq C (tgt := 27) (q := 24) dX6_countFitting_21 (by decide) rfl ?_ ?_
    · refine z_iinc C (q := 30) 3 [(3, .int (v3 + 1)), (0, .ref (ad 41)), (1, .int v1), (2, .int v2)] dX6_countFitting_27 rfl rfl (lt_iinc_1 _) (by decide) rfl ?_
      refine z_goto C (tgt := 4) dX6_countFitting_30 (by decide) ?_
      exact z_sub [1, 2, 3, 0] rfl (ih v2 (v3 + 1) s1)
    refine z_iinc C (q := 27) 2 [(2, .int (v2 + 1)), (0, .ref (ad 41)), (1, .int v1), (3, .int v3)] dX6_countFitting_24 rfl rfl (lt_iinc_1 _) (by decide) rfl ?_
    refine z_iinc C (q := 30) 3 [(3, .int (v3 + 1)), (2, .int (v2 + 1)), (0, .ref (ad 41)), (1, .int v1)] dX6_countFitting_27 rfl rfl (lt_iinc_1 _) (by decide) rfl ?_
    refine z_goto C (tgt := 4) dX6_countFitting_30 (by decide) ?_
    exact z_sub [2, 3, 1, 0] rfl (ih (v2 + 1) (v3 + 1) s1)
set_option maxRecDepth 100000 in
set_option maxHeartbeats 4000000 in
theorem m_X6_countFitting (G : gG) {ad : Nat → Nat} (hap : g_ap LC ad)   (v1 : Int32) (s : gS) : g_M G LC ad yX6_countFitting cX6_countFitting 4 (some .int) 4 [.ref (ad 41), .int v1] s (f_X6_countFitting v1 s) := by
  refine g_entry (by decide) hap (Nat.le_of_ble_eq_true rfl) [(0, .ref (ad 41)), (1, .int v1)] rfl (fun X C => ?_)
  unfold f_X6_countFitting
  refine z_iconst C (q := 1) dX6_countFitting_0 rfl lt_iconst_0 ?_
  refine z_istore_n C (q := 2) [(2, .int (0 : Int32)), (0, .ref (ad 41)), (1, .int v1)] dX6_countFitting_1 rfl rfl (by decide) rfl ?_
  refine z_iconst C (q := 3) dX6_countFitting_2 rfl lt_iconst_0 ?_
  refine z_istore_n C (q := 4) [(3, .int (0 : Int32)), (2, .int (0 : Int32)), (0, .ref (ad 41)), (1, .int v1)] dX6_countFitting_3 rfl rfl (by decide) rfl ?_
  refine z_sub [2, 3, 1, 0] rfl (l_X6_countFitting_4 C v1 (fun v2_3 v3_4 s5 => ?_) g_N (0 : Int32) (0 : Int32) s)
  refine z_iload_n C (q := 34) 0 dX6_countFitting_33 rfl rfl ?_
  exact z_iret C dX6_countFitting_34
set_option maxRecDepth 100000 in
set_option maxHeartbeats 4000000 in
theorem l_X6_fittingCell_5 {G : gG} {X : gX} {ad : Nat → Nat} (C : g_K G X LC ad cX6_fittingCell 5 RX6 (some .int) 4)   (v1 : Int32) (v2 : Int32) {k : Int32 → Int32 → gS → gR} (hk : ∀ (v3 : Int32) (v4 : Int32) (s : gS), g_Z G X LC ad 5 47 [] [] s (k v3 v4 s)) : ∀ (n : Nat) (v3 : Int32) (v4 : Int32) (s : gS), g_Z G X LC ad 5 5 [(0, .ref (ad 41)), (1, .int v1), (2, .int v2), (3, .int v3), (4, .int v4)] [] s (f_X6_fittingCell_5 v1 v2 k n v3 v4 s) := by
  intro n
  induction n with
  | zero => intros; exact z_none
  | succ n ih =>
    intro v3 v4 s
    rw [f_X6_fittingCell_5.eq_2]
    refine z_iload C (q := 7) 4 dX6_fittingCell_5 rfl rfl ?_
    refine z_aload_n C (q := 8) 0 dX6_fittingCell_7 rfl rfl ?_
    refine z_getR C (q := 11) ob_41 fF_X6_25 rfl dX6_fittingCell_8 rfl ?_
    refine z_getI C (q := 14) hLand_14.1 fF_X6_58 rfl dX6_fittingCell_11 rfl ?_
    refine z_icmp_ge C (tgt := 47) (q := 17) dX6_fittingCell_14 (by decide) rfl ?_ ?_
    · exact z_sub [] rfl (hk v3 v4 s)
    refine z_aload_n C (q := 18) 0 dX6_fittingCell_17 rfl rfl ?_
    refine z_iload C (q := 20) 4 dX6_fittingCell_18 rfl rfl ?_
    refine z_iload_n C (q := 21) 1 dX6_fittingCell_20 rfl rfl ?_
    refine z_callV C (q := 24) [.int v4, .int v1] gl_X6_75 glv_X6_fits ob_41 rfl (m_X6_fits G (g_Kap C) v4 v1 _) rfl rfl (Nat.le_of_ble_eq_true rfl) ⟨by decide, by decide⟩ dX6_fittingCell_21 rfl (z_ki (fun r2 s1 => ?_))
    refine z_if_ne C (tgt := 30) (q := 27) dX6_fittingCell_24 (by decide) rfl ?_ ?_
    · refine z_iload_n C (q := 31) 3 dX6_fittingCell_30 rfl rfl ?_
      refine z_iload_n C (q := 32) 2 dX6_fittingCell_31 rfl rfl ?_
      refine z_icmp_ne C (tgt := 38) (q := 35) dX6_fittingCell_32 (by decide) rfl ?_ ?_
      · refine z_iinc C (q := 41) 3 [(3, .int (v3 + 1)), (0, .ref (ad 41)), (1, .int v1), (2, .int v2), (4, .int v4)] dX6_fittingCell_38 rfl rfl (lt_iinc_1 _) (by decide) rfl ?_
        refine z_iinc C (q := 44) 4 [(4, .int (v4 + 1)), (3, .int (v3 + 1)), (0, .ref (ad 41)), (1, .int v1), (2, .int v2)] dX6_fittingCell_41 rfl rfl (lt_iinc_1 _) (by decide) rfl ?_
        refine z_goto C (tgt := 5) dX6_fittingCell_44 (by decide) ?_
        exact z_sub [2, 3, 4, 1, 0] rfl (ih (v3 + 1) (v4 + 1) s1)
      refine z_iload C (q := 37) 4 dX6_fittingCell_35 rfl rfl ?_
      exact z_iret C dX6_fittingCell_37
    refine z_goto C (tgt := 41) dX6_fittingCell_27 (by decide) ?_
    refine z_iinc C (q := 44) 4 [(4, .int (v4 + 1)), (0, .ref (ad 41)), (1, .int v1), (2, .int v2), (3, .int v3)] dX6_fittingCell_41 rfl rfl (lt_iinc_1 _) (by decide) rfl ?_
    refine z_goto C (tgt := 5) dX6_fittingCell_44 (by decide) ?_
    exact z_sub [1, 2, 3, 4, 0] rfl (ih v3 (v4 + 1) s1)
set_option maxRecDepth 100000 in
set_option maxHeartbeats 4000000 in
theorem m_X6_fittingCell (G : gG) {ad : Nat → Nat} (hap : g_ap LC ad)   (v1 : Int32) (v2 : Int32) (s : gS) : g_M G LC ad yX6_fittingCell cX6_fittingCell 5 (some .int) 4 [.ref (ad 41), .int v1, .int v2] s (f_X6_fittingCell v1 v2 s) := by
  refine g_entry (by decide) hap (Nat.le_of_ble_eq_true rfl) [(0, .ref (ad 41)), (1, .int v1), (2, .int v2)] rfl (fun X C => ?_)
  unfold f_X6_fittingCell
  refine z_iconst C (q := 1) dX6_fittingCell_0 rfl lt_iconst_0 ?_
  refine z_istore_n C (q := 2) [(3, .int (0 : Int32)), (0, .ref (ad 41)), (1, .int v1), (2, .int v2)] dX6_fittingCell_1 rfl rfl (by decide) rfl ?_
  refine z_iconst C (q := 3) dX6_fittingCell_2 rfl lt_iconst_0 ?_
  refine z_istore C (q := 5) [(4, .int (0 : Int32)), (3, .int (0 : Int32)), (0, .ref (ad 41)), (1, .int v1), (2, .int v2)] dX6_fittingCell_3 rfl (by decide) rfl ?_
  refine z_sub [2, 3, 4, 1, 0] rfl (l_X6_fittingCell_5 C v1 v2 (fun v3_3 v4_4 s5 => ?_) g_N (0 : Int32) (0 : Int32) s)
  refine z_iconst C (q := 48) dX6_fittingCell_47 rfl lt_iconst_m1 ?_
  exact z_iret C dX6_fittingCell_48
set_option maxRecDepth 100000 in
set_option maxHeartbeats 4000000 in
theorem m_X7_add (G : gG) {ad : Nat → Nat} (hap : g_ap LC ad)   (v1 : Int32) (s : gS) : g_M G LC ad yX7_add cX7_add 2 none 0 [.ref (ad 1), .int v1] s (f_X7_add v1 s) := by
  refine g_entry (by decide) hap (Nat.le_of_ble_eq_true rfl) [(0, .ref (ad 1)), (1, .int v1)] rfl (fun X C => ?_)
  unfold f_X7_add
  refine z_aload_n C (q := 1) 0 dX7_add_0 rfl rfl ?_
  refine z_getI C (q := 4) ob_1 fF_X7_15 rfl dX7_add_1 rfl ?_
  refine z_if_lt C (tgt := 17) (q := 7) dX7_add_4 (by decide) rfl ?_ ?_
  · exact z_vret C dX7_add_17
  refine z_aload_n C (q := 8) 0 dX7_add_7 rfl rfl ?_
  refine z_getI C (q := 11) ob_1 fF_X7_15 rfl dX7_add_8 rfl ?_
  refine z_sipush C (q := 14) dX7_add_11 rfl lt_sipush_500 ?_
  refine z_icmp_lt C (tgt := 18) (q := 17) dX7_add_14 (by decide) rfl ?_ ?_
  · refine z_aload_n C (q := 19) 0 dX7_add_18 rfl rfl ?_
    refine z_getR C (q := 22) ob_1 fF_X7_9 rfl dX7_add_19 rfl ?_
    refine z_aload_n C (q := 23) 0 dX7_add_22 rfl rfl ?_
    refine z_getI C (q := 26) ob_1 fF_X7_15 rfl dX7_add_23 rfl ?_
    refine z_iload_n C (q := 27) 1 dX7_add_26 rfl rfl ?_
    refine z_iast C (q := 28) ar_2 dX7_add_27 rfl (fun s1 => ?_)
    refine z_aload_n C (q := 29) 0 dX7_add_28 rfl rfl ?_
    refine z_dup C (q := 30) dX7_add_29 rfl rfl ?_
    refine z_getI C (q := 33) ob_1 fF_X7_15 rfl dX7_add_30 rfl ?_
    refine z_iconst C (q := 34) dX7_add_33 rfl lt_iconst_1 ?_
    refine z_iadd C (q := 35) dX7_add_34 rfl ?_
    refine z_putI C (q := 38) ob_1 fP_X7_15 rfl dX7_add_35 rfl (fun s2 => ?_)
    exact z_vret C dX7_add_38
  exact z_vret C dX7_add_17
set_option maxRecDepth 100000 in
set_option maxHeartbeats 4000000 in
theorem m_X7_clear (G : gG) {ad : Nat → Nat} (hap : g_ap LC ad)    (s : gS) : g_M G LC ad yX7_clear cX7_clear 1 none 0 [.ref (ad 1)] s (f_X7_clear s) := by
  refine g_entry (by decide) hap (Nat.le_of_ble_eq_true rfl) [(0, .ref (ad 1))] rfl (fun X C => ?_)
  unfold f_X7_clear
  refine z_aload_n C (q := 1) 0 dX7_clear_0 rfl rfl ?_
  refine z_iconst C (q := 2) dX7_clear_1 rfl lt_iconst_0 ?_
  refine z_putI C (q := 5) ob_1 fP_X7_15 rfl dX7_clear_2 rfl (fun s1 => ?_)
  exact z_vret C dX7_clear_5
set_option maxRecDepth 100000 in
set_option maxHeartbeats 4000000 in
theorem l_X8_reckonBorders_2 {G : gG} {X : gX} {ad : Nat → Nat} (C : g_K G X LC ad cX8_reckonBorders 2 RX8 none 3)    {k : Int32 → gS → gR} (hk : ∀ (v1 : Int32) (s : gS), g_Z G X LC ad 2 63 [] [] s (k v1 s)) : ∀ (n : Nat) (v1 : Int32) (s : gS), g_Z G X LC ad 2 2 [(0, .ref (ad 38)), (1, .int v1)] [] s (f_X8_reckonBorders_2  k n v1 s) := by
  intro n
  induction n with
  | zero => intros; exact z_none
  | succ n ih =>
    intro v1 s
    rw [f_X8_reckonBorders_2.eq_2]
    refine z_iload_n C (q := 3) 1 dX8_reckonBorders_2 rfl rfl ?_
    refine z_aload_n C (q := 4) 0 dX8_reckonBorders_3 rfl rfl ?_
    refine z_getR C (q := 7) ob_38 fF_X8_18 rfl dX8_reckonBorders_4 rfl ?_
    refine z_getI C (q := 10) hLand_14.1 fF_X8_30 rfl dX8_reckonBorders_7 rfl ?_
    refine z_icmp_ge C (tgt := 63) (q := 13) dX8_reckonBorders_10 (by decide) rfl ?_ ?_
    · exact z_sub [] rfl (hk v1 s)
    refine z_aload_n C (q := 14) 0 dX8_reckonBorders_13 rfl rfl ?_
    refine z_getR C (q := 17) ob_38 fF_X8_9 rfl dX8_reckonBorders_14 rfl ?_
    refine z_iload_n C (q := 18) 1 dX8_reckonBorders_17 rfl rfl ?_
    refine z_aload_n C (q := 19) 0 dX8_reckonBorders_18 rfl rfl ?_
    refine z_getR C (q := 22) ob_38 fF_X8_18 rfl dX8_reckonBorders_19 rfl ?_
    refine z_iconst C (q := 23) dX8_reckonBorders_22 rfl lt_iconst_0 ?_
    refine z_iload_n C (q := 24) 1 dX8_reckonBorders_23 rfl rfl ?_
    refine z_aload_n C (q := 25) 0 dX8_reckonBorders_24 rfl rfl ?_
    refine z_getR C (q := 28) ob_38 fF_X8_22 rfl dX8_reckonBorders_25 rfl ?_
    refine z_getI C (q := 31) hPast_22.1 fF_X8_36 rfl dX8_reckonBorders_28 rfl ?_
    refine z_callV C (q := 34) [.int (0 : Int32), .int v1, .int (s.1 22 9)] gl_X8_41 glv_X3_tithesOf hLand_14.1 rfl (m_X3_tithesOf G (g_Kap C) 14 hLand_14 (0 : Int32) v1 (s.1 22 9) _) rfl rfl (Nat.le_of_ble_eq_true rfl) ⟨by decide, by decide⟩ dX8_reckonBorders_31 rfl (z_ki (fun r2 s1 => ?_))
    refine z_iast C (q := 35) ar_39 dX8_reckonBorders_34 rfl (fun s3 => ?_)
    refine z_aload_n C (q := 36) 0 dX8_reckonBorders_35 rfl rfl ?_
    refine z_getR C (q := 39) ob_38 fF_X8_15 rfl dX8_reckonBorders_36 rfl ?_
    refine z_iload_n C (q := 40) 1 dX8_reckonBorders_39 rfl rfl ?_
    refine z_aload_n C (q := 41) 0 dX8_reckonBorders_40 rfl rfl ?_
    refine z_getR C (q := 44) ob_38 fF_X8_18 rfl dX8_reckonBorders_41 rfl ?_
    refine z_iconst C (q := 45) dX8_reckonBorders_44 rfl lt_iconst_1 ?_
    refine z_iload_n C (q := 46) 1 dX8_reckonBorders_45 rfl rfl ?_
    refine z_aload_n C (q := 47) 0 dX8_reckonBorders_46 rfl rfl ?_
    refine z_getR C (q := 50) ob_38 fF_X8_22 rfl dX8_reckonBorders_47 rfl ?_
    refine z_getI C (q := 53) hPast_22.1 fF_X8_36 rfl dX8_reckonBorders_50 rfl ?_
    refine z_callV C (q := 56) [.int (1 : Int32), .int v1, .int (s3.1 22 9)] gl_X8_41 glv_X3_tithesOf hLand_14.1 rfl (m_X3_tithesOf G (g_Kap C) 14 hLand_14 (1 : Int32) v1 (s3.1 22 9) _) rfl rfl (Nat.le_of_ble_eq_true rfl) ⟨by decide, by decide⟩ dX8_reckonBorders_53 rfl (z_ki (fun r5 s4 => ?_))
    refine z_iast C (q := 57) ar_40 dX8_reckonBorders_56 rfl (fun s6 => ?_)
    refine z_iinc C (q := 60) 1 [(1, .int (v1 + 1)), (0, .ref (ad 38))] dX8_reckonBorders_57 rfl rfl (lt_iinc_1 _) (by decide) rfl ?_
    refine z_goto C (tgt := 2) dX8_reckonBorders_60 (by decide) ?_
    exact z_sub [1, 0] rfl (ih (v1 + 1) s6)
set_option maxRecDepth 100000 in
set_option maxHeartbeats 4000000 in
theorem m_X8_reckonBorders (G : gG) {ad : Nat → Nat} (hap : g_ap LC ad)    (s : gS) : g_M G LC ad yX8_reckonBorders cX8_reckonBorders 2 none 3 [.ref (ad 38)] s (f_X8_reckonBorders s) := by
  refine g_entry (by decide) hap (Nat.le_of_ble_eq_true rfl) [(0, .ref (ad 38))] rfl (fun X C => ?_)
  unfold f_X8_reckonBorders
  refine z_iconst C (q := 1) dX8_reckonBorders_0 rfl lt_iconst_0 ?_
  refine z_istore_n C (q := 2) [(1, .int (0 : Int32)), (0, .ref (ad 38))] dX8_reckonBorders_1 rfl rfl (by decide) rfl ?_
  refine z_sub [1, 0] rfl (l_X8_reckonBorders_2 C  (fun v1_7 s8 => ?_) g_N (0 : Int32) s)
  exact z_vret C dX8_reckonBorders_63
set_option maxRecDepth 100000 in
set_option maxHeartbeats 4000000 in
theorem l_X8_meanOf_5 {G : gG} {X : gX} {ad : Nat → Nat} (C : g_K G X LC ad cX8_meanOf 5 RX8 (some .int) 0)   (v1 : Int32) {k : Int64 → Int32 → gS → gR} (hk : ∀ (v2 : Int64) (v4 : Int32) (s : gS), g_Z G X LC ad 5 59 [(2, .long v2)] [] s (k v2 v4 s)) : ∀ (n : Nat) (v2 : Int64) (v4 : Int32) (s : gS), g_Z G X LC ad 5 5 [(0, .ref (ad 38)), (1, .int v1), (2, .long v2), (4, .int v4)] [] s (f_X8_meanOf_5 v1 k n v2 v4 s) := by
  intro n
  induction n with
  | zero => intros; exact z_none
  | succ n ih =>
    intro v2 v4 s
    rw [f_X8_meanOf_5.eq_2]
    refine z_iload C (q := 7) 3 dX8_meanOf_5 rfl rfl ?_
    refine z_aload_n C (q := 8) 0 dX8_meanOf_7 rfl rfl ?_
    refine z_getR C (q := 11) ob_38 fF_X8_18 rfl dX8_meanOf_8 rfl ?_
    refine z_getI C (q := 14) hLand_14.1 fF_X8_30 rfl dX8_meanOf_11 rfl ?_
    refine z_icmp_ge C (tgt := 59) (q := 17) dX8_meanOf_14 (by decide) rfl ?_ ?_
    · exact z_sub [2] rfl (hk v2 v4 s)
    refine z_lload_n C (q := 18) 2 dX8_meanOf_17 rfl rfl ?_
    refine z_aload_n C (q := 19) 0 dX8_meanOf_18 rfl rfl ?_
    refine z_getR C (q := 22) ob_38 fF_X8_26 rfl dX8_meanOf_19 rfl ?_
    refine z_getR C (q := 25) ob_33 fF_X8_45 rfl dX8_meanOf_22 rfl ?_
    refine z_iload C (q := 27) 3 dX8_meanOf_25 rfl rfl ?_
    refine z_lald C (q := 28) ar_36 dX8_meanOf_27 rfl ?_
    refine z_iload_n C (q := 29) 1 dX8_meanOf_28 rfl rfl ?_
    refine z_if_ne C (tgt := 42) (q := 32) dX8_meanOf_29 (by decide) rfl ?_ ?_
    · refine z_aload_n C (q := 43) 0 dX8_meanOf_42 rfl rfl ?_
      refine z_getR C (q := 46) ob_38 fF_X8_15 rfl dX8_meanOf_43 rfl ?_
      refine z_iload C (q := 48) 3 dX8_meanOf_46 rfl rfl ?_
      refine z_iald C (q := 49) ar_40 dX8_meanOf_48 rfl ?_
      refine z_i2l C (q := 50) dX8_meanOf_49 rfl ?_
      refine z_lmul C (q := 51) dX8_meanOf_50 rfl ?_
      refine z_ladd C (q := 52) dX8_meanOf_51 rfl ?_
      refine z_letl (fun v2_1 => ?_)
      refine z_lstore_n C (q := 53) [(2, .long v2_1), (0, .ref (ad 38)), (1, .int v1), (4, .int v4)] dX8_meanOf_52 rfl rfl (by decide) rfl ?_
      refine z_iinc C (q := 56) 3 [(4, .int (v4 + 1)), (2, .long v2_1), (0, .ref (ad 38)), (1, .int v1)] dX8_meanOf_53 rfl rfl (lt_iinc_1 _) (by decide) rfl ?_
      refine z_goto C (tgt := 5) dX8_meanOf_56 (by decide) ?_
      exact z_sub [2, 3, 1, 0] rfl (ih v2_1 (v4 + 1) s)
    refine z_aload_n C (q := 33) 0 dX8_meanOf_32 rfl rfl ?_
    refine z_getR C (q := 36) ob_38 fF_X8_9 rfl dX8_meanOf_33 rfl ?_
    refine z_iload C (q := 38) 3 dX8_meanOf_36 rfl rfl ?_
    refine z_iald C (q := 39) ar_39 dX8_meanOf_38 rfl ?_
    refine z_goto C (tgt := 49) dX8_meanOf_39 (by decide) ?_
    refine z_i2l C (q := 50) dX8_meanOf_49 rfl ?_
    refine z_lmul C (q := 51) dX8_meanOf_50 rfl ?_
    refine z_ladd C (q := 52) dX8_meanOf_51 rfl ?_
    refine z_letl (fun v2_2 => ?_)
    refine z_lstore_n C (q := 53) [(2, .long v2_2), (0, .ref (ad 38)), (1, .int v1), (4, .int v4)] dX8_meanOf_52 rfl rfl (by decide) rfl ?_
    refine z_iinc C (q := 56) 3 [(4, .int (v4 + 1)), (2, .long v2_2), (0, .ref (ad 38)), (1, .int v1)] dX8_meanOf_53 rfl rfl (lt_iinc_1 _) (by decide) rfl ?_
    refine z_goto C (tgt := 5) dX8_meanOf_56 (by decide) ?_
    exact z_sub [2, 3, 1, 0] rfl (ih v2_2 (v4 + 1) s)
set_option maxRecDepth 100000 in
set_option maxHeartbeats 4000000 in
theorem m_X8_meanOf (G : gG) {ad : Nat → Nat} (hap : g_ap LC ad)   (v1 : Int32) (s : gS) : g_M G LC ad yX8_meanOf cX8_meanOf 5 (some .int) 0 [.ref (ad 38), .int v1] s (f_X8_meanOf v1 s) := by
  refine g_entry (by decide) hap (Nat.le_of_ble_eq_true rfl) [(0, .ref (ad 38)), (1, .int v1)] rfl (fun X C => ?_)
  unfold f_X8_meanOf
  refine z_lconst C (q := 1) (v := 0) dX8_meanOf_0 rfl rfl ?_
  refine z_lstore_n C (q := 2) [(2, .long (0 : Int64)), (0, .ref (ad 38)), (1, .int v1)] dX8_meanOf_1 rfl rfl (by decide) rfl ?_
  refine z_iconst C (q := 3) dX8_meanOf_2 rfl lt_iconst_0 ?_
  refine z_istore C (q := 5) [(4, .int (0 : Int32)), (2, .long (0 : Int64)), (0, .ref (ad 38)), (1, .int v1)] dX8_meanOf_3 rfl (by decide) rfl ?_
  refine z_sub [2, 3, 1, 0] rfl (l_X8_meanOf_5 C v1 (fun v2_3 v4_4 s5 => ?_) g_N (0 : Int64) (0 : Int32) s)
  refine z_lload_n C (q := 60) 0 dX8_meanOf_59 rfl rfl ?_
  refine z_ldc2 C (q := 63) dX8_meanOf_60 rfl wm_748 ?_
  refine z_ldivK C (q := 64) (by decide) dX8_meanOf_63 rfl ?_
  refine z_l2i C (q := 65) dX8_meanOf_64 rfl ?_
  exact z_iret C dX8_meanOf_65
set_option maxRecDepth 100000 in
set_option maxHeartbeats 4000000 in
theorem m_X8_meanWithLick (G : gG) {ad : Nat → Nat} (hap : g_ap LC ad)   (v1 : Int32) (v2 : Int32) (s : gS) : g_M G LC ad yX8_meanWithLick cX8_meanWithLick 3 (some .int) 4 [.ref (ad 38), .int v1, .int v2] s (f_X8_meanWithLick v1 v2 s) := by
  refine g_entry (by decide) hap (Nat.le_of_ble_eq_true rfl) [(0, .ref (ad 38)), (1, .int v1), (2, .int v2)] rfl (fun X C => ?_)
  unfold f_X8_meanWithLick
  refine z_aload_n C (q := 1) 0 dX8_meanWithLick_0 rfl rfl ?_
  refine z_getR C (q := 4) ob_38 fF_X8_26 rfl dX8_meanWithLick_1 rfl ?_
  refine z_iload_n C (q := 5) 2 dX8_meanWithLick_4 rfl rfl ?_
  refine z_callV C (q := 8) [.int v2] gl_X8_53 glv_X1_lookAround ob_33 rfl (m_X1_lookAround G (g_Kap C) v2 _) rfl rfl (Nat.le_of_ble_eq_true rfl) ⟨by decide, by decide⟩ dX8_meanWithLick_5 rfl (z_kv (fun s1 => ?_))
  refine z_aload_n C (q := 9) 0 dX8_meanWithLick_8 rfl rfl ?_
  refine z_getR C (q := 12) ob_38 fF_X8_26 rfl dX8_meanWithLick_9 rfl ?_
  refine z_aload_n C (q := 13) 0 dX8_meanWithLick_12 rfl rfl ?_
  refine z_getR C (q := 16) ob_38 fF_X8_18 rfl dX8_meanWithLick_13 rfl ?_
  refine z_getI C (q := 19) hLand_14.1 fF_X8_57 rfl dX8_meanWithLick_16 rfl ?_
  refine z_callV C (q := 22) [.int (s1.1 14 4)] gl_X8_60 glv_X1_run ob_33 rfl (m_X1_run G (g_Kap C) (s1.1 14 4) _) rfl rfl (Nat.le_of_ble_eq_true rfl) ⟨by decide, by decide⟩ dX8_meanWithLick_19 rfl (z_kv (fun s2 => ?_))
  refine z_aload_n C (q := 23) 0 dX8_meanWithLick_22 rfl rfl ?_
  refine z_iload_n C (q := 24) 1 dX8_meanWithLick_23 rfl rfl ?_
  refine z_callV C (q := 27) [.int v1] gl_X8_63 glv_X8_meanOf ob_38 rfl (m_X8_meanOf G (g_Kap C) v1 _) rfl rfl (Nat.le_of_ble_eq_true rfl) ⟨by decide, by decide⟩ dX8_meanWithLick_24 rfl (z_ki (fun r4 s3 => ?_))
  exact z_iret C dX8_meanWithLick_27
set_option maxRecDepth 100000 in
set_option maxHeartbeats 4000000 in
theorem m_X9_sown (G : gG) {ad : Nat → Nat} (hap : g_ap LC ad)   (v0 : Int32) (v1 : Int32) (s : gS) : g_M G LC ad yX9_sown cX9_sown 2 (some .int) 1 [.int v0, .int v1] s (f_X9_sown v0 v1 s) := by
  refine g_entry (by decide) hap (Nat.le_of_ble_eq_true rfl) [(0, .int v0), (1, .int v1)] rfl (fun X C => ?_)
  unfold f_X9_sown
  refine z_bipush C (q := 2) dX9_sown_0 rfl lt_bipush_18 ?_
  refine z_iload_n C (q := 3) 0 dX9_sown_2 rfl rfl ?_
  refine z_iload_n C (q := 4) 1 dX9_sown_3 rfl rfl ?_
  refine z_iadd C (q := 5) dX9_sown_4 rfl ?_
  refine z_mmin C (q := 8) wm_645 wm_646 wm_518 wm_647 (by decide) (Nat.le_of_ble_eq_true rfl) dX9_sown_5 rfl ?_
  exact z_iret C dX9_sown_8
set_option maxRecDepth 100000 in
set_option maxHeartbeats 4000000 in
theorem l_X8_bestClover_52 {G : gG} {X : gX} {ad : Nat → Nat} (C : g_K G X LC ad cX8_bestClover 8 RX8 (some .int) 4)   (v1 : Int32) (v2 : Int32) (v3 : Int32) {k : Int32 → Int32 → gS → gR} (hk : ∀ (v4 : Int32) (v5 : Int32) (s : gS), g_Z G X LC ad 8 180 [(4, .int v4)] [] s (k v4 v5 s)) : ∀ (n : Nat) (v4 : Int32) (v5 : Int32) (s : gS), g_Z G X LC ad 8 52 [(0, .ref (ad 38)), (1, .int v1), (2, .int v2), (3, .int v3), (4, .int v4), (5, .int v5)] [] s (f_X8_bestClover_52 v1 v2 v3 k n v4 v5 s) := by
  intro n
  induction n with
  | zero => intros; exact z_none
  | succ n ih =>
    intro v4 v5 s
    rw [f_X8_bestClover_52.eq_2]
    refine z_iload C (q := 54) 5 dX8_bestClover_52 rfl rfl ?_
    refine z_aload_n C (q := 55) 0 dX8_bestClover_54 rfl rfl ?_
    refine z_getR C (q := 58) ob_38 fF_X8_18 rfl dX8_bestClover_55 rfl ?_
    refine z_getI C (q := 61) hLand_14.1 fF_X8_30 rfl dX8_bestClover_58 rfl ?_
    refine z_icmp_ge C (tgt := 180) (q := 64) dX8_bestClover_61 (by decide) rfl ?_ ?_
    · exact z_sub [4] rfl (hk v4 v5 s)
    refine z_iload C (q := 66) 5 dX8_bestClover_64 rfl rfl ?_
    refine z_iload_n C (q := 67) 3 dX8_bestClover_66 rfl rfl ?_
    refine z_icmp_ne C (tgt := 87) (q := 70) dX8_bestClover_67 (by decide) rfl ?_ ?_
    · refine z_aload_n C (q := 88) 0 dX8_bestClover_87 rfl rfl ?_
      refine z_getR C (q := 91) ob_38 fF_X8_22 rfl dX8_bestClover_88 rfl ?_
      refine z_getR C (q := 94) hPast_22.1 fF_X8_74 rfl dX8_bestClover_91 rfl ?_
      refine z_iload C (q := 96) 5 dX8_bestClover_94 rfl rfl ?_
      refine z_iald C (q := 97) hPast_22.2.1 dX8_bestClover_96 rfl ?_
      refine z_leti (fun v6_4 => ?_)
      refine z_istore C (q := 99) [(6, .int v6_4), (0, .ref (ad 38)), (1, .int v1), (2, .int v2), (3, .int v3), (4, .int v4), (5, .int v5)] dX8_bestClover_97 rfl (by decide) rfl ?_
      refine z_aload_n C (q := 100) 1 dX8_bestClover_99 rfl rfl ?_
      refine z_getR C (q := 103) ob_38 fF_X8_26 rfl dX8_bestClover_100 rfl ?_
      refine z_iload C (q := 105) 6 dX8_bestClover_103 rfl rfl ?_
      refine z_iload C (q := 107) 0 dX8_bestClover_105 rfl rfl ?_
      refine z_iload_n C (q := 108) 3 dX8_bestClover_107 rfl rfl ?_
      refine z_callN C (q := 111) [.int v6_4, .int v2] wm_644 wm_643 wm_2 (m_X9_sown G (g_Kap C) v6_4 v2 _) rfl rfl (Nat.le_of_ble_eq_true rfl) ⟨by decide, by decide⟩ dX8_bestClover_108 rfl (z_ki (fun r6 s5 => ?_))
      refine z_callV C (q := 114) [.int v5, .int r6] gl_X8_81 glv_X1_tryGrass ob_33 rfl (m_X1_tryGrass G (g_Kap C) v5 r6 _) rfl rfl (Nat.le_of_ble_eq_true rfl) ⟨by decide, by decide⟩ dX8_bestClover_111 rfl (z_kv (fun s7 => ?_))
      refine z_aload_n C (q := 115) 1 dX8_bestClover_114 rfl rfl ?_
      refine z_getR C (q := 118) ob_38 fF_X8_26 rfl dX8_bestClover_115 rfl ?_
      refine z_aload_n C (q := 119) 1 dX8_bestClover_118 rfl rfl ?_
      refine z_getR C (q := 122) ob_38 fF_X8_18 rfl dX8_bestClover_119 rfl ?_
      refine z_getI C (q := 125) hLand_14.1 fF_X8_57 rfl dX8_bestClover_122 rfl ?_
      refine z_callV C (q := 128) [.int (s7.1 14 4)] gl_X8_60 glv_X1_run ob_33 rfl (m_X1_run G (g_Kap C) (s7.1 14 4) _) rfl rfl (Nat.le_of_ble_eq_true rfl) ⟨by decide, by decide⟩ dX8_bestClover_125 rfl (z_kv (fun s8 => ?_))
      refine z_aload_n C (q := 129) 1 dX8_bestClover_128 rfl rfl ?_
      refine z_getR C (q := 132) ob_38 fF_X8_26 rfl dX8_bestClover_129 rfl ?_
      refine z_iload C (q := 134) 6 dX8_bestClover_132 rfl rfl ?_
      refine z_iload C (q := 136) 0 dX8_bestClover_134 rfl rfl ?_
      refine z_callV C (q := 139) [.int v5, .int v6_4] gl_X8_81 glv_X1_tryGrass ob_33 rfl (m_X1_tryGrass G (g_Kap C) v5 v6_4 _) rfl rfl (Nat.le_of_ble_eq_true rfl) ⟨by decide, by decide⟩ dX8_bestClover_136 rfl (z_kv (fun s9 => ?_))
      refine z_aload_n C (q := 140) 1 dX8_bestClover_139 rfl rfl ?_
      refine z_iload_n C (q := 141) 2 dX8_bestClover_140 rfl rfl ?_
      refine z_callV C (q := 144) [.int v1] gl_X8_63 glv_X8_meanOf ob_38 rfl (m_X8_meanOf G (g_Kap C) v1 _) rfl rfl (Nat.le_of_ble_eq_true rfl) ⟨by decide, by decide⟩ dX8_bestClover_141 rfl (z_ki (fun r11 s10 => ?_))
      refine z_istore C (q := 146) [(7, .int r11), (6, .int v6_4), (0, .ref (ad 38)), (1, .int v1), (2, .int v2), (3, .int v3), (4, .int v4), (5, .int v5)] dX8_bestClover_144 rfl (by decide) rfl ?_
      refine z_iload C (q := 148) 6 dX8_bestClover_146 rfl rfl ?_
      refine z_iconst C (q := 149) dX8_bestClover_148 rfl lt_iconst_m1 ?_
      refine z_icmp_eq C (tgt := 164) (q := 152) dX8_bestClover_149 (by decide) rfl ?_ ?_
      · refine z_iload C (q := 166) 7 dX8_bestClover_164 rfl rfl ?_
        refine z_istore C (q := 168) [(4, .int v5), (7, .int r11), (6, .int v6_4), (0, .ref (ad 38)), (1, .int v1), (2, .int v2), (3, .int v3), (5, .int v5)] dX8_bestClover_166 rfl (by decide) rfl ?_
        refine z_aload_n C (q := 169) 3 dX8_bestClover_168 rfl rfl ?_
        refine z_iload C (q := 171) 1 dX8_bestClover_169 rfl rfl ?_
        refine z_putI C (q := 174) ob_38 fP_X8_85 rfl dX8_bestClover_171 rfl (fun s12 => ?_)
        refine z_iinc C (q := 177) 7 [(5, .int (v5 + 1)), (4, .int v5), (7, .int r11), (6, .int v6_4), (0, .ref (ad 38)), (1, .int v1), (2, .int v2), (3, .int v3)] dX8_bestClover_174 rfl rfl (lt_iinc_1 _) (by decide) rfl ?_
        refine z_goto C (tgt := 52) dX8_bestClover_177 (by decide) ?_
        exact z_sub [4, 5, 6, 7, 1, 0] rfl (ih v5 (v5 + 1) s12)
      refine z_iload C (q := 154) 0 dX8_bestClover_152 rfl rfl ?_
      refine z_aload_n C (q := 155) 2 dX8_bestClover_154 rfl rfl ?_
      refine z_getI C (q := 158) ob_38 fF_X8_85 rfl dX8_bestClover_155 rfl ?_
      refine z_icmp_gt C (tgt := 164) (q := 161) dX8_bestClover_158 (by decide) rfl ?_ ?_
      · refine z_iload C (q := 166) 7 dX8_bestClover_164 rfl rfl ?_
        refine z_istore C (q := 168) [(4, .int v5), (7, .int r11), (6, .int v6_4), (0, .ref (ad 38)), (1, .int v1), (2, .int v2), (3, .int v3), (5, .int v5)] dX8_bestClover_166 rfl (by decide) rfl ?_
        refine z_aload_n C (q := 169) 3 dX8_bestClover_168 rfl rfl ?_
        refine z_iload C (q := 171) 1 dX8_bestClover_169 rfl rfl ?_
        refine z_putI C (q := 174) ob_38 fP_X8_85 rfl dX8_bestClover_171 rfl (fun s13 => ?_)
        refine z_iinc C (q := 177) 7 [(5, .int (v5 + 1)), (4, .int v5), (7, .int r11), (6, .int v6_4), (0, .ref (ad 38)), (1, .int v1), (2, .int v2), (3, .int v3)] dX8_bestClover_174 rfl rfl (lt_iinc_1 _) (by decide) rfl ?_
        refine z_goto C (tgt := 52) dX8_bestClover_177 (by decide) ?_
        exact z_sub [4, 5, 6, 7, 1, 0] rfl (ih v5 (v5 + 1) s13)
      refine z_goto C (tgt := 174) dX8_bestClover_161 (by decide) ?_
      refine z_iinc C (q := 177) 7 [(5, .int (v5 + 1)), (7, .int r11), (6, .int v6_4), (0, .ref (ad 38)), (1, .int v1), (2, .int v2), (3, .int v3), (4, .int v4)] dX8_bestClover_174 rfl rfl (lt_iinc_1 _) (by decide) rfl ?_
      refine z_goto C (tgt := 52) dX8_bestClover_177 (by decide) ?_
      exact z_sub [3, 4, 5, 6, 7, 0] rfl (ih v4 (v5 + 1) s10)
    refine z_aload_n C (q := 71) 0 dX8_bestClover_70 rfl rfl ?_
    refine z_getR C (q := 74) ob_38 fF_X8_22 rfl dX8_bestClover_71 rfl ?_
    refine z_getR C (q := 77) hPast_22.1 fF_X8_74 rfl dX8_bestClover_74 rfl ?_
    refine z_iload C (q := 79) 5 dX8_bestClover_77 rfl rfl ?_
    refine z_iald C (q := 80) hPast_22.2.1 dX8_bestClover_79 rfl ?_
    refine z_iload_n C (q := 81) 2 dX8_bestClover_80 rfl rfl ?_
    refine z_callN C (q := 84) [.int (s.1 23 v5.toNatClampNeg), .int v2] wm_644 wm_643 wm_2 (m_X9_sown G (g_Kap C) (s.1 23 v5.toNatClampNeg) v2 _) rfl rfl (Nat.le_of_ble_eq_true rfl) ⟨by decide, by decide⟩ dX8_bestClover_81 rfl (z_ki (fun r15 s14 => ?_))
    refine z_goto C (tgt := 97) dX8_bestClover_84 (by decide) ?_
    refine z_istore C (q := 99) [(6, .int r15), (0, .ref (ad 38)), (1, .int v1), (2, .int v2), (3, .int v3), (4, .int v4), (5, .int v5)] dX8_bestClover_97 rfl (by decide) rfl ?_
    refine z_aload_n C (q := 100) 1 dX8_bestClover_99 rfl rfl ?_
    refine z_getR C (q := 103) ob_38 fF_X8_26 rfl dX8_bestClover_100 rfl ?_
    refine z_iload C (q := 105) 6 dX8_bestClover_103 rfl rfl ?_
    refine z_iload C (q := 107) 0 dX8_bestClover_105 rfl rfl ?_
    refine z_iload_n C (q := 108) 3 dX8_bestClover_107 rfl rfl ?_
    refine z_callN C (q := 111) [.int r15, .int v2] wm_644 wm_643 wm_2 (m_X9_sown G (g_Kap C) r15 v2 _) rfl rfl (Nat.le_of_ble_eq_true rfl) ⟨by decide, by decide⟩ dX8_bestClover_108 rfl (z_ki (fun r17 s16 => ?_))
    refine z_callV C (q := 114) [.int v5, .int r17] gl_X8_81 glv_X1_tryGrass ob_33 rfl (m_X1_tryGrass G (g_Kap C) v5 r17 _) rfl rfl (Nat.le_of_ble_eq_true rfl) ⟨by decide, by decide⟩ dX8_bestClover_111 rfl (z_kv (fun s18 => ?_))
    refine z_aload_n C (q := 115) 1 dX8_bestClover_114 rfl rfl ?_
    refine z_getR C (q := 118) ob_38 fF_X8_26 rfl dX8_bestClover_115 rfl ?_
    refine z_aload_n C (q := 119) 1 dX8_bestClover_118 rfl rfl ?_
    refine z_getR C (q := 122) ob_38 fF_X8_18 rfl dX8_bestClover_119 rfl ?_
    refine z_getI C (q := 125) hLand_14.1 fF_X8_57 rfl dX8_bestClover_122 rfl ?_
    refine z_callV C (q := 128) [.int (s18.1 14 4)] gl_X8_60 glv_X1_run ob_33 rfl (m_X1_run G (g_Kap C) (s18.1 14 4) _) rfl rfl (Nat.le_of_ble_eq_true rfl) ⟨by decide, by decide⟩ dX8_bestClover_125 rfl (z_kv (fun s19 => ?_))
    refine z_aload_n C (q := 129) 1 dX8_bestClover_128 rfl rfl ?_
    refine z_getR C (q := 132) ob_38 fF_X8_26 rfl dX8_bestClover_129 rfl ?_
    refine z_iload C (q := 134) 6 dX8_bestClover_132 rfl rfl ?_
    refine z_iload C (q := 136) 0 dX8_bestClover_134 rfl rfl ?_
    refine z_callV C (q := 139) [.int v5, .int r15] gl_X8_81 glv_X1_tryGrass ob_33 rfl (m_X1_tryGrass G (g_Kap C) v5 r15 _) rfl rfl (Nat.le_of_ble_eq_true rfl) ⟨by decide, by decide⟩ dX8_bestClover_136 rfl (z_kv (fun s20 => ?_))
    refine z_aload_n C (q := 140) 1 dX8_bestClover_139 rfl rfl ?_
    refine z_iload_n C (q := 141) 2 dX8_bestClover_140 rfl rfl ?_
    refine z_callV C (q := 144) [.int v1] gl_X8_63 glv_X8_meanOf ob_38 rfl (m_X8_meanOf G (g_Kap C) v1 _) rfl rfl (Nat.le_of_ble_eq_true rfl) ⟨by decide, by decide⟩ dX8_bestClover_141 rfl (z_ki (fun r22 s21 => ?_))
    refine z_istore C (q := 146) [(7, .int r22), (6, .int r15), (0, .ref (ad 38)), (1, .int v1), (2, .int v2), (3, .int v3), (4, .int v4), (5, .int v5)] dX8_bestClover_144 rfl (by decide) rfl ?_
    refine z_iload C (q := 148) 6 dX8_bestClover_146 rfl rfl ?_
    refine z_iconst C (q := 149) dX8_bestClover_148 rfl lt_iconst_m1 ?_
    refine z_icmp_eq C (tgt := 164) (q := 152) dX8_bestClover_149 (by decide) rfl ?_ ?_
    · refine z_iload C (q := 166) 7 dX8_bestClover_164 rfl rfl ?_
      refine z_istore C (q := 168) [(4, .int v5), (7, .int r22), (6, .int r15), (0, .ref (ad 38)), (1, .int v1), (2, .int v2), (3, .int v3), (5, .int v5)] dX8_bestClover_166 rfl (by decide) rfl ?_
      refine z_aload_n C (q := 169) 3 dX8_bestClover_168 rfl rfl ?_
      refine z_iload C (q := 171) 1 dX8_bestClover_169 rfl rfl ?_
      refine z_putI C (q := 174) ob_38 fP_X8_85 rfl dX8_bestClover_171 rfl (fun s23 => ?_)
      refine z_iinc C (q := 177) 7 [(5, .int (v5 + 1)), (4, .int v5), (7, .int r22), (6, .int r15), (0, .ref (ad 38)), (1, .int v1), (2, .int v2), (3, .int v3)] dX8_bestClover_174 rfl rfl (lt_iinc_1 _) (by decide) rfl ?_
      refine z_goto C (tgt := 52) dX8_bestClover_177 (by decide) ?_
      exact z_sub [4, 5, 6, 7, 1, 0] rfl (ih v5 (v5 + 1) s23)
    refine z_iload C (q := 154) 0 dX8_bestClover_152 rfl rfl ?_
    refine z_aload_n C (q := 155) 2 dX8_bestClover_154 rfl rfl ?_
    refine z_getI C (q := 158) ob_38 fF_X8_85 rfl dX8_bestClover_155 rfl ?_
    refine z_icmp_gt C (tgt := 164) (q := 161) dX8_bestClover_158 (by decide) rfl ?_ ?_
    · refine z_iload C (q := 166) 7 dX8_bestClover_164 rfl rfl ?_
      refine z_istore C (q := 168) [(4, .int v5), (7, .int r22), (6, .int r15), (0, .ref (ad 38)), (1, .int v1), (2, .int v2), (3, .int v3), (5, .int v5)] dX8_bestClover_166 rfl (by decide) rfl ?_
      refine z_aload_n C (q := 169) 3 dX8_bestClover_168 rfl rfl ?_
      refine z_iload C (q := 171) 1 dX8_bestClover_169 rfl rfl ?_
      refine z_putI C (q := 174) ob_38 fP_X8_85 rfl dX8_bestClover_171 rfl (fun s24 => ?_)
      refine z_iinc C (q := 177) 7 [(5, .int (v5 + 1)), (4, .int v5), (7, .int r22), (6, .int r15), (0, .ref (ad 38)), (1, .int v1), (2, .int v2), (3, .int v3)] dX8_bestClover_174 rfl rfl (lt_iinc_1 _) (by decide) rfl ?_
      refine z_goto C (tgt := 52) dX8_bestClover_177 (by decide) ?_
      exact z_sub [4, 5, 6, 7, 1, 0] rfl (ih v5 (v5 + 1) s24)
    refine z_goto C (tgt := 174) dX8_bestClover_161 (by decide) ?_
    refine z_iinc C (q := 177) 7 [(5, .int (v5 + 1)), (7, .int r22), (6, .int r15), (0, .ref (ad 38)), (1, .int v1), (2, .int v2), (3, .int v3), (4, .int v4)] dX8_bestClover_174 rfl rfl (lt_iinc_1 _) (by decide) rfl ?_
    refine z_goto C (tgt := 52) dX8_bestClover_177 (by decide) ?_
    exact z_sub [3, 4, 5, 6, 7, 0] rfl (ih v4 (v5 + 1) s21)
set_option maxRecDepth 100000 in
set_option maxHeartbeats 4000000 in
theorem m_X8_bestClover (G : gG) {ad : Nat → Nat} (hap : g_ap LC ad)   (v1 : Int32) (v2 : Int32) (v3 : Int32) (s : gS) : g_M G LC ad yX8_bestClover cX8_bestClover 8 (some .int) 4 [.ref (ad 38), .int v1, .int v2, .int v3] s (f_X8_bestClover v1 v2 v3 s) := by
  refine g_entry (by decide) hap (Nat.le_of_ble_eq_true rfl) [(0, .ref (ad 38)), (1, .int v1), (2, .int v2), (3, .int v3)] rfl (fun X C => ?_)
  unfold f_X8_bestClover
  refine z_iconst C (q := 1) dX8_bestClover_0 rfl lt_iconst_m1 ?_
  refine z_istore C (q := 3) [(4, .int (-1 : Int32)), (0, .ref (ad 38)), (1, .int v1), (2, .int v2), (3, .int v3)] dX8_bestClover_1 rfl (by decide) rfl ?_
  refine z_aload_n C (q := 4) 1 dX8_bestClover_3 rfl rfl ?_
  refine z_getR C (q := 7) ob_38 fF_X8_26 rfl dX8_bestClover_4 rfl ?_
  refine z_aload_n C (q := 8) 1 dX8_bestClover_7 rfl rfl ?_
  refine z_getR C (q := 11) ob_38 fF_X8_22 rfl dX8_bestClover_8 rfl ?_
  refine z_getI C (q := 14) hPast_22.1 fF_X8_67 rfl dX8_bestClover_11 rfl ?_
  refine z_callV C (q := 17) [.int (s.1 22 5)] gl_X8_53 glv_X1_lookAround ob_33 rfl (m_X1_lookAround G (g_Kap C) (s.1 22 5) _) rfl rfl (Nat.le_of_ble_eq_true rfl) ⟨by decide, by decide⟩ dX8_bestClover_14 rfl (z_kv (fun s1 => ?_))
  refine z_aload_n C (q := 18) 1 dX8_bestClover_17 rfl rfl ?_
  refine z_getR C (q := 21) ob_38 fF_X8_18 rfl dX8_bestClover_18 rfl ?_
  refine z_iload_n C (q := 22) 4 dX8_bestClover_21 rfl rfl ?_
  refine z_callV C (q := 25) [.int v3] gl_X8_70 glv_X3_has hLand_14.1 rfl (m_X3_has G (g_Kap C) 14 hLand_14 v3 _) rfl rfl (Nat.le_of_ble_eq_true rfl) ⟨by decide, by decide⟩ dX8_bestClover_22 rfl (z_ki (fun r3 s2 => ?_))
  refine z_if_eq C (tgt := 49) (q := 28) dX8_bestClover_25 (by decide) rfl ?_ ?_
  · refine z_iconst C (q := 50) dX8_bestClover_49 rfl lt_iconst_0 ?_
    refine z_istore C (q := 52) [(5, .int (0 : Int32)), (4, .int (-1 : Int32)), (0, .ref (ad 38)), (1, .int v1), (2, .int v2), (3, .int v3)] dX8_bestClover_50 rfl (by decide) rfl ?_
    refine z_sub [2, 3, 4, 5, 1, 0] rfl (l_X8_bestClover_52 C v1 v2 v3 (fun v4_25 v5_26 s27 => ?_) g_N (-1 : Int32) (0 : Int32) s2)
    refine z_iload C (q := 182) 0 dX8_bestClover_180 rfl rfl ?_
    exact z_iret C dX8_bestClover_182
  refine z_aload_n C (q := 29) 1 dX8_bestClover_28 rfl rfl ?_
  refine z_getR C (q := 32) ob_38 fF_X8_26 rfl dX8_bestClover_29 rfl ?_
  refine z_iload_n C (q := 33) 4 dX8_bestClover_32 rfl rfl ?_
  refine z_aload_n C (q := 34) 1 dX8_bestClover_33 rfl rfl ?_
  refine z_getR C (q := 37) ob_38 fF_X8_22 rfl dX8_bestClover_34 rfl ?_
  refine z_getR C (q := 40) hPast_22.1 fF_X8_74 rfl dX8_bestClover_37 rfl ?_
  refine z_iload_n C (q := 41) 4 dX8_bestClover_40 rfl rfl ?_
  refine z_iald C (q := 42) hPast_22.2.1 dX8_bestClover_41 rfl ?_
  refine z_iload_n C (q := 43) 3 dX8_bestClover_42 rfl rfl ?_
  refine z_callN C (q := 46) [.int (s2.1 23 v3.toNatClampNeg), .int v2] wm_644 wm_643 wm_2 (m_X9_sown G (g_Kap C) (s2.1 23 v3.toNatClampNeg) v2 _) rfl rfl (Nat.le_of_ble_eq_true rfl) ⟨by decide, by decide⟩ dX8_bestClover_43 rfl (z_ki (fun r29 s28 => ?_))
  refine z_callV C (q := 49) [.int v3, .int r29] gl_X8_81 glv_X1_tryGrass ob_33 rfl (m_X1_tryGrass G (g_Kap C) v3 r29 _) rfl rfl (Nat.le_of_ble_eq_true rfl) ⟨by decide, by decide⟩ dX8_bestClover_46 rfl (z_kv (fun s30 => ?_))
  refine z_iconst C (q := 50) dX8_bestClover_49 rfl lt_iconst_0 ?_
  refine z_istore C (q := 52) [(5, .int (0 : Int32)), (4, .int (-1 : Int32)), (0, .ref (ad 38)), (1, .int v1), (2, .int v2), (3, .int v3)] dX8_bestClover_50 rfl (by decide) rfl ?_
  refine z_sub [2, 3, 4, 5, 1, 0] rfl (l_X8_bestClover_52 C v1 v2 v3 (fun v4_31 v5_32 s33 => ?_) g_N (-1 : Int32) (0 : Int32) s30)
  refine z_iload C (q := 182) 0 dX8_bestClover_180 rfl rfl ?_
  exact z_iret C dX8_bestClover_182
set_option maxRecDepth 100000 in
set_option maxHeartbeats 4000000 in
theorem l_X8_roundsTillRest_24 {G : gG} {X : gX} {ad : Nat → Nat} (C : g_K G X LC ad cX8_roundsTillRest 5 RX8 (some .int) 5)   (v1 : Int32) {k : Int32 → gS → gR} (hk : ∀ (v2 : Int32) (s : gS), g_Z G X LC ad 5 94 [] [] s (k v2 s)) : ∀ (n : Nat) (v2 : Int32) (s : gS), g_Z G X LC ad 5 24 [(0, .ref (ad 38)), (1, .int v1), (2, .int v2)] [] s (f_X8_roundsTillRest_24 v1 k n v2 s) := by
  intro n
  induction n with
  | zero => intros; exact z_none
  | succ n ih =>
    intro v2 s
    rw [f_X8_roundsTillRest_24.eq_2]
    refine z_iload_n C (q := 25) 2 dX8_roundsTillRest_24 rfl rfl ?_
    refine z_bipush C (q := 27) dX8_roundsTillRest_25 rfl lt_bipush_20 ?_
    refine z_icmp_ge C (tgt := 94) (q := 30) dX8_roundsTillRest_27 (by decide) rfl ?_ ?_
    · exact z_sub [] rfl (hk v2 s)
    refine z_aload_n C (q := 31) 0 dX8_roundsTillRest_30 rfl rfl ?_
    refine z_getI C (q := 34) ob_38 fF_X8_91 rfl dX8_roundsTillRest_31 rfl ?_
    refine z_leti (fun v3_7 => ?_)
    refine z_istore_n C (q := 35) [(3, .int v3_7), (0, .ref (ad 38)), (1, .int v1), (2, .int v2)] dX8_roundsTillRest_34 rfl rfl (by decide) rfl ?_
    refine z_aload_n C (q := 36) 1 dX8_roundsTillRest_35 rfl rfl ?_
    refine z_getI C (q := 39) ob_38 fF_X8_94 rfl dX8_roundsTillRest_36 rfl ?_
    refine z_leti (fun v4_8 => ?_)
    refine z_istore C (q := 41) [(4, .int v4_8), (3, .int v3_7), (0, .ref (ad 38)), (1, .int v1), (2, .int v2)] dX8_roundsTillRest_39 rfl (by decide) rfl ?_
    refine z_aload_n C (q := 42) 2 dX8_roundsTillRest_41 rfl rfl ?_
    refine z_aload_n C (q := 43) 2 dX8_roundsTillRest_42 rfl rfl ?_
    refine z_iconst C (q := 44) dX8_roundsTillRest_43 rfl lt_iconst_0 ?_
    refine z_iload_n C (q := 45) 3 dX8_roundsTillRest_44 rfl rfl ?_
    refine z_aload_n C (q := 46) 2 dX8_roundsTillRest_45 rfl rfl ?_
    refine z_getI C (q := 49) ob_38 fF_X8_94 rfl dX8_roundsTillRest_46 rfl ?_
    refine z_callV C (q := 52) [.int (0 : Int32), .int v1, .int (s.1 38 7)] gl_X8_88 glv_X8_bestClover ob_38 rfl (m_X8_bestClover G (g_Kap C) (0 : Int32) v1 (s.1 38 7) _) rfl rfl (Nat.le_of_ble_eq_true rfl) ⟨by decide, by decide⟩ dX8_roundsTillRest_49 rfl (z_ki (fun r10 s9 => ?_))
    refine z_putI C (q := 55) ob_38 fP_X8_91 rfl dX8_roundsTillRest_52 rfl (fun s11 => ?_)
    refine z_aload_n C (q := 56) 2 dX8_roundsTillRest_55 rfl rfl ?_
    refine z_aload_n C (q := 57) 2 dX8_roundsTillRest_56 rfl rfl ?_
    refine z_iconst C (q := 58) dX8_roundsTillRest_57 rfl lt_iconst_1 ?_
    refine z_iload_n C (q := 59) 3 dX8_roundsTillRest_58 rfl rfl ?_
    refine z_aload_n C (q := 60) 2 dX8_roundsTillRest_59 rfl rfl ?_
    refine z_getI C (q := 63) ob_38 fF_X8_91 rfl dX8_roundsTillRest_60 rfl ?_
    refine z_callV C (q := 66) [.int (1 : Int32), .int v1, .int (s11.1 38 6)] gl_X8_88 glv_X8_bestClover ob_38 rfl (m_X8_bestClover G (g_Kap C) (1 : Int32) v1 (s11.1 38 6) _) rfl rfl (Nat.le_of_ble_eq_true rfl) ⟨by decide, by decide⟩ dX8_roundsTillRest_63 rfl (z_ki (fun r13 s12 => ?_))
    refine z_putI C (q := 69) ob_38 fP_X8_94 rfl dX8_roundsTillRest_66 rfl (fun s14 => ?_)
    refine z_aload_n C (q := 70) 2 dX8_roundsTillRest_69 rfl rfl ?_
    refine z_getI C (q := 73) ob_38 fF_X8_91 rfl dX8_roundsTillRest_70 rfl ?_
    refine z_iload_n C (q := 74) 1 dX8_roundsTillRest_73 rfl rfl ?_
    refine z_icmp_ne C (tgt := 88) (q := 77) dX8_roundsTillRest_74 (by decide) rfl ?_ ?_
    · refine z_iinc C (q := 91) 4 [(2, .int (v2 + 1)), (4, .int v4_8), (3, .int v3_7), (0, .ref (ad 38)), (1, .int v1)] dX8_roundsTillRest_88 rfl rfl (lt_iinc_1 _) (by decide) rfl ?_
      refine z_goto C (tgt := 24) dX8_roundsTillRest_91 (by decide) ?_
      exact z_sub [3, 4, 0] rfl (ih (v2 + 1) s14)
    refine z_aload_n C (q := 78) 2 dX8_roundsTillRest_77 rfl rfl ?_
    refine z_getI C (q := 81) ob_38 fF_X8_94 rfl dX8_roundsTillRest_78 rfl ?_
    refine z_iload C (q := 83) 0 dX8_roundsTillRest_81 rfl rfl ?_
    refine z_icmp_ne C (tgt := 88) (q := 86) dX8_roundsTillRest_83 (by decide) rfl ?_ ?_
    · refine z_iinc C (q := 91) 4 [(2, .int (v2 + 1)), (4, .int v4_8), (3, .int v3_7), (0, .ref (ad 38)), (1, .int v1)] dX8_roundsTillRest_88 rfl rfl (lt_iinc_1 _) (by decide) rfl ?_
      refine z_goto C (tgt := 24) dX8_roundsTillRest_91 (by decide) ?_
      exact z_sub [3, 4, 0] rfl (ih (v2 + 1) s14)
    refine z_iload_n C (q := 87) 4 dX8_roundsTillRest_86 rfl rfl ?_
    exact z_iret C dX8_roundsTillRest_87
set_option maxRecDepth 100000 in
set_option maxHeartbeats 4000000 in
theorem m_X8_roundsTillRest (G : gG) {ad : Nat → Nat} (hap : g_ap LC ad)   (v1 : Int32) (s : gS) : g_M G LC ad yX8_roundsTillRest cX8_roundsTillRest 5 (some .int) 5 [.ref (ad 38), .int v1] s (f_X8_roundsTillRest v1 s) := by
  refine g_entry (by decide) hap (Nat.le_of_ble_eq_true rfl) [(0, .ref (ad 38)), (1, .int v1)] rfl (fun X C => ?_)
  unfold f_X8_roundsTillRest
  refine z_aload_n C (q := 1) 0 dX8_roundsTillRest_0 rfl rfl ?_
  refine z_aload_n C (q := 2) 0 dX8_roundsTillRest_1 rfl rfl ?_
  refine z_iconst C (q := 3) dX8_roundsTillRest_2 rfl lt_iconst_0 ?_
  refine z_iload_n C (q := 4) 1 dX8_roundsTillRest_3 rfl rfl ?_
  refine z_iconst C (q := 5) dX8_roundsTillRest_4 rfl lt_iconst_m1 ?_
  refine z_callV C (q := 8) [.int (0 : Int32), .int v1, .int (-1 : Int32)] gl_X8_88 glv_X8_bestClover ob_38 rfl (m_X8_bestClover G (g_Kap C) (0 : Int32) v1 (-1 : Int32) _) rfl rfl (Nat.le_of_ble_eq_true rfl) ⟨by decide, by decide⟩ dX8_roundsTillRest_5 rfl (z_ki (fun r2 s1 => ?_))
  refine z_putI C (q := 11) ob_38 fP_X8_91 rfl dX8_roundsTillRest_8 rfl (fun s3 => ?_)
  refine z_aload_n C (q := 12) 0 dX8_roundsTillRest_11 rfl rfl ?_
  refine z_aload_n C (q := 13) 0 dX8_roundsTillRest_12 rfl rfl ?_
  refine z_iconst C (q := 14) dX8_roundsTillRest_13 rfl lt_iconst_1 ?_
  refine z_iload_n C (q := 15) 1 dX8_roundsTillRest_14 rfl rfl ?_
  refine z_iconst C (q := 16) dX8_roundsTillRest_15 rfl lt_iconst_m1 ?_
  refine z_callV C (q := 19) [.int (1 : Int32), .int v1, .int (-1 : Int32)] gl_X8_88 glv_X8_bestClover ob_38 rfl (m_X8_bestClover G (g_Kap C) (1 : Int32) v1 (-1 : Int32) _) rfl rfl (Nat.le_of_ble_eq_true rfl) ⟨by decide, by decide⟩ dX8_roundsTillRest_16 rfl (z_ki (fun r5 s4 => ?_))
  refine z_putI C (q := 22) ob_38 fP_X8_94 rfl dX8_roundsTillRest_19 rfl (fun s6 => ?_)
  refine z_iconst C (q := 23) dX8_roundsTillRest_22 rfl lt_iconst_0 ?_
  refine z_istore_n C (q := 24) [(2, .int (0 : Int32)), (0, .ref (ad 38)), (1, .int v1)] dX8_roundsTillRest_23 rfl rfl (by decide) rfl ?_
  refine z_sub [1, 2, 0] rfl (l_X8_roundsTillRest_24 C v1 (fun v2_15 s16 => ?_) g_N (0 : Int32) s6)
  refine z_iconst C (q := 95) dX8_roundsTillRest_94 rfl lt_iconst_m1 ?_
  exact z_iret C dX8_roundsTillRest_95
set_option maxRecDepth 100000 in
set_option maxHeartbeats 4000000 in
theorem l_X8_fairestCell_4 {G : gG} {X : gX} {ad : Nat → Nat} (C : g_K G X LC ad cX8_fairestCell 5 RX8 (some .int) 5)    {k : Int32 → Int32 → gS → gR} (hk : ∀ (v1 : Int32) (v2 : Int32) (s : gS), g_Z G X LC ad 5 65 [(1, .int v1)] [] s (k v1 v2 s)) : ∀ (n : Nat) (v1 : Int32) (v2 : Int32) (s : gS), g_Z G X LC ad 5 4 [(0, .ref (ad 38)), (1, .int v1), (2, .int v2)] [] s (f_X8_fairestCell_4  k n v1 v2 s) := by
  intro n
  induction n with
  | zero => intros; exact z_none
  | succ n ih =>
    intro v1 v2 s
    rw [f_X8_fairestCell_4.eq_2]
    refine z_iload_n C (q := 5) 2 dX8_fairestCell_4 rfl rfl ?_
    refine z_aload_n C (q := 6) 0 dX8_fairestCell_5 rfl rfl ?_
    refine z_getR C (q := 9) ob_38 fF_X8_18 rfl dX8_fairestCell_6 rfl ?_
    refine z_getI C (q := 12) hLand_14.1 fF_X8_30 rfl dX8_fairestCell_9 rfl ?_
    refine z_icmp_ge C (tgt := 65) (q := 15) dX8_fairestCell_12 (by decide) rfl ?_ ?_
    · exact z_sub [1] rfl (hk v1 v2 s)
    refine z_aload_n C (q := 16) 0 dX8_fairestCell_15 rfl rfl ?_
    refine z_iconst C (q := 17) dX8_fairestCell_16 rfl lt_iconst_0 ?_
    refine z_iload_n C (q := 18) 2 dX8_fairestCell_17 rfl rfl ?_
    refine z_callV C (q := 21) [.int (0 : Int32), .int v2] gl_X8_97 glv_X8_meanWithLick ob_38 rfl (m_X8_meanWithLick G (g_Kap C) (0 : Int32) v2 _) rfl rfl (Nat.le_of_ble_eq_true rfl) ⟨by decide, by decide⟩ dX8_fairestCell_18 rfl (z_ki (fun r2 s1 => ?_))
    refine z_istore_n C (q := 22) [(3, .int r2), (0, .ref (ad 38)), (1, .int v1), (2, .int v2)] dX8_fairestCell_21 rfl rfl (by decide) rfl ?_
    refine z_iload_n C (q := 23) 0 dX8_fairestCell_22 rfl rfl ?_
    refine z_aload_n C (q := 24) 1 dX8_fairestCell_23 rfl rfl ?_
    refine z_iconst C (q := 25) dX8_fairestCell_24 rfl lt_iconst_1 ?_
    refine z_callV C (q := 28) [.int (1 : Int32)] gl_X8_63 glv_X8_meanOf ob_38 rfl (m_X8_meanOf G (g_Kap C) (1 : Int32) _) rfl rfl (Nat.le_of_ble_eq_true rfl) ⟨by decide, by decide⟩ dX8_fairestCell_25 rfl (z_ki (fun r4 s3 => ?_))
    refine z_isub C (q := 29) dX8_fairestCell_28 rfl ?_
    refine z_mabs C (q := 32) wm_820 wm_821 wm_518 wm_822 (by decide) (Nat.le_of_ble_eq_true rfl) dX8_fairestCell_29 rfl ?_
    refine z_leti (fun v4_5 => ?_)
    refine z_istore C (q := 34) [(4, .int v4_5), (3, .int r2), (0, .ref (ad 38)), (1, .int v1), (2, .int v2)] dX8_fairestCell_32 rfl (by decide) rfl ?_
    refine z_iload_n C (q := 35) 3 dX8_fairestCell_34 rfl rfl ?_
    refine z_iconst C (q := 36) dX8_fairestCell_35 rfl lt_iconst_m1 ?_
    refine z_icmp_eq C (tgt := 51) (q := 39) dX8_fairestCell_36 (by decide) rfl ?_ ?_
    · refine z_iload_n C (q := 52) 4 dX8_fairestCell_51 rfl rfl ?_
      refine z_istore_n C (q := 53) [(1, .int v2), (4, .int v4_5), (3, .int r2), (0, .ref (ad 38)), (2, .int v2)] dX8_fairestCell_52 rfl rfl (by decide) rfl ?_
      refine z_aload_n C (q := 54) 3 dX8_fairestCell_53 rfl rfl ?_
      refine z_iload C (q := 56) 1 dX8_fairestCell_54 rfl rfl ?_
      refine z_putI C (q := 59) ob_38 fP_X8_105 rfl dX8_fairestCell_56 rfl (fun s6 => ?_)
      refine z_iinc C (q := 62) 4 [(2, .int (v2 + 1)), (1, .int v2), (4, .int v4_5), (3, .int r2), (0, .ref (ad 38))] dX8_fairestCell_59 rfl rfl (lt_iinc_1 _) (by decide) rfl ?_
      refine z_goto C (tgt := 4) dX8_fairestCell_62 (by decide) ?_
      exact z_sub [4, 1, 0] rfl (ih v2 (v2 + 1) s6)
    refine z_iload C (q := 41) 0 dX8_fairestCell_39 rfl rfl ?_
    refine z_aload_n C (q := 42) 2 dX8_fairestCell_41 rfl rfl ?_
    refine z_getI C (q := 45) ob_38 fF_X8_105 rfl dX8_fairestCell_42 rfl ?_
    refine z_icmp_lt C (tgt := 51) (q := 48) dX8_fairestCell_45 (by decide) rfl ?_ ?_
    · refine z_iload_n C (q := 52) 4 dX8_fairestCell_51 rfl rfl ?_
      refine z_istore_n C (q := 53) [(1, .int v2), (4, .int v4_5), (3, .int r2), (0, .ref (ad 38)), (2, .int v2)] dX8_fairestCell_52 rfl rfl (by decide) rfl ?_
      refine z_aload_n C (q := 54) 3 dX8_fairestCell_53 rfl rfl ?_
      refine z_iload C (q := 56) 1 dX8_fairestCell_54 rfl rfl ?_
      refine z_putI C (q := 59) ob_38 fP_X8_105 rfl dX8_fairestCell_56 rfl (fun s7 => ?_)
      refine z_iinc C (q := 62) 4 [(2, .int (v2 + 1)), (1, .int v2), (4, .int v4_5), (3, .int r2), (0, .ref (ad 38))] dX8_fairestCell_59 rfl rfl (lt_iinc_1 _) (by decide) rfl ?_
      refine z_goto C (tgt := 4) dX8_fairestCell_62 (by decide) ?_
      exact z_sub [4, 1, 0] rfl (ih v2 (v2 + 1) s7)
    refine z_goto C (tgt := 59) dX8_fairestCell_48 (by decide) ?_
    refine z_iinc C (q := 62) 4 [(2, .int (v2 + 1)), (4, .int v4_5), (3, .int r2), (0, .ref (ad 38)), (1, .int v1)] dX8_fairestCell_59 rfl rfl (lt_iinc_1 _) (by decide) rfl ?_
    refine z_goto C (tgt := 4) dX8_fairestCell_62 (by decide) ?_
    exact z_sub [3, 4, 0] rfl (ih v1 (v2 + 1) s3)
set_option maxRecDepth 100000 in
set_option maxHeartbeats 4000000 in
theorem m_X8_fairestCell (G : gG) {ad : Nat → Nat} (hap : g_ap LC ad)    (s : gS) : g_M G LC ad yX8_fairestCell cX8_fairestCell 5 (some .int) 5 [.ref (ad 38)] s (f_X8_fairestCell s) := by
  refine g_entry (by decide) hap (Nat.le_of_ble_eq_true rfl) [(0, .ref (ad 38))] rfl (fun X C => ?_)
  unfold f_X8_fairestCell
  refine z_iconst C (q := 1) dX8_fairestCell_0 rfl lt_iconst_m1 ?_
  refine z_istore_n C (q := 2) [(1, .int (-1 : Int32)), (0, .ref (ad 38))] dX8_fairestCell_1 rfl rfl (by decide) rfl ?_
  refine z_iconst C (q := 3) dX8_fairestCell_2 rfl lt_iconst_0 ?_
  refine z_istore_n C (q := 4) [(2, .int (0 : Int32)), (1, .int (-1 : Int32)), (0, .ref (ad 38))] dX8_fairestCell_3 rfl rfl (by decide) rfl ?_
  refine z_sub [2, 1, 0] rfl (l_X8_fairestCell_4 C  (fun v1_8 v2_9 s10 => ?_) g_N (-1 : Int32) (0 : Int32) s)
  refine z_iload_n C (q := 66) 0 dX8_fairestCell_65 rfl rfl ?_
  exact z_iret C dX8_fairestCell_66
set_option maxRecDepth 100000 in
set_option maxHeartbeats 4000000 in
theorem l_X9_feed_37 {G : gG} {X : gX} {ad : Nat → Nat} (C : g_K G X LC ad cX9_feed 5 RX9 (some .int) 1)   (v2 : Int64) {k : Int32 → gS → gR} (hk : ∀ (v4 : Int32) (s : gS), g_Z G X LC ad 5 67 [(0, .ref (ad 0))] [] s (k v4 s)) : ∀ (n : Nat) (v4 : Int32) (s : gS), g_Z G X LC ad 5 37 [(0, .ref (ad 0)), (2, .long v2), (4, .int v4)] [] s (f_X9_feed_37 v2 k n v4 s) := by
  intro n
  induction n with
  | zero => intros; exact z_none
  | succ n ih =>
    intro v4 s
    rw [f_X9_feed_37.eq_2]
    refine z_iload C (q := 39) 2 dX9_feed_37 rfl rfl ?_
    refine z_if_lt C (tgt := 67) (q := 42) dX9_feed_39 (by decide) rfl ?_ ?_
    · exact z_sub [0] rfl (hk v4 s)
    refine z_aload_n C (q := 43) 0 dX9_feed_42 rfl rfl ?_
    refine z_getR C (q := 46) ob_0 fF_X9_10 rfl dX9_feed_43 rfl ?_
    refine z_lload_n C (q := 47) 1 dX9_feed_46 rfl rfl ?_
    refine z_bipush C (q := 49) dX9_feed_47 rfl lt_bipush_8 ?_
    refine z_iload C (q := 51) 2 dX9_feed_49 rfl rfl ?_
    refine z_imul C (q := 52) dX9_feed_51 rfl ?_
    refine z_lushr C (q := 53) dX9_feed_52 rfl ?_
    refine z_l2i C (q := 54) dX9_feed_53 rfl ?_
    refine z_sipush C (q := 57) dX9_feed_54 rfl lt_sipush_255 ?_
    refine z_iand C (q := 58) dX9_feed_57 rfl ?_
    refine z_callV C (q := 61) [.int ((((v2.toUInt64 >>> (((8 : Int32) * v4).toInt64.toUInt64 &&& Int64.toUInt64 63)).toInt64).toInt32) &&& (255 : Int32))] gl_X9_89 glv_X7_add ob_1 rfl (m_X7_add G (g_Kap C) ((((v2.toUInt64 >>> (((8 : Int32) * v4).toInt64.toUInt64 &&& Int64.toUInt64 63)).toInt64).toInt32) &&& (255 : Int32)) _) rfl rfl (Nat.le_of_ble_eq_true rfl) ⟨by decide, by decide⟩ dX9_feed_58 rfl (z_kv (fun s2 => ?_))
    refine z_iinc C (q := 64) 2 [(4, .int (v4 + (-1))), (0, .ref (ad 0)), (2, .long v2)] dX9_feed_61 rfl rfl (lt_iinc_m1 _) (by decide) rfl ?_
    refine z_goto C (tgt := 37) dX9_feed_64 (by decide) ?_
    exact z_sub [1, 2, 0] rfl (ih (v4 + (-1)) s2)
set_option maxRecDepth 100000 in
set_option maxHeartbeats 4000000 in
theorem m_X9_feed (G : gG) {ad : Nat → Nat} (hap : g_ap LC ad)   (v1 : Int32) (v2 : Int64) (s : gS) : g_M G LC ad yX9_feed cX9_feed 5 (some .int) 1 [.ref (ad 0), .int v1, .long v2] s (f_X9_feed v1 v2 s) := by
  refine g_entry (by decide) hap (Nat.le_of_ble_eq_true rfl) [(0, .ref (ad 0)), (1, .int v1), (2, .long v2)] rfl (fun X C => ?_)
  unfold f_X9_feed
  refine z_iload_n C (q := 1) 1 dX9_feed_0 rfl rfl ?_
  refine z_iconst C (q := 2) dX9_feed_1 rfl lt_iconst_1 ?_
  refine z_icmp_lt C (tgt := 11) (q := 5) dX9_feed_2 (by decide) rfl ?_ ?_
  · refine z_ldc C (q := 13) dX9_feed_11 rfl wm_181 ?_
    exact z_iret C dX9_feed_13
  refine z_iload_n C (q := 6) 1 dX9_feed_5 rfl rfl ?_
  refine z_bipush C (q := 8) dX9_feed_6 rfl lt_bipush_8 ?_
  refine z_icmp_le C (tgt := 14) (q := 11) dX9_feed_8 (by decide) rfl ?_ ?_
  · refine z_aload_n C (q := 15) 0 dX9_feed_14 rfl rfl ?_
    refine z_getR C (q := 18) ob_0 fF_X9_10 rfl dX9_feed_15 rfl ?_
    refine z_getI C (q := 21) ob_1 fF_X9_84 rfl dX9_feed_18 rfl ?_
    refine z_iload_n C (q := 22) 1 dX9_feed_21 rfl rfl ?_
    refine z_iadd C (q := 23) dX9_feed_22 rfl ?_
    refine z_sipush C (q := 26) dX9_feed_23 rfl lt_sipush_500 ?_
    refine z_icmp_le C (tgt := 32) (q := 29) dX9_feed_26 (by decide) rfl ?_ ?_
    · refine z_iload_n C (q := 33) 1 dX9_feed_32 rfl rfl ?_
      refine z_iconst C (q := 34) dX9_feed_33 rfl lt_iconst_1 ?_
      refine z_isub C (q := 35) dX9_feed_34 rfl ?_
      refine z_leti (fun v4_1 => ?_)
      refine z_istore C (q := 37) [(4, .int v4_1), (0, .ref (ad 0)), (1, .int v1), (2, .long v2)] dX9_feed_35 rfl (by decide) rfl ?_
      refine z_sub [1, 3, 0] rfl (l_X9_feed_37 C v2 (fun v4_3 s4 => ?_) g_N v4_1 s)
      refine z_aload_n C (q := 68) 0 dX9_feed_67 rfl rfl ?_
      refine z_getR C (q := 71) ob_0 fF_X9_10 rfl dX9_feed_68 rfl ?_
      refine z_getI C (q := 74) ob_1 fF_X9_84 rfl dX9_feed_71 rfl ?_
      exact z_iret C dX9_feed_74
    refine z_ldc C (q := 31) dX9_feed_29 rfl wm_182 ?_
    exact z_iret C dX9_feed_31
  refine z_ldc C (q := 13) dX9_feed_11 rfl wm_181 ?_
  exact z_iret C dX9_feed_13
set_option maxRecDepth 100000 in
set_option maxHeartbeats 4000000 in
theorem m_X9_meadow (G : gG) {ad : Nat → Nat} (hap : g_ap LC ad)    (s : gS) : g_M G LC ad yX9_meadow cX9_meadow 2 (some .int) 9 [.ref (ad 0)] s (f_X9_meadow s) := by
  refine g_entry (by decide) hap (Nat.le_of_ble_eq_true rfl) [(0, .ref (ad 0))] rfl (fun X C => ?_)
  unfold f_X9_meadow
  refine z_aload_n C (q := 1) 0 dX9_meadow_0 rfl rfl ?_
  refine z_getR C (q := 4) ob_0 fF_X9_21 rfl dX9_meadow_1 rfl ?_
  refine z_callV C (q := 7) [] gl_X9_93 glv_X5_read ob_3 rfl (m_X5_read G (g_Kap C)  _) rfl rfl (Nat.le_of_ble_eq_true rfl) ⟨by decide, by decide⟩ dX9_meadow_4 rfl (z_ki (fun r2 s1 => ?_))
  refine z_istore_n C (q := 8) [(1, .int r2), (0, .ref (ad 0))] dX9_meadow_7 rfl rfl (by decide) rfl ?_
  refine z_aload_n C (q := 9) 1 dX9_meadow_8 rfl rfl ?_
  refine z_getR C (q := 12) ob_0 fF_X9_10 rfl dX9_meadow_9 rfl ?_
  refine z_callV C (q := 15) [] gl_X9_97 glv_X7_clear ob_1 rfl (m_X7_clear G (g_Kap C)  _) rfl rfl (Nat.le_of_ble_eq_true rfl) ⟨by decide, by decide⟩ dX9_meadow_12 rfl (z_kv (fun s3 => ?_))
  refine z_iload_n C (q := 16) 0 dX9_meadow_15 rfl rfl ?_
  refine z_if_ge C (tgt := 21) (q := 19) dX9_meadow_16 (by decide) rfl ?_ ?_
  · refine z_aload_n C (q := 22) 1 dX9_meadow_21 rfl rfl ?_
    refine z_getR C (q := 25) ob_0 fF_X9_28 rfl dX9_meadow_22 rfl ?_
    refine z_aload_n C (q := 26) 1 dX9_meadow_25 rfl rfl ?_
    refine z_getR C (q := 29) ob_0 fF_X9_21 rfl dX9_meadow_26 rfl ?_
    refine z_getR C (q := 32) ob_3 fF_X9_100 rfl dX9_meadow_29 rfl ?_
    refine z_callV C (q := 35) [.ref (ad 4)] gl_X9_103 glv_X3_takeFrom hLand_14.1 rfl (m_X3_takeFrom G (g_Kap C) 14 4 hLand_14 hLand_4 _) rfl rfl (Nat.le_of_ble_eq_true rfl) ⟨by decide, by decide⟩ dX9_meadow_32 rfl (z_kv (fun s4 => ?_))
    refine z_aload_n C (q := 36) 1 dX9_meadow_35 rfl rfl ?_
    refine z_getR C (q := 39) ob_0 fF_X9_37 rfl dX9_meadow_36 rfl ?_
    refine z_callV C (q := 42) [] gl_X9_106 glv_X4_settle hPast_22.1 rfl (m_X4_settle G (g_Kap C) 22 hPast_22 _) rfl rfl (Nat.le_of_ble_eq_true rfl) ⟨by decide, by decide⟩ dX9_meadow_39 rfl (z_kv (fun s5 => ?_))
    refine z_aload_n C (q := 43) 1 dX9_meadow_42 rfl rfl ?_
    refine z_getR C (q := 46) ob_0 fF_X9_44 rfl dX9_meadow_43 rfl ?_
    refine z_iconst C (q := 47) dX9_meadow_46 rfl lt_iconst_0 ?_
    refine z_putZK C (q := 50) (by decide) hImg_25.1 fP_X9_109 rfl dX9_meadow_47 rfl (fun s6 => ?_)
    refine z_aload_n C (q := 51) 1 dX9_meadow_50 rfl rfl ?_
    refine z_getR C (q := 54) ob_0 fF_X9_48 rfl dX9_meadow_51 rfl ?_
    refine z_iconst C (q := 55) dX9_meadow_54 rfl lt_iconst_0 ?_
    refine z_putZK C (q := 58) (by decide) hImg_29.1 fP_X9_109 rfl dX9_meadow_55 rfl (fun s7 => ?_)
    refine z_aload_n C (q := 59) 1 dX9_meadow_58 rfl rfl ?_
    refine z_getR C (q := 62) ob_0 fF_X9_72 rfl dX9_meadow_59 rfl ?_
    refine z_iconst C (q := 63) dX9_meadow_62 rfl lt_iconst_0 ?_
    refine z_putI C (q := 66) ob_41 fP_X9_113 rfl dX9_meadow_63 rfl (fun s8 => ?_)
    refine z_aload_n C (q := 67) 1 dX9_meadow_66 rfl rfl ?_
    refine z_getR C (q := 70) ob_0 fF_X9_79 rfl dX9_meadow_67 rfl ?_
    refine z_iconst C (q := 71) dX9_meadow_70 rfl lt_iconst_0 ?_
    refine z_putI C (q := 74) ob_46 fP_X9_116 rfl dX9_meadow_71 rfl (fun s9 => ?_)
    refine z_iload_n C (q := 75) 0 dX9_meadow_74 rfl rfl ?_
    exact z_iret C dX9_meadow_75
  refine z_iload_n C (q := 20) 0 dX9_meadow_19 rfl rfl ?_
  exact z_iret C dX9_meadow_20
set_option maxRecDepth 100000 in
set_option maxHeartbeats 4000000 in
theorem m_X9_fault (G : gG) {ad : Nat → Nat} (hap : g_ap LC ad)    (s : gS) : g_M G LC ad yX9_fault cX9_fault 1 (some .int) 0 [.ref (ad 0)] s (f_X9_fault s) := by
  refine g_entry (by decide) hap (Nat.le_of_ble_eq_true rfl) [(0, .ref (ad 0))] rfl (fun X C => ?_)
  unfold f_X9_fault
  refine z_aload_n C (q := 1) 0 dX9_fault_0 rfl rfl ?_
  refine z_getR C (q := 4) ob_0 fF_X9_21 rfl dX9_fault_1 rfl ?_
  refine z_getI C (q := 7) ob_3 fF_X9_117 rfl dX9_fault_4 rfl ?_
  exact z_iret C dX9_fault_7
set_option maxRecDepth 100000 in
set_option maxHeartbeats 4000000 in
theorem m_X9_told (G : gG) {ad : Nat → Nat} (hap : g_ap LC ad)   (v1 : Int32) (s : gS) : g_M G LC ad yX9_told cX9_told 2 (some .int) 2 [.ref (ad 0), .int v1] s (f_X9_told v1 s) := by
  refine g_entry (by decide) hap (Nat.le_of_ble_eq_true rfl) [(0, .ref (ad 0)), (1, .int v1)] rfl (fun X C => ?_)
  unfold f_X9_told
  refine z_iload_n C (q := 1) 1 dX9_told_0 rfl rfl ?_
  refine z_case (0 : Int32) (fun hc0 => ?_) (fun hc0 => ?_)
  · refine z_tsIn C (tgt := 68) dX9_told_1 (0 : Int32) hc0 (by decide) (by decide) rfl (by decide) ?_
    refine z_aload_n C (q := 69) 0 dX9_told_68 rfl rfl ?_
    refine z_getR C (q := 72) ob_0 fF_X9_28 rfl dX9_told_69 rfl ?_
    refine z_getI C (q := 75) hLand_14.1 fF_X9_120 rfl dX9_told_72 rfl ?_
    exact z_iret C dX9_told_75
  refine z_case (1 : Int32) (fun hc1 => ?_) (fun hc1 => ?_)
  · refine z_tsIn C (tgt := 76) dX9_told_1 (1 : Int32) hc1 (by decide) (by decide) rfl (by decide) ?_
    refine z_aload_n C (q := 77) 0 dX9_told_76 rfl rfl ?_
    refine z_getR C (q := 80) ob_0 fF_X9_28 rfl dX9_told_77 rfl ?_
    refine z_getI C (q := 83) hLand_14.1 fF_X9_123 rfl dX9_told_80 rfl ?_
    exact z_iret C dX9_told_83
  refine z_case (2 : Int32) (fun hc2 => ?_) (fun hc2 => ?_)
  · refine z_tsIn C (tgt := 84) dX9_told_1 (2 : Int32) hc2 (by decide) (by decide) rfl (by decide) ?_
    refine z_aload_n C (q := 85) 0 dX9_told_84 rfl rfl ?_
    refine z_getR C (q := 88) ob_0 fF_X9_10 rfl dX9_told_85 rfl ?_
    refine z_getI C (q := 91) ob_1 fF_X9_84 rfl dX9_told_88 rfl ?_
    exact z_iret C dX9_told_91
  refine z_case (3 : Int32) (fun hc3 => ?_) (fun hc3 => ?_)
  · refine z_tsIn C (tgt := 92) dX9_told_1 (3 : Int32) hc3 (by decide) (by decide) rfl (by decide) ?_
    refine z_aload_n C (q := 93) 0 dX9_told_92 rfl rfl ?_
    refine z_getR C (q := 96) ob_0 fF_X9_37 rfl dX9_told_93 rfl ?_
    refine z_getI C (q := 99) hPast_22.1 fF_X9_126 rfl dX9_told_96 rfl ?_
    exact z_iret C dX9_told_99
  refine z_case (4 : Int32) (fun hc4 => ?_) (fun hc4 => ?_)
  · refine z_tsIn C (tgt := 100) dX9_told_1 (4 : Int32) hc4 (by decide) (by decide) rfl (by decide) ?_
    refine z_aload_n C (q := 101) 0 dX9_told_100 rfl rfl ?_
    refine z_getR C (q := 104) ob_0 fF_X9_28 rfl dX9_told_101 rfl ?_
    refine z_getI C (q := 107) hLand_14.1 fF_X9_129 rfl dX9_told_104 rfl ?_
    exact z_iret C dX9_told_107
  refine z_case (5 : Int32) (fun hc5 => ?_) (fun hc5 => ?_)
  · refine z_tsIn C (tgt := 108) dX9_told_1 (5 : Int32) hc5 (by decide) (by decide) rfl (by decide) ?_
    refine z_aload_n C (q := 109) 0 dX9_told_108 rfl rfl ?_
    refine z_getR C (q := 112) ob_0 fF_X9_28 rfl dX9_told_109 rfl ?_
    refine z_aload_n C (q := 113) 0 dX9_told_112 rfl rfl ?_
    refine z_getR C (q := 116) ob_0 fF_X9_37 rfl dX9_told_113 rfl ?_
    refine z_getI C (q := 119) hPast_22.1 fF_X9_132 rfl dX9_told_116 rfl ?_
    refine z_callV C (q := 122) [.int (s.1 22 3)] gl_X9_135 glv_X3_placeOf hLand_14.1 rfl (m_X3_placeOf G (g_Kap C) 14 hLand_14 (s.1 22 3) _) rfl rfl (Nat.le_of_ble_eq_true rfl) ⟨by decide, by decide⟩ dX9_told_119 rfl (z_ki (fun r2 s1 => ?_))
    exact z_iret C dX9_told_122
  refine z_case (6 : Int32) (fun hc6 => ?_) (fun hc6 => ?_)
  · refine z_tsIn C (tgt := 123) dX9_told_1 (6 : Int32) hc6 (by decide) (by decide) rfl (by decide) ?_
    refine z_aload_n C (q := 124) 0 dX9_told_123 rfl rfl ?_
    refine z_getR C (q := 127) ob_0 fF_X9_28 rfl dX9_told_124 rfl ?_
    refine z_aload_n C (q := 128) 0 dX9_told_127 rfl rfl ?_
    refine z_getR C (q := 131) ob_0 fF_X9_37 rfl dX9_told_128 rfl ?_
    refine z_getI C (q := 134) hPast_22.1 fF_X9_139 rfl dX9_told_131 rfl ?_
    refine z_callV C (q := 137) [.int (s.1 22 4)] gl_X9_135 glv_X3_placeOf hLand_14.1 rfl (m_X3_placeOf G (g_Kap C) 14 hLand_14 (s.1 22 4) _) rfl rfl (Nat.le_of_ble_eq_true rfl) ⟨by decide, by decide⟩ dX9_told_134 rfl (z_ki (fun r4 s3 => ?_))
    exact z_iret C dX9_told_137
  refine z_case (7 : Int32) (fun hc7 => ?_) (fun hc7 => ?_)
  · refine z_tsIn C (tgt := 138) dX9_told_1 (7 : Int32) hc7 (by decide) (by decide) rfl (by decide) ?_
    refine z_aload_n C (q := 139) 0 dX9_told_138 rfl rfl ?_
    refine z_getR C (q := 142) ob_0 fF_X9_28 rfl dX9_told_139 rfl ?_
    refine z_aload_n C (q := 143) 0 dX9_told_142 rfl rfl ?_
    refine z_getR C (q := 146) ob_0 fF_X9_37 rfl dX9_told_143 rfl ?_
    refine z_getI C (q := 149) hPast_22.1 fF_X9_142 rfl dX9_told_146 rfl ?_
    refine z_callV C (q := 152) [.int (s.1 22 5)] gl_X9_135 glv_X3_placeOf hLand_14.1 rfl (m_X3_placeOf G (g_Kap C) 14 hLand_14 (s.1 22 5) _) rfl rfl (Nat.le_of_ble_eq_true rfl) ⟨by decide, by decide⟩ dX9_told_149 rfl (z_ki (fun r6 s5 => ?_))
    exact z_iret C dX9_told_152
  refine z_case (8 : Int32) (fun hc8 => ?_) (fun hc8 => ?_)
  · refine z_tsIn C (tgt := 153) dX9_told_1 (8 : Int32) hc8 (by decide) (by decide) rfl (by decide) ?_
    refine z_aload_n C (q := 154) 0 dX9_told_153 rfl rfl ?_
    refine z_getR C (q := 157) ob_0 fF_X9_37 rfl dX9_told_154 rfl ?_
    refine z_getI C (q := 160) hPast_22.1 fF_X9_145 rfl dX9_told_157 rfl ?_
    exact z_iret C dX9_told_160
  refine z_case (9 : Int32) (fun hc9 => ?_) (fun hc9 => ?_)
  · refine z_tsIn C (tgt := 161) dX9_told_1 (9 : Int32) hc9 (by decide) (by decide) rfl (by decide) ?_
    refine z_aload_n C (q := 162) 0 dX9_told_161 rfl rfl ?_
    refine z_getR C (q := 165) ob_0 fF_X9_37 rfl dX9_told_162 rfl ?_
    refine z_getI C (q := 168) hPast_22.1 fF_X9_148 rfl dX9_told_165 rfl ?_
    exact z_iret C dX9_told_168
  refine z_case (10 : Int32) (fun hc10 => ?_) (fun hc10 => ?_)
  · refine z_tsIn C (tgt := 169) dX9_told_1 (10 : Int32) hc10 (by decide) (by decide) rfl (by decide) ?_
    refine z_aload_n C (q := 170) 0 dX9_told_169 rfl rfl ?_
    refine z_getR C (q := 173) ob_0 fF_X9_37 rfl dX9_told_170 rfl ?_
    refine z_getI C (q := 176) hPast_22.1 fF_X9_151 rfl dX9_told_173 rfl ?_
    exact z_iret C dX9_told_176
  refine z_case (11 : Int32) (fun hc11 => ?_) (fun hc11 => ?_)
  · refine z_tsIn C (tgt := 177) dX9_told_1 (11 : Int32) hc11 (by decide) (by decide) rfl (by decide) ?_
    refine z_aload_n C (q := 178) 0 dX9_told_177 rfl rfl ?_
    refine z_getR C (q := 181) ob_0 fF_X9_72 rfl dX9_told_178 rfl ?_
    refine z_getI C (q := 184) ob_41 fF_X9_113 rfl dX9_told_181 rfl ?_
    exact z_iret C dX9_told_184
  refine z_case (12 : Int32) (fun hc12 => ?_) (fun hc12 => ?_)
  · refine z_tsIn C (tgt := 185) dX9_told_1 (12 : Int32) hc12 (by decide) (by decide) rfl (by decide) ?_
    refine z_aload_n C (q := 186) 0 dX9_told_185 rfl rfl ?_
    refine z_getR C (q := 189) ob_0 fF_X9_79 rfl dX9_told_186 rfl ?_
    refine z_getI C (q := 192) ob_46 fF_X9_116 rfl dX9_told_189 rfl ?_
    exact z_iret C dX9_told_192
  refine z_tsOut C (tgt := 193) dX9_told_1 (by have := lv_neT (a := 0) hc0 rfl; have := lv_neT (a := 1) hc1 rfl; have := lv_neT (a := 2) hc2 rfl; have := lv_neT (a := 3) hc3 rfl; have := lv_neT (a := 4) hc4 rfl; have := lv_neT (a := 5) hc5 rfl; have := lv_neT (a := 6) hc6 rfl; have := lv_neT (a := 7) hc7 rfl; have := lv_neT (a := 8) hc8 rfl; have := lv_neT (a := 9) hc9 rfl; have := lv_neT (a := 10) hc10 rfl; have := lv_neT (a := 11) hc11 rfl; have := lv_neT (a := 12) hc12 rfl; omega) (by decide) ?_
  refine z_ldc C (q := 195) dX9_told_193 rfl wm_181 ?_
  exact z_iret C dX9_told_195
set_option maxRecDepth 100000 in
set_option maxHeartbeats 4000000 in
theorem m_X9_cell (G : gG) {ad : Nat → Nat} (hap : g_ap LC ad)   (v1 : Int32) (v2 : Int32) (v3 : Int32) (s : gS) : g_M G LC ad yX9_cell cX9_cell 5 (some .int) 3 [.ref (ad 0), .int v1, .int v2, .int v3] s (f_X9_cell v1 v2 v3 s) := by
  refine g_entry (by decide) hap (Nat.le_of_ble_eq_true rfl) [(0, .ref (ad 0)), (1, .int v1), (2, .int v2), (3, .int v3)] rfl (fun X C => ?_)
  unfold f_X9_cell
  refine z_aload_n C (q := 1) 0 dX9_cell_0 rfl rfl ?_
  refine z_getR C (q := 4) ob_0 fF_X9_28 rfl dX9_cell_1 rfl ?_
  refine z_iload_n C (q := 5) 1 dX9_cell_4 rfl rfl ?_
  refine z_iload_n C (q := 6) 2 dX9_cell_5 rfl rfl ?_
  refine z_callV C (q := 9) [.int v1, .int v2] gl_X9_154 glv_X3_cellAt hLand_14.1 rfl (m_X3_cellAt G (g_Kap C) 14 hLand_14 v1 v2 _) rfl rfl (Nat.le_of_ble_eq_true rfl) ⟨by decide, by decide⟩ dX9_cell_6 rfl (z_ki (fun r2 s1 => ?_))
  refine z_istore C (q := 11) [(4, .int r2), (0, .ref (ad 0)), (1, .int v1), (2, .int v2), (3, .int v3)] dX9_cell_9 rfl (by decide) rfl ?_
  refine z_aload_n C (q := 12) 1 dX9_cell_11 rfl rfl ?_
  refine z_getR C (q := 15) ob_0 fF_X9_28 rfl dX9_cell_12 rfl ?_
  refine z_iload C (q := 17) 0 dX9_cell_15 rfl rfl ?_
  refine z_callV C (q := 20) [.int r2] gl_X9_158 glv_X3_has hLand_14.1 rfl (m_X3_has G (g_Kap C) 14 hLand_14 r2 _) rfl rfl (Nat.le_of_ble_eq_true rfl) ⟨by decide, by decide⟩ dX9_cell_17 rfl (z_ki (fun r4 s3 => ?_))
  refine z_if_ne C (tgt := 26) (q := 23) dX9_cell_20 (by decide) rfl ?_ ?_
  · refine z_iload_n C (q := 27) 4 dX9_cell_26 rfl rfl ?_
    refine z_case (0 : Int32) (fun hc0 => ?_) (fun hc0 => ?_)
    · refine z_tsIn C (tgt := 60) dX9_cell_27 (0 : Int32) hc0 (by decide) (by decide) rfl (by decide) ?_
      refine z_aload_n C (q := 61) 1 dX9_cell_60 rfl rfl ?_
      refine z_getR C (q := 64) ob_0 fF_X9_37 rfl dX9_cell_61 rfl ?_
      refine z_getR C (q := 67) hPast_22.1 fF_X9_163 rfl dX9_cell_64 rfl ?_
      refine z_iload C (q := 69) 0 dX9_cell_67 rfl rfl ?_
      refine z_iald C (q := 70) hPast_22.2.1 dX9_cell_69 rfl ?_
      exact z_iret C dX9_cell_70
    refine z_case (1 : Int32) (fun hc1 => ?_) (fun hc1 => ?_)
    · refine z_tsIn C (tgt := 71) dX9_cell_27 (1 : Int32) hc1 (by decide) (by decide) rfl (by decide) ?_
      refine z_aload_n C (q := 72) 1 dX9_cell_71 rfl rfl ?_
      refine z_getR C (q := 75) ob_0 fF_X9_37 rfl dX9_cell_72 rfl ?_
      refine z_getR C (q := 78) hPast_22.1 fF_X9_167 rfl dX9_cell_75 rfl ?_
      refine z_iload C (q := 80) 0 dX9_cell_78 rfl rfl ?_
      refine z_iald C (q := 81) hPast_22.2.2 dX9_cell_80 rfl ?_
      exact z_iret C dX9_cell_81
    refine z_case (2 : Int32) (fun hc2 => ?_) (fun hc2 => ?_)
    · refine z_tsIn C (tgt := 82) dX9_cell_27 (2 : Int32) hc2 (by decide) (by decide) rfl (by decide) ?_
      refine z_aload_n C (q := 83) 1 dX9_cell_82 rfl rfl ?_
      refine z_getR C (q := 86) ob_0 fF_X9_28 rfl dX9_cell_83 rfl ?_
      refine z_getR C (q := 89) hLand_14.1 fF_X9_170 rfl dX9_cell_86 rfl ?_
      refine z_iload C (q := 91) 0 dX9_cell_89 rfl rfl ?_
      refine z_iald C (q := 92) hLand_14.2.2.2.2.1 dX9_cell_91 rfl ?_
      exact z_iret C dX9_cell_92
    refine z_case (3 : Int32) (fun hc3 => ?_) (fun hc3 => ?_)
    · refine z_tsIn C (tgt := 93) dX9_cell_27 (3 : Int32) hc3 (by decide) (by decide) rfl (by decide) ?_
      refine z_aload_n C (q := 94) 1 dX9_cell_93 rfl rfl ?_
      refine z_getR C (q := 97) ob_0 fF_X9_28 rfl dX9_cell_94 rfl ?_
      refine z_getR C (q := 100) hLand_14.1 fF_X9_173 rfl dX9_cell_97 rfl ?_
      refine z_iload C (q := 102) 0 dX9_cell_100 rfl rfl ?_
      refine z_iald C (q := 103) hLand_14.2.2.2.2.2.1 dX9_cell_102 rfl ?_
      exact z_iret C dX9_cell_103
    refine z_case (4 : Int32) (fun hc4 => ?_) (fun hc4 => ?_)
    · refine z_tsIn C (tgt := 104) dX9_cell_27 (4 : Int32) hc4 (by decide) (by decide) rfl (by decide) ?_
      refine z_aload_n C (q := 105) 1 dX9_cell_104 rfl rfl ?_
      refine z_getR C (q := 108) ob_0 fF_X9_37 rfl dX9_cell_105 rfl ?_
      refine z_iload C (q := 110) 0 dX9_cell_108 rfl rfl ?_
      refine z_callV C (q := 113) [.int r2] gl_X9_176 glv_X4_likingNow hPast_22.1 rfl (m_X4_likingNow G (g_Kap C) 22 hPast_22 r2 _) rfl rfl (Nat.le_of_ble_eq_true rfl) ⟨by decide, by decide⟩ dX9_cell_110 rfl (z_ki (fun r6 s5 => ?_))
      exact z_iret C dX9_cell_113
    refine z_tsOut C (tgt := 114) dX9_cell_27 (by have := lv_neT (a := 0) hc0 rfl; have := lv_neT (a := 1) hc1 rfl; have := lv_neT (a := 2) hc2 rfl; have := lv_neT (a := 3) hc3 rfl; have := lv_neT (a := 4) hc4 rfl; omega) (by decide) ?_
    refine z_ldc C (q := 116) dX9_cell_114 rfl wm_181 ?_
    exact z_iret C dX9_cell_116
  refine z_ldc C (q := 25) dX9_cell_23 rfl wm_504 ?_
  exact z_iret C dX9_cell_25
set_option maxRecDepth 100000 in
set_option maxHeartbeats 4000000 in
theorem m_X9_isParish (G : gG) {ad : Nat → Nat} (hap : g_ap LC ad)   (v0 : Int32) (s : gS) : g_M G LC ad yX9_isParish cX9_isParish 1 (some .boolean) 0 [.int v0] s (f_X9_isParish v0 s) := by
  refine g_entry (by decide) hap (Nat.le_of_ble_eq_true rfl) [(0, .int v0)] rfl (fun X C => ?_)
  unfold f_X9_isParish
  refine z_iload_n C (q := 1) 0 dX9_isParish_0 rfl rfl ?_
  refine z_if_eq C (tgt := 9) (q := 4) dX9_isParish_1 (by decide) rfl ?_ ?_
  · refine z_iconst C (q := 10) dX9_isParish_9 rfl lt_iconst_1 ?_
    refine z_goto C (tgt := 14) dX9_isParish_10 (by decide) ?_
    exact z_zretK C (by decide) dX9_isParish_14
  refine z_iload_n C (q := 5) 0 dX9_isParish_4 rfl rfl ?_
  refine z_iconst C (q := 6) dX9_isParish_5 rfl lt_iconst_1 ?_
  refine z_icmp_ne C (tgt := 13) (q := 9) dX9_isParish_6 (by decide) rfl ?_ ?_
  · refine z_iconst C (q := 14) dX9_isParish_13 rfl lt_iconst_0 ?_
    exact z_zretK C (by decide) dX9_isParish_14
  refine z_iconst C (q := 10) dX9_isParish_9 rfl lt_iconst_1 ?_
  refine z_goto C (tgt := 14) dX9_isParish_10 (by decide) ?_
  exact z_zretK C (by decide) dX9_isParish_14
set_option maxRecDepth 100000 in
set_option maxHeartbeats 4000000 in
theorem m_X9_tithes (G : gG) {ad : Nat → Nat} (hap : g_ap LC ad)   (v1 : Int32) (v2 : Int32) (v3 : Int32) (s : gS) : g_M G LC ad yX9_tithes cX9_tithes 5 (some .int) 3 [.ref (ad 0), .int v1, .int v2, .int v3] s (f_X9_tithes v1 v2 v3 s) := by
  refine g_entry (by decide) hap (Nat.le_of_ble_eq_true rfl) [(0, .ref (ad 0)), (1, .int v1), (2, .int v2), (3, .int v3)] rfl (fun X C => ?_)
  unfold f_X9_tithes
  refine z_aload_n C (q := 1) 0 dX9_tithes_0 rfl rfl ?_
  refine z_getR C (q := 4) ob_0 fF_X9_28 rfl dX9_tithes_1 rfl ?_
  refine z_iload_n C (q := 5) 2 dX9_tithes_4 rfl rfl ?_
  refine z_iload_n C (q := 6) 3 dX9_tithes_5 rfl rfl ?_
  refine z_callV C (q := 9) [.int v2, .int v3] gl_X9_154 glv_X3_cellAt hLand_14.1 rfl (m_X3_cellAt G (g_Kap C) 14 hLand_14 v2 v3 _) rfl rfl (Nat.le_of_ble_eq_true rfl) ⟨by decide, by decide⟩ dX9_tithes_6 rfl (z_ki (fun r2 s1 => ?_))
  refine z_istore C (q := 11) [(4, .int r2), (0, .ref (ad 0)), (1, .int v1), (2, .int v2), (3, .int v3)] dX9_tithes_9 rfl (by decide) rfl ?_
  refine z_iload_n C (q := 12) 2 dX9_tithes_11 rfl rfl ?_
  refine z_callS C (q := 15) [.int v1] gl_X9_179 wm_538 (m_X9_isParish G (g_Kap C) v1 _) rfl rfl (Nat.le_of_ble_eq_true rfl) ⟨by decide, by decide⟩ dX9_tithes_12 rfl (z_ki (fun r4 s3 => ?_))
  refine z_if_eq C (tgt := 30) (q := 18) dX9_tithes_15 (by decide) rfl ?_ ?_
  · refine z_ldc C (q := 32) dX9_tithes_30 rfl wm_504 ?_
    exact z_iret C dX9_tithes_32
  refine z_aload_n C (q := 19) 1 dX9_tithes_18 rfl rfl ?_
  refine z_getR C (q := 22) ob_0 fF_X9_28 rfl dX9_tithes_19 rfl ?_
  refine z_iload C (q := 24) 0 dX9_tithes_22 rfl rfl ?_
  refine z_callV C (q := 27) [.int r2] gl_X9_158 glv_X3_has hLand_14.1 rfl (m_X3_has G (g_Kap C) 14 hLand_14 r2 _) rfl rfl (Nat.le_of_ble_eq_true rfl) ⟨by decide, by decide⟩ dX9_tithes_24 rfl (z_ki (fun r6 s5 => ?_))
  refine z_if_ne C (tgt := 33) (q := 30) dX9_tithes_27 (by decide) rfl ?_ ?_
  · refine z_aload_n C (q := 34) 1 dX9_tithes_33 rfl rfl ?_
    refine z_getR C (q := 37) ob_0 fF_X9_28 rfl dX9_tithes_34 rfl ?_
    refine z_iload_n C (q := 38) 2 dX9_tithes_37 rfl rfl ?_
    refine z_iload C (q := 40) 0 dX9_tithes_38 rfl rfl ?_
    refine z_aload_n C (q := 41) 1 dX9_tithes_40 rfl rfl ?_
    refine z_getR C (q := 44) ob_0 fF_X9_37 rfl dX9_tithes_41 rfl ?_
    refine z_getI C (q := 47) hPast_22.1 fF_X9_126 rfl dX9_tithes_44 rfl ?_
    refine z_callV C (q := 50) [.int v1, .int r2, .int (s5.1 22 9)] gl_X9_182 glv_X3_tithesOf hLand_14.1 rfl (m_X3_tithesOf G (g_Kap C) 14 hLand_14 v1 r2 (s5.1 22 9) _) rfl rfl (Nat.le_of_ble_eq_true rfl) ⟨by decide, by decide⟩ dX9_tithes_47 rfl (z_ki (fun r8 s7 => ?_))
    exact z_iret C dX9_tithes_50
  refine z_ldc C (q := 32) dX9_tithes_30 rfl wm_504 ?_
  exact z_iret C dX9_tithes_32
set_option maxRecDepth 100000 in
set_option maxHeartbeats 4000000 in
theorem l_X9_day_29 {G : gG} {X : gX} {ad : Nat → Nat} (C : g_K G X LC ad cX9_day 3 RX9 (some .int) 5)   (v1 : Int32) {k : Int32 → gS → gR} (hk : ∀ (v2 : Int32) (s : gS), g_Z G X LC ad 3 47 [(0, .ref (ad 0))] [] s (k v2 s)) : ∀ (n : Nat) (v2 : Int32) (s : gS), g_Z G X LC ad 3 29 [(0, .ref (ad 0)), (1, .int v1), (2, .int v2)] [] s (f_X9_day_29 v1 k n v2 s) := by
  intro n
  induction n with
  | zero => intros; exact z_none
  | succ n ih =>
    intro v2 s
    rw [f_X9_day_29.eq_2]
    refine z_iload_n C (q := 30) 2 dX9_day_29 rfl rfl ?_
    refine z_iload_n C (q := 31) 1 dX9_day_30 rfl rfl ?_
    refine z_icmp_ge C (tgt := 47) (q := 34) dX9_day_31 (by decide) rfl ?_ ?_
    · exact z_sub [0] rfl (hk v2 s)
    refine z_aload_n C (q := 35) 0 dX9_day_34 rfl rfl ?_
    refine z_getR C (q := 38) ob_0 fF_X9_37 rfl dX9_day_35 rfl ?_
    refine z_callV C (q := 41) [] gl_X9_190 glv_X4_passDay hPast_22.1 rfl (m_X4_passDay G (g_Kap C) 22 hPast_22 _) rfl rfl (Nat.le_of_ble_eq_true rfl) ⟨by decide, by decide⟩ dX9_day_38 rfl (z_kv (fun s1 => ?_))
    refine z_iinc C (q := 44) 2 [(2, .int (v2 + 1)), (0, .ref (ad 0)), (1, .int v1)] dX9_day_41 rfl rfl (lt_iinc_1 _) (by decide) rfl ?_
    refine z_goto C (tgt := 29) dX9_day_44 (by decide) ?_
    exact z_sub [1, 2, 0] rfl (ih (v2 + 1) s1)
set_option maxRecDepth 100000 in
set_option maxHeartbeats 4000000 in
theorem m_X9_day (G : gG) {ad : Nat → Nat} (hap : g_ap LC ad)   (v1 : Int32) (s : gS) : g_M G LC ad yX9_day cX9_day 3 (some .int) 5 [.ref (ad 0), .int v1] s (f_X9_day v1 s) := by
  refine g_entry (by decide) hap (Nat.le_of_ble_eq_true rfl) [(0, .ref (ad 0)), (1, .int v1)] rfl (fun X C => ?_)
  unfold f_X9_day
  refine z_iload_n C (q := 1) 1 dX9_day_0 rfl rfl ?_
  refine z_iconst C (q := 2) dX9_day_1 rfl lt_iconst_1 ?_
  refine z_icmp_lt C (tgt := 11) (q := 5) dX9_day_2 (by decide) rfl ?_ ?_
  · refine z_ldc C (q := 13) dX9_day_11 rfl wm_181 ?_
    exact z_iret C dX9_day_13
  refine z_iload_n C (q := 6) 1 dX9_day_5 rfl rfl ?_
  refine z_bipush C (q := 8) dX9_day_6 rfl lt_bipush_99 ?_
  refine z_icmp_le C (tgt := 14) (q := 11) dX9_day_8 (by decide) rfl ?_ ?_
  · refine z_aload_n C (q := 15) 0 dX9_day_14 rfl rfl ?_
    refine z_getR C (q := 18) ob_0 fF_X9_28 rfl dX9_day_15 rfl ?_
    refine z_getI C (q := 21) hLand_14.1 fF_X9_186 rfl dX9_day_18 rfl ?_
    refine z_if_ne C (tgt := 27) (q := 24) dX9_day_21 (by decide) rfl ?_ ?_
    · refine z_iconst C (q := 28) dX9_day_27 rfl lt_iconst_0 ?_
      refine z_istore_n C (q := 29) [(2, .int (0 : Int32)), (0, .ref (ad 0)), (1, .int v1)] dX9_day_28 rfl rfl (by decide) rfl ?_
      refine z_sub [1, 2, 0] rfl (l_X9_day_29 C v1 (fun v2_2 s3 => ?_) g_N (0 : Int32) s)
      refine z_aload_n C (q := 48) 0 dX9_day_47 rfl rfl ?_
      refine z_getR C (q := 51) ob_0 fF_X9_28 rfl dX9_day_48 rfl ?_
      refine z_aload_n C (q := 52) 0 dX9_day_51 rfl rfl ?_
      refine z_getR C (q := 55) ob_0 fF_X9_37 rfl dX9_day_52 rfl ?_
      refine z_getI C (q := 58) hPast_22.1 fF_X9_139 rfl dX9_day_55 rfl ?_
      refine z_callV C (q := 61) [.int (s3.1 22 4)] gl_X9_135 glv_X3_placeOf hLand_14.1 rfl (m_X3_placeOf G (g_Kap C) 14 hLand_14 (s3.1 22 4) _) rfl rfl (Nat.le_of_ble_eq_true rfl) ⟨by decide, by decide⟩ dX9_day_58 rfl (z_ki (fun r5 s4 => ?_))
      exact z_iret C dX9_day_61
    refine z_ldc C (q := 26) dX9_day_24 rfl wm_567 ?_
    exact z_iret C dX9_day_26
  refine z_ldc C (q := 13) dX9_day_11 rfl wm_181 ?_
  exact z_iret C dX9_day_13
set_option maxRecDepth 100000 in
set_option maxHeartbeats 4000000 in
theorem m_X9_law (G : gG) {ad : Nat → Nat} (hap : g_ap LC ad)   (v1 : Int32) (s : gS) : g_M G LC ad yX9_law cX9_law 3 (some .int) 0 [.ref (ad 0), .int v1] s (f_X9_law v1 s) := by
  refine g_entry (by decide) hap (Nat.le_of_ble_eq_true rfl) [(0, .ref (ad 0)), (1, .int v1)] rfl (fun X C => ?_)
  unfold f_X9_law
  refine z_iload_n C (q := 1) 1 dX9_law_0 rfl rfl ?_
  refine z_if_lt C (tgt := 9) (q := 4) dX9_law_1 (by decide) rfl ?_ ?_
  · refine z_ldc C (q := 11) dX9_law_9 rfl wm_181 ?_
    exact z_iret C dX9_law_11
  refine z_iload_n C (q := 5) 1 dX9_law_4 rfl rfl ?_
  refine z_iconst C (q := 6) dX9_law_5 rfl lt_iconst_2 ?_
  refine z_icmp_le C (tgt := 12) (q := 9) dX9_law_6 (by decide) rfl ?_ ?_
  · refine z_aload_n C (q := 13) 0 dX9_law_12 rfl rfl ?_
    refine z_getR C (q := 16) ob_0 fF_X9_37 rfl dX9_law_13 rfl ?_
    refine z_getI C (q := 19) hPast_22.1 fF_X9_126 rfl dX9_law_16 rfl ?_
    refine z_leti (fun v2_1 => ?_)
    refine z_istore_n C (q := 20) [(2, .int v2_1), (0, .ref (ad 0)), (1, .int v1)] dX9_law_19 rfl rfl (by decide) rfl ?_
    refine z_aload_n C (q := 21) 1 dX9_law_20 rfl rfl ?_
    refine z_getR C (q := 24) ob_0 fF_X9_37 rfl dX9_law_21 rfl ?_
    refine z_iload_n C (q := 25) 2 dX9_law_24 rfl rfl ?_
    refine z_putI C (q := 28) hPast_22.1 fP_X9_126 rfl dX9_law_25 rfl (fun s2 => ?_)
    refine z_iload_n C (q := 29) 0 dX9_law_28 rfl rfl ?_
    exact z_iret C dX9_law_29
  refine z_ldc C (q := 11) dX9_law_9 rfl wm_181 ?_
  exact z_iret C dX9_law_11
set_option maxRecDepth 100000 in
set_option maxHeartbeats 4000000 in
theorem m_X9_isClover (G : gG) {ad : Nat → Nat} (hap : g_ap LC ad)   (v0 : Int32) (s : gS) : g_M G LC ad yX9_isClover cX9_isClover 1 (some .boolean) 0 [.int v0] s (f_X9_isClover v0 s) := by
  refine g_entry (by decide) hap (Nat.le_of_ble_eq_true rfl) [(0, .int v0)] rfl (fun X C => ?_)
  unfold f_X9_isClover
  refine z_iload_n C (q := 1) 0 dX9_isClover_0 rfl rfl ?_
  refine z_iconst C (q := 2) dX9_isClover_1 rfl lt_iconst_1 ?_
  refine z_icmp_lt C (tgt := 15) (q := 5) dX9_isClover_2 (by decide) rfl ?_ ?_
  · refine z_iconst C (q := 16) dX9_isClover_15 rfl lt_iconst_0 ?_
    exact z_zretK C (by decide) dX9_isClover_16
  refine z_iload_n C (q := 6) 0 dX9_isClover_5 rfl rfl ?_
  refine z_bipush C (q := 8) dX9_isClover_6 rfl lt_bipush_9 ?_
  refine z_icmp_gt C (tgt := 15) (q := 11) dX9_isClover_8 (by decide) rfl ?_ ?_
  · refine z_iconst C (q := 16) dX9_isClover_15 rfl lt_iconst_0 ?_
    exact z_zretK C (by decide) dX9_isClover_16
  refine z_iconst C (q := 12) dX9_isClover_11 rfl lt_iconst_1 ?_
  refine z_goto C (tgt := 16) dX9_isClover_12 (by decide) ?_
  exact z_zretK C (by decide) dX9_isClover_16
set_option maxRecDepth 100000 in
set_option maxHeartbeats 4000000 in
theorem m_X9_sow (G : gG) {ad : Nat → Nat} (hap : g_ap LC ad)   (v1 : Int32) (v2 : Int32) (v3 : Int32) (s : gS) : g_M G LC ad yX9_sow cX9_sow 5 (some .int) 2 [.ref (ad 0), .int v1, .int v2, .int v3] s (f_X9_sow v1 v2 v3 s) := by
  refine g_entry (by decide) hap (Nat.le_of_ble_eq_true rfl) [(0, .ref (ad 0)), (1, .int v1), (2, .int v2), (3, .int v3)] rfl (fun X C => ?_)
  unfold f_X9_sow
  refine z_aload_n C (q := 1) 0 dX9_sow_0 rfl rfl ?_
  refine z_getR C (q := 4) ob_0 fF_X9_28 rfl dX9_sow_1 rfl ?_
  refine z_iload_n C (q := 5) 1 dX9_sow_4 rfl rfl ?_
  refine z_iload_n C (q := 6) 2 dX9_sow_5 rfl rfl ?_
  refine z_callV C (q := 9) [.int v1, .int v2] gl_X9_154 glv_X3_cellAt hLand_14.1 rfl (m_X3_cellAt G (g_Kap C) 14 hLand_14 v1 v2 _) rfl rfl (Nat.le_of_ble_eq_true rfl) ⟨by decide, by decide⟩ dX9_sow_6 rfl (z_ki (fun r2 s1 => ?_))
  refine z_istore C (q := 11) [(4, .int r2), (0, .ref (ad 0)), (1, .int v1), (2, .int v2), (3, .int v3)] dX9_sow_9 rfl (by decide) rfl ?_
  refine z_aload_n C (q := 12) 1 dX9_sow_11 rfl rfl ?_
  refine z_getR C (q := 15) ob_0 fF_X9_28 rfl dX9_sow_12 rfl ?_
  refine z_iload C (q := 17) 0 dX9_sow_15 rfl rfl ?_
  refine z_callV C (q := 20) [.int r2] gl_X9_158 glv_X3_has hLand_14.1 rfl (m_X3_has G (g_Kap C) 14 hLand_14 r2 _) rfl rfl (Nat.le_of_ble_eq_true rfl) ⟨by decide, by decide⟩ dX9_sow_17 rfl (z_ki (fun r4 s3 => ?_))
  refine z_if_ne C (tgt := 26) (q := 23) dX9_sow_20 (by decide) rfl ?_ ?_
  · refine z_iload_n C (q := 27) 4 dX9_sow_26 rfl rfl ?_
    refine z_callS C (q := 30) [.int v3] gl_X9_193 wm_640 (m_X9_isClover G (g_Kap C) v3 _) rfl rfl (Nat.le_of_ble_eq_true rfl) ⟨by decide, by decide⟩ dX9_sow_27 rfl (z_ki (fun r6 s5 => ?_))
    refine z_if_ne C (tgt := 36) (q := 33) dX9_sow_30 (by decide) rfl ?_ ?_
    · refine z_aload_n C (q := 37) 1 dX9_sow_36 rfl rfl ?_
      refine z_getR C (q := 40) ob_0 fF_X9_37 rfl dX9_sow_37 rfl ?_
      refine z_getR C (q := 43) hPast_22.1 fF_X9_163 rfl dX9_sow_40 rfl ?_
      refine z_iload C (q := 45) 0 dX9_sow_43 rfl rfl ?_
      refine z_aload_n C (q := 46) 1 dX9_sow_45 rfl rfl ?_
      refine z_getR C (q := 49) ob_0 fF_X9_37 rfl dX9_sow_46 rfl ?_
      refine z_getR C (q := 52) hPast_22.1 fF_X9_163 rfl dX9_sow_49 rfl ?_
      refine z_iload C (q := 54) 0 dX9_sow_52 rfl rfl ?_
      refine z_iald C (q := 55) hPast_22.2.1 dX9_sow_54 rfl ?_
      refine z_iload_n C (q := 56) 4 dX9_sow_55 rfl rfl ?_
      refine z_callS C (q := 59) [.int (s5.1 23 r2.toNatClampNeg), .int v3] gl_X9_196 wm_643 (m_X9_sown G (g_Kap C) (s5.1 23 r2.toNatClampNeg) v3 _) rfl rfl (Nat.le_of_ble_eq_true rfl) ⟨by decide, by decide⟩ dX9_sow_56 rfl (z_ki (fun r8 s7 => ?_))
      refine z_iast C (q := 60) hPast_22.2.1 dX9_sow_59 rfl (fun s9 => ?_)
      refine z_aload_n C (q := 61) 1 dX9_sow_60 rfl rfl ?_
      refine z_getR C (q := 64) ob_0 fF_X9_37 rfl dX9_sow_61 rfl ?_
      refine z_getR C (q := 67) hPast_22.1 fF_X9_167 rfl dX9_sow_64 rfl ?_
      refine z_iload C (q := 69) 0 dX9_sow_67 rfl rfl ?_
      refine z_aload_n C (q := 70) 1 dX9_sow_69 rfl rfl ?_
      refine z_getR C (q := 73) ob_0 fF_X9_37 rfl dX9_sow_70 rfl ?_
      refine z_getR C (q := 76) hPast_22.1 fF_X9_167 rfl dX9_sow_73 rfl ?_
      refine z_iload C (q := 78) 0 dX9_sow_76 rfl rfl ?_
      refine z_iald C (q := 79) hPast_22.2.2 dX9_sow_78 rfl ?_
      refine z_iload_n C (q := 80) 4 dX9_sow_79 rfl rfl ?_
      refine z_callS C (q := 83) [.int (s9.1 24 r2.toNatClampNeg), .int v3] gl_X9_196 wm_643 (m_X9_sown G (g_Kap C) (s9.1 24 r2.toNatClampNeg) v3 _) rfl rfl (Nat.le_of_ble_eq_true rfl) ⟨by decide, by decide⟩ dX9_sow_80 rfl (z_ki (fun r11 s10 => ?_))
      refine z_iast C (q := 84) hPast_22.2.2 dX9_sow_83 rfl (fun s12 => ?_)
      refine z_aload_n C (q := 85) 1 dX9_sow_84 rfl rfl ?_
      refine z_getR C (q := 88) ob_0 fF_X9_37 rfl dX9_sow_85 rfl ?_
      refine z_getR C (q := 91) hPast_22.1 fF_X9_163 rfl dX9_sow_88 rfl ?_
      refine z_iload C (q := 93) 0 dX9_sow_91 rfl rfl ?_
      refine z_iald C (q := 94) hPast_22.2.1 dX9_sow_93 rfl ?_
      exact z_iret C dX9_sow_94
    refine z_ldc C (q := 35) dX9_sow_33 rfl wm_181 ?_
    exact z_iret C dX9_sow_35
  refine z_ldc C (q := 25) dX9_sow_23 rfl wm_504 ?_
  exact z_iret C dX9_sow_25
set_option maxRecDepth 100000 in
set_option maxHeartbeats 4000000 in
theorem m_X9_lead (G : gG) {ad : Nat → Nat} (hap : g_ap LC ad)   (v1 : Int32) (v2 : Int32) (s : gS) : g_M G LC ad yX9_lead cX9_lead 5 (some .int) 2 [.ref (ad 0), .int v1, .int v2] s (f_X9_lead v1 v2 s) := by
  refine g_entry (by decide) hap (Nat.le_of_ble_eq_true rfl) [(0, .ref (ad 0)), (1, .int v1), (2, .int v2)] rfl (fun X C => ?_)
  unfold f_X9_lead
  refine z_aload_n C (q := 1) 0 dX9_lead_0 rfl rfl ?_
  refine z_getR C (q := 4) ob_0 fF_X9_28 rfl dX9_lead_1 rfl ?_
  refine z_iload_n C (q := 5) 1 dX9_lead_4 rfl rfl ?_
  refine z_iload_n C (q := 6) 2 dX9_lead_5 rfl rfl ?_
  refine z_callV C (q := 9) [.int v1, .int v2] gl_X9_154 glv_X3_cellAt hLand_14.1 rfl (m_X3_cellAt G (g_Kap C) 14 hLand_14 v1 v2 _) rfl rfl (Nat.le_of_ble_eq_true rfl) ⟨by decide, by decide⟩ dX9_lead_6 rfl (z_ki (fun r2 s1 => ?_))
  refine z_istore_n C (q := 10) [(3, .int r2), (0, .ref (ad 0)), (1, .int v1), (2, .int v2)] dX9_lead_9 rfl rfl (by decide) rfl ?_
  refine z_aload_n C (q := 11) 1 dX9_lead_10 rfl rfl ?_
  refine z_getR C (q := 14) ob_0 fF_X9_28 rfl dX9_lead_11 rfl ?_
  refine z_iload_n C (q := 15) 0 dX9_lead_14 rfl rfl ?_
  refine z_callV C (q := 18) [.int r2] gl_X9_158 glv_X3_has hLand_14.1 rfl (m_X3_has G (g_Kap C) 14 hLand_14 r2 _) rfl rfl (Nat.le_of_ble_eq_true rfl) ⟨by decide, by decide⟩ dX9_lead_15 rfl (z_ki (fun r4 s3 => ?_))
  refine z_if_ne C (tgt := 24) (q := 21) dX9_lead_18 (by decide) rfl ?_ ?_
  · refine z_aload_n C (q := 25) 1 dX9_lead_24 rfl rfl ?_
    refine z_getR C (q := 28) ob_0 fF_X9_28 rfl dX9_lead_25 rfl ?_
    refine z_aload_n C (q := 29) 1 dX9_lead_28 rfl rfl ?_
    refine z_getR C (q := 32) ob_0 fF_X9_37 rfl dX9_lead_29 rfl ?_
    refine z_getI C (q := 35) hPast_22.1 fF_X9_132 rfl dX9_lead_32 rfl ?_
    refine z_callV C (q := 38) [.int (s3.1 22 3)] gl_X9_135 glv_X3_placeOf hLand_14.1 rfl (m_X3_placeOf G (g_Kap C) 14 hLand_14 (s3.1 22 3) _) rfl rfl (Nat.le_of_ble_eq_true rfl) ⟨by decide, by decide⟩ dX9_lead_35 rfl (z_ki (fun r6 s5 => ?_))
    refine z_istore C (q := 40) [(4, .int r6), (3, .int r2), (0, .ref (ad 0)), (1, .int v1), (2, .int v2)] dX9_lead_38 rfl (by decide) rfl ?_
    refine z_aload_n C (q := 41) 2 dX9_lead_40 rfl rfl ?_
    refine z_getR C (q := 44) ob_0 fF_X9_37 rfl dX9_lead_41 rfl ?_
    refine z_iload_n C (q := 45) 1 dX9_lead_44 rfl rfl ?_
    refine z_putI C (q := 48) hPast_22.1 fP_X9_132 rfl dX9_lead_45 rfl (fun s7 => ?_)
    refine z_iload C (q := 50) 0 dX9_lead_48 rfl rfl ?_
    exact z_iret C dX9_lead_50
  refine z_ldc C (q := 23) dX9_lead_21 rfl wm_504 ?_
  exact z_iret C dX9_lead_23
set_option maxRecDepth 100000 in
set_option maxHeartbeats 4000000 in
theorem m_X9_lick (G : gG) {ad : Nat → Nat} (hap : g_ap LC ad)   (v1 : Int32) (v2 : Int32) (s : gS) : g_M G LC ad yX9_lick cX9_lick 5 (some .int) 2 [.ref (ad 0), .int v1, .int v2] s (f_X9_lick v1 v2 s) := by
  refine g_entry (by decide) hap (Nat.le_of_ble_eq_true rfl) [(0, .ref (ad 0)), (1, .int v1), (2, .int v2)] rfl (fun X C => ?_)
  unfold f_X9_lick
  refine z_aload_n C (q := 1) 0 dX9_lick_0 rfl rfl ?_
  refine z_getR C (q := 4) ob_0 fF_X9_28 rfl dX9_lick_1 rfl ?_
  refine z_iload_n C (q := 5) 1 dX9_lick_4 rfl rfl ?_
  refine z_iload_n C (q := 6) 2 dX9_lick_5 rfl rfl ?_
  refine z_callV C (q := 9) [.int v1, .int v2] gl_X9_154 glv_X3_cellAt hLand_14.1 rfl (m_X3_cellAt G (g_Kap C) 14 hLand_14 v1 v2 _) rfl rfl (Nat.le_of_ble_eq_true rfl) ⟨by decide, by decide⟩ dX9_lick_6 rfl (z_ki (fun r2 s1 => ?_))
  refine z_istore_n C (q := 10) [(3, .int r2), (0, .ref (ad 0)), (1, .int v1), (2, .int v2)] dX9_lick_9 rfl rfl (by decide) rfl ?_
  refine z_aload_n C (q := 11) 1 dX9_lick_10 rfl rfl ?_
  refine z_getR C (q := 14) ob_0 fF_X9_28 rfl dX9_lick_11 rfl ?_
  refine z_iload_n C (q := 15) 0 dX9_lick_14 rfl rfl ?_
  refine z_callV C (q := 18) [.int r2] gl_X9_158 glv_X3_has hLand_14.1 rfl (m_X3_has G (g_Kap C) 14 hLand_14 r2 _) rfl rfl (Nat.le_of_ble_eq_true rfl) ⟨by decide, by decide⟩ dX9_lick_15 rfl (z_ki (fun r4 s3 => ?_))
  refine z_if_ne C (tgt := 24) (q := 21) dX9_lick_18 (by decide) rfl ?_ ?_
  · refine z_aload_n C (q := 25) 1 dX9_lick_24 rfl rfl ?_
    refine z_getR C (q := 28) ob_0 fF_X9_28 rfl dX9_lick_25 rfl ?_
    refine z_aload_n C (q := 29) 1 dX9_lick_28 rfl rfl ?_
    refine z_getR C (q := 32) ob_0 fF_X9_37 rfl dX9_lick_29 rfl ?_
    refine z_getI C (q := 35) hPast_22.1 fF_X9_142 rfl dX9_lick_32 rfl ?_
    refine z_callV C (q := 38) [.int (s3.1 22 5)] gl_X9_135 glv_X3_placeOf hLand_14.1 rfl (m_X3_placeOf G (g_Kap C) 14 hLand_14 (s3.1 22 5) _) rfl rfl (Nat.le_of_ble_eq_true rfl) ⟨by decide, by decide⟩ dX9_lick_35 rfl (z_ki (fun r6 s5 => ?_))
    refine z_istore C (q := 40) [(4, .int r6), (3, .int r2), (0, .ref (ad 0)), (1, .int v1), (2, .int v2)] dX9_lick_38 rfl (by decide) rfl ?_
    refine z_aload_n C (q := 41) 2 dX9_lick_40 rfl rfl ?_
    refine z_getR C (q := 44) ob_0 fF_X9_37 rfl dX9_lick_41 rfl ?_
    refine z_iload_n C (q := 45) 1 dX9_lick_44 rfl rfl ?_
    refine z_putI C (q := 48) hPast_22.1 fP_X9_142 rfl dX9_lick_45 rfl (fun s7 => ?_)
    refine z_iload C (q := 50) 0 dX9_lick_48 rfl rfl ?_
    exact z_iret C dX9_lick_50
  refine z_ldc C (q := 23) dX9_lick_21 rfl wm_504 ?_
  exact z_iret C dX9_lick_23
set_option maxRecDepth 100000 in
set_option maxHeartbeats 4000000 in
theorem m_X9_isHourOn (G : gG) {ad : Nat → Nat} (hap : g_ap LC ad)   (v0 : Int32) (s : gS) : g_M G LC ad yX9_isHourOn cX9_isHourOn 1 (some .boolean) 0 [.int v0] s (f_X9_isHourOn v0 s) := by
  refine g_entry (by decide) hap (Nat.le_of_ble_eq_true rfl) [(0, .int v0)] rfl (fun X C => ?_)
  unfold f_X9_isHourOn
  refine z_iload_n C (q := 1) 0 dX9_isHourOn_0 rfl rfl ?_
  refine z_if_lt C (tgt := 14) (q := 4) dX9_isHourOn_1 (by decide) rfl ?_ ?_
  · refine z_iconst C (q := 15) dX9_isHourOn_14 rfl lt_iconst_0 ?_
    exact z_zretK C (by decide) dX9_isHourOn_15
  refine z_iload_n C (q := 5) 0 dX9_isHourOn_4 rfl rfl ?_
  refine z_bipush C (q := 7) dX9_isHourOn_5 rfl lt_bipush_12 ?_
  refine z_icmp_gt C (tgt := 14) (q := 10) dX9_isHourOn_7 (by decide) rfl ?_ ?_
  · refine z_iconst C (q := 15) dX9_isHourOn_14 rfl lt_iconst_0 ?_
    exact z_zretK C (by decide) dX9_isHourOn_15
  refine z_iconst C (q := 11) dX9_isHourOn_10 rfl lt_iconst_1 ?_
  refine z_goto C (tgt := 15) dX9_isHourOn_11 (by decide) ?_
  exact z_zretK C (by decide) dX9_isHourOn_15
set_option maxRecDepth 100000 in
set_option maxHeartbeats 4000000 in
theorem m_X9_odds (G : gG) {ad : Nat → Nat} (hap : g_ap LC ad)   (v1 : Int32) (v2 : Int32) (v3 : Int32) (s : gS) : g_M G LC ad yX9_odds cX9_odds 5 (some .int) 4 [.ref (ad 0), .int v1, .int v2, .int v3] s (f_X9_odds v1 v2 v3 s) := by
  refine g_entry (by decide) hap (Nat.le_of_ble_eq_true rfl) [(0, .ref (ad 0)), (1, .int v1), (2, .int v2), (3, .int v3)] rfl (fun X C => ?_)
  unfold f_X9_odds
  refine z_aload_n C (q := 1) 0 dX9_odds_0 rfl rfl ?_
  refine z_getR C (q := 4) ob_0 fF_X9_28 rfl dX9_odds_1 rfl ?_
  refine z_iload_n C (q := 5) 1 dX9_odds_4 rfl rfl ?_
  refine z_iload_n C (q := 6) 2 dX9_odds_5 rfl rfl ?_
  refine z_callV C (q := 9) [.int v1, .int v2] gl_X9_154 glv_X3_cellAt hLand_14.1 rfl (m_X3_cellAt G (g_Kap C) 14 hLand_14 v1 v2 _) rfl rfl (Nat.le_of_ble_eq_true rfl) ⟨by decide, by decide⟩ dX9_odds_6 rfl (z_ki (fun r2 s1 => ?_))
  refine z_istore C (q := 11) [(4, .int r2), (0, .ref (ad 0)), (1, .int v1), (2, .int v2), (3, .int v3)] dX9_odds_9 rfl (by decide) rfl ?_
  refine z_aload_n C (q := 12) 1 dX9_odds_11 rfl rfl ?_
  refine z_getR C (q := 15) ob_0 fF_X9_28 rfl dX9_odds_12 rfl ?_
  refine z_iload C (q := 17) 0 dX9_odds_15 rfl rfl ?_
  refine z_callV C (q := 20) [.int r2] gl_X9_158 glv_X3_has hLand_14.1 rfl (m_X3_has G (g_Kap C) 14 hLand_14 r2 _) rfl rfl (Nat.le_of_ble_eq_true rfl) ⟨by decide, by decide⟩ dX9_odds_17 rfl (z_ki (fun r4 s3 => ?_))
  refine z_if_ne C (tgt := 26) (q := 23) dX9_odds_20 (by decide) rfl ?_ ?_
  · refine z_iload_n C (q := 27) 4 dX9_odds_26 rfl rfl ?_
    refine z_callS C (q := 30) [.int v3] gl_X9_199 wm_677 (m_X9_isHourOn G (g_Kap C) v3 _) rfl rfl (Nat.le_of_ble_eq_true rfl) ⟨by decide, by decide⟩ dX9_odds_27 rfl (z_ki (fun r6 s5 => ?_))
    refine z_if_ne C (tgt := 36) (q := 33) dX9_odds_30 (by decide) rfl ?_ ?_
    · refine z_aload_n C (q := 37) 1 dX9_odds_36 rfl rfl ?_
      refine z_getR C (q := 40) ob_0 fF_X9_56 rfl dX9_odds_37 rfl ?_
      refine z_aload_n C (q := 41) 1 dX9_odds_40 rfl rfl ?_
      refine z_getR C (q := 44) ob_0 fF_X9_37 rfl dX9_odds_41 rfl ?_
      refine z_getI C (q := 47) hPast_22.1 fF_X9_142 rfl dX9_odds_44 rfl ?_
      refine z_callV C (q := 50) [.int (s5.1 22 5)] gl_X9_202 glv_X1_lookAround ob_33 rfl (m_X1_lookAround G (g_Kap C) (s5.1 22 5) _) rfl rfl (Nat.le_of_ble_eq_true rfl) ⟨by decide, by decide⟩ dX9_odds_47 rfl (z_kv (fun s7 => ?_))
      refine z_aload_n C (q := 51) 1 dX9_odds_50 rfl rfl ?_
      refine z_getR C (q := 54) ob_0 fF_X9_56 rfl dX9_odds_51 rfl ?_
      refine z_iload_n C (q := 55) 4 dX9_odds_54 rfl rfl ?_
      refine z_callV C (q := 58) [.int v3] gl_X9_205 glv_X1_run ob_33 rfl (m_X1_run G (g_Kap C) v3 _) rfl rfl (Nat.le_of_ble_eq_true rfl) ⟨by decide, by decide⟩ dX9_odds_55 rfl (z_kv (fun s8 => ?_))
      refine z_aload_n C (q := 59) 1 dX9_odds_58 rfl rfl ?_
      refine z_getR C (q := 62) ob_0 fF_X9_56 rfl dX9_odds_59 rfl ?_
      refine z_getR C (q := 65) ob_33 fF_X9_208 rfl dX9_odds_62 rfl ?_
      refine z_iload C (q := 67) 0 dX9_odds_65 rfl rfl ?_
      refine z_lald C (q := 68) ar_36 dX9_odds_67 rfl ?_
      refine z_l2i C (q := 69) dX9_odds_68 rfl ?_
      exact z_iret C dX9_odds_69
    refine z_ldc C (q := 35) dX9_odds_33 rfl wm_181 ?_
    exact z_iret C dX9_odds_35
  refine z_ldc C (q := 25) dX9_odds_23 rfl wm_504 ?_
  exact z_iret C dX9_odds_25
set_option maxRecDepth 100000 in
set_option maxHeartbeats 4000000 in
theorem m_X9_mean (G : gG) {ad : Nat → Nat} (hap : g_ap LC ad)   (v1 : Int32) (s : gS) : g_M G LC ad yX9_mean cX9_mean 2 (some .int) 5 [.ref (ad 0), .int v1] s (f_X9_mean v1 s) := by
  refine g_entry (by decide) hap (Nat.le_of_ble_eq_true rfl) [(0, .ref (ad 0)), (1, .int v1)] rfl (fun X C => ?_)
  unfold f_X9_mean
  refine z_iload_n C (q := 1) 1 dX9_mean_0 rfl rfl ?_
  refine z_callS C (q := 4) [.int v1] gl_X9_179 wm_538 (m_X9_isParish G (g_Kap C) v1 _) rfl rfl (Nat.le_of_ble_eq_true rfl) ⟨by decide, by decide⟩ dX9_mean_1 rfl (z_ki (fun r2 s1 => ?_))
  refine z_if_ne C (tgt := 10) (q := 7) dX9_mean_4 (by decide) rfl ?_ ?_
  · refine z_aload_n C (q := 11) 0 dX9_mean_10 rfl rfl ?_
    refine z_getR C (q := 14) ob_0 fF_X9_28 rfl dX9_mean_11 rfl ?_
    refine z_getI C (q := 17) hLand_14.1 fF_X9_186 rfl dX9_mean_14 rfl ?_
    refine z_if_ne C (tgt := 23) (q := 20) dX9_mean_17 (by decide) rfl ?_ ?_
    · refine z_aload_n C (q := 24) 0 dX9_mean_23 rfl rfl ?_
      refine z_getR C (q := 27) ob_0 fF_X9_65 rfl dX9_mean_24 rfl ?_
      refine z_callV C (q := 30) [] gl_X9_212 glv_X8_reckonBorders ob_38 rfl (m_X8_reckonBorders G (g_Kap C)  _) rfl rfl (Nat.le_of_ble_eq_true rfl) ⟨by decide, by decide⟩ dX9_mean_27 rfl (z_kv (fun s3 => ?_))
      refine z_aload_n C (q := 31) 0 dX9_mean_30 rfl rfl ?_
      refine z_getR C (q := 34) ob_0 fF_X9_65 rfl dX9_mean_31 rfl ?_
      refine z_iload_n C (q := 35) 1 dX9_mean_34 rfl rfl ?_
      refine z_aload_n C (q := 36) 0 dX9_mean_35 rfl rfl ?_
      refine z_getR C (q := 39) ob_0 fF_X9_37 rfl dX9_mean_36 rfl ?_
      refine z_getI C (q := 42) hPast_22.1 fF_X9_142 rfl dX9_mean_39 rfl ?_
      refine z_callV C (q := 45) [.int v1, .int (s3.1 22 5)] gl_X9_215 glv_X8_meanWithLick ob_38 rfl (m_X8_meanWithLick G (g_Kap C) v1 (s3.1 22 5) _) rfl rfl (Nat.le_of_ble_eq_true rfl) ⟨by decide, by decide⟩ dX9_mean_42 rfl (z_ki (fun r5 s4 => ?_))
      exact z_iret C dX9_mean_45
    refine z_ldc C (q := 22) dX9_mean_20 rfl wm_567 ?_
    exact z_iret C dX9_mean_22
  refine z_ldc C (q := 9) dX9_mean_7 rfl wm_504 ?_
  exact z_iret C dX9_mean_9
set_option maxRecDepth 100000 in
set_option maxHeartbeats 4000000 in
theorem m_X9_clover (G : gG) {ad : Nat → Nat} (hap : g_ap LC ad)   (v1 : Int32) (v2 : Int32) (v3 : Int32) (s : gS) : g_M G LC ad yX9_clover cX9_clover 5 (some .int) 5 [.ref (ad 0), .int v1, .int v2, .int v3] s (f_X9_clover v1 v2 v3 s) := by
  refine g_entry (by decide) hap (Nat.le_of_ble_eq_true rfl) [(0, .ref (ad 0)), (1, .int v1), (2, .int v2), (3, .int v3)] rfl (fun X C => ?_)
  unfold f_X9_clover
  refine z_iload_n C (q := 1) 1 dX9_clover_0 rfl rfl ?_
  refine z_callS C (q := 4) [.int v1] gl_X9_179 wm_538 (m_X9_isParish G (g_Kap C) v1 _) rfl rfl (Nat.le_of_ble_eq_true rfl) ⟨by decide, by decide⟩ dX9_clover_1 rfl (z_ki (fun r2 s1 => ?_))
  refine z_if_ne C (tgt := 10) (q := 7) dX9_clover_4 (by decide) rfl ?_ ?_
  · refine z_iload_n C (q := 11) 2 dX9_clover_10 rfl rfl ?_
    refine z_callS C (q := 14) [.int v2] gl_X9_193 wm_640 (m_X9_isClover G (g_Kap C) v2 _) rfl rfl (Nat.le_of_ble_eq_true rfl) ⟨by decide, by decide⟩ dX9_clover_11 rfl (z_ki (fun r4 s3 => ?_))
    refine z_if_eq C (tgt := 26) (q := 17) dX9_clover_14 (by decide) rfl ?_ ?_
    · refine z_ldc C (q := 28) dX9_clover_26 rfl wm_181 ?_
      exact z_iret C dX9_clover_28
    refine z_iload_n C (q := 18) 3 dX9_clover_17 rfl rfl ?_
    refine z_if_lt C (tgt := 26) (q := 21) dX9_clover_18 (by decide) rfl ?_ ?_
    · refine z_ldc C (q := 28) dX9_clover_26 rfl wm_181 ?_
      exact z_iret C dX9_clover_28
    refine z_iload_n C (q := 22) 3 dX9_clover_21 rfl rfl ?_
    refine z_iconst C (q := 23) dX9_clover_22 rfl lt_iconst_1 ?_
    refine z_icmp_le C (tgt := 29) (q := 26) dX9_clover_23 (by decide) rfl ?_ ?_
    · refine z_aload_n C (q := 30) 0 dX9_clover_29 rfl rfl ?_
      refine z_getR C (q := 33) ob_0 fF_X9_28 rfl dX9_clover_30 rfl ?_
      refine z_getI C (q := 36) hLand_14.1 fF_X9_186 rfl dX9_clover_33 rfl ?_
      refine z_if_ne C (tgt := 42) (q := 39) dX9_clover_36 (by decide) rfl ?_ ?_
      · refine z_aload_n C (q := 43) 0 dX9_clover_42 rfl rfl ?_
        refine z_getR C (q := 46) ob_0 fF_X9_65 rfl dX9_clover_43 rfl ?_
        refine z_callV C (q := 49) [] gl_X9_212 glv_X8_reckonBorders ob_38 rfl (m_X8_reckonBorders G (g_Kap C)  _) rfl rfl (Nat.le_of_ble_eq_true rfl) ⟨by decide, by decide⟩ dX9_clover_46 rfl (z_kv (fun s5 => ?_))
        refine z_aload_n C (q := 50) 0 dX9_clover_49 rfl rfl ?_
        refine z_getR C (q := 53) ob_0 fF_X9_65 rfl dX9_clover_50 rfl ?_
        refine z_iload_n C (q := 54) 1 dX9_clover_53 rfl rfl ?_
        refine z_iload_n C (q := 55) 2 dX9_clover_54 rfl rfl ?_
        refine z_iconst C (q := 56) dX9_clover_55 rfl lt_iconst_m1 ?_
        refine z_callV C (q := 59) [.int v1, .int v2, .int (-1 : Int32)] gl_X9_218 glv_X8_bestClover ob_38 rfl (m_X8_bestClover G (g_Kap C) v1 v2 (-1 : Int32) _) rfl rfl (Nat.le_of_ble_eq_true rfl) ⟨by decide, by decide⟩ dX9_clover_56 rfl (z_ki (fun r7 s6 => ?_))
        refine z_istore C (q := 61) [(4, .int r7), (0, .ref (ad 0)), (1, .int v1), (2, .int v2), (3, .int v3)] dX9_clover_59 rfl (by decide) rfl ?_
        refine z_iload_n C (q := 62) 4 dX9_clover_61 rfl rfl ?_
        refine z_if_ne C (tgt := 75) (q := 65) dX9_clover_62 (by decide) rfl ?_ ?_
        · refine z_aload_n C (q := 76) 1 dX9_clover_75 rfl rfl ?_
          refine z_getR C (q := 79) ob_0 fF_X9_65 rfl dX9_clover_76 rfl ?_
          refine z_getI C (q := 82) ob_38 fF_X9_221 rfl dX9_clover_79 rfl ?_
          refine z_aload_n C (q := 83) 1 dX9_clover_82 rfl rfl ?_
          refine z_getR C (q := 86) ob_0 fF_X9_65 rfl dX9_clover_83 rfl ?_
          refine z_iload_n C (q := 87) 2 dX9_clover_86 rfl rfl ?_
          refine z_aload_n C (q := 88) 1 dX9_clover_87 rfl rfl ?_
          refine z_getR C (q := 91) ob_0 fF_X9_37 rfl dX9_clover_88 rfl ?_
          refine z_getI C (q := 94) hPast_22.1 fF_X9_142 rfl dX9_clover_91 rfl ?_
          refine z_callV C (q := 97) [.int v1, .int (s6.1 22 5)] gl_X9_215 glv_X8_meanWithLick ob_38 rfl (m_X8_meanWithLick G (g_Kap C) v1 (s6.1 22 5) _) rfl rfl (Nat.le_of_ble_eq_true rfl) ⟨by decide, by decide⟩ dX9_clover_94 rfl (z_ki (fun r9 s8 => ?_))
          refine z_isub C (q := 98) dX9_clover_97 rfl ?_
          exact z_iret C dX9_clover_98
        refine z_aload_n C (q := 66) 1 dX9_clover_65 rfl rfl ?_
        refine z_getR C (q := 69) ob_0 fF_X9_28 rfl dX9_clover_66 rfl ?_
        refine z_iload C (q := 71) 0 dX9_clover_69 rfl rfl ?_
        refine z_callV C (q := 74) [.int r7] gl_X9_135 glv_X3_placeOf hLand_14.1 rfl (m_X3_placeOf G (g_Kap C) 14 hLand_14 r7 _) rfl rfl (Nat.le_of_ble_eq_true rfl) ⟨by decide, by decide⟩ dX9_clover_71 rfl (z_ki (fun r11 s10 => ?_))
        exact z_iret C dX9_clover_74
      refine z_ldc C (q := 41) dX9_clover_39 rfl wm_567 ?_
      exact z_iret C dX9_clover_41
    refine z_ldc C (q := 28) dX9_clover_26 rfl wm_181 ?_
    exact z_iret C dX9_clover_28
  refine z_ldc C (q := 9) dX9_clover_7 rfl wm_504 ?_
  exact z_iret C dX9_clover_9
set_option maxRecDepth 100000 in
set_option maxHeartbeats 4000000 in
theorem m_X9_rests (G : gG) {ad : Nat → Nat} (hap : g_ap LC ad)   (v1 : Int32) (v2 : Int32) (s : gS) : g_M G LC ad yX9_rests cX9_rests 4 (some .int) 6 [.ref (ad 0), .int v1, .int v2] s (f_X9_rests v1 v2 s) := by
  refine g_entry (by decide) hap (Nat.le_of_ble_eq_true rfl) [(0, .ref (ad 0)), (1, .int v1), (2, .int v2)] rfl (fun X C => ?_)
  unfold f_X9_rests
  refine z_iload_n C (q := 1) 1 dX9_rests_0 rfl rfl ?_
  refine z_iconst C (q := 2) dX9_rests_1 rfl lt_iconst_m1 ?_
  refine z_icmp_eq C (tgt := 15) (q := 5) dX9_rests_2 (by decide) rfl ?_ ?_
  · refine z_iload_n C (q := 16) 2 dX9_rests_15 rfl rfl ?_
    refine z_callS C (q := 19) [.int v2] gl_X9_193 wm_640 (m_X9_isClover G (g_Kap C) v2 _) rfl rfl (Nat.le_of_ble_eq_true rfl) ⟨by decide, by decide⟩ dX9_rests_16 rfl (z_ki (fun r2 s1 => ?_))
    refine z_if_ne C (tgt := 25) (q := 22) dX9_rests_19 (by decide) rfl ?_ ?_
    · refine z_aload_n C (q := 26) 0 dX9_rests_25 rfl rfl ?_
      refine z_getR C (q := 29) ob_0 fF_X9_28 rfl dX9_rests_26 rfl ?_
      refine z_getI C (q := 32) hLand_14.1 fF_X9_186 rfl dX9_rests_29 rfl ?_
      refine z_if_ne C (tgt := 38) (q := 35) dX9_rests_32 (by decide) rfl ?_ ?_
      · refine z_aload_n C (q := 39) 0 dX9_rests_38 rfl rfl ?_
        refine z_getR C (q := 42) ob_0 fF_X9_65 rfl dX9_rests_39 rfl ?_
        refine z_callV C (q := 45) [] gl_X9_212 glv_X8_reckonBorders ob_38 rfl (m_X8_reckonBorders G (g_Kap C)  _) rfl rfl (Nat.le_of_ble_eq_true rfl) ⟨by decide, by decide⟩ dX9_rests_42 rfl (z_kv (fun s3 => ?_))
        refine z_aload_n C (q := 46) 0 dX9_rests_45 rfl rfl ?_
        refine z_getR C (q := 49) ob_0 fF_X9_65 rfl dX9_rests_46 rfl ?_
        refine z_iload_n C (q := 50) 2 dX9_rests_49 rfl rfl ?_
        refine z_callV C (q := 53) [.int v2] gl_X9_224 glv_X8_roundsTillRest ob_38 rfl (m_X8_roundsTillRest G (g_Kap C) v2 _) rfl rfl (Nat.le_of_ble_eq_true rfl) ⟨by decide, by decide⟩ dX9_rests_50 rfl (z_ki (fun r5 s4 => ?_))
        refine z_istore_n C (q := 54) [(3, .int r5), (0, .ref (ad 0)), (1, .int v1), (2, .int v2)] dX9_rests_53 rfl rfl (by decide) rfl ?_
        refine z_iload_n C (q := 55) 2 dX9_rests_54 rfl rfl ?_
        refine z_iconst C (q := 56) dX9_rests_55 rfl lt_iconst_m1 ?_
        refine z_icmp_eq C (tgt := 64) (q := 59) dX9_rests_56 (by decide) rfl ?_ ?_
        · refine z_iload_n C (q := 65) 0 dX9_rests_64 rfl rfl ?_
          exact z_iret C dX9_rests_65
        refine z_iload_n C (q := 60) 0 dX9_rests_59 rfl rfl ?_
        refine z_iconst C (q := 61) dX9_rests_60 rfl lt_iconst_m1 ?_
        refine z_icmp_ne C (tgt := 66) (q := 64) dX9_rests_61 (by decide) rfl ?_ ?_
        · refine z_aload_n C (q := 67) 1 dX9_rests_66 rfl rfl ?_
          refine z_getR C (q := 70) ob_0 fF_X9_28 rfl dX9_rests_67 rfl ?_
          refine z_iload_n C (q := 71) 2 dX9_rests_70 rfl rfl ?_
          refine z_if_ne C (tgt := 84) (q := 74) dX9_rests_71 (by decide) rfl ?_ ?_
          · refine z_aload_n C (q := 85) 1 dX9_rests_84 rfl rfl ?_
            refine z_getR C (q := 88) ob_0 fF_X9_65 rfl dX9_rests_85 rfl ?_
            refine z_getI C (q := 91) ob_38 fF_X9_230 rfl dX9_rests_88 rfl ?_
            refine z_callV C (q := 94) [.int (s4.1 38 7)] gl_X9_135 glv_X3_placeOf hLand_14.1 rfl (m_X3_placeOf G (g_Kap C) 14 hLand_14 (s4.1 38 7) _) rfl rfl (Nat.le_of_ble_eq_true rfl) ⟨by decide, by decide⟩ dX9_rests_91 rfl (z_ki (fun r7 s6 => ?_))
            exact z_iret C dX9_rests_94
          refine z_aload_n C (q := 75) 1 dX9_rests_74 rfl rfl ?_
          refine z_getR C (q := 78) ob_0 fF_X9_65 rfl dX9_rests_75 rfl ?_
          refine z_getI C (q := 81) ob_38 fF_X9_227 rfl dX9_rests_78 rfl ?_
          refine z_goto C (tgt := 91) dX9_rests_81 (by decide) ?_
          refine z_callV C (q := 94) [.int (s4.1 38 6)] gl_X9_135 glv_X3_placeOf hLand_14.1 rfl (m_X3_placeOf G (g_Kap C) 14 hLand_14 (s4.1 38 6) _) rfl rfl (Nat.le_of_ble_eq_true rfl) ⟨by decide, by decide⟩ dX9_rests_91 rfl (z_ki (fun r9 s8 => ?_))
          exact z_iret C dX9_rests_94
        refine z_iload_n C (q := 65) 0 dX9_rests_64 rfl rfl ?_
        exact z_iret C dX9_rests_65
      refine z_ldc C (q := 37) dX9_rests_35 rfl wm_567 ?_
      exact z_iret C dX9_rests_37
    refine z_ldc C (q := 24) dX9_rests_22 rfl wm_181 ?_
    exact z_iret C dX9_rests_24
  refine z_iload_n C (q := 6) 1 dX9_rests_5 rfl rfl ?_
  refine z_callS C (q := 9) [.int v1] gl_X9_179 wm_538 (m_X9_isParish G (g_Kap C) v1 _) rfl rfl (Nat.le_of_ble_eq_true rfl) ⟨by decide, by decide⟩ dX9_rests_6 rfl (z_ki (fun r11 s10 => ?_))
  refine z_if_ne C (tgt := 15) (q := 12) dX9_rests_9 (by decide) rfl ?_ ?_
  · refine z_iload_n C (q := 16) 2 dX9_rests_15 rfl rfl ?_
    refine z_callS C (q := 19) [.int v2] gl_X9_193 wm_640 (m_X9_isClover G (g_Kap C) v2 _) rfl rfl (Nat.le_of_ble_eq_true rfl) ⟨by decide, by decide⟩ dX9_rests_16 rfl (z_ki (fun r13 s12 => ?_))
    refine z_if_ne C (tgt := 25) (q := 22) dX9_rests_19 (by decide) rfl ?_ ?_
    · refine z_aload_n C (q := 26) 0 dX9_rests_25 rfl rfl ?_
      refine z_getR C (q := 29) ob_0 fF_X9_28 rfl dX9_rests_26 rfl ?_
      refine z_getI C (q := 32) hLand_14.1 fF_X9_186 rfl dX9_rests_29 rfl ?_
      refine z_if_ne C (tgt := 38) (q := 35) dX9_rests_32 (by decide) rfl ?_ ?_
      · refine z_aload_n C (q := 39) 0 dX9_rests_38 rfl rfl ?_
        refine z_getR C (q := 42) ob_0 fF_X9_65 rfl dX9_rests_39 rfl ?_
        refine z_callV C (q := 45) [] gl_X9_212 glv_X8_reckonBorders ob_38 rfl (m_X8_reckonBorders G (g_Kap C)  _) rfl rfl (Nat.le_of_ble_eq_true rfl) ⟨by decide, by decide⟩ dX9_rests_42 rfl (z_kv (fun s14 => ?_))
        refine z_aload_n C (q := 46) 0 dX9_rests_45 rfl rfl ?_
        refine z_getR C (q := 49) ob_0 fF_X9_65 rfl dX9_rests_46 rfl ?_
        refine z_iload_n C (q := 50) 2 dX9_rests_49 rfl rfl ?_
        refine z_callV C (q := 53) [.int v2] gl_X9_224 glv_X8_roundsTillRest ob_38 rfl (m_X8_roundsTillRest G (g_Kap C) v2 _) rfl rfl (Nat.le_of_ble_eq_true rfl) ⟨by decide, by decide⟩ dX9_rests_50 rfl (z_ki (fun r16 s15 => ?_))
        refine z_istore_n C (q := 54) [(3, .int r16), (0, .ref (ad 0)), (1, .int v1), (2, .int v2)] dX9_rests_53 rfl rfl (by decide) rfl ?_
        refine z_iload_n C (q := 55) 2 dX9_rests_54 rfl rfl ?_
        refine z_iconst C (q := 56) dX9_rests_55 rfl lt_iconst_m1 ?_
        refine z_icmp_eq C (tgt := 64) (q := 59) dX9_rests_56 (by decide) rfl ?_ ?_
        · refine z_iload_n C (q := 65) 0 dX9_rests_64 rfl rfl ?_
          exact z_iret C dX9_rests_65
        refine z_iload_n C (q := 60) 0 dX9_rests_59 rfl rfl ?_
        refine z_iconst C (q := 61) dX9_rests_60 rfl lt_iconst_m1 ?_
        refine z_icmp_ne C (tgt := 66) (q := 64) dX9_rests_61 (by decide) rfl ?_ ?_
        · refine z_aload_n C (q := 67) 1 dX9_rests_66 rfl rfl ?_
          refine z_getR C (q := 70) ob_0 fF_X9_28 rfl dX9_rests_67 rfl ?_
          refine z_iload_n C (q := 71) 2 dX9_rests_70 rfl rfl ?_
          refine z_if_ne C (tgt := 84) (q := 74) dX9_rests_71 (by decide) rfl ?_ ?_
          · refine z_aload_n C (q := 85) 1 dX9_rests_84 rfl rfl ?_
            refine z_getR C (q := 88) ob_0 fF_X9_65 rfl dX9_rests_85 rfl ?_
            refine z_getI C (q := 91) ob_38 fF_X9_230 rfl dX9_rests_88 rfl ?_
            refine z_callV C (q := 94) [.int (s15.1 38 7)] gl_X9_135 glv_X3_placeOf hLand_14.1 rfl (m_X3_placeOf G (g_Kap C) 14 hLand_14 (s15.1 38 7) _) rfl rfl (Nat.le_of_ble_eq_true rfl) ⟨by decide, by decide⟩ dX9_rests_91 rfl (z_ki (fun r18 s17 => ?_))
            exact z_iret C dX9_rests_94
          refine z_aload_n C (q := 75) 1 dX9_rests_74 rfl rfl ?_
          refine z_getR C (q := 78) ob_0 fF_X9_65 rfl dX9_rests_75 rfl ?_
          refine z_getI C (q := 81) ob_38 fF_X9_227 rfl dX9_rests_78 rfl ?_
          refine z_goto C (tgt := 91) dX9_rests_81 (by decide) ?_
          refine z_callV C (q := 94) [.int (s15.1 38 6)] gl_X9_135 glv_X3_placeOf hLand_14.1 rfl (m_X3_placeOf G (g_Kap C) 14 hLand_14 (s15.1 38 6) _) rfl rfl (Nat.le_of_ble_eq_true rfl) ⟨by decide, by decide⟩ dX9_rests_91 rfl (z_ki (fun r20 s19 => ?_))
          exact z_iret C dX9_rests_94
        refine z_iload_n C (q := 65) 0 dX9_rests_64 rfl rfl ?_
        exact z_iret C dX9_rests_65
      refine z_ldc C (q := 37) dX9_rests_35 rfl wm_567 ?_
      exact z_iret C dX9_rests_37
    refine z_ldc C (q := 24) dX9_rests_22 rfl wm_181 ?_
    exact z_iret C dX9_rests_24
  refine z_ldc C (q := 14) dX9_rests_12 rfl wm_504 ?_
  exact z_iret C dX9_rests_14
set_option maxRecDepth 100000 in
set_option maxHeartbeats 4000000 in
theorem m_X9_worth (G : gG) {ad : Nat → Nat} (hap : g_ap LC ad)   (v1 : Int32) (v2 : Int32) (v3 : Int32) (s : gS) : g_M G LC ad yX9_worth cX9_worth 5 (some .int) 5 [.ref (ad 0), .int v1, .int v2, .int v3] s (f_X9_worth v1 v2 v3 s) := by
  refine g_entry (by decide) hap (Nat.le_of_ble_eq_true rfl) [(0, .ref (ad 0)), (1, .int v1), (2, .int v2), (3, .int v3)] rfl (fun X C => ?_)
  unfold f_X9_worth
  refine z_aload_n C (q := 1) 0 dX9_worth_0 rfl rfl ?_
  refine z_getR C (q := 4) ob_0 fF_X9_28 rfl dX9_worth_1 rfl ?_
  refine z_iload_n C (q := 5) 2 dX9_worth_4 rfl rfl ?_
  refine z_iload_n C (q := 6) 3 dX9_worth_5 rfl rfl ?_
  refine z_callV C (q := 9) [.int v2, .int v3] gl_X9_154 glv_X3_cellAt hLand_14.1 rfl (m_X3_cellAt G (g_Kap C) 14 hLand_14 v2 v3 _) rfl rfl (Nat.le_of_ble_eq_true rfl) ⟨by decide, by decide⟩ dX9_worth_6 rfl (z_ki (fun r2 s1 => ?_))
  refine z_istore C (q := 11) [(4, .int r2), (0, .ref (ad 0)), (1, .int v1), (2, .int v2), (3, .int v3)] dX9_worth_9 rfl (by decide) rfl ?_
  refine z_iload_n C (q := 12) 2 dX9_worth_11 rfl rfl ?_
  refine z_callS C (q := 15) [.int v1] gl_X9_179 wm_538 (m_X9_isParish G (g_Kap C) v1 _) rfl rfl (Nat.le_of_ble_eq_true rfl) ⟨by decide, by decide⟩ dX9_worth_12 rfl (z_ki (fun r4 s3 => ?_))
  refine z_if_eq C (tgt := 30) (q := 18) dX9_worth_15 (by decide) rfl ?_ ?_
  · refine z_ldc C (q := 32) dX9_worth_30 rfl wm_504 ?_
    exact z_iret C dX9_worth_32
  refine z_aload_n C (q := 19) 1 dX9_worth_18 rfl rfl ?_
  refine z_getR C (q := 22) ob_0 fF_X9_28 rfl dX9_worth_19 rfl ?_
  refine z_iload C (q := 24) 0 dX9_worth_22 rfl rfl ?_
  refine z_callV C (q := 27) [.int r2] gl_X9_158 glv_X3_has hLand_14.1 rfl (m_X3_has G (g_Kap C) 14 hLand_14 r2 _) rfl rfl (Nat.le_of_ble_eq_true rfl) ⟨by decide, by decide⟩ dX9_worth_24 rfl (z_ki (fun r6 s5 => ?_))
  refine z_if_ne C (tgt := 33) (q := 30) dX9_worth_27 (by decide) rfl ?_ ?_
  · refine z_aload_n C (q := 34) 1 dX9_worth_33 rfl rfl ?_
    refine z_getR C (q := 37) ob_0 fF_X9_65 rfl dX9_worth_34 rfl ?_
    refine z_callV C (q := 40) [] gl_X9_212 glv_X8_reckonBorders ob_38 rfl (m_X8_reckonBorders G (g_Kap C)  _) rfl rfl (Nat.le_of_ble_eq_true rfl) ⟨by decide, by decide⟩ dX9_worth_37 rfl (z_kv (fun s7 => ?_))
    refine z_aload_n C (q := 41) 1 dX9_worth_40 rfl rfl ?_
    refine z_getR C (q := 44) ob_0 fF_X9_65 rfl dX9_worth_41 rfl ?_
    refine z_iload_n C (q := 45) 2 dX9_worth_44 rfl rfl ?_
    refine z_iload C (q := 47) 0 dX9_worth_45 rfl rfl ?_
    refine z_callV C (q := 50) [.int v1, .int r2] gl_X9_215 glv_X8_meanWithLick ob_38 rfl (m_X8_meanWithLick G (g_Kap C) v1 r2 _) rfl rfl (Nat.le_of_ble_eq_true rfl) ⟨by decide, by decide⟩ dX9_worth_47 rfl (z_ki (fun r9 s8 => ?_))
    refine z_aload_n C (q := 51) 1 dX9_worth_50 rfl rfl ?_
    refine z_getR C (q := 54) ob_0 fF_X9_65 rfl dX9_worth_51 rfl ?_
    refine z_iload_n C (q := 55) 2 dX9_worth_54 rfl rfl ?_
    refine z_aload_n C (q := 56) 1 dX9_worth_55 rfl rfl ?_
    refine z_getR C (q := 59) ob_0 fF_X9_37 rfl dX9_worth_56 rfl ?_
    refine z_getI C (q := 62) hPast_22.1 fF_X9_142 rfl dX9_worth_59 rfl ?_
    refine z_callV C (q := 65) [.int v1, .int (s8.1 22 5)] gl_X9_215 glv_X8_meanWithLick ob_38 rfl (m_X8_meanWithLick G (g_Kap C) v1 (s8.1 22 5) _) rfl rfl (Nat.le_of_ble_eq_true rfl) ⟨by decide, by decide⟩ dX9_worth_62 rfl (z_ki (fun r11 s10 => ?_))
    refine z_isub C (q := 66) dX9_worth_65 rfl ?_
    exact z_iret C dX9_worth_66
  refine z_ldc C (q := 32) dX9_worth_30 rfl wm_504 ?_
  exact z_iret C dX9_worth_32
set_option maxRecDepth 100000 in
set_option maxHeartbeats 4000000 in
theorem m_X9_fairest (G : gG) {ad : Nat → Nat} (hap : g_ap LC ad)   (v1 : Int32) (s : gS) : g_M G LC ad yX9_fairest cX9_fairest 3 (some .int) 6 [.ref (ad 0), .int v1] s (f_X9_fairest v1 s) := by
  refine g_entry (by decide) hap (Nat.le_of_ble_eq_true rfl) [(0, .ref (ad 0)), (1, .int v1)] rfl (fun X C => ?_)
  unfold f_X9_fairest
  refine z_iload_n C (q := 1) 1 dX9_fairest_0 rfl rfl ?_
  refine z_if_lt C (tgt := 9) (q := 4) dX9_fairest_1 (by decide) rfl ?_ ?_
  · refine z_ldc C (q := 11) dX9_fairest_9 rfl wm_181 ?_
    exact z_iret C dX9_fairest_11
  refine z_iload_n C (q := 5) 1 dX9_fairest_4 rfl rfl ?_
  refine z_iconst C (q := 6) dX9_fairest_5 rfl lt_iconst_1 ?_
  refine z_icmp_le C (tgt := 12) (q := 9) dX9_fairest_6 (by decide) rfl ?_ ?_
  · refine z_aload_n C (q := 13) 0 dX9_fairest_12 rfl rfl ?_
    refine z_getR C (q := 16) ob_0 fF_X9_28 rfl dX9_fairest_13 rfl ?_
    refine z_getI C (q := 19) hLand_14.1 fF_X9_186 rfl dX9_fairest_16 rfl ?_
    refine z_if_ne C (tgt := 25) (q := 22) dX9_fairest_19 (by decide) rfl ?_ ?_
    · refine z_aload_n C (q := 26) 0 dX9_fairest_25 rfl rfl ?_
      refine z_getR C (q := 29) ob_0 fF_X9_65 rfl dX9_fairest_26 rfl ?_
      refine z_callV C (q := 32) [] gl_X9_212 glv_X8_reckonBorders ob_38 rfl (m_X8_reckonBorders G (g_Kap C)  _) rfl rfl (Nat.le_of_ble_eq_true rfl) ⟨by decide, by decide⟩ dX9_fairest_29 rfl (z_kv (fun s1 => ?_))
      refine z_aload_n C (q := 33) 0 dX9_fairest_32 rfl rfl ?_
      refine z_getR C (q := 36) ob_0 fF_X9_65 rfl dX9_fairest_33 rfl ?_
      refine z_callV C (q := 39) [] gl_X9_233 glv_X8_fairestCell ob_38 rfl (m_X8_fairestCell G (g_Kap C)  _) rfl rfl (Nat.le_of_ble_eq_true rfl) ⟨by decide, by decide⟩ dX9_fairest_36 rfl (z_ki (fun r3 s2 => ?_))
      refine z_istore_n C (q := 40) [(2, .int r3), (0, .ref (ad 0)), (1, .int v1)] dX9_fairest_39 rfl rfl (by decide) rfl ?_
      refine z_iload_n C (q := 41) 2 dX9_fairest_40 rfl rfl ?_
      refine z_if_ne C (tgt := 55) (q := 44) dX9_fairest_41 (by decide) rfl ?_ ?_
      · refine z_aload_n C (q := 56) 1 dX9_fairest_55 rfl rfl ?_
        refine z_getR C (q := 59) ob_0 fF_X9_65 rfl dX9_fairest_56 rfl ?_
        refine z_getI C (q := 62) ob_38 fF_X9_236 rfl dX9_fairest_59 rfl ?_
        exact z_iret C dX9_fairest_62
      refine z_aload_n C (q := 45) 1 dX9_fairest_44 rfl rfl ?_
      refine z_getR C (q := 48) ob_0 fF_X9_28 rfl dX9_fairest_45 rfl ?_
      refine z_iload_n C (q := 49) 0 dX9_fairest_48 rfl rfl ?_
      refine z_callV C (q := 52) [.int r3] gl_X9_135 glv_X3_placeOf hLand_14.1 rfl (m_X3_placeOf G (g_Kap C) 14 hLand_14 r3 _) rfl rfl (Nat.le_of_ble_eq_true rfl) ⟨by decide, by decide⟩ dX9_fairest_49 rfl (z_ki (fun r5 s4 => ?_))
      refine z_goto C (tgt := 62) dX9_fairest_52 (by decide) ?_
      exact z_iret C dX9_fairest_62
    refine z_ldc C (q := 24) dX9_fairest_22 rfl wm_567 ?_
    exact z_iret C dX9_fairest_24
  refine z_ldc C (q := 11) dX9_fairest_9 rfl wm_181 ?_
  exact z_iret C dX9_fairest_11
set_option maxRecDepth 100000 in
set_option maxHeartbeats 4000000 in
theorem m_X9_watch (G : gG) {ad : Nat → Nat} (hap : g_ap LC ad)   (v1 : Int32) (s : gS) : g_M G LC ad yX9_watch cX9_watch 2 (some .int) 4 [.ref (ad 0), .int v1] s (f_X9_watch v1 s) := by
  refine g_entry (by decide) hap (Nat.le_of_ble_eq_true rfl) [(0, .ref (ad 0)), (1, .int v1)] rfl (fun X C => ?_)
  unfold f_X9_watch
  refine z_iload_n C (q := 1) 1 dX9_watch_0 rfl rfl ?_
  refine z_if_lt C (tgt := 9) (q := 4) dX9_watch_1 (by decide) rfl ?_ ?_
  · refine z_ldc C (q := 11) dX9_watch_9 rfl wm_181 ?_
    exact z_iret C dX9_watch_11
  refine z_iload_n C (q := 5) 1 dX9_watch_4 rfl rfl ?_
  refine z_iconst C (q := 6) dX9_watch_5 rfl lt_iconst_2 ?_
  refine z_icmp_le C (tgt := 12) (q := 9) dX9_watch_6 (by decide) rfl ?_ ?_
  · refine z_aload_n C (q := 13) 0 dX9_watch_12 rfl rfl ?_
    refine z_getR C (q := 16) ob_0 fF_X9_28 rfl dX9_watch_13 rfl ?_
    refine z_getI C (q := 19) hLand_14.1 fF_X9_186 rfl dX9_watch_16 rfl ?_
    refine z_if_ne C (tgt := 25) (q := 22) dX9_watch_19 (by decide) rfl ?_ ?_
    · refine z_aload_n C (q := 26) 0 dX9_watch_25 rfl rfl ?_
      refine z_getR C (q := 29) ob_0 fF_X9_56 rfl dX9_watch_26 rfl ?_
      refine z_aload_n C (q := 30) 0 dX9_watch_29 rfl rfl ?_
      refine z_getR C (q := 33) ob_0 fF_X9_37 rfl dX9_watch_30 rfl ?_
      refine z_getI C (q := 36) hPast_22.1 fF_X9_142 rfl dX9_watch_33 rfl ?_
      refine z_callV C (q := 39) [.int (s.1 22 5)] gl_X9_202 glv_X1_lookAround ob_33 rfl (m_X1_lookAround G (g_Kap C) (s.1 22 5) _) rfl rfl (Nat.le_of_ble_eq_true rfl) ⟨by decide, by decide⟩ dX9_watch_36 rfl (z_kv (fun s1 => ?_))
      refine z_aload_n C (q := 40) 0 dX9_watch_39 rfl rfl ?_
      refine z_getR C (q := 43) ob_0 fF_X9_56 rfl dX9_watch_40 rfl ?_
      refine z_iload_n C (q := 44) 1 dX9_watch_43 rfl rfl ?_
      refine z_callV C (q := 47) [.int v1] gl_X9_239 glv_X1_bestWatched ob_33 rfl (m_X1_bestWatched G (g_Kap C) v1 _) rfl rfl (Nat.le_of_ble_eq_true rfl) ⟨by decide, by decide⟩ dX9_watch_44 rfl (z_ki (fun r3 s2 => ?_))
      exact z_iret C dX9_watch_47
    refine z_ldc C (q := 24) dX9_watch_22 rfl wm_567 ?_
    exact z_iret C dX9_watch_24
  refine z_ldc C (q := 11) dX9_watch_9 rfl wm_181 ?_
  exact z_iret C dX9_watch_11
set_option maxRecDepth 100000 in
set_option maxHeartbeats 4000000 in
theorem m_X9_see (G : gG) {ad : Nat → Nat} (hap : g_ap LC ad)   (v1 : Int32) (v2 : Int32) (v3 : Int32) (s : gS) : g_M G LC ad yX9_see cX9_see 5 (some .int) 1 [.ref (ad 0), .int v1, .int v2, .int v3] s (f_X9_see v1 v2 v3 s) := by
  refine g_entry (by decide) hap (Nat.le_of_ble_eq_true rfl) [(0, .ref (ad 0)), (1, .int v1), (2, .int v2), (3, .int v3)] rfl (fun X C => ?_)
  unfold f_X9_see
  refine z_aload_n C (q := 1) 0 dX9_see_0 rfl rfl ?_
  refine z_getR C (q := 4) ob_0 fF_X9_28 rfl dX9_see_1 rfl ?_
  refine z_iload_n C (q := 5) 1 dX9_see_4 rfl rfl ?_
  refine z_iload_n C (q := 6) 2 dX9_see_5 rfl rfl ?_
  refine z_callV C (q := 9) [.int v1, .int v2] gl_X9_154 glv_X3_cellAt hLand_14.1 rfl (m_X3_cellAt G (g_Kap C) 14 hLand_14 v1 v2 _) rfl rfl (Nat.le_of_ble_eq_true rfl) ⟨by decide, by decide⟩ dX9_see_6 rfl (z_ki (fun r2 s1 => ?_))
  refine z_istore C (q := 11) [(4, .int r2), (0, .ref (ad 0)), (1, .int v1), (2, .int v2), (3, .int v3)] dX9_see_9 rfl (by decide) rfl ?_
  refine z_aload_n C (q := 12) 1 dX9_see_11 rfl rfl ?_
  refine z_getR C (q := 15) ob_0 fF_X9_28 rfl dX9_see_12 rfl ?_
  refine z_iload C (q := 17) 0 dX9_see_15 rfl rfl ?_
  refine z_callV C (q := 20) [.int r2] gl_X9_158 glv_X3_has hLand_14.1 rfl (m_X3_has G (g_Kap C) 14 hLand_14 r2 _) rfl rfl (Nat.le_of_ble_eq_true rfl) ⟨by decide, by decide⟩ dX9_see_17 rfl (z_ki (fun r4 s3 => ?_))
  refine z_if_ne C (tgt := 26) (q := 23) dX9_see_20 (by decide) rfl ?_ ?_
  · refine z_iload_n C (q := 27) 4 dX9_see_26 rfl rfl ?_
    refine z_callS C (q := 30) [.int v3] gl_X9_199 wm_677 (m_X9_isHourOn G (g_Kap C) v3 _) rfl rfl (Nat.le_of_ble_eq_true rfl) ⟨by decide, by decide⟩ dX9_see_27 rfl (z_ki (fun r6 s5 => ?_))
    refine z_if_ne C (tgt := 36) (q := 33) dX9_see_30 (by decide) rfl ?_ ?_
    · refine z_aload_n C (q := 37) 1 dX9_see_36 rfl rfl ?_
      refine z_getR C (q := 40) ob_0 fF_X9_72 rfl dX9_see_37 rfl ?_
      refine z_getI C (q := 43) ob_41 fF_X9_113 rfl dX9_see_40 rfl ?_
      refine z_bipush C (q := 45) dX9_see_43 rfl lt_bipush_10 ?_
      refine z_icmp_lt C (tgt := 51) (q := 48) dX9_see_45 (by decide) rfl ?_ ?_
      · refine z_aload_n C (q := 52) 1 dX9_see_51 rfl rfl ?_
        refine z_getR C (q := 55) ob_0 fF_X9_72 rfl dX9_see_52 rfl ?_
        refine z_iload C (q := 57) 0 dX9_see_55 rfl rfl ?_
        refine z_iload_n C (q := 58) 4 dX9_see_57 rfl rfl ?_
        refine z_callV C (q := 61) [.int r2, .int v3] gl_X9_242 glv_X6_add ob_41 rfl (m_X6_add G (g_Kap C) r2 v3 _) rfl rfl (Nat.le_of_ble_eq_true rfl) ⟨by decide, by decide⟩ dX9_see_58 rfl (z_kv (fun s7 => ?_))
        refine z_aload_n C (q := 62) 1 dX9_see_61 rfl rfl ?_
        refine z_getR C (q := 65) ob_0 fF_X9_72 rfl dX9_see_62 rfl ?_
        refine z_getI C (q := 68) ob_41 fF_X9_113 rfl dX9_see_65 rfl ?_
        exact z_iret C dX9_see_68
      refine z_ldc C (q := 50) dX9_see_48 rfl wm_182 ?_
      exact z_iret C dX9_see_50
    refine z_ldc C (q := 35) dX9_see_33 rfl wm_181 ?_
    exact z_iret C dX9_see_35
  refine z_ldc C (q := 25) dX9_see_23 rfl wm_504 ?_
  exact z_iret C dX9_see_25
set_option maxRecDepth 100000 in
set_option maxHeartbeats 4000000 in
theorem m_X9_isSum (G : gG) {ad : Nat → Nat} (hap : g_ap LC ad)   (v0 : Int32) (s : gS) : g_M G LC ad yX9_isSum cX9_isSum 1 (some .boolean) 0 [.int v0] s (f_X9_isSum v0 s) := by
  refine g_entry (by decide) hap (Nat.le_of_ble_eq_true rfl) [(0, .int v0)] rfl (fun X C => ?_)
  unfold f_X9_isSum
  refine z_iload_n C (q := 1) 0 dX9_isSum_0 rfl rfl ?_
  refine z_if_lt C (tgt := 15) (q := 4) dX9_isSum_1 (by decide) rfl ?_ ?_
  · refine z_iconst C (q := 16) dX9_isSum_15 rfl lt_iconst_0 ?_
    exact z_zretK C (by decide) dX9_isSum_16
  refine z_iload_n C (q := 5) 0 dX9_isSum_4 rfl rfl ?_
  refine z_sipush C (q := 8) dX9_isSum_5 rfl lt_sipush_9999 ?_
  refine z_icmp_gt C (tgt := 15) (q := 11) dX9_isSum_8 (by decide) rfl ?_ ?_
  · refine z_iconst C (q := 16) dX9_isSum_15 rfl lt_iconst_0 ?_
    exact z_zretK C (by decide) dX9_isSum_16
  refine z_iconst C (q := 12) dX9_isSum_11 rfl lt_iconst_1 ?_
  refine z_goto C (tgt := 16) dX9_isSum_12 (by decide) ?_
  exact z_zretK C (by decide) dX9_isSum_16
set_option maxRecDepth 100000 in
set_option maxHeartbeats 4000000 in
theorem m_X9_lay (G : gG) {ad : Nat → Nat} (hap : g_ap LC ad)   (v1 : Int32) (v2 : Int32) (s : gS) : g_M G LC ad yX9_lay cX9_lay 3 (some .int) 5 [.ref (ad 0), .int v1, .int v2] s (f_X9_lay v1 v2 s) := by
  refine g_entry (by decide) hap (Nat.le_of_ble_eq_true rfl) [(0, .ref (ad 0)), (1, .int v1), (2, .int v2)] rfl (fun X C => ?_)
  unfold f_X9_lay
  refine z_iload_n C (q := 1) 1 dX9_lay_0 rfl rfl ?_
  refine z_iconst C (q := 2) dX9_lay_1 rfl lt_iconst_m1 ?_
  refine z_icmp_eq C (tgt := 15) (q := 5) dX9_lay_2 (by decide) rfl ?_ ?_
  · refine z_aload_n C (q := 16) 0 dX9_lay_15 rfl rfl ?_
    refine z_getR C (q := 19) ob_0 fF_X9_72 rfl dX9_lay_16 rfl ?_
    refine z_callV C (q := 22) [] gl_X9_248 glv_X6_followToNoon ob_41 rfl (m_X6_followToNoon G (g_Kap C)  _) rfl rfl (Nat.le_of_ble_eq_true rfl) ⟨by decide, by decide⟩ dX9_lay_19 rfl (z_kv (fun s1 => ?_))
    refine z_iload_n C (q := 23) 2 dX9_lay_22 rfl rfl ?_
    refine z_iconst C (q := 24) dX9_lay_23 rfl lt_iconst_m1 ?_
    refine z_icmp_ne C (tgt := 36) (q := 27) dX9_lay_24 (by decide) rfl ?_ ?_
    · refine z_aload_n C (q := 37) 0 dX9_lay_36 rfl rfl ?_
      refine z_getR C (q := 40) ob_0 fF_X9_28 rfl dX9_lay_37 rfl ?_
      refine z_aload_n C (q := 41) 0 dX9_lay_40 rfl rfl ?_
      refine z_getR C (q := 44) ob_0 fF_X9_72 rfl dX9_lay_41 rfl ?_
      refine z_iload_n C (q := 45) 1 dX9_lay_44 rfl rfl ?_
      refine z_iload_n C (q := 46) 2 dX9_lay_45 rfl rfl ?_
      refine z_callV C (q := 49) [.int v1, .int v2] gl_X9_254 glv_X6_fittingCell ob_41 rfl (m_X6_fittingCell G (g_Kap C) v1 v2 _) rfl rfl (Nat.le_of_ble_eq_true rfl) ⟨by decide, by decide⟩ dX9_lay_46 rfl (z_ki (fun r3 s2 => ?_))
      refine z_callV C (q := 52) [.int r3] gl_X9_135 glv_X3_placeOf hLand_14.1 rfl (m_X3_placeOf G (g_Kap C) 14 hLand_14 r3 _) rfl rfl (Nat.le_of_ble_eq_true rfl) ⟨by decide, by decide⟩ dX9_lay_49 rfl (z_ki (fun r5 s4 => ?_))
      exact z_iret C dX9_lay_52
    refine z_aload_n C (q := 28) 0 dX9_lay_27 rfl rfl ?_
    refine z_getR C (q := 31) ob_0 fF_X9_72 rfl dX9_lay_28 rfl ?_
    refine z_iload_n C (q := 32) 1 dX9_lay_31 rfl rfl ?_
    refine z_callV C (q := 35) [.int v1] gl_X9_251 glv_X6_countFitting ob_41 rfl (m_X6_countFitting G (g_Kap C) v1 _) rfl rfl (Nat.le_of_ble_eq_true rfl) ⟨by decide, by decide⟩ dX9_lay_32 rfl (z_ki (fun r7 s6 => ?_))
    exact z_iret C dX9_lay_35
  refine z_iload_n C (q := 6) 1 dX9_lay_5 rfl rfl ?_
  refine z_callS C (q := 9) [.int v1] gl_X9_245 wm_866 (m_X9_isSum G (g_Kap C) v1 _) rfl rfl (Nat.le_of_ble_eq_true rfl) ⟨by decide, by decide⟩ dX9_lay_6 rfl (z_ki (fun r9 s8 => ?_))
  refine z_if_ne C (tgt := 15) (q := 12) dX9_lay_9 (by decide) rfl ?_ ?_
  · refine z_aload_n C (q := 16) 0 dX9_lay_15 rfl rfl ?_
    refine z_getR C (q := 19) ob_0 fF_X9_72 rfl dX9_lay_16 rfl ?_
    refine z_callV C (q := 22) [] gl_X9_248 glv_X6_followToNoon ob_41 rfl (m_X6_followToNoon G (g_Kap C)  _) rfl rfl (Nat.le_of_ble_eq_true rfl) ⟨by decide, by decide⟩ dX9_lay_19 rfl (z_kv (fun s10 => ?_))
    refine z_iload_n C (q := 23) 2 dX9_lay_22 rfl rfl ?_
    refine z_iconst C (q := 24) dX9_lay_23 rfl lt_iconst_m1 ?_
    refine z_icmp_ne C (tgt := 36) (q := 27) dX9_lay_24 (by decide) rfl ?_ ?_
    · refine z_aload_n C (q := 37) 0 dX9_lay_36 rfl rfl ?_
      refine z_getR C (q := 40) ob_0 fF_X9_28 rfl dX9_lay_37 rfl ?_
      refine z_aload_n C (q := 41) 0 dX9_lay_40 rfl rfl ?_
      refine z_getR C (q := 44) ob_0 fF_X9_72 rfl dX9_lay_41 rfl ?_
      refine z_iload_n C (q := 45) 1 dX9_lay_44 rfl rfl ?_
      refine z_iload_n C (q := 46) 2 dX9_lay_45 rfl rfl ?_
      refine z_callV C (q := 49) [.int v1, .int v2] gl_X9_254 glv_X6_fittingCell ob_41 rfl (m_X6_fittingCell G (g_Kap C) v1 v2 _) rfl rfl (Nat.le_of_ble_eq_true rfl) ⟨by decide, by decide⟩ dX9_lay_46 rfl (z_ki (fun r12 s11 => ?_))
      refine z_callV C (q := 52) [.int r12] gl_X9_135 glv_X3_placeOf hLand_14.1 rfl (m_X3_placeOf G (g_Kap C) 14 hLand_14 r12 _) rfl rfl (Nat.le_of_ble_eq_true rfl) ⟨by decide, by decide⟩ dX9_lay_49 rfl (z_ki (fun r14 s13 => ?_))
      exact z_iret C dX9_lay_52
    refine z_aload_n C (q := 28) 0 dX9_lay_27 rfl rfl ?_
    refine z_getR C (q := 31) ob_0 fF_X9_72 rfl dX9_lay_28 rfl ?_
    refine z_iload_n C (q := 32) 1 dX9_lay_31 rfl rfl ?_
    refine z_callV C (q := 35) [.int v1] gl_X9_251 glv_X6_countFitting ob_41 rfl (m_X6_countFitting G (g_Kap C) v1 _) rfl rfl (Nat.le_of_ble_eq_true rfl) ⟨by decide, by decide⟩ dX9_lay_32 rfl (z_ki (fun r16 s15 => ?_))
    exact z_iret C dX9_lay_35
  refine z_ldc C (q := 14) dX9_lay_12 rfl wm_181 ?_
  exact z_iret C dX9_lay_14
set_option maxRecDepth 100000 in
set_option maxHeartbeats 4000000 in
theorem m_X9_write (G : gG) {ad : Nat → Nat} (hap : g_ap LC ad)   (v1 : Int32) (v2 : Int32) (v3 : Int32) (s : gS) : g_M G LC ad yX9_write cX9_write 5 (some .int) 1 [.ref (ad 0), .int v1, .int v2, .int v3] s (f_X9_write v1 v2 v3 s) := by
  refine g_entry (by decide) hap (Nat.le_of_ble_eq_true rfl) [(0, .ref (ad 0)), (1, .int v1), (2, .int v2), (3, .int v3)] rfl (fun X C => ?_)
  unfold f_X9_write
  refine z_aload_n C (q := 1) 0 dX9_write_0 rfl rfl ?_
  refine z_getR C (q := 4) ob_0 fF_X9_28 rfl dX9_write_1 rfl ?_
  refine z_iload_n C (q := 5) 1 dX9_write_4 rfl rfl ?_
  refine z_iload_n C (q := 6) 2 dX9_write_5 rfl rfl ?_
  refine z_callV C (q := 9) [.int v1, .int v2] gl_X9_154 glv_X3_cellAt hLand_14.1 rfl (m_X3_cellAt G (g_Kap C) 14 hLand_14 v1 v2 _) rfl rfl (Nat.le_of_ble_eq_true rfl) ⟨by decide, by decide⟩ dX9_write_6 rfl (z_ki (fun r2 s1 => ?_))
  refine z_istore C (q := 11) [(4, .int r2), (0, .ref (ad 0)), (1, .int v1), (2, .int v2), (3, .int v3)] dX9_write_9 rfl (by decide) rfl ?_
  refine z_aload_n C (q := 12) 1 dX9_write_11 rfl rfl ?_
  refine z_getR C (q := 15) ob_0 fF_X9_28 rfl dX9_write_12 rfl ?_
  refine z_iload C (q := 17) 0 dX9_write_15 rfl rfl ?_
  refine z_callV C (q := 20) [.int r2] gl_X9_158 glv_X3_has hLand_14.1 rfl (m_X3_has G (g_Kap C) 14 hLand_14 r2 _) rfl rfl (Nat.le_of_ble_eq_true rfl) ⟨by decide, by decide⟩ dX9_write_17 rfl (z_ki (fun r4 s3 => ?_))
  refine z_if_ne C (tgt := 26) (q := 23) dX9_write_20 (by decide) rfl ?_ ?_
  · refine z_iload_n C (q := 27) 4 dX9_write_26 rfl rfl ?_
    refine z_callS C (q := 30) [.int v3] gl_X9_245 wm_866 (m_X9_isSum G (g_Kap C) v3 _) rfl rfl (Nat.le_of_ble_eq_true rfl) ⟨by decide, by decide⟩ dX9_write_27 rfl (z_ki (fun r6 s5 => ?_))
    refine z_if_ne C (tgt := 36) (q := 33) dX9_write_30 (by decide) rfl ?_ ?_
    · refine z_aload_n C (q := 37) 1 dX9_write_36 rfl rfl ?_
      refine z_getR C (q := 40) ob_0 fF_X9_79 rfl dX9_write_37 rfl ?_
      refine z_getI C (q := 43) ob_46 fF_X9_116 rfl dX9_write_40 rfl ?_
      refine z_bipush C (q := 45) dX9_write_43 rfl lt_bipush_30 ?_
      refine z_icmp_lt C (tgt := 51) (q := 48) dX9_write_45 (by decide) rfl ?_ ?_
      · refine z_aload_n C (q := 52) 1 dX9_write_51 rfl rfl ?_
        refine z_getR C (q := 55) ob_0 fF_X9_79 rfl dX9_write_52 rfl ?_
        refine z_iload C (q := 57) 0 dX9_write_55 rfl rfl ?_
        refine z_iload_n C (q := 58) 4 dX9_write_57 rfl rfl ?_
        refine z_callV C (q := 61) [.int r2, .int v3] gl_X9_257 glv_X0_add ob_46 rfl (m_X0_add G (g_Kap C) r2 v3 _) rfl rfl (Nat.le_of_ble_eq_true rfl) ⟨by decide, by decide⟩ dX9_write_58 rfl (z_kv (fun s7 => ?_))
        refine z_aload_n C (q := 62) 1 dX9_write_61 rfl rfl ?_
        refine z_getR C (q := 65) ob_0 fF_X9_79 rfl dX9_write_62 rfl ?_
        refine z_getI C (q := 68) ob_46 fF_X9_116 rfl dX9_write_65 rfl ?_
        exact z_iret C dX9_write_68
      refine z_ldc C (q := 50) dX9_write_48 rfl wm_182 ?_
      exact z_iret C dX9_write_50
    refine z_ldc C (q := 35) dX9_write_33 rfl wm_181 ?_
    exact z_iret C dX9_write_35
  refine z_ldc C (q := 25) dX9_write_23 rfl wm_504 ?_
  exact z_iret C dX9_write_25
set_option maxRecDepth 100000 in
set_option maxHeartbeats 4000000 in
theorem m_X9_tear (G : gG) {ad : Nat → Nat} (hap : g_ap LC ad)    (s : gS) : g_M G LC ad yX9_tear cX9_tear 2 (some .int) 0 [.ref (ad 0)] s (f_X9_tear s) := by
  refine g_entry (by decide) hap (Nat.le_of_ble_eq_true rfl) [(0, .ref (ad 0))] rfl (fun X C => ?_)
  unfold f_X9_tear
  refine z_aload_n C (q := 1) 0 dX9_tear_0 rfl rfl ?_
  refine z_getR C (q := 4) ob_0 fF_X9_79 rfl dX9_tear_1 rfl ?_
  refine z_getI C (q := 7) ob_46 fF_X9_116 rfl dX9_tear_4 rfl ?_
  refine z_aload_n C (q := 8) 0 dX9_tear_7 rfl rfl ?_
  refine z_getR C (q := 11) ob_0 fF_X9_72 rfl dX9_tear_8 rfl ?_
  refine z_getI C (q := 14) ob_41 fF_X9_113 rfl dX9_tear_11 rfl ?_
  refine z_iadd C (q := 15) dX9_tear_14 rfl ?_
  refine z_leti (fun v1_1 => ?_)
  refine z_istore_n C (q := 16) [(1, .int v1_1), (0, .ref (ad 0))] dX9_tear_15 rfl rfl (by decide) rfl ?_
  refine z_aload_n C (q := 17) 1 dX9_tear_16 rfl rfl ?_
  refine z_getR C (q := 20) ob_0 fF_X9_79 rfl dX9_tear_17 rfl ?_
  refine z_iconst C (q := 21) dX9_tear_20 rfl lt_iconst_0 ?_
  refine z_putI C (q := 24) ob_46 fP_X9_116 rfl dX9_tear_21 rfl (fun s2 => ?_)
  refine z_aload_n C (q := 25) 1 dX9_tear_24 rfl rfl ?_
  refine z_getR C (q := 28) ob_0 fF_X9_72 rfl dX9_tear_25 rfl ?_
  refine z_iconst C (q := 29) dX9_tear_28 rfl lt_iconst_0 ?_
  refine z_putI C (q := 32) ob_41 fP_X9_113 rfl dX9_tear_29 rfl (fun s3 => ?_)
  refine z_iload_n C (q := 33) 0 dX9_tear_32 rfl rfl ?_
  exact z_iret C dX9_tear_33
set_option maxRecDepth 100000 in
set_option maxHeartbeats 4000000 in
theorem m_X9_judge (G : gG) {ad : Nat → Nat} (hap : g_ap LC ad)    (s : gS) : g_M G LC ad yX9_judge cX9_judge 1 (some .int) 4 [.ref (ad 0)] s (f_X9_judge s) := by
  refine g_entry (by decide) hap (Nat.le_of_ble_eq_true rfl) [(0, .ref (ad 0))] rfl (fun X C => ?_)
  unfold f_X9_judge
  refine z_aload_n C (q := 1) 0 dX9_judge_0 rfl rfl ?_
  refine z_getR C (q := 4) ob_0 fF_X9_79 rfl dX9_judge_1 rfl ?_
  refine z_aload_n C (q := 5) 0 dX9_judge_4 rfl rfl ?_
  refine z_getR C (q := 8) ob_0 fF_X9_37 rfl dX9_judge_5 rfl ?_
  refine z_getI C (q := 11) hPast_22.1 fF_X9_126 rfl dX9_judge_8 rfl ?_
  refine z_callV C (q := 14) [.int (s.1 22 9)] gl_X9_258 glv_X0_firstWrong ob_46 rfl (m_X0_firstWrong G (g_Kap C) (s.1 22 9) _) rfl rfl (Nat.le_of_ble_eq_true rfl) ⟨by decide, by decide⟩ dX9_judge_11 rfl (z_ki (fun r2 s1 => ?_))
  exact z_iret C dX9_judge_14
set_option maxRecDepth 100000 in
set_option maxHeartbeats 4000000 in
theorem m_X9_seed (G : gG) {ad : Nat → Nat} (hap : g_ap LC ad)   (v1 : Int32) (s : gS) : g_M G LC ad yX9_seed cX9_seed 3 (some .int) 0 [.ref (ad 0), .int v1] s (f_X9_seed v1 s) := by
  refine g_entry (by decide) hap (Nat.le_of_ble_eq_true rfl) [(0, .ref (ad 0)), (1, .int v1)] rfl (fun X C => ?_)
  unfold f_X9_seed
  refine z_iload_n C (q := 1) 1 dX9_seed_0 rfl rfl ?_
  refine z_if_ge C (tgt := 7) (q := 4) dX9_seed_1 (by decide) rfl ?_ ?_
  · refine z_aload_n C (q := 8) 0 dX9_seed_7 rfl rfl ?_
    refine z_getR C (q := 11) ob_0 fF_X9_37 rfl dX9_seed_8 rfl ?_
    refine z_getI C (q := 14) hPast_22.1 fF_X9_261 rfl dX9_seed_11 rfl ?_
    refine z_leti (fun v2_1 => ?_)
    refine z_istore_n C (q := 15) [(2, .int v2_1), (0, .ref (ad 0)), (1, .int v1)] dX9_seed_14 rfl rfl (by decide) rfl ?_
    refine z_aload_n C (q := 16) 1 dX9_seed_15 rfl rfl ?_
    refine z_getR C (q := 19) ob_0 fF_X9_37 rfl dX9_seed_16 rfl ?_
    refine z_iload_n C (q := 20) 2 dX9_seed_19 rfl rfl ?_
    refine z_putI C (q := 23) hPast_22.1 fP_X9_261 rfl dX9_seed_20 rfl (fun s2 => ?_)
    refine z_iload_n C (q := 24) 0 dX9_seed_23 rfl rfl ?_
    exact z_iret C dX9_seed_24
  refine z_ldc C (q := 6) dX9_seed_4 rfl wm_181 ?_
  exact z_iret C dX9_seed_6
set_option maxRecDepth 100000 in
set_option maxHeartbeats 4000000 in
theorem m_X9_isImage (G : gG) {ad : Nat → Nat} (hap : g_ap LC ad)   (v0 : Int32) (s : gS) : g_M G LC ad yX9_isImage cX9_isImage 1 (some .boolean) 0 [.int v0] s (f_X9_isImage v0 s) := by
  refine g_entry (by decide) hap (Nat.le_of_ble_eq_true rfl) [(0, .int v0)] rfl (fun X C => ?_)
  unfold f_X9_isImage
  refine z_iload_n C (q := 1) 0 dX9_isImage_0 rfl rfl ?_
  refine z_if_eq C (tgt := 9) (q := 4) dX9_isImage_1 (by decide) rfl ?_ ?_
  · refine z_iconst C (q := 10) dX9_isImage_9 rfl lt_iconst_1 ?_
    refine z_goto C (tgt := 14) dX9_isImage_10 (by decide) ?_
    exact z_zretK C (by decide) dX9_isImage_14
  refine z_iload_n C (q := 5) 0 dX9_isImage_4 rfl rfl ?_
  refine z_iconst C (q := 6) dX9_isImage_5 rfl lt_iconst_1 ?_
  refine z_icmp_ne C (tgt := 13) (q := 9) dX9_isImage_6 (by decide) rfl ?_ ?_
  · refine z_iconst C (q := 14) dX9_isImage_13 rfl lt_iconst_0 ?_
    exact z_zretK C (by decide) dX9_isImage_14
  refine z_iconst C (q := 10) dX9_isImage_9 rfl lt_iconst_1 ?_
  refine z_goto C (tgt := 14) dX9_isImage_10 (by decide) ?_
  exact z_zretK C (by decide) dX9_isImage_14
set_option maxRecDepth 100000 in
set_option maxHeartbeats 4000000 in
theorem m_X9_keep (G : gG) {ad : Nat → Nat} (hap : g_ap LC ad)   (v1 : Int32) (s : gS) : g_M G LC ad yX9_keep cX9_keep 3 (some .int) 1 [.ref (ad 0), .int v1] s (f_X9_keep v1 s) := by
  refine g_entry (by decide) hap (Nat.le_of_ble_eq_true rfl) [(0, .ref (ad 0)), (1, .int v1)] rfl (fun X C => ?_)
  unfold f_X9_keep
  refine z_iload_n C (q := 1) 1 dX9_keep_0 rfl rfl ?_
  refine z_callS C (q := 4) [.int v1] gl_X9_264 wm_959 (m_X9_isImage G (g_Kap C) v1 _) rfl rfl (Nat.le_of_ble_eq_true rfl) ⟨by decide, by decide⟩ dX9_keep_1 rfl (z_ki (fun r2 s1 => ?_))
  refine z_if_ne C (tgt := 10) (q := 7) dX9_keep_4 (by decide) rfl ?_ ?_
  · refine z_iload_n C (q := 11) 1 dX9_keep_10 rfl rfl ?_
    refine z_if_ne C (tgt := 21) (q := 14) dX9_keep_11 (by decide) rfl ?_ ?_
    · refine z_aload_n C (q := 22) 0 dX9_keep_21 rfl rfl ?_
      refine z_getR C (q := 25) ob_0 fF_X9_48 rfl dX9_keep_22 rfl ?_
      refine z_astore_n C (q := 26) [(2, .ref (ad 29)), (0, .ref (ad 0)), (1, .int v1)] dX9_keep_25 rfl rfl (by decide) rfl ?_
      refine z_aload_n C (q := 27) 0 dX9_keep_26 rfl rfl ?_
      refine z_getR C (q := 30) hImg_29.1 fF_X9_267 rfl dX9_keep_27 rfl ?_
      refine z_aload_n C (q := 31) 1 dX9_keep_30 rfl rfl ?_
      refine z_getR C (q := 34) ob_0 fF_X9_37 rfl dX9_keep_31 rfl ?_
      refine z_callV C (q := 37) [.ref (ad 22)] gl_X9_270 glv_X4_takeFrom hPast_30.1 rfl (m_X4_takeFrom G (g_Kap C) 30 22 hPast_30 hPast_22 _) rfl rfl (Nat.le_of_ble_eq_true rfl) ⟨by decide, by decide⟩ dX9_keep_34 rfl (z_kv (fun s3 => ?_))
      refine z_aload_n C (q := 38) 0 dX9_keep_37 rfl rfl ?_
      refine z_iconst C (q := 39) dX9_keep_38 rfl lt_iconst_1 ?_
      refine z_putZK C (q := 42) (by decide) hImg_29.1 fP_X9_109 rfl dX9_keep_39 rfl (fun s4 => ?_)
      refine z_iconst C (q := 43) dX9_keep_42 rfl lt_iconst_1 ?_
      exact z_iret C dX9_keep_43
    refine z_aload_n C (q := 15) 0 dX9_keep_14 rfl rfl ?_
    refine z_getR C (q := 18) ob_0 fF_X9_44 rfl dX9_keep_15 rfl ?_
    refine z_goto C (tgt := 25) dX9_keep_18 (by decide) ?_
    refine z_astore_n C (q := 26) [(2, .ref (ad 25)), (0, .ref (ad 0)), (1, .int v1)] dX9_keep_25 rfl rfl (by decide) rfl ?_
    refine z_aload_n C (q := 27) 0 dX9_keep_26 rfl rfl ?_
    refine z_getR C (q := 30) hImg_25.1 fF_X9_267 rfl dX9_keep_27 rfl ?_
    refine z_aload_n C (q := 31) 1 dX9_keep_30 rfl rfl ?_
    refine z_getR C (q := 34) ob_0 fF_X9_37 rfl dX9_keep_31 rfl ?_
    refine z_callV C (q := 37) [.ref (ad 22)] gl_X9_270 glv_X4_takeFrom hPast_26.1 rfl (m_X4_takeFrom G (g_Kap C) 26 22 hPast_26 hPast_22 _) rfl rfl (Nat.le_of_ble_eq_true rfl) ⟨by decide, by decide⟩ dX9_keep_34 rfl (z_kv (fun s5 => ?_))
    refine z_aload_n C (q := 38) 0 dX9_keep_37 rfl rfl ?_
    refine z_iconst C (q := 39) dX9_keep_38 rfl lt_iconst_1 ?_
    refine z_putZK C (q := 42) (by decide) hImg_25.1 fP_X9_109 rfl dX9_keep_39 rfl (fun s6 => ?_)
    refine z_iconst C (q := 43) dX9_keep_42 rfl lt_iconst_1 ?_
    exact z_iret C dX9_keep_43
  refine z_ldc C (q := 9) dX9_keep_7 rfl wm_504 ?_
  exact z_iret C dX9_keep_9
set_option maxRecDepth 100000 in
set_option maxHeartbeats 4000000 in
theorem m_X9_goBack (G : gG) {ad : Nat → Nat} (hap : g_ap LC ad)   (v1 : Int32) (s : gS) : g_M G LC ad yX9_goBack cX9_goBack 3 (some .int) 1 [.ref (ad 0), .int v1] s (f_X9_goBack v1 s) := by
  refine g_entry (by decide) hap (Nat.le_of_ble_eq_true rfl) [(0, .ref (ad 0)), (1, .int v1)] rfl (fun X C => ?_)
  unfold f_X9_goBack
  refine z_iload_n C (q := 1) 1 dX9_goBack_0 rfl rfl ?_
  refine z_callS C (q := 4) [.int v1] gl_X9_264 wm_959 (m_X9_isImage G (g_Kap C) v1 _) rfl rfl (Nat.le_of_ble_eq_true rfl) ⟨by decide, by decide⟩ dX9_goBack_1 rfl (z_ki (fun r2 s1 => ?_))
  refine z_if_ne C (tgt := 10) (q := 7) dX9_goBack_4 (by decide) rfl ?_ ?_
  · refine z_iload_n C (q := 11) 1 dX9_goBack_10 rfl rfl ?_
    refine z_if_ne C (tgt := 21) (q := 14) dX9_goBack_11 (by decide) rfl ?_ ?_
    · refine z_aload_n C (q := 22) 0 dX9_goBack_21 rfl rfl ?_
      refine z_getR C (q := 25) ob_0 fF_X9_48 rfl dX9_goBack_22 rfl ?_
      refine z_astore_n C (q := 26) [(2, .ref (ad 29)), (0, .ref (ad 0)), (1, .int v1)] dX9_goBack_25 rfl rfl (by decide) rfl ?_
      refine z_aload_n C (q := 27) 0 dX9_goBack_26 rfl rfl ?_
      refine z_getI C (q := 30) hImg_29.1 fF_X9_109 rfl dX9_goBack_27 rfl ?_
      refine z_if_ne C (tgt := 36) (q := 33) dX9_goBack_30 (by decide) rfl ?_ ?_
      · refine z_aload_n C (q := 37) 1 dX9_goBack_36 rfl rfl ?_
        refine z_getR C (q := 40) ob_0 fF_X9_37 rfl dX9_goBack_37 rfl ?_
        refine z_aload_n C (q := 41) 0 dX9_goBack_40 rfl rfl ?_
        refine z_getR C (q := 44) hImg_29.1 fF_X9_267 rfl dX9_goBack_41 rfl ?_
        refine z_callV C (q := 47) [.ref (ad 30)] gl_X9_270 glv_X4_takeFrom hPast_22.1 rfl (m_X4_takeFrom G (g_Kap C) 22 30 hPast_22 hPast_30 _) rfl rfl (Nat.le_of_ble_eq_true rfl) ⟨by decide, by decide⟩ dX9_goBack_44 rfl (z_kv (fun s3 => ?_))
        refine z_iconst C (q := 48) dX9_goBack_47 rfl lt_iconst_1 ?_
        exact z_iret C dX9_goBack_48
      refine z_ldc C (q := 35) dX9_goBack_33 rfl wm_567 ?_
      exact z_iret C dX9_goBack_35
    refine z_aload_n C (q := 15) 0 dX9_goBack_14 rfl rfl ?_
    refine z_getR C (q := 18) ob_0 fF_X9_44 rfl dX9_goBack_15 rfl ?_
    refine z_goto C (tgt := 25) dX9_goBack_18 (by decide) ?_
    refine z_astore_n C (q := 26) [(2, .ref (ad 25)), (0, .ref (ad 0)), (1, .int v1)] dX9_goBack_25 rfl rfl (by decide) rfl ?_
    refine z_aload_n C (q := 27) 0 dX9_goBack_26 rfl rfl ?_
    refine z_getI C (q := 30) hImg_25.1 fF_X9_109 rfl dX9_goBack_27 rfl ?_
    refine z_if_ne C (tgt := 36) (q := 33) dX9_goBack_30 (by decide) rfl ?_ ?_
    · refine z_aload_n C (q := 37) 1 dX9_goBack_36 rfl rfl ?_
      refine z_getR C (q := 40) ob_0 fF_X9_37 rfl dX9_goBack_37 rfl ?_
      refine z_aload_n C (q := 41) 0 dX9_goBack_40 rfl rfl ?_
      refine z_getR C (q := 44) hImg_25.1 fF_X9_267 rfl dX9_goBack_41 rfl ?_
      refine z_callV C (q := 47) [.ref (ad 26)] gl_X9_270 glv_X4_takeFrom hPast_22.1 rfl (m_X4_takeFrom G (g_Kap C) 22 26 hPast_22 hPast_26 _) rfl rfl (Nat.le_of_ble_eq_true rfl) ⟨by decide, by decide⟩ dX9_goBack_44 rfl (z_kv (fun s4 => ?_))
      refine z_iconst C (q := 48) dX9_goBack_47 rfl lt_iconst_1 ?_
      exact z_iret C dX9_goBack_48
    refine z_ldc C (q := 35) dX9_goBack_33 rfl wm_567 ?_
    exact z_iret C dX9_goBack_35
  refine z_ldc C (q := 9) dX9_goBack_7 rfl wm_504 ?_
  exact z_iret C dX9_goBack_9

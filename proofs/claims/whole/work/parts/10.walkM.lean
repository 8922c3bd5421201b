set_option maxRecDepth 100000 in
set_option maxHeartbeats 4000000 in
theorem m_X10_in (G : gG) {ad : Nat → Nat} (hap : g_ap LM ad)   (v0 : Int64) (v2 : Int64) (v4 : Int64) (s : gS) : g_M G LM ad yX10_in cX10_in 6 (some .boolean) 0 [.long v0, .long v2, .long v4] s (f_X10_in v0 v2 v4 s) := by
  refine g_entry (by decide) hap (Nat.le_of_ble_eq_true rfl) [(0, .long v0), (2, .long v2), (4, .long v4)] rfl (fun X C => ?_)
  unfold f_X10_in
  refine z_lload_n C (q := 1) 0 dX10_in_0 rfl rfl ?_
  refine z_lload_n C (q := 2) 1 dX10_in_1 rfl rfl ?_
  refine z_lcmp C (q := 3) dX10_in_2 rfl ?_
  refine z_if_lt C (tgt := 17) (q := 6) dX10_in_3 (by decide) rfl ?_ ?_
  · refine z_iconst C (q := 18) dX10_in_17 rfl lt_iconst_0 ?_
    exact z_zretK C (by decide) dX10_in_18
  refine z_lload_n C (q := 7) 0 dX10_in_6 rfl rfl ?_
  refine z_lload C (q := 9) 2 dX10_in_7 rfl rfl ?_
  refine z_lcmp C (q := 10) dX10_in_9 rfl ?_
  refine z_if_gt C (tgt := 17) (q := 13) dX10_in_10 (by decide) rfl ?_ ?_
  · refine z_iconst C (q := 18) dX10_in_17 rfl lt_iconst_0 ?_
    exact z_zretK C (by decide) dX10_in_18
  refine z_iconst C (q := 14) dX10_in_13 rfl lt_iconst_1 ?_
  refine z_goto C (tgt := 18) dX10_in_14 (by decide) ?_
  exact z_zretK C (by decide) dX10_in_18
set_option maxRecDepth 100000 in
set_option maxHeartbeats 4000000 in
theorem m_X10_cells (G : gG) {ad : Nat → Nat} (hap : g_ap LM ad)    (s : gS) : g_M G LM ad yX10_cells cX10_cells 1 (some .int) 0 [.ref (ad 0)] s (f_X10_cells s) := by
  refine g_entry (by decide) hap (Nat.le_of_ble_eq_true rfl) [(0, .ref (ad 0))] rfl (fun X C => ?_)
  unfold f_X10_cells
  refine z_aload_n C (q := 1) 0 dX10_cells_0 rfl rfl ?_
  refine z_getI C (q := 4) ob_m fF_X10_85 rfl dX10_cells_1 rfl ?_
  refine z_aload_n C (q := 5) 0 dX10_cells_4 rfl rfl ?_
  refine z_getI C (q := 8) ob_m fF_X10_88 rfl dX10_cells_5 rfl ?_
  refine z_imul C (q := 9) dX10_cells_8 rfl ?_
  exact z_iret C dX10_cells_9
set_option maxRecDepth 100000 in
set_option maxHeartbeats 4000000 in
theorem m_X10_isCell (G : gG) {ad : Nat → Nat} (hap : g_ap LM ad)   (v1 : Int32) (v2 : Int32) (s : gS) : g_M G LM ad yX10_isCell cX10_isCell 3 (some .boolean) 1 [.ref (ad 0), .int v1, .int v2] s (f_X10_isCell v1 v2 s) := by
  refine g_entry (by decide) hap (Nat.le_of_ble_eq_true rfl) [(0, .ref (ad 0)), (1, .int v1), (2, .int v2)] rfl (fun X C => ?_)
  unfold f_X10_isCell
  refine z_iload_n C (q := 1) 1 dX10_isCell_0 rfl rfl ?_
  refine z_i2l C (q := 2) dX10_isCell_1 rfl ?_
  refine z_lconst C (q := 3) (v := 0) dX10_isCell_2 rfl rfl ?_
  refine z_aload_n C (q := 4) 0 dX10_isCell_3 rfl rfl ?_
  refine z_getI C (q := 7) ob_m fF_X10_85 rfl dX10_isCell_4 rfl ?_
  refine z_iconst C (q := 8) dX10_isCell_7 rfl lt_iconst_1 ?_
  refine z_isub C (q := 9) dX10_isCell_8 rfl ?_
  refine z_i2l C (q := 10) dX10_isCell_9 rfl ?_
  refine z_callS C (q := 13) [.long (v1.toInt64), .long (0 : Int64), .long ((((s.1 0 3) - (1 : Int32))).toInt64)] gl_X10_91 wm_198 (m_X10_in G (g_Kap C) (v1.toInt64) (0 : Int64) ((((s.1 0 3) - (1 : Int32))).toInt64) _) rfl rfl (Nat.le_of_ble_eq_true rfl) ⟨by decide, by decide⟩ dX10_isCell_10 rfl (z_ki (fun r2 s1 => ?_))
  refine z_if_eq C (tgt := 36) (q := 16) dX10_isCell_13 (by decide) rfl ?_ ?_
  · refine z_iconst C (q := 37) dX10_isCell_36 rfl lt_iconst_0 ?_
    exact z_zretK C (by decide) dX10_isCell_37
  refine z_iload_n C (q := 17) 2 dX10_isCell_16 rfl rfl ?_
  refine z_i2l C (q := 18) dX10_isCell_17 rfl ?_
  refine z_lconst C (q := 19) (v := 0) dX10_isCell_18 rfl rfl ?_
  refine z_aload_n C (q := 20) 0 dX10_isCell_19 rfl rfl ?_
  refine z_getI C (q := 23) ob_m fF_X10_88 rfl dX10_isCell_20 rfl ?_
  refine z_iconst C (q := 24) dX10_isCell_23 rfl lt_iconst_1 ?_
  refine z_isub C (q := 25) dX10_isCell_24 rfl ?_
  refine z_i2l C (q := 26) dX10_isCell_25 rfl ?_
  refine z_callS C (q := 29) [.long (v2.toInt64), .long (0 : Int64), .long ((((s1.1 0 4) - (1 : Int32))).toInt64)] gl_X10_91 wm_198 (m_X10_in G (g_Kap C) (v2.toInt64) (0 : Int64) ((((s1.1 0 4) - (1 : Int32))).toInt64) _) rfl rfl (Nat.le_of_ble_eq_true rfl) ⟨by decide, by decide⟩ dX10_isCell_26 rfl (z_ki (fun r4 s3 => ?_))
  refine z_if_eq C (tgt := 36) (q := 32) dX10_isCell_29 (by decide) rfl ?_ ?_
  · refine z_iconst C (q := 37) dX10_isCell_36 rfl lt_iconst_0 ?_
    exact z_zretK C (by decide) dX10_isCell_37
  refine z_iconst C (q := 33) dX10_isCell_32 rfl lt_iconst_1 ?_
  refine z_goto C (tgt := 37) dX10_isCell_33 (by decide) ?_
  exact z_zretK C (by decide) dX10_isCell_37
set_option maxRecDepth 100000 in
set_option maxHeartbeats 4000000 in
theorem m_X10_isParish (G : gG) {ad : Nat → Nat} (hap : g_ap LM ad)   (v0 : Int32) (s : gS) : g_M G LM ad yX10_isParish cX10_isParish 1 (some .boolean) 1 [.int v0] s (f_X10_isParish v0 s) := by
  refine g_entry (by decide) hap (Nat.le_of_ble_eq_true rfl) [(0, .int v0)] rfl (fun X C => ?_)
  unfold f_X10_isParish
  refine z_iload_n C (q := 1) 0 dX10_isParish_0 rfl rfl ?_
  refine z_i2l C (q := 2) dX10_isParish_1 rfl ?_
  refine z_lconst C (q := 3) (v := 0) dX10_isParish_2 rfl rfl ?_
  refine z_lconst C (q := 4) (v := 1) dX10_isParish_3 rfl rfl ?_
  refine z_callS C (q := 7) [.long (v0.toInt64), .long (0 : Int64), .long (1 : Int64)] gl_X10_91 wm_198 (m_X10_in G (g_Kap C) (v0.toInt64) (0 : Int64) (1 : Int64) _) rfl rfl (Nat.le_of_ble_eq_true rfl) ⟨by decide, by decide⟩ dX10_isParish_4 rfl (z_ki (fun r2 s1 => ?_))
  exact z_zret C dX10_isParish_7
set_option maxRecDepth 100000 in
set_option maxHeartbeats 4000000 in
theorem m_X10_named (G : gG) {ad : Nat → Nat} (hap : g_ap LM ad)   (v1 : Int32) (s : gS) : g_M G LM ad yX10_named cX10_named 2 (some .int) 0 [.ref (ad 0), .int v1] s (f_X10_named v1 s) := by
  refine g_entry (by decide) hap (Nat.le_of_ble_eq_true rfl) [(0, .ref (ad 0)), (1, .int v1)] rfl (fun X C => ?_)
  unfold f_X10_named
  refine z_iload_n C (q := 1) 1 dX10_named_0 rfl rfl ?_
  refine z_iconst C (q := 2) dX10_named_1 rfl lt_iconst_m1 ?_
  refine z_icmp_ne C (tgt := 9) (q := 5) dX10_named_2 (by decide) rfl ?_ ?_
  · refine z_bipush C (q := 11) dX10_named_9 rfl lt_bipush_10 ?_
    refine z_iload_n C (q := 12) 1 dX10_named_11 rfl rfl ?_
    refine z_aload_n C (q := 13) 0 dX10_named_12 rfl rfl ?_
    refine z_getI C (q := 16) ob_m fF_X10_85 rfl dX10_named_13 rfl ?_
    refine z_irem C (q := 17) dX10_named_16 rfl ?_
    refine z_imul C (q := 18) dX10_named_17 rfl ?_
    refine z_iload_n C (q := 19) 1 dX10_named_18 rfl rfl ?_
    refine z_aload_n C (q := 20) 0 dX10_named_19 rfl rfl ?_
    refine z_getI C (q := 23) ob_m fF_X10_85 rfl dX10_named_20 rfl ?_
    refine z_idiv C (q := 24) dX10_named_23 rfl ?_
    refine z_iadd C (q := 25) dX10_named_24 rfl ?_
    exact z_iret C dX10_named_25
  refine z_iconst C (q := 6) dX10_named_5 rfl lt_iconst_m1 ?_
  refine z_goto C (tgt := 25) dX10_named_6 (by decide) ?_
  exact z_iret C dX10_named_25
set_option maxRecDepth 100000 in
set_option maxHeartbeats 4000000 in
theorem l_X10_feed_33 {G : gG} {X : gX} {ad : Nat → Nat} (C : g_K G X LM ad cX10_feed 5 RX10 (some .int) 1)   (v1 : Int32) (v2 : Int64) {k : Int32 → gS → gR} (hk : ∀ (v4 : Int32) (s : gS), g_Z G X LM ad 5 80 [(0, .ref (ad 0))] [] s (k v4 s)) : ∀ (n : Nat) (v4 : Int32) (s : gS), g_Z G X LM ad 5 33 [(0, .ref (ad 0)), (1, .int v1), (2, .long v2), (4, .int v4)] [] s (f_X10_feed_33 v1 v2 k n v4 s) := by
  intro n
  induction n with
  | zero => intros; exact z_none
  | succ n ih =>
    intro v4 s
    rw [f_X10_feed_33.eq_2]
    refine z_iload C (q := 35) 3 dX10_feed_33 rfl rfl ?_
    refine z_iload_n C (q := 36) 1 dX10_feed_35 rfl rfl ?_
    refine z_icmp_ge C (tgt := 80) (q := 39) dX10_feed_36 (by decide) rfl ?_ ?_
    · exact z_sub [0] rfl (hk v4 s)
    refine z_aload_n C (q := 40) 0 dX10_feed_39 rfl rfl ?_
    refine z_getR C (q := 43) ob_m fF_X10_45 rfl dX10_feed_40 rfl ?_
    refine z_aload_n C (q := 44) 0 dX10_feed_43 rfl rfl ?_
    refine z_getI C (q := 47) ob_m fF_X10_98 rfl dX10_feed_44 rfl ?_
    refine z_lload_n C (q := 48) 2 dX10_feed_47 rfl rfl ?_
    refine z_bipush C (q := 50) dX10_feed_48 rfl lt_bipush_8 ?_
    refine z_iload_n C (q := 51) 1 dX10_feed_50 rfl rfl ?_
    refine z_iconst C (q := 52) dX10_feed_51 rfl lt_iconst_1 ?_
    refine z_isub C (q := 53) dX10_feed_52 rfl ?_
    refine z_iload C (q := 55) 3 dX10_feed_53 rfl rfl ?_
    refine z_isub C (q := 56) dX10_feed_55 rfl ?_
    refine z_imul C (q := 57) dX10_feed_56 rfl ?_
    refine z_lushr C (q := 58) dX10_feed_57 rfl ?_
    refine z_ldc2 C (q := 61) dX10_feed_58 rfl wm_196 ?_
    refine z_land C (q := 62) dX10_feed_61 rfl ?_
    refine z_l2i C (q := 63) dX10_feed_62 rfl ?_
    refine z_iast C (q := 64) ar_m11 dX10_feed_63 rfl (fun s3 => ?_)
    refine z_aload_n C (q := 65) 0 dX10_feed_64 rfl rfl ?_
    refine z_dup C (q := 66) dX10_feed_65 rfl rfl ?_
    refine z_getI C (q := 69) ob_m fF_X10_98 rfl dX10_feed_66 rfl ?_
    refine z_iconst C (q := 70) dX10_feed_69 rfl lt_iconst_1 ?_
    refine z_iadd C (q := 71) dX10_feed_70 rfl ?_
    refine z_putI C (q := 74) ob_m fP_X10_98 rfl dX10_feed_71 rfl (fun s4 => ?_)
    refine z_iinc C (q := 77) 3 [(4, .int (v4 + 1)), (0, .ref (ad 0)), (1, .int v1), (2, .long v2)] dX10_feed_74 rfl rfl (lt_iinc_1 _) (by decide) rfl ?_
    refine z_goto C (tgt := 33) dX10_feed_77 (by decide) ?_
    exact z_sub [1, 2, 3, 0] rfl (ih (v4 + 1) s4)
set_option maxRecDepth 100000 in
set_option maxHeartbeats 4000000 in
theorem m_X10_feed (G : gG) {ad : Nat → Nat} (hap : g_ap LM ad)   (v1 : Int32) (v2 : Int64) (s : gS) : g_M G LM ad yX10_feed cX10_feed 5 (some .int) 1 [.ref (ad 0), .int v1, .long v2] s (f_X10_feed v1 v2 s) := by
  refine g_entry (by decide) hap (Nat.le_of_ble_eq_true rfl) [(0, .ref (ad 0)), (1, .int v1), (2, .long v2)] rfl (fun X C => ?_)
  unfold f_X10_feed
  refine z_iload_n C (q := 1) 1 dX10_feed_0 rfl rfl ?_
  refine z_i2l C (q := 2) dX10_feed_1 rfl ?_
  refine z_lconst C (q := 3) (v := 1) dX10_feed_2 rfl rfl ?_
  refine z_ldc2 C (q := 6) dX10_feed_3 rfl wm_192 ?_
  refine z_callS C (q := 9) [.long (v1.toInt64), .long (1 : Int64), .long (8 : Int64)] gl_X10_91 wm_198 (m_X10_in G (g_Kap C) (v1.toInt64) (1 : Int64) (8 : Int64) _) rfl rfl (Nat.le_of_ble_eq_true rfl) ⟨by decide, by decide⟩ dX10_feed_6 rfl (z_ki (fun r2 s1 => ?_))
  refine z_if_ne C (tgt := 15) (q := 12) dX10_feed_9 (by decide) rfl ?_ ?_
  · refine z_aload_n C (q := 16) 0 dX10_feed_15 rfl rfl ?_
    refine z_getI C (q := 19) ob_m fF_X10_98 rfl dX10_feed_16 rfl ?_
    refine z_iload_n C (q := 20) 1 dX10_feed_19 rfl rfl ?_
    refine z_iadd C (q := 21) dX10_feed_20 rfl ?_
    refine z_sipush C (q := 24) dX10_feed_21 rfl lt_sipush_500 ?_
    refine z_icmp_le C (tgt := 30) (q := 27) dX10_feed_24 (by decide) rfl ?_ ?_
    · refine z_iconst C (q := 31) dX10_feed_30 rfl lt_iconst_0 ?_
      refine z_istore C (q := 33) [(4, .int (0 : Int32)), (0, .ref (ad 0)), (1, .int v1), (2, .long v2)] dX10_feed_31 rfl (by decide) rfl ?_
      refine z_sub [1, 2, 3, 0] rfl (l_X10_feed_33 C v1 v2 (fun v4_5 s6 => ?_) g_N (0 : Int32) s1)
      refine z_aload_n C (q := 81) 0 dX10_feed_80 rfl rfl ?_
      refine z_getI C (q := 84) ob_m fF_X10_98 rfl dX10_feed_81 rfl ?_
      exact z_iret C dX10_feed_84
    refine z_ldc C (q := 29) dX10_feed_27 rfl wm_195 ?_
    exact z_iret C dX10_feed_29
  refine z_ldc C (q := 14) dX10_feed_12 rfl wm_193 ?_
  exact z_iret C dX10_feed_14
set_option maxRecDepth 100000 in
set_option maxHeartbeats 4000000 in
theorem m_X10_isSmall (G : gG) {ad : Nat → Nat} (hap : g_ap LM ad)   (v0 : Int32) (s : gS) : g_M G LM ad yX10_isSmall cX10_isSmall 1 (some .boolean) 1 [.int v0] s (f_X10_isSmall v0 s) := by
  refine g_entry (by decide) hap (Nat.le_of_ble_eq_true rfl) [(0, .int v0)] rfl (fun X C => ?_)
  unfold f_X10_isSmall
  refine z_iload_n C (q := 1) 0 dX10_isSmall_0 rfl rfl ?_
  refine z_i2l C (q := 2) dX10_isSmall_1 rfl ?_
  refine z_ldc2 C (q := 5) dX10_isSmall_2 rfl wm_406 ?_
  refine z_ldc2 C (q := 8) dX10_isSmall_5 rfl wm_407 ?_
  refine z_callS C (q := 11) [.long (v0.toInt64), .long (97 : Int64), .long (122 : Int64)] gl_X10_91 wm_198 (m_X10_in G (g_Kap C) (v0.toInt64) (97 : Int64) (122 : Int64) _) rfl rfl (Nat.le_of_ble_eq_true rfl) ⟨by decide, by decide⟩ dX10_isSmall_8 rfl (z_ki (fun r2 s1 => ?_))
  exact z_zret C dX10_isSmall_11
set_option maxRecDepth 100000 in
set_option maxHeartbeats 4000000 in
theorem m_X10_isFigure (G : gG) {ad : Nat → Nat} (hap : g_ap LM ad)   (v0 : Int32) (s : gS) : g_M G LM ad yX10_isFigure cX10_isFigure 1 (some .boolean) 1 [.int v0] s (f_X10_isFigure v0 s) := by
  refine g_entry (by decide) hap (Nat.le_of_ble_eq_true rfl) [(0, .int v0)] rfl (fun X C => ?_)
  unfold f_X10_isFigure
  refine z_iload_n C (q := 1) 0 dX10_isFigure_0 rfl rfl ?_
  refine z_i2l C (q := 2) dX10_isFigure_1 rfl ?_
  refine z_ldc2 C (q := 5) dX10_isFigure_2 rfl wm_411 ?_
  refine z_ldc2 C (q := 8) dX10_isFigure_5 rfl wm_412 ?_
  refine z_callS C (q := 11) [.long (v0.toInt64), .long (48 : Int64), .long (57 : Int64)] gl_X10_91 wm_198 (m_X10_in G (g_Kap C) (v0.toInt64) (48 : Int64) (57 : Int64) _) rfl rfl (Nat.le_of_ble_eq_true rfl) ⟨by decide, by decide⟩ dX10_isFigure_8 rfl (z_ki (fun r2 s1 => ?_))
  exact z_zret C dX10_isFigure_11
set_option maxRecDepth 100000 in
set_option maxHeartbeats 4000000 in
theorem l_X10_look_5 {G : gG} {X : gX} {ad : Nat → Nat} (C : g_K G X LM ad cX10_look 5 RX10 none 2)    {k : gS → gR} (hk : ∀  (s : gS), g_Z G X LM ad 5 43 [(0, .ref (ad 0))] [] s (k s)) : ∀ (n : Nat)  (s : gS), g_Z G X LM ad 5 5 [(0, .ref (ad 0))] [] s (f_X10_look_5  k n s) := by
  intro n
  induction n with
  | zero => intros; exact z_none
  | succ n ih =>
    intro  s
    rw [f_X10_look_5.eq_2]
    refine z_aload_n C (q := 6) 0 dX10_look_5 rfl rfl ?_
    refine z_getI C (q := 9) ob_m fF_X10_112 rfl dX10_look_6 rfl ?_
    refine z_aload_n C (q := 10) 0 dX10_look_9 rfl rfl ?_
    refine z_getI C (q := 13) ob_m fF_X10_98 rfl dX10_look_10 rfl ?_
    refine z_icmp_ge C (tgt := 43) (q := 16) dX10_look_13 (by decide) rfl ?_ ?_
    · exact z_sub [0] rfl (hk s)
    refine z_aload_n C (q := 17) 0 dX10_look_16 rfl rfl ?_
    refine z_getR C (q := 20) ob_m fF_X10_45 rfl dX10_look_17 rfl ?_
    refine z_aload_n C (q := 21) 0 dX10_look_20 rfl rfl ?_
    refine z_getI C (q := 24) ob_m fF_X10_112 rfl dX10_look_21 rfl ?_
    refine z_iald C (q := 25) ar_m11 dX10_look_24 rfl ?_
    refine z_bipush C (q := 27) dX10_look_25 rfl lt_bipush_32 ?_
    refine z_icmp_ne C (tgt := 43) (q := 30) dX10_look_27 (by decide) rfl ?_ ?_
    · exact z_sub [0] rfl (hk s)
    refine z_aload_n C (q := 31) 0 dX10_look_30 rfl rfl ?_
    refine z_dup C (q := 32) dX10_look_31 rfl rfl ?_
    refine z_getI C (q := 35) ob_m fF_X10_112 rfl dX10_look_32 rfl ?_
    refine z_iconst C (q := 36) dX10_look_35 rfl lt_iconst_1 ?_
    refine z_iadd C (q := 37) dX10_look_36 rfl ?_
    refine z_putI C (q := 40) ob_m fP_X10_112 rfl dX10_look_37 rfl (fun s2 => ?_)
    refine z_goto C (tgt := 5) dX10_look_40 (by decide) ?_
    exact z_sub [0] rfl (ih s2)
set_option maxRecDepth 100000 in
set_option maxHeartbeats 4000000 in
theorem l_X10_look_136 {G : gG} {X : gX} {ad : Nat → Nat} (C : g_K G X LM ad cX10_look 5 RX10 none 2)    {k : Int32 → gS → gR} (hk : ∀ (v3 : Int32) (s : gS), g_Z G X LM ad 5 215 [(0, .ref (ad 0))] [] s (k v3 s)) : ∀ (n : Nat) (v3 : Int32) (s : gS), g_Z G X LM ad 5 136 [(0, .ref (ad 0)), (3, .int v3)] [] s (f_X10_look_136  k n v3 s) := by
  intro n
  induction n with
  | zero => intros; exact z_none
  | succ n ih =>
    intro v3 s
    rw [f_X10_look_136.eq_2]
    refine z_iload_n C (q := 137) 1 dX10_look_136 rfl rfl ?_
    refine z_if_eq C (tgt := 215) (q := 140) dX10_look_137 (by decide) rfl ?_ ?_
    · exact z_sub [0] rfl (hk v3 s)
    refine z_aload_n C (q := 141) 0 dX10_look_140 rfl rfl ?_
    refine z_getI C (q := 144) ob_m fF_X10_112 rfl dX10_look_141 rfl ?_
    refine z_aload_n C (q := 145) 0 dX10_look_144 rfl rfl ?_
    refine z_getI C (q := 148) ob_m fF_X10_115 rfl dX10_look_145 rfl ?_
    refine z_iadd C (q := 149) dX10_look_148 rfl ?_
    refine z_aload_n C (q := 150) 0 dX10_look_149 rfl rfl ?_
    refine z_getI C (q := 153) ob_m fF_X10_98 rfl dX10_look_150 rfl ?_
    refine z_icmp_ge C (tgt := 215) (q := 156) dX10_look_153 (by decide) rfl ?_ ?_
    · exact z_sub [0] rfl (hk v3 s)
    refine z_aload_n C (q := 157) 0 dX10_look_156 rfl rfl ?_
    refine z_getR C (q := 160) ob_m fF_X10_45 rfl dX10_look_157 rfl ?_
    refine z_aload_n C (q := 161) 0 dX10_look_160 rfl rfl ?_
    refine z_getI C (q := 164) ob_m fF_X10_112 rfl dX10_look_161 rfl ?_
    refine z_aload_n C (q := 165) 0 dX10_look_164 rfl rfl ?_
    refine z_getI C (q := 168) ob_m fF_X10_115 rfl dX10_look_165 rfl ?_
    refine z_iadd C (q := 169) dX10_look_168 rfl ?_
    refine z_iald C (q := 170) ar_m11 dX10_look_169 rfl ?_
    refine z_leti (fun v4_14 => ?_)
    refine z_istore C (q := 172) [(4, .int v4_14), (0, .ref (ad 0)), (3, .int v3)] dX10_look_170 rfl (by decide) rfl ?_
    refine z_aload_n C (q := 173) 1 dX10_look_172 rfl rfl ?_
    refine z_getI C (q := 176) ob_m fF_X10_118 rfl dX10_look_173 rfl ?_
    refine z_iconst C (q := 177) dX10_look_176 rfl lt_iconst_1 ?_
    refine z_icmp_ne C (tgt := 188) (q := 180) dX10_look_177 (by decide) rfl ?_ ?_
    · refine z_iload C (q := 190) 0 dX10_look_188 rfl rfl ?_
      refine z_callS C (q := 193) [.int v4_14] gl_X10_128 wm_409 (m_X10_isFigure G (g_Kap C) v4_14 _) rfl rfl (Nat.le_of_ble_eq_true rfl) ⟨by decide, by decide⟩ dX10_look_190 rfl (z_ki (fun r16 s15 => ?_))
      refine z_istore_n C (q := 194) [(3, .int r16), (4, .int v4_14), (0, .ref (ad 0))] dX10_look_193 rfl rfl (by decide) rfl ?_
      refine z_aload_n C (q := 195) 2 dX10_look_194 rfl rfl ?_
      refine z_dup C (q := 196) dX10_look_195 rfl rfl ?_
      refine z_getI C (q := 199) ob_m fF_X10_115 rfl dX10_look_196 rfl ?_
      refine z_iload_n C (q := 200) 0 dX10_look_199 rfl rfl ?_
      refine z_if_eq C (tgt := 207) (q := 203) dX10_look_200 (by decide) rfl ?_ ?_
      · refine z_iconst C (q := 208) dX10_look_207 rfl lt_iconst_0 ?_
        refine z_iadd C (q := 209) dX10_look_208 rfl ?_
        refine z_putI C (q := 212) ob_m fP_X10_115 rfl dX10_look_209 rfl (fun s17 => ?_)
        refine z_goto C (tgt := 136) dX10_look_212 (by decide) ?_
        exact z_sub [2, 0] rfl (ih r16 s17)
      refine z_iconst C (q := 204) dX10_look_203 rfl lt_iconst_1 ?_
      refine z_goto C (tgt := 208) dX10_look_204 (by decide) ?_
      refine z_iadd C (q := 209) dX10_look_208 rfl ?_
      refine z_putI C (q := 212) ob_m fP_X10_115 rfl dX10_look_209 rfl (fun s18 => ?_)
      refine z_goto C (tgt := 136) dX10_look_212 (by decide) ?_
      exact z_sub [2, 0] rfl (ih r16 s18)
    refine z_iload C (q := 182) 0 dX10_look_180 rfl rfl ?_
    refine z_callS C (q := 185) [.int v4_14] gl_X10_124 wm_404 (m_X10_isSmall G (g_Kap C) v4_14 _) rfl rfl (Nat.le_of_ble_eq_true rfl) ⟨by decide, by decide⟩ dX10_look_182 rfl (z_ki (fun r20 s19 => ?_))
    refine z_goto C (tgt := 193) dX10_look_185 (by decide) ?_
    refine z_istore_n C (q := 194) [(3, .int r20), (4, .int v4_14), (0, .ref (ad 0))] dX10_look_193 rfl rfl (by decide) rfl ?_
    refine z_aload_n C (q := 195) 2 dX10_look_194 rfl rfl ?_
    refine z_dup C (q := 196) dX10_look_195 rfl rfl ?_
    refine z_getI C (q := 199) ob_m fF_X10_115 rfl dX10_look_196 rfl ?_
    refine z_iload_n C (q := 200) 0 dX10_look_199 rfl rfl ?_
    refine z_if_eq C (tgt := 207) (q := 203) dX10_look_200 (by decide) rfl ?_ ?_
    · refine z_iconst C (q := 208) dX10_look_207 rfl lt_iconst_0 ?_
      refine z_iadd C (q := 209) dX10_look_208 rfl ?_
      refine z_putI C (q := 212) ob_m fP_X10_115 rfl dX10_look_209 rfl (fun s21 => ?_)
      refine z_goto C (tgt := 136) dX10_look_212 (by decide) ?_
      exact z_sub [2, 0] rfl (ih r20 s21)
    refine z_iconst C (q := 204) dX10_look_203 rfl lt_iconst_1 ?_
    refine z_goto C (tgt := 208) dX10_look_204 (by decide) ?_
    refine z_iadd C (q := 209) dX10_look_208 rfl ?_
    refine z_putI C (q := 212) ob_m fP_X10_115 rfl dX10_look_209 rfl (fun s22 => ?_)
    refine z_goto C (tgt := 136) dX10_look_212 (by decide) ?_
    exact z_sub [2, 0] rfl (ih r20 s22)
set_option maxRecDepth 100000 in
set_option maxHeartbeats 4000000 in
theorem l_X10_look_218 {G : gG} {X : gX} {ad : Nat → Nat} (C : g_K G X LM ad cX10_look 5 RX10 none 2)    {k : Int32 → gS → gR} (hk : ∀ (v4 : Int32) (s : gS), g_Z G X LM ad 5 282 [] [] s (k v4 s)) : ∀ (n : Nat) (v4 : Int32) (s : gS), g_Z G X LM ad 5 218 [(0, .ref (ad 0)), (4, .int v4)] [] s (f_X10_look_218  k n v4 s) := by
  intro n
  induction n with
  | zero => intros; exact z_none
  | succ n ih =>
    intro v4 s
    rw [f_X10_look_218.eq_2]
    refine z_iload C (q := 220) 1 dX10_look_218 rfl rfl ?_
    refine z_aload_n C (q := 221) 0 dX10_look_220 rfl rfl ?_
    refine z_getI C (q := 224) ob_m fF_X10_115 rfl dX10_look_221 rfl ?_
    refine z_icmp_ge C (tgt := 282) (q := 227) dX10_look_224 (by decide) rfl ?_ ?_
    · exact z_sub [] rfl (hk v4 s)
    refine z_aload_n C (q := 228) 0 dX10_look_227 rfl rfl ?_
    refine z_getI C (q := 231) ob_m fF_X10_118 rfl dX10_look_228 rfl ?_
    refine z_iconst C (q := 232) dX10_look_231 rfl lt_iconst_2 ?_
    refine z_icmp_ne C (tgt := 282) (q := 235) dX10_look_232 (by decide) rfl ?_ ?_
    · exact z_sub [] rfl (hk v4 s)
    refine z_aload_n C (q := 236) 0 dX10_look_235 rfl rfl ?_
    refine z_aload_n C (q := 237) 0 dX10_look_236 rfl rfl ?_
    refine z_getI C (q := 240) ob_m fF_X10_115 rfl dX10_look_237 rfl ?_
    refine z_iconst C (q := 241) dX10_look_240 rfl lt_iconst_3 ?_
    refine z_icmp_le C (tgt := 250) (q := 244) dX10_look_241 (by decide) rfl ?_ ?_
    · refine z_bipush C (q := 252) dX10_look_250 rfl lt_bipush_10 ?_
      refine z_aload_n C (q := 253) 0 dX10_look_252 rfl rfl ?_
      refine z_getI C (q := 256) ob_m fF_X10_121 rfl dX10_look_253 rfl ?_
      refine z_imul C (q := 257) dX10_look_256 rfl ?_
      refine z_aload_n C (q := 258) 0 dX10_look_257 rfl rfl ?_
      refine z_getR C (q := 261) ob_m fF_X10_45 rfl dX10_look_258 rfl ?_
      refine z_aload_n C (q := 262) 0 dX10_look_261 rfl rfl ?_
      refine z_getI C (q := 265) ob_m fF_X10_112 rfl dX10_look_262 rfl ?_
      refine z_iload C (q := 267) 1 dX10_look_265 rfl rfl ?_
      refine z_iadd C (q := 268) dX10_look_267 rfl ?_
      refine z_iald C (q := 269) ar_m11 dX10_look_268 rfl ?_
      refine z_iadd C (q := 270) dX10_look_269 rfl ?_
      refine z_bipush C (q := 272) dX10_look_270 rfl lt_bipush_48 ?_
      refine z_isub C (q := 273) dX10_look_272 rfl ?_
      refine z_putI C (q := 276) ob_m fP_X10_121 rfl dX10_look_273 rfl (fun s25 => ?_)
      refine z_iinc C (q := 279) 1 [(4, .int (v4 + 1)), (0, .ref (ad 0))] dX10_look_276 rfl rfl (lt_iinc_1 _) (by decide) rfl ?_
      refine z_goto C (tgt := 218) dX10_look_279 (by decide) ?_
      exact z_sub [1, 0] rfl (ih (v4 + 1) s25)
    refine z_sipush C (q := 247) dX10_look_244 rfl lt_sipush_1000 ?_
    refine z_goto C (tgt := 273) dX10_look_247 (by decide) ?_
    refine z_putI C (q := 276) ob_m fP_X10_121 rfl dX10_look_273 rfl (fun s26 => ?_)
    refine z_iinc C (q := 279) 1 [(4, .int (v4 + 1)), (0, .ref (ad 0))] dX10_look_276 rfl rfl (lt_iinc_1 _) (by decide) rfl ?_
    refine z_goto C (tgt := 218) dX10_look_279 (by decide) ?_
    exact z_sub [1, 0] rfl (ih (v4 + 1) s26)
set_option maxRecDepth 100000 in
set_option maxHeartbeats 4000000 in
theorem m_X10_look (G : gG) {ad : Nat → Nat} (hap : g_ap LM ad)   (v1 : Int32) (s : gS) : g_M G LM ad yX10_look cX10_look 5 none 2 [.ref (ad 0), .int v1] s (f_X10_look v1 s) := by
  refine g_entry (by decide) hap (Nat.le_of_ble_eq_true rfl) [(0, .ref (ad 0)), (1, .int v1)] rfl (fun X C => ?_)
  unfold f_X10_look
  refine z_aload_n C (q := 1) 0 dX10_look_0 rfl rfl ?_
  refine z_iload_n C (q := 2) 1 dX10_look_1 rfl rfl ?_
  refine z_putI C (q := 5) ob_m fP_X10_112 rfl dX10_look_2 rfl (fun s1 => ?_)
  refine z_sub [0] rfl (l_X10_look_5 C  (fun s3 => ?_) g_N s1)
  refine z_aload_n C (q := 44) 0 dX10_look_43 rfl rfl ?_
  refine z_iconst C (q := 45) dX10_look_44 rfl lt_iconst_0 ?_
  refine z_putI C (q := 48) ob_m fP_X10_115 rfl dX10_look_45 rfl (fun s4 => ?_)
  refine z_aload_n C (q := 49) 0 dX10_look_48 rfl rfl ?_
  refine z_iconst C (q := 50) dX10_look_49 rfl lt_iconst_0 ?_
  refine z_putI C (q := 53) ob_m fP_X10_118 rfl dX10_look_50 rfl (fun s5 => ?_)
  refine z_aload_n C (q := 54) 0 dX10_look_53 rfl rfl ?_
  refine z_iconst C (q := 55) dX10_look_54 rfl lt_iconst_0 ?_
  refine z_putI C (q := 58) ob_m fP_X10_121 rfl dX10_look_55 rfl (fun s6 => ?_)
  refine z_aload_n C (q := 59) 0 dX10_look_58 rfl rfl ?_
  refine z_getI C (q := 62) ob_m fF_X10_112 rfl dX10_look_59 rfl ?_
  refine z_aload_n C (q := 63) 0 dX10_look_62 rfl rfl ?_
  refine z_getI C (q := 66) ob_m fF_X10_98 rfl dX10_look_63 rfl ?_
  refine z_icmp_ne C (tgt := 70) (q := 69) dX10_look_66 (by decide) rfl ?_ ?_
  · refine z_aload_n C (q := 71) 0 dX10_look_70 rfl rfl ?_
    refine z_getR C (q := 74) ob_m fF_X10_45 rfl dX10_look_71 rfl ?_
    refine z_aload_n C (q := 75) 0 dX10_look_74 rfl rfl ?_
    refine z_getI C (q := 78) ob_m fF_X10_112 rfl dX10_look_75 rfl ?_
    refine z_iald C (q := 79) ar_m11 dX10_look_78 rfl ?_
    refine z_leti (fun v2_7 => ?_)
    refine z_istore_n C (q := 80) [(2, .int v2_7), (0, .ref (ad 0))] dX10_look_79 rfl rfl (by decide) rfl ?_
    refine z_aload_n C (q := 81) 1 dX10_look_80 rfl rfl ?_
    refine z_iload_n C (q := 82) 0 dX10_look_81 rfl rfl ?_
    refine z_callS C (q := 85) [.int v2_7] gl_X10_124 wm_404 (m_X10_isSmall G (g_Kap C) v2_7 _) rfl rfl (Nat.le_of_ble_eq_true rfl) ⟨by decide, by decide⟩ dX10_look_82 rfl (z_ki (fun r9 s8 => ?_))
    refine z_if_eq C (tgt := 92) (q := 88) dX10_look_85 (by decide) rfl ?_ ?_
    · refine z_iload_n C (q := 93) 0 dX10_look_92 rfl rfl ?_
      refine z_callS C (q := 96) [.int v2_7] gl_X10_128 wm_409 (m_X10_isFigure G (g_Kap C) v2_7 _) rfl rfl (Nat.le_of_ble_eq_true rfl) ⟨by decide, by decide⟩ dX10_look_93 rfl (z_ki (fun r11 s10 => ?_))
      refine z_if_eq C (tgt := 103) (q := 99) dX10_look_96 (by decide) rfl ?_ ?_
      · refine z_iload_n C (q := 104) 0 dX10_look_103 rfl rfl ?_
        refine z_bipush C (q := 106) dX10_look_104 rfl lt_bipush_59 ?_
        refine z_icmp_ne C (tgt := 113) (q := 109) dX10_look_106 (by decide) rfl ?_ ?_
        · refine z_iconst C (q := 114) dX10_look_113 rfl lt_iconst_4 ?_
          refine z_putI C (q := 117) ob_m fP_X10_118 rfl dX10_look_114 rfl (fun s12 => ?_)
          refine z_aload_n C (q := 118) 1 dX10_look_117 rfl rfl ?_
          refine z_iconst C (q := 119) dX10_look_118 rfl lt_iconst_1 ?_
          refine z_putI C (q := 122) ob_m fP_X10_115 rfl dX10_look_119 rfl (fun s13 => ?_)
          refine z_aload_n C (q := 123) 1 dX10_look_122 rfl rfl ?_
          refine z_getI C (q := 126) ob_m fF_X10_118 rfl dX10_look_123 rfl ?_
          refine z_iconst C (q := 127) dX10_look_126 rfl lt_iconst_3 ?_
          refine z_icmp_ge C (tgt := 134) (q := 130) dX10_look_127 (by decide) rfl ?_ ?_
          · refine z_iconst C (q := 135) dX10_look_134 rfl lt_iconst_0 ?_
            refine z_istore_n C (q := 136) [(3, .int (0 : Int32)), (2, .int v2_7), (0, .ref (ad 0))] dX10_look_135 rfl rfl (by decide) rfl ?_
            refine z_sub [2, 0] rfl (l_X10_look_136 C  (fun v3_23 s24 => ?_) g_N (0 : Int32) s13)
            refine z_iconst C (q := 216) dX10_look_215 rfl lt_iconst_0 ?_
            refine z_istore C (q := 218) [(4, .int (0 : Int32)), (0, .ref (ad 0))] dX10_look_216 rfl (by decide) rfl ?_
            refine z_sub [1, 0] rfl (l_X10_look_218 C  (fun v4_27 s28 => ?_) g_N (0 : Int32) s24)
            exact z_vret C dX10_look_282
          refine z_iconst C (q := 131) dX10_look_130 rfl lt_iconst_1 ?_
          refine z_goto C (tgt := 135) dX10_look_131 (by decide) ?_
          refine z_istore_n C (q := 136) [(3, .int (1 : Int32)), (2, .int v2_7), (0, .ref (ad 0))] dX10_look_135 rfl rfl (by decide) rfl ?_
          refine z_sub [2, 0] rfl (l_X10_look_136 C  (fun v3_29 s30 => ?_) g_N (1 : Int32) s13)
          refine z_iconst C (q := 216) dX10_look_215 rfl lt_iconst_0 ?_
          refine z_istore C (q := 218) [(4, .int (0 : Int32)), (0, .ref (ad 0))] dX10_look_216 rfl (by decide) rfl ?_
          refine z_sub [1, 0] rfl (l_X10_look_218 C  (fun v4_31 s32 => ?_) g_N (0 : Int32) s30)
          exact z_vret C dX10_look_282
        refine z_iconst C (q := 110) dX10_look_109 rfl lt_iconst_3 ?_
        refine z_goto C (tgt := 114) dX10_look_110 (by decide) ?_
        refine z_putI C (q := 117) ob_m fP_X10_118 rfl dX10_look_114 rfl (fun s33 => ?_)
        refine z_aload_n C (q := 118) 1 dX10_look_117 rfl rfl ?_
        refine z_iconst C (q := 119) dX10_look_118 rfl lt_iconst_1 ?_
        refine z_putI C (q := 122) ob_m fP_X10_115 rfl dX10_look_119 rfl (fun s34 => ?_)
        refine z_aload_n C (q := 123) 1 dX10_look_122 rfl rfl ?_
        refine z_getI C (q := 126) ob_m fF_X10_118 rfl dX10_look_123 rfl ?_
        refine z_iconst C (q := 127) dX10_look_126 rfl lt_iconst_3 ?_
        refine z_icmp_ge C (tgt := 134) (q := 130) dX10_look_127 (by decide) rfl ?_ ?_
        · refine z_iconst C (q := 135) dX10_look_134 rfl lt_iconst_0 ?_
          refine z_istore_n C (q := 136) [(3, .int (0 : Int32)), (2, .int v2_7), (0, .ref (ad 0))] dX10_look_135 rfl rfl (by decide) rfl ?_
          refine z_sub [2, 0] rfl (l_X10_look_136 C  (fun v3_35 s36 => ?_) g_N (0 : Int32) s34)
          refine z_iconst C (q := 216) dX10_look_215 rfl lt_iconst_0 ?_
          refine z_istore C (q := 218) [(4, .int (0 : Int32)), (0, .ref (ad 0))] dX10_look_216 rfl (by decide) rfl ?_
          refine z_sub [1, 0] rfl (l_X10_look_218 C  (fun v4_37 s38 => ?_) g_N (0 : Int32) s36)
          exact z_vret C dX10_look_282
        refine z_iconst C (q := 131) dX10_look_130 rfl lt_iconst_1 ?_
        refine z_goto C (tgt := 135) dX10_look_131 (by decide) ?_
        refine z_istore_n C (q := 136) [(3, .int (1 : Int32)), (2, .int v2_7), (0, .ref (ad 0))] dX10_look_135 rfl rfl (by decide) rfl ?_
        refine z_sub [2, 0] rfl (l_X10_look_136 C  (fun v3_39 s40 => ?_) g_N (1 : Int32) s34)
        refine z_iconst C (q := 216) dX10_look_215 rfl lt_iconst_0 ?_
        refine z_istore C (q := 218) [(4, .int (0 : Int32)), (0, .ref (ad 0))] dX10_look_216 rfl (by decide) rfl ?_
        refine z_sub [1, 0] rfl (l_X10_look_218 C  (fun v4_41 s42 => ?_) g_N (0 : Int32) s40)
        exact z_vret C dX10_look_282
      refine z_iconst C (q := 100) dX10_look_99 rfl lt_iconst_2 ?_
      refine z_goto C (tgt := 114) dX10_look_100 (by decide) ?_
      refine z_putI C (q := 117) ob_m fP_X10_118 rfl dX10_look_114 rfl (fun s43 => ?_)
      refine z_aload_n C (q := 118) 1 dX10_look_117 rfl rfl ?_
      refine z_iconst C (q := 119) dX10_look_118 rfl lt_iconst_1 ?_
      refine z_putI C (q := 122) ob_m fP_X10_115 rfl dX10_look_119 rfl (fun s44 => ?_)
      refine z_aload_n C (q := 123) 1 dX10_look_122 rfl rfl ?_
      refine z_getI C (q := 126) ob_m fF_X10_118 rfl dX10_look_123 rfl ?_
      refine z_iconst C (q := 127) dX10_look_126 rfl lt_iconst_3 ?_
      refine z_icmp_ge C (tgt := 134) (q := 130) dX10_look_127 (by decide) rfl ?_ ?_
      · refine z_iconst C (q := 135) dX10_look_134 rfl lt_iconst_0 ?_
        refine z_istore_n C (q := 136) [(3, .int (0 : Int32)), (2, .int v2_7), (0, .ref (ad 0))] dX10_look_135 rfl rfl (by decide) rfl ?_
        refine z_sub [2, 0] rfl (l_X10_look_136 C  (fun v3_45 s46 => ?_) g_N (0 : Int32) s44)
        refine z_iconst C (q := 216) dX10_look_215 rfl lt_iconst_0 ?_
        refine z_istore C (q := 218) [(4, .int (0 : Int32)), (0, .ref (ad 0))] dX10_look_216 rfl (by decide) rfl ?_
        refine z_sub [1, 0] rfl (l_X10_look_218 C  (fun v4_47 s48 => ?_) g_N (0 : Int32) s46)
        exact z_vret C dX10_look_282
      refine z_iconst C (q := 131) dX10_look_130 rfl lt_iconst_1 ?_
      refine z_goto C (tgt := 135) dX10_look_131 (by decide) ?_
      refine z_istore_n C (q := 136) [(3, .int (1 : Int32)), (2, .int v2_7), (0, .ref (ad 0))] dX10_look_135 rfl rfl (by decide) rfl ?_
      refine z_sub [2, 0] rfl (l_X10_look_136 C  (fun v3_49 s50 => ?_) g_N (1 : Int32) s44)
      refine z_iconst C (q := 216) dX10_look_215 rfl lt_iconst_0 ?_
      refine z_istore C (q := 218) [(4, .int (0 : Int32)), (0, .ref (ad 0))] dX10_look_216 rfl (by decide) rfl ?_
      refine z_sub [1, 0] rfl (l_X10_look_218 C  (fun v4_51 s52 => ?_) g_N (0 : Int32) s50)
      exact z_vret C dX10_look_282
    refine z_iconst C (q := 89) dX10_look_88 rfl lt_iconst_1 ?_
    refine z_goto C (tgt := 114) dX10_look_89 (by decide) ?_
    refine z_putI C (q := 117) ob_m fP_X10_118 rfl dX10_look_114 rfl (fun s53 => ?_)
    refine z_aload_n C (q := 118) 1 dX10_look_117 rfl rfl ?_
    refine z_iconst C (q := 119) dX10_look_118 rfl lt_iconst_1 ?_
    refine z_putI C (q := 122) ob_m fP_X10_115 rfl dX10_look_119 rfl (fun s54 => ?_)
    refine z_aload_n C (q := 123) 1 dX10_look_122 rfl rfl ?_
    refine z_getI C (q := 126) ob_m fF_X10_118 rfl dX10_look_123 rfl ?_
    refine z_iconst C (q := 127) dX10_look_126 rfl lt_iconst_3 ?_
    refine z_icmp_ge C (tgt := 134) (q := 130) dX10_look_127 (by decide) rfl ?_ ?_
    · refine z_iconst C (q := 135) dX10_look_134 rfl lt_iconst_0 ?_
      refine z_istore_n C (q := 136) [(3, .int (0 : Int32)), (2, .int v2_7), (0, .ref (ad 0))] dX10_look_135 rfl rfl (by decide) rfl ?_
      refine z_sub [2, 0] rfl (l_X10_look_136 C  (fun v3_55 s56 => ?_) g_N (0 : Int32) s54)
      refine z_iconst C (q := 216) dX10_look_215 rfl lt_iconst_0 ?_
      refine z_istore C (q := 218) [(4, .int (0 : Int32)), (0, .ref (ad 0))] dX10_look_216 rfl (by decide) rfl ?_
      refine z_sub [1, 0] rfl (l_X10_look_218 C  (fun v4_57 s58 => ?_) g_N (0 : Int32) s56)
      exact z_vret C dX10_look_282
    refine z_iconst C (q := 131) dX10_look_130 rfl lt_iconst_1 ?_
    refine z_goto C (tgt := 135) dX10_look_131 (by decide) ?_
    refine z_istore_n C (q := 136) [(3, .int (1 : Int32)), (2, .int v2_7), (0, .ref (ad 0))] dX10_look_135 rfl rfl (by decide) rfl ?_
    refine z_sub [2, 0] rfl (l_X10_look_136 C  (fun v3_59 s60 => ?_) g_N (1 : Int32) s54)
    refine z_iconst C (q := 216) dX10_look_215 rfl lt_iconst_0 ?_
    refine z_istore C (q := 218) [(4, .int (0 : Int32)), (0, .ref (ad 0))] dX10_look_216 rfl (by decide) rfl ?_
    refine z_sub [1, 0] rfl (l_X10_look_218 C  (fun v4_61 s62 => ?_) g_N (0 : Int32) s60)
    exact z_vret C dX10_look_282
  exact z_vret C dX10_look_69
set_option maxRecDepth 100000 in
set_option maxHeartbeats 4000000 in
theorem m_X10_goOn (G : gG) {ad : Nat → Nat} (hap : g_ap LM ad)    (s : gS) : g_M G LM ad yX10_goOn cX10_goOn 1 none 3 [.ref (ad 0)] s (f_X10_goOn s) := by
  refine g_entry (by decide) hap (Nat.le_of_ble_eq_true rfl) [(0, .ref (ad 0))] rfl (fun X C => ?_)
  unfold f_X10_goOn
  refine z_aload_n C (q := 1) 0 dX10_goOn_0 rfl rfl ?_
  refine z_aload_n C (q := 2) 0 dX10_goOn_1 rfl rfl ?_
  refine z_getI C (q := 5) ob_m fF_X10_112 rfl dX10_goOn_2 rfl ?_
  refine z_aload_n C (q := 6) 0 dX10_goOn_5 rfl rfl ?_
  refine z_getI C (q := 9) ob_m fF_X10_115 rfl dX10_goOn_6 rfl ?_
  refine z_iadd C (q := 10) dX10_goOn_9 rfl ?_
  refine z_callV C (q := 13) [.int ((s.1 0 18) + (s.1 0 19))] gl_X10_131 glv_X10_look ob_m rfl (m_X10_look G (g_Kap C) ((s.1 0 18) + (s.1 0 19)) _) rfl rfl (Nat.le_of_ble_eq_true rfl) ⟨by decide, by decide⟩ dX10_goOn_10 rfl (z_kv (fun s1 => ?_))
  exact z_vret C dX10_goOn_13
set_option maxRecDepth 100000 in
set_option maxHeartbeats 4000000 in
theorem l_X10_isWord_58 {G : gG} {X : gX} {ad : Nat → Nat} (C : g_K G X LM ad cX10_isWord 10 RX10 (some .boolean) 0)   (v1 : Int32) (v2 : Int32) (v3 : Int32) (v4 : Int32) (v5 : Int32) (v6 : Int32) (v7 : Int32) {k : Int32 → Int32 → gS → gR} (hk : ∀ (v8 : Int32) (v9 : Int32) (s : gS), g_Z G X LM ad 10 151 [(8, .int v8)] [] s (k v8 v9 s)) : ∀ (n : Nat) (v8 : Int32) (v9 : Int32) (s : gS), g_Z G X LM ad 10 58 [(0, .ref (ad 0)), (1, .int v1), (2, .int v2), (3, .int v3), (4, .int v4), (5, .int v5), (6, .int v6), (7, .int v7), (8, .int v8), (9, .int v9)] [] s (f_X10_isWord_58 v1 v2 v3 v4 v5 v6 v7 k n v8 v9 s) := by
  intro n
  induction n with
  | zero => intros; exact z_none
  | succ n ih =>
    intro v8 v9 s
    rw [f_X10_isWord_58.eq_2]
    refine z_iload C (q := 60) 9 dX10_isWord_58 rfl rfl ?_
    refine z_iload C (q := 62) 7 dX10_isWord_60 rfl rfl ?_
    refine z_icmp_ge C (tgt := 151) (q := 65) dX10_isWord_62 (by decide) rfl ?_ ?_
    · exact z_sub [8] rfl (hk v8 v9 s)
    refine z_iload C (q := 67) 8 dX10_isWord_65 rfl rfl ?_
    refine z_if_eq C (tgt := 151) (q := 70) dX10_isWord_67 (by decide) rfl ?_ ?_
    · exact z_sub [8] rfl (hk v8 v9 s)
    refine z_aload_n C (q := 71) 0 dX10_isWord_70 rfl rfl ?_
    refine z_getR C (q := 74) ob_m fF_X10_45 rfl dX10_isWord_71 rfl ?_
    refine z_aload_n C (q := 75) 0 dX10_isWord_74 rfl rfl ?_
    refine z_getI C (q := 78) ob_m fF_X10_112 rfl dX10_isWord_75 rfl ?_
    refine z_iload C (q := 80) 9 dX10_isWord_78 rfl rfl ?_
    refine z_iadd C (q := 81) dX10_isWord_80 rfl ?_
    refine z_iald C (q := 82) ar_m11 dX10_isWord_81 rfl ?_
    refine z_iload C (q := 84) 9 dX10_isWord_82 rfl rfl ?_
    refine z_if_ne C (tgt := 91) (q := 87) dX10_isWord_84 (by decide) rfl ?_ ?_
    · refine z_iload C (q := 93) 9 dX10_isWord_91 rfl rfl ?_
      refine z_iconst C (q := 94) dX10_isWord_93 rfl lt_iconst_1 ?_
      refine z_icmp_ne C (tgt := 101) (q := 97) dX10_isWord_94 (by decide) rfl ?_ ?_
      · refine z_iload C (q := 103) 9 dX10_isWord_101 rfl rfl ?_
        refine z_iconst C (q := 104) dX10_isWord_103 rfl lt_iconst_2 ?_
        refine z_icmp_ne C (tgt := 111) (q := 107) dX10_isWord_104 (by decide) rfl ?_ ?_
        · refine z_iload C (q := 113) 9 dX10_isWord_111 rfl rfl ?_
          refine z_iconst C (q := 114) dX10_isWord_113 rfl lt_iconst_3 ?_
          refine z_icmp_ne C (tgt := 122) (q := 117) dX10_isWord_114 (by decide) rfl ?_ ?_
          · refine z_iload C (q := 124) 9 dX10_isWord_122 rfl rfl ?_
            refine z_iconst C (q := 125) dX10_isWord_124 rfl lt_iconst_4 ?_
            refine z_icmp_ne C (tgt := 133) (q := 128) dX10_isWord_125 (by decide) rfl ?_ ?_
            · refine z_iload C (q := 135) 6 dX10_isWord_133 rfl rfl ?_
              refine z_icmp_ne C (tgt := 142) (q := 138) dX10_isWord_135 (by decide) rfl ?_ ?_
              · refine z_iconst C (q := 143) dX10_isWord_142 rfl lt_iconst_0 ?_
                refine z_istore C (q := 145) [(8, .int (0 : Int32)), (0, .ref (ad 0)), (1, .int v1), (2, .int v2), (3, .int v3), (4, .int v4), (5, .int v5), (6, .int v6), (7, .int v7), (9, .int v9)] dX10_isWord_143 rfl (by decide) rfl ?_
                refine z_iinc C (q := 148) 9 [(9, .int (v9 + 1)), (8, .int (0 : Int32)), (0, .ref (ad 0)), (1, .int v1), (2, .int v2), (3, .int v3), (4, .int v4), (5, .int v5), (6, .int v6), (7, .int v7)] dX10_isWord_145 rfl rfl (lt_iinc_1 _) (by decide) rfl ?_
                refine z_goto C (tgt := 58) dX10_isWord_148 (by decide) ?_
                exact z_sub [2, 3, 4, 5, 6, 7, 8, 9, 1, 0] rfl (ih (0 : Int32) (v9 + 1) s)
              refine z_iconst C (q := 139) dX10_isWord_138 rfl lt_iconst_1 ?_
              refine z_goto C (tgt := 143) dX10_isWord_139 (by decide) ?_
              refine z_istore C (q := 145) [(8, .int (1 : Int32)), (0, .ref (ad 0)), (1, .int v1), (2, .int v2), (3, .int v3), (4, .int v4), (5, .int v5), (6, .int v6), (7, .int v7), (9, .int v9)] dX10_isWord_143 rfl (by decide) rfl ?_
              refine z_iinc C (q := 148) 9 [(9, .int (v9 + 1)), (8, .int (1 : Int32)), (0, .ref (ad 0)), (1, .int v1), (2, .int v2), (3, .int v3), (4, .int v4), (5, .int v5), (6, .int v6), (7, .int v7)] dX10_isWord_145 rfl rfl (lt_iinc_1 _) (by decide) rfl ?_
              refine z_goto C (tgt := 58) dX10_isWord_148 (by decide) ?_
              exact z_sub [2, 3, 4, 5, 6, 7, 8, 9, 1, 0] rfl (ih (1 : Int32) (v9 + 1) s)
            refine z_iload C (q := 130) 5 dX10_isWord_128 rfl rfl ?_
            refine z_goto C (tgt := 135) dX10_isWord_130 (by decide) ?_
            refine z_icmp_ne C (tgt := 142) (q := 138) dX10_isWord_135 (by decide) rfl ?_ ?_
            · refine z_iconst C (q := 143) dX10_isWord_142 rfl lt_iconst_0 ?_
              refine z_istore C (q := 145) [(8, .int (0 : Int32)), (0, .ref (ad 0)), (1, .int v1), (2, .int v2), (3, .int v3), (4, .int v4), (5, .int v5), (6, .int v6), (7, .int v7), (9, .int v9)] dX10_isWord_143 rfl (by decide) rfl ?_
              refine z_iinc C (q := 148) 9 [(9, .int (v9 + 1)), (8, .int (0 : Int32)), (0, .ref (ad 0)), (1, .int v1), (2, .int v2), (3, .int v3), (4, .int v4), (5, .int v5), (6, .int v6), (7, .int v7)] dX10_isWord_145 rfl rfl (lt_iinc_1 _) (by decide) rfl ?_
              refine z_goto C (tgt := 58) dX10_isWord_148 (by decide) ?_
              exact z_sub [2, 3, 4, 5, 6, 7, 8, 9, 1, 0] rfl (ih (0 : Int32) (v9 + 1) s)
            refine z_iconst C (q := 139) dX10_isWord_138 rfl lt_iconst_1 ?_
            refine z_goto C (tgt := 143) dX10_isWord_139 (by decide) ?_
            refine z_istore C (q := 145) [(8, .int (1 : Int32)), (0, .ref (ad 0)), (1, .int v1), (2, .int v2), (3, .int v3), (4, .int v4), (5, .int v5), (6, .int v6), (7, .int v7), (9, .int v9)] dX10_isWord_143 rfl (by decide) rfl ?_
            refine z_iinc C (q := 148) 9 [(9, .int (v9 + 1)), (8, .int (1 : Int32)), (0, .ref (ad 0)), (1, .int v1), (2, .int v2), (3, .int v3), (4, .int v4), (5, .int v5), (6, .int v6), (7, .int v7)] dX10_isWord_145 rfl rfl (lt_iinc_1 _) (by decide) rfl ?_
            refine z_goto C (tgt := 58) dX10_isWord_148 (by decide) ?_
            exact z_sub [2, 3, 4, 5, 6, 7, 8, 9, 1, 0] rfl (ih (1 : Int32) (v9 + 1) s)
          refine z_iload C (q := 119) 4 dX10_isWord_117 rfl rfl ?_
          refine z_goto C (tgt := 135) dX10_isWord_119 (by decide) ?_
          refine z_icmp_ne C (tgt := 142) (q := 138) dX10_isWord_135 (by decide) rfl ?_ ?_
          · refine z_iconst C (q := 143) dX10_isWord_142 rfl lt_iconst_0 ?_
            refine z_istore C (q := 145) [(8, .int (0 : Int32)), (0, .ref (ad 0)), (1, .int v1), (2, .int v2), (3, .int v3), (4, .int v4), (5, .int v5), (6, .int v6), (7, .int v7), (9, .int v9)] dX10_isWord_143 rfl (by decide) rfl ?_
            refine z_iinc C (q := 148) 9 [(9, .int (v9 + 1)), (8, .int (0 : Int32)), (0, .ref (ad 0)), (1, .int v1), (2, .int v2), (3, .int v3), (4, .int v4), (5, .int v5), (6, .int v6), (7, .int v7)] dX10_isWord_145 rfl rfl (lt_iinc_1 _) (by decide) rfl ?_
            refine z_goto C (tgt := 58) dX10_isWord_148 (by decide) ?_
            exact z_sub [2, 3, 4, 5, 6, 7, 8, 9, 1, 0] rfl (ih (0 : Int32) (v9 + 1) s)
          refine z_iconst C (q := 139) dX10_isWord_138 rfl lt_iconst_1 ?_
          refine z_goto C (tgt := 143) dX10_isWord_139 (by decide) ?_
          refine z_istore C (q := 145) [(8, .int (1 : Int32)), (0, .ref (ad 0)), (1, .int v1), (2, .int v2), (3, .int v3), (4, .int v4), (5, .int v5), (6, .int v6), (7, .int v7), (9, .int v9)] dX10_isWord_143 rfl (by decide) rfl ?_
          refine z_iinc C (q := 148) 9 [(9, .int (v9 + 1)), (8, .int (1 : Int32)), (0, .ref (ad 0)), (1, .int v1), (2, .int v2), (3, .int v3), (4, .int v4), (5, .int v5), (6, .int v6), (7, .int v7)] dX10_isWord_145 rfl rfl (lt_iinc_1 _) (by decide) rfl ?_
          refine z_goto C (tgt := 58) dX10_isWord_148 (by decide) ?_
          exact z_sub [2, 3, 4, 5, 6, 7, 8, 9, 1, 0] rfl (ih (1 : Int32) (v9 + 1) s)
        refine z_iload_n C (q := 108) 3 dX10_isWord_107 rfl rfl ?_
        refine z_goto C (tgt := 135) dX10_isWord_108 (by decide) ?_
        refine z_icmp_ne C (tgt := 142) (q := 138) dX10_isWord_135 (by decide) rfl ?_ ?_
        · refine z_iconst C (q := 143) dX10_isWord_142 rfl lt_iconst_0 ?_
          refine z_istore C (q := 145) [(8, .int (0 : Int32)), (0, .ref (ad 0)), (1, .int v1), (2, .int v2), (3, .int v3), (4, .int v4), (5, .int v5), (6, .int v6), (7, .int v7), (9, .int v9)] dX10_isWord_143 rfl (by decide) rfl ?_
          refine z_iinc C (q := 148) 9 [(9, .int (v9 + 1)), (8, .int (0 : Int32)), (0, .ref (ad 0)), (1, .int v1), (2, .int v2), (3, .int v3), (4, .int v4), (5, .int v5), (6, .int v6), (7, .int v7)] dX10_isWord_145 rfl rfl (lt_iinc_1 _) (by decide) rfl ?_
          refine z_goto C (tgt := 58) dX10_isWord_148 (by decide) ?_
          exact z_sub [2, 3, 4, 5, 6, 7, 8, 9, 1, 0] rfl (ih (0 : Int32) (v9 + 1) s)
        refine z_iconst C (q := 139) dX10_isWord_138 rfl lt_iconst_1 ?_
        refine z_goto C (tgt := 143) dX10_isWord_139 (by decide) ?_
        refine z_istore C (q := 145) [(8, .int (1 : Int32)), (0, .ref (ad 0)), (1, .int v1), (2, .int v2), (3, .int v3), (4, .int v4), (5, .int v5), (6, .int v6), (7, .int v7), (9, .int v9)] dX10_isWord_143 rfl (by decide) rfl ?_
        refine z_iinc C (q := 148) 9 [(9, .int (v9 + 1)), (8, .int (1 : Int32)), (0, .ref (ad 0)), (1, .int v1), (2, .int v2), (3, .int v3), (4, .int v4), (5, .int v5), (6, .int v6), (7, .int v7)] dX10_isWord_145 rfl rfl (lt_iinc_1 _) (by decide) rfl ?_
        refine z_goto C (tgt := 58) dX10_isWord_148 (by decide) ?_
        exact z_sub [2, 3, 4, 5, 6, 7, 8, 9, 1, 0] rfl (ih (1 : Int32) (v9 + 1) s)
      refine z_iload_n C (q := 98) 2 dX10_isWord_97 rfl rfl ?_
      refine z_goto C (tgt := 135) dX10_isWord_98 (by decide) ?_
      refine z_icmp_ne C (tgt := 142) (q := 138) dX10_isWord_135 (by decide) rfl ?_ ?_
      · refine z_iconst C (q := 143) dX10_isWord_142 rfl lt_iconst_0 ?_
        refine z_istore C (q := 145) [(8, .int (0 : Int32)), (0, .ref (ad 0)), (1, .int v1), (2, .int v2), (3, .int v3), (4, .int v4), (5, .int v5), (6, .int v6), (7, .int v7), (9, .int v9)] dX10_isWord_143 rfl (by decide) rfl ?_
        refine z_iinc C (q := 148) 9 [(9, .int (v9 + 1)), (8, .int (0 : Int32)), (0, .ref (ad 0)), (1, .int v1), (2, .int v2), (3, .int v3), (4, .int v4), (5, .int v5), (6, .int v6), (7, .int v7)] dX10_isWord_145 rfl rfl (lt_iinc_1 _) (by decide) rfl ?_
        refine z_goto C (tgt := 58) dX10_isWord_148 (by decide) ?_
        exact z_sub [2, 3, 4, 5, 6, 7, 8, 9, 1, 0] rfl (ih (0 : Int32) (v9 + 1) s)
      refine z_iconst C (q := 139) dX10_isWord_138 rfl lt_iconst_1 ?_
      refine z_goto C (tgt := 143) dX10_isWord_139 (by decide) ?_
      refine z_istore C (q := 145) [(8, .int (1 : Int32)), (0, .ref (ad 0)), (1, .int v1), (2, .int v2), (3, .int v3), (4, .int v4), (5, .int v5), (6, .int v6), (7, .int v7), (9, .int v9)] dX10_isWord_143 rfl (by decide) rfl ?_
      refine z_iinc C (q := 148) 9 [(9, .int (v9 + 1)), (8, .int (1 : Int32)), (0, .ref (ad 0)), (1, .int v1), (2, .int v2), (3, .int v3), (4, .int v4), (5, .int v5), (6, .int v6), (7, .int v7)] dX10_isWord_145 rfl rfl (lt_iinc_1 _) (by decide) rfl ?_
      refine z_goto C (tgt := 58) dX10_isWord_148 (by decide) ?_
      exact z_sub [2, 3, 4, 5, 6, 7, 8, 9, 1, 0] rfl (ih (1 : Int32) (v9 + 1) s)
    refine z_iload_n C (q := 88) 1 dX10_isWord_87 rfl rfl ?_
    refine z_goto C (tgt := 135) dX10_isWord_88 (by decide) ?_
    refine z_icmp_ne C (tgt := 142) (q := 138) dX10_isWord_135 (by decide) rfl ?_ ?_
    · refine z_iconst C (q := 143) dX10_isWord_142 rfl lt_iconst_0 ?_
      refine z_istore C (q := 145) [(8, .int (0 : Int32)), (0, .ref (ad 0)), (1, .int v1), (2, .int v2), (3, .int v3), (4, .int v4), (5, .int v5), (6, .int v6), (7, .int v7), (9, .int v9)] dX10_isWord_143 rfl (by decide) rfl ?_
      refine z_iinc C (q := 148) 9 [(9, .int (v9 + 1)), (8, .int (0 : Int32)), (0, .ref (ad 0)), (1, .int v1), (2, .int v2), (3, .int v3), (4, .int v4), (5, .int v5), (6, .int v6), (7, .int v7)] dX10_isWord_145 rfl rfl (lt_iinc_1 _) (by decide) rfl ?_
      refine z_goto C (tgt := 58) dX10_isWord_148 (by decide) ?_
      exact z_sub [2, 3, 4, 5, 6, 7, 8, 9, 1, 0] rfl (ih (0 : Int32) (v9 + 1) s)
    refine z_iconst C (q := 139) dX10_isWord_138 rfl lt_iconst_1 ?_
    refine z_goto C (tgt := 143) dX10_isWord_139 (by decide) ?_
    refine z_istore C (q := 145) [(8, .int (1 : Int32)), (0, .ref (ad 0)), (1, .int v1), (2, .int v2), (3, .int v3), (4, .int v4), (5, .int v5), (6, .int v6), (7, .int v7), (9, .int v9)] dX10_isWord_143 rfl (by decide) rfl ?_
    refine z_iinc C (q := 148) 9 [(9, .int (v9 + 1)), (8, .int (1 : Int32)), (0, .ref (ad 0)), (1, .int v1), (2, .int v2), (3, .int v3), (4, .int v4), (5, .int v5), (6, .int v6), (7, .int v7)] dX10_isWord_145 rfl rfl (lt_iinc_1 _) (by decide) rfl ?_
    refine z_goto C (tgt := 58) dX10_isWord_148 (by decide) ?_
    exact z_sub [2, 3, 4, 5, 6, 7, 8, 9, 1, 0] rfl (ih (1 : Int32) (v9 + 1) s)
set_option maxRecDepth 100000 in
set_option maxHeartbeats 4000000 in
theorem m_X10_isWord (G : gG) {ad : Nat → Nat} (hap : g_ap LM ad)   (v1 : Int32) (v2 : Int32) (v3 : Int32) (v4 : Int32) (v5 : Int32) (v6 : Int32) (s : gS) : g_M G LM ad yX10_isWord cX10_isWord 10 (some .boolean) 0 [.ref (ad 0), .int v1, .int v2, .int v3, .int v4, .int v5, .int v6] s (f_X10_isWord v1 v2 v3 v4 v5 v6 s) := by
  refine g_entry (by decide) hap (Nat.le_of_ble_eq_true rfl) [(0, .ref (ad 0)), (1, .int v1), (2, .int v2), (3, .int v3), (4, .int v4), (5, .int v5), (6, .int v6)] rfl (fun X C => ?_)
  unfold f_X10_isWord
  refine z_iload C (q := 2) 4 dX10_isWord_0 rfl rfl ?_
  refine z_if_ne C (tgt := 9) (q := 5) dX10_isWord_2 (by decide) rfl ?_ ?_
  · refine z_iload C (q := 11) 5 dX10_isWord_9 rfl rfl ?_
    refine z_if_ne C (tgt := 18) (q := 14) dX10_isWord_11 (by decide) rfl ?_ ?_
    · refine z_iload C (q := 20) 6 dX10_isWord_18 rfl rfl ?_
      refine z_if_ne C (tgt := 27) (q := 23) dX10_isWord_20 (by decide) rfl ?_ ?_
      · refine z_bipush C (q := 29) dX10_isWord_27 rfl lt_bipush_6 ?_
        refine z_istore C (q := 31) [(7, .int (6 : Int32)), (0, .ref (ad 0)), (1, .int v1), (2, .int v2), (3, .int v3), (4, .int v4), (5, .int v5), (6, .int v6)] dX10_isWord_29 rfl (by decide) rfl ?_
        refine z_aload_n C (q := 32) 1 dX10_isWord_31 rfl rfl ?_
        refine z_getI C (q := 35) ob_m fF_X10_118 rfl dX10_isWord_32 rfl ?_
        refine z_iconst C (q := 36) dX10_isWord_35 rfl lt_iconst_1 ?_
        refine z_icmp_ne C (tgt := 52) (q := 39) dX10_isWord_36 (by decide) rfl ?_ ?_
        · refine z_iconst C (q := 53) dX10_isWord_52 rfl lt_iconst_0 ?_
          refine z_istore C (q := 55) [(8, .int (0 : Int32)), (7, .int (6 : Int32)), (0, .ref (ad 0)), (1, .int v1), (2, .int v2), (3, .int v3), (4, .int v4), (5, .int v5), (6, .int v6)] dX10_isWord_53 rfl (by decide) rfl ?_
          refine z_iconst C (q := 56) dX10_isWord_55 rfl lt_iconst_0 ?_
          refine z_istore C (q := 58) [(9, .int (0 : Int32)), (8, .int (0 : Int32)), (7, .int (6 : Int32)), (0, .ref (ad 0)), (1, .int v1), (2, .int v2), (3, .int v3), (4, .int v4), (5, .int v5), (6, .int v6)] dX10_isWord_56 rfl (by decide) rfl ?_
          refine z_sub [3, 4, 5, 6, 7, 8, 9, 2, 1, 0] rfl (l_X10_isWord_58 C v1 v2 v3 v4 v5 v6 (6 : Int32) (fun v8_1 v9_2 s3 => ?_) g_N (0 : Int32) (0 : Int32) s)
          refine z_iload C (q := 153) 0 dX10_isWord_151 rfl rfl ?_
          exact z_zret C dX10_isWord_153
        refine z_aload_n C (q := 40) 1 dX10_isWord_39 rfl rfl ?_
        refine z_getI C (q := 43) ob_m fF_X10_115 rfl dX10_isWord_40 rfl ?_
        refine z_iload C (q := 45) 0 dX10_isWord_43 rfl rfl ?_
        refine z_icmp_ne C (tgt := 52) (q := 48) dX10_isWord_45 (by decide) rfl ?_ ?_
        · refine z_iconst C (q := 53) dX10_isWord_52 rfl lt_iconst_0 ?_
          refine z_istore C (q := 55) [(8, .int (0 : Int32)), (7, .int (6 : Int32)), (0, .ref (ad 0)), (1, .int v1), (2, .int v2), (3, .int v3), (4, .int v4), (5, .int v5), (6, .int v6)] dX10_isWord_53 rfl (by decide) rfl ?_
          refine z_iconst C (q := 56) dX10_isWord_55 rfl lt_iconst_0 ?_
          refine z_istore C (q := 58) [(9, .int (0 : Int32)), (8, .int (0 : Int32)), (7, .int (6 : Int32)), (0, .ref (ad 0)), (1, .int v1), (2, .int v2), (3, .int v3), (4, .int v4), (5, .int v5), (6, .int v6)] dX10_isWord_56 rfl (by decide) rfl ?_
          refine z_sub [3, 4, 5, 6, 7, 8, 9, 2, 1, 0] rfl (l_X10_isWord_58 C v1 v2 v3 v4 v5 v6 (6 : Int32) (fun v8_4 v9_5 s6 => ?_) g_N (0 : Int32) (0 : Int32) s)
          refine z_iload C (q := 153) 0 dX10_isWord_151 rfl rfl ?_
          exact z_zret C dX10_isWord_153
        refine z_iconst C (q := 49) dX10_isWord_48 rfl lt_iconst_1 ?_
        refine z_goto C (tgt := 53) dX10_isWord_49 (by decide) ?_
        refine z_istore C (q := 55) [(8, .int (1 : Int32)), (7, .int (6 : Int32)), (0, .ref (ad 0)), (1, .int v1), (2, .int v2), (3, .int v3), (4, .int v4), (5, .int v5), (6, .int v6)] dX10_isWord_53 rfl (by decide) rfl ?_
        refine z_iconst C (q := 56) dX10_isWord_55 rfl lt_iconst_0 ?_
        refine z_istore C (q := 58) [(9, .int (0 : Int32)), (8, .int (1 : Int32)), (7, .int (6 : Int32)), (0, .ref (ad 0)), (1, .int v1), (2, .int v2), (3, .int v3), (4, .int v4), (5, .int v5), (6, .int v6)] dX10_isWord_56 rfl (by decide) rfl ?_
        refine z_sub [3, 4, 5, 6, 7, 8, 9, 2, 1, 0] rfl (l_X10_isWord_58 C v1 v2 v3 v4 v5 v6 (6 : Int32) (fun v8_7 v9_8 s9 => ?_) g_N (1 : Int32) (0 : Int32) s)
        refine z_iload C (q := 153) 0 dX10_isWord_151 rfl rfl ?_
        exact z_zret C dX10_isWord_153
      refine z_iconst C (q := 24) dX10_isWord_23 rfl lt_iconst_5 ?_
      refine z_goto C (tgt := 29) dX10_isWord_24 (by decide) ?_
      refine z_istore C (q := 31) [(7, .int (5 : Int32)), (0, .ref (ad 0)), (1, .int v1), (2, .int v2), (3, .int v3), (4, .int v4), (5, .int v5), (6, .int v6)] dX10_isWord_29 rfl (by decide) rfl ?_
      refine z_aload_n C (q := 32) 1 dX10_isWord_31 rfl rfl ?_
      refine z_getI C (q := 35) ob_m fF_X10_118 rfl dX10_isWord_32 rfl ?_
      refine z_iconst C (q := 36) dX10_isWord_35 rfl lt_iconst_1 ?_
      refine z_icmp_ne C (tgt := 52) (q := 39) dX10_isWord_36 (by decide) rfl ?_ ?_
      · refine z_iconst C (q := 53) dX10_isWord_52 rfl lt_iconst_0 ?_
        refine z_istore C (q := 55) [(8, .int (0 : Int32)), (7, .int (5 : Int32)), (0, .ref (ad 0)), (1, .int v1), (2, .int v2), (3, .int v3), (4, .int v4), (5, .int v5), (6, .int v6)] dX10_isWord_53 rfl (by decide) rfl ?_
        refine z_iconst C (q := 56) dX10_isWord_55 rfl lt_iconst_0 ?_
        refine z_istore C (q := 58) [(9, .int (0 : Int32)), (8, .int (0 : Int32)), (7, .int (5 : Int32)), (0, .ref (ad 0)), (1, .int v1), (2, .int v2), (3, .int v3), (4, .int v4), (5, .int v5), (6, .int v6)] dX10_isWord_56 rfl (by decide) rfl ?_
        refine z_sub [3, 4, 5, 6, 7, 8, 9, 2, 1, 0] rfl (l_X10_isWord_58 C v1 v2 v3 v4 v5 v6 (5 : Int32) (fun v8_10 v9_11 s12 => ?_) g_N (0 : Int32) (0 : Int32) s)
        refine z_iload C (q := 153) 0 dX10_isWord_151 rfl rfl ?_
        exact z_zret C dX10_isWord_153
      refine z_aload_n C (q := 40) 1 dX10_isWord_39 rfl rfl ?_
      refine z_getI C (q := 43) ob_m fF_X10_115 rfl dX10_isWord_40 rfl ?_
      refine z_iload C (q := 45) 0 dX10_isWord_43 rfl rfl ?_
      refine z_icmp_ne C (tgt := 52) (q := 48) dX10_isWord_45 (by decide) rfl ?_ ?_
      · refine z_iconst C (q := 53) dX10_isWord_52 rfl lt_iconst_0 ?_
        refine z_istore C (q := 55) [(8, .int (0 : Int32)), (7, .int (5 : Int32)), (0, .ref (ad 0)), (1, .int v1), (2, .int v2), (3, .int v3), (4, .int v4), (5, .int v5), (6, .int v6)] dX10_isWord_53 rfl (by decide) rfl ?_
        refine z_iconst C (q := 56) dX10_isWord_55 rfl lt_iconst_0 ?_
        refine z_istore C (q := 58) [(9, .int (0 : Int32)), (8, .int (0 : Int32)), (7, .int (5 : Int32)), (0, .ref (ad 0)), (1, .int v1), (2, .int v2), (3, .int v3), (4, .int v4), (5, .int v5), (6, .int v6)] dX10_isWord_56 rfl (by decide) rfl ?_
        refine z_sub [3, 4, 5, 6, 7, 8, 9, 2, 1, 0] rfl (l_X10_isWord_58 C v1 v2 v3 v4 v5 v6 (5 : Int32) (fun v8_13 v9_14 s15 => ?_) g_N (0 : Int32) (0 : Int32) s)
        refine z_iload C (q := 153) 0 dX10_isWord_151 rfl rfl ?_
        exact z_zret C dX10_isWord_153
      refine z_iconst C (q := 49) dX10_isWord_48 rfl lt_iconst_1 ?_
      refine z_goto C (tgt := 53) dX10_isWord_49 (by decide) ?_
      refine z_istore C (q := 55) [(8, .int (1 : Int32)), (7, .int (5 : Int32)), (0, .ref (ad 0)), (1, .int v1), (2, .int v2), (3, .int v3), (4, .int v4), (5, .int v5), (6, .int v6)] dX10_isWord_53 rfl (by decide) rfl ?_
      refine z_iconst C (q := 56) dX10_isWord_55 rfl lt_iconst_0 ?_
      refine z_istore C (q := 58) [(9, .int (0 : Int32)), (8, .int (1 : Int32)), (7, .int (5 : Int32)), (0, .ref (ad 0)), (1, .int v1), (2, .int v2), (3, .int v3), (4, .int v4), (5, .int v5), (6, .int v6)] dX10_isWord_56 rfl (by decide) rfl ?_
      refine z_sub [3, 4, 5, 6, 7, 8, 9, 2, 1, 0] rfl (l_X10_isWord_58 C v1 v2 v3 v4 v5 v6 (5 : Int32) (fun v8_16 v9_17 s18 => ?_) g_N (1 : Int32) (0 : Int32) s)
      refine z_iload C (q := 153) 0 dX10_isWord_151 rfl rfl ?_
      exact z_zret C dX10_isWord_153
    refine z_iconst C (q := 15) dX10_isWord_14 rfl lt_iconst_4 ?_
    refine z_goto C (tgt := 29) dX10_isWord_15 (by decide) ?_
    refine z_istore C (q := 31) [(7, .int (4 : Int32)), (0, .ref (ad 0)), (1, .int v1), (2, .int v2), (3, .int v3), (4, .int v4), (5, .int v5), (6, .int v6)] dX10_isWord_29 rfl (by decide) rfl ?_
    refine z_aload_n C (q := 32) 1 dX10_isWord_31 rfl rfl ?_
    refine z_getI C (q := 35) ob_m fF_X10_118 rfl dX10_isWord_32 rfl ?_
    refine z_iconst C (q := 36) dX10_isWord_35 rfl lt_iconst_1 ?_
    refine z_icmp_ne C (tgt := 52) (q := 39) dX10_isWord_36 (by decide) rfl ?_ ?_
    · refine z_iconst C (q := 53) dX10_isWord_52 rfl lt_iconst_0 ?_
      refine z_istore C (q := 55) [(8, .int (0 : Int32)), (7, .int (4 : Int32)), (0, .ref (ad 0)), (1, .int v1), (2, .int v2), (3, .int v3), (4, .int v4), (5, .int v5), (6, .int v6)] dX10_isWord_53 rfl (by decide) rfl ?_
      refine z_iconst C (q := 56) dX10_isWord_55 rfl lt_iconst_0 ?_
      refine z_istore C (q := 58) [(9, .int (0 : Int32)), (8, .int (0 : Int32)), (7, .int (4 : Int32)), (0, .ref (ad 0)), (1, .int v1), (2, .int v2), (3, .int v3), (4, .int v4), (5, .int v5), (6, .int v6)] dX10_isWord_56 rfl (by decide) rfl ?_
      refine z_sub [3, 4, 5, 6, 7, 8, 9, 2, 1, 0] rfl (l_X10_isWord_58 C v1 v2 v3 v4 v5 v6 (4 : Int32) (fun v8_19 v9_20 s21 => ?_) g_N (0 : Int32) (0 : Int32) s)
      refine z_iload C (q := 153) 0 dX10_isWord_151 rfl rfl ?_
      exact z_zret C dX10_isWord_153
    refine z_aload_n C (q := 40) 1 dX10_isWord_39 rfl rfl ?_
    refine z_getI C (q := 43) ob_m fF_X10_115 rfl dX10_isWord_40 rfl ?_
    refine z_iload C (q := 45) 0 dX10_isWord_43 rfl rfl ?_
    refine z_icmp_ne C (tgt := 52) (q := 48) dX10_isWord_45 (by decide) rfl ?_ ?_
    · refine z_iconst C (q := 53) dX10_isWord_52 rfl lt_iconst_0 ?_
      refine z_istore C (q := 55) [(8, .int (0 : Int32)), (7, .int (4 : Int32)), (0, .ref (ad 0)), (1, .int v1), (2, .int v2), (3, .int v3), (4, .int v4), (5, .int v5), (6, .int v6)] dX10_isWord_53 rfl (by decide) rfl ?_
      refine z_iconst C (q := 56) dX10_isWord_55 rfl lt_iconst_0 ?_
      refine z_istore C (q := 58) [(9, .int (0 : Int32)), (8, .int (0 : Int32)), (7, .int (4 : Int32)), (0, .ref (ad 0)), (1, .int v1), (2, .int v2), (3, .int v3), (4, .int v4), (5, .int v5), (6, .int v6)] dX10_isWord_56 rfl (by decide) rfl ?_
      refine z_sub [3, 4, 5, 6, 7, 8, 9, 2, 1, 0] rfl (l_X10_isWord_58 C v1 v2 v3 v4 v5 v6 (4 : Int32) (fun v8_22 v9_23 s24 => ?_) g_N (0 : Int32) (0 : Int32) s)
      refine z_iload C (q := 153) 0 dX10_isWord_151 rfl rfl ?_
      exact z_zret C dX10_isWord_153
    refine z_iconst C (q := 49) dX10_isWord_48 rfl lt_iconst_1 ?_
    refine z_goto C (tgt := 53) dX10_isWord_49 (by decide) ?_
    refine z_istore C (q := 55) [(8, .int (1 : Int32)), (7, .int (4 : Int32)), (0, .ref (ad 0)), (1, .int v1), (2, .int v2), (3, .int v3), (4, .int v4), (5, .int v5), (6, .int v6)] dX10_isWord_53 rfl (by decide) rfl ?_
    refine z_iconst C (q := 56) dX10_isWord_55 rfl lt_iconst_0 ?_
    refine z_istore C (q := 58) [(9, .int (0 : Int32)), (8, .int (1 : Int32)), (7, .int (4 : Int32)), (0, .ref (ad 0)), (1, .int v1), (2, .int v2), (3, .int v3), (4, .int v4), (5, .int v5), (6, .int v6)] dX10_isWord_56 rfl (by decide) rfl ?_
    refine z_sub [3, 4, 5, 6, 7, 8, 9, 2, 1, 0] rfl (l_X10_isWord_58 C v1 v2 v3 v4 v5 v6 (4 : Int32) (fun v8_25 v9_26 s27 => ?_) g_N (1 : Int32) (0 : Int32) s)
    refine z_iload C (q := 153) 0 dX10_isWord_151 rfl rfl ?_
    exact z_zret C dX10_isWord_153
  refine z_iconst C (q := 6) dX10_isWord_5 rfl lt_iconst_3 ?_
  refine z_goto C (tgt := 29) dX10_isWord_6 (by decide) ?_
  refine z_istore C (q := 31) [(7, .int (3 : Int32)), (0, .ref (ad 0)), (1, .int v1), (2, .int v2), (3, .int v3), (4, .int v4), (5, .int v5), (6, .int v6)] dX10_isWord_29 rfl (by decide) rfl ?_
  refine z_aload_n C (q := 32) 1 dX10_isWord_31 rfl rfl ?_
  refine z_getI C (q := 35) ob_m fF_X10_118 rfl dX10_isWord_32 rfl ?_
  refine z_iconst C (q := 36) dX10_isWord_35 rfl lt_iconst_1 ?_
  refine z_icmp_ne C (tgt := 52) (q := 39) dX10_isWord_36 (by decide) rfl ?_ ?_
  · refine z_iconst C (q := 53) dX10_isWord_52 rfl lt_iconst_0 ?_
    refine z_istore C (q := 55) [(8, .int (0 : Int32)), (7, .int (3 : Int32)), (0, .ref (ad 0)), (1, .int v1), (2, .int v2), (3, .int v3), (4, .int v4), (5, .int v5), (6, .int v6)] dX10_isWord_53 rfl (by decide) rfl ?_
    refine z_iconst C (q := 56) dX10_isWord_55 rfl lt_iconst_0 ?_
    refine z_istore C (q := 58) [(9, .int (0 : Int32)), (8, .int (0 : Int32)), (7, .int (3 : Int32)), (0, .ref (ad 0)), (1, .int v1), (2, .int v2), (3, .int v3), (4, .int v4), (5, .int v5), (6, .int v6)] dX10_isWord_56 rfl (by decide) rfl ?_
    refine z_sub [3, 4, 5, 6, 7, 8, 9, 2, 1, 0] rfl (l_X10_isWord_58 C v1 v2 v3 v4 v5 v6 (3 : Int32) (fun v8_28 v9_29 s30 => ?_) g_N (0 : Int32) (0 : Int32) s)
    refine z_iload C (q := 153) 0 dX10_isWord_151 rfl rfl ?_
    exact z_zret C dX10_isWord_153
  refine z_aload_n C (q := 40) 1 dX10_isWord_39 rfl rfl ?_
  refine z_getI C (q := 43) ob_m fF_X10_115 rfl dX10_isWord_40 rfl ?_
  refine z_iload C (q := 45) 0 dX10_isWord_43 rfl rfl ?_
  refine z_icmp_ne C (tgt := 52) (q := 48) dX10_isWord_45 (by decide) rfl ?_ ?_
  · refine z_iconst C (q := 53) dX10_isWord_52 rfl lt_iconst_0 ?_
    refine z_istore C (q := 55) [(8, .int (0 : Int32)), (7, .int (3 : Int32)), (0, .ref (ad 0)), (1, .int v1), (2, .int v2), (3, .int v3), (4, .int v4), (5, .int v5), (6, .int v6)] dX10_isWord_53 rfl (by decide) rfl ?_
    refine z_iconst C (q := 56) dX10_isWord_55 rfl lt_iconst_0 ?_
    refine z_istore C (q := 58) [(9, .int (0 : Int32)), (8, .int (0 : Int32)), (7, .int (3 : Int32)), (0, .ref (ad 0)), (1, .int v1), (2, .int v2), (3, .int v3), (4, .int v4), (5, .int v5), (6, .int v6)] dX10_isWord_56 rfl (by decide) rfl ?_
    refine z_sub [3, 4, 5, 6, 7, 8, 9, 2, 1, 0] rfl (l_X10_isWord_58 C v1 v2 v3 v4 v5 v6 (3 : Int32) (fun v8_31 v9_32 s33 => ?_) g_N (0 : Int32) (0 : Int32) s)
    refine z_iload C (q := 153) 0 dX10_isWord_151 rfl rfl ?_
    exact z_zret C dX10_isWord_153
  refine z_iconst C (q := 49) dX10_isWord_48 rfl lt_iconst_1 ?_
  refine z_goto C (tgt := 53) dX10_isWord_49 (by decide) ?_
  refine z_istore C (q := 55) [(8, .int (1 : Int32)), (7, .int (3 : Int32)), (0, .ref (ad 0)), (1, .int v1), (2, .int v2), (3, .int v3), (4, .int v4), (5, .int v5), (6, .int v6)] dX10_isWord_53 rfl (by decide) rfl ?_
  refine z_iconst C (q := 56) dX10_isWord_55 rfl lt_iconst_0 ?_
  refine z_istore C (q := 58) [(9, .int (0 : Int32)), (8, .int (1 : Int32)), (7, .int (3 : Int32)), (0, .ref (ad 0)), (1, .int v1), (2, .int v2), (3, .int v3), (4, .int v4), (5, .int v5), (6, .int v6)] dX10_isWord_56 rfl (by decide) rfl ?_
  refine z_sub [3, 4, 5, 6, 7, 8, 9, 2, 1, 0] rfl (l_X10_isWord_58 C v1 v2 v3 v4 v5 v6 (3 : Int32) (fun v8_34 v9_35 s36 => ?_) g_N (1 : Int32) (0 : Int32) s)
  refine z_iload C (q := 153) 0 dX10_isWord_151 rfl rfl ?_
  exact z_zret C dX10_isWord_153
set_option maxRecDepth 100000 in
set_option maxHeartbeats 4000000 in
theorem m_X10_faults (G : gG) {ad : Nat → Nat} (hap : g_ap LM ad)   (v1 : Int32) (s : gS) : g_M G LM ad yX10_faults cX10_faults 2 (some .boolean) 0 [.ref (ad 0), .int v1] s (f_X10_faults v1 s) := by
  refine g_entry (by decide) hap (Nat.le_of_ble_eq_true rfl) [(0, .ref (ad 0)), (1, .int v1)] rfl (fun X C => ?_)
  unfold f_X10_faults
  refine z_aload_n C (q := 1) 0 dX10_faults_0 rfl rfl ?_
  refine z_iload_n C (q := 2) 1 dX10_faults_1 rfl rfl ?_
  refine z_putI C (q := 5) ob_m fP_X10_135 rfl dX10_faults_2 rfl (fun s1 => ?_)
  refine z_iconst C (q := 6) dX10_faults_5 rfl lt_iconst_0 ?_
  exact z_zretK C (by decide) dX10_faults_6
set_option maxRecDepth 100000 in
set_option maxHeartbeats 4000000 in
theorem m_X10_takes (G : gG) {ad : Nat → Nat} (hap : g_ap LM ad)   (v1 : Int32) (v2 : Int32) (s : gS) : g_M G LM ad yX10_takes cX10_takes 3 (some .boolean) 4 [.ref (ad 0), .int v1, .int v2] s (f_X10_takes v1 v2 s) := by
  refine g_entry (by decide) hap (Nat.le_of_ble_eq_true rfl) [(0, .ref (ad 0)), (1, .int v1), (2, .int v2)] rfl (fun X C => ?_)
  unfold f_X10_takes
  refine z_aload_n C (q := 1) 0 dX10_takes_0 rfl rfl ?_
  refine z_getI C (q := 4) ob_m fF_X10_118 rfl dX10_takes_1 rfl ?_
  refine z_iconst C (q := 5) dX10_takes_4 rfl lt_iconst_2 ?_
  refine z_icmp_eq C (tgt := 14) (q := 8) dX10_takes_5 (by decide) rfl ?_ ?_
  · refine z_aload_n C (q := 15) 0 dX10_takes_14 rfl rfl ?_
    refine z_getI C (q := 18) ob_m fF_X10_121 rfl dX10_takes_15 rfl ?_
    refine z_i2l C (q := 19) dX10_takes_18 rfl ?_
    refine z_iload_n C (q := 20) 1 dX10_takes_19 rfl rfl ?_
    refine z_i2l C (q := 21) dX10_takes_20 rfl ?_
    refine z_iload_n C (q := 22) 2 dX10_takes_21 rfl rfl ?_
    refine z_i2l C (q := 23) dX10_takes_22 rfl ?_
    refine z_callS C (q := 26) [.long (((s.1 0 21)).toInt64), .long (v1.toInt64), .long (v2.toInt64)] gl_X10_91 wm_198 (m_X10_in G (g_Kap C) (((s.1 0 21)).toInt64) (v1.toInt64) (v2.toInt64) _) rfl rfl (Nat.le_of_ble_eq_true rfl) ⟨by decide, by decide⟩ dX10_takes_23 rfl (z_ki (fun r2 s1 => ?_))
    refine z_if_ne C (tgt := 35) (q := 29) dX10_takes_26 (by decide) rfl ?_ ?_
    · refine z_aload_n C (q := 36) 0 dX10_takes_35 rfl rfl ?_
      refine z_aload_n C (q := 37) 0 dX10_takes_36 rfl rfl ?_
      refine z_getI C (q := 40) ob_m fF_X10_121 rfl dX10_takes_37 rfl ?_
      refine z_putI C (q := 43) ob_m fP_X10_141 rfl dX10_takes_40 rfl (fun s3 => ?_)
      refine z_aload_n C (q := 44) 0 dX10_takes_43 rfl rfl ?_
      refine z_callV C (q := 47) [] gl_X10_144 glv_X10_goOn ob_m rfl (m_X10_goOn G (g_Kap C)  _) rfl rfl (Nat.le_of_ble_eq_true rfl) ⟨by decide, by decide⟩ dX10_takes_44 rfl (z_kv (fun s4 => ?_))
      refine z_iconst C (q := 48) dX10_takes_47 rfl lt_iconst_1 ?_
      exact z_zretK C (by decide) dX10_takes_48
    refine z_aload_n C (q := 30) 0 dX10_takes_29 rfl rfl ?_
    refine z_iconst C (q := 31) dX10_takes_30 rfl lt_iconst_2 ?_
    refine z_callV C (q := 34) [.int (2 : Int32)] gl_X10_138 glv_X10_faults ob_m rfl (m_X10_faults G (g_Kap C) (2 : Int32) _) rfl rfl (Nat.le_of_ble_eq_true rfl) ⟨by decide, by decide⟩ dX10_takes_31 rfl (z_ki (fun r6 s5 => ?_))
    exact z_zret C dX10_takes_34
  refine z_aload_n C (q := 9) 0 dX10_takes_8 rfl rfl ?_
  refine z_iconst C (q := 10) dX10_takes_9 rfl lt_iconst_1 ?_
  refine z_callV C (q := 13) [.int (1 : Int32)] gl_X10_138 glv_X10_faults ob_m rfl (m_X10_faults G (g_Kap C) (1 : Int32) _) rfl rfl (Nat.le_of_ble_eq_true rfl) ⟨by decide, by decide⟩ dX10_takes_10 rfl (z_ki (fun r8 s7 => ?_))
  exact z_zret C dX10_takes_13
set_option maxRecDepth 100000 in
set_option maxHeartbeats 4000000 in
theorem m_X10_stops (G : gG) {ad : Nat → Nat} (hap : g_ap LM ad)    (s : gS) : g_M G LM ad yX10_stops cX10_stops 1 (some .boolean) 4 [.ref (ad 0)] s (f_X10_stops s) := by
  refine g_entry (by decide) hap (Nat.le_of_ble_eq_true rfl) [(0, .ref (ad 0))] rfl (fun X C => ?_)
  unfold f_X10_stops
  refine z_aload_n C (q := 1) 0 dX10_stops_0 rfl rfl ?_
  refine z_getI C (q := 4) ob_m fF_X10_118 rfl dX10_stops_1 rfl ?_
  refine z_iconst C (q := 5) dX10_stops_4 rfl lt_iconst_3 ?_
  refine z_icmp_eq C (tgt := 14) (q := 8) dX10_stops_5 (by decide) rfl ?_ ?_
  · refine z_aload_n C (q := 15) 0 dX10_stops_14 rfl rfl ?_
    refine z_callV C (q := 18) [] gl_X10_144 glv_X10_goOn ob_m rfl (m_X10_goOn G (g_Kap C)  _) rfl rfl (Nat.le_of_ble_eq_true rfl) ⟨by decide, by decide⟩ dX10_stops_15 rfl (z_kv (fun s1 => ?_))
    refine z_iconst C (q := 19) dX10_stops_18 rfl lt_iconst_1 ?_
    exact z_zretK C (by decide) dX10_stops_19
  refine z_aload_n C (q := 9) 0 dX10_stops_8 rfl rfl ?_
  refine z_iconst C (q := 10) dX10_stops_9 rfl lt_iconst_1 ?_
  refine z_callV C (q := 13) [.int (1 : Int32)] gl_X10_138 glv_X10_faults ob_m rfl (m_X10_faults G (g_Kap C) (1 : Int32) _) rfl rfl (Nat.le_of_ble_eq_true rfl) ⟨by decide, by decide⟩ dX10_stops_10 rfl (z_ki (fun r3 s2 => ?_))
  exact z_zret C dX10_stops_13
set_option maxRecDepth 100000 in
set_option maxHeartbeats 4000000 in
theorem m_X10_takesX (G : gG) {ad : Nat → Nat} (hap : g_ap LM ad)    (s : gS) : g_M G LM ad yX10_takesX cX10_takesX 1 (some .boolean) 5 [.ref (ad 0)] s (f_X10_takesX s) := by
  refine g_entry (by decide) hap (Nat.le_of_ble_eq_true rfl) [(0, .ref (ad 0))] rfl (fun X C => ?_)
  unfold f_X10_takesX
  refine z_aload_n C (q := 1) 0 dX10_takesX_0 rfl rfl ?_
  refine z_iconst C (q := 2) dX10_takesX_1 rfl lt_iconst_0 ?_
  refine z_aload_n C (q := 3) 0 dX10_takesX_2 rfl rfl ?_
  refine z_getI C (q := 6) ob_m fF_X10_147 rfl dX10_takesX_3 rfl ?_
  refine z_iconst C (q := 7) dX10_takesX_6 rfl lt_iconst_1 ?_
  refine z_isub C (q := 8) dX10_takesX_7 rfl ?_
  refine z_callV C (q := 11) [.int (0 : Int32), .int ((s.1 0 22) - (1 : Int32))] gl_X10_150 glv_X10_takes ob_m rfl (m_X10_takes G (g_Kap C) (0 : Int32) ((s.1 0 22) - (1 : Int32)) _) rfl rfl (Nat.le_of_ble_eq_true rfl) ⟨by decide, by decide⟩ dX10_takesX_8 rfl (z_ki (fun r2 s1 => ?_))
  exact z_zret C dX10_takesX_11
set_option maxRecDepth 100000 in
set_option maxHeartbeats 4000000 in
theorem m_X10_seesY (G : gG) {ad : Nat → Nat} (hap : g_ap LM ad)   (v1 : Int32) (s : gS) : g_M G LM ad yX10_seesY cX10_seesY 2 (some .boolean) 1 [.ref (ad 0), .int v1] s (f_X10_seesY v1 s) := by
  refine g_entry (by decide) hap (Nat.le_of_ble_eq_true rfl) [(0, .ref (ad 0)), (1, .int v1)] rfl (fun X C => ?_)
  unfold f_X10_seesY
  refine z_aload_n C (q := 1) 0 dX10_seesY_0 rfl rfl ?_
  refine z_getI C (q := 4) ob_m fF_X10_118 rfl dX10_seesY_1 rfl ?_
  refine z_iconst C (q := 5) dX10_seesY_4 rfl lt_iconst_2 ?_
  refine z_icmp_eq C (tgt := 14) (q := 8) dX10_seesY_5 (by decide) rfl ?_ ?_
  · refine z_aload_n C (q := 15) 0 dX10_seesY_14 rfl rfl ?_
    refine z_getI C (q := 18) ob_m fF_X10_121 rfl dX10_seesY_15 rfl ?_
    refine z_i2l C (q := 19) dX10_seesY_18 rfl ?_
    refine z_lconst C (q := 20) (v := 0) dX10_seesY_19 rfl rfl ?_
    refine z_aload_n C (q := 21) 0 dX10_seesY_20 rfl rfl ?_
    refine z_getI C (q := 24) ob_m fF_X10_154 rfl dX10_seesY_21 rfl ?_
    refine z_iconst C (q := 25) dX10_seesY_24 rfl lt_iconst_1 ?_
    refine z_isub C (q := 26) dX10_seesY_25 rfl ?_
    refine z_i2l C (q := 27) dX10_seesY_26 rfl ?_
    refine z_callS C (q := 30) [.long (((s.1 0 21)).toInt64), .long (0 : Int64), .long ((((s.1 0 23) - (1 : Int32))).toInt64)] gl_X10_91 wm_198 (m_X10_in G (g_Kap C) (((s.1 0 21)).toInt64) (0 : Int64) ((((s.1 0 23) - (1 : Int32))).toInt64) _) rfl rfl (Nat.le_of_ble_eq_true rfl) ⟨by decide, by decide⟩ dX10_seesY_27 rfl (z_ki (fun r2 s1 => ?_))
    refine z_if_ne C (tgt := 39) (q := 33) dX10_seesY_30 (by decide) rfl ?_ ?_
    · refine z_aload_n C (q := 40) 0 dX10_seesY_39 rfl rfl ?_
      refine z_aload_n C (q := 41) 0 dX10_seesY_40 rfl rfl ?_
      refine z_getI C (q := 44) ob_m fF_X10_147 rfl dX10_seesY_41 rfl ?_
      refine z_aload_n C (q := 45) 0 dX10_seesY_44 rfl rfl ?_
      refine z_getI C (q := 48) ob_m fF_X10_121 rfl dX10_seesY_45 rfl ?_
      refine z_imul C (q := 49) dX10_seesY_48 rfl ?_
      refine z_iload_n C (q := 50) 1 dX10_seesY_49 rfl rfl ?_
      refine z_iadd C (q := 51) dX10_seesY_50 rfl ?_
      refine z_putI C (q := 54) ob_m fP_X10_157 rfl dX10_seesY_51 rfl (fun s3 => ?_)
      refine z_iconst C (q := 55) dX10_seesY_54 rfl lt_iconst_1 ?_
      exact z_zretK C (by decide) dX10_seesY_55
    refine z_aload_n C (q := 34) 0 dX10_seesY_33 rfl rfl ?_
    refine z_iconst C (q := 35) dX10_seesY_34 rfl lt_iconst_2 ?_
    refine z_callV C (q := 38) [.int (2 : Int32)] gl_X10_138 glv_X10_faults ob_m rfl (m_X10_faults G (g_Kap C) (2 : Int32) _) rfl rfl (Nat.le_of_ble_eq_true rfl) ⟨by decide, by decide⟩ dX10_seesY_35 rfl (z_ki (fun r5 s4 => ?_))
    exact z_zret C dX10_seesY_38
  refine z_aload_n C (q := 9) 0 dX10_seesY_8 rfl rfl ?_
  refine z_iconst C (q := 10) dX10_seesY_9 rfl lt_iconst_1 ?_
  refine z_callV C (q := 13) [.int (1 : Int32)] gl_X10_138 glv_X10_faults ob_m rfl (m_X10_faults G (g_Kap C) (1 : Int32) _) rfl rfl (Nat.le_of_ble_eq_true rfl) ⟨by decide, by decide⟩ dX10_seesY_10 rfl (z_ki (fun r7 s6 => ?_))
  exact z_zret C dX10_seesY_13
set_option maxRecDepth 100000 in
set_option maxHeartbeats 4000000 in
theorem m_X10_readsMeadow (G : gG) {ad : Nat → Nat} (hap : g_ap LM ad)    (s : gS) : g_M G LM ad yX10_readsMeadow cX10_readsMeadow 1 (some .boolean) 5 [.ref (ad 0)] s (f_X10_readsMeadow s) := by
  refine g_entry (by decide) hap (Nat.le_of_ble_eq_true rfl) [(0, .ref (ad 0))] rfl (fun X C => ?_)
  unfold f_X10_readsMeadow
  refine z_aload_n C (q := 1) 0 dX10_readsMeadow_0 rfl rfl ?_
  refine z_bipush C (q := 3) dX10_readsMeadow_1 rfl lt_bipush_109 ?_
  refine z_bipush C (q := 5) dX10_readsMeadow_3 rfl lt_bipush_101 ?_
  refine z_bipush C (q := 7) dX10_readsMeadow_5 rfl lt_bipush_97 ?_
  refine z_bipush C (q := 9) dX10_readsMeadow_7 rfl lt_bipush_100 ?_
  refine z_bipush C (q := 11) dX10_readsMeadow_9 rfl lt_bipush_111 ?_
  refine z_bipush C (q := 13) dX10_readsMeadow_11 rfl lt_bipush_119 ?_
  refine z_callV C (q := 16) [.int (109 : Int32), .int (101 : Int32), .int (97 : Int32), .int (100 : Int32), .int (111 : Int32), .int (119 : Int32)] gl_X10_160 glv_X10_isWord ob_m rfl (m_X10_isWord G (g_Kap C) (109 : Int32) (101 : Int32) (97 : Int32) (100 : Int32) (111 : Int32) (119 : Int32) _) rfl rfl (Nat.le_of_ble_eq_true rfl) ⟨by decide, by decide⟩ dX10_readsMeadow_13 rfl (z_ki (fun r2 s1 => ?_))
  refine z_if_ne C (tgt := 25) (q := 19) dX10_readsMeadow_16 (by decide) rfl ?_ ?_
  · refine z_aload_n C (q := 26) 0 dX10_readsMeadow_25 rfl rfl ?_
    refine z_callV C (q := 29) [] gl_X10_144 glv_X10_goOn ob_m rfl (m_X10_goOn G (g_Kap C)  _) rfl rfl (Nat.le_of_ble_eq_true rfl) ⟨by decide, by decide⟩ dX10_readsMeadow_26 rfl (z_kv (fun s3 => ?_))
    refine z_aload_n C (q := 30) 0 dX10_readsMeadow_29 rfl rfl ?_
    refine z_iconst C (q := 31) dX10_readsMeadow_30 rfl lt_iconst_1 ?_
    refine z_bipush C (q := 33) dX10_readsMeadow_31 rfl lt_bipush_9 ?_
    refine z_callV C (q := 36) [.int (1 : Int32), .int (9 : Int32)] gl_X10_150 glv_X10_takes ob_m rfl (m_X10_takes G (g_Kap C) (1 : Int32) (9 : Int32) _) rfl rfl (Nat.le_of_ble_eq_true rfl) ⟨by decide, by decide⟩ dX10_readsMeadow_33 rfl (z_ki (fun r5 s4 => ?_))
    refine z_if_ne C (tgt := 41) (q := 39) dX10_readsMeadow_36 (by decide) rfl ?_ ?_
    · refine z_aload_n C (q := 42) 0 dX10_readsMeadow_41 rfl rfl ?_
      refine z_aload_n C (q := 43) 0 dX10_readsMeadow_42 rfl rfl ?_
      refine z_getI C (q := 46) ob_m fF_X10_141 rfl dX10_readsMeadow_43 rfl ?_
      refine z_putI C (q := 49) ob_m fP_X10_147 rfl dX10_readsMeadow_46 rfl (fun s6 => ?_)
      refine z_aload_n C (q := 50) 0 dX10_readsMeadow_49 rfl rfl ?_
      refine z_getI C (q := 53) ob_m fF_X10_118 rfl dX10_readsMeadow_50 rfl ?_
      refine z_iconst C (q := 54) dX10_readsMeadow_53 rfl lt_iconst_2 ?_
      refine z_icmp_ne C (tgt := 92) (q := 57) dX10_readsMeadow_54 (by decide) rfl ?_ ?_
      · refine z_aload_n C (q := 93) 0 dX10_readsMeadow_92 rfl rfl ?_
        refine z_iconst C (q := 94) dX10_readsMeadow_93 rfl lt_iconst_1 ?_
        refine z_bipush C (q := 96) dX10_readsMeadow_94 rfl lt_bipush_9 ?_
        refine z_callV C (q := 99) [.int (1 : Int32), .int (9 : Int32)] gl_X10_150 glv_X10_takes ob_m rfl (m_X10_takes G (g_Kap C) (1 : Int32) (9 : Int32) _) rfl rfl (Nat.le_of_ble_eq_true rfl) ⟨by decide, by decide⟩ dX10_readsMeadow_96 rfl (z_ki (fun r8 s7 => ?_))
        refine z_if_ne C (tgt := 104) (q := 102) dX10_readsMeadow_99 (by decide) rfl ?_ ?_
        · refine z_aload_n C (q := 105) 0 dX10_readsMeadow_104 rfl rfl ?_
          refine z_aload_n C (q := 106) 0 dX10_readsMeadow_105 rfl rfl ?_
          refine z_getI C (q := 109) ob_m fF_X10_141 rfl dX10_readsMeadow_106 rfl ?_
          refine z_putI C (q := 112) ob_m fP_X10_154 rfl dX10_readsMeadow_109 rfl (fun s9 => ?_)
          refine z_aload_n C (q := 113) 0 dX10_readsMeadow_112 rfl rfl ?_
          refine z_callV C (q := 116) [] gl_X10_166 glv_X10_stops ob_m rfl (m_X10_stops G (g_Kap C)  _) rfl rfl (Nat.le_of_ble_eq_true rfl) ⟨by decide, by decide⟩ dX10_readsMeadow_113 rfl (z_ki (fun r11 s10 => ?_))
          exact z_zret C dX10_readsMeadow_116
        refine z_iconst C (q := 103) dX10_readsMeadow_102 rfl lt_iconst_0 ?_
        exact z_zretK C (by decide) dX10_readsMeadow_103
      refine z_aload_n C (q := 58) 0 dX10_readsMeadow_57 rfl rfl ?_
      refine z_getI C (q := 61) ob_m fF_X10_121 rfl dX10_readsMeadow_58 rfl ?_
      refine z_i2l C (q := 62) dX10_readsMeadow_61 rfl ?_
      refine z_lconst C (q := 63) (v := 1) dX10_readsMeadow_62 rfl rfl ?_
      refine z_ldc2 C (q := 66) dX10_readsMeadow_63 rfl wm_418 ?_
      refine z_callS C (q := 69) [.long (((s6.1 0 21)).toInt64), .long (1 : Int64), .long (9 : Int64)] gl_X10_91 wm_198 (m_X10_in G (g_Kap C) (((s6.1 0 21)).toInt64) (1 : Int64) (9 : Int64) _) rfl rfl (Nat.le_of_ble_eq_true rfl) ⟨by decide, by decide⟩ dX10_readsMeadow_66 rfl (z_ki (fun r13 s12 => ?_))
      refine z_if_eq C (tgt := 92) (q := 72) dX10_readsMeadow_69 (by decide) rfl ?_ ?_
      · refine z_aload_n C (q := 93) 0 dX10_readsMeadow_92 rfl rfl ?_
        refine z_iconst C (q := 94) dX10_readsMeadow_93 rfl lt_iconst_1 ?_
        refine z_bipush C (q := 96) dX10_readsMeadow_94 rfl lt_bipush_9 ?_
        refine z_callV C (q := 99) [.int (1 : Int32), .int (9 : Int32)] gl_X10_150 glv_X10_takes ob_m rfl (m_X10_takes G (g_Kap C) (1 : Int32) (9 : Int32) _) rfl rfl (Nat.le_of_ble_eq_true rfl) ⟨by decide, by decide⟩ dX10_readsMeadow_96 rfl (z_ki (fun r15 s14 => ?_))
        refine z_if_ne C (tgt := 104) (q := 102) dX10_readsMeadow_99 (by decide) rfl ?_ ?_
        · refine z_aload_n C (q := 105) 0 dX10_readsMeadow_104 rfl rfl ?_
          refine z_aload_n C (q := 106) 0 dX10_readsMeadow_105 rfl rfl ?_
          refine z_getI C (q := 109) ob_m fF_X10_141 rfl dX10_readsMeadow_106 rfl ?_
          refine z_putI C (q := 112) ob_m fP_X10_154 rfl dX10_readsMeadow_109 rfl (fun s16 => ?_)
          refine z_aload_n C (q := 113) 0 dX10_readsMeadow_112 rfl rfl ?_
          refine z_callV C (q := 116) [] gl_X10_166 glv_X10_stops ob_m rfl (m_X10_stops G (g_Kap C)  _) rfl rfl (Nat.le_of_ble_eq_true rfl) ⟨by decide, by decide⟩ dX10_readsMeadow_113 rfl (z_ki (fun r18 s17 => ?_))
          exact z_zret C dX10_readsMeadow_116
        refine z_iconst C (q := 103) dX10_readsMeadow_102 rfl lt_iconst_0 ?_
        exact z_zretK C (by decide) dX10_readsMeadow_103
      refine z_aload_n C (q := 73) 0 dX10_readsMeadow_72 rfl rfl ?_
      refine z_getI C (q := 76) ob_m fF_X10_147 rfl dX10_readsMeadow_73 rfl ?_
      refine z_aload_n C (q := 77) 0 dX10_readsMeadow_76 rfl rfl ?_
      refine z_getI C (q := 80) ob_m fF_X10_121 rfl dX10_readsMeadow_77 rfl ?_
      refine z_imul C (q := 81) dX10_readsMeadow_80 rfl ?_
      refine z_bipush C (q := 83) dX10_readsMeadow_81 rfl lt_bipush_40 ?_
      refine z_icmp_le C (tgt := 92) (q := 86) dX10_readsMeadow_83 (by decide) rfl ?_ ?_
      · refine z_aload_n C (q := 93) 0 dX10_readsMeadow_92 rfl rfl ?_
        refine z_iconst C (q := 94) dX10_readsMeadow_93 rfl lt_iconst_1 ?_
        refine z_bipush C (q := 96) dX10_readsMeadow_94 rfl lt_bipush_9 ?_
        refine z_callV C (q := 99) [.int (1 : Int32), .int (9 : Int32)] gl_X10_150 glv_X10_takes ob_m rfl (m_X10_takes G (g_Kap C) (1 : Int32) (9 : Int32) _) rfl rfl (Nat.le_of_ble_eq_true rfl) ⟨by decide, by decide⟩ dX10_readsMeadow_96 rfl (z_ki (fun r20 s19 => ?_))
        refine z_if_ne C (tgt := 104) (q := 102) dX10_readsMeadow_99 (by decide) rfl ?_ ?_
        · refine z_aload_n C (q := 105) 0 dX10_readsMeadow_104 rfl rfl ?_
          refine z_aload_n C (q := 106) 0 dX10_readsMeadow_105 rfl rfl ?_
          refine z_getI C (q := 109) ob_m fF_X10_141 rfl dX10_readsMeadow_106 rfl ?_
          refine z_putI C (q := 112) ob_m fP_X10_154 rfl dX10_readsMeadow_109 rfl (fun s21 => ?_)
          refine z_aload_n C (q := 113) 0 dX10_readsMeadow_112 rfl rfl ?_
          refine z_callV C (q := 116) [] gl_X10_166 glv_X10_stops ob_m rfl (m_X10_stops G (g_Kap C)  _) rfl rfl (Nat.le_of_ble_eq_true rfl) ⟨by decide, by decide⟩ dX10_readsMeadow_113 rfl (z_ki (fun r23 s22 => ?_))
          exact z_zret C dX10_readsMeadow_116
        refine z_iconst C (q := 103) dX10_readsMeadow_102 rfl lt_iconst_0 ?_
        exact z_zretK C (by decide) dX10_readsMeadow_103
      refine z_aload_n C (q := 87) 0 dX10_readsMeadow_86 rfl rfl ?_
      refine z_iconst C (q := 88) dX10_readsMeadow_87 rfl lt_iconst_2 ?_
      refine z_callV C (q := 91) [.int (2 : Int32)] gl_X10_138 glv_X10_faults ob_m rfl (m_X10_faults G (g_Kap C) (2 : Int32) _) rfl rfl (Nat.le_of_ble_eq_true rfl) ⟨by decide, by decide⟩ dX10_readsMeadow_88 rfl (z_ki (fun r25 s24 => ?_))
      exact z_zret C dX10_readsMeadow_91
    refine z_iconst C (q := 40) dX10_readsMeadow_39 rfl lt_iconst_0 ?_
    exact z_zretK C (by decide) dX10_readsMeadow_40
  refine z_aload_n C (q := 20) 0 dX10_readsMeadow_19 rfl rfl ?_
  refine z_iconst C (q := 21) dX10_readsMeadow_20 rfl lt_iconst_1 ?_
  refine z_callV C (q := 24) [.int (1 : Int32)] gl_X10_138 glv_X10_faults ob_m rfl (m_X10_faults G (g_Kap C) (1 : Int32) _) rfl rfl (Nat.le_of_ble_eq_true rfl) ⟨by decide, by decide⟩ dX10_readsMeadow_21 rfl (z_ki (fun r27 s26 => ?_))
  exact z_zret C dX10_readsMeadow_24
set_option maxRecDepth 100000 in
set_option maxHeartbeats 4000000 in
theorem m_X10_readsGrass (G : gG) {ad : Nat → Nat} (hap : g_ap LM ad)    (s : gS) : g_M G LM ad yX10_readsGrass cX10_readsGrass 2 (some .boolean) 6 [.ref (ad 0)] s (f_X10_readsGrass s) := by
  refine g_entry (by decide) hap (Nat.le_of_ble_eq_true rfl) [(0, .ref (ad 0))] rfl (fun X C => ?_)
  unfold f_X10_readsGrass
  refine z_aload_n C (q := 1) 0 dX10_readsGrass_0 rfl rfl ?_
  refine z_getI C (q := 4) ob_m fF_X10_170 rfl dX10_readsGrass_1 rfl ?_
  refine z_bipush C (q := 6) dX10_readsGrass_4 rfl lt_bipush_20 ?_
  refine z_icmp_ne C (tgt := 15) (q := 9) dX10_readsGrass_6 (by decide) rfl ?_ ?_
  · refine z_aload_n C (q := 16) 0 dX10_readsGrass_15 rfl rfl ?_
    refine z_dup C (q := 17) dX10_readsGrass_16 rfl rfl ?_
    refine z_getI C (q := 20) ob_m fF_X10_170 rfl dX10_readsGrass_17 rfl ?_
    refine z_iconst C (q := 21) dX10_readsGrass_20 rfl lt_iconst_1 ?_
    refine z_iadd C (q := 22) dX10_readsGrass_21 rfl ?_
    refine z_putI C (q := 25) ob_m fP_X10_170 rfl dX10_readsGrass_22 rfl (fun s1 => ?_)
    refine z_aload_n C (q := 26) 0 dX10_readsGrass_25 rfl rfl ?_
    refine z_callV C (q := 29) [] gl_X10_144 glv_X10_goOn ob_m rfl (m_X10_goOn G (g_Kap C)  _) rfl rfl (Nat.le_of_ble_eq_true rfl) ⟨by decide, by decide⟩ dX10_readsGrass_26 rfl (z_kv (fun s2 => ?_))
    refine z_aload_n C (q := 30) 0 dX10_readsGrass_29 rfl rfl ?_
    refine z_callV C (q := 33) [] gl_X10_173 glv_X10_takesX ob_m rfl (m_X10_takesX G (g_Kap C)  _) rfl rfl (Nat.le_of_ble_eq_true rfl) ⟨by decide, by decide⟩ dX10_readsGrass_30 rfl (z_ki (fun r4 s3 => ?_))
    refine z_if_eq C (tgt := 47) (q := 36) dX10_readsGrass_33 (by decide) rfl ?_ ?_
    · refine z_iconst C (q := 48) dX10_readsGrass_47 rfl lt_iconst_0 ?_
      exact z_zretK C (by decide) dX10_readsGrass_48
    refine z_aload_n C (q := 37) 0 dX10_readsGrass_36 rfl rfl ?_
    refine z_aload_n C (q := 38) 0 dX10_readsGrass_37 rfl rfl ?_
    refine z_getI C (q := 41) ob_m fF_X10_141 rfl dX10_readsGrass_38 rfl ?_
    refine z_callV C (q := 44) [.int (s3.1 0 38)] gl_X10_176 glv_X10_seesY ob_m rfl (m_X10_seesY G (g_Kap C) (s3.1 0 38) _) rfl rfl (Nat.le_of_ble_eq_true rfl) ⟨by decide, by decide⟩ dX10_readsGrass_41 rfl (z_ki (fun r6 s5 => ?_))
    refine z_if_ne C (tgt := 49) (q := 47) dX10_readsGrass_44 (by decide) rfl ?_ ?_
    · refine z_aload_n C (q := 50) 0 dX10_readsGrass_49 rfl rfl ?_
      refine z_getR C (q := 53) ob_m fF_X10_60 rfl dX10_readsGrass_50 rfl ?_
      refine z_aload_n C (q := 54) 0 dX10_readsGrass_53 rfl rfl ?_
      refine z_getI C (q := 57) ob_m fF_X10_157 rfl dX10_readsGrass_54 rfl ?_
      refine z_zald C (q := 58) ar_m15 dX10_readsGrass_57 rfl ?_
      refine z_if_eq C (tgt := 67) (q := 61) dX10_readsGrass_58 (by decide) rfl ?_ ?_
      · refine z_aload_n C (q := 68) 0 dX10_readsGrass_67 rfl rfl ?_
        refine z_getR C (q := 71) ob_m fF_X10_60 rfl dX10_readsGrass_68 rfl ?_
        refine z_aload_n C (q := 72) 0 dX10_readsGrass_71 rfl rfl ?_
        refine z_getI C (q := 75) ob_m fF_X10_157 rfl dX10_readsGrass_72 rfl ?_
        refine z_iconst C (q := 76) dX10_readsGrass_75 rfl lt_iconst_1 ?_
        refine z_zast C (q := 77) ar_m15 dX10_readsGrass_76 rfl (fun s7 => ?_)
        refine z_aload_n C (q := 78) 0 dX10_readsGrass_77 rfl rfl ?_
        refine z_getI C (q := 81) ob_m fF_X10_157 rfl dX10_readsGrass_78 rfl ?_
        refine z_leti (fun v1_8 => ?_)
        refine z_istore_n C (q := 82) [(1, .int v1_8), (0, .ref (ad 0))] dX10_readsGrass_81 rfl rfl (by decide) rfl ?_
        refine z_aload_n C (q := 83) 1 dX10_readsGrass_82 rfl rfl ?_
        refine z_callV C (q := 86) [] gl_X10_144 glv_X10_goOn ob_m rfl (m_X10_goOn G (g_Kap C)  _) rfl rfl (Nat.le_of_ble_eq_true rfl) ⟨by decide, by decide⟩ dX10_readsGrass_83 rfl (z_kv (fun s9 => ?_))
        refine z_aload_n C (q := 87) 1 dX10_readsGrass_86 rfl rfl ?_
        refine z_iconst C (q := 88) dX10_readsGrass_87 rfl lt_iconst_0 ?_
        refine z_bipush C (q := 90) dX10_readsGrass_88 rfl lt_bipush_9 ?_
        refine z_callV C (q := 93) [.int (0 : Int32), .int (9 : Int32)] gl_X10_150 glv_X10_takes ob_m rfl (m_X10_takes G (g_Kap C) (0 : Int32) (9 : Int32) _) rfl rfl (Nat.le_of_ble_eq_true rfl) ⟨by decide, by decide⟩ dX10_readsGrass_90 rfl (z_ki (fun r11 s10 => ?_))
        refine z_if_ne C (tgt := 98) (q := 96) dX10_readsGrass_93 (by decide) rfl ?_ ?_
        · refine z_aload_n C (q := 99) 1 dX10_readsGrass_98 rfl rfl ?_
          refine z_getR C (q := 102) ob_m fF_X10_51 rfl dX10_readsGrass_99 rfl ?_
          refine z_iload_n C (q := 103) 0 dX10_readsGrass_102 rfl rfl ?_
          refine z_aload_n C (q := 104) 1 dX10_readsGrass_103 rfl rfl ?_
          refine z_getI C (q := 107) ob_m fF_X10_141 rfl dX10_readsGrass_104 rfl ?_
          refine z_iast C (q := 108) ar_m12 dX10_readsGrass_107 rfl (fun s12 => ?_)
          refine z_aload_n C (q := 109) 1 dX10_readsGrass_108 rfl rfl ?_
          refine z_callV C (q := 112) [] gl_X10_166 glv_X10_stops ob_m rfl (m_X10_stops G (g_Kap C)  _) rfl rfl (Nat.le_of_ble_eq_true rfl) ⟨by decide, by decide⟩ dX10_readsGrass_109 rfl (z_ki (fun r14 s13 => ?_))
          exact z_zret C dX10_readsGrass_112
        refine z_iconst C (q := 97) dX10_readsGrass_96 rfl lt_iconst_0 ?_
        exact z_zretK C (by decide) dX10_readsGrass_97
      refine z_aload_n C (q := 62) 0 dX10_readsGrass_61 rfl rfl ?_
      refine z_iconst C (q := 63) dX10_readsGrass_62 rfl lt_iconst_4 ?_
      refine z_callV C (q := 66) [.int (4 : Int32)] gl_X10_138 glv_X10_faults ob_m rfl (m_X10_faults G (g_Kap C) (4 : Int32) _) rfl rfl (Nat.le_of_ble_eq_true rfl) ⟨by decide, by decide⟩ dX10_readsGrass_63 rfl (z_ki (fun r16 s15 => ?_))
      exact z_zret C dX10_readsGrass_66
    refine z_iconst C (q := 48) dX10_readsGrass_47 rfl lt_iconst_0 ?_
    exact z_zretK C (by decide) dX10_readsGrass_48
  refine z_aload_n C (q := 10) 0 dX10_readsGrass_9 rfl rfl ?_
  refine z_iconst C (q := 11) dX10_readsGrass_10 rfl lt_iconst_3 ?_
  refine z_callV C (q := 14) [.int (3 : Int32)] gl_X10_138 glv_X10_faults ob_m rfl (m_X10_faults G (g_Kap C) (3 : Int32) _) rfl rfl (Nat.le_of_ble_eq_true rfl) ⟨by decide, by decide⟩ dX10_readsGrass_11 rfl (z_ki (fun r18 s17 => ?_))
  exact z_zret C dX10_readsGrass_14
set_option maxRecDepth 100000 in
set_option maxHeartbeats 4000000 in
theorem m_X10_readsTithe (G : gG) {ad : Nat → Nat} (hap : g_ap LM ad)    (s : gS) : g_M G LM ad yX10_readsTithe cX10_readsTithe 2 (some .boolean) 6 [.ref (ad 0)] s (f_X10_readsTithe s) := by
  refine g_entry (by decide) hap (Nat.le_of_ble_eq_true rfl) [(0, .ref (ad 0))] rfl (fun X C => ?_)
  unfold f_X10_readsTithe
  refine z_aload_n C (q := 1) 0 dX10_readsTithe_0 rfl rfl ?_
  refine z_getI C (q := 4) ob_m fF_X10_179 rfl dX10_readsTithe_1 rfl ?_
  refine z_bipush C (q := 6) dX10_readsTithe_4 rfl lt_bipush_20 ?_
  refine z_icmp_ne C (tgt := 15) (q := 9) dX10_readsTithe_6 (by decide) rfl ?_ ?_
  · refine z_aload_n C (q := 16) 0 dX10_readsTithe_15 rfl rfl ?_
    refine z_dup C (q := 17) dX10_readsTithe_16 rfl rfl ?_
    refine z_getI C (q := 20) ob_m fF_X10_179 rfl dX10_readsTithe_17 rfl ?_
    refine z_iconst C (q := 21) dX10_readsTithe_20 rfl lt_iconst_1 ?_
    refine z_iadd C (q := 22) dX10_readsTithe_21 rfl ?_
    refine z_putI C (q := 25) ob_m fP_X10_179 rfl dX10_readsTithe_22 rfl (fun s1 => ?_)
    refine z_aload_n C (q := 26) 0 dX10_readsTithe_25 rfl rfl ?_
    refine z_callV C (q := 29) [] gl_X10_144 glv_X10_goOn ob_m rfl (m_X10_goOn G (g_Kap C)  _) rfl rfl (Nat.le_of_ble_eq_true rfl) ⟨by decide, by decide⟩ dX10_readsTithe_26 rfl (z_kv (fun s2 => ?_))
    refine z_aload_n C (q := 30) 0 dX10_readsTithe_29 rfl rfl ?_
    refine z_callV C (q := 33) [] gl_X10_173 glv_X10_takesX ob_m rfl (m_X10_takesX G (g_Kap C)  _) rfl rfl (Nat.le_of_ble_eq_true rfl) ⟨by decide, by decide⟩ dX10_readsTithe_30 rfl (z_ki (fun r4 s3 => ?_))
    refine z_if_eq C (tgt := 47) (q := 36) dX10_readsTithe_33 (by decide) rfl ?_ ?_
    · refine z_iconst C (q := 48) dX10_readsTithe_47 rfl lt_iconst_0 ?_
      exact z_zretK C (by decide) dX10_readsTithe_48
    refine z_aload_n C (q := 37) 0 dX10_readsTithe_36 rfl rfl ?_
    refine z_aload_n C (q := 38) 0 dX10_readsTithe_37 rfl rfl ?_
    refine z_getI C (q := 41) ob_m fF_X10_141 rfl dX10_readsTithe_38 rfl ?_
    refine z_callV C (q := 44) [.int (s3.1 0 38)] gl_X10_176 glv_X10_seesY ob_m rfl (m_X10_seesY G (g_Kap C) (s3.1 0 38) _) rfl rfl (Nat.le_of_ble_eq_true rfl) ⟨by decide, by decide⟩ dX10_readsTithe_41 rfl (z_ki (fun r6 s5 => ?_))
    refine z_if_ne C (tgt := 49) (q := 47) dX10_readsTithe_44 (by decide) rfl ?_ ?_
    · refine z_aload_n C (q := 50) 0 dX10_readsTithe_49 rfl rfl ?_
      refine z_getR C (q := 53) ob_m fF_X10_63 rfl dX10_readsTithe_50 rfl ?_
      refine z_aload_n C (q := 54) 0 dX10_readsTithe_53 rfl rfl ?_
      refine z_getI C (q := 57) ob_m fF_X10_157 rfl dX10_readsTithe_54 rfl ?_
      refine z_zald C (q := 58) ar_m16 dX10_readsTithe_57 rfl ?_
      refine z_if_eq C (tgt := 67) (q := 61) dX10_readsTithe_58 (by decide) rfl ?_ ?_
      · refine z_aload_n C (q := 68) 0 dX10_readsTithe_67 rfl rfl ?_
        refine z_getR C (q := 71) ob_m fF_X10_63 rfl dX10_readsTithe_68 rfl ?_
        refine z_aload_n C (q := 72) 0 dX10_readsTithe_71 rfl rfl ?_
        refine z_getI C (q := 75) ob_m fF_X10_157 rfl dX10_readsTithe_72 rfl ?_
        refine z_iconst C (q := 76) dX10_readsTithe_75 rfl lt_iconst_1 ?_
        refine z_zast C (q := 77) ar_m16 dX10_readsTithe_76 rfl (fun s7 => ?_)
        refine z_aload_n C (q := 78) 0 dX10_readsTithe_77 rfl rfl ?_
        refine z_getI C (q := 81) ob_m fF_X10_157 rfl dX10_readsTithe_78 rfl ?_
        refine z_leti (fun v1_8 => ?_)
        refine z_istore_n C (q := 82) [(1, .int v1_8), (0, .ref (ad 0))] dX10_readsTithe_81 rfl rfl (by decide) rfl ?_
        refine z_aload_n C (q := 83) 1 dX10_readsTithe_82 rfl rfl ?_
        refine z_callV C (q := 86) [] gl_X10_144 glv_X10_goOn ob_m rfl (m_X10_goOn G (g_Kap C)  _) rfl rfl (Nat.le_of_ble_eq_true rfl) ⟨by decide, by decide⟩ dX10_readsTithe_83 rfl (z_kv (fun s9 => ?_))
        refine z_aload_n C (q := 87) 1 dX10_readsTithe_86 rfl rfl ?_
        refine z_iconst C (q := 88) dX10_readsTithe_87 rfl lt_iconst_0 ?_
        refine z_bipush C (q := 90) dX10_readsTithe_88 rfl lt_bipush_99 ?_
        refine z_callV C (q := 93) [.int (0 : Int32), .int (99 : Int32)] gl_X10_150 glv_X10_takes ob_m rfl (m_X10_takes G (g_Kap C) (0 : Int32) (99 : Int32) _) rfl rfl (Nat.le_of_ble_eq_true rfl) ⟨by decide, by decide⟩ dX10_readsTithe_90 rfl (z_ki (fun r11 s10 => ?_))
        refine z_if_ne C (tgt := 98) (q := 96) dX10_readsTithe_93 (by decide) rfl ?_ ?_
        · refine z_aload_n C (q := 99) 1 dX10_readsTithe_98 rfl rfl ?_
          refine z_getR C (q := 102) ob_m fF_X10_54 rfl dX10_readsTithe_99 rfl ?_
          refine z_iload_n C (q := 103) 0 dX10_readsTithe_102 rfl rfl ?_
          refine z_aload_n C (q := 104) 1 dX10_readsTithe_103 rfl rfl ?_
          refine z_getI C (q := 107) ob_m fF_X10_141 rfl dX10_readsTithe_104 rfl ?_
          refine z_iast C (q := 108) ar_m13 dX10_readsTithe_107 rfl (fun s12 => ?_)
          refine z_aload_n C (q := 109) 1 dX10_readsTithe_108 rfl rfl ?_
          refine z_callV C (q := 112) [] gl_X10_166 glv_X10_stops ob_m rfl (m_X10_stops G (g_Kap C)  _) rfl rfl (Nat.le_of_ble_eq_true rfl) ⟨by decide, by decide⟩ dX10_readsTithe_109 rfl (z_ki (fun r14 s13 => ?_))
          exact z_zret C dX10_readsTithe_112
        refine z_iconst C (q := 97) dX10_readsTithe_96 rfl lt_iconst_0 ?_
        exact z_zretK C (by decide) dX10_readsTithe_97
      refine z_aload_n C (q := 62) 0 dX10_readsTithe_61 rfl rfl ?_
      refine z_iconst C (q := 63) dX10_readsTithe_62 rfl lt_iconst_4 ?_
      refine z_callV C (q := 66) [.int (4 : Int32)] gl_X10_138 glv_X10_faults ob_m rfl (m_X10_faults G (g_Kap C) (4 : Int32) _) rfl rfl (Nat.le_of_ble_eq_true rfl) ⟨by decide, by decide⟩ dX10_readsTithe_63 rfl (z_ki (fun r16 s15 => ?_))
      exact z_zret C dX10_readsTithe_66
    refine z_iconst C (q := 48) dX10_readsTithe_47 rfl lt_iconst_0 ?_
    exact z_zretK C (by decide) dX10_readsTithe_48
  refine z_aload_n C (q := 10) 0 dX10_readsTithe_9 rfl rfl ?_
  refine z_iconst C (q := 11) dX10_readsTithe_10 rfl lt_iconst_3 ?_
  refine z_callV C (q := 14) [.int (3 : Int32)] gl_X10_138 glv_X10_faults ob_m rfl (m_X10_faults G (g_Kap C) (3 : Int32) _) rfl rfl (Nat.le_of_ble_eq_true rfl) ⟨by decide, by decide⟩ dX10_readsTithe_11 rfl (z_ki (fun r18 s17 => ?_))
  exact z_zret C dX10_readsTithe_14
set_option maxRecDepth 100000 in
set_option maxHeartbeats 4000000 in
theorem m_X10_readsThing (G : gG) {ad : Nat → Nat} (hap : g_ap LM ad)    (s : gS) : g_M G LM ad yX10_readsThing cX10_readsThing 2 (some .boolean) 6 [.ref (ad 0)] s (f_X10_readsThing s) := by
  refine g_entry (by decide) hap (Nat.le_of_ble_eq_true rfl) [(0, .ref (ad 0))] rfl (fun X C => ?_)
  unfold f_X10_readsThing
  refine z_aload_n C (q := 1) 0 dX10_readsThing_0 rfl rfl ?_
  refine z_getI C (q := 4) ob_m fF_X10_182 rfl dX10_readsThing_1 rfl ?_
  refine z_bipush C (q := 6) dX10_readsThing_4 rfl lt_bipush_15 ?_
  refine z_icmp_ne C (tgt := 15) (q := 9) dX10_readsThing_6 (by decide) rfl ?_ ?_
  · refine z_aload_n C (q := 16) 0 dX10_readsThing_15 rfl rfl ?_
    refine z_dup C (q := 17) dX10_readsThing_16 rfl rfl ?_
    refine z_getI C (q := 20) ob_m fF_X10_182 rfl dX10_readsThing_17 rfl ?_
    refine z_iconst C (q := 21) dX10_readsThing_20 rfl lt_iconst_1 ?_
    refine z_iadd C (q := 22) dX10_readsThing_21 rfl ?_
    refine z_putI C (q := 25) ob_m fP_X10_182 rfl dX10_readsThing_22 rfl (fun s1 => ?_)
    refine z_aload_n C (q := 26) 0 dX10_readsThing_25 rfl rfl ?_
    refine z_callV C (q := 29) [] gl_X10_144 glv_X10_goOn ob_m rfl (m_X10_goOn G (g_Kap C)  _) rfl rfl (Nat.le_of_ble_eq_true rfl) ⟨by decide, by decide⟩ dX10_readsThing_26 rfl (z_kv (fun s2 => ?_))
    refine z_aload_n C (q := 30) 0 dX10_readsThing_29 rfl rfl ?_
    refine z_bipush C (q := 32) dX10_readsThing_30 rfl lt_bipush_115 ?_
    refine z_bipush C (q := 34) dX10_readsThing_32 rfl lt_bipush_104 ?_
    refine z_bipush C (q := 36) dX10_readsThing_34 rfl lt_bipush_97 ?_
    refine z_bipush C (q := 38) dX10_readsThing_36 rfl lt_bipush_100 ?_
    refine z_bipush C (q := 40) dX10_readsThing_38 rfl lt_bipush_101 ?_
    refine z_iconst C (q := 41) dX10_readsThing_40 rfl lt_iconst_0 ?_
    refine z_callV C (q := 44) [.int (115 : Int32), .int (104 : Int32), .int (97 : Int32), .int (100 : Int32), .int (101 : Int32), .int (0 : Int32)] gl_X10_160 glv_X10_isWord ob_m rfl (m_X10_isWord G (g_Kap C) (115 : Int32) (104 : Int32) (97 : Int32) (100 : Int32) (101 : Int32) (0 : Int32) _) rfl rfl (Nat.le_of_ble_eq_true rfl) ⟨by decide, by decide⟩ dX10_readsThing_41 rfl (z_ki (fun r4 s3 => ?_))
    refine z_if_eq C (tgt := 51) (q := 47) dX10_readsThing_44 (by decide) rfl ?_ ?_
    · refine z_aload_n C (q := 52) 0 dX10_readsThing_51 rfl rfl ?_
      refine z_bipush C (q := 54) dX10_readsThing_52 rfl lt_bipush_119 ?_
      refine z_bipush C (q := 56) dX10_readsThing_54 rfl lt_bipush_97 ?_
      refine z_bipush C (q := 58) dX10_readsThing_56 rfl lt_bipush_116 ?_
      refine z_bipush C (q := 60) dX10_readsThing_58 rfl lt_bipush_101 ?_
      refine z_bipush C (q := 62) dX10_readsThing_60 rfl lt_bipush_114 ?_
      refine z_iconst C (q := 63) dX10_readsThing_62 rfl lt_iconst_0 ?_
      refine z_callV C (q := 66) [.int (119 : Int32), .int (97 : Int32), .int (116 : Int32), .int (101 : Int32), .int (114 : Int32), .int (0 : Int32)] gl_X10_160 glv_X10_isWord ob_m rfl (m_X10_isWord G (g_Kap C) (119 : Int32) (97 : Int32) (116 : Int32) (101 : Int32) (114 : Int32) (0 : Int32) _) rfl rfl (Nat.le_of_ble_eq_true rfl) ⟨by decide, by decide⟩ dX10_readsThing_63 rfl (z_ki (fun r6 s5 => ?_))
      refine z_if_eq C (tgt := 73) (q := 69) dX10_readsThing_66 (by decide) rfl ?_ ?_
      · refine z_aload_n C (q := 74) 0 dX10_readsThing_73 rfl rfl ?_
        refine z_bipush C (q := 76) dX10_readsThing_74 rfl lt_bipush_102 ?_
        refine z_bipush C (q := 78) dX10_readsThing_76 rfl lt_bipush_108 ?_
        refine z_bipush C (q := 80) dX10_readsThing_78 rfl lt_bipush_105 ?_
        refine z_bipush C (q := 82) dX10_readsThing_80 rfl lt_bipush_101 ?_
        refine z_bipush C (q := 84) dX10_readsThing_82 rfl lt_bipush_115 ?_
        refine z_iconst C (q := 85) dX10_readsThing_84 rfl lt_iconst_0 ?_
        refine z_callV C (q := 88) [.int (102 : Int32), .int (108 : Int32), .int (105 : Int32), .int (101 : Int32), .int (115 : Int32), .int (0 : Int32)] gl_X10_160 glv_X10_isWord ob_m rfl (m_X10_isWord G (g_Kap C) (102 : Int32) (108 : Int32) (105 : Int32) (101 : Int32) (115 : Int32) (0 : Int32) _) rfl rfl (Nat.le_of_ble_eq_true rfl) ⟨by decide, by decide⟩ dX10_readsThing_85 rfl (z_ki (fun r8 s7 => ?_))
        refine z_if_eq C (tgt := 95) (q := 91) dX10_readsThing_88 (by decide) rfl ?_ ?_
        · refine z_iconst C (q := 96) dX10_readsThing_95 rfl lt_iconst_m1 ?_
          refine z_istore_n C (q := 97) [(1, .int (-1 : Int32)), (0, .ref (ad 0))] dX10_readsThing_96 rfl rfl (by decide) rfl ?_
          refine z_iload_n C (q := 98) 0 dX10_readsThing_97 rfl rfl ?_
          refine z_iconst C (q := 99) dX10_readsThing_98 rfl lt_iconst_m1 ?_
          refine z_icmp_ne C (tgt := 108) (q := 102) dX10_readsThing_99 (by decide) rfl ?_ ?_
          · refine z_aload_n C (q := 109) 1 dX10_readsThing_108 rfl rfl ?_
            refine z_callV C (q := 112) [] gl_X10_144 glv_X10_goOn ob_m rfl (m_X10_goOn G (g_Kap C)  _) rfl rfl (Nat.le_of_ble_eq_true rfl) ⟨by decide, by decide⟩ dX10_readsThing_109 rfl (z_kv (fun s9 => ?_))
            refine z_aload_n C (q := 113) 1 dX10_readsThing_112 rfl rfl ?_
            refine z_callV C (q := 116) [] gl_X10_173 glv_X10_takesX ob_m rfl (m_X10_takesX G (g_Kap C)  _) rfl rfl (Nat.le_of_ble_eq_true rfl) ⟨by decide, by decide⟩ dX10_readsThing_113 rfl (z_ki (fun r11 s10 => ?_))
            refine z_if_eq C (tgt := 130) (q := 119) dX10_readsThing_116 (by decide) rfl ?_ ?_
            · refine z_iconst C (q := 131) dX10_readsThing_130 rfl lt_iconst_0 ?_
              exact z_zretK C (by decide) dX10_readsThing_131
            refine z_aload_n C (q := 120) 1 dX10_readsThing_119 rfl rfl ?_
            refine z_aload_n C (q := 121) 1 dX10_readsThing_120 rfl rfl ?_
            refine z_getI C (q := 124) ob_m fF_X10_141 rfl dX10_readsThing_121 rfl ?_
            refine z_callV C (q := 127) [.int (s10.1 0 38)] gl_X10_176 glv_X10_seesY ob_m rfl (m_X10_seesY G (g_Kap C) (s10.1 0 38) _) rfl rfl (Nat.le_of_ble_eq_true rfl) ⟨by decide, by decide⟩ dX10_readsThing_124 rfl (z_ki (fun r13 s12 => ?_))
            refine z_if_ne C (tgt := 132) (q := 130) dX10_readsThing_127 (by decide) rfl ?_ ?_
            · refine z_aload_n C (q := 133) 1 dX10_readsThing_132 rfl rfl ?_
              refine z_getR C (q := 136) ob_m fF_X10_57 rfl dX10_readsThing_133 rfl ?_
              refine z_aload_n C (q := 137) 1 dX10_readsThing_136 rfl rfl ?_
              refine z_getI C (q := 140) ob_m fF_X10_157 rfl dX10_readsThing_137 rfl ?_
              refine z_iald C (q := 141) ar_m14 dX10_readsThing_140 rfl ?_
              refine z_iload_n C (q := 142) 0 dX10_readsThing_141 rfl rfl ?_
              refine z_ishr C (q := 143) dX10_readsThing_142 rfl ?_
              refine z_iconst C (q := 144) dX10_readsThing_143 rfl lt_iconst_1 ?_
              refine z_iand C (q := 145) dX10_readsThing_144 rfl ?_
              refine z_iconst C (q := 146) dX10_readsThing_145 rfl lt_iconst_1 ?_
              refine z_icmp_ne C (tgt := 155) (q := 149) dX10_readsThing_146 (by decide) rfl ?_ ?_
              · refine z_aload_n C (q := 156) 1 dX10_readsThing_155 rfl rfl ?_
                refine z_getR C (q := 159) ob_m fF_X10_57 rfl dX10_readsThing_156 rfl ?_
                refine z_aload_n C (q := 160) 1 dX10_readsThing_159 rfl rfl ?_
                refine z_getI C (q := 163) ob_m fF_X10_157 rfl dX10_readsThing_160 rfl ?_
                refine z_dup2_11 C (q := 164) dX10_readsThing_163 rfl rfl rfl ?_
                refine z_iald C (q := 165) ar_m14 dX10_readsThing_164 rfl ?_
                refine z_iconst C (q := 166) dX10_readsThing_165 rfl lt_iconst_1 ?_
                refine z_iload_n C (q := 167) 0 dX10_readsThing_166 rfl rfl ?_
                refine z_ishl C (q := 168) dX10_readsThing_167 rfl ?_
                refine z_ior C (q := 169) dX10_readsThing_168 rfl ?_
                refine z_iast C (q := 170) ar_m14 dX10_readsThing_169 rfl (fun s14 => ?_)
                refine z_aload_n C (q := 171) 1 dX10_readsThing_170 rfl rfl ?_
                refine z_callV C (q := 174) [] gl_X10_144 glv_X10_goOn ob_m rfl (m_X10_goOn G (g_Kap C)  _) rfl rfl (Nat.le_of_ble_eq_true rfl) ⟨by decide, by decide⟩ dX10_readsThing_171 rfl (z_kv (fun s15 => ?_))
                refine z_aload_n C (q := 175) 1 dX10_readsThing_174 rfl rfl ?_
                refine z_callV C (q := 178) [] gl_X10_166 glv_X10_stops ob_m rfl (m_X10_stops G (g_Kap C)  _) rfl rfl (Nat.le_of_ble_eq_true rfl) ⟨by decide, by decide⟩ dX10_readsThing_175 rfl (z_ki (fun r17 s16 => ?_))
                exact z_zret C dX10_readsThing_178
              refine z_aload_n C (q := 150) 1 dX10_readsThing_149 rfl rfl ?_
              refine z_iconst C (q := 151) dX10_readsThing_150 rfl lt_iconst_4 ?_
              refine z_callV C (q := 154) [.int (4 : Int32)] gl_X10_138 glv_X10_faults ob_m rfl (m_X10_faults G (g_Kap C) (4 : Int32) _) rfl rfl (Nat.le_of_ble_eq_true rfl) ⟨by decide, by decide⟩ dX10_readsThing_151 rfl (z_ki (fun r19 s18 => ?_))
              exact z_zret C dX10_readsThing_154
            refine z_iconst C (q := 131) dX10_readsThing_130 rfl lt_iconst_0 ?_
            exact z_zretK C (by decide) dX10_readsThing_131
          refine z_aload_n C (q := 103) 1 dX10_readsThing_102 rfl rfl ?_
          refine z_iconst C (q := 104) dX10_readsThing_103 rfl lt_iconst_1 ?_
          refine z_callV C (q := 107) [.int (1 : Int32)] gl_X10_138 glv_X10_faults ob_m rfl (m_X10_faults G (g_Kap C) (1 : Int32) _) rfl rfl (Nat.le_of_ble_eq_true rfl) ⟨by decide, by decide⟩ dX10_readsThing_104 rfl (z_ki (fun r21 s20 => ?_))
          exact z_zret C dX10_readsThing_107
        refine z_iconst C (q := 92) dX10_readsThing_91 rfl lt_iconst_2 ?_
        refine z_goto C (tgt := 96) dX10_readsThing_92 (by decide) ?_
        refine z_istore_n C (q := 97) [(1, .int (2 : Int32)), (0, .ref (ad 0))] dX10_readsThing_96 rfl rfl (by decide) rfl ?_
        refine z_iload_n C (q := 98) 0 dX10_readsThing_97 rfl rfl ?_
        refine z_iconst C (q := 99) dX10_readsThing_98 rfl lt_iconst_m1 ?_
        refine z_icmp_ne C (tgt := 108) (q := 102) dX10_readsThing_99 (by decide) rfl ?_ ?_
        · refine z_aload_n C (q := 109) 1 dX10_readsThing_108 rfl rfl ?_
          refine z_callV C (q := 112) [] gl_X10_144 glv_X10_goOn ob_m rfl (m_X10_goOn G (g_Kap C)  _) rfl rfl (Nat.le_of_ble_eq_true rfl) ⟨by decide, by decide⟩ dX10_readsThing_109 rfl (z_kv (fun s22 => ?_))
          refine z_aload_n C (q := 113) 1 dX10_readsThing_112 rfl rfl ?_
          refine z_callV C (q := 116) [] gl_X10_173 glv_X10_takesX ob_m rfl (m_X10_takesX G (g_Kap C)  _) rfl rfl (Nat.le_of_ble_eq_true rfl) ⟨by decide, by decide⟩ dX10_readsThing_113 rfl (z_ki (fun r24 s23 => ?_))
          refine z_if_eq C (tgt := 130) (q := 119) dX10_readsThing_116 (by decide) rfl ?_ ?_
          · refine z_iconst C (q := 131) dX10_readsThing_130 rfl lt_iconst_0 ?_
            exact z_zretK C (by decide) dX10_readsThing_131
          refine z_aload_n C (q := 120) 1 dX10_readsThing_119 rfl rfl ?_
          refine z_aload_n C (q := 121) 1 dX10_readsThing_120 rfl rfl ?_
          refine z_getI C (q := 124) ob_m fF_X10_141 rfl dX10_readsThing_121 rfl ?_
          refine z_callV C (q := 127) [.int (s23.1 0 38)] gl_X10_176 glv_X10_seesY ob_m rfl (m_X10_seesY G (g_Kap C) (s23.1 0 38) _) rfl rfl (Nat.le_of_ble_eq_true rfl) ⟨by decide, by decide⟩ dX10_readsThing_124 rfl (z_ki (fun r26 s25 => ?_))
          refine z_if_ne C (tgt := 132) (q := 130) dX10_readsThing_127 (by decide) rfl ?_ ?_
          · refine z_aload_n C (q := 133) 1 dX10_readsThing_132 rfl rfl ?_
            refine z_getR C (q := 136) ob_m fF_X10_57 rfl dX10_readsThing_133 rfl ?_
            refine z_aload_n C (q := 137) 1 dX10_readsThing_136 rfl rfl ?_
            refine z_getI C (q := 140) ob_m fF_X10_157 rfl dX10_readsThing_137 rfl ?_
            refine z_iald C (q := 141) ar_m14 dX10_readsThing_140 rfl ?_
            refine z_iload_n C (q := 142) 0 dX10_readsThing_141 rfl rfl ?_
            refine z_ishr C (q := 143) dX10_readsThing_142 rfl ?_
            refine z_iconst C (q := 144) dX10_readsThing_143 rfl lt_iconst_1 ?_
            refine z_iand C (q := 145) dX10_readsThing_144 rfl ?_
            refine z_iconst C (q := 146) dX10_readsThing_145 rfl lt_iconst_1 ?_
            refine z_icmp_ne C (tgt := 155) (q := 149) dX10_readsThing_146 (by decide) rfl ?_ ?_
            · refine z_aload_n C (q := 156) 1 dX10_readsThing_155 rfl rfl ?_
              refine z_getR C (q := 159) ob_m fF_X10_57 rfl dX10_readsThing_156 rfl ?_
              refine z_aload_n C (q := 160) 1 dX10_readsThing_159 rfl rfl ?_
              refine z_getI C (q := 163) ob_m fF_X10_157 rfl dX10_readsThing_160 rfl ?_
              refine z_dup2_11 C (q := 164) dX10_readsThing_163 rfl rfl rfl ?_
              refine z_iald C (q := 165) ar_m14 dX10_readsThing_164 rfl ?_
              refine z_iconst C (q := 166) dX10_readsThing_165 rfl lt_iconst_1 ?_
              refine z_iload_n C (q := 167) 0 dX10_readsThing_166 rfl rfl ?_
              refine z_ishl C (q := 168) dX10_readsThing_167 rfl ?_
              refine z_ior C (q := 169) dX10_readsThing_168 rfl ?_
              refine z_iast C (q := 170) ar_m14 dX10_readsThing_169 rfl (fun s27 => ?_)
              refine z_aload_n C (q := 171) 1 dX10_readsThing_170 rfl rfl ?_
              refine z_callV C (q := 174) [] gl_X10_144 glv_X10_goOn ob_m rfl (m_X10_goOn G (g_Kap C)  _) rfl rfl (Nat.le_of_ble_eq_true rfl) ⟨by decide, by decide⟩ dX10_readsThing_171 rfl (z_kv (fun s28 => ?_))
              refine z_aload_n C (q := 175) 1 dX10_readsThing_174 rfl rfl ?_
              refine z_callV C (q := 178) [] gl_X10_166 glv_X10_stops ob_m rfl (m_X10_stops G (g_Kap C)  _) rfl rfl (Nat.le_of_ble_eq_true rfl) ⟨by decide, by decide⟩ dX10_readsThing_175 rfl (z_ki (fun r30 s29 => ?_))
              exact z_zret C dX10_readsThing_178
            refine z_aload_n C (q := 150) 1 dX10_readsThing_149 rfl rfl ?_
            refine z_iconst C (q := 151) dX10_readsThing_150 rfl lt_iconst_4 ?_
            refine z_callV C (q := 154) [.int (4 : Int32)] gl_X10_138 glv_X10_faults ob_m rfl (m_X10_faults G (g_Kap C) (4 : Int32) _) rfl rfl (Nat.le_of_ble_eq_true rfl) ⟨by decide, by decide⟩ dX10_readsThing_151 rfl (z_ki (fun r32 s31 => ?_))
            exact z_zret C dX10_readsThing_154
          refine z_iconst C (q := 131) dX10_readsThing_130 rfl lt_iconst_0 ?_
          exact z_zretK C (by decide) dX10_readsThing_131
        refine z_aload_n C (q := 103) 1 dX10_readsThing_102 rfl rfl ?_
        refine z_iconst C (q := 104) dX10_readsThing_103 rfl lt_iconst_1 ?_
        refine z_callV C (q := 107) [.int (1 : Int32)] gl_X10_138 glv_X10_faults ob_m rfl (m_X10_faults G (g_Kap C) (1 : Int32) _) rfl rfl (Nat.le_of_ble_eq_true rfl) ⟨by decide, by decide⟩ dX10_readsThing_104 rfl (z_ki (fun r34 s33 => ?_))
        exact z_zret C dX10_readsThing_107
      refine z_iconst C (q := 70) dX10_readsThing_69 rfl lt_iconst_1 ?_
      refine z_goto C (tgt := 96) dX10_readsThing_70 (by decide) ?_
      refine z_istore_n C (q := 97) [(1, .int (1 : Int32)), (0, .ref (ad 0))] dX10_readsThing_96 rfl rfl (by decide) rfl ?_
      refine z_iload_n C (q := 98) 0 dX10_readsThing_97 rfl rfl ?_
      refine z_iconst C (q := 99) dX10_readsThing_98 rfl lt_iconst_m1 ?_
      refine z_icmp_ne C (tgt := 108) (q := 102) dX10_readsThing_99 (by decide) rfl ?_ ?_
      · refine z_aload_n C (q := 109) 1 dX10_readsThing_108 rfl rfl ?_
        refine z_callV C (q := 112) [] gl_X10_144 glv_X10_goOn ob_m rfl (m_X10_goOn G (g_Kap C)  _) rfl rfl (Nat.le_of_ble_eq_true rfl) ⟨by decide, by decide⟩ dX10_readsThing_109 rfl (z_kv (fun s35 => ?_))
        refine z_aload_n C (q := 113) 1 dX10_readsThing_112 rfl rfl ?_
        refine z_callV C (q := 116) [] gl_X10_173 glv_X10_takesX ob_m rfl (m_X10_takesX G (g_Kap C)  _) rfl rfl (Nat.le_of_ble_eq_true rfl) ⟨by decide, by decide⟩ dX10_readsThing_113 rfl (z_ki (fun r37 s36 => ?_))
        refine z_if_eq C (tgt := 130) (q := 119) dX10_readsThing_116 (by decide) rfl ?_ ?_
        · refine z_iconst C (q := 131) dX10_readsThing_130 rfl lt_iconst_0 ?_
          exact z_zretK C (by decide) dX10_readsThing_131
        refine z_aload_n C (q := 120) 1 dX10_readsThing_119 rfl rfl ?_
        refine z_aload_n C (q := 121) 1 dX10_readsThing_120 rfl rfl ?_
        refine z_getI C (q := 124) ob_m fF_X10_141 rfl dX10_readsThing_121 rfl ?_
        refine z_callV C (q := 127) [.int (s36.1 0 38)] gl_X10_176 glv_X10_seesY ob_m rfl (m_X10_seesY G (g_Kap C) (s36.1 0 38) _) rfl rfl (Nat.le_of_ble_eq_true rfl) ⟨by decide, by decide⟩ dX10_readsThing_124 rfl (z_ki (fun r39 s38 => ?_))
        refine z_if_ne C (tgt := 132) (q := 130) dX10_readsThing_127 (by decide) rfl ?_ ?_
        · refine z_aload_n C (q := 133) 1 dX10_readsThing_132 rfl rfl ?_
          refine z_getR C (q := 136) ob_m fF_X10_57 rfl dX10_readsThing_133 rfl ?_
          refine z_aload_n C (q := 137) 1 dX10_readsThing_136 rfl rfl ?_
          refine z_getI C (q := 140) ob_m fF_X10_157 rfl dX10_readsThing_137 rfl ?_
          refine z_iald C (q := 141) ar_m14 dX10_readsThing_140 rfl ?_
          refine z_iload_n C (q := 142) 0 dX10_readsThing_141 rfl rfl ?_
          refine z_ishr C (q := 143) dX10_readsThing_142 rfl ?_
          refine z_iconst C (q := 144) dX10_readsThing_143 rfl lt_iconst_1 ?_
          refine z_iand C (q := 145) dX10_readsThing_144 rfl ?_
          refine z_iconst C (q := 146) dX10_readsThing_145 rfl lt_iconst_1 ?_
          refine z_icmp_ne C (tgt := 155) (q := 149) dX10_readsThing_146 (by decide) rfl ?_ ?_
          · refine z_aload_n C (q := 156) 1 dX10_readsThing_155 rfl rfl ?_
            refine z_getR C (q := 159) ob_m fF_X10_57 rfl dX10_readsThing_156 rfl ?_
            refine z_aload_n C (q := 160) 1 dX10_readsThing_159 rfl rfl ?_
            refine z_getI C (q := 163) ob_m fF_X10_157 rfl dX10_readsThing_160 rfl ?_
            refine z_dup2_11 C (q := 164) dX10_readsThing_163 rfl rfl rfl ?_
            refine z_iald C (q := 165) ar_m14 dX10_readsThing_164 rfl ?_
            refine z_iconst C (q := 166) dX10_readsThing_165 rfl lt_iconst_1 ?_
            refine z_iload_n C (q := 167) 0 dX10_readsThing_166 rfl rfl ?_
            refine z_ishl C (q := 168) dX10_readsThing_167 rfl ?_
            refine z_ior C (q := 169) dX10_readsThing_168 rfl ?_
            refine z_iast C (q := 170) ar_m14 dX10_readsThing_169 rfl (fun s40 => ?_)
            refine z_aload_n C (q := 171) 1 dX10_readsThing_170 rfl rfl ?_
            refine z_callV C (q := 174) [] gl_X10_144 glv_X10_goOn ob_m rfl (m_X10_goOn G (g_Kap C)  _) rfl rfl (Nat.le_of_ble_eq_true rfl) ⟨by decide, by decide⟩ dX10_readsThing_171 rfl (z_kv (fun s41 => ?_))
            refine z_aload_n C (q := 175) 1 dX10_readsThing_174 rfl rfl ?_
            refine z_callV C (q := 178) [] gl_X10_166 glv_X10_stops ob_m rfl (m_X10_stops G (g_Kap C)  _) rfl rfl (Nat.le_of_ble_eq_true rfl) ⟨by decide, by decide⟩ dX10_readsThing_175 rfl (z_ki (fun r43 s42 => ?_))
            exact z_zret C dX10_readsThing_178
          refine z_aload_n C (q := 150) 1 dX10_readsThing_149 rfl rfl ?_
          refine z_iconst C (q := 151) dX10_readsThing_150 rfl lt_iconst_4 ?_
          refine z_callV C (q := 154) [.int (4 : Int32)] gl_X10_138 glv_X10_faults ob_m rfl (m_X10_faults G (g_Kap C) (4 : Int32) _) rfl rfl (Nat.le_of_ble_eq_true rfl) ⟨by decide, by decide⟩ dX10_readsThing_151 rfl (z_ki (fun r45 s44 => ?_))
          exact z_zret C dX10_readsThing_154
        refine z_iconst C (q := 131) dX10_readsThing_130 rfl lt_iconst_0 ?_
        exact z_zretK C (by decide) dX10_readsThing_131
      refine z_aload_n C (q := 103) 1 dX10_readsThing_102 rfl rfl ?_
      refine z_iconst C (q := 104) dX10_readsThing_103 rfl lt_iconst_1 ?_
      refine z_callV C (q := 107) [.int (1 : Int32)] gl_X10_138 glv_X10_faults ob_m rfl (m_X10_faults G (g_Kap C) (1 : Int32) _) rfl rfl (Nat.le_of_ble_eq_true rfl) ⟨by decide, by decide⟩ dX10_readsThing_104 rfl (z_ki (fun r47 s46 => ?_))
      exact z_zret C dX10_readsThing_107
    refine z_iconst C (q := 48) dX10_readsThing_47 rfl lt_iconst_0 ?_
    refine z_goto C (tgt := 96) dX10_readsThing_48 (by decide) ?_
    refine z_istore_n C (q := 97) [(1, .int (0 : Int32)), (0, .ref (ad 0))] dX10_readsThing_96 rfl rfl (by decide) rfl ?_
    refine z_iload_n C (q := 98) 0 dX10_readsThing_97 rfl rfl ?_
    refine z_iconst C (q := 99) dX10_readsThing_98 rfl lt_iconst_m1 ?_
    refine z_icmp_ne C (tgt := 108) (q := 102) dX10_readsThing_99 (by decide) rfl ?_ ?_
    · refine z_aload_n C (q := 109) 1 dX10_readsThing_108 rfl rfl ?_
      refine z_callV C (q := 112) [] gl_X10_144 glv_X10_goOn ob_m rfl (m_X10_goOn G (g_Kap C)  _) rfl rfl (Nat.le_of_ble_eq_true rfl) ⟨by decide, by decide⟩ dX10_readsThing_109 rfl (z_kv (fun s48 => ?_))
      refine z_aload_n C (q := 113) 1 dX10_readsThing_112 rfl rfl ?_
      refine z_callV C (q := 116) [] gl_X10_173 glv_X10_takesX ob_m rfl (m_X10_takesX G (g_Kap C)  _) rfl rfl (Nat.le_of_ble_eq_true rfl) ⟨by decide, by decide⟩ dX10_readsThing_113 rfl (z_ki (fun r50 s49 => ?_))
      refine z_if_eq C (tgt := 130) (q := 119) dX10_readsThing_116 (by decide) rfl ?_ ?_
      · refine z_iconst C (q := 131) dX10_readsThing_130 rfl lt_iconst_0 ?_
        exact z_zretK C (by decide) dX10_readsThing_131
      refine z_aload_n C (q := 120) 1 dX10_readsThing_119 rfl rfl ?_
      refine z_aload_n C (q := 121) 1 dX10_readsThing_120 rfl rfl ?_
      refine z_getI C (q := 124) ob_m fF_X10_141 rfl dX10_readsThing_121 rfl ?_
      refine z_callV C (q := 127) [.int (s49.1 0 38)] gl_X10_176 glv_X10_seesY ob_m rfl (m_X10_seesY G (g_Kap C) (s49.1 0 38) _) rfl rfl (Nat.le_of_ble_eq_true rfl) ⟨by decide, by decide⟩ dX10_readsThing_124 rfl (z_ki (fun r52 s51 => ?_))
      refine z_if_ne C (tgt := 132) (q := 130) dX10_readsThing_127 (by decide) rfl ?_ ?_
      · refine z_aload_n C (q := 133) 1 dX10_readsThing_132 rfl rfl ?_
        refine z_getR C (q := 136) ob_m fF_X10_57 rfl dX10_readsThing_133 rfl ?_
        refine z_aload_n C (q := 137) 1 dX10_readsThing_136 rfl rfl ?_
        refine z_getI C (q := 140) ob_m fF_X10_157 rfl dX10_readsThing_137 rfl ?_
        refine z_iald C (q := 141) ar_m14 dX10_readsThing_140 rfl ?_
        refine z_iload_n C (q := 142) 0 dX10_readsThing_141 rfl rfl ?_
        refine z_ishr C (q := 143) dX10_readsThing_142 rfl ?_
        refine z_iconst C (q := 144) dX10_readsThing_143 rfl lt_iconst_1 ?_
        refine z_iand C (q := 145) dX10_readsThing_144 rfl ?_
        refine z_iconst C (q := 146) dX10_readsThing_145 rfl lt_iconst_1 ?_
        refine z_icmp_ne C (tgt := 155) (q := 149) dX10_readsThing_146 (by decide) rfl ?_ ?_
        · refine z_aload_n C (q := 156) 1 dX10_readsThing_155 rfl rfl ?_
          refine z_getR C (q := 159) ob_m fF_X10_57 rfl dX10_readsThing_156 rfl ?_
          refine z_aload_n C (q := 160) 1 dX10_readsThing_159 rfl rfl ?_
          refine z_getI C (q := 163) ob_m fF_X10_157 rfl dX10_readsThing_160 rfl ?_
          refine z_dup2_11 C (q := 164) dX10_readsThing_163 rfl rfl rfl ?_
          refine z_iald C (q := 165) ar_m14 dX10_readsThing_164 rfl ?_
          refine z_iconst C (q := 166) dX10_readsThing_165 rfl lt_iconst_1 ?_
          refine z_iload_n C (q := 167) 0 dX10_readsThing_166 rfl rfl ?_
          refine z_ishl C (q := 168) dX10_readsThing_167 rfl ?_
          refine z_ior C (q := 169) dX10_readsThing_168 rfl ?_
          refine z_iast C (q := 170) ar_m14 dX10_readsThing_169 rfl (fun s53 => ?_)
          refine z_aload_n C (q := 171) 1 dX10_readsThing_170 rfl rfl ?_
          refine z_callV C (q := 174) [] gl_X10_144 glv_X10_goOn ob_m rfl (m_X10_goOn G (g_Kap C)  _) rfl rfl (Nat.le_of_ble_eq_true rfl) ⟨by decide, by decide⟩ dX10_readsThing_171 rfl (z_kv (fun s54 => ?_))
          refine z_aload_n C (q := 175) 1 dX10_readsThing_174 rfl rfl ?_
          refine z_callV C (q := 178) [] gl_X10_166 glv_X10_stops ob_m rfl (m_X10_stops G (g_Kap C)  _) rfl rfl (Nat.le_of_ble_eq_true rfl) ⟨by decide, by decide⟩ dX10_readsThing_175 rfl (z_ki (fun r56 s55 => ?_))
          exact z_zret C dX10_readsThing_178
        refine z_aload_n C (q := 150) 1 dX10_readsThing_149 rfl rfl ?_
        refine z_iconst C (q := 151) dX10_readsThing_150 rfl lt_iconst_4 ?_
        refine z_callV C (q := 154) [.int (4 : Int32)] gl_X10_138 glv_X10_faults ob_m rfl (m_X10_faults G (g_Kap C) (4 : Int32) _) rfl rfl (Nat.le_of_ble_eq_true rfl) ⟨by decide, by decide⟩ dX10_readsThing_151 rfl (z_ki (fun r58 s57 => ?_))
        exact z_zret C dX10_readsThing_154
      refine z_iconst C (q := 131) dX10_readsThing_130 rfl lt_iconst_0 ?_
      exact z_zretK C (by decide) dX10_readsThing_131
    refine z_aload_n C (q := 103) 1 dX10_readsThing_102 rfl rfl ?_
    refine z_iconst C (q := 104) dX10_readsThing_103 rfl lt_iconst_1 ?_
    refine z_callV C (q := 107) [.int (1 : Int32)] gl_X10_138 glv_X10_faults ob_m rfl (m_X10_faults G (g_Kap C) (1 : Int32) _) rfl rfl (Nat.le_of_ble_eq_true rfl) ⟨by decide, by decide⟩ dX10_readsThing_104 rfl (z_ki (fun r60 s59 => ?_))
    exact z_zret C dX10_readsThing_107
  refine z_aload_n C (q := 10) 0 dX10_readsThing_9 rfl rfl ?_
  refine z_iconst C (q := 11) dX10_readsThing_10 rfl lt_iconst_3 ?_
  refine z_callV C (q := 14) [.int (3 : Int32)] gl_X10_138 glv_X10_faults ob_m rfl (m_X10_faults G (g_Kap C) (3 : Int32) _) rfl rfl (Nat.le_of_ble_eq_true rfl) ⟨by decide, by decide⟩ dX10_readsThing_11 rfl (z_ki (fun r62 s61 => ?_))
  exact z_zret C dX10_readsThing_14
set_option maxRecDepth 100000 in
set_option maxHeartbeats 4000000 in
theorem m_X10_readsCow (G : gG) {ad : Nat → Nat} (hap : g_ap LM ad)    (s : gS) : g_M G LM ad yX10_readsCow cX10_readsCow 1 (some .boolean) 6 [.ref (ad 0)] s (f_X10_readsCow s) := by
  refine g_entry (by decide) hap (Nat.le_of_ble_eq_true rfl) [(0, .ref (ad 0))] rfl (fun X C => ?_)
  unfold f_X10_readsCow
  refine z_aload_n C (q := 1) 0 dX10_readsCow_0 rfl rfl ?_
  refine z_getI C (q := 4) ob_m fF_X10_185 rfl dX10_readsCow_1 rfl ?_
  refine z_if_eq C (tgt := 13) (q := 7) dX10_readsCow_4 (by decide) rfl ?_ ?_
  · refine z_aload_n C (q := 14) 0 dX10_readsCow_13 rfl rfl ?_
    refine z_iconst C (q := 15) dX10_readsCow_14 rfl lt_iconst_1 ?_
    refine z_putZK C (q := 18) (by decide) ob_m fP_X10_185 rfl dX10_readsCow_15 rfl (fun s1 => ?_)
    refine z_aload_n C (q := 19) 0 dX10_readsCow_18 rfl rfl ?_
    refine z_callV C (q := 22) [] gl_X10_144 glv_X10_goOn ob_m rfl (m_X10_goOn G (g_Kap C)  _) rfl rfl (Nat.le_of_ble_eq_true rfl) ⟨by decide, by decide⟩ dX10_readsCow_19 rfl (z_kv (fun s2 => ?_))
    refine z_aload_n C (q := 23) 0 dX10_readsCow_22 rfl rfl ?_
    refine z_callV C (q := 26) [] gl_X10_173 glv_X10_takesX ob_m rfl (m_X10_takesX G (g_Kap C)  _) rfl rfl (Nat.le_of_ble_eq_true rfl) ⟨by decide, by decide⟩ dX10_readsCow_23 rfl (z_ki (fun r4 s3 => ?_))
    refine z_if_eq C (tgt := 40) (q := 29) dX10_readsCow_26 (by decide) rfl ?_ ?_
    · refine z_iconst C (q := 41) dX10_readsCow_40 rfl lt_iconst_0 ?_
      exact z_zretK C (by decide) dX10_readsCow_41
    refine z_aload_n C (q := 30) 0 dX10_readsCow_29 rfl rfl ?_
    refine z_aload_n C (q := 31) 0 dX10_readsCow_30 rfl rfl ?_
    refine z_getI C (q := 34) ob_m fF_X10_141 rfl dX10_readsCow_31 rfl ?_
    refine z_callV C (q := 37) [.int (s3.1 0 38)] gl_X10_176 glv_X10_seesY ob_m rfl (m_X10_seesY G (g_Kap C) (s3.1 0 38) _) rfl rfl (Nat.le_of_ble_eq_true rfl) ⟨by decide, by decide⟩ dX10_readsCow_34 rfl (z_ki (fun r6 s5 => ?_))
    refine z_if_ne C (tgt := 42) (q := 40) dX10_readsCow_37 (by decide) rfl ?_ ?_
    · refine z_aload_n C (q := 43) 0 dX10_readsCow_42 rfl rfl ?_
      refine z_aload_n C (q := 44) 0 dX10_readsCow_43 rfl rfl ?_
      refine z_getI C (q := 47) ob_m fF_X10_157 rfl dX10_readsCow_44 rfl ?_
      refine z_putI C (q := 50) ob_m fP_X10_189 rfl dX10_readsCow_47 rfl (fun s7 => ?_)
      refine z_aload_n C (q := 51) 0 dX10_readsCow_50 rfl rfl ?_
      refine z_callV C (q := 54) [] gl_X10_144 glv_X10_goOn ob_m rfl (m_X10_goOn G (g_Kap C)  _) rfl rfl (Nat.le_of_ble_eq_true rfl) ⟨by decide, by decide⟩ dX10_readsCow_51 rfl (z_kv (fun s8 => ?_))
      refine z_aload_n C (q := 55) 0 dX10_readsCow_54 rfl rfl ?_
      refine z_iconst C (q := 56) dX10_readsCow_55 rfl lt_iconst_1 ?_
      refine z_bipush C (q := 58) dX10_readsCow_56 rfl lt_bipush_8 ?_
      refine z_callV C (q := 61) [.int (1 : Int32), .int (8 : Int32)] gl_X10_150 glv_X10_takes ob_m rfl (m_X10_takes G (g_Kap C) (1 : Int32) (8 : Int32) _) rfl rfl (Nat.le_of_ble_eq_true rfl) ⟨by decide, by decide⟩ dX10_readsCow_58 rfl (z_ki (fun r10 s9 => ?_))
      refine z_if_ne C (tgt := 66) (q := 64) dX10_readsCow_61 (by decide) rfl ?_ ?_
      · refine z_aload_n C (q := 67) 0 dX10_readsCow_66 rfl rfl ?_
        refine z_aload_n C (q := 68) 0 dX10_readsCow_67 rfl rfl ?_
        refine z_getI C (q := 71) ob_m fF_X10_141 rfl dX10_readsCow_68 rfl ?_
        refine z_putI C (q := 74) ob_m fP_X10_192 rfl dX10_readsCow_71 rfl (fun s11 => ?_)
        refine z_aload_n C (q := 75) 0 dX10_readsCow_74 rfl rfl ?_
        refine z_callV C (q := 78) [] gl_X10_166 glv_X10_stops ob_m rfl (m_X10_stops G (g_Kap C)  _) rfl rfl (Nat.le_of_ble_eq_true rfl) ⟨by decide, by decide⟩ dX10_readsCow_75 rfl (z_ki (fun r13 s12 => ?_))
        exact z_zret C dX10_readsCow_78
      refine z_iconst C (q := 65) dX10_readsCow_64 rfl lt_iconst_0 ?_
      exact z_zretK C (by decide) dX10_readsCow_65
    refine z_iconst C (q := 41) dX10_readsCow_40 rfl lt_iconst_0 ?_
    exact z_zretK C (by decide) dX10_readsCow_41
  refine z_aload_n C (q := 8) 0 dX10_readsCow_7 rfl rfl ?_
  refine z_iconst C (q := 9) dX10_readsCow_8 rfl lt_iconst_3 ?_
  refine z_callV C (q := 12) [.int (3 : Int32)] gl_X10_138 glv_X10_faults ob_m rfl (m_X10_faults G (g_Kap C) (3 : Int32) _) rfl rfl (Nat.le_of_ble_eq_true rfl) ⟨by decide, by decide⟩ dX10_readsCow_9 rfl (z_ki (fun r15 s14 => ?_))
  exact z_zret C dX10_readsCow_12
set_option maxRecDepth 100000 in
set_option maxHeartbeats 4000000 in
theorem l_X10_readsLikes_24 {G : gG} {X : gX} {ad : Nat → Nat} (C : g_K G X LM ad cX10_readsLikes 2 RX10 (some .boolean) 5)    {k : Int32 → gS → gR} (hk : ∀ (v1 : Int32) (s : gS), g_Z G X LM ad 2 57 [(0, .ref (ad 0))] [] s (k v1 s)) : ∀ (n : Nat) (v1 : Int32) (s : gS), g_Z G X LM ad 2 24 [(0, .ref (ad 0)), (1, .int v1)] [] s (f_X10_readsLikes_24  k n v1 s) := by
  intro n
  induction n with
  | zero => intros; exact z_none
  | succ n ih =>
    intro v1 s
    rw [f_X10_readsLikes_24.eq_2]
    refine z_iload_n C (q := 25) 1 dX10_readsLikes_24 rfl rfl ?_
    refine z_iconst C (q := 26) dX10_readsLikes_25 rfl lt_iconst_4 ?_
    refine z_icmp_ge C (tgt := 57) (q := 29) dX10_readsLikes_26 (by decide) rfl ?_ ?_
    · exact z_sub [0] rfl (hk v1 s)
    refine z_aload_n C (q := 30) 0 dX10_readsLikes_29 rfl rfl ?_
    refine z_iconst C (q := 31) dX10_readsLikes_30 rfl lt_iconst_0 ?_
    refine z_bipush C (q := 33) dX10_readsLikes_31 rfl lt_bipush_9 ?_
    refine z_callV C (q := 36) [.int (0 : Int32), .int (9 : Int32)] gl_X10_150 glv_X10_takes ob_m rfl (m_X10_takes G (g_Kap C) (0 : Int32) (9 : Int32) _) rfl rfl (Nat.le_of_ble_eq_true rfl) ⟨by decide, by decide⟩ dX10_readsLikes_33 rfl (z_ki (fun r4 s3 => ?_))
    refine z_if_ne C (tgt := 41) (q := 39) dX10_readsLikes_36 (by decide) rfl ?_ ?_
    · refine z_aload_n C (q := 42) 0 dX10_readsLikes_41 rfl rfl ?_
      refine z_getR C (q := 45) ob_m fF_X10_66 rfl dX10_readsLikes_42 rfl ?_
      refine z_iload_n C (q := 46) 1 dX10_readsLikes_45 rfl rfl ?_
      refine z_aload_n C (q := 47) 0 dX10_readsLikes_46 rfl rfl ?_
      refine z_getI C (q := 50) ob_m fF_X10_141 rfl dX10_readsLikes_47 rfl ?_
      refine z_iast C (q := 51) ar_m17 dX10_readsLikes_50 rfl (fun s5 => ?_)
      refine z_iinc C (q := 54) 1 [(1, .int (v1 + 1)), (0, .ref (ad 0))] dX10_readsLikes_51 rfl rfl (lt_iinc_1 _) (by decide) rfl ?_
      refine z_goto C (tgt := 24) dX10_readsLikes_54 (by decide) ?_
      exact z_sub [1, 0] rfl (ih (v1 + 1) s5)
    refine z_iconst C (q := 40) dX10_readsLikes_39 rfl lt_iconst_0 ?_
    exact z_zretK C (by decide) dX10_readsLikes_40
set_option maxRecDepth 100000 in
set_option maxHeartbeats 4000000 in
theorem m_X10_readsLikes (G : gG) {ad : Nat → Nat} (hap : g_ap LM ad)    (s : gS) : g_M G LM ad yX10_readsLikes cX10_readsLikes 2 (some .boolean) 5 [.ref (ad 0)] s (f_X10_readsLikes s) := by
  refine g_entry (by decide) hap (Nat.le_of_ble_eq_true rfl) [(0, .ref (ad 0))] rfl (fun X C => ?_)
  unfold f_X10_readsLikes
  refine z_aload_n C (q := 1) 0 dX10_readsLikes_0 rfl rfl ?_
  refine z_getI C (q := 4) ob_m fF_X10_195 rfl dX10_readsLikes_1 rfl ?_
  refine z_if_eq C (tgt := 13) (q := 7) dX10_readsLikes_4 (by decide) rfl ?_ ?_
  · refine z_aload_n C (q := 14) 0 dX10_readsLikes_13 rfl rfl ?_
    refine z_iconst C (q := 15) dX10_readsLikes_14 rfl lt_iconst_1 ?_
    refine z_putZK C (q := 18) (by decide) ob_m fP_X10_195 rfl dX10_readsLikes_15 rfl (fun s1 => ?_)
    refine z_aload_n C (q := 19) 0 dX10_readsLikes_18 rfl rfl ?_
    refine z_callV C (q := 22) [] gl_X10_144 glv_X10_goOn ob_m rfl (m_X10_goOn G (g_Kap C)  _) rfl rfl (Nat.le_of_ble_eq_true rfl) ⟨by decide, by decide⟩ dX10_readsLikes_19 rfl (z_kv (fun s2 => ?_))
    refine z_iconst C (q := 23) dX10_readsLikes_22 rfl lt_iconst_0 ?_
    refine z_istore_n C (q := 24) [(1, .int (0 : Int32)), (0, .ref (ad 0))] dX10_readsLikes_23 rfl rfl (by decide) rfl ?_
    refine z_sub [1, 0] rfl (l_X10_readsLikes_24 C  (fun v1_6 s7 => ?_) g_N (0 : Int32) s2)
    refine z_aload_n C (q := 58) 0 dX10_readsLikes_57 rfl rfl ?_
    refine z_callV C (q := 61) [] gl_X10_166 glv_X10_stops ob_m rfl (m_X10_stops G (g_Kap C)  _) rfl rfl (Nat.le_of_ble_eq_true rfl) ⟨by decide, by decide⟩ dX10_readsLikes_58 rfl (z_ki (fun r9 s8 => ?_))
    exact z_zret C dX10_readsLikes_61
  refine z_aload_n C (q := 8) 0 dX10_readsLikes_7 rfl rfl ?_
  refine z_iconst C (q := 9) dX10_readsLikes_8 rfl lt_iconst_3 ?_
  refine z_callV C (q := 12) [.int (3 : Int32)] gl_X10_138 glv_X10_faults ob_m rfl (m_X10_faults G (g_Kap C) (3 : Int32) _) rfl rfl (Nat.le_of_ble_eq_true rfl) ⟨by decide, by decide⟩ dX10_readsLikes_9 rfl (z_ki (fun r11 s10 => ?_))
  exact z_zret C dX10_readsLikes_12
set_option maxRecDepth 100000 in
set_option maxHeartbeats 4000000 in
theorem m_X10_readsItem (G : gG) {ad : Nat → Nat} (hap : g_ap LM ad)    (s : gS) : g_M G LM ad yX10_readsItem cX10_readsItem 1 (some .boolean) 7 [.ref (ad 0)] s (f_X10_readsItem s) := by
  refine g_entry (by decide) hap (Nat.le_of_ble_eq_true rfl) [(0, .ref (ad 0))] rfl (fun X C => ?_)
  unfold f_X10_readsItem
  refine z_aload_n C (q := 1) 0 dX10_readsItem_0 rfl rfl ?_
  refine z_bipush C (q := 3) dX10_readsItem_1 rfl lt_bipush_103 ?_
  refine z_bipush C (q := 5) dX10_readsItem_3 rfl lt_bipush_114 ?_
  refine z_bipush C (q := 7) dX10_readsItem_5 rfl lt_bipush_97 ?_
  refine z_bipush C (q := 9) dX10_readsItem_7 rfl lt_bipush_115 ?_
  refine z_bipush C (q := 11) dX10_readsItem_9 rfl lt_bipush_115 ?_
  refine z_iconst C (q := 12) dX10_readsItem_11 rfl lt_iconst_0 ?_
  refine z_callV C (q := 15) [.int (103 : Int32), .int (114 : Int32), .int (97 : Int32), .int (115 : Int32), .int (115 : Int32), .int (0 : Int32)] gl_X10_160 glv_X10_isWord ob_m rfl (m_X10_isWord G (g_Kap C) (103 : Int32) (114 : Int32) (97 : Int32) (115 : Int32) (115 : Int32) (0 : Int32) _) rfl rfl (Nat.le_of_ble_eq_true rfl) ⟨by decide, by decide⟩ dX10_readsItem_12 rfl (z_ki (fun r2 s1 => ?_))
  refine z_if_eq C (tgt := 23) (q := 18) dX10_readsItem_15 (by decide) rfl ?_ ?_
  · refine z_aload_n C (q := 24) 0 dX10_readsItem_23 rfl rfl ?_
    refine z_bipush C (q := 26) dX10_readsItem_24 rfl lt_bipush_116 ?_
    refine z_bipush C (q := 28) dX10_readsItem_26 rfl lt_bipush_104 ?_
    refine z_bipush C (q := 30) dX10_readsItem_28 rfl lt_bipush_105 ?_
    refine z_bipush C (q := 32) dX10_readsItem_30 rfl lt_bipush_110 ?_
    refine z_bipush C (q := 34) dX10_readsItem_32 rfl lt_bipush_103 ?_
    refine z_iconst C (q := 35) dX10_readsItem_34 rfl lt_iconst_0 ?_
    refine z_callV C (q := 38) [.int (116 : Int32), .int (104 : Int32), .int (105 : Int32), .int (110 : Int32), .int (103 : Int32), .int (0 : Int32)] gl_X10_160 glv_X10_isWord ob_m rfl (m_X10_isWord G (g_Kap C) (116 : Int32) (104 : Int32) (105 : Int32) (110 : Int32) (103 : Int32) (0 : Int32) _) rfl rfl (Nat.le_of_ble_eq_true rfl) ⟨by decide, by decide⟩ dX10_readsItem_35 rfl (z_ki (fun r4 s3 => ?_))
    refine z_if_eq C (tgt := 46) (q := 41) dX10_readsItem_38 (by decide) rfl ?_ ?_
    · refine z_aload_n C (q := 47) 0 dX10_readsItem_46 rfl rfl ?_
      refine z_bipush C (q := 49) dX10_readsItem_47 rfl lt_bipush_116 ?_
      refine z_bipush C (q := 51) dX10_readsItem_49 rfl lt_bipush_105 ?_
      refine z_bipush C (q := 53) dX10_readsItem_51 rfl lt_bipush_116 ?_
      refine z_bipush C (q := 55) dX10_readsItem_53 rfl lt_bipush_104 ?_
      refine z_bipush C (q := 57) dX10_readsItem_55 rfl lt_bipush_101 ?_
      refine z_iconst C (q := 58) dX10_readsItem_57 rfl lt_iconst_0 ?_
      refine z_callV C (q := 61) [.int (116 : Int32), .int (105 : Int32), .int (116 : Int32), .int (104 : Int32), .int (101 : Int32), .int (0 : Int32)] gl_X10_160 glv_X10_isWord ob_m rfl (m_X10_isWord G (g_Kap C) (116 : Int32) (105 : Int32) (116 : Int32) (104 : Int32) (101 : Int32) (0 : Int32) _) rfl rfl (Nat.le_of_ble_eq_true rfl) ⟨by decide, by decide⟩ dX10_readsItem_58 rfl (z_ki (fun r6 s5 => ?_))
      refine z_if_eq C (tgt := 69) (q := 64) dX10_readsItem_61 (by decide) rfl ?_ ?_
      · refine z_aload_n C (q := 70) 0 dX10_readsItem_69 rfl rfl ?_
        refine z_bipush C (q := 72) dX10_readsItem_70 rfl lt_bipush_99 ?_
        refine z_bipush C (q := 74) dX10_readsItem_72 rfl lt_bipush_111 ?_
        refine z_bipush C (q := 76) dX10_readsItem_74 rfl lt_bipush_119 ?_
        refine z_iconst C (q := 77) dX10_readsItem_76 rfl lt_iconst_0 ?_
        refine z_iconst C (q := 78) dX10_readsItem_77 rfl lt_iconst_0 ?_
        refine z_iconst C (q := 79) dX10_readsItem_78 rfl lt_iconst_0 ?_
        refine z_callV C (q := 82) [.int (99 : Int32), .int (111 : Int32), .int (119 : Int32), .int (0 : Int32), .int (0 : Int32), .int (0 : Int32)] gl_X10_160 glv_X10_isWord ob_m rfl (m_X10_isWord G (g_Kap C) (99 : Int32) (111 : Int32) (119 : Int32) (0 : Int32) (0 : Int32) (0 : Int32) _) rfl rfl (Nat.le_of_ble_eq_true rfl) ⟨by decide, by decide⟩ dX10_readsItem_79 rfl (z_ki (fun r8 s7 => ?_))
        refine z_if_eq C (tgt := 90) (q := 85) dX10_readsItem_82 (by decide) rfl ?_ ?_
        · refine z_aload_n C (q := 91) 0 dX10_readsItem_90 rfl rfl ?_
          refine z_bipush C (q := 93) dX10_readsItem_91 rfl lt_bipush_108 ?_
          refine z_bipush C (q := 95) dX10_readsItem_93 rfl lt_bipush_105 ?_
          refine z_bipush C (q := 97) dX10_readsItem_95 rfl lt_bipush_107 ?_
          refine z_bipush C (q := 99) dX10_readsItem_97 rfl lt_bipush_101 ?_
          refine z_bipush C (q := 101) dX10_readsItem_99 rfl lt_bipush_115 ?_
          refine z_iconst C (q := 102) dX10_readsItem_101 rfl lt_iconst_0 ?_
          refine z_callV C (q := 105) [.int (108 : Int32), .int (105 : Int32), .int (107 : Int32), .int (101 : Int32), .int (115 : Int32), .int (0 : Int32)] gl_X10_160 glv_X10_isWord ob_m rfl (m_X10_isWord G (g_Kap C) (108 : Int32) (105 : Int32) (107 : Int32) (101 : Int32) (115 : Int32) (0 : Int32) _) rfl rfl (Nat.le_of_ble_eq_true rfl) ⟨by decide, by decide⟩ dX10_readsItem_102 rfl (z_ki (fun r10 s9 => ?_))
          refine z_if_eq C (tgt := 113) (q := 108) dX10_readsItem_105 (by decide) rfl ?_ ?_
          · refine z_aload_n C (q := 114) 0 dX10_readsItem_113 rfl rfl ?_
            refine z_aload_n C (q := 115) 0 dX10_readsItem_114 rfl rfl ?_
            refine z_bipush C (q := 117) dX10_readsItem_115 rfl lt_bipush_109 ?_
            refine z_bipush C (q := 119) dX10_readsItem_117 rfl lt_bipush_101 ?_
            refine z_bipush C (q := 121) dX10_readsItem_119 rfl lt_bipush_97 ?_
            refine z_bipush C (q := 123) dX10_readsItem_121 rfl lt_bipush_100 ?_
            refine z_bipush C (q := 125) dX10_readsItem_123 rfl lt_bipush_111 ?_
            refine z_bipush C (q := 127) dX10_readsItem_125 rfl lt_bipush_119 ?_
            refine z_callV C (q := 130) [.int (109 : Int32), .int (101 : Int32), .int (97 : Int32), .int (100 : Int32), .int (111 : Int32), .int (119 : Int32)] gl_X10_160 glv_X10_isWord ob_m rfl (m_X10_isWord G (g_Kap C) (109 : Int32) (101 : Int32) (97 : Int32) (100 : Int32) (111 : Int32) (119 : Int32) _) rfl rfl (Nat.le_of_ble_eq_true rfl) ⟨by decide, by decide⟩ dX10_readsItem_127 rfl (z_ki (fun r12 s11 => ?_))
            refine z_if_eq C (tgt := 137) (q := 133) dX10_readsItem_130 (by decide) rfl ?_ ?_
            · refine z_iconst C (q := 138) dX10_readsItem_137 rfl lt_iconst_1 ?_
              refine z_callV C (q := 141) [.int (1 : Int32)] gl_X10_138 glv_X10_faults ob_m rfl (m_X10_faults G (g_Kap C) (1 : Int32) _) rfl rfl (Nat.le_of_ble_eq_true rfl) ⟨by decide, by decide⟩ dX10_readsItem_138 rfl (z_ki (fun r14 s13 => ?_))
              exact z_zret C dX10_readsItem_141
            refine z_iconst C (q := 134) dX10_readsItem_133 rfl lt_iconst_3 ?_
            refine z_goto C (tgt := 138) dX10_readsItem_134 (by decide) ?_
            refine z_callV C (q := 141) [.int (3 : Int32)] gl_X10_138 glv_X10_faults ob_m rfl (m_X10_faults G (g_Kap C) (3 : Int32) _) rfl rfl (Nat.le_of_ble_eq_true rfl) ⟨by decide, by decide⟩ dX10_readsItem_138 rfl (z_ki (fun r16 s15 => ?_))
            exact z_zret C dX10_readsItem_141
          refine z_aload_n C (q := 109) 0 dX10_readsItem_108 rfl rfl ?_
          refine z_callV C (q := 112) [] gl_X10_210 glv_X10_readsLikes ob_m rfl (m_X10_readsLikes G (g_Kap C)  _) rfl rfl (Nat.le_of_ble_eq_true rfl) ⟨by decide, by decide⟩ dX10_readsItem_109 rfl (z_ki (fun r18 s17 => ?_))
          exact z_zret C dX10_readsItem_112
        refine z_aload_n C (q := 86) 0 dX10_readsItem_85 rfl rfl ?_
        refine z_callV C (q := 89) [] gl_X10_207 glv_X10_readsCow ob_m rfl (m_X10_readsCow G (g_Kap C)  _) rfl rfl (Nat.le_of_ble_eq_true rfl) ⟨by decide, by decide⟩ dX10_readsItem_86 rfl (z_ki (fun r20 s19 => ?_))
        exact z_zret C dX10_readsItem_89
      refine z_aload_n C (q := 65) 0 dX10_readsItem_64 rfl rfl ?_
      refine z_callV C (q := 68) [] gl_X10_204 glv_X10_readsTithe ob_m rfl (m_X10_readsTithe G (g_Kap C)  _) rfl rfl (Nat.le_of_ble_eq_true rfl) ⟨by decide, by decide⟩ dX10_readsItem_65 rfl (z_ki (fun r22 s21 => ?_))
      exact z_zret C dX10_readsItem_68
    refine z_aload_n C (q := 42) 0 dX10_readsItem_41 rfl rfl ?_
    refine z_callV C (q := 45) [] gl_X10_201 glv_X10_readsThing ob_m rfl (m_X10_readsThing G (g_Kap C)  _) rfl rfl (Nat.le_of_ble_eq_true rfl) ⟨by decide, by decide⟩ dX10_readsItem_42 rfl (z_ki (fun r24 s23 => ?_))
    exact z_zret C dX10_readsItem_45
  refine z_aload_n C (q := 19) 0 dX10_readsItem_18 rfl rfl ?_
  refine z_callV C (q := 22) [] gl_X10_198 glv_X10_readsGrass ob_m rfl (m_X10_readsGrass G (g_Kap C)  _) rfl rfl (Nat.le_of_ble_eq_true rfl) ⟨by decide, by decide⟩ dX10_readsItem_19 rfl (z_ki (fun r26 s25 => ?_))
  exact z_zret C dX10_readsItem_22
set_option maxRecDepth 100000 in
set_option maxHeartbeats 4000000 in
theorem l_X10_readsNothing_12 {G : gG} {X : gX} {ad : Nat → Nat} (C : g_K G X LM ad cX10_readsNothing 2 RX10 none 0)    {k : Int32 → gS → gR} (hk : ∀ (v1 : Int32) (s : gS), g_Z G X LM ad 2 59 [(0, .ref (ad 0))] [] s (k v1 s)) : ∀ (n : Nat) (v1 : Int32) (s : gS), g_Z G X LM ad 2 12 [(0, .ref (ad 0)), (1, .int v1)] [] s (f_X10_readsNothing_12  k n v1 s) := by
  intro n
  induction n with
  | zero => intros; exact z_none
  | succ n ih =>
    intro v1 s
    rw [f_X10_readsNothing_12.eq_2]
    refine z_iload_n C (q := 13) 1 dX10_readsNothing_12 rfl rfl ?_
    refine z_bipush C (q := 15) dX10_readsNothing_13 rfl lt_bipush_40 ?_
    refine z_icmp_ge C (tgt := 59) (q := 18) dX10_readsNothing_15 (by decide) rfl ?_ ?_
    · exact z_sub [0] rfl (hk v1 s)
    refine z_aload_n C (q := 19) 0 dX10_readsNothing_18 rfl rfl ?_
    refine z_getR C (q := 22) ob_m fF_X10_51 rfl dX10_readsNothing_19 rfl ?_
    refine z_iload_n C (q := 23) 1 dX10_readsNothing_22 rfl rfl ?_
    refine z_iconst C (q := 24) dX10_readsNothing_23 rfl lt_iconst_1 ?_
    refine z_iast C (q := 25) ar_m12 dX10_readsNothing_24 rfl (fun s3 => ?_)
    refine z_aload_n C (q := 26) 0 dX10_readsNothing_25 rfl rfl ?_
    refine z_getR C (q := 29) ob_m fF_X10_54 rfl dX10_readsNothing_26 rfl ?_
    refine z_iload_n C (q := 30) 1 dX10_readsNothing_29 rfl rfl ?_
    refine z_iconst C (q := 31) dX10_readsNothing_30 rfl lt_iconst_1 ?_
    refine z_iast C (q := 32) ar_m13 dX10_readsNothing_31 rfl (fun s4 => ?_)
    refine z_aload_n C (q := 33) 0 dX10_readsNothing_32 rfl rfl ?_
    refine z_getR C (q := 36) ob_m fF_X10_57 rfl dX10_readsNothing_33 rfl ?_
    refine z_iload_n C (q := 37) 1 dX10_readsNothing_36 rfl rfl ?_
    refine z_iconst C (q := 38) dX10_readsNothing_37 rfl lt_iconst_0 ?_
    refine z_iast C (q := 39) ar_m14 dX10_readsNothing_38 rfl (fun s5 => ?_)
    refine z_aload_n C (q := 40) 0 dX10_readsNothing_39 rfl rfl ?_
    refine z_getR C (q := 43) ob_m fF_X10_60 rfl dX10_readsNothing_40 rfl ?_
    refine z_iload_n C (q := 44) 1 dX10_readsNothing_43 rfl rfl ?_
    refine z_iconst C (q := 45) dX10_readsNothing_44 rfl lt_iconst_0 ?_
    refine z_zast C (q := 46) ar_m15 dX10_readsNothing_45 rfl (fun s6 => ?_)
    refine z_aload_n C (q := 47) 0 dX10_readsNothing_46 rfl rfl ?_
    refine z_getR C (q := 50) ob_m fF_X10_63 rfl dX10_readsNothing_47 rfl ?_
    refine z_iload_n C (q := 51) 1 dX10_readsNothing_50 rfl rfl ?_
    refine z_iconst C (q := 52) dX10_readsNothing_51 rfl lt_iconst_0 ?_
    refine z_zast C (q := 53) ar_m16 dX10_readsNothing_52 rfl (fun s7 => ?_)
    refine z_iinc C (q := 56) 1 [(1, .int (v1 + 1)), (0, .ref (ad 0))] dX10_readsNothing_53 rfl rfl (lt_iinc_1 _) (by decide) rfl ?_
    refine z_goto C (tgt := 12) dX10_readsNothing_56 (by decide) ?_
    exact z_sub [1, 0] rfl (ih (v1 + 1) s7)
set_option maxRecDepth 100000 in
set_option maxHeartbeats 4000000 in
theorem m_X10_readsNothing (G : gG) {ad : Nat → Nat} (hap : g_ap LM ad)    (s : gS) : g_M G LM ad yX10_readsNothing cX10_readsNothing 2 none 0 [.ref (ad 0)] s (f_X10_readsNothing s) := by
  refine g_entry (by decide) hap (Nat.le_of_ble_eq_true rfl) [(0, .ref (ad 0))] rfl (fun X C => ?_)
  unfold f_X10_readsNothing
  refine z_aload_n C (q := 1) 0 dX10_readsNothing_0 rfl rfl ?_
  refine z_iconst C (q := 2) dX10_readsNothing_1 rfl lt_iconst_0 ?_
  refine z_putI C (q := 5) ob_m fP_X10_147 rfl dX10_readsNothing_2 rfl (fun s1 => ?_)
  refine z_aload_n C (q := 6) 0 dX10_readsNothing_5 rfl rfl ?_
  refine z_iconst C (q := 7) dX10_readsNothing_6 rfl lt_iconst_0 ?_
  refine z_putI C (q := 10) ob_m fP_X10_154 rfl dX10_readsNothing_7 rfl (fun s2 => ?_)
  refine z_iconst C (q := 11) dX10_readsNothing_10 rfl lt_iconst_0 ?_
  refine z_istore_n C (q := 12) [(1, .int (0 : Int32)), (0, .ref (ad 0))] dX10_readsNothing_11 rfl rfl (by decide) rfl ?_
  refine z_sub [1, 0] rfl (l_X10_readsNothing_12 C  (fun v1_8 s9 => ?_) g_N (0 : Int32) s2)
  refine z_aload_n C (q := 60) 0 dX10_readsNothing_59 rfl rfl ?_
  refine z_iconst C (q := 61) dX10_readsNothing_60 rfl lt_iconst_0 ?_
  refine z_putI C (q := 64) ob_m fP_X10_189 rfl dX10_readsNothing_61 rfl (fun s10 => ?_)
  refine z_aload_n C (q := 65) 0 dX10_readsNothing_64 rfl rfl ?_
  refine z_iconst C (q := 66) dX10_readsNothing_65 rfl lt_iconst_4 ?_
  refine z_putI C (q := 69) ob_m fP_X10_192 rfl dX10_readsNothing_66 rfl (fun s11 => ?_)
  refine z_aload_n C (q := 70) 0 dX10_readsNothing_69 rfl rfl ?_
  refine z_getR C (q := 73) ob_m fF_X10_66 rfl dX10_readsNothing_70 rfl ?_
  refine z_iconst C (q := 74) dX10_readsNothing_73 rfl lt_iconst_0 ?_
  refine z_iconst C (q := 75) dX10_readsNothing_74 rfl lt_iconst_2 ?_
  refine z_iast C (q := 76) ar_m17 dX10_readsNothing_75 rfl (fun s12 => ?_)
  refine z_aload_n C (q := 77) 0 dX10_readsNothing_76 rfl rfl ?_
  refine z_getR C (q := 80) ob_m fF_X10_66 rfl dX10_readsNothing_77 rfl ?_
  refine z_iconst C (q := 81) dX10_readsNothing_80 rfl lt_iconst_1 ?_
  refine z_iconst C (q := 82) dX10_readsNothing_81 rfl lt_iconst_3 ?_
  refine z_iast C (q := 83) ar_m17 dX10_readsNothing_82 rfl (fun s13 => ?_)
  refine z_aload_n C (q := 84) 0 dX10_readsNothing_83 rfl rfl ?_
  refine z_getR C (q := 87) ob_m fF_X10_66 rfl dX10_readsNothing_84 rfl ?_
  refine z_iconst C (q := 88) dX10_readsNothing_87 rfl lt_iconst_2 ?_
  refine z_iconst C (q := 89) dX10_readsNothing_88 rfl lt_iconst_3 ?_
  refine z_iast C (q := 90) ar_m17 dX10_readsNothing_89 rfl (fun s14 => ?_)
  refine z_aload_n C (q := 91) 0 dX10_readsNothing_90 rfl rfl ?_
  refine z_getR C (q := 94) ob_m fF_X10_66 rfl dX10_readsNothing_91 rfl ?_
  refine z_iconst C (q := 95) dX10_readsNothing_94 rfl lt_iconst_3 ?_
  refine z_iconst C (q := 96) dX10_readsNothing_95 rfl lt_iconst_4 ?_
  refine z_iast C (q := 97) ar_m17 dX10_readsNothing_96 rfl (fun s15 => ?_)
  refine z_aload_n C (q := 98) 0 dX10_readsNothing_97 rfl rfl ?_
  refine z_iconst C (q := 99) dX10_readsNothing_98 rfl lt_iconst_0 ?_
  refine z_putI C (q := 102) ob_m fP_X10_170 rfl dX10_readsNothing_99 rfl (fun s16 => ?_)
  refine z_aload_n C (q := 103) 0 dX10_readsNothing_102 rfl rfl ?_
  refine z_iconst C (q := 104) dX10_readsNothing_103 rfl lt_iconst_0 ?_
  refine z_putI C (q := 107) ob_m fP_X10_182 rfl dX10_readsNothing_104 rfl (fun s17 => ?_)
  refine z_aload_n C (q := 108) 0 dX10_readsNothing_107 rfl rfl ?_
  refine z_iconst C (q := 109) dX10_readsNothing_108 rfl lt_iconst_0 ?_
  refine z_putI C (q := 112) ob_m fP_X10_179 rfl dX10_readsNothing_109 rfl (fun s18 => ?_)
  refine z_aload_n C (q := 113) 0 dX10_readsNothing_112 rfl rfl ?_
  refine z_iconst C (q := 114) dX10_readsNothing_113 rfl lt_iconst_0 ?_
  refine z_putZK C (q := 117) (by decide) ob_m fP_X10_185 rfl dX10_readsNothing_114 rfl (fun s19 => ?_)
  refine z_aload_n C (q := 118) 0 dX10_readsNothing_117 rfl rfl ?_
  refine z_iconst C (q := 119) dX10_readsNothing_118 rfl lt_iconst_0 ?_
  refine z_putZK C (q := 122) (by decide) ob_m fP_X10_195 rfl dX10_readsNothing_119 rfl (fun s20 => ?_)
  refine z_aload_n C (q := 123) 0 dX10_readsNothing_122 rfl rfl ?_
  refine z_iconst C (q := 124) dX10_readsNothing_123 rfl lt_iconst_0 ?_
  refine z_putI C (q := 127) ob_m fP_X10_135 rfl dX10_readsNothing_124 rfl (fun s21 => ?_)
  exact z_vret C dX10_readsNothing_127
set_option maxRecDepth 100000 in
set_option maxHeartbeats 4000000 in
theorem l_X10_readsAll_23 {G : gG} {X : gX} {ad : Nat → Nat} (C : g_K G X LM ad cX10_readsAll 2 RX10 (some .boolean) 8)    {k : Int32 → gS → gR} (hk : ∀ (v1 : Int32) (s : gS), g_Z G X LM ad 2 42 [(1, .int v1)] [] s (k v1 s)) : ∀ (n : Nat) (v1 : Int32) (s : gS), g_Z G X LM ad 2 23 [(0, .ref (ad 0)), (1, .int v1)] [] s (f_X10_readsAll_23  k n v1 s) := by
  intro n
  induction n with
  | zero => intros; exact z_none
  | succ n ih =>
    intro v1 s
    rw [f_X10_readsAll_23.eq_2]
    refine z_iload_n C (q := 24) 1 dX10_readsAll_23 rfl rfl ?_
    refine z_if_eq C (tgt := 42) (q := 27) dX10_readsAll_24 (by decide) rfl ?_ ?_
    · exact z_sub [1] rfl (hk v1 s)
    refine z_aload_n C (q := 28) 0 dX10_readsAll_27 rfl rfl ?_
    refine z_getI C (q := 31) ob_m fF_X10_118 rfl dX10_readsAll_28 rfl ?_
    refine z_if_eq C (tgt := 42) (q := 34) dX10_readsAll_31 (by decide) rfl ?_ ?_
    · exact z_sub [1] rfl (hk v1 s)
    refine z_aload_n C (q := 35) 0 dX10_readsAll_34 rfl rfl ?_
    refine z_callV C (q := 38) [] gl_X10_219 glv_X10_readsItem ob_m rfl (m_X10_readsItem G (g_Kap C)  _) rfl rfl (Nat.le_of_ble_eq_true rfl) ⟨by decide, by decide⟩ dX10_readsAll_35 rfl (z_ki (fun r6 s5 => ?_))
    refine z_istore_n C (q := 39) [(1, .int r6), (0, .ref (ad 0))] dX10_readsAll_38 rfl rfl (by decide) rfl ?_
    refine z_goto C (tgt := 23) dX10_readsAll_39 (by decide) ?_
    exact z_sub [1, 0] rfl (ih r6 s5)
set_option maxRecDepth 100000 in
set_option maxHeartbeats 4000000 in
theorem m_X10_readsAll (G : gG) {ad : Nat → Nat} (hap : g_ap LM ad)    (s : gS) : g_M G LM ad yX10_readsAll cX10_readsAll 2 (some .boolean) 8 [.ref (ad 0)] s (f_X10_readsAll s) := by
  refine g_entry (by decide) hap (Nat.le_of_ble_eq_true rfl) [(0, .ref (ad 0))] rfl (fun X C => ?_)
  unfold f_X10_readsAll
  refine z_aload_n C (q := 1) 0 dX10_readsAll_0 rfl rfl ?_
  refine z_callV C (q := 4) [] gl_X10_213 glv_X10_readsNothing ob_m rfl (m_X10_readsNothing G (g_Kap C)  _) rfl rfl (Nat.le_of_ble_eq_true rfl) ⟨by decide, by decide⟩ dX10_readsAll_1 rfl (z_kv (fun s1 => ?_))
  refine z_aload_n C (q := 5) 0 dX10_readsAll_4 rfl rfl ?_
  refine z_iconst C (q := 6) dX10_readsAll_5 rfl lt_iconst_0 ?_
  refine z_callV C (q := 9) [.int (0 : Int32)] gl_X10_131 glv_X10_look ob_m rfl (m_X10_look G (g_Kap C) (0 : Int32) _) rfl rfl (Nat.le_of_ble_eq_true rfl) ⟨by decide, by decide⟩ dX10_readsAll_6 rfl (z_kv (fun s2 => ?_))
  refine z_aload_n C (q := 10) 0 dX10_readsAll_9 rfl rfl ?_
  refine z_getI C (q := 13) ob_m fF_X10_118 rfl dX10_readsAll_10 rfl ?_
  refine z_if_ne C (tgt := 18) (q := 16) dX10_readsAll_13 (by decide) rfl ?_ ?_
  · refine z_aload_n C (q := 19) 0 dX10_readsAll_18 rfl rfl ?_
    refine z_callV C (q := 22) [] gl_X10_216 glv_X10_readsMeadow ob_m rfl (m_X10_readsMeadow G (g_Kap C)  _) rfl rfl (Nat.le_of_ble_eq_true rfl) ⟨by decide, by decide⟩ dX10_readsAll_19 rfl (z_ki (fun r4 s3 => ?_))
    refine z_istore_n C (q := 23) [(1, .int r4), (0, .ref (ad 0))] dX10_readsAll_22 rfl rfl (by decide) rfl ?_
    refine z_sub [1, 0] rfl (l_X10_readsAll_23 C  (fun v1_7 s8 => ?_) g_N r4 s3)
    refine z_iload_n C (q := 43) 0 dX10_readsAll_42 rfl rfl ?_
    exact z_zret C dX10_readsAll_43
  refine z_iconst C (q := 17) dX10_readsAll_16 rfl lt_iconst_1 ?_
  exact z_zretK C (by decide) dX10_readsAll_17
set_option maxRecDepth 100000 in
set_option maxHeartbeats 4000000 in
theorem l_X10_meadow_64 {G : gG} {X : gX} {ad : Nat → Nat} (C : g_K G X LM ad cX10_meadow 3 RX10 (some .int) 9)    {k : Int32 → gS → gR} (hk : ∀ (v2 : Int32) (s : gS), g_Z G X LM ad 3 129 [(0, .ref (ad 0))] [] s (k v2 s)) : ∀ (n : Nat) (v2 : Int32) (s : gS), g_Z G X LM ad 3 64 [(0, .ref (ad 0)), (2, .int v2)] [] s (f_X10_meadow_64  k n v2 s) := by
  intro n
  induction n with
  | zero => intros; exact z_none
  | succ n ih =>
    intro v2 s
    rw [f_X10_meadow_64.eq_2]
    refine z_iload_n C (q := 65) 1 dX10_meadow_64 rfl rfl ?_
    refine z_bipush C (q := 67) dX10_meadow_65 rfl lt_bipush_40 ?_
    refine z_icmp_ge C (tgt := 129) (q := 70) dX10_meadow_67 (by decide) rfl ?_ ?_
    · exact z_sub [0] rfl (hk v2 s)
    refine z_aload_n C (q := 71) 0 dX10_meadow_70 rfl rfl ?_
    refine z_getR C (q := 74) ob_m fF_X10_20 rfl dX10_meadow_71 rfl ?_
    refine z_iload_n C (q := 75) 1 dX10_meadow_74 rfl rfl ?_
    refine z_aload_n C (q := 76) 0 dX10_meadow_75 rfl rfl ?_
    refine z_getR C (q := 79) ob_m fF_X10_57 rfl dX10_meadow_76 rfl ?_
    refine z_iload_n C (q := 80) 1 dX10_meadow_79 rfl rfl ?_
    refine z_iald C (q := 81) ar_m14 dX10_meadow_80 rfl ?_
    refine z_iast C (q := 82) ar_m4 dX10_meadow_81 rfl (fun s8 => ?_)
    refine z_aload_n C (q := 83) 0 dX10_meadow_82 rfl rfl ?_
    refine z_getR C (q := 86) ob_m fF_X10_23 rfl dX10_meadow_83 rfl ?_
    refine z_iload_n C (q := 87) 1 dX10_meadow_86 rfl rfl ?_
    refine z_aload_n C (q := 88) 0 dX10_meadow_87 rfl rfl ?_
    refine z_getR C (q := 91) ob_m fF_X10_54 rfl dX10_meadow_88 rfl ?_
    refine z_iload_n C (q := 92) 1 dX10_meadow_91 rfl rfl ?_
    refine z_iald C (q := 93) ar_m13 dX10_meadow_92 rfl ?_
    refine z_iast C (q := 94) ar_m5 dX10_meadow_93 rfl (fun s9 => ?_)
    refine z_aload_n C (q := 95) 0 dX10_meadow_94 rfl rfl ?_
    refine z_getR C (q := 98) ob_m fF_X10_7 rfl dX10_meadow_95 rfl ?_
    refine z_iconst C (q := 99) dX10_meadow_98 rfl lt_iconst_0 ?_
    refine z_iload_n C (q := 100) 1 dX10_meadow_99 rfl rfl ?_
    refine z_iadd C (q := 101) dX10_meadow_100 rfl ?_
    refine z_aload_n C (q := 102) 0 dX10_meadow_101 rfl rfl ?_
    refine z_getR C (q := 105) ob_m fF_X10_51 rfl dX10_meadow_102 rfl ?_
    refine z_iload_n C (q := 106) 1 dX10_meadow_105 rfl rfl ?_
    refine z_iald C (q := 107) ar_m12 dX10_meadow_106 rfl ?_
    refine z_iast C (q := 108) ar_m1 dX10_meadow_107 rfl (fun s10 => ?_)
    refine z_aload_n C (q := 109) 0 dX10_meadow_108 rfl rfl ?_
    refine z_getR C (q := 112) ob_m fF_X10_7 rfl dX10_meadow_109 rfl ?_
    refine z_bipush C (q := 114) dX10_meadow_112 rfl lt_bipush_40 ?_
    refine z_iload_n C (q := 115) 1 dX10_meadow_114 rfl rfl ?_
    refine z_iadd C (q := 116) dX10_meadow_115 rfl ?_
    refine z_aload_n C (q := 117) 0 dX10_meadow_116 rfl rfl ?_
    refine z_getR C (q := 120) ob_m fF_X10_51 rfl dX10_meadow_117 rfl ?_
    refine z_iload_n C (q := 121) 1 dX10_meadow_120 rfl rfl ?_
    refine z_iald C (q := 122) ar_m12 dX10_meadow_121 rfl ?_
    refine z_iast C (q := 123) ar_m1 dX10_meadow_122 rfl (fun s11 => ?_)
    refine z_iinc C (q := 126) 1 [(2, .int (v2 + 1)), (0, .ref (ad 0))] dX10_meadow_123 rfl rfl (lt_iinc_1 _) (by decide) rfl ?_
    refine z_goto C (tgt := 64) dX10_meadow_126 (by decide) ?_
    exact z_sub [1, 0] rfl (ih (v2 + 1) s11)
set_option maxRecDepth 100000 in
set_option maxHeartbeats 4000000 in
theorem l_X10_meadow_131 {G : gG} {X : gX} {ad : Nat → Nat} (C : g_K G X LM ad cX10_meadow 3 RX10 (some .int) 9)    {k : Int32 → gS → gR} (hk : ∀ (v2 : Int32) (s : gS), g_Z G X LM ad 3 154 [(0, .ref (ad 0))] [] s (k v2 s)) : ∀ (n : Nat) (v2 : Int32) (s : gS), g_Z G X LM ad 3 131 [(0, .ref (ad 0)), (2, .int v2)] [] s (f_X10_meadow_131  k n v2 s) := by
  intro n
  induction n with
  | zero => intros; exact z_none
  | succ n ih =>
    intro v2 s
    rw [f_X10_meadow_131.eq_2]
    refine z_iload_n C (q := 132) 1 dX10_meadow_131 rfl rfl ?_
    refine z_iconst C (q := 133) dX10_meadow_132 rfl lt_iconst_4 ?_
    refine z_icmp_ge C (tgt := 154) (q := 136) dX10_meadow_133 (by decide) rfl ?_ ?_
    · exact z_sub [0] rfl (hk v2 s)
    refine z_aload_n C (q := 137) 0 dX10_meadow_136 rfl rfl ?_
    refine z_getR C (q := 140) ob_m fF_X10_30 rfl dX10_meadow_137 rfl ?_
    refine z_iload_n C (q := 141) 1 dX10_meadow_140 rfl rfl ?_
    refine z_aload_n C (q := 142) 0 dX10_meadow_141 rfl rfl ?_
    refine z_getR C (q := 145) ob_m fF_X10_66 rfl dX10_meadow_142 rfl ?_
    refine z_iload_n C (q := 146) 1 dX10_meadow_145 rfl rfl ?_
    refine z_iald C (q := 147) ar_m17 dX10_meadow_146 rfl ?_
    refine z_iast C (q := 148) ar_m6 dX10_meadow_147 rfl (fun s14 => ?_)
    refine z_iinc C (q := 151) 1 [(2, .int (v2 + 1)), (0, .ref (ad 0))] dX10_meadow_148 rfl rfl (lt_iinc_1 _) (by decide) rfl ?_
    refine z_goto C (tgt := 131) dX10_meadow_151 (by decide) ?_
    exact z_sub [1, 0] rfl (ih (v2 + 1) s14)
set_option maxRecDepth 100000 in
set_option maxHeartbeats 4000000 in
theorem m_X10_meadow (G : gG) {ad : Nat → Nat} (hap : g_ap LM ad)    (s : gS) : g_M G LM ad yX10_meadow cX10_meadow 3 (some .int) 9 [.ref (ad 0)] s (f_X10_meadow s) := by
  refine g_entry (by decide) hap (Nat.le_of_ble_eq_true rfl) [(0, .ref (ad 0))] rfl (fun X C => ?_)
  unfold f_X10_meadow
  refine z_aload_n C (q := 1) 0 dX10_meadow_0 rfl rfl ?_
  refine z_callV C (q := 4) [] gl_X10_222 glv_X10_readsAll ob_m rfl (m_X10_readsAll G (g_Kap C)  _) rfl rfl (Nat.le_of_ble_eq_true rfl) ⟨by decide, by decide⟩ dX10_meadow_1 rfl (z_ki (fun r2 s1 => ?_))
  refine z_istore_n C (q := 5) [(1, .int r2), (0, .ref (ad 0))] dX10_meadow_4 rfl rfl (by decide) rfl ?_
  refine z_aload_n C (q := 6) 1 dX10_meadow_5 rfl rfl ?_
  refine z_iload_n C (q := 7) 0 dX10_meadow_6 rfl rfl ?_
  refine z_if_eq C (tgt := 14) (q := 10) dX10_meadow_7 (by decide) rfl ?_ ?_
  · refine z_aload_n C (q := 15) 1 dX10_meadow_14 rfl rfl ?_
    refine z_getI C (q := 18) ob_m fF_X10_112 rfl dX10_meadow_15 rfl ?_
    refine z_putI C (q := 21) ob_m fP_X10_48 rfl dX10_meadow_18 rfl (fun s3 => ?_)
    refine z_aload_n C (q := 22) 1 dX10_meadow_21 rfl rfl ?_
    refine z_iconst C (q := 23) dX10_meadow_22 rfl lt_iconst_0 ?_
    refine z_putI C (q := 26) ob_m fP_X10_98 rfl dX10_meadow_23 rfl (fun s4 => ?_)
    refine z_iload_n C (q := 27) 0 dX10_meadow_26 rfl rfl ?_
    refine z_if_ne C (tgt := 38) (q := 30) dX10_meadow_27 (by decide) rfl ?_ ?_
    · refine z_aload_n C (q := 39) 1 dX10_meadow_38 rfl rfl ?_
      refine z_aload_n C (q := 40) 1 dX10_meadow_39 rfl rfl ?_
      refine z_getI C (q := 43) ob_m fF_X10_147 rfl dX10_meadow_40 rfl ?_
      refine z_putI C (q := 46) ob_m fP_X10_85 rfl dX10_meadow_43 rfl (fun s5 => ?_)
      refine z_aload_n C (q := 47) 1 dX10_meadow_46 rfl rfl ?_
      refine z_aload_n C (q := 48) 1 dX10_meadow_47 rfl rfl ?_
      refine z_getI C (q := 51) ob_m fF_X10_154 rfl dX10_meadow_48 rfl ?_
      refine z_putI C (q := 54) ob_m fP_X10_88 rfl dX10_meadow_51 rfl (fun s6 => ?_)
      refine z_aload_n C (q := 55) 1 dX10_meadow_54 rfl rfl ?_
      refine z_aload_n C (q := 56) 1 dX10_meadow_55 rfl rfl ?_
      refine z_getI C (q := 59) ob_m fF_X10_192 rfl dX10_meadow_56 rfl ?_
      refine z_putI C (q := 62) ob_m fP_X10_26 rfl dX10_meadow_59 rfl (fun s7 => ?_)
      refine z_iconst C (q := 63) dX10_meadow_62 rfl lt_iconst_0 ?_
      refine z_istore_n C (q := 64) [(2, .int (0 : Int32)), (1, .int r2), (0, .ref (ad 0))] dX10_meadow_63 rfl rfl (by decide) rfl ?_
      refine z_sub [2, 0] rfl (l_X10_meadow_64 C  (fun v2_12 s13 => ?_) g_N (0 : Int32) s7)
      refine z_iconst C (q := 130) dX10_meadow_129 rfl lt_iconst_0 ?_
      refine z_istore_n C (q := 131) [(2, .int (0 : Int32)), (0, .ref (ad 0))] dX10_meadow_130 rfl rfl (by decide) rfl ?_
      refine z_sub [1, 0] rfl (l_X10_meadow_131 C  (fun v2_15 s16 => ?_) g_N (0 : Int32) s13)
      refine z_aload_n C (q := 155) 0 dX10_meadow_154 rfl rfl ?_
      refine z_getR C (q := 158) ob_m fF_X10_7 rfl dX10_meadow_155 rfl ?_
      refine z_bipush C (q := 160) dX10_meadow_158 rfl lt_bipush_80 ?_
      refine z_aload_n C (q := 161) 0 dX10_meadow_160 rfl rfl ?_
      refine z_callV C (q := 164) [] gl_X10_225 glv_X10_cells ob_m rfl (m_X10_cells G (g_Kap C)  _) rfl rfl (Nat.le_of_ble_eq_true rfl) ⟨by decide, by decide⟩ dX10_meadow_161 rfl (z_ki (fun r18 s17 => ?_))
      refine z_if_ne C (tgt := 171) (q := 167) dX10_meadow_164 (by decide) rfl ?_ ?_
      · refine z_aload_n C (q := 172) 0 dX10_meadow_171 rfl rfl ?_
        refine z_getI C (q := 175) ob_m fF_X10_189 rfl dX10_meadow_172 rfl ?_
        refine z_iast C (q := 176) ar_m1 dX10_meadow_175 rfl (fun s19 => ?_)
        refine z_aload_n C (q := 177) 0 dX10_meadow_176 rfl rfl ?_
        refine z_getR C (q := 180) ob_m fF_X10_7 rfl dX10_meadow_177 rfl ?_
        refine z_bipush C (q := 182) dX10_meadow_180 rfl lt_bipush_81 ?_
        refine z_iconst C (q := 183) dX10_meadow_182 rfl lt_iconst_m1 ?_
        refine z_iast C (q := 184) ar_m1 dX10_meadow_183 rfl (fun s20 => ?_)
        refine z_aload_n C (q := 185) 0 dX10_meadow_184 rfl rfl ?_
        refine z_getR C (q := 188) ob_m fF_X10_7 rfl dX10_meadow_185 rfl ?_
        refine z_bipush C (q := 190) dX10_meadow_188 rfl lt_bipush_82 ?_
        refine z_iconst C (q := 191) dX10_meadow_190 rfl lt_iconst_m1 ?_
        refine z_iast C (q := 192) ar_m1 dX10_meadow_191 rfl (fun s21 => ?_)
        refine z_aload_n C (q := 193) 0 dX10_meadow_192 rfl rfl ?_
        refine z_getR C (q := 196) ob_m fF_X10_7 rfl dX10_meadow_193 rfl ?_
        refine z_bipush C (q := 198) dX10_meadow_196 rfl lt_bipush_83 ?_
        refine z_iconst C (q := 199) dX10_meadow_198 rfl lt_iconst_0 ?_
        refine z_iast C (q := 200) ar_m1 dX10_meadow_199 rfl (fun s22 => ?_)
        refine z_aload_n C (q := 201) 0 dX10_meadow_200 rfl rfl ?_
        refine z_getR C (q := 204) ob_m fF_X10_7 rfl dX10_meadow_201 rfl ?_
        refine z_bipush C (q := 206) dX10_meadow_204 rfl lt_bipush_84 ?_
        refine z_iconst C (q := 207) dX10_meadow_206 rfl lt_iconst_0 ?_
        refine z_iast C (q := 208) ar_m1 dX10_meadow_207 rfl (fun s23 => ?_)
        refine z_aload_n C (q := 209) 0 dX10_meadow_208 rfl rfl ?_
        refine z_getR C (q := 212) ob_m fF_X10_7 rfl dX10_meadow_209 rfl ?_
        refine z_bipush C (q := 214) dX10_meadow_212 rfl lt_bipush_85 ?_
        refine z_iconst C (q := 215) dX10_meadow_214 rfl lt_iconst_0 ?_
        refine z_iast C (q := 216) ar_m1 dX10_meadow_215 rfl (fun s24 => ?_)
        refine z_aload_n C (q := 217) 0 dX10_meadow_216 rfl rfl ?_
        refine z_iconst C (q := 218) dX10_meadow_217 rfl lt_iconst_0 ?_
        refine z_putI C (q := 221) ob_m fP_X10_229 rfl dX10_meadow_218 rfl (fun s25 => ?_)
        refine z_aload_n C (q := 222) 0 dX10_meadow_221 rfl rfl ?_
        refine z_iconst C (q := 223) dX10_meadow_222 rfl lt_iconst_0 ?_
        refine z_putI C (q := 226) ob_m fP_X10_232 rfl dX10_meadow_223 rfl (fun s26 => ?_)
        refine z_aload_n C (q := 227) 0 dX10_meadow_226 rfl rfl ?_
        refine z_getR C (q := 230) ob_m fF_X10_16 rfl dX10_meadow_227 rfl ?_
        refine z_iconst C (q := 231) dX10_meadow_230 rfl lt_iconst_0 ?_
        refine z_iconst C (q := 232) dX10_meadow_231 rfl lt_iconst_0 ?_
        refine z_zast C (q := 233) ar_m3 dX10_meadow_232 rfl (fun s27 => ?_)
        refine z_aload_n C (q := 234) 0 dX10_meadow_233 rfl rfl ?_
        refine z_getR C (q := 237) ob_m fF_X10_16 rfl dX10_meadow_234 rfl ?_
        refine z_iconst C (q := 238) dX10_meadow_237 rfl lt_iconst_1 ?_
        refine z_iconst C (q := 239) dX10_meadow_238 rfl lt_iconst_0 ?_
        refine z_zast C (q := 240) ar_m3 dX10_meadow_239 rfl (fun s28 => ?_)
        refine z_aload_n C (q := 241) 0 dX10_meadow_240 rfl rfl ?_
        refine z_callV C (q := 244) [] gl_X10_225 glv_X10_cells ob_m rfl (m_X10_cells G (g_Kap C)  _) rfl rfl (Nat.le_of_ble_eq_true rfl) ⟨by decide, by decide⟩ dX10_meadow_241 rfl (z_ki (fun r30 s29 => ?_))
        exact z_iret C dX10_meadow_244
      refine z_iconst C (q := 168) dX10_meadow_167 rfl lt_iconst_m1 ?_
      refine z_goto C (tgt := 175) dX10_meadow_168 (by decide) ?_
      refine z_iast C (q := 176) ar_m1 dX10_meadow_175 rfl (fun s31 => ?_)
      refine z_aload_n C (q := 177) 0 dX10_meadow_176 rfl rfl ?_
      refine z_getR C (q := 180) ob_m fF_X10_7 rfl dX10_meadow_177 rfl ?_
      refine z_bipush C (q := 182) dX10_meadow_180 rfl lt_bipush_81 ?_
      refine z_iconst C (q := 183) dX10_meadow_182 rfl lt_iconst_m1 ?_
      refine z_iast C (q := 184) ar_m1 dX10_meadow_183 rfl (fun s32 => ?_)
      refine z_aload_n C (q := 185) 0 dX10_meadow_184 rfl rfl ?_
      refine z_getR C (q := 188) ob_m fF_X10_7 rfl dX10_meadow_185 rfl ?_
      refine z_bipush C (q := 190) dX10_meadow_188 rfl lt_bipush_82 ?_
      refine z_iconst C (q := 191) dX10_meadow_190 rfl lt_iconst_m1 ?_
      refine z_iast C (q := 192) ar_m1 dX10_meadow_191 rfl (fun s33 => ?_)
      refine z_aload_n C (q := 193) 0 dX10_meadow_192 rfl rfl ?_
      refine z_getR C (q := 196) ob_m fF_X10_7 rfl dX10_meadow_193 rfl ?_
      refine z_bipush C (q := 198) dX10_meadow_196 rfl lt_bipush_83 ?_
      refine z_iconst C (q := 199) dX10_meadow_198 rfl lt_iconst_0 ?_
      refine z_iast C (q := 200) ar_m1 dX10_meadow_199 rfl (fun s34 => ?_)
      refine z_aload_n C (q := 201) 0 dX10_meadow_200 rfl rfl ?_
      refine z_getR C (q := 204) ob_m fF_X10_7 rfl dX10_meadow_201 rfl ?_
      refine z_bipush C (q := 206) dX10_meadow_204 rfl lt_bipush_84 ?_
      refine z_iconst C (q := 207) dX10_meadow_206 rfl lt_iconst_0 ?_
      refine z_iast C (q := 208) ar_m1 dX10_meadow_207 rfl (fun s35 => ?_)
      refine z_aload_n C (q := 209) 0 dX10_meadow_208 rfl rfl ?_
      refine z_getR C (q := 212) ob_m fF_X10_7 rfl dX10_meadow_209 rfl ?_
      refine z_bipush C (q := 214) dX10_meadow_212 rfl lt_bipush_85 ?_
      refine z_iconst C (q := 215) dX10_meadow_214 rfl lt_iconst_0 ?_
      refine z_iast C (q := 216) ar_m1 dX10_meadow_215 rfl (fun s36 => ?_)
      refine z_aload_n C (q := 217) 0 dX10_meadow_216 rfl rfl ?_
      refine z_iconst C (q := 218) dX10_meadow_217 rfl lt_iconst_0 ?_
      refine z_putI C (q := 221) ob_m fP_X10_229 rfl dX10_meadow_218 rfl (fun s37 => ?_)
      refine z_aload_n C (q := 222) 0 dX10_meadow_221 rfl rfl ?_
      refine z_iconst C (q := 223) dX10_meadow_222 rfl lt_iconst_0 ?_
      refine z_putI C (q := 226) ob_m fP_X10_232 rfl dX10_meadow_223 rfl (fun s38 => ?_)
      refine z_aload_n C (q := 227) 0 dX10_meadow_226 rfl rfl ?_
      refine z_getR C (q := 230) ob_m fF_X10_16 rfl dX10_meadow_227 rfl ?_
      refine z_iconst C (q := 231) dX10_meadow_230 rfl lt_iconst_0 ?_
      refine z_iconst C (q := 232) dX10_meadow_231 rfl lt_iconst_0 ?_
      refine z_zast C (q := 233) ar_m3 dX10_meadow_232 rfl (fun s39 => ?_)
      refine z_aload_n C (q := 234) 0 dX10_meadow_233 rfl rfl ?_
      refine z_getR C (q := 237) ob_m fF_X10_16 rfl dX10_meadow_234 rfl ?_
      refine z_iconst C (q := 238) dX10_meadow_237 rfl lt_iconst_1 ?_
      refine z_iconst C (q := 239) dX10_meadow_238 rfl lt_iconst_0 ?_
      refine z_zast C (q := 240) ar_m3 dX10_meadow_239 rfl (fun s40 => ?_)
      refine z_aload_n C (q := 241) 0 dX10_meadow_240 rfl rfl ?_
      refine z_callV C (q := 244) [] gl_X10_225 glv_X10_cells ob_m rfl (m_X10_cells G (g_Kap C)  _) rfl rfl (Nat.le_of_ble_eq_true rfl) ⟨by decide, by decide⟩ dX10_meadow_241 rfl (z_ki (fun r42 s41 => ?_))
      exact z_iret C dX10_meadow_244
    refine z_bipush C (q := 32) dX10_meadow_30 rfl lt_bipush_m10 ?_
    refine z_aload_n C (q := 33) 1 dX10_meadow_32 rfl rfl ?_
    refine z_getI C (q := 36) ob_m fF_X10_135 rfl dX10_meadow_33 rfl ?_
    refine z_isub C (q := 37) dX10_meadow_36 rfl ?_
    exact z_iret C dX10_meadow_37
  refine z_iconst C (q := 11) dX10_meadow_10 rfl lt_iconst_m1 ?_
  refine z_goto C (tgt := 18) dX10_meadow_11 (by decide) ?_
  refine z_putI C (q := 21) ob_m fP_X10_48 rfl dX10_meadow_18 rfl (fun s43 => ?_)
  refine z_aload_n C (q := 22) 1 dX10_meadow_21 rfl rfl ?_
  refine z_iconst C (q := 23) dX10_meadow_22 rfl lt_iconst_0 ?_
  refine z_putI C (q := 26) ob_m fP_X10_98 rfl dX10_meadow_23 rfl (fun s44 => ?_)
  refine z_iload_n C (q := 27) 0 dX10_meadow_26 rfl rfl ?_
  refine z_if_ne C (tgt := 38) (q := 30) dX10_meadow_27 (by decide) rfl ?_ ?_
  · refine z_aload_n C (q := 39) 1 dX10_meadow_38 rfl rfl ?_
    refine z_aload_n C (q := 40) 1 dX10_meadow_39 rfl rfl ?_
    refine z_getI C (q := 43) ob_m fF_X10_147 rfl dX10_meadow_40 rfl ?_
    refine z_putI C (q := 46) ob_m fP_X10_85 rfl dX10_meadow_43 rfl (fun s45 => ?_)
    refine z_aload_n C (q := 47) 1 dX10_meadow_46 rfl rfl ?_
    refine z_aload_n C (q := 48) 1 dX10_meadow_47 rfl rfl ?_
    refine z_getI C (q := 51) ob_m fF_X10_154 rfl dX10_meadow_48 rfl ?_
    refine z_putI C (q := 54) ob_m fP_X10_88 rfl dX10_meadow_51 rfl (fun s46 => ?_)
    refine z_aload_n C (q := 55) 1 dX10_meadow_54 rfl rfl ?_
    refine z_aload_n C (q := 56) 1 dX10_meadow_55 rfl rfl ?_
    refine z_getI C (q := 59) ob_m fF_X10_192 rfl dX10_meadow_56 rfl ?_
    refine z_putI C (q := 62) ob_m fP_X10_26 rfl dX10_meadow_59 rfl (fun s47 => ?_)
    refine z_iconst C (q := 63) dX10_meadow_62 rfl lt_iconst_0 ?_
    refine z_istore_n C (q := 64) [(2, .int (0 : Int32)), (1, .int r2), (0, .ref (ad 0))] dX10_meadow_63 rfl rfl (by decide) rfl ?_
    refine z_sub [2, 0] rfl (l_X10_meadow_64 C  (fun v2_48 s49 => ?_) g_N (0 : Int32) s47)
    refine z_iconst C (q := 130) dX10_meadow_129 rfl lt_iconst_0 ?_
    refine z_istore_n C (q := 131) [(2, .int (0 : Int32)), (0, .ref (ad 0))] dX10_meadow_130 rfl rfl (by decide) rfl ?_
    refine z_sub [1, 0] rfl (l_X10_meadow_131 C  (fun v2_50 s51 => ?_) g_N (0 : Int32) s49)
    refine z_aload_n C (q := 155) 0 dX10_meadow_154 rfl rfl ?_
    refine z_getR C (q := 158) ob_m fF_X10_7 rfl dX10_meadow_155 rfl ?_
    refine z_bipush C (q := 160) dX10_meadow_158 rfl lt_bipush_80 ?_
    refine z_aload_n C (q := 161) 0 dX10_meadow_160 rfl rfl ?_
    refine z_callV C (q := 164) [] gl_X10_225 glv_X10_cells ob_m rfl (m_X10_cells G (g_Kap C)  _) rfl rfl (Nat.le_of_ble_eq_true rfl) ⟨by decide, by decide⟩ dX10_meadow_161 rfl (z_ki (fun r53 s52 => ?_))
    refine z_if_ne C (tgt := 171) (q := 167) dX10_meadow_164 (by decide) rfl ?_ ?_
    · refine z_aload_n C (q := 172) 0 dX10_meadow_171 rfl rfl ?_
      refine z_getI C (q := 175) ob_m fF_X10_189 rfl dX10_meadow_172 rfl ?_
      refine z_iast C (q := 176) ar_m1 dX10_meadow_175 rfl (fun s54 => ?_)
      refine z_aload_n C (q := 177) 0 dX10_meadow_176 rfl rfl ?_
      refine z_getR C (q := 180) ob_m fF_X10_7 rfl dX10_meadow_177 rfl ?_
      refine z_bipush C (q := 182) dX10_meadow_180 rfl lt_bipush_81 ?_
      refine z_iconst C (q := 183) dX10_meadow_182 rfl lt_iconst_m1 ?_
      refine z_iast C (q := 184) ar_m1 dX10_meadow_183 rfl (fun s55 => ?_)
      refine z_aload_n C (q := 185) 0 dX10_meadow_184 rfl rfl ?_
      refine z_getR C (q := 188) ob_m fF_X10_7 rfl dX10_meadow_185 rfl ?_
      refine z_bipush C (q := 190) dX10_meadow_188 rfl lt_bipush_82 ?_
      refine z_iconst C (q := 191) dX10_meadow_190 rfl lt_iconst_m1 ?_
      refine z_iast C (q := 192) ar_m1 dX10_meadow_191 rfl (fun s56 => ?_)
      refine z_aload_n C (q := 193) 0 dX10_meadow_192 rfl rfl ?_
      refine z_getR C (q := 196) ob_m fF_X10_7 rfl dX10_meadow_193 rfl ?_
      refine z_bipush C (q := 198) dX10_meadow_196 rfl lt_bipush_83 ?_
      refine z_iconst C (q := 199) dX10_meadow_198 rfl lt_iconst_0 ?_
      refine z_iast C (q := 200) ar_m1 dX10_meadow_199 rfl (fun s57 => ?_)
      refine z_aload_n C (q := 201) 0 dX10_meadow_200 rfl rfl ?_
      refine z_getR C (q := 204) ob_m fF_X10_7 rfl dX10_meadow_201 rfl ?_
      refine z_bipush C (q := 206) dX10_meadow_204 rfl lt_bipush_84 ?_
      refine z_iconst C (q := 207) dX10_meadow_206 rfl lt_iconst_0 ?_
      refine z_iast C (q := 208) ar_m1 dX10_meadow_207 rfl (fun s58 => ?_)
      refine z_aload_n C (q := 209) 0 dX10_meadow_208 rfl rfl ?_
      refine z_getR C (q := 212) ob_m fF_X10_7 rfl dX10_meadow_209 rfl ?_
      refine z_bipush C (q := 214) dX10_meadow_212 rfl lt_bipush_85 ?_
      refine z_iconst C (q := 215) dX10_meadow_214 rfl lt_iconst_0 ?_
      refine z_iast C (q := 216) ar_m1 dX10_meadow_215 rfl (fun s59 => ?_)
      refine z_aload_n C (q := 217) 0 dX10_meadow_216 rfl rfl ?_
      refine z_iconst C (q := 218) dX10_meadow_217 rfl lt_iconst_0 ?_
      refine z_putI C (q := 221) ob_m fP_X10_229 rfl dX10_meadow_218 rfl (fun s60 => ?_)
      refine z_aload_n C (q := 222) 0 dX10_meadow_221 rfl rfl ?_
      refine z_iconst C (q := 223) dX10_meadow_222 rfl lt_iconst_0 ?_
      refine z_putI C (q := 226) ob_m fP_X10_232 rfl dX10_meadow_223 rfl (fun s61 => ?_)
      refine z_aload_n C (q := 227) 0 dX10_meadow_226 rfl rfl ?_
      refine z_getR C (q := 230) ob_m fF_X10_16 rfl dX10_meadow_227 rfl ?_
      refine z_iconst C (q := 231) dX10_meadow_230 rfl lt_iconst_0 ?_
      refine z_iconst C (q := 232) dX10_meadow_231 rfl lt_iconst_0 ?_
      refine z_zast C (q := 233) ar_m3 dX10_meadow_232 rfl (fun s62 => ?_)
      refine z_aload_n C (q := 234) 0 dX10_meadow_233 rfl rfl ?_
      refine z_getR C (q := 237) ob_m fF_X10_16 rfl dX10_meadow_234 rfl ?_
      refine z_iconst C (q := 238) dX10_meadow_237 rfl lt_iconst_1 ?_
      refine z_iconst C (q := 239) dX10_meadow_238 rfl lt_iconst_0 ?_
      refine z_zast C (q := 240) ar_m3 dX10_meadow_239 rfl (fun s63 => ?_)
      refine z_aload_n C (q := 241) 0 dX10_meadow_240 rfl rfl ?_
      refine z_callV C (q := 244) [] gl_X10_225 glv_X10_cells ob_m rfl (m_X10_cells G (g_Kap C)  _) rfl rfl (Nat.le_of_ble_eq_true rfl) ⟨by decide, by decide⟩ dX10_meadow_241 rfl (z_ki (fun r65 s64 => ?_))
      exact z_iret C dX10_meadow_244
    refine z_iconst C (q := 168) dX10_meadow_167 rfl lt_iconst_m1 ?_
    refine z_goto C (tgt := 175) dX10_meadow_168 (by decide) ?_
    refine z_iast C (q := 176) ar_m1 dX10_meadow_175 rfl (fun s66 => ?_)
    refine z_aload_n C (q := 177) 0 dX10_meadow_176 rfl rfl ?_
    refine z_getR C (q := 180) ob_m fF_X10_7 rfl dX10_meadow_177 rfl ?_
    refine z_bipush C (q := 182) dX10_meadow_180 rfl lt_bipush_81 ?_
    refine z_iconst C (q := 183) dX10_meadow_182 rfl lt_iconst_m1 ?_
    refine z_iast C (q := 184) ar_m1 dX10_meadow_183 rfl (fun s67 => ?_)
    refine z_aload_n C (q := 185) 0 dX10_meadow_184 rfl rfl ?_
    refine z_getR C (q := 188) ob_m fF_X10_7 rfl dX10_meadow_185 rfl ?_
    refine z_bipush C (q := 190) dX10_meadow_188 rfl lt_bipush_82 ?_
    refine z_iconst C (q := 191) dX10_meadow_190 rfl lt_iconst_m1 ?_
    refine z_iast C (q := 192) ar_m1 dX10_meadow_191 rfl (fun s68 => ?_)
    refine z_aload_n C (q := 193) 0 dX10_meadow_192 rfl rfl ?_
    refine z_getR C (q := 196) ob_m fF_X10_7 rfl dX10_meadow_193 rfl ?_
    refine z_bipush C (q := 198) dX10_meadow_196 rfl lt_bipush_83 ?_
    refine z_iconst C (q := 199) dX10_meadow_198 rfl lt_iconst_0 ?_
    refine z_iast C (q := 200) ar_m1 dX10_meadow_199 rfl (fun s69 => ?_)
    refine z_aload_n C (q := 201) 0 dX10_meadow_200 rfl rfl ?_
    refine z_getR C (q := 204) ob_m fF_X10_7 rfl dX10_meadow_201 rfl ?_
    refine z_bipush C (q := 206) dX10_meadow_204 rfl lt_bipush_84 ?_
    refine z_iconst C (q := 207) dX10_meadow_206 rfl lt_iconst_0 ?_
    refine z_iast C (q := 208) ar_m1 dX10_meadow_207 rfl (fun s70 => ?_)
    refine z_aload_n C (q := 209) 0 dX10_meadow_208 rfl rfl ?_
    refine z_getR C (q := 212) ob_m fF_X10_7 rfl dX10_meadow_209 rfl ?_
    refine z_bipush C (q := 214) dX10_meadow_212 rfl lt_bipush_85 ?_
    refine z_iconst C (q := 215) dX10_meadow_214 rfl lt_iconst_0 ?_
    refine z_iast C (q := 216) ar_m1 dX10_meadow_215 rfl (fun s71 => ?_)
    refine z_aload_n C (q := 217) 0 dX10_meadow_216 rfl rfl ?_
    refine z_iconst C (q := 218) dX10_meadow_217 rfl lt_iconst_0 ?_
    refine z_putI C (q := 221) ob_m fP_X10_229 rfl dX10_meadow_218 rfl (fun s72 => ?_)
    refine z_aload_n C (q := 222) 0 dX10_meadow_221 rfl rfl ?_
    refine z_iconst C (q := 223) dX10_meadow_222 rfl lt_iconst_0 ?_
    refine z_putI C (q := 226) ob_m fP_X10_232 rfl dX10_meadow_223 rfl (fun s73 => ?_)
    refine z_aload_n C (q := 227) 0 dX10_meadow_226 rfl rfl ?_
    refine z_getR C (q := 230) ob_m fF_X10_16 rfl dX10_meadow_227 rfl ?_
    refine z_iconst C (q := 231) dX10_meadow_230 rfl lt_iconst_0 ?_
    refine z_iconst C (q := 232) dX10_meadow_231 rfl lt_iconst_0 ?_
    refine z_zast C (q := 233) ar_m3 dX10_meadow_232 rfl (fun s74 => ?_)
    refine z_aload_n C (q := 234) 0 dX10_meadow_233 rfl rfl ?_
    refine z_getR C (q := 237) ob_m fF_X10_16 rfl dX10_meadow_234 rfl ?_
    refine z_iconst C (q := 238) dX10_meadow_237 rfl lt_iconst_1 ?_
    refine z_iconst C (q := 239) dX10_meadow_238 rfl lt_iconst_0 ?_
    refine z_zast C (q := 240) ar_m3 dX10_meadow_239 rfl (fun s75 => ?_)
    refine z_aload_n C (q := 241) 0 dX10_meadow_240 rfl rfl ?_
    refine z_callV C (q := 244) [] gl_X10_225 glv_X10_cells ob_m rfl (m_X10_cells G (g_Kap C)  _) rfl rfl (Nat.le_of_ble_eq_true rfl) ⟨by decide, by decide⟩ dX10_meadow_241 rfl (z_ki (fun r77 s76 => ?_))
    exact z_iret C dX10_meadow_244
  refine z_bipush C (q := 32) dX10_meadow_30 rfl lt_bipush_m10 ?_
  refine z_aload_n C (q := 33) 1 dX10_meadow_32 rfl rfl ?_
  refine z_getI C (q := 36) ob_m fF_X10_135 rfl dX10_meadow_33 rfl ?_
  refine z_isub C (q := 37) dX10_meadow_36 rfl ?_
  exact z_iret C dX10_meadow_37
set_option maxRecDepth 100000 in
set_option maxHeartbeats 4000000 in
theorem m_X10_fault (G : gG) {ad : Nat → Nat} (hap : g_ap LM ad)    (s : gS) : g_M G LM ad yX10_fault cX10_fault 1 (some .int) 0 [.ref (ad 0)] s (f_X10_fault s) := by
  refine g_entry (by decide) hap (Nat.le_of_ble_eq_true rfl) [(0, .ref (ad 0))] rfl (fun X C => ?_)
  unfold f_X10_fault
  refine z_aload_n C (q := 1) 0 dX10_fault_0 rfl rfl ?_
  refine z_getI C (q := 4) ob_m fF_X10_48 rfl dX10_fault_1 rfl ?_
  exact z_iret C dX10_fault_4
set_option maxRecDepth 100000 in
set_option maxHeartbeats 4000000 in
theorem m_X10_told (G : gG) {ad : Nat → Nat} (hap : g_ap LM ad)   (v1 : Int32) (s : gS) : g_M G LM ad yX10_told cX10_told 2 (some .int) 1 [.ref (ad 0), .int v1] s (f_X10_told v1 s) := by
  refine g_entry (by decide) hap (Nat.le_of_ble_eq_true rfl) [(0, .ref (ad 0)), (1, .int v1)] rfl (fun X C => ?_)
  unfold f_X10_told
  refine z_iload_n C (q := 1) 1 dX10_told_0 rfl rfl ?_
  refine z_case (0 : Int32) (fun hc0 => ?_) (fun hc0 => ?_)
  · refine z_tsIn C (tgt := 68) dX10_told_1 (0 : Int32) hc0 (by decide) (by decide) rfl (by decide) ?_
    refine z_aload_n C (q := 69) 0 dX10_told_68 rfl rfl ?_
    refine z_getI C (q := 72) ob_m fF_X10_85 rfl dX10_told_69 rfl ?_
    exact z_iret C dX10_told_72
  refine z_case (1 : Int32) (fun hc1 => ?_) (fun hc1 => ?_)
  · refine z_tsIn C (tgt := 73) dX10_told_1 (1 : Int32) hc1 (by decide) (by decide) rfl (by decide) ?_
    refine z_aload_n C (q := 74) 0 dX10_told_73 rfl rfl ?_
    refine z_getI C (q := 77) ob_m fF_X10_88 rfl dX10_told_74 rfl ?_
    exact z_iret C dX10_told_77
  refine z_case (2 : Int32) (fun hc2 => ?_) (fun hc2 => ?_)
  · refine z_tsIn C (tgt := 78) dX10_told_1 (2 : Int32) hc2 (by decide) (by decide) rfl (by decide) ?_
    refine z_aload_n C (q := 79) 0 dX10_told_78 rfl rfl ?_
    refine z_getI C (q := 82) ob_m fF_X10_98 rfl dX10_told_79 rfl ?_
    exact z_iret C dX10_told_82
  refine z_case (3 : Int32) (fun hc3 => ?_) (fun hc3 => ?_)
  · refine z_tsIn C (tgt := 83) dX10_told_1 (3 : Int32) hc3 (by decide) (by decide) rfl (by decide) ?_
    refine z_aload_n C (q := 84) 0 dX10_told_83 rfl rfl ?_
    refine z_getR C (q := 87) ob_m fF_X10_7 rfl dX10_told_84 rfl ?_
    refine z_bipush C (q := 89) dX10_told_87 rfl lt_bipush_86 ?_
    refine z_iald C (q := 90) ar_m1 dX10_told_89 rfl ?_
    exact z_iret C dX10_told_90
  refine z_case (4 : Int32) (fun hc4 => ?_) (fun hc4 => ?_)
  · refine z_tsIn C (tgt := 91) dX10_told_1 (4 : Int32) hc4 (by decide) (by decide) rfl (by decide) ?_
    refine z_aload_n C (q := 92) 0 dX10_told_91 rfl rfl ?_
    refine z_getI C (q := 95) ob_m fF_X10_26 rfl dX10_told_92 rfl ?_
    exact z_iret C dX10_told_95
  refine z_case (5 : Int32) (fun hc5 => ?_) (fun hc5 => ?_)
  · refine z_tsIn C (tgt := 96) dX10_told_1 (5 : Int32) hc5 (by decide) (by decide) rfl (by decide) ?_
    refine z_aload_n C (q := 97) 0 dX10_told_96 rfl rfl ?_
    refine z_aload_n C (q := 98) 0 dX10_told_97 rfl rfl ?_
    refine z_getR C (q := 101) ob_m fF_X10_7 rfl dX10_told_98 rfl ?_
    refine z_bipush C (q := 103) dX10_told_101 rfl lt_bipush_80 ?_
    refine z_iald C (q := 104) ar_m1 dX10_told_103 rfl ?_
    refine z_callV C (q := 107) [.int (s.1 1 (80 : Int32).toNatClampNeg)] gl_X10_235 glv_X10_named ob_m rfl (m_X10_named G (g_Kap C) (s.1 1 (80 : Int32).toNatClampNeg) _) rfl rfl (Nat.le_of_ble_eq_true rfl) ⟨by decide, by decide⟩ dX10_told_104 rfl (z_ki (fun r2 s1 => ?_))
    exact z_iret C dX10_told_107
  refine z_case (6 : Int32) (fun hc6 => ?_) (fun hc6 => ?_)
  · refine z_tsIn C (tgt := 108) dX10_told_1 (6 : Int32) hc6 (by decide) (by decide) rfl (by decide) ?_
    refine z_aload_n C (q := 109) 0 dX10_told_108 rfl rfl ?_
    refine z_aload_n C (q := 110) 0 dX10_told_109 rfl rfl ?_
    refine z_getR C (q := 113) ob_m fF_X10_7 rfl dX10_told_110 rfl ?_
    refine z_bipush C (q := 115) dX10_told_113 rfl lt_bipush_81 ?_
    refine z_iald C (q := 116) ar_m1 dX10_told_115 rfl ?_
    refine z_callV C (q := 119) [.int (s.1 1 (81 : Int32).toNatClampNeg)] gl_X10_235 glv_X10_named ob_m rfl (m_X10_named G (g_Kap C) (s.1 1 (81 : Int32).toNatClampNeg) _) rfl rfl (Nat.le_of_ble_eq_true rfl) ⟨by decide, by decide⟩ dX10_told_116 rfl (z_ki (fun r4 s3 => ?_))
    exact z_iret C dX10_told_119
  refine z_case (7 : Int32) (fun hc7 => ?_) (fun hc7 => ?_)
  · refine z_tsIn C (tgt := 120) dX10_told_1 (7 : Int32) hc7 (by decide) (by decide) rfl (by decide) ?_
    refine z_aload_n C (q := 121) 0 dX10_told_120 rfl rfl ?_
    refine z_aload_n C (q := 122) 0 dX10_told_121 rfl rfl ?_
    refine z_getR C (q := 125) ob_m fF_X10_7 rfl dX10_told_122 rfl ?_
    refine z_bipush C (q := 127) dX10_told_125 rfl lt_bipush_82 ?_
    refine z_iald C (q := 128) ar_m1 dX10_told_127 rfl ?_
    refine z_callV C (q := 131) [.int (s.1 1 (82 : Int32).toNatClampNeg)] gl_X10_235 glv_X10_named ob_m rfl (m_X10_named G (g_Kap C) (s.1 1 (82 : Int32).toNatClampNeg) _) rfl rfl (Nat.le_of_ble_eq_true rfl) ⟨by decide, by decide⟩ dX10_told_128 rfl (z_ki (fun r6 s5 => ?_))
    exact z_iret C dX10_told_131
  refine z_case (8 : Int32) (fun hc8 => ?_) (fun hc8 => ?_)
  · refine z_tsIn C (tgt := 132) dX10_told_1 (8 : Int32) hc8 (by decide) (by decide) rfl (by decide) ?_
    refine z_aload_n C (q := 133) 0 dX10_told_132 rfl rfl ?_
    refine z_getR C (q := 136) ob_m fF_X10_7 rfl dX10_told_133 rfl ?_
    refine z_bipush C (q := 138) dX10_told_136 rfl lt_bipush_85 ?_
    refine z_iald C (q := 139) ar_m1 dX10_told_138 rfl ?_
    exact z_iret C dX10_told_139
  refine z_case (9 : Int32) (fun hc9 => ?_) (fun hc9 => ?_)
  · refine z_tsIn C (tgt := 140) dX10_told_1 (9 : Int32) hc9 (by decide) (by decide) rfl (by decide) ?_
    refine z_aload_n C (q := 141) 0 dX10_told_140 rfl rfl ?_
    refine z_getR C (q := 144) ob_m fF_X10_7 rfl dX10_told_141 rfl ?_
    refine z_bipush C (q := 146) dX10_told_144 rfl lt_bipush_83 ?_
    refine z_iald C (q := 147) ar_m1 dX10_told_146 rfl ?_
    exact z_iret C dX10_told_147
  refine z_case (10 : Int32) (fun hc10 => ?_) (fun hc10 => ?_)
  · refine z_tsIn C (tgt := 148) dX10_told_1 (10 : Int32) hc10 (by decide) (by decide) rfl (by decide) ?_
    refine z_aload_n C (q := 149) 0 dX10_told_148 rfl rfl ?_
    refine z_getR C (q := 152) ob_m fF_X10_7 rfl dX10_told_149 rfl ?_
    refine z_bipush C (q := 154) dX10_told_152 rfl lt_bipush_84 ?_
    refine z_iald C (q := 155) ar_m1 dX10_told_154 rfl ?_
    exact z_iret C dX10_told_155
  refine z_case (11 : Int32) (fun hc11 => ?_) (fun hc11 => ?_)
  · refine z_tsIn C (tgt := 156) dX10_told_1 (11 : Int32) hc11 (by decide) (by decide) rfl (by decide) ?_
    refine z_aload_n C (q := 157) 0 dX10_told_156 rfl rfl ?_
    refine z_getI C (q := 160) ob_m fF_X10_229 rfl dX10_told_157 rfl ?_
    exact z_iret C dX10_told_160
  refine z_case (12 : Int32) (fun hc12 => ?_) (fun hc12 => ?_)
  · refine z_tsIn C (tgt := 161) dX10_told_1 (12 : Int32) hc12 (by decide) (by decide) rfl (by decide) ?_
    refine z_aload_n C (q := 162) 0 dX10_told_161 rfl rfl ?_
    refine z_getI C (q := 165) ob_m fF_X10_232 rfl dX10_told_162 rfl ?_
    exact z_iret C dX10_told_165
  refine z_tsOut C (tgt := 166) dX10_told_1 (by have := lv_neT (a := 0) hc0 rfl; have := lv_neT (a := 1) hc1 rfl; have := lv_neT (a := 2) hc2 rfl; have := lv_neT (a := 3) hc3 rfl; have := lv_neT (a := 4) hc4 rfl; have := lv_neT (a := 5) hc5 rfl; have := lv_neT (a := 6) hc6 rfl; have := lv_neT (a := 7) hc7 rfl; have := lv_neT (a := 8) hc8 rfl; have := lv_neT (a := 9) hc9 rfl; have := lv_neT (a := 10) hc10 rfl; have := lv_neT (a := 11) hc11 rfl; have := lv_neT (a := 12) hc12 rfl; omega) (by decide) ?_
  refine z_ldc C (q := 168) dX10_told_166 rfl wm_193 ?_
  exact z_iret C dX10_told_168
set_option maxRecDepth 100000 in
set_option maxHeartbeats 4000000 in
theorem m_X10_liking (G : gG) {ad : Nat → Nat} (hap : g_ap LM ad)   (v1 : Int32) (s : gS) : g_M G LM ad yX10_liking cX10_liking 3 (some .int) 0 [.ref (ad 0), .int v1] s (f_X10_liking v1 s) := by
  refine g_entry (by decide) hap (Nat.le_of_ble_eq_true rfl) [(0, .ref (ad 0)), (1, .int v1)] rfl (fun X C => ?_)
  unfold f_X10_liking
  refine z_iconst C (q := 1) dX10_liking_0 rfl lt_iconst_1 ?_
  refine z_aload_n C (q := 2) 0 dX10_liking_1 rfl rfl ?_
  refine z_getR C (q := 5) ob_m fF_X10_30 rfl dX10_liking_2 rfl ?_
  refine z_iconst C (q := 6) dX10_liking_5 rfl lt_iconst_0 ?_
  refine z_iald C (q := 7) ar_m6 dX10_liking_6 rfl ?_
  refine z_aload_n C (q := 8) 0 dX10_liking_7 rfl rfl ?_
  refine z_getR C (q := 11) ob_m fF_X10_7 rfl dX10_liking_8 rfl ?_
  refine z_iconst C (q := 12) dX10_liking_11 rfl lt_iconst_0 ?_
  refine z_iload_n C (q := 13) 1 dX10_liking_12 rfl rfl ?_
  refine z_iadd C (q := 14) dX10_liking_13 rfl ?_
  refine z_iald C (q := 15) ar_m1 dX10_liking_14 rfl ?_
  refine z_imul C (q := 16) dX10_liking_15 rfl ?_
  refine z_iadd C (q := 17) dX10_liking_16 rfl ?_
  refine z_leti (fun v2_1 => ?_)
  refine z_istore_n C (q := 18) [(2, .int v2_1), (0, .ref (ad 0)), (1, .int v1)] dX10_liking_17 rfl rfl (by decide) rfl ?_
  refine z_iload_n C (q := 19) 0 dX10_liking_18 rfl rfl ?_
  refine z_aload_n C (q := 20) 1 dX10_liking_19 rfl rfl ?_
  refine z_getR C (q := 23) ob_m fF_X10_20 rfl dX10_liking_20 rfl ?_
  refine z_iload_n C (q := 24) 2 dX10_liking_23 rfl rfl ?_
  refine z_iald C (q := 25) ar_m4 dX10_liking_24 rfl ?_
  refine z_iconst C (q := 26) dX10_liking_25 rfl lt_iconst_0 ?_
  refine z_ishr C (q := 27) dX10_liking_26 rfl ?_
  refine z_iconst C (q := 28) dX10_liking_27 rfl lt_iconst_1 ?_
  refine z_iand C (q := 29) dX10_liking_28 rfl ?_
  refine z_aload_n C (q := 30) 1 dX10_liking_29 rfl rfl ?_
  refine z_getR C (q := 33) ob_m fF_X10_30 rfl dX10_liking_30 rfl ?_
  refine z_iconst C (q := 34) dX10_liking_33 rfl lt_iconst_1 ?_
  refine z_iald C (q := 35) ar_m6 dX10_liking_34 rfl ?_
  refine z_imul C (q := 36) dX10_liking_35 rfl ?_
  refine z_aload_n C (q := 37) 1 dX10_liking_36 rfl rfl ?_
  refine z_getR C (q := 40) ob_m fF_X10_20 rfl dX10_liking_37 rfl ?_
  refine z_iload_n C (q := 41) 2 dX10_liking_40 rfl rfl ?_
  refine z_iald C (q := 42) ar_m4 dX10_liking_41 rfl ?_
  refine z_iconst C (q := 43) dX10_liking_42 rfl lt_iconst_1 ?_
  refine z_ishr C (q := 44) dX10_liking_43 rfl ?_
  refine z_iconst C (q := 45) dX10_liking_44 rfl lt_iconst_1 ?_
  refine z_iand C (q := 46) dX10_liking_45 rfl ?_
  refine z_aload_n C (q := 47) 1 dX10_liking_46 rfl rfl ?_
  refine z_getR C (q := 50) ob_m fF_X10_30 rfl dX10_liking_47 rfl ?_
  refine z_iconst C (q := 51) dX10_liking_50 rfl lt_iconst_2 ?_
  refine z_iald C (q := 52) ar_m6 dX10_liking_51 rfl ?_
  refine z_imul C (q := 53) dX10_liking_52 rfl ?_
  refine z_iadd C (q := 54) dX10_liking_53 rfl ?_
  refine z_aload_n C (q := 55) 1 dX10_liking_54 rfl rfl ?_
  refine z_getR C (q := 58) ob_m fF_X10_20 rfl dX10_liking_55 rfl ?_
  refine z_iload_n C (q := 59) 2 dX10_liking_58 rfl rfl ?_
  refine z_iald C (q := 60) ar_m4 dX10_liking_59 rfl ?_
  refine z_iconst C (q := 61) dX10_liking_60 rfl lt_iconst_2 ?_
  refine z_ishr C (q := 62) dX10_liking_61 rfl ?_
  refine z_iconst C (q := 63) dX10_liking_62 rfl lt_iconst_1 ?_
  refine z_iand C (q := 64) dX10_liking_63 rfl ?_
  refine z_aload_n C (q := 65) 1 dX10_liking_64 rfl rfl ?_
  refine z_getR C (q := 68) ob_m fF_X10_30 rfl dX10_liking_65 rfl ?_
  refine z_iconst C (q := 69) dX10_liking_68 rfl lt_iconst_3 ?_
  refine z_iald C (q := 70) ar_m6 dX10_liking_69 rfl ?_
  refine z_imul C (q := 71) dX10_liking_70 rfl ?_
  refine z_isub C (q := 72) dX10_liking_71 rfl ?_
  refine z_iadd C (q := 73) dX10_liking_72 rfl ?_
  refine z_leti (fun v2_2 => ?_)
  refine z_istore_n C (q := 74) [(2, .int v2_2), (0, .ref (ad 0)), (1, .int v1)] dX10_liking_73 rfl rfl (by decide) rfl ?_
  refine z_iload_n C (q := 75) 0 dX10_liking_74 rfl rfl ?_
  refine z_iconst C (q := 76) dX10_liking_75 rfl lt_iconst_1 ?_
  refine z_icmp_ge C (tgt := 83) (q := 79) dX10_liking_76 (by decide) rfl ?_ ?_
  · refine z_iload_n C (q := 84) 0 dX10_liking_83 rfl rfl ?_
    refine z_aload_n C (q := 85) 1 dX10_liking_84 rfl rfl ?_
    refine z_getR C (q := 88) ob_m fF_X10_7 rfl dX10_liking_85 rfl ?_
    refine z_bipush C (q := 90) dX10_liking_88 rfl lt_bipush_82 ?_
    refine z_iald C (q := 91) ar_m1 dX10_liking_90 rfl ?_
    refine z_iload_n C (q := 92) 2 dX10_liking_91 rfl rfl ?_
    refine z_icmp_ne C (tgt := 100) (q := 95) dX10_liking_92 (by decide) rfl ?_ ?_
    · refine z_iconst C (q := 101) dX10_liking_100 rfl lt_iconst_0 ?_
      refine z_iadd C (q := 102) dX10_liking_101 rfl ?_
      exact z_iret C dX10_liking_102
    refine z_bipush C (q := 97) dX10_liking_95 rfl lt_bipush_20 ?_
    refine z_goto C (tgt := 101) dX10_liking_97 (by decide) ?_
    refine z_iadd C (q := 102) dX10_liking_101 rfl ?_
    exact z_iret C dX10_liking_102
  refine z_iconst C (q := 80) dX10_liking_79 rfl lt_iconst_1 ?_
  refine z_goto C (tgt := 84) dX10_liking_80 (by decide) ?_
  refine z_aload_n C (q := 85) 1 dX10_liking_84 rfl rfl ?_
  refine z_getR C (q := 88) ob_m fF_X10_7 rfl dX10_liking_85 rfl ?_
  refine z_bipush C (q := 90) dX10_liking_88 rfl lt_bipush_82 ?_
  refine z_iald C (q := 91) ar_m1 dX10_liking_90 rfl ?_
  refine z_iload_n C (q := 92) 2 dX10_liking_91 rfl rfl ?_
  refine z_icmp_ne C (tgt := 100) (q := 95) dX10_liking_92 (by decide) rfl ?_ ?_
  · refine z_iconst C (q := 101) dX10_liking_100 rfl lt_iconst_0 ?_
    refine z_iadd C (q := 102) dX10_liking_101 rfl ?_
    exact z_iret C dX10_liking_102
  refine z_bipush C (q := 97) dX10_liking_95 rfl lt_bipush_20 ?_
  refine z_goto C (tgt := 101) dX10_liking_97 (by decide) ?_
  refine z_iadd C (q := 102) dX10_liking_101 rfl ?_
  exact z_iret C dX10_liking_102
set_option maxRecDepth 100000 in
set_option maxHeartbeats 4000000 in
theorem m_X10_way (G : gG) {ad : Nat → Nat} (hap : g_ap LM ad)   (v1 : Int32) (v2 : Int32) (s : gS) : g_M G LM ad yX10_way cX10_way 5 (some .int) 2 [.ref (ad 0), .int v1, .int v2] s (f_X10_way v1 v2 s) := by
  refine g_entry (by decide) hap (Nat.le_of_ble_eq_true rfl) [(0, .ref (ad 0)), (1, .int v1), (2, .int v2)] rfl (fun X C => ?_)
  unfold f_X10_way
  refine z_iload_n C (q := 1) 1 dX10_way_0 rfl rfl ?_
  refine z_aload_n C (q := 2) 0 dX10_way_1 rfl rfl ?_
  refine z_getI C (q := 5) ob_m fF_X10_85 rfl dX10_way_2 rfl ?_
  refine z_irem C (q := 6) dX10_way_5 rfl ?_
  refine z_iload_n C (q := 7) 2 dX10_way_6 rfl rfl ?_
  refine z_iconst C (q := 8) dX10_way_7 rfl lt_iconst_2 ?_
  refine z_icmp_ne C (tgt := 15) (q := 11) dX10_way_8 (by decide) rfl ?_ ?_
  · refine z_iload_n C (q := 16) 2 dX10_way_15 rfl rfl ?_
    refine z_iconst C (q := 17) dX10_way_16 rfl lt_iconst_4 ?_
    refine z_icmp_ne C (tgt := 24) (q := 20) dX10_way_17 (by decide) rfl ?_ ?_
    · refine z_iconst C (q := 25) dX10_way_24 rfl lt_iconst_0 ?_
      refine z_iadd C (q := 26) dX10_way_25 rfl ?_
      refine z_leti (fun v3_1 => ?_)
      refine z_istore_n C (q := 27) [(3, .int v3_1), (0, .ref (ad 0)), (1, .int v1), (2, .int v2)] dX10_way_26 rfl rfl (by decide) rfl ?_
      refine z_iload_n C (q := 28) 2 dX10_way_27 rfl rfl ?_
      refine z_aload_n C (q := 29) 1 dX10_way_28 rfl rfl ?_
      refine z_getI C (q := 32) ob_m fF_X10_85 rfl dX10_way_29 rfl ?_
      refine z_idiv C (q := 33) dX10_way_32 rfl ?_
      refine z_iload_n C (q := 34) 3 dX10_way_33 rfl rfl ?_
      refine z_iconst C (q := 35) dX10_way_34 rfl lt_iconst_1 ?_
      refine z_icmp_ne C (tgt := 42) (q := 38) dX10_way_35 (by decide) rfl ?_ ?_
      · refine z_iload_n C (q := 43) 3 dX10_way_42 rfl rfl ?_
        refine z_iconst C (q := 44) dX10_way_43 rfl lt_iconst_3 ?_
        refine z_icmp_ne C (tgt := 51) (q := 47) dX10_way_44 (by decide) rfl ?_ ?_
        · refine z_iconst C (q := 52) dX10_way_51 rfl lt_iconst_0 ?_
          refine z_iadd C (q := 53) dX10_way_52 rfl ?_
          refine z_leti (fun v4_2 => ?_)
          refine z_istore C (q := 55) [(4, .int v4_2), (3, .int v3_1), (0, .ref (ad 0)), (1, .int v1), (2, .int v2)] dX10_way_53 rfl (by decide) rfl ?_
          refine z_aload_n C (q := 56) 2 dX10_way_55 rfl rfl ?_
          refine z_iload_n C (q := 57) 1 dX10_way_56 rfl rfl ?_
          refine z_iload C (q := 59) 0 dX10_way_57 rfl rfl ?_
          refine z_callV C (q := 62) [.int v3_1, .int v4_2] gl_X10_239 glv_X10_isCell ob_m rfl (m_X10_isCell G (g_Kap C) v3_1 v4_2 _) rfl rfl (Nat.le_of_ble_eq_true rfl) ⟨by decide, by decide⟩ dX10_way_59 rfl (z_ki (fun r4 s3 => ?_))
          refine z_if_eq C (tgt := 77) (q := 65) dX10_way_62 (by decide) rfl ?_ ?_
          · refine z_iconst C (q := 78) dX10_way_77 rfl lt_iconst_m1 ?_
            exact z_iret C dX10_way_78
          refine z_aload_n C (q := 66) 2 dX10_way_65 rfl rfl ?_
          refine z_getI C (q := 69) ob_m fF_X10_85 rfl dX10_way_66 rfl ?_
          refine z_iload C (q := 71) 0 dX10_way_69 rfl rfl ?_
          refine z_imul C (q := 72) dX10_way_71 rfl ?_
          refine z_iload_n C (q := 73) 1 dX10_way_72 rfl rfl ?_
          refine z_iadd C (q := 74) dX10_way_73 rfl ?_
          refine z_goto C (tgt := 78) dX10_way_74 (by decide) ?_
          exact z_iret C dX10_way_78
        refine z_iconst C (q := 48) dX10_way_47 rfl lt_iconst_1 ?_
        refine z_goto C (tgt := 52) dX10_way_48 (by decide) ?_
        refine z_iadd C (q := 53) dX10_way_52 rfl ?_
        refine z_leti (fun v4_5 => ?_)
        refine z_istore C (q := 55) [(4, .int v4_5), (3, .int v3_1), (0, .ref (ad 0)), (1, .int v1), (2, .int v2)] dX10_way_53 rfl (by decide) rfl ?_
        refine z_aload_n C (q := 56) 2 dX10_way_55 rfl rfl ?_
        refine z_iload_n C (q := 57) 1 dX10_way_56 rfl rfl ?_
        refine z_iload C (q := 59) 0 dX10_way_57 rfl rfl ?_
        refine z_callV C (q := 62) [.int v3_1, .int v4_5] gl_X10_239 glv_X10_isCell ob_m rfl (m_X10_isCell G (g_Kap C) v3_1 v4_5 _) rfl rfl (Nat.le_of_ble_eq_true rfl) ⟨by decide, by decide⟩ dX10_way_59 rfl (z_ki (fun r7 s6 => ?_))
        refine z_if_eq C (tgt := 77) (q := 65) dX10_way_62 (by decide) rfl ?_ ?_
        · refine z_iconst C (q := 78) dX10_way_77 rfl lt_iconst_m1 ?_
          exact z_iret C dX10_way_78
        refine z_aload_n C (q := 66) 2 dX10_way_65 rfl rfl ?_
        refine z_getI C (q := 69) ob_m fF_X10_85 rfl dX10_way_66 rfl ?_
        refine z_iload C (q := 71) 0 dX10_way_69 rfl rfl ?_
        refine z_imul C (q := 72) dX10_way_71 rfl ?_
        refine z_iload_n C (q := 73) 1 dX10_way_72 rfl rfl ?_
        refine z_iadd C (q := 74) dX10_way_73 rfl ?_
        refine z_goto C (tgt := 78) dX10_way_74 (by decide) ?_
        exact z_iret C dX10_way_78
      refine z_iconst C (q := 39) dX10_way_38 rfl lt_iconst_m1 ?_
      refine z_goto C (tgt := 52) dX10_way_39 (by decide) ?_
      refine z_iadd C (q := 53) dX10_way_52 rfl ?_
      refine z_leti (fun v4_8 => ?_)
      refine z_istore C (q := 55) [(4, .int v4_8), (3, .int v3_1), (0, .ref (ad 0)), (1, .int v1), (2, .int v2)] dX10_way_53 rfl (by decide) rfl ?_
      refine z_aload_n C (q := 56) 2 dX10_way_55 rfl rfl ?_
      refine z_iload_n C (q := 57) 1 dX10_way_56 rfl rfl ?_
      refine z_iload C (q := 59) 0 dX10_way_57 rfl rfl ?_
      refine z_callV C (q := 62) [.int v3_1, .int v4_8] gl_X10_239 glv_X10_isCell ob_m rfl (m_X10_isCell G (g_Kap C) v3_1 v4_8 _) rfl rfl (Nat.le_of_ble_eq_true rfl) ⟨by decide, by decide⟩ dX10_way_59 rfl (z_ki (fun r10 s9 => ?_))
      refine z_if_eq C (tgt := 77) (q := 65) dX10_way_62 (by decide) rfl ?_ ?_
      · refine z_iconst C (q := 78) dX10_way_77 rfl lt_iconst_m1 ?_
        exact z_iret C dX10_way_78
      refine z_aload_n C (q := 66) 2 dX10_way_65 rfl rfl ?_
      refine z_getI C (q := 69) ob_m fF_X10_85 rfl dX10_way_66 rfl ?_
      refine z_iload C (q := 71) 0 dX10_way_69 rfl rfl ?_
      refine z_imul C (q := 72) dX10_way_71 rfl ?_
      refine z_iload_n C (q := 73) 1 dX10_way_72 rfl rfl ?_
      refine z_iadd C (q := 74) dX10_way_73 rfl ?_
      refine z_goto C (tgt := 78) dX10_way_74 (by decide) ?_
      exact z_iret C dX10_way_78
    refine z_iconst C (q := 21) dX10_way_20 rfl lt_iconst_m1 ?_
    refine z_goto C (tgt := 25) dX10_way_21 (by decide) ?_
    refine z_iadd C (q := 26) dX10_way_25 rfl ?_
    refine z_leti (fun v3_11 => ?_)
    refine z_istore_n C (q := 27) [(3, .int v3_11), (0, .ref (ad 0)), (1, .int v1), (2, .int v2)] dX10_way_26 rfl rfl (by decide) rfl ?_
    refine z_iload_n C (q := 28) 2 dX10_way_27 rfl rfl ?_
    refine z_aload_n C (q := 29) 1 dX10_way_28 rfl rfl ?_
    refine z_getI C (q := 32) ob_m fF_X10_85 rfl dX10_way_29 rfl ?_
    refine z_idiv C (q := 33) dX10_way_32 rfl ?_
    refine z_iload_n C (q := 34) 3 dX10_way_33 rfl rfl ?_
    refine z_iconst C (q := 35) dX10_way_34 rfl lt_iconst_1 ?_
    refine z_icmp_ne C (tgt := 42) (q := 38) dX10_way_35 (by decide) rfl ?_ ?_
    · refine z_iload_n C (q := 43) 3 dX10_way_42 rfl rfl ?_
      refine z_iconst C (q := 44) dX10_way_43 rfl lt_iconst_3 ?_
      refine z_icmp_ne C (tgt := 51) (q := 47) dX10_way_44 (by decide) rfl ?_ ?_
      · refine z_iconst C (q := 52) dX10_way_51 rfl lt_iconst_0 ?_
        refine z_iadd C (q := 53) dX10_way_52 rfl ?_
        refine z_leti (fun v4_12 => ?_)
        refine z_istore C (q := 55) [(4, .int v4_12), (3, .int v3_11), (0, .ref (ad 0)), (1, .int v1), (2, .int v2)] dX10_way_53 rfl (by decide) rfl ?_
        refine z_aload_n C (q := 56) 2 dX10_way_55 rfl rfl ?_
        refine z_iload_n C (q := 57) 1 dX10_way_56 rfl rfl ?_
        refine z_iload C (q := 59) 0 dX10_way_57 rfl rfl ?_
        refine z_callV C (q := 62) [.int v3_11, .int v4_12] gl_X10_239 glv_X10_isCell ob_m rfl (m_X10_isCell G (g_Kap C) v3_11 v4_12 _) rfl rfl (Nat.le_of_ble_eq_true rfl) ⟨by decide, by decide⟩ dX10_way_59 rfl (z_ki (fun r14 s13 => ?_))
        refine z_if_eq C (tgt := 77) (q := 65) dX10_way_62 (by decide) rfl ?_ ?_
        · refine z_iconst C (q := 78) dX10_way_77 rfl lt_iconst_m1 ?_
          exact z_iret C dX10_way_78
        refine z_aload_n C (q := 66) 2 dX10_way_65 rfl rfl ?_
        refine z_getI C (q := 69) ob_m fF_X10_85 rfl dX10_way_66 rfl ?_
        refine z_iload C (q := 71) 0 dX10_way_69 rfl rfl ?_
        refine z_imul C (q := 72) dX10_way_71 rfl ?_
        refine z_iload_n C (q := 73) 1 dX10_way_72 rfl rfl ?_
        refine z_iadd C (q := 74) dX10_way_73 rfl ?_
        refine z_goto C (tgt := 78) dX10_way_74 (by decide) ?_
        exact z_iret C dX10_way_78
      refine z_iconst C (q := 48) dX10_way_47 rfl lt_iconst_1 ?_
      refine z_goto C (tgt := 52) dX10_way_48 (by decide) ?_
      refine z_iadd C (q := 53) dX10_way_52 rfl ?_
      refine z_leti (fun v4_15 => ?_)
      refine z_istore C (q := 55) [(4, .int v4_15), (3, .int v3_11), (0, .ref (ad 0)), (1, .int v1), (2, .int v2)] dX10_way_53 rfl (by decide) rfl ?_
      refine z_aload_n C (q := 56) 2 dX10_way_55 rfl rfl ?_
      refine z_iload_n C (q := 57) 1 dX10_way_56 rfl rfl ?_
      refine z_iload C (q := 59) 0 dX10_way_57 rfl rfl ?_
      refine z_callV C (q := 62) [.int v3_11, .int v4_15] gl_X10_239 glv_X10_isCell ob_m rfl (m_X10_isCell G (g_Kap C) v3_11 v4_15 _) rfl rfl (Nat.le_of_ble_eq_true rfl) ⟨by decide, by decide⟩ dX10_way_59 rfl (z_ki (fun r17 s16 => ?_))
      refine z_if_eq C (tgt := 77) (q := 65) dX10_way_62 (by decide) rfl ?_ ?_
      · refine z_iconst C (q := 78) dX10_way_77 rfl lt_iconst_m1 ?_
        exact z_iret C dX10_way_78
      refine z_aload_n C (q := 66) 2 dX10_way_65 rfl rfl ?_
      refine z_getI C (q := 69) ob_m fF_X10_85 rfl dX10_way_66 rfl ?_
      refine z_iload C (q := 71) 0 dX10_way_69 rfl rfl ?_
      refine z_imul C (q := 72) dX10_way_71 rfl ?_
      refine z_iload_n C (q := 73) 1 dX10_way_72 rfl rfl ?_
      refine z_iadd C (q := 74) dX10_way_73 rfl ?_
      refine z_goto C (tgt := 78) dX10_way_74 (by decide) ?_
      exact z_iret C dX10_way_78
    refine z_iconst C (q := 39) dX10_way_38 rfl lt_iconst_m1 ?_
    refine z_goto C (tgt := 52) dX10_way_39 (by decide) ?_
    refine z_iadd C (q := 53) dX10_way_52 rfl ?_
    refine z_leti (fun v4_18 => ?_)
    refine z_istore C (q := 55) [(4, .int v4_18), (3, .int v3_11), (0, .ref (ad 0)), (1, .int v1), (2, .int v2)] dX10_way_53 rfl (by decide) rfl ?_
    refine z_aload_n C (q := 56) 2 dX10_way_55 rfl rfl ?_
    refine z_iload_n C (q := 57) 1 dX10_way_56 rfl rfl ?_
    refine z_iload C (q := 59) 0 dX10_way_57 rfl rfl ?_
    refine z_callV C (q := 62) [.int v3_11, .int v4_18] gl_X10_239 glv_X10_isCell ob_m rfl (m_X10_isCell G (g_Kap C) v3_11 v4_18 _) rfl rfl (Nat.le_of_ble_eq_true rfl) ⟨by decide, by decide⟩ dX10_way_59 rfl (z_ki (fun r20 s19 => ?_))
    refine z_if_eq C (tgt := 77) (q := 65) dX10_way_62 (by decide) rfl ?_ ?_
    · refine z_iconst C (q := 78) dX10_way_77 rfl lt_iconst_m1 ?_
      exact z_iret C dX10_way_78
    refine z_aload_n C (q := 66) 2 dX10_way_65 rfl rfl ?_
    refine z_getI C (q := 69) ob_m fF_X10_85 rfl dX10_way_66 rfl ?_
    refine z_iload C (q := 71) 0 dX10_way_69 rfl rfl ?_
    refine z_imul C (q := 72) dX10_way_71 rfl ?_
    refine z_iload_n C (q := 73) 1 dX10_way_72 rfl rfl ?_
    refine z_iadd C (q := 74) dX10_way_73 rfl ?_
    refine z_goto C (tgt := 78) dX10_way_74 (by decide) ?_
    exact z_iret C dX10_way_78
  refine z_iconst C (q := 12) dX10_way_11 rfl lt_iconst_1 ?_
  refine z_goto C (tgt := 25) dX10_way_12 (by decide) ?_
  refine z_iadd C (q := 26) dX10_way_25 rfl ?_
  refine z_leti (fun v3_21 => ?_)
  refine z_istore_n C (q := 27) [(3, .int v3_21), (0, .ref (ad 0)), (1, .int v1), (2, .int v2)] dX10_way_26 rfl rfl (by decide) rfl ?_
  refine z_iload_n C (q := 28) 2 dX10_way_27 rfl rfl ?_
  refine z_aload_n C (q := 29) 1 dX10_way_28 rfl rfl ?_
  refine z_getI C (q := 32) ob_m fF_X10_85 rfl dX10_way_29 rfl ?_
  refine z_idiv C (q := 33) dX10_way_32 rfl ?_
  refine z_iload_n C (q := 34) 3 dX10_way_33 rfl rfl ?_
  refine z_iconst C (q := 35) dX10_way_34 rfl lt_iconst_1 ?_
  refine z_icmp_ne C (tgt := 42) (q := 38) dX10_way_35 (by decide) rfl ?_ ?_
  · refine z_iload_n C (q := 43) 3 dX10_way_42 rfl rfl ?_
    refine z_iconst C (q := 44) dX10_way_43 rfl lt_iconst_3 ?_
    refine z_icmp_ne C (tgt := 51) (q := 47) dX10_way_44 (by decide) rfl ?_ ?_
    · refine z_iconst C (q := 52) dX10_way_51 rfl lt_iconst_0 ?_
      refine z_iadd C (q := 53) dX10_way_52 rfl ?_
      refine z_leti (fun v4_22 => ?_)
      refine z_istore C (q := 55) [(4, .int v4_22), (3, .int v3_21), (0, .ref (ad 0)), (1, .int v1), (2, .int v2)] dX10_way_53 rfl (by decide) rfl ?_
      refine z_aload_n C (q := 56) 2 dX10_way_55 rfl rfl ?_
      refine z_iload_n C (q := 57) 1 dX10_way_56 rfl rfl ?_
      refine z_iload C (q := 59) 0 dX10_way_57 rfl rfl ?_
      refine z_callV C (q := 62) [.int v3_21, .int v4_22] gl_X10_239 glv_X10_isCell ob_m rfl (m_X10_isCell G (g_Kap C) v3_21 v4_22 _) rfl rfl (Nat.le_of_ble_eq_true rfl) ⟨by decide, by decide⟩ dX10_way_59 rfl (z_ki (fun r24 s23 => ?_))
      refine z_if_eq C (tgt := 77) (q := 65) dX10_way_62 (by decide) rfl ?_ ?_
      · refine z_iconst C (q := 78) dX10_way_77 rfl lt_iconst_m1 ?_
        exact z_iret C dX10_way_78
      refine z_aload_n C (q := 66) 2 dX10_way_65 rfl rfl ?_
      refine z_getI C (q := 69) ob_m fF_X10_85 rfl dX10_way_66 rfl ?_
      refine z_iload C (q := 71) 0 dX10_way_69 rfl rfl ?_
      refine z_imul C (q := 72) dX10_way_71 rfl ?_
      refine z_iload_n C (q := 73) 1 dX10_way_72 rfl rfl ?_
      refine z_iadd C (q := 74) dX10_way_73 rfl ?_
      refine z_goto C (tgt := 78) dX10_way_74 (by decide) ?_
      exact z_iret C dX10_way_78
    refine z_iconst C (q := 48) dX10_way_47 rfl lt_iconst_1 ?_
    refine z_goto C (tgt := 52) dX10_way_48 (by decide) ?_
    refine z_iadd C (q := 53) dX10_way_52 rfl ?_
    refine z_leti (fun v4_25 => ?_)
    refine z_istore C (q := 55) [(4, .int v4_25), (3, .int v3_21), (0, .ref (ad 0)), (1, .int v1), (2, .int v2)] dX10_way_53 rfl (by decide) rfl ?_
    refine z_aload_n C (q := 56) 2 dX10_way_55 rfl rfl ?_
    refine z_iload_n C (q := 57) 1 dX10_way_56 rfl rfl ?_
    refine z_iload C (q := 59) 0 dX10_way_57 rfl rfl ?_
    refine z_callV C (q := 62) [.int v3_21, .int v4_25] gl_X10_239 glv_X10_isCell ob_m rfl (m_X10_isCell G (g_Kap C) v3_21 v4_25 _) rfl rfl (Nat.le_of_ble_eq_true rfl) ⟨by decide, by decide⟩ dX10_way_59 rfl (z_ki (fun r27 s26 => ?_))
    refine z_if_eq C (tgt := 77) (q := 65) dX10_way_62 (by decide) rfl ?_ ?_
    · refine z_iconst C (q := 78) dX10_way_77 rfl lt_iconst_m1 ?_
      exact z_iret C dX10_way_78
    refine z_aload_n C (q := 66) 2 dX10_way_65 rfl rfl ?_
    refine z_getI C (q := 69) ob_m fF_X10_85 rfl dX10_way_66 rfl ?_
    refine z_iload C (q := 71) 0 dX10_way_69 rfl rfl ?_
    refine z_imul C (q := 72) dX10_way_71 rfl ?_
    refine z_iload_n C (q := 73) 1 dX10_way_72 rfl rfl ?_
    refine z_iadd C (q := 74) dX10_way_73 rfl ?_
    refine z_goto C (tgt := 78) dX10_way_74 (by decide) ?_
    exact z_iret C dX10_way_78
  refine z_iconst C (q := 39) dX10_way_38 rfl lt_iconst_m1 ?_
  refine z_goto C (tgt := 52) dX10_way_39 (by decide) ?_
  refine z_iadd C (q := 53) dX10_way_52 rfl ?_
  refine z_leti (fun v4_28 => ?_)
  refine z_istore C (q := 55) [(4, .int v4_28), (3, .int v3_21), (0, .ref (ad 0)), (1, .int v1), (2, .int v2)] dX10_way_53 rfl (by decide) rfl ?_
  refine z_aload_n C (q := 56) 2 dX10_way_55 rfl rfl ?_
  refine z_iload_n C (q := 57) 1 dX10_way_56 rfl rfl ?_
  refine z_iload C (q := 59) 0 dX10_way_57 rfl rfl ?_
  refine z_callV C (q := 62) [.int v3_21, .int v4_28] gl_X10_239 glv_X10_isCell ob_m rfl (m_X10_isCell G (g_Kap C) v3_21 v4_28 _) rfl rfl (Nat.le_of_ble_eq_true rfl) ⟨by decide, by decide⟩ dX10_way_59 rfl (z_ki (fun r30 s29 => ?_))
  refine z_if_eq C (tgt := 77) (q := 65) dX10_way_62 (by decide) rfl ?_ ?_
  · refine z_iconst C (q := 78) dX10_way_77 rfl lt_iconst_m1 ?_
    exact z_iret C dX10_way_78
  refine z_aload_n C (q := 66) 2 dX10_way_65 rfl rfl ?_
  refine z_getI C (q := 69) ob_m fF_X10_85 rfl dX10_way_66 rfl ?_
  refine z_iload C (q := 71) 0 dX10_way_69 rfl rfl ?_
  refine z_imul C (q := 72) dX10_way_71 rfl ?_
  refine z_iload_n C (q := 73) 1 dX10_way_72 rfl rfl ?_
  refine z_iadd C (q := 74) dX10_way_73 rfl ?_
  refine z_goto C (tgt := 78) dX10_way_74 (by decide) ?_
  exact z_iret C dX10_way_78
set_option maxRecDepth 100000 in
set_option maxHeartbeats 4000000 in
theorem l_X10_likings_4 {G : gG} {X : gX} {ad : Nat → Nat} (C : g_K G X LM ad cX10_likings 5 RX10 (some .int) 3)   (v1 : Int32) {k : Int32 → Int32 → gS → gR} (hk : ∀ (v2 : Int32) (v3 : Int32) (s : gS), g_Z G X LM ad 5 42 [(2, .int v2)] [] s (k v2 v3 s)) : ∀ (n : Nat) (v2 : Int32) (v3 : Int32) (s : gS), g_Z G X LM ad 5 4 [(0, .ref (ad 0)), (1, .int v1), (2, .int v2), (3, .int v3)] [] s (f_X10_likings_4 v1 k n v2 v3 s) := by
  intro n
  induction n with
  | zero => intros; exact z_none
  | succ n ih =>
    intro v2 v3 s
    rw [f_X10_likings_4.eq_2]
    refine z_iload_n C (q := 5) 3 dX10_likings_4 rfl rfl ?_
    refine z_iconst C (q := 6) dX10_likings_5 rfl lt_iconst_5 ?_
    refine z_icmp_ge C (tgt := 42) (q := 9) dX10_likings_6 (by decide) rfl ?_ ?_
    · exact z_sub [2] rfl (hk v2 v3 s)
    refine z_aload_n C (q := 10) 0 dX10_likings_9 rfl rfl ?_
    refine z_iload_n C (q := 11) 1 dX10_likings_10 rfl rfl ?_
    refine z_iload_n C (q := 12) 3 dX10_likings_11 rfl rfl ?_
    refine z_callV C (q := 15) [.int v1, .int v3] gl_X10_242 glv_X10_way ob_m rfl (m_X10_way G (g_Kap C) v1 v3 _) rfl rfl (Nat.le_of_ble_eq_true rfl) ⟨by decide, by decide⟩ dX10_likings_12 rfl (z_ki (fun r2 s1 => ?_))
    refine z_istore C (q := 17) [(4, .int r2), (0, .ref (ad 0)), (1, .int v1), (2, .int v2), (3, .int v3)] dX10_likings_15 rfl (by decide) rfl ?_
    refine z_iload_n C (q := 18) 3 dX10_likings_17 rfl rfl ?_
    refine z_iload C (q := 20) 0 dX10_likings_18 rfl rfl ?_
    refine z_iconst C (q := 21) dX10_likings_20 rfl lt_iconst_m1 ?_
    refine z_icmp_ne C (tgt := 28) (q := 24) dX10_likings_21 (by decide) rfl ?_ ?_
    · refine z_aload_n C (q := 29) 1 dX10_likings_28 rfl rfl ?_
      refine z_iload C (q := 31) 0 dX10_likings_29 rfl rfl ?_
      refine z_callV C (q := 34) [.int r2] gl_X10_246 glv_X10_liking ob_m rfl (m_X10_liking G (g_Kap C) r2 _) rfl rfl (Nat.le_of_ble_eq_true rfl) ⟨by decide, by decide⟩ dX10_likings_31 rfl (z_ki (fun r4 s3 => ?_))
      refine z_iadd C (q := 35) dX10_likings_34 rfl ?_
      refine z_leti (fun v2_5 => ?_)
      refine z_istore_n C (q := 36) [(2, .int v2_5), (4, .int r2), (0, .ref (ad 0)), (1, .int v1), (3, .int v3)] dX10_likings_35 rfl rfl (by decide) rfl ?_
      refine z_iinc C (q := 39) 4 [(3, .int (v3 + 1)), (2, .int v2_5), (4, .int r2), (0, .ref (ad 0)), (1, .int v1)] dX10_likings_36 rfl rfl (lt_iinc_1 _) (by decide) rfl ?_
      refine z_goto C (tgt := 4) dX10_likings_39 (by decide) ?_
      exact z_sub [3, 4, 1, 0] rfl (ih v2_5 (v3 + 1) s3)
    refine z_iconst C (q := 25) dX10_likings_24 rfl lt_iconst_0 ?_
    refine z_goto C (tgt := 34) dX10_likings_25 (by decide) ?_
    refine z_iadd C (q := 35) dX10_likings_34 rfl ?_
    refine z_leti (fun v2_6 => ?_)
    refine z_istore_n C (q := 36) [(2, .int v2_6), (4, .int r2), (0, .ref (ad 0)), (1, .int v1), (3, .int v3)] dX10_likings_35 rfl rfl (by decide) rfl ?_
    refine z_iinc C (q := 39) 4 [(3, .int (v3 + 1)), (2, .int v2_6), (4, .int r2), (0, .ref (ad 0)), (1, .int v1)] dX10_likings_36 rfl rfl (lt_iinc_1 _) (by decide) rfl ?_
    refine z_goto C (tgt := 4) dX10_likings_39 (by decide) ?_
    exact z_sub [3, 4, 1, 0] rfl (ih v2_6 (v3 + 1) s1)
set_option maxRecDepth 100000 in
set_option maxHeartbeats 4000000 in
theorem m_X10_likings (G : gG) {ad : Nat → Nat} (hap : g_ap LM ad)   (v1 : Int32) (s : gS) : g_M G LM ad yX10_likings cX10_likings 5 (some .int) 3 [.ref (ad 0), .int v1] s (f_X10_likings v1 s) := by
  refine g_entry (by decide) hap (Nat.le_of_ble_eq_true rfl) [(0, .ref (ad 0)), (1, .int v1)] rfl (fun X C => ?_)
  unfold f_X10_likings
  refine z_iconst C (q := 1) dX10_likings_0 rfl lt_iconst_0 ?_
  refine z_istore_n C (q := 2) [(2, .int (0 : Int32)), (0, .ref (ad 0)), (1, .int v1)] dX10_likings_1 rfl rfl (by decide) rfl ?_
  refine z_iconst C (q := 3) dX10_likings_2 rfl lt_iconst_0 ?_
  refine z_istore_n C (q := 4) [(3, .int (0 : Int32)), (2, .int (0 : Int32)), (0, .ref (ad 0)), (1, .int v1)] dX10_likings_3 rfl rfl (by decide) rfl ?_
  refine z_sub [2, 3, 1, 0] rfl (l_X10_likings_4 C v1 (fun v2_7 v3_8 s9 => ?_) g_N (0 : Int32) (0 : Int32) s)
  refine z_iload_n C (q := 43) 0 dX10_likings_42 rfl rfl ?_
  exact z_iret C dX10_likings_43
set_option maxRecDepth 100000 in
set_option maxHeartbeats 4000000 in
theorem m_X10_isWest (G : gG) {ad : Nat → Nat} (hap : g_ap LM ad)   (v1 : Int32) (v2 : Int32) (s : gS) : g_M G LM ad yX10_isWest cX10_isWest 7 (some .boolean) 0 [.ref (ad 0), .int v1, .int v2] s (f_X10_isWest v1 v2 s) := by
  refine g_entry (by decide) hap (Nat.le_of_ble_eq_true rfl) [(0, .ref (ad 0)), (1, .int v1), (2, .int v2)] rfl (fun X C => ?_)
  unfold f_X10_isWest
  refine z_iload_n C (q := 1) 1 dX10_isWest_0 rfl rfl ?_
  refine z_aload_n C (q := 2) 0 dX10_isWest_1 rfl rfl ?_
  refine z_getI C (q := 5) ob_m fF_X10_85 rfl dX10_isWest_2 rfl ?_
  refine z_irem C (q := 6) dX10_isWest_5 rfl ?_
  refine z_leti (fun v3_1 => ?_)
  refine z_istore_n C (q := 7) [(3, .int v3_1), (0, .ref (ad 0)), (1, .int v1), (2, .int v2)] dX10_isWest_6 rfl rfl (by decide) rfl ?_
  refine z_iload_n C (q := 8) 2 dX10_isWest_7 rfl rfl ?_
  refine z_aload_n C (q := 9) 1 dX10_isWest_8 rfl rfl ?_
  refine z_getI C (q := 12) ob_m fF_X10_85 rfl dX10_isWest_9 rfl ?_
  refine z_idiv C (q := 13) dX10_isWest_12 rfl ?_
  refine z_leti (fun v4_2 => ?_)
  refine z_istore C (q := 15) [(4, .int v4_2), (3, .int v3_1), (0, .ref (ad 0)), (1, .int v1), (2, .int v2)] dX10_isWest_13 rfl (by decide) rfl ?_
  refine z_iload_n C (q := 16) 4 dX10_isWest_15 rfl rfl ?_
  refine z_aload_n C (q := 17) 2 dX10_isWest_16 rfl rfl ?_
  refine z_getI C (q := 20) ob_m fF_X10_85 rfl dX10_isWest_17 rfl ?_
  refine z_irem C (q := 21) dX10_isWest_20 rfl ?_
  refine z_leti (fun v5_3 => ?_)
  refine z_istore C (q := 23) [(5, .int v5_3), (4, .int v4_2), (3, .int v3_1), (0, .ref (ad 0)), (1, .int v1), (2, .int v2)] dX10_isWest_21 rfl (by decide) rfl ?_
  refine z_iload_n C (q := 24) 5 dX10_isWest_23 rfl rfl ?_
  refine z_aload_n C (q := 25) 3 dX10_isWest_24 rfl rfl ?_
  refine z_getI C (q := 28) ob_m fF_X10_85 rfl dX10_isWest_25 rfl ?_
  refine z_idiv C (q := 29) dX10_isWest_28 rfl ?_
  refine z_leti (fun v6_4 => ?_)
  refine z_istore C (q := 31) [(6, .int v6_4), (5, .int v5_3), (4, .int v4_2), (3, .int v3_1), (0, .ref (ad 0)), (1, .int v1), (2, .int v2)] dX10_isWest_29 rfl (by decide) rfl ?_
  refine z_aload_n C (q := 32) 4 dX10_isWest_31 rfl rfl ?_
  refine z_getR C (q := 35) ob_m fF_X10_7 rfl dX10_isWest_32 rfl ?_
  refine z_bipush C (q := 37) dX10_isWest_35 rfl lt_bipush_86 ?_
  refine z_iald C (q := 38) ar_m1 dX10_isWest_37 rfl ?_
  refine z_if_ne C (tgt := 66) (q := 41) dX10_isWest_38 (by decide) rfl ?_ ?_
  · refine z_aload_n C (q := 67) 4 dX10_isWest_66 rfl rfl ?_
    refine z_getR C (q := 70) ob_m fF_X10_7 rfl dX10_isWest_67 rfl ?_
    refine z_bipush C (q := 72) dX10_isWest_70 rfl lt_bipush_86 ?_
    refine z_iald C (q := 73) ar_m1 dX10_isWest_72 rfl ?_
    refine z_iconst C (q := 74) dX10_isWest_73 rfl lt_iconst_1 ?_
    refine z_icmp_ne C (tgt := 105) (q := 77) dX10_isWest_74 (by decide) rfl ?_ ?_
    · refine z_iload_n C (q := 106) 3 dX10_isWest_105 rfl rfl ?_
      refine z_iload C (q := 108) 2 dX10_isWest_106 rfl rfl ?_
      refine z_iadd C (q := 109) dX10_isWest_108 rfl ?_
      refine z_iload C (q := 111) 1 dX10_isWest_109 rfl rfl ?_
      refine z_iload C (q := 113) 0 dX10_isWest_111 rfl rfl ?_
      refine z_iadd C (q := 114) dX10_isWest_113 rfl ?_
      refine z_icmp_ge C (tgt := 121) (q := 117) dX10_isWest_114 (by decide) rfl ?_ ?_
      · refine z_iconst C (q := 122) dX10_isWest_121 rfl lt_iconst_0 ?_
        exact z_zretK C (by decide) dX10_isWest_122
      refine z_iconst C (q := 118) dX10_isWest_117 rfl lt_iconst_1 ?_
      refine z_goto C (tgt := 122) dX10_isWest_118 (by decide) ?_
      exact z_zretK C (by decide) dX10_isWest_122
    refine z_iload C (q := 79) 2 dX10_isWest_77 rfl rfl ?_
    refine z_iload C (q := 81) 0 dX10_isWest_79 rfl rfl ?_
    refine z_icmp_lt C (tgt := 97) (q := 84) dX10_isWest_81 (by decide) rfl ?_ ?_
    · refine z_iconst C (q := 98) dX10_isWest_97 rfl lt_iconst_1 ?_
      refine z_goto C (tgt := 122) dX10_isWest_98 (by decide) ?_
      exact z_zretK C (by decide) dX10_isWest_122
    refine z_iload C (q := 86) 2 dX10_isWest_84 rfl rfl ?_
    refine z_iload C (q := 88) 0 dX10_isWest_86 rfl rfl ?_
    refine z_icmp_ne C (tgt := 101) (q := 91) dX10_isWest_88 (by decide) rfl ?_ ?_
    · refine z_iconst C (q := 102) dX10_isWest_101 rfl lt_iconst_0 ?_
      refine z_goto C (tgt := 122) dX10_isWest_102 (by decide) ?_
      exact z_zretK C (by decide) dX10_isWest_122
    refine z_iload_n C (q := 92) 3 dX10_isWest_91 rfl rfl ?_
    refine z_iload C (q := 94) 1 dX10_isWest_92 rfl rfl ?_
    refine z_icmp_ge C (tgt := 101) (q := 97) dX10_isWest_94 (by decide) rfl ?_ ?_
    · refine z_iconst C (q := 102) dX10_isWest_101 rfl lt_iconst_0 ?_
      refine z_goto C (tgt := 122) dX10_isWest_102 (by decide) ?_
      exact z_zretK C (by decide) dX10_isWest_122
    refine z_iconst C (q := 98) dX10_isWest_97 rfl lt_iconst_1 ?_
    refine z_goto C (tgt := 122) dX10_isWest_98 (by decide) ?_
    exact z_zretK C (by decide) dX10_isWest_122
  refine z_iload_n C (q := 42) 3 dX10_isWest_41 rfl rfl ?_
  refine z_iload C (q := 44) 1 dX10_isWest_42 rfl rfl ?_
  refine z_icmp_lt C (tgt := 60) (q := 47) dX10_isWest_44 (by decide) rfl ?_ ?_
  · refine z_iconst C (q := 61) dX10_isWest_60 rfl lt_iconst_1 ?_
    refine z_goto C (tgt := 65) dX10_isWest_61 (by decide) ?_
    exact z_zretK C (by decide) dX10_isWest_65
  refine z_iload_n C (q := 48) 3 dX10_isWest_47 rfl rfl ?_
  refine z_iload C (q := 50) 1 dX10_isWest_48 rfl rfl ?_
  refine z_icmp_ne C (tgt := 64) (q := 53) dX10_isWest_50 (by decide) rfl ?_ ?_
  · refine z_iconst C (q := 65) dX10_isWest_64 rfl lt_iconst_0 ?_
    exact z_zretK C (by decide) dX10_isWest_65
  refine z_iload C (q := 55) 2 dX10_isWest_53 rfl rfl ?_
  refine z_iload C (q := 57) 0 dX10_isWest_55 rfl rfl ?_
  refine z_icmp_ge C (tgt := 64) (q := 60) dX10_isWest_57 (by decide) rfl ?_ ?_
  · refine z_iconst C (q := 65) dX10_isWest_64 rfl lt_iconst_0 ?_
    exact z_zretK C (by decide) dX10_isWest_65
  refine z_iconst C (q := 61) dX10_isWest_60 rfl lt_iconst_1 ?_
  refine z_goto C (tgt := 65) dX10_isWest_61 (by decide) ?_
  exact z_zretK C (by decide) dX10_isWest_65
set_option maxRecDepth 100000 in
set_option maxHeartbeats 4000000 in
theorem l_X10_tithesOf_5 {G : gG} {X : gX} {ad : Nat → Nat} (C : g_K G X LM ad cX10_tithesOf 5 RX10 (some .int) 1)   (v1 : Int32) (v2 : Int32) {k : Int32 → Int32 → gS → gR} (hk : ∀ (v3 : Int32) (v4 : Int32) (s : gS), g_Z G X LM ad 5 53 [(3, .int v3)] [] s (k v3 v4 s)) : ∀ (n : Nat) (v3 : Int32) (v4 : Int32) (s : gS), g_Z G X LM ad 5 5 [(0, .ref (ad 0)), (1, .int v1), (2, .int v2), (3, .int v3), (4, .int v4)] [] s (f_X10_tithesOf_5 v1 v2 k n v3 v4 s) := by
  intro n
  induction n with
  | zero => intros; exact z_none
  | succ n ih =>
    intro v3 v4 s
    rw [f_X10_tithesOf_5.eq_2]
    refine z_iload C (q := 7) 4 dX10_tithesOf_5 rfl rfl ?_
    refine z_aload_n C (q := 8) 0 dX10_tithesOf_7 rfl rfl ?_
    refine z_callV C (q := 11) [] gl_X10_225 glv_X10_cells ob_m rfl (m_X10_cells G (g_Kap C)  _) rfl rfl (Nat.le_of_ble_eq_true rfl) ⟨by decide, by decide⟩ dX10_tithesOf_8 rfl (z_ki (fun r2 s1 => ?_))
    refine z_icmp_ge C (tgt := 53) (q := 14) dX10_tithesOf_11 (by decide) rfl ?_ ?_
    · exact z_sub [3] rfl (hk v3 v4 s1)
    refine z_iload_n C (q := 15) 3 dX10_tithesOf_14 rfl rfl ?_
    refine z_aload_n C (q := 16) 0 dX10_tithesOf_15 rfl rfl ?_
    refine z_iload C (q := 18) 4 dX10_tithesOf_16 rfl rfl ?_
    refine z_iload_n C (q := 19) 2 dX10_tithesOf_18 rfl rfl ?_
    refine z_callV C (q := 22) [.int v4, .int v2] gl_X10_249 glv_X10_isWest ob_m rfl (m_X10_isWest G (g_Kap C) v4 v2 _) rfl rfl (Nat.le_of_ble_eq_true rfl) ⟨by decide, by decide⟩ dX10_tithesOf_19 rfl (z_ki (fun r4 s3 => ?_))
    refine z_iload_n C (q := 23) 1 dX10_tithesOf_22 rfl rfl ?_
    refine z_if_ne C (tgt := 30) (q := 26) dX10_tithesOf_23 (by decide) rfl ?_ ?_
    · refine z_iconst C (q := 31) dX10_tithesOf_30 rfl lt_iconst_0 ?_
      refine z_icmp_ne C (tgt := 44) (q := 34) dX10_tithesOf_31 (by decide) rfl ?_ ?_
      · refine z_iconst C (q := 45) dX10_tithesOf_44 rfl lt_iconst_0 ?_
        refine z_iadd C (q := 46) dX10_tithesOf_45 rfl ?_
        refine z_leti (fun v3_5 => ?_)
        refine z_istore_n C (q := 47) [(3, .int v3_5), (0, .ref (ad 0)), (1, .int v1), (2, .int v2), (4, .int v4)] dX10_tithesOf_46 rfl rfl (by decide) rfl ?_
        refine z_iinc C (q := 50) 4 [(4, .int (v4 + 1)), (3, .int v3_5), (0, .ref (ad 0)), (1, .int v1), (2, .int v2)] dX10_tithesOf_47 rfl rfl (lt_iinc_1 _) (by decide) rfl ?_
        refine z_goto C (tgt := 5) dX10_tithesOf_50 (by decide) ?_
        exact z_sub [2, 3, 4, 1, 0] rfl (ih v3_5 (v4 + 1) s3)
      refine z_aload_n C (q := 35) 0 dX10_tithesOf_34 rfl rfl ?_
      refine z_getR C (q := 38) ob_m fF_X10_23 rfl dX10_tithesOf_35 rfl ?_
      refine z_iload C (q := 40) 4 dX10_tithesOf_38 rfl rfl ?_
      refine z_iald C (q := 41) ar_m5 dX10_tithesOf_40 rfl ?_
      refine z_goto C (tgt := 45) dX10_tithesOf_41 (by decide) ?_
      refine z_iadd C (q := 46) dX10_tithesOf_45 rfl ?_
      refine z_leti (fun v3_6 => ?_)
      refine z_istore_n C (q := 47) [(3, .int v3_6), (0, .ref (ad 0)), (1, .int v1), (2, .int v2), (4, .int v4)] dX10_tithesOf_46 rfl rfl (by decide) rfl ?_
      refine z_iinc C (q := 50) 4 [(4, .int (v4 + 1)), (3, .int v3_6), (0, .ref (ad 0)), (1, .int v1), (2, .int v2)] dX10_tithesOf_47 rfl rfl (lt_iinc_1 _) (by decide) rfl ?_
      refine z_goto C (tgt := 5) dX10_tithesOf_50 (by decide) ?_
      exact z_sub [2, 3, 4, 1, 0] rfl (ih v3_6 (v4 + 1) s3)
    refine z_iconst C (q := 27) dX10_tithesOf_26 rfl lt_iconst_1 ?_
    refine z_goto C (tgt := 31) dX10_tithesOf_27 (by decide) ?_
    refine z_icmp_ne C (tgt := 44) (q := 34) dX10_tithesOf_31 (by decide) rfl ?_ ?_
    · refine z_iconst C (q := 45) dX10_tithesOf_44 rfl lt_iconst_0 ?_
      refine z_iadd C (q := 46) dX10_tithesOf_45 rfl ?_
      refine z_leti (fun v3_7 => ?_)
      refine z_istore_n C (q := 47) [(3, .int v3_7), (0, .ref (ad 0)), (1, .int v1), (2, .int v2), (4, .int v4)] dX10_tithesOf_46 rfl rfl (by decide) rfl ?_
      refine z_iinc C (q := 50) 4 [(4, .int (v4 + 1)), (3, .int v3_7), (0, .ref (ad 0)), (1, .int v1), (2, .int v2)] dX10_tithesOf_47 rfl rfl (lt_iinc_1 _) (by decide) rfl ?_
      refine z_goto C (tgt := 5) dX10_tithesOf_50 (by decide) ?_
      exact z_sub [2, 3, 4, 1, 0] rfl (ih v3_7 (v4 + 1) s3)
    refine z_aload_n C (q := 35) 0 dX10_tithesOf_34 rfl rfl ?_
    refine z_getR C (q := 38) ob_m fF_X10_23 rfl dX10_tithesOf_35 rfl ?_
    refine z_iload C (q := 40) 4 dX10_tithesOf_38 rfl rfl ?_
    refine z_iald C (q := 41) ar_m5 dX10_tithesOf_40 rfl ?_
    refine z_goto C (tgt := 45) dX10_tithesOf_41 (by decide) ?_
    refine z_iadd C (q := 46) dX10_tithesOf_45 rfl ?_
    refine z_leti (fun v3_8 => ?_)
    refine z_istore_n C (q := 47) [(3, .int v3_8), (0, .ref (ad 0)), (1, .int v1), (2, .int v2), (4, .int v4)] dX10_tithesOf_46 rfl rfl (by decide) rfl ?_
    refine z_iinc C (q := 50) 4 [(4, .int (v4 + 1)), (3, .int v3_8), (0, .ref (ad 0)), (1, .int v1), (2, .int v2)] dX10_tithesOf_47 rfl rfl (lt_iinc_1 _) (by decide) rfl ?_
    refine z_goto C (tgt := 5) dX10_tithesOf_50 (by decide) ?_
    exact z_sub [2, 3, 4, 1, 0] rfl (ih v3_8 (v4 + 1) s3)
set_option maxRecDepth 100000 in
set_option maxHeartbeats 4000000 in
theorem m_X10_tithesOf (G : gG) {ad : Nat → Nat} (hap : g_ap LM ad)   (v1 : Int32) (v2 : Int32) (s : gS) : g_M G LM ad yX10_tithesOf cX10_tithesOf 5 (some .int) 1 [.ref (ad 0), .int v1, .int v2] s (f_X10_tithesOf v1 v2 s) := by
  refine g_entry (by decide) hap (Nat.le_of_ble_eq_true rfl) [(0, .ref (ad 0)), (1, .int v1), (2, .int v2)] rfl (fun X C => ?_)
  unfold f_X10_tithesOf
  refine z_iconst C (q := 1) dX10_tithesOf_0 rfl lt_iconst_0 ?_
  refine z_istore_n C (q := 2) [(3, .int (0 : Int32)), (0, .ref (ad 0)), (1, .int v1), (2, .int v2)] dX10_tithesOf_1 rfl rfl (by decide) rfl ?_
  refine z_iconst C (q := 3) dX10_tithesOf_2 rfl lt_iconst_0 ?_
  refine z_istore C (q := 5) [(4, .int (0 : Int32)), (3, .int (0 : Int32)), (0, .ref (ad 0)), (1, .int v1), (2, .int v2)] dX10_tithesOf_3 rfl (by decide) rfl ?_
  refine z_sub [2, 3, 4, 1, 0] rfl (l_X10_tithesOf_5 C v1 v2 (fun v3_9 v4_10 s11 => ?_) g_N (0 : Int32) (0 : Int32) s)
  refine z_iload_n C (q := 54) 0 dX10_tithesOf_53 rfl rfl ?_
  exact z_iret C dX10_tithesOf_54
set_option maxRecDepth 100000 in
set_option maxHeartbeats 4000000 in
theorem m_X10_cell (G : gG) {ad : Nat → Nat} (hap : g_ap LM ad)   (v1 : Int32) (v2 : Int32) (v3 : Int32) (s : gS) : g_M G LM ad yX10_cell cX10_cell 5 (some .int) 2 [.ref (ad 0), .int v1, .int v2, .int v3] s (f_X10_cell v1 v2 v3 s) := by
  refine g_entry (by decide) hap (Nat.le_of_ble_eq_true rfl) [(0, .ref (ad 0)), (1, .int v1), (2, .int v2), (3, .int v3)] rfl (fun X C => ?_)
  unfold f_X10_cell
  refine z_aload_n C (q := 1) 0 dX10_cell_0 rfl rfl ?_
  refine z_iload_n C (q := 2) 1 dX10_cell_1 rfl rfl ?_
  refine z_iload_n C (q := 3) 2 dX10_cell_2 rfl rfl ?_
  refine z_callV C (q := 6) [.int v1, .int v2] gl_X10_239 glv_X10_isCell ob_m rfl (m_X10_isCell G (g_Kap C) v1 v2 _) rfl rfl (Nat.le_of_ble_eq_true rfl) ⟨by decide, by decide⟩ dX10_cell_3 rfl (z_ki (fun r2 s1 => ?_))
  refine z_if_ne C (tgt := 12) (q := 9) dX10_cell_6 (by decide) rfl ?_ ?_
  · refine z_aload_n C (q := 13) 0 dX10_cell_12 rfl rfl ?_
    refine z_getI C (q := 16) ob_m fF_X10_85 rfl dX10_cell_13 rfl ?_
    refine z_iload_n C (q := 17) 2 dX10_cell_16 rfl rfl ?_
    refine z_imul C (q := 18) dX10_cell_17 rfl ?_
    refine z_iload_n C (q := 19) 1 dX10_cell_18 rfl rfl ?_
    refine z_iadd C (q := 20) dX10_cell_19 rfl ?_
    refine z_leti (fun v4_3 => ?_)
    refine z_istore C (q := 22) [(4, .int v4_3), (0, .ref (ad 0)), (1, .int v1), (2, .int v2), (3, .int v3)] dX10_cell_20 rfl (by decide) rfl ?_
    refine z_iload_n C (q := 23) 4 dX10_cell_22 rfl rfl ?_
    refine z_case (0 : Int32) (fun hc0 => ?_) (fun hc0 => ?_)
    · refine z_tsIn C (tgt := 56) dX10_cell_23 (0 : Int32) hc0 (by decide) (by decide) rfl (by decide) ?_
      refine z_aload_n C (q := 57) 1 dX10_cell_56 rfl rfl ?_
      refine z_getR C (q := 60) ob_m fF_X10_7 rfl dX10_cell_57 rfl ?_
      refine z_iconst C (q := 61) dX10_cell_60 rfl lt_iconst_0 ?_
      refine z_iload C (q := 63) 0 dX10_cell_61 rfl rfl ?_
      refine z_iadd C (q := 64) dX10_cell_63 rfl ?_
      refine z_iald C (q := 65) ar_m1 dX10_cell_64 rfl ?_
      exact z_iret C dX10_cell_65
    refine z_case (1 : Int32) (fun hc1 => ?_) (fun hc1 => ?_)
    · refine z_tsIn C (tgt := 66) dX10_cell_23 (1 : Int32) hc1 (by decide) (by decide) rfl (by decide) ?_
      refine z_aload_n C (q := 67) 1 dX10_cell_66 rfl rfl ?_
      refine z_getR C (q := 70) ob_m fF_X10_7 rfl dX10_cell_67 rfl ?_
      refine z_bipush C (q := 72) dX10_cell_70 rfl lt_bipush_40 ?_
      refine z_iload C (q := 74) 0 dX10_cell_72 rfl rfl ?_
      refine z_iadd C (q := 75) dX10_cell_74 rfl ?_
      refine z_iald C (q := 76) ar_m1 dX10_cell_75 rfl ?_
      exact z_iret C dX10_cell_76
    refine z_case (2 : Int32) (fun hc2 => ?_) (fun hc2 => ?_)
    · refine z_tsIn C (tgt := 77) dX10_cell_23 (2 : Int32) hc2 (by decide) (by decide) rfl (by decide) ?_
      refine z_aload_n C (q := 78) 1 dX10_cell_77 rfl rfl ?_
      refine z_getR C (q := 81) ob_m fF_X10_20 rfl dX10_cell_78 rfl ?_
      refine z_iload C (q := 83) 0 dX10_cell_81 rfl rfl ?_
      refine z_iald C (q := 84) ar_m4 dX10_cell_83 rfl ?_
      exact z_iret C dX10_cell_84
    refine z_case (3 : Int32) (fun hc3 => ?_) (fun hc3 => ?_)
    · refine z_tsIn C (tgt := 85) dX10_cell_23 (3 : Int32) hc3 (by decide) (by decide) rfl (by decide) ?_
      refine z_aload_n C (q := 86) 1 dX10_cell_85 rfl rfl ?_
      refine z_getR C (q := 89) ob_m fF_X10_23 rfl dX10_cell_86 rfl ?_
      refine z_iload C (q := 91) 0 dX10_cell_89 rfl rfl ?_
      refine z_iald C (q := 92) ar_m5 dX10_cell_91 rfl ?_
      exact z_iret C dX10_cell_92
    refine z_case (4 : Int32) (fun hc4 => ?_) (fun hc4 => ?_)
    · refine z_tsIn C (tgt := 93) dX10_cell_23 (4 : Int32) hc4 (by decide) (by decide) rfl (by decide) ?_
      refine z_aload_n C (q := 94) 1 dX10_cell_93 rfl rfl ?_
      refine z_iload C (q := 96) 0 dX10_cell_94 rfl rfl ?_
      refine z_callV C (q := 99) [.int v4_3] gl_X10_246 glv_X10_liking ob_m rfl (m_X10_liking G (g_Kap C) v4_3 _) rfl rfl (Nat.le_of_ble_eq_true rfl) ⟨by decide, by decide⟩ dX10_cell_96 rfl (z_ki (fun r5 s4 => ?_))
      exact z_iret C dX10_cell_99
    refine z_tsOut C (tgt := 100) dX10_cell_23 (by have := lv_neT (a := 0) hc0 rfl; have := lv_neT (a := 1) hc1 rfl; have := lv_neT (a := 2) hc2 rfl; have := lv_neT (a := 3) hc3 rfl; have := lv_neT (a := 4) hc4 rfl; omega) (by decide) ?_
    refine z_ldc C (q := 102) dX10_cell_100 rfl wm_193 ?_
    exact z_iret C dX10_cell_102
  refine z_ldc C (q := 11) dX10_cell_9 rfl wm_524 ?_
  exact z_iret C dX10_cell_11
set_option maxRecDepth 100000 in
set_option maxHeartbeats 4000000 in
theorem m_X10_tithes (G : gG) {ad : Nat → Nat} (hap : g_ap LM ad)   (v1 : Int32) (v2 : Int32) (v3 : Int32) (s : gS) : g_M G LM ad yX10_tithes cX10_tithes 4 (some .int) 2 [.ref (ad 0), .int v1, .int v2, .int v3] s (f_X10_tithes v1 v2 v3 s) := by
  refine g_entry (by decide) hap (Nat.le_of_ble_eq_true rfl) [(0, .ref (ad 0)), (1, .int v1), (2, .int v2), (3, .int v3)] rfl (fun X C => ?_)
  unfold f_X10_tithes
  refine z_iload_n C (q := 1) 1 dX10_tithes_0 rfl rfl ?_
  refine z_callS C (q := 4) [.int v1] gl_X10_253 wm_553 (m_X10_isParish G (g_Kap C) v1 _) rfl rfl (Nat.le_of_ble_eq_true rfl) ⟨by decide, by decide⟩ dX10_tithes_1 rfl (z_ki (fun r2 s1 => ?_))
  refine z_if_eq C (tgt := 32) (q := 7) dX10_tithes_4 (by decide) rfl ?_ ?_
  · refine z_ldc C (q := 34) dX10_tithes_32 rfl wm_524 ?_
    exact z_iret C dX10_tithes_34
  refine z_aload_n C (q := 8) 0 dX10_tithes_7 rfl rfl ?_
  refine z_iload_n C (q := 9) 2 dX10_tithes_8 rfl rfl ?_
  refine z_iload_n C (q := 10) 3 dX10_tithes_9 rfl rfl ?_
  refine z_callV C (q := 13) [.int v2, .int v3] gl_X10_239 glv_X10_isCell ob_m rfl (m_X10_isCell G (g_Kap C) v2 v3 _) rfl rfl (Nat.le_of_ble_eq_true rfl) ⟨by decide, by decide⟩ dX10_tithes_10 rfl (z_ki (fun r4 s3 => ?_))
  refine z_if_eq C (tgt := 32) (q := 16) dX10_tithes_13 (by decide) rfl ?_ ?_
  · refine z_ldc C (q := 34) dX10_tithes_32 rfl wm_524 ?_
    exact z_iret C dX10_tithes_34
  refine z_aload_n C (q := 17) 0 dX10_tithes_16 rfl rfl ?_
  refine z_iload_n C (q := 18) 1 dX10_tithes_17 rfl rfl ?_
  refine z_aload_n C (q := 19) 0 dX10_tithes_18 rfl rfl ?_
  refine z_getI C (q := 22) ob_m fF_X10_85 rfl dX10_tithes_19 rfl ?_
  refine z_iload_n C (q := 23) 3 dX10_tithes_22 rfl rfl ?_
  refine z_imul C (q := 24) dX10_tithes_23 rfl ?_
  refine z_iload_n C (q := 25) 2 dX10_tithes_24 rfl rfl ?_
  refine z_iadd C (q := 26) dX10_tithes_25 rfl ?_
  refine z_callV C (q := 29) [.int v1, .int (((s3.1 0 3) * v3) + v2)] gl_X10_256 glv_X10_tithesOf ob_m rfl (m_X10_tithesOf G (g_Kap C) v1 (((s3.1 0 3) * v3) + v2) _) rfl rfl (Nat.le_of_ble_eq_true rfl) ⟨by decide, by decide⟩ dX10_tithes_26 rfl (z_ki (fun r6 s5 => ?_))
  refine z_goto C (tgt := 34) dX10_tithes_29 (by decide) ?_
  exact z_iret C dX10_tithes_34
set_option maxRecDepth 100000 in
set_option maxHeartbeats 4000000 in
theorem m_X10_draw (G : gG) {ad : Nat → Nat} (hap : g_ap LM ad)   (v1 : Int32) (s : gS) : g_M G LM ad yX10_draw cX10_draw 2 (some .int) 0 [.ref (ad 0), .int v1] s (f_X10_draw v1 s) := by
  refine g_entry (by decide) hap (Nat.le_of_ble_eq_true rfl) [(0, .ref (ad 0)), (1, .int v1)] rfl (fun X C => ?_)
  unfold f_X10_draw
  refine z_aload_n C (q := 1) 0 dX10_draw_0 rfl rfl ?_
  refine z_getR C (q := 4) ob_m fF_X10_7 rfl dX10_draw_1 rfl ?_
  refine z_bipush C (q := 6) dX10_draw_4 rfl lt_bipush_87 ?_
  refine z_aload_n C (q := 7) 0 dX10_draw_6 rfl rfl ?_
  refine z_getR C (q := 10) ob_m fF_X10_7 rfl dX10_draw_7 rfl ?_
  refine z_bipush C (q := 12) dX10_draw_10 rfl lt_bipush_87 ?_
  refine z_iald C (q := 13) ar_m1 dX10_draw_12 rfl ?_
  refine z_i2l C (q := 14) dX10_draw_13 rfl ?_
  refine z_ldc2 C (q := 17) dX10_draw_14 rfl wm_622 ?_
  refine z_lmul C (q := 18) dX10_draw_17 rfl ?_
  refine z_ldc2 C (q := 21) dX10_draw_18 rfl wm_623 ?_
  refine z_ladd C (q := 22) dX10_draw_21 rfl ?_
  refine z_ldc2 C (q := 25) dX10_draw_22 rfl wm_624 ?_
  refine z_lremK C (q := 26) (by decide) dX10_draw_25 rfl ?_
  refine z_l2i C (q := 27) dX10_draw_26 rfl ?_
  refine z_iast C (q := 28) ar_m1 dX10_draw_27 rfl (fun s1 => ?_)
  refine z_aload_n C (q := 29) 0 dX10_draw_28 rfl rfl ?_
  refine z_getR C (q := 32) ob_m fF_X10_7 rfl dX10_draw_29 rfl ?_
  refine z_bipush C (q := 34) dX10_draw_32 rfl lt_bipush_87 ?_
  refine z_iald C (q := 35) ar_m1 dX10_draw_34 rfl ?_
  refine z_ldcw C (q := 38) dX10_draw_35 rfl wm_625 ?_
  refine z_idivK C (q := 39) (by decide) dX10_draw_38 rfl ?_
  refine z_iload_n C (q := 40) 1 dX10_draw_39 rfl rfl ?_
  refine z_irem C (q := 41) dX10_draw_40 rfl ?_
  exact z_iret C dX10_draw_41
set_option maxRecDepth 100000 in
set_option maxHeartbeats 4000000 in
theorem l_X10_goHour_28 {G : gG} {X : gX} {ad : Nat → Nat} (C : g_K G X LM ad cX10_goHour 6 RX10 (some .int) 4)   (v1 : Int32) (v2 : Int32) {k : Int32 → Int32 → Int32 → gS → gR} (hk : ∀ (v3 : Int32) (v4 : Int32) (v5 : Int32) (s : gS), g_Z G X LM ad 6 69 [(0, .ref (ad 0)), (4, .int v4)] [] s (k v3 v4 v5 s)) : ∀ (n : Nat) (v3 : Int32) (v4 : Int32) (v5 : Int32) (s : gS), g_Z G X LM ad 6 28 [(0, .ref (ad 0)), (1, .int v1), (2, .int v2), (3, .int v3), (4, .int v4), (5, .int v5)] [] s (f_X10_goHour_28 v1 v2 k n v3 v4 v5 s) := by
  intro n
  induction n with
  | zero => intros; exact z_none
  | succ n ih =>
    intro v3 v4 v5 s
    rw [f_X10_goHour_28.eq_2]
    refine z_iload C (q := 30) 5 dX10_goHour_28 rfl rfl ?_
    refine z_iload_n C (q := 31) 2 dX10_goHour_30 rfl rfl ?_
    refine z_icmp_gt C (tgt := 69) (q := 34) dX10_goHour_31 (by decide) rfl ?_ ?_
    · exact z_sub [0, 4] rfl (hk v3 v4 v5 s)
    refine z_iinc C (q := 37) 3 [(3, .int (v3 + 1)), (0, .ref (ad 0)), (1, .int v1), (2, .int v2), (4, .int v4), (5, .int v5)] dX10_goHour_34 rfl rfl (lt_iinc_1 _) (by decide) rfl ?_
    refine z_aload_n C (q := 38) 1 dX10_goHour_37 rfl rfl ?_
    refine z_iload_n C (q := 39) 2 dX10_goHour_38 rfl rfl ?_
    refine z_iload_n C (q := 40) 0 dX10_goHour_39 rfl rfl ?_
    refine z_callV C (q := 43) [.int v1, .int (v3 + 1)] gl_X10_242 glv_X10_way ob_m rfl (m_X10_way G (g_Kap C) v1 (v3 + 1) _) rfl rfl (Nat.le_of_ble_eq_true rfl) ⟨by decide, by decide⟩ dX10_goHour_40 rfl (z_ki (fun r10 s9 => ?_))
    refine z_istore C (q := 45) [(4, .int r10), (3, .int (v3 + 1)), (0, .ref (ad 0)), (1, .int v1), (2, .int v2), (5, .int v5)] dX10_goHour_43 rfl (by decide) rfl ?_
    refine z_iload C (q := 47) 5 dX10_goHour_45 rfl rfl ?_
    refine z_iload C (q := 49) 0 dX10_goHour_47 rfl rfl ?_
    refine z_iconst C (q := 50) dX10_goHour_49 rfl lt_iconst_m1 ?_
    refine z_icmp_ne C (tgt := 57) (q := 53) dX10_goHour_50 (by decide) rfl ?_ ?_
    · refine z_aload_n C (q := 58) 2 dX10_goHour_57 rfl rfl ?_
      refine z_iload C (q := 60) 0 dX10_goHour_58 rfl rfl ?_
      refine z_callV C (q := 63) [.int r10] gl_X10_246 glv_X10_liking ob_m rfl (m_X10_liking G (g_Kap C) r10 _) rfl rfl (Nat.le_of_ble_eq_true rfl) ⟨by decide, by decide⟩ dX10_goHour_60 rfl (z_ki (fun r12 s11 => ?_))
      refine z_iadd C (q := 64) dX10_goHour_63 rfl ?_
      refine z_leti (fun v5_13 => ?_)
      refine z_istore C (q := 66) [(5, .int v5_13), (4, .int r10), (3, .int (v3 + 1)), (0, .ref (ad 0)), (1, .int v1), (2, .int v2)] dX10_goHour_64 rfl (by decide) rfl ?_
      refine z_goto C (tgt := 28) dX10_goHour_66 (by decide) ?_
      exact z_sub [3, 4, 5, 2, 1, 0] rfl (ih (v3 + 1) r10 v5_13 s11)
    refine z_iconst C (q := 54) dX10_goHour_53 rfl lt_iconst_0 ?_
    refine z_goto C (tgt := 63) dX10_goHour_54 (by decide) ?_
    refine z_iadd C (q := 64) dX10_goHour_63 rfl ?_
    refine z_leti (fun v5_14 => ?_)
    refine z_istore C (q := 66) [(5, .int v5_14), (4, .int r10), (3, .int (v3 + 1)), (0, .ref (ad 0)), (1, .int v1), (2, .int v2)] dX10_goHour_64 rfl (by decide) rfl ?_
    refine z_goto C (tgt := 28) dX10_goHour_66 (by decide) ?_
    exact z_sub [3, 4, 5, 2, 1, 0] rfl (ih (v3 + 1) r10 v5_14 s9)
set_option maxRecDepth 100000 in
set_option maxHeartbeats 4000000 in
theorem m_X10_goHour (G : gG) {ad : Nat → Nat} (hap : g_ap LM ad)   (v1 : Int32) (s : gS) : g_M G LM ad yX10_goHour cX10_goHour 6 (some .int) 4 [.ref (ad 0), .int v1] s (f_X10_goHour v1 s) := by
  refine g_entry (by decide) hap (Nat.le_of_ble_eq_true rfl) [(0, .ref (ad 0)), (1, .int v1)] rfl (fun X C => ?_)
  unfold f_X10_goHour
  refine z_aload_n C (q := 1) 0 dX10_goHour_0 rfl rfl ?_
  refine z_aload_n C (q := 2) 0 dX10_goHour_1 rfl rfl ?_
  refine z_iload_n C (q := 3) 1 dX10_goHour_2 rfl rfl ?_
  refine z_callV C (q := 6) [.int v1] gl_X10_266 glv_X10_likings ob_m rfl (m_X10_likings G (g_Kap C) v1 _) rfl rfl (Nat.le_of_ble_eq_true rfl) ⟨by decide, by decide⟩ dX10_goHour_3 rfl (z_ki (fun r2 s1 => ?_))
  refine z_callV C (q := 9) [.int r2] gl_X10_269 glv_X10_draw ob_m rfl (m_X10_draw G (g_Kap C) r2 _) rfl rfl (Nat.le_of_ble_eq_true rfl) ⟨by decide, by decide⟩ dX10_goHour_6 rfl (z_ki (fun r4 s3 => ?_))
  refine z_istore_n C (q := 10) [(2, .int r4), (0, .ref (ad 0)), (1, .int v1)] dX10_goHour_9 rfl rfl (by decide) rfl ?_
  refine z_iconst C (q := 11) dX10_goHour_10 rfl lt_iconst_0 ?_
  refine z_istore_n C (q := 12) [(3, .int (0 : Int32)), (2, .int r4), (0, .ref (ad 0)), (1, .int v1)] dX10_goHour_11 rfl rfl (by decide) rfl ?_
  refine z_aload_n C (q := 13) 2 dX10_goHour_12 rfl rfl ?_
  refine z_iload_n C (q := 14) 3 dX10_goHour_13 rfl rfl ?_
  refine z_iconst C (q := 15) dX10_goHour_14 rfl lt_iconst_0 ?_
  refine z_callV C (q := 18) [.int v1, .int (0 : Int32)] gl_X10_242 glv_X10_way ob_m rfl (m_X10_way G (g_Kap C) v1 (0 : Int32) _) rfl rfl (Nat.le_of_ble_eq_true rfl) ⟨by decide, by decide⟩ dX10_goHour_15 rfl (z_ki (fun r6 s5 => ?_))
  refine z_istore C (q := 20) [(4, .int r6), (3, .int (0 : Int32)), (2, .int r4), (0, .ref (ad 0)), (1, .int v1)] dX10_goHour_18 rfl (by decide) rfl ?_
  refine z_aload_n C (q := 21) 3 dX10_goHour_20 rfl rfl ?_
  refine z_iload C (q := 23) 0 dX10_goHour_21 rfl rfl ?_
  refine z_callV C (q := 26) [.int r6] gl_X10_246 glv_X10_liking ob_m rfl (m_X10_liking G (g_Kap C) r6 _) rfl rfl (Nat.le_of_ble_eq_true rfl) ⟨by decide, by decide⟩ dX10_goHour_23 rfl (z_ki (fun r8 s7 => ?_))
  refine z_istore C (q := 28) [(5, .int r8), (4, .int r6), (3, .int (0 : Int32)), (2, .int r4), (0, .ref (ad 0)), (1, .int v1)] dX10_goHour_26 rfl (by decide) rfl ?_
  refine z_sub [4, 5, 3, 2, 1, 0] rfl (l_X10_goHour_28 C v1 r4 (fun v3_15 v4_16 v5_17 s18 => ?_) g_N (0 : Int32) r6 r8 s7)
  refine z_aload_n C (q := 70) 0 dX10_goHour_69 rfl rfl ?_
  refine z_getR C (q := 73) ob_m fF_X10_7 rfl dX10_goHour_70 rfl ?_
  refine z_iconst C (q := 74) dX10_goHour_73 rfl lt_iconst_0 ?_
  refine z_iload C (q := 76) 1 dX10_goHour_74 rfl rfl ?_
  refine z_iadd C (q := 77) dX10_goHour_76 rfl ?_
  refine z_dup2_11 C (q := 78) dX10_goHour_77 rfl rfl rfl ?_
  refine z_iald C (q := 79) ar_m1 dX10_goHour_78 rfl ?_
  refine z_aload_n C (q := 80) 0 dX10_goHour_79 rfl rfl ?_
  refine z_getR C (q := 83) ob_m fF_X10_7 rfl dX10_goHour_80 rfl ?_
  refine z_iconst C (q := 84) dX10_goHour_83 rfl lt_iconst_0 ?_
  refine z_iload C (q := 86) 1 dX10_goHour_84 rfl rfl ?_
  refine z_iadd C (q := 87) dX10_goHour_86 rfl ?_
  refine z_iald C (q := 88) ar_m1 dX10_goHour_87 rfl ?_
  refine z_if_le C (tgt := 95) (q := 91) dX10_goHour_88 (by decide) rfl ?_ ?_
  · refine z_iconst C (q := 96) dX10_goHour_95 rfl lt_iconst_0 ?_
    refine z_isub C (q := 97) dX10_goHour_96 rfl ?_
    refine z_iast C (q := 98) ar_m1 dX10_goHour_97 rfl (fun s19 => ?_)
    refine z_iload C (q := 100) 1 dX10_goHour_98 rfl rfl ?_
    exact z_iret C dX10_goHour_100
  refine z_iconst C (q := 92) dX10_goHour_91 rfl lt_iconst_1 ?_
  refine z_goto C (tgt := 96) dX10_goHour_92 (by decide) ?_
  refine z_isub C (q := 97) dX10_goHour_96 rfl ?_
  refine z_iast C (q := 98) ar_m1 dX10_goHour_97 rfl (fun s20 => ?_)
  refine z_iload C (q := 100) 1 dX10_goHour_98 rfl rfl ?_
  exact z_iret C dX10_goHour_100
set_option maxRecDepth 100000 in
set_option maxHeartbeats 4000000 in
theorem l_X10_day_44 {G : gG} {X : gX} {ad : Nat → Nat} (C : g_K G X LM ad cX10_day 5 RX10 (some .int) 5)   (v1 : Int32) (v2 : Int32) {k : Int32 → Int32 → gS → gR} (hk : ∀ (v3 : Int32) (v4 : Int32) (s : gS), g_Z G X LM ad 5 65 [(0, .ref (ad 0)), (1, .int v1), (2, .int v2), (3, .int v3)] [] s (k v3 v4 s)) : ∀ (n : Nat) (v3 : Int32) (v4 : Int32) (s : gS), g_Z G X LM ad 5 44 [(0, .ref (ad 0)), (1, .int v1), (2, .int v2), (3, .int v3), (4, .int v4)] [] s (f_X10_day_44 v1 v2 k n v3 v4 s) := by
  intro n
  induction n with
  | zero => intros; exact z_none
  | succ n ih =>
    intro v3 v4 s
    rw [f_X10_day_44.eq_2]
    refine z_iload C (q := 46) 4 dX10_day_44 rfl rfl ?_
    refine z_aload_n C (q := 47) 0 dX10_day_46 rfl rfl ?_
    refine z_getI C (q := 50) ob_m fF_X10_26 rfl dX10_day_47 rfl ?_
    refine z_icmp_ge C (tgt := 65) (q := 53) dX10_day_50 (by decide) rfl ?_ ?_
    · exact z_sub [0, 1, 2, 3] rfl (hk v3 v4 s)
    refine z_aload_n C (q := 54) 0 dX10_day_53 rfl rfl ?_
    refine z_iload_n C (q := 55) 3 dX10_day_54 rfl rfl ?_
    refine z_callV C (q := 58) [.int v3] gl_X10_275 glv_X10_goHour ob_m rfl (m_X10_goHour G (g_Kap C) v3 _) rfl rfl (Nat.le_of_ble_eq_true rfl) ⟨by decide, by decide⟩ dX10_day_55 rfl (z_ki (fun r7 s6 => ?_))
    refine z_istore_n C (q := 59) [(3, .int r7), (0, .ref (ad 0)), (1, .int v1), (2, .int v2), (4, .int v4)] dX10_day_58 rfl rfl (by decide) rfl ?_
    refine z_iinc C (q := 62) 4 [(4, .int (v4 + 1)), (3, .int r7), (0, .ref (ad 0)), (1, .int v1), (2, .int v2)] dX10_day_59 rfl rfl (lt_iinc_1 _) (by decide) rfl ?_
    refine z_goto C (tgt := 44) dX10_day_62 (by decide) ?_
    exact z_sub [2, 3, 4, 1, 0] rfl (ih r7 (v4 + 1) s6)
set_option maxRecDepth 100000 in
set_option maxHeartbeats 4000000 in
theorem l_X10_day_108 {G : gG} {X : gX} {ad : Nat → Nat} (C : g_K G X LM ad cX10_day 5 RX10 (some .int) 5)   (v1 : Int32) (v2 : Int32) (v3 : Int32) {k : Int32 → gS → gR} (hk : ∀ (v4 : Int32) (s : gS), g_Z G X LM ad 5 162 [(0, .ref (ad 0)), (1, .int v1), (2, .int v2), (3, .int v3)] [] s (k v4 s)) : ∀ (n : Nat) (v4 : Int32) (s : gS), g_Z G X LM ad 5 108 [(0, .ref (ad 0)), (1, .int v1), (2, .int v2), (3, .int v3), (4, .int v4)] [] s (f_X10_day_108 v1 v2 v3 k n v4 s) := by
  intro n
  induction n with
  | zero => intros; exact z_none
  | succ n ih =>
    intro v4 s
    rw [f_X10_day_108.eq_2]
    refine z_iload C (q := 110) 4 dX10_day_108 rfl rfl ?_
    refine z_aload_n C (q := 111) 0 dX10_day_110 rfl rfl ?_
    refine z_callV C (q := 114) [] gl_X10_225 glv_X10_cells ob_m rfl (m_X10_cells G (g_Kap C)  _) rfl rfl (Nat.le_of_ble_eq_true rfl) ⟨by decide, by decide⟩ dX10_day_111 rfl (z_ki (fun r19 s18 => ?_))
    refine z_icmp_ge C (tgt := 162) (q := 117) dX10_day_114 (by decide) rfl ?_ ?_
    · exact z_sub [0, 1, 2, 3] rfl (hk v4 s18)
    refine z_aload_n C (q := 118) 0 dX10_day_117 rfl rfl ?_
    refine z_getR C (q := 121) ob_m fF_X10_7 rfl dX10_day_118 rfl ?_
    refine z_iconst C (q := 122) dX10_day_121 rfl lt_iconst_0 ?_
    refine z_iload C (q := 124) 4 dX10_day_122 rfl rfl ?_
    refine z_iadd C (q := 125) dX10_day_124 rfl ?_
    refine z_dup2_11 C (q := 126) dX10_day_125 rfl rfl rfl ?_
    refine z_iald C (q := 127) ar_m1 dX10_day_126 rfl ?_
    refine z_aload_n C (q := 128) 0 dX10_day_127 rfl rfl ?_
    refine z_getR C (q := 131) ob_m fF_X10_7 rfl dX10_day_128 rfl ?_
    refine z_iconst C (q := 132) dX10_day_131 rfl lt_iconst_0 ?_
    refine z_iload C (q := 134) 4 dX10_day_132 rfl rfl ?_
    refine z_iadd C (q := 135) dX10_day_134 rfl ?_
    refine z_iald C (q := 136) ar_m1 dX10_day_135 rfl ?_
    refine z_aload_n C (q := 137) 0 dX10_day_136 rfl rfl ?_
    refine z_getR C (q := 140) ob_m fF_X10_7 rfl dX10_day_137 rfl ?_
    refine z_bipush C (q := 142) dX10_day_140 rfl lt_bipush_40 ?_
    refine z_iload C (q := 144) 4 dX10_day_142 rfl rfl ?_
    refine z_iadd C (q := 145) dX10_day_144 rfl ?_
    refine z_iald C (q := 146) ar_m1 dX10_day_145 rfl ?_
    refine z_icmp_ge C (tgt := 153) (q := 149) dX10_day_146 (by decide) rfl ?_ ?_
    · refine z_iconst C (q := 154) dX10_day_153 rfl lt_iconst_0 ?_
      refine z_iadd C (q := 155) dX10_day_154 rfl ?_
      refine z_iast C (q := 156) ar_m1 dX10_day_155 rfl (fun s20 => ?_)
      refine z_iinc C (q := 159) 4 [(4, .int (v4 + 1)), (0, .ref (ad 0)), (1, .int v1), (2, .int v2), (3, .int v3)] dX10_day_156 rfl rfl (lt_iinc_1 _) (by decide) rfl ?_
      refine z_goto C (tgt := 108) dX10_day_159 (by decide) ?_
      exact z_sub [1, 2, 3, 4, 0] rfl (ih (v4 + 1) s20)
    refine z_iconst C (q := 150) dX10_day_149 rfl lt_iconst_1 ?_
    refine z_goto C (tgt := 154) dX10_day_150 (by decide) ?_
    refine z_iadd C (q := 155) dX10_day_154 rfl ?_
    refine z_iast C (q := 156) ar_m1 dX10_day_155 rfl (fun s21 => ?_)
    refine z_iinc C (q := 159) 4 [(4, .int (v4 + 1)), (0, .ref (ad 0)), (1, .int v1), (2, .int v2), (3, .int v3)] dX10_day_156 rfl rfl (lt_iinc_1 _) (by decide) rfl ?_
    refine z_goto C (tgt := 108) dX10_day_159 (by decide) ?_
    exact z_sub [1, 2, 3, 4, 0] rfl (ih (v4 + 1) s21)
set_option maxRecDepth 100000 in
set_option maxHeartbeats 4000000 in
theorem l_X10_day_28 {G : gG} {X : gX} {ad : Nat → Nat} (C : g_K G X LM ad cX10_day 5 RX10 (some .int) 5)   (v1 : Int32) {k : Int32 → gS → gR} (hk : ∀ (v2 : Int32) (s : gS), g_Z G X LM ad 5 187 [(0, .ref (ad 0))] [] s (k v2 s)) : ∀ (n : Nat) (v2 : Int32) (s : gS), g_Z G X LM ad 5 28 [(0, .ref (ad 0)), (1, .int v1), (2, .int v2)] [] s (f_X10_day_28 v1 k n v2 s) := by
  intro n
  induction n with
  | zero => intros; exact z_none
  | succ n ih =>
    intro v2 s
    rw [f_X10_day_28.eq_2]
    refine z_iload_n C (q := 29) 2 dX10_day_28 rfl rfl ?_
    refine z_iload_n C (q := 30) 1 dX10_day_29 rfl rfl ?_
    refine z_icmp_ge C (tgt := 187) (q := 33) dX10_day_30 (by decide) rfl ?_ ?_
    · exact z_sub [0] rfl (hk v2 s)
    refine z_aload_n C (q := 34) 0 dX10_day_33 rfl rfl ?_
    refine z_getR C (q := 37) ob_m fF_X10_7 rfl dX10_day_34 rfl ?_
    refine z_bipush C (q := 39) dX10_day_37 rfl lt_bipush_80 ?_
    refine z_iald C (q := 40) ar_m1 dX10_day_39 rfl ?_
    refine z_leti (fun v3_5 => ?_)
    refine z_istore_n C (q := 41) [(3, .int v3_5), (0, .ref (ad 0)), (1, .int v1), (2, .int v2)] dX10_day_40 rfl rfl (by decide) rfl ?_
    refine z_iconst C (q := 42) dX10_day_41 rfl lt_iconst_0 ?_
    refine z_istore C (q := 44) [(4, .int (0 : Int32)), (3, .int v3_5), (0, .ref (ad 0)), (1, .int v1), (2, .int v2)] dX10_day_42 rfl (by decide) rfl ?_
    refine z_sub [2, 3, 4, 1, 0] rfl (l_X10_day_44 C v1 v2 (fun v3_8 v4_9 s10 => ?_) g_N v3_5 (0 : Int32) s)
    refine z_aload_n C (q := 66) 0 dX10_day_65 rfl rfl ?_
    refine z_getR C (q := 69) ob_m fF_X10_7 rfl dX10_day_66 rfl ?_
    refine z_bipush C (q := 71) dX10_day_69 rfl lt_bipush_81 ?_
    refine z_iload_n C (q := 72) 3 dX10_day_71 rfl rfl ?_
    refine z_iast C (q := 73) ar_m1 dX10_day_72 rfl (fun s11 => ?_)
    refine z_aload_n C (q := 74) 0 dX10_day_73 rfl rfl ?_
    refine z_getR C (q := 77) ob_m fF_X10_7 rfl dX10_day_74 rfl ?_
    refine z_bipush C (q := 79) dX10_day_77 rfl lt_bipush_83 ?_
    refine z_dup2_11 C (q := 80) dX10_day_79 rfl rfl rfl ?_
    refine z_iald C (q := 81) ar_m1 dX10_day_80 rfl ?_
    refine z_aload_n C (q := 82) 0 dX10_day_81 rfl rfl ?_
    refine z_iconst C (q := 83) dX10_day_82 rfl lt_iconst_0 ?_
    refine z_iload_n C (q := 84) 3 dX10_day_83 rfl rfl ?_
    refine z_callV C (q := 87) [.int (0 : Int32), .int v3_8] gl_X10_256 glv_X10_tithesOf ob_m rfl (m_X10_tithesOf G (g_Kap C) (0 : Int32) v3_8 _) rfl rfl (Nat.le_of_ble_eq_true rfl) ⟨by decide, by decide⟩ dX10_day_84 rfl (z_ki (fun r13 s12 => ?_))
    refine z_iadd C (q := 88) dX10_day_87 rfl ?_
    refine z_iast C (q := 89) ar_m1 dX10_day_88 rfl (fun s14 => ?_)
    refine z_aload_n C (q := 90) 0 dX10_day_89 rfl rfl ?_
    refine z_getR C (q := 93) ob_m fF_X10_7 rfl dX10_day_90 rfl ?_
    refine z_bipush C (q := 95) dX10_day_93 rfl lt_bipush_84 ?_
    refine z_dup2_11 C (q := 96) dX10_day_95 rfl rfl rfl ?_
    refine z_iald C (q := 97) ar_m1 dX10_day_96 rfl ?_
    refine z_aload_n C (q := 98) 0 dX10_day_97 rfl rfl ?_
    refine z_iconst C (q := 99) dX10_day_98 rfl lt_iconst_1 ?_
    refine z_iload_n C (q := 100) 3 dX10_day_99 rfl rfl ?_
    refine z_callV C (q := 103) [.int (1 : Int32), .int v3_8] gl_X10_256 glv_X10_tithesOf ob_m rfl (m_X10_tithesOf G (g_Kap C) (1 : Int32) v3_8 _) rfl rfl (Nat.le_of_ble_eq_true rfl) ⟨by decide, by decide⟩ dX10_day_100 rfl (z_ki (fun r16 s15 => ?_))
    refine z_iadd C (q := 104) dX10_day_103 rfl ?_
    refine z_iast C (q := 105) ar_m1 dX10_day_104 rfl (fun s17 => ?_)
    refine z_iconst C (q := 106) dX10_day_105 rfl lt_iconst_0 ?_
    refine z_istore C (q := 108) [(4, .int (0 : Int32)), (0, .ref (ad 0)), (1, .int v1), (2, .int v2), (3, .int v3_8)] dX10_day_106 rfl (by decide) rfl ?_
    refine z_sub [1, 2, 3, 4, 0] rfl (l_X10_day_108 C v1 v2 v3_8 (fun v4_22 s23 => ?_) g_N (0 : Int32) s17)
    refine z_aload_n C (q := 163) 0 dX10_day_162 rfl rfl ?_
    refine z_getR C (q := 166) ob_m fF_X10_7 rfl dX10_day_163 rfl ?_
    refine z_bipush C (q := 168) dX10_day_166 rfl lt_bipush_80 ?_
    refine z_iload_n C (q := 169) 3 dX10_day_168 rfl rfl ?_
    refine z_iast C (q := 170) ar_m1 dX10_day_169 rfl (fun s24 => ?_)
    refine z_aload_n C (q := 171) 0 dX10_day_170 rfl rfl ?_
    refine z_getR C (q := 174) ob_m fF_X10_7 rfl dX10_day_171 rfl ?_
    refine z_bipush C (q := 176) dX10_day_174 rfl lt_bipush_85 ?_
    refine z_dup2_11 C (q := 177) dX10_day_176 rfl rfl rfl ?_
    refine z_iald C (q := 178) ar_m1 dX10_day_177 rfl ?_
    refine z_iconst C (q := 179) dX10_day_178 rfl lt_iconst_1 ?_
    refine z_iadd C (q := 180) dX10_day_179 rfl ?_
    refine z_iast C (q := 181) ar_m1 dX10_day_180 rfl (fun s25 => ?_)
    refine z_iinc C (q := 184) 2 [(2, .int (v2 + 1)), (0, .ref (ad 0)), (1, .int v1), (3, .int v3_8)] dX10_day_181 rfl rfl (lt_iinc_1 _) (by decide) rfl ?_
    refine z_goto C (tgt := 28) dX10_day_184 (by decide) ?_
    exact z_sub [1, 2, 0] rfl (ih (v2 + 1) s25)
set_option maxRecDepth 100000 in
set_option maxHeartbeats 4000000 in
theorem m_X10_day (G : gG) {ad : Nat → Nat} (hap : g_ap LM ad)   (v1 : Int32) (s : gS) : g_M G LM ad yX10_day cX10_day 5 (some .int) 5 [.ref (ad 0), .int v1] s (f_X10_day v1 s) := by
  refine g_entry (by decide) hap (Nat.le_of_ble_eq_true rfl) [(0, .ref (ad 0)), (1, .int v1)] rfl (fun X C => ?_)
  unfold f_X10_day
  refine z_iload_n C (q := 1) 1 dX10_day_0 rfl rfl ?_
  refine z_i2l C (q := 2) dX10_day_1 rfl ?_
  refine z_lconst C (q := 3) (v := 1) dX10_day_2 rfl rfl ?_
  refine z_ldc2 C (q := 6) dX10_day_3 rfl wm_604 ?_
  refine z_callS C (q := 9) [.long (v1.toInt64), .long (1 : Int64), .long (99 : Int64)] gl_X10_91 wm_198 (m_X10_in G (g_Kap C) (v1.toInt64) (1 : Int64) (99 : Int64) _) rfl rfl (Nat.le_of_ble_eq_true rfl) ⟨by decide, by decide⟩ dX10_day_6 rfl (z_ki (fun r2 s1 => ?_))
  refine z_if_ne C (tgt := 15) (q := 12) dX10_day_9 (by decide) rfl ?_ ?_
  · refine z_aload_n C (q := 16) 0 dX10_day_15 rfl rfl ?_
    refine z_callV C (q := 19) [] gl_X10_225 glv_X10_cells ob_m rfl (m_X10_cells G (g_Kap C)  _) rfl rfl (Nat.le_of_ble_eq_true rfl) ⟨by decide, by decide⟩ dX10_day_16 rfl (z_ki (fun r4 s3 => ?_))
    refine z_if_ne C (tgt := 26) (q := 22) dX10_day_19 (by decide) rfl ?_ ?_
    · refine z_iconst C (q := 27) dX10_day_26 rfl lt_iconst_0 ?_
      refine z_istore_n C (q := 28) [(2, .int (0 : Int32)), (0, .ref (ad 0)), (1, .int v1)] dX10_day_27 rfl rfl (by decide) rfl ?_
      refine z_sub [1, 2, 0] rfl (l_X10_day_28 C v1 (fun v2_26 s27 => ?_) g_N (0 : Int32) s3)
      refine z_aload_n C (q := 188) 0 dX10_day_187 rfl rfl ?_
      refine z_aload_n C (q := 189) 0 dX10_day_188 rfl rfl ?_
      refine z_getR C (q := 192) ob_m fF_X10_7 rfl dX10_day_189 rfl ?_
      refine z_bipush C (q := 194) dX10_day_192 rfl lt_bipush_81 ?_
      refine z_iald C (q := 195) ar_m1 dX10_day_194 rfl ?_
      refine z_callV C (q := 198) [.int (s27.1 1 (81 : Int32).toNatClampNeg)] gl_X10_235 glv_X10_named ob_m rfl (m_X10_named G (g_Kap C) (s27.1 1 (81 : Int32).toNatClampNeg) _) rfl rfl (Nat.le_of_ble_eq_true rfl) ⟨by decide, by decide⟩ dX10_day_195 rfl (z_ki (fun r29 s28 => ?_))
      exact z_iret C dX10_day_198
    refine z_ldcw C (q := 25) dX10_day_22 rfl wm_605 ?_
    exact z_iret C dX10_day_25
  refine z_ldc C (q := 14) dX10_day_12 rfl wm_193 ?_
  exact z_iret C dX10_day_14
set_option maxRecDepth 100000 in
set_option maxHeartbeats 4000000 in
theorem m_X10_law (G : gG) {ad : Nat → Nat} (hap : g_ap LM ad)   (v1 : Int32) (s : gS) : g_M G LM ad yX10_law cX10_law 3 (some .int) 1 [.ref (ad 0), .int v1] s (f_X10_law v1 s) := by
  refine g_entry (by decide) hap (Nat.le_of_ble_eq_true rfl) [(0, .ref (ad 0)), (1, .int v1)] rfl (fun X C => ?_)
  unfold f_X10_law
  refine z_iload_n C (q := 1) 1 dX10_law_0 rfl rfl ?_
  refine z_i2l C (q := 2) dX10_law_1 rfl ?_
  refine z_lconst C (q := 3) (v := 0) dX10_law_2 rfl rfl ?_
  refine z_ldc2 C (q := 6) dX10_law_3 rfl wm_634 ?_
  refine z_callS C (q := 9) [.long (v1.toInt64), .long (0 : Int64), .long (2 : Int64)] gl_X10_91 wm_198 (m_X10_in G (g_Kap C) (v1.toInt64) (0 : Int64) (2 : Int64) _) rfl rfl (Nat.le_of_ble_eq_true rfl) ⟨by decide, by decide⟩ dX10_law_6 rfl (z_ki (fun r2 s1 => ?_))
  refine z_if_ne C (tgt := 15) (q := 12) dX10_law_9 (by decide) rfl ?_ ?_
  · refine z_aload_n C (q := 16) 0 dX10_law_15 rfl rfl ?_
    refine z_getR C (q := 19) ob_m fF_X10_7 rfl dX10_law_16 rfl ?_
    refine z_bipush C (q := 21) dX10_law_19 rfl lt_bipush_86 ?_
    refine z_iald C (q := 22) ar_m1 dX10_law_21 rfl ?_
    refine z_leti (fun v2_3 => ?_)
    refine z_istore_n C (q := 23) [(2, .int v2_3), (0, .ref (ad 0)), (1, .int v1)] dX10_law_22 rfl rfl (by decide) rfl ?_
    refine z_aload_n C (q := 24) 1 dX10_law_23 rfl rfl ?_
    refine z_getR C (q := 27) ob_m fF_X10_7 rfl dX10_law_24 rfl ?_
    refine z_bipush C (q := 29) dX10_law_27 rfl lt_bipush_86 ?_
    refine z_iload_n C (q := 30) 2 dX10_law_29 rfl rfl ?_
    refine z_iast C (q := 31) ar_m1 dX10_law_30 rfl (fun s4 => ?_)
    refine z_iload_n C (q := 32) 0 dX10_law_31 rfl rfl ?_
    exact z_iret C dX10_law_32
  refine z_ldc C (q := 14) dX10_law_12 rfl wm_193 ?_
  exact z_iret C dX10_law_14
set_option maxRecDepth 100000 in
set_option maxHeartbeats 4000000 in
theorem m_X10_sowOn (G : gG) {ad : Nat → Nat} (hap : g_ap LM ad)   (v1 : Int32) (v2 : Int32) (s : gS) : g_M G LM ad yX10_sowOn cX10_sowOn 5 none 0 [.ref (ad 0), .int v1, .int v2] s (f_X10_sowOn v1 v2 s) := by
  refine g_entry (by decide) hap (Nat.le_of_ble_eq_true rfl) [(0, .ref (ad 0)), (1, .int v1), (2, .int v2)] rfl (fun X C => ?_)
  unfold f_X10_sowOn
  refine z_aload_n C (q := 1) 0 dX10_sowOn_0 rfl rfl ?_
  refine z_getR C (q := 4) ob_m fF_X10_7 rfl dX10_sowOn_1 rfl ?_
  refine z_iconst C (q := 5) dX10_sowOn_4 rfl lt_iconst_0 ?_
  refine z_iload_n C (q := 6) 1 dX10_sowOn_5 rfl rfl ?_
  refine z_iadd C (q := 7) dX10_sowOn_6 rfl ?_
  refine z_iald C (q := 8) ar_m1 dX10_sowOn_7 rfl ?_
  refine z_iload_n C (q := 9) 2 dX10_sowOn_8 rfl rfl ?_
  refine z_iadd C (q := 10) dX10_sowOn_9 rfl ?_
  refine z_leti (fun v3_1 => ?_)
  refine z_istore_n C (q := 11) [(3, .int v3_1), (0, .ref (ad 0)), (1, .int v1), (2, .int v2)] dX10_sowOn_10 rfl rfl (by decide) rfl ?_
  refine z_aload_n C (q := 12) 1 dX10_sowOn_11 rfl rfl ?_
  refine z_getR C (q := 15) ob_m fF_X10_7 rfl dX10_sowOn_12 rfl ?_
  refine z_bipush C (q := 17) dX10_sowOn_15 rfl lt_bipush_40 ?_
  refine z_iload_n C (q := 18) 2 dX10_sowOn_17 rfl rfl ?_
  refine z_iadd C (q := 19) dX10_sowOn_18 rfl ?_
  refine z_iald C (q := 20) ar_m1 dX10_sowOn_19 rfl ?_
  refine z_iload_n C (q := 21) 3 dX10_sowOn_20 rfl rfl ?_
  refine z_iadd C (q := 22) dX10_sowOn_21 rfl ?_
  refine z_leti (fun v4_2 => ?_)
  refine z_istore C (q := 24) [(4, .int v4_2), (3, .int v3_1), (0, .ref (ad 0)), (1, .int v1), (2, .int v2)] dX10_sowOn_22 rfl (by decide) rfl ?_
  refine z_aload_n C (q := 25) 2 dX10_sowOn_24 rfl rfl ?_
  refine z_getR C (q := 28) ob_m fF_X10_7 rfl dX10_sowOn_25 rfl ?_
  refine z_iconst C (q := 29) dX10_sowOn_28 rfl lt_iconst_0 ?_
  refine z_iload_n C (q := 30) 3 dX10_sowOn_29 rfl rfl ?_
  refine z_iadd C (q := 31) dX10_sowOn_30 rfl ?_
  refine z_iload_n C (q := 32) 1 dX10_sowOn_31 rfl rfl ?_
  refine z_bipush C (q := 34) dX10_sowOn_32 rfl lt_bipush_18 ?_
  refine z_icmp_le C (tgt := 42) (q := 37) dX10_sowOn_34 (by decide) rfl ?_ ?_
  · refine z_iload_n C (q := 43) 1 dX10_sowOn_42 rfl rfl ?_
    refine z_iast C (q := 44) ar_m1 dX10_sowOn_43 rfl (fun s3 => ?_)
    refine z_aload_n C (q := 45) 2 dX10_sowOn_44 rfl rfl ?_
    refine z_getR C (q := 48) ob_m fF_X10_7 rfl dX10_sowOn_45 rfl ?_
    refine z_bipush C (q := 50) dX10_sowOn_48 rfl lt_bipush_40 ?_
    refine z_iload_n C (q := 51) 3 dX10_sowOn_50 rfl rfl ?_
    refine z_iadd C (q := 52) dX10_sowOn_51 rfl ?_
    refine z_iload C (q := 54) 0 dX10_sowOn_52 rfl rfl ?_
    refine z_bipush C (q := 56) dX10_sowOn_54 rfl lt_bipush_18 ?_
    refine z_icmp_le C (tgt := 64) (q := 59) dX10_sowOn_56 (by decide) rfl ?_ ?_
    · refine z_iload C (q := 66) 0 dX10_sowOn_64 rfl rfl ?_
      refine z_iast C (q := 67) ar_m1 dX10_sowOn_66 rfl (fun s4 => ?_)
      exact z_vret C dX10_sowOn_67
    refine z_bipush C (q := 61) dX10_sowOn_59 rfl lt_bipush_18 ?_
    refine z_goto C (tgt := 66) dX10_sowOn_61 (by decide) ?_
    refine z_iast C (q := 67) ar_m1 dX10_sowOn_66 rfl (fun s5 => ?_)
    exact z_vret C dX10_sowOn_67
  refine z_bipush C (q := 39) dX10_sowOn_37 rfl lt_bipush_18 ?_
  refine z_goto C (tgt := 43) dX10_sowOn_39 (by decide) ?_
  refine z_iast C (q := 44) ar_m1 dX10_sowOn_43 rfl (fun s6 => ?_)
  refine z_aload_n C (q := 45) 2 dX10_sowOn_44 rfl rfl ?_
  refine z_getR C (q := 48) ob_m fF_X10_7 rfl dX10_sowOn_45 rfl ?_
  refine z_bipush C (q := 50) dX10_sowOn_48 rfl lt_bipush_40 ?_
  refine z_iload_n C (q := 51) 3 dX10_sowOn_50 rfl rfl ?_
  refine z_iadd C (q := 52) dX10_sowOn_51 rfl ?_
  refine z_iload C (q := 54) 0 dX10_sowOn_52 rfl rfl ?_
  refine z_bipush C (q := 56) dX10_sowOn_54 rfl lt_bipush_18 ?_
  refine z_icmp_le C (tgt := 64) (q := 59) dX10_sowOn_56 (by decide) rfl ?_ ?_
  · refine z_iload C (q := 66) 0 dX10_sowOn_64 rfl rfl ?_
    refine z_iast C (q := 67) ar_m1 dX10_sowOn_66 rfl (fun s7 => ?_)
    exact z_vret C dX10_sowOn_67
  refine z_bipush C (q := 61) dX10_sowOn_59 rfl lt_bipush_18 ?_
  refine z_goto C (tgt := 66) dX10_sowOn_61 (by decide) ?_
  refine z_iast C (q := 67) ar_m1 dX10_sowOn_66 rfl (fun s8 => ?_)
  exact z_vret C dX10_sowOn_67
set_option maxRecDepth 100000 in
set_option maxHeartbeats 4000000 in
theorem m_X10_sow (G : gG) {ad : Nat → Nat} (hap : g_ap LM ad)   (v1 : Int32) (v2 : Int32) (v3 : Int32) (s : gS) : g_M G LM ad yX10_sow cX10_sow 4 (some .int) 2 [.ref (ad 0), .int v1, .int v2, .int v3] s (f_X10_sow v1 v2 v3 s) := by
  refine g_entry (by decide) hap (Nat.le_of_ble_eq_true rfl) [(0, .ref (ad 0)), (1, .int v1), (2, .int v2), (3, .int v3)] rfl (fun X C => ?_)
  unfold f_X10_sow
  refine z_aload_n C (q := 1) 0 dX10_sow_0 rfl rfl ?_
  refine z_iload_n C (q := 2) 1 dX10_sow_1 rfl rfl ?_
  refine z_iload_n C (q := 3) 2 dX10_sow_2 rfl rfl ?_
  refine z_callV C (q := 6) [.int v1, .int v2] gl_X10_239 glv_X10_isCell ob_m rfl (m_X10_isCell G (g_Kap C) v1 v2 _) rfl rfl (Nat.le_of_ble_eq_true rfl) ⟨by decide, by decide⟩ dX10_sow_3 rfl (z_ki (fun r2 s1 => ?_))
  refine z_if_ne C (tgt := 12) (q := 9) dX10_sow_6 (by decide) rfl ?_ ?_
  · refine z_iload_n C (q := 13) 3 dX10_sow_12 rfl rfl ?_
    refine z_i2l C (q := 14) dX10_sow_13 rfl ?_
    refine z_lconst C (q := 15) (v := 1) dX10_sow_14 rfl rfl ?_
    refine z_ldc2 C (q := 18) dX10_sow_15 rfl wm_418 ?_
    refine z_callS C (q := 21) [.long (v3.toInt64), .long (1 : Int64), .long (9 : Int64)] gl_X10_91 wm_198 (m_X10_in G (g_Kap C) (v3.toInt64) (1 : Int64) (9 : Int64) _) rfl rfl (Nat.le_of_ble_eq_true rfl) ⟨by decide, by decide⟩ dX10_sow_18 rfl (z_ki (fun r4 s3 => ?_))
    refine z_if_ne C (tgt := 27) (q := 24) dX10_sow_21 (by decide) rfl ?_ ?_
    · refine z_aload_n C (q := 28) 0 dX10_sow_27 rfl rfl ?_
      refine z_aload_n C (q := 29) 0 dX10_sow_28 rfl rfl ?_
      refine z_getI C (q := 32) ob_m fF_X10_85 rfl dX10_sow_29 rfl ?_
      refine z_iload_n C (q := 33) 2 dX10_sow_32 rfl rfl ?_
      refine z_imul C (q := 34) dX10_sow_33 rfl ?_
      refine z_iload_n C (q := 35) 1 dX10_sow_34 rfl rfl ?_
      refine z_iadd C (q := 36) dX10_sow_35 rfl ?_
      refine z_iload_n C (q := 37) 3 dX10_sow_36 rfl rfl ?_
      refine z_callV C (q := 40) [.int (((s3.1 0 3) * v2) + v1), .int v3] gl_X10_280 glv_X10_sowOn ob_m rfl (m_X10_sowOn G (g_Kap C) (((s3.1 0 3) * v2) + v1) v3 _) rfl rfl (Nat.le_of_ble_eq_true rfl) ⟨by decide, by decide⟩ dX10_sow_37 rfl (z_kv (fun s5 => ?_))
      refine z_aload_n C (q := 41) 0 dX10_sow_40 rfl rfl ?_
      refine z_getR C (q := 44) ob_m fF_X10_7 rfl dX10_sow_41 rfl ?_
      refine z_iconst C (q := 45) dX10_sow_44 rfl lt_iconst_0 ?_
      refine z_aload_n C (q := 46) 0 dX10_sow_45 rfl rfl ?_
      refine z_getI C (q := 49) ob_m fF_X10_85 rfl dX10_sow_46 rfl ?_
      refine z_iload_n C (q := 50) 2 dX10_sow_49 rfl rfl ?_
      refine z_imul C (q := 51) dX10_sow_50 rfl ?_
      refine z_iadd C (q := 52) dX10_sow_51 rfl ?_
      refine z_iload_n C (q := 53) 1 dX10_sow_52 rfl rfl ?_
      refine z_iadd C (q := 54) dX10_sow_53 rfl ?_
      refine z_iald C (q := 55) ar_m1 dX10_sow_54 rfl ?_
      exact z_iret C dX10_sow_55
    refine z_ldc C (q := 26) dX10_sow_24 rfl wm_193 ?_
    exact z_iret C dX10_sow_26
  refine z_ldc C (q := 11) dX10_sow_9 rfl wm_524 ?_
  exact z_iret C dX10_sow_11
set_option maxRecDepth 100000 in
set_option maxHeartbeats 4000000 in
theorem m_X10_lead (G : gG) {ad : Nat → Nat} (hap : g_ap LM ad)   (v1 : Int32) (v2 : Int32) (s : gS) : g_M G LM ad yX10_lead cX10_lead 4 (some .int) 2 [.ref (ad 0), .int v1, .int v2] s (f_X10_lead v1 v2 s) := by
  refine g_entry (by decide) hap (Nat.le_of_ble_eq_true rfl) [(0, .ref (ad 0)), (1, .int v1), (2, .int v2)] rfl (fun X C => ?_)
  unfold f_X10_lead
  refine z_aload_n C (q := 1) 0 dX10_lead_0 rfl rfl ?_
  refine z_iload_n C (q := 2) 1 dX10_lead_1 rfl rfl ?_
  refine z_iload_n C (q := 3) 2 dX10_lead_2 rfl rfl ?_
  refine z_callV C (q := 6) [.int v1, .int v2] gl_X10_239 glv_X10_isCell ob_m rfl (m_X10_isCell G (g_Kap C) v1 v2 _) rfl rfl (Nat.le_of_ble_eq_true rfl) ⟨by decide, by decide⟩ dX10_lead_3 rfl (z_ki (fun r2 s1 => ?_))
  refine z_if_ne C (tgt := 12) (q := 9) dX10_lead_6 (by decide) rfl ?_ ?_
  · refine z_aload_n C (q := 13) 0 dX10_lead_12 rfl rfl ?_
    refine z_aload_n C (q := 14) 0 dX10_lead_13 rfl rfl ?_
    refine z_getR C (q := 17) ob_m fF_X10_7 rfl dX10_lead_14 rfl ?_
    refine z_bipush C (q := 19) dX10_lead_17 rfl lt_bipush_80 ?_
    refine z_iald C (q := 20) ar_m1 dX10_lead_19 rfl ?_
    refine z_callV C (q := 23) [.int (s1.1 1 (80 : Int32).toNatClampNeg)] gl_X10_235 glv_X10_named ob_m rfl (m_X10_named G (g_Kap C) (s1.1 1 (80 : Int32).toNatClampNeg) _) rfl rfl (Nat.le_of_ble_eq_true rfl) ⟨by decide, by decide⟩ dX10_lead_20 rfl (z_ki (fun r4 s3 => ?_))
    refine z_istore_n C (q := 24) [(3, .int r4), (0, .ref (ad 0)), (1, .int v1), (2, .int v2)] dX10_lead_23 rfl rfl (by decide) rfl ?_
    refine z_aload_n C (q := 25) 1 dX10_lead_24 rfl rfl ?_
    refine z_getR C (q := 28) ob_m fF_X10_7 rfl dX10_lead_25 rfl ?_
    refine z_bipush C (q := 30) dX10_lead_28 rfl lt_bipush_80 ?_
    refine z_aload_n C (q := 31) 1 dX10_lead_30 rfl rfl ?_
    refine z_getI C (q := 34) ob_m fF_X10_85 rfl dX10_lead_31 rfl ?_
    refine z_iload_n C (q := 35) 3 dX10_lead_34 rfl rfl ?_
    refine z_imul C (q := 36) dX10_lead_35 rfl ?_
    refine z_iload_n C (q := 37) 2 dX10_lead_36 rfl rfl ?_
    refine z_iadd C (q := 38) dX10_lead_37 rfl ?_
    refine z_iast C (q := 39) ar_m1 dX10_lead_38 rfl (fun s5 => ?_)
    refine z_iload_n C (q := 40) 0 dX10_lead_39 rfl rfl ?_
    exact z_iret C dX10_lead_40
  refine z_ldc C (q := 11) dX10_lead_9 rfl wm_524 ?_
  exact z_iret C dX10_lead_11
set_option maxRecDepth 100000 in
set_option maxHeartbeats 4000000 in
theorem m_X10_lick (G : gG) {ad : Nat → Nat} (hap : g_ap LM ad)   (v1 : Int32) (v2 : Int32) (s : gS) : g_M G LM ad yX10_lick cX10_lick 4 (some .int) 2 [.ref (ad 0), .int v1, .int v2] s (f_X10_lick v1 v2 s) := by
  refine g_entry (by decide) hap (Nat.le_of_ble_eq_true rfl) [(0, .ref (ad 0)), (1, .int v1), (2, .int v2)] rfl (fun X C => ?_)
  unfold f_X10_lick
  refine z_aload_n C (q := 1) 0 dX10_lick_0 rfl rfl ?_
  refine z_iload_n C (q := 2) 1 dX10_lick_1 rfl rfl ?_
  refine z_iload_n C (q := 3) 2 dX10_lick_2 rfl rfl ?_
  refine z_callV C (q := 6) [.int v1, .int v2] gl_X10_239 glv_X10_isCell ob_m rfl (m_X10_isCell G (g_Kap C) v1 v2 _) rfl rfl (Nat.le_of_ble_eq_true rfl) ⟨by decide, by decide⟩ dX10_lick_3 rfl (z_ki (fun r2 s1 => ?_))
  refine z_if_ne C (tgt := 12) (q := 9) dX10_lick_6 (by decide) rfl ?_ ?_
  · refine z_aload_n C (q := 13) 0 dX10_lick_12 rfl rfl ?_
    refine z_aload_n C (q := 14) 0 dX10_lick_13 rfl rfl ?_
    refine z_getR C (q := 17) ob_m fF_X10_7 rfl dX10_lick_14 rfl ?_
    refine z_bipush C (q := 19) dX10_lick_17 rfl lt_bipush_82 ?_
    refine z_iald C (q := 20) ar_m1 dX10_lick_19 rfl ?_
    refine z_callV C (q := 23) [.int (s1.1 1 (82 : Int32).toNatClampNeg)] gl_X10_235 glv_X10_named ob_m rfl (m_X10_named G (g_Kap C) (s1.1 1 (82 : Int32).toNatClampNeg) _) rfl rfl (Nat.le_of_ble_eq_true rfl) ⟨by decide, by decide⟩ dX10_lick_20 rfl (z_ki (fun r4 s3 => ?_))
    refine z_istore_n C (q := 24) [(3, .int r4), (0, .ref (ad 0)), (1, .int v1), (2, .int v2)] dX10_lick_23 rfl rfl (by decide) rfl ?_
    refine z_aload_n C (q := 25) 1 dX10_lick_24 rfl rfl ?_
    refine z_getR C (q := 28) ob_m fF_X10_7 rfl dX10_lick_25 rfl ?_
    refine z_bipush C (q := 30) dX10_lick_28 rfl lt_bipush_82 ?_
    refine z_aload_n C (q := 31) 1 dX10_lick_30 rfl rfl ?_
    refine z_getI C (q := 34) ob_m fF_X10_85 rfl dX10_lick_31 rfl ?_
    refine z_iload_n C (q := 35) 3 dX10_lick_34 rfl rfl ?_
    refine z_imul C (q := 36) dX10_lick_35 rfl ?_
    refine z_iload_n C (q := 37) 2 dX10_lick_36 rfl rfl ?_
    refine z_iadd C (q := 38) dX10_lick_37 rfl ?_
    refine z_iast C (q := 39) ar_m1 dX10_lick_38 rfl (fun s5 => ?_)
    refine z_iload_n C (q := 40) 0 dX10_lick_39 rfl rfl ?_
    exact z_iret C dX10_lick_40
  refine z_ldc C (q := 11) dX10_lick_9 rfl wm_524 ?_
  exact z_iret C dX10_lick_11
set_option maxRecDepth 100000 in
set_option maxHeartbeats 4000000 in
theorem l_X10_part_11 {G : gG} {X : gX} {ad : Nat → Nat} (C : g_K G X LM ad cX10_part 10 RX10 none 4)   (v1 : Int32) (v2 : Int32) {k : Int32 → Int32 → gS → gR} (hk : ∀ (v3 : Int32) (v4 : Int32) (s : gS), g_Z G X LM ad 10 41 [(0, .ref (ad 0)), (1, .int v1), (2, .int v2), (3, .int v3)] [] s (k v3 v4 s)) : ∀ (n : Nat) (v3 : Int32) (v4 : Int32) (s : gS), g_Z G X LM ad 10 11 [(0, .ref (ad 0)), (1, .int v1), (2, .int v2), (3, .int v3), (4, .int v4)] [] s (f_X10_part_11 v1 v2 k n v3 v4 s) := by
  intro n
  induction n with
  | zero => intros; exact z_none
  | succ n ih =>
    intro v3 v4 s
    rw [f_X10_part_11.eq_2]
    refine z_iload C (q := 13) 4 dX10_part_11 rfl rfl ?_
    refine z_iconst C (q := 14) dX10_part_13 rfl lt_iconst_5 ?_
    refine z_icmp_ge C (tgt := 41) (q := 17) dX10_part_14 (by decide) rfl ?_ ?_
    · exact z_sub [0, 1, 2, 3] rfl (hk v3 v4 s)
    refine z_aload_n C (q := 18) 0 dX10_part_17 rfl rfl ?_
    refine z_iload_n C (q := 19) 1 dX10_part_18 rfl rfl ?_
    refine z_iload C (q := 21) 4 dX10_part_19 rfl rfl ?_
    refine z_callV C (q := 24) [.int v1, .int v4] gl_X10_242 glv_X10_way ob_m rfl (m_X10_way G (g_Kap C) v1 v4 _) rfl rfl (Nat.le_of_ble_eq_true rfl) ⟨by decide, by decide⟩ dX10_part_21 rfl (z_ki (fun r4 s3 => ?_))
    refine z_iconst C (q := 25) dX10_part_24 rfl lt_iconst_m1 ?_
    refine z_icmp_ne C (tgt := 32) (q := 28) dX10_part_25 (by decide) rfl ?_ ?_
    · refine z_iload C (q := 34) 4 dX10_part_32 rfl rfl ?_
      refine z_istore_n C (q := 35) [(3, .int v4), (0, .ref (ad 0)), (1, .int v1), (2, .int v2), (4, .int v4)] dX10_part_34 rfl rfl (by decide) rfl ?_
      refine z_iinc C (q := 38) 4 [(4, .int (v4 + 1)), (3, .int v4), (0, .ref (ad 0)), (1, .int v1), (2, .int v2)] dX10_part_35 rfl rfl (lt_iinc_1 _) (by decide) rfl ?_
      refine z_goto C (tgt := 11) dX10_part_38 (by decide) ?_
      exact z_sub [2, 3, 4, 1, 0] rfl (ih v4 (v4 + 1) s3)
    refine z_iload_n C (q := 29) 3 dX10_part_28 rfl rfl ?_
    refine z_goto C (tgt := 34) dX10_part_29 (by decide) ?_
    refine z_istore_n C (q := 35) [(3, .int v3), (0, .ref (ad 0)), (1, .int v1), (2, .int v2), (4, .int v4)] dX10_part_34 rfl rfl (by decide) rfl ?_
    refine z_iinc C (q := 38) 4 [(4, .int (v4 + 1)), (3, .int v3), (0, .ref (ad 0)), (1, .int v1), (2, .int v2)] dX10_part_35 rfl rfl (lt_iinc_1 _) (by decide) rfl ?_
    refine z_goto C (tgt := 11) dX10_part_38 (by decide) ?_
    exact z_sub [2, 3, 4, 1, 0] rfl (ih v3 (v4 + 1) s3)
set_option maxRecDepth 100000 in
set_option maxHeartbeats 4000000 in
theorem l_X10_part_52 {G : gG} {X : gX} {ad : Nat → Nat} (C : g_K G X LM ad cX10_part 10 RX10 none 4)   (v1 : Int32) (v2 : Int32) (v3 : Int32) {k : Int64 → Int32 → gS → gR} (hk : ∀ (v4 : Int64) (v6 : Int32) (s : gS), g_Z G X LM ad 10 128 [] [] s (k v4 v6 s)) : ∀ (n : Nat) (v4 : Int64) (v6 : Int32) (s : gS), g_Z G X LM ad 10 52 [(0, .ref (ad 0)), (1, .int v1), (2, .int v2), (3, .int v3), (4, .long v4), (6, .int v6)] [] s (f_X10_part_52 v1 v2 v3 k n v4 v6 s) := by
  intro n
  induction n with
  | zero => intros; exact z_none
  | succ n ih =>
    intro v4 v6 s
    rw [f_X10_part_52.eq_2]
    refine z_iload C (q := 54) 5 dX10_part_52 rfl rfl ?_
    refine z_iconst C (q := 55) dX10_part_54 rfl lt_iconst_5 ?_
    refine z_icmp_ge C (tgt := 128) (q := 58) dX10_part_55 (by decide) rfl ?_ ?_
    · exact z_sub [] rfl (hk v4 v6 s)
    refine z_aload_n C (q := 59) 0 dX10_part_58 rfl rfl ?_
    refine z_iload_n C (q := 60) 1 dX10_part_59 rfl rfl ?_
    refine z_iload C (q := 62) 5 dX10_part_60 rfl rfl ?_
    refine z_callV C (q := 65) [.int v1, .int v6] gl_X10_242 glv_X10_way ob_m rfl (m_X10_way G (g_Kap C) v1 v6 _) rfl rfl (Nat.le_of_ble_eq_true rfl) ⟨by decide, by decide⟩ dX10_part_62 rfl (z_ki (fun r10 s9 => ?_))
    refine z_istore C (q := 67) [(7, .int r10), (0, .ref (ad 0)), (1, .int v1), (2, .int v2), (3, .int v3), (4, .long v4), (6, .int v6)] dX10_part_65 rfl (by decide) rfl ?_
    refine z_iload C (q := 69) 0 dX10_part_67 rfl rfl ?_
    refine z_iconst C (q := 70) dX10_part_69 rfl lt_iconst_m1 ?_
    refine z_icmp_eq C (tgt := 122) (q := 73) dX10_part_70 (by decide) rfl ?_ ?_
    · refine z_iinc C (q := 125) 6 [(6, .int (v6 + 1)), (7, .int r10), (0, .ref (ad 0)), (1, .int v1), (2, .int v2), (3, .int v3), (4, .long v4)] dX10_part_122 rfl rfl (lt_iinc_1 _) (by decide) rfl ?_
      refine z_goto C (tgt := 52) dX10_part_125 (by decide) ?_
      exact z_sub [2, 3, 4, 5, 6, 0] rfl (ih v4 (v6 + 1) s9)
    refine z_iload C (q := 75) 6 dX10_part_73 rfl rfl ?_
    refine z_iload_n C (q := 76) 4 dX10_part_75 rfl rfl ?_
    refine z_icmp_ne C (tgt := 84) (q := 79) dX10_part_76 (by decide) rfl ?_ ?_
    · refine z_aload_n C (q := 85) 1 dX10_part_84 rfl rfl ?_
      refine z_getR C (q := 88) ob_m fF_X10_69 rfl dX10_part_85 rfl ?_
      refine z_iload_n C (q := 89) 2 dX10_part_88 rfl rfl ?_
      refine z_lald C (q := 90) ar_m18 dX10_part_89 rfl ?_
      refine z_aload_n C (q := 91) 1 dX10_part_90 rfl rfl ?_
      refine z_iload C (q := 93) 0 dX10_part_91 rfl rfl ?_
      refine z_callV C (q := 96) [.int r10] gl_X10_246 glv_X10_liking ob_m rfl (m_X10_liking G (g_Kap C) r10 _) rfl rfl (Nat.le_of_ble_eq_true rfl) ⟨by decide, by decide⟩ dX10_part_93 rfl (z_ki (fun r12 s11 => ?_))
      refine z_i2l C (q := 97) dX10_part_96 rfl ?_
      refine z_lmul C (q := 98) dX10_part_97 rfl ?_
      refine z_iload_n C (q := 99) 3 dX10_part_98 rfl rfl ?_
      refine z_i2l C (q := 100) dX10_part_99 rfl ?_
      refine z_ldiv C (q := 101) dX10_part_100 rfl ?_
      refine z_letl (fun v8_13 => ?_)
      refine z_lstore C (q := 103) [(8, .long v8_13), (7, .int r10), (0, .ref (ad 0)), (1, .int v1), (2, .int v2), (3, .int v3), (4, .long v4), (6, .int v6)] dX10_part_101 rfl (by decide) rfl ?_
      refine z_aload_n C (q := 104) 2 dX10_part_103 rfl rfl ?_
      refine z_getR C (q := 107) ob_m fF_X10_73 rfl dX10_part_104 rfl ?_
      refine z_iload C (q := 109) 1 dX10_part_107 rfl rfl ?_
      refine z_dup2_11 C (q := 110) dX10_part_109 rfl rfl rfl ?_
      refine z_lald C (q := 111) ar_m19 dX10_part_110 rfl ?_
      refine z_lload C (q := 113) 0 dX10_part_111 rfl rfl ?_
      refine z_ladd C (q := 114) dX10_part_113 rfl ?_
      refine z_last C (q := 115) ar_m19 dX10_part_114 rfl (fun s14 => ?_)
      refine z_lload C (q := 117) 6 dX10_part_115 rfl rfl ?_
      refine z_lload C (q := 119) 0 dX10_part_117 rfl rfl ?_
      refine z_lsub C (q := 120) dX10_part_119 rfl ?_
      refine z_letl (fun v4_15 => ?_)
      refine z_lstore C (q := 122) [(4, .long v4_15), (8, .long v8_13), (7, .int r10), (0, .ref (ad 0)), (1, .int v1), (2, .int v2), (3, .int v3), (6, .int v6)] dX10_part_120 rfl (by decide) rfl ?_
      refine z_iinc C (q := 125) 7 [(6, .int (v6 + 1)), (4, .long v4_15), (8, .long v8_13), (7, .int r10), (0, .ref (ad 0)), (1, .int v1), (2, .int v2), (3, .int v3)] dX10_part_122 rfl rfl (lt_iinc_1 _) (by decide) rfl ?_
      refine z_goto C (tgt := 52) dX10_part_125 (by decide) ?_
      exact z_sub [4, 5, 6, 7, 1, 0] rfl (ih v4_15 (v6 + 1) s14)
    refine z_lload C (q := 81) 5 dX10_part_79 rfl rfl ?_
    refine z_goto C (tgt := 101) dX10_part_81 (by decide) ?_
    refine z_lstore C (q := 103) [(8, .long v4), (7, .int r10), (0, .ref (ad 0)), (1, .int v1), (2, .int v2), (3, .int v3), (4, .long v4), (6, .int v6)] dX10_part_101 rfl (by decide) rfl ?_
    refine z_aload_n C (q := 104) 2 dX10_part_103 rfl rfl ?_
    refine z_getR C (q := 107) ob_m fF_X10_73 rfl dX10_part_104 rfl ?_
    refine z_iload C (q := 109) 1 dX10_part_107 rfl rfl ?_
    refine z_dup2_11 C (q := 110) dX10_part_109 rfl rfl rfl ?_
    refine z_lald C (q := 111) ar_m19 dX10_part_110 rfl ?_
    refine z_lload C (q := 113) 0 dX10_part_111 rfl rfl ?_
    refine z_ladd C (q := 114) dX10_part_113 rfl ?_
    refine z_last C (q := 115) ar_m19 dX10_part_114 rfl (fun s16 => ?_)
    refine z_lload C (q := 117) 6 dX10_part_115 rfl rfl ?_
    refine z_lload C (q := 119) 0 dX10_part_117 rfl rfl ?_
    refine z_lsub C (q := 120) dX10_part_119 rfl ?_
    refine z_letl (fun v4_17 => ?_)
    refine z_lstore C (q := 122) [(4, .long v4_17), (8, .long v4), (7, .int r10), (0, .ref (ad 0)), (1, .int v1), (2, .int v2), (3, .int v3), (6, .int v6)] dX10_part_120 rfl (by decide) rfl ?_
    refine z_iinc C (q := 125) 7 [(6, .int (v6 + 1)), (4, .long v4_17), (8, .long v4), (7, .int r10), (0, .ref (ad 0)), (1, .int v1), (2, .int v2), (3, .int v3)] dX10_part_122 rfl rfl (lt_iinc_1 _) (by decide) rfl ?_
    refine z_goto C (tgt := 52) dX10_part_125 (by decide) ?_
    exact z_sub [4, 5, 6, 7, 1, 0] rfl (ih v4_17 (v6 + 1) s16)
set_option maxRecDepth 100000 in
set_option maxHeartbeats 4000000 in
theorem m_X10_part (G : gG) {ad : Nat → Nat} (hap : g_ap LM ad)   (v1 : Int32) (s : gS) : g_M G LM ad yX10_part cX10_part 10 none 4 [.ref (ad 0), .int v1] s (f_X10_part v1 s) := by
  refine g_entry (by decide) hap (Nat.le_of_ble_eq_true rfl) [(0, .ref (ad 0)), (1, .int v1)] rfl (fun X C => ?_)
  unfold f_X10_part
  refine z_aload_n C (q := 1) 0 dX10_part_0 rfl rfl ?_
  refine z_iload_n C (q := 2) 1 dX10_part_1 rfl rfl ?_
  refine z_callV C (q := 5) [.int v1] gl_X10_266 glv_X10_likings ob_m rfl (m_X10_likings G (g_Kap C) v1 _) rfl rfl (Nat.le_of_ble_eq_true rfl) ⟨by decide, by decide⟩ dX10_part_2 rfl (z_ki (fun r2 s1 => ?_))
  refine z_istore_n C (q := 6) [(2, .int r2), (0, .ref (ad 0)), (1, .int v1)] dX10_part_5 rfl rfl (by decide) rfl ?_
  refine z_iconst C (q := 7) dX10_part_6 rfl lt_iconst_0 ?_
  refine z_istore_n C (q := 8) [(3, .int (0 : Int32)), (2, .int r2), (0, .ref (ad 0)), (1, .int v1)] dX10_part_7 rfl rfl (by decide) rfl ?_
  refine z_iconst C (q := 9) dX10_part_8 rfl lt_iconst_0 ?_
  refine z_istore C (q := 11) [(4, .int (0 : Int32)), (3, .int (0 : Int32)), (2, .int r2), (0, .ref (ad 0)), (1, .int v1)] dX10_part_9 rfl (by decide) rfl ?_
  refine z_sub [3, 4, 2, 1, 0] rfl (l_X10_part_11 C v1 r2 (fun v3_5 v4_6 s7 => ?_) g_N (0 : Int32) (0 : Int32) s1)
  refine z_aload_n C (q := 42) 0 dX10_part_41 rfl rfl ?_
  refine z_getR C (q := 45) ob_m fF_X10_69 rfl dX10_part_42 rfl ?_
  refine z_iload_n C (q := 46) 1 dX10_part_45 rfl rfl ?_
  refine z_lald C (q := 47) ar_m18 dX10_part_46 rfl ?_
  refine z_letl (fun v4_8 => ?_)
  refine z_lstore C (q := 49) [(4, .long v4_8), (0, .ref (ad 0)), (1, .int v1), (2, .int r2), (3, .int v3_5)] dX10_part_47 rfl (by decide) rfl ?_
  refine z_iconst C (q := 50) dX10_part_49 rfl lt_iconst_0 ?_
  refine z_istore C (q := 52) [(6, .int (0 : Int32)), (4, .long v4_8), (0, .ref (ad 0)), (1, .int v1), (2, .int r2), (3, .int v3_5)] dX10_part_50 rfl (by decide) rfl ?_
  refine z_sub [2, 3, 4, 5, 1, 0] rfl (l_X10_part_52 C v1 r2 v3_5 (fun v4_18 v6_19 s20 => ?_) g_N v4_8 (0 : Int32) s7)
  exact z_vret C dX10_part_128
set_option maxRecDepth 100000 in
set_option maxHeartbeats 4000000 in
theorem l_X10_startOdds_2 {G : gG} {X : gX} {ad : Nat → Nat} (C : g_K G X LM ad cX10_startOdds 2 RX10 none 0)    {k : Int32 → gS → gR} (hk : ∀ (v1 : Int32) (s : gS), g_Z G X LM ad 2 38 [] [] s (k v1 s)) : ∀ (n : Nat) (v1 : Int32) (s : gS), g_Z G X LM ad 2 2 [(0, .ref (ad 0)), (1, .int v1)] [] s (f_X10_startOdds_2  k n v1 s) := by
  intro n
  induction n with
  | zero => intros; exact z_none
  | succ n ih =>
    intro v1 s
    rw [f_X10_startOdds_2.eq_2]
    refine z_iload_n C (q := 3) 1 dX10_startOdds_2 rfl rfl ?_
    refine z_bipush C (q := 5) dX10_startOdds_3 rfl lt_bipush_40 ?_
    refine z_icmp_ge C (tgt := 38) (q := 8) dX10_startOdds_5 (by decide) rfl ?_ ?_
    · exact z_sub [] rfl (hk v1 s)
    refine z_aload_n C (q := 9) 0 dX10_startOdds_8 rfl rfl ?_
    refine z_getR C (q := 12) ob_m fF_X10_69 rfl dX10_startOdds_9 rfl ?_
    refine z_iload_n C (q := 13) 1 dX10_startOdds_12 rfl rfl ?_
    refine z_iload_n C (q := 14) 1 dX10_startOdds_13 rfl rfl ?_
    refine z_aload_n C (q := 15) 0 dX10_startOdds_14 rfl rfl ?_
    refine z_getR C (q := 18) ob_m fF_X10_7 rfl dX10_startOdds_15 rfl ?_
    refine z_bipush C (q := 20) dX10_startOdds_18 rfl lt_bipush_80 ?_
    refine z_iald C (q := 21) ar_m1 dX10_startOdds_20 rfl ?_
    refine z_icmp_ne C (tgt := 30) (q := 24) dX10_startOdds_21 (by decide) rfl ?_ ?_
    · refine z_lconst C (q := 31) (v := 0) dX10_startOdds_30 rfl rfl ?_
      refine z_last C (q := 32) ar_m18 dX10_startOdds_31 rfl (fun s1 => ?_)
      refine z_iinc C (q := 35) 1 [(1, .int (v1 + 1)), (0, .ref (ad 0))] dX10_startOdds_32 rfl rfl (lt_iinc_1 _) (by decide) rfl ?_
      refine z_goto C (tgt := 2) dX10_startOdds_35 (by decide) ?_
      exact z_sub [1, 0] rfl (ih (v1 + 1) s1)
    refine z_ldc2 C (q := 27) dX10_startOdds_24 rfl wm_720 ?_
    refine z_goto C (tgt := 31) dX10_startOdds_27 (by decide) ?_
    refine z_last C (q := 32) ar_m18 dX10_startOdds_31 rfl (fun s2 => ?_)
    refine z_iinc C (q := 35) 1 [(1, .int (v1 + 1)), (0, .ref (ad 0))] dX10_startOdds_32 rfl rfl (lt_iinc_1 _) (by decide) rfl ?_
    refine z_goto C (tgt := 2) dX10_startOdds_35 (by decide) ?_
    exact z_sub [1, 0] rfl (ih (v1 + 1) s2)
set_option maxRecDepth 100000 in
set_option maxHeartbeats 4000000 in
theorem m_X10_startOdds (G : gG) {ad : Nat → Nat} (hap : g_ap LM ad)    (s : gS) : g_M G LM ad yX10_startOdds cX10_startOdds 2 none 0 [.ref (ad 0)] s (f_X10_startOdds s) := by
  refine g_entry (by decide) hap (Nat.le_of_ble_eq_true rfl) [(0, .ref (ad 0))] rfl (fun X C => ?_)
  unfold f_X10_startOdds
  refine z_iconst C (q := 1) dX10_startOdds_0 rfl lt_iconst_0 ?_
  refine z_istore_n C (q := 2) [(1, .int (0 : Int32)), (0, .ref (ad 0))] dX10_startOdds_1 rfl rfl (by decide) rfl ?_
  refine z_sub [1, 0] rfl (l_X10_startOdds_2 C  (fun v1_3 s4 => ?_) g_N (0 : Int32) s)
  exact z_vret C dX10_startOdds_38
set_option maxRecDepth 100000 in
set_option maxHeartbeats 4000000 in
theorem l_X10_goOdds_2 {G : gG} {X : gX} {ad : Nat → Nat} (C : g_K G X LM ad cX10_goOdds 2 RX10 none 5)    {k : Int32 → gS → gR} (hk : ∀ (v1 : Int32) (s : gS), g_Z G X LM ad 2 21 [(0, .ref (ad 0))] [] s (k v1 s)) : ∀ (n : Nat) (v1 : Int32) (s : gS), g_Z G X LM ad 2 2 [(0, .ref (ad 0)), (1, .int v1)] [] s (f_X10_goOdds_2  k n v1 s) := by
  intro n
  induction n with
  | zero => intros; exact z_none
  | succ n ih =>
    intro v1 s
    rw [f_X10_goOdds_2.eq_2]
    refine z_iload_n C (q := 3) 1 dX10_goOdds_2 rfl rfl ?_
    refine z_bipush C (q := 5) dX10_goOdds_3 rfl lt_bipush_40 ?_
    refine z_icmp_ge C (tgt := 21) (q := 8) dX10_goOdds_5 (by decide) rfl ?_ ?_
    · exact z_sub [0] rfl (hk v1 s)
    refine z_aload_n C (q := 9) 0 dX10_goOdds_8 rfl rfl ?_
    refine z_getR C (q := 12) ob_m fF_X10_73 rfl dX10_goOdds_9 rfl ?_
    refine z_iload_n C (q := 13) 1 dX10_goOdds_12 rfl rfl ?_
    refine z_lconst C (q := 14) (v := 0) dX10_goOdds_13 rfl rfl ?_
    refine z_last C (q := 15) ar_m19 dX10_goOdds_14 rfl (fun s1 => ?_)
    refine z_iinc C (q := 18) 1 [(1, .int (v1 + 1)), (0, .ref (ad 0))] dX10_goOdds_15 rfl rfl (lt_iinc_1 _) (by decide) rfl ?_
    refine z_goto C (tgt := 2) dX10_goOdds_18 (by decide) ?_
    exact z_sub [1, 0] rfl (ih (v1 + 1) s1)
set_option maxRecDepth 100000 in
set_option maxHeartbeats 4000000 in
theorem l_X10_goOdds_23 {G : gG} {X : gX} {ad : Nat → Nat} (C : g_K G X LM ad cX10_goOdds 2 RX10 none 5)    {k : Int32 → gS → gR} (hk : ∀ (v1 : Int32) (s : gS), g_Z G X LM ad 2 42 [(0, .ref (ad 0))] [] s (k v1 s)) : ∀ (n : Nat) (v1 : Int32) (s : gS), g_Z G X LM ad 2 23 [(0, .ref (ad 0)), (1, .int v1)] [] s (f_X10_goOdds_23  k n v1 s) := by
  intro n
  induction n with
  | zero => intros; exact z_none
  | succ n ih =>
    intro v1 s
    rw [f_X10_goOdds_23.eq_2]
    refine z_iload_n C (q := 24) 1 dX10_goOdds_23 rfl rfl ?_
    refine z_aload_n C (q := 25) 0 dX10_goOdds_24 rfl rfl ?_
    refine z_callV C (q := 28) [] gl_X10_225 glv_X10_cells ob_m rfl (m_X10_cells G (g_Kap C)  _) rfl rfl (Nat.le_of_ble_eq_true rfl) ⟨by decide, by decide⟩ dX10_goOdds_25 rfl (z_ki (fun r5 s4 => ?_))
    refine z_icmp_ge C (tgt := 42) (q := 31) dX10_goOdds_28 (by decide) rfl ?_ ?_
    · exact z_sub [0] rfl (hk v1 s4)
    refine z_aload_n C (q := 32) 0 dX10_goOdds_31 rfl rfl ?_
    refine z_iload_n C (q := 33) 1 dX10_goOdds_32 rfl rfl ?_
    refine z_callV C (q := 36) [.int v1] gl_X10_286 glv_X10_part ob_m rfl (m_X10_part G (g_Kap C) v1 _) rfl rfl (Nat.le_of_ble_eq_true rfl) ⟨by decide, by decide⟩ dX10_goOdds_33 rfl (z_kv (fun s6 => ?_))
    refine z_iinc C (q := 39) 1 [(1, .int (v1 + 1)), (0, .ref (ad 0))] dX10_goOdds_36 rfl rfl (lt_iinc_1 _) (by decide) rfl ?_
    refine z_goto C (tgt := 23) dX10_goOdds_39 (by decide) ?_
    exact z_sub [1, 0] rfl (ih (v1 + 1) s6)
set_option maxRecDepth 100000 in
set_option maxHeartbeats 4000000 in
theorem l_X10_goOdds_44 {G : gG} {X : gX} {ad : Nat → Nat} (C : g_K G X LM ad cX10_goOdds 2 RX10 none 5)    {k : Int32 → gS → gR} (hk : ∀ (v1 : Int32) (s : gS), g_Z G X LM ad 2 68 [] [] s (k v1 s)) : ∀ (n : Nat) (v1 : Int32) (s : gS), g_Z G X LM ad 2 44 [(0, .ref (ad 0)), (1, .int v1)] [] s (f_X10_goOdds_44  k n v1 s) := by
  intro n
  induction n with
  | zero => intros; exact z_none
  | succ n ih =>
    intro v1 s
    rw [f_X10_goOdds_44.eq_2]
    refine z_iload_n C (q := 45) 1 dX10_goOdds_44 rfl rfl ?_
    refine z_bipush C (q := 47) dX10_goOdds_45 rfl lt_bipush_40 ?_
    refine z_icmp_ge C (tgt := 68) (q := 50) dX10_goOdds_47 (by decide) rfl ?_ ?_
    · exact z_sub [] rfl (hk v1 s)
    refine z_aload_n C (q := 51) 0 dX10_goOdds_50 rfl rfl ?_
    refine z_getR C (q := 54) ob_m fF_X10_69 rfl dX10_goOdds_51 rfl ?_
    refine z_iload_n C (q := 55) 1 dX10_goOdds_54 rfl rfl ?_
    refine z_aload_n C (q := 56) 0 dX10_goOdds_55 rfl rfl ?_
    refine z_getR C (q := 59) ob_m fF_X10_73 rfl dX10_goOdds_56 rfl ?_
    refine z_iload_n C (q := 60) 1 dX10_goOdds_59 rfl rfl ?_
    refine z_lald C (q := 61) ar_m19 dX10_goOdds_60 rfl ?_
    refine z_last C (q := 62) ar_m18 dX10_goOdds_61 rfl (fun s9 => ?_)
    refine z_iinc C (q := 65) 1 [(1, .int (v1 + 1)), (0, .ref (ad 0))] dX10_goOdds_62 rfl rfl (lt_iinc_1 _) (by decide) rfl ?_
    refine z_goto C (tgt := 44) dX10_goOdds_65 (by decide) ?_
    exact z_sub [1, 0] rfl (ih (v1 + 1) s9)
set_option maxRecDepth 100000 in
set_option maxHeartbeats 4000000 in
theorem m_X10_goOdds (G : gG) {ad : Nat → Nat} (hap : g_ap LM ad)    (s : gS) : g_M G LM ad yX10_goOdds cX10_goOdds 2 none 5 [.ref (ad 0)] s (f_X10_goOdds s) := by
  refine g_entry (by decide) hap (Nat.le_of_ble_eq_true rfl) [(0, .ref (ad 0))] rfl (fun X C => ?_)
  unfold f_X10_goOdds
  refine z_iconst C (q := 1) dX10_goOdds_0 rfl lt_iconst_0 ?_
  refine z_istore_n C (q := 2) [(1, .int (0 : Int32)), (0, .ref (ad 0))] dX10_goOdds_1 rfl rfl (by decide) rfl ?_
  refine z_sub [1, 0] rfl (l_X10_goOdds_2 C  (fun v1_2 s3 => ?_) g_N (0 : Int32) s)
  refine z_iconst C (q := 22) dX10_goOdds_21 rfl lt_iconst_0 ?_
  refine z_istore_n C (q := 23) [(1, .int (0 : Int32)), (0, .ref (ad 0))] dX10_goOdds_22 rfl rfl (by decide) rfl ?_
  refine z_sub [1, 0] rfl (l_X10_goOdds_23 C  (fun v1_7 s8 => ?_) g_N (0 : Int32) s3)
  refine z_iconst C (q := 43) dX10_goOdds_42 rfl lt_iconst_0 ?_
  refine z_istore_n C (q := 44) [(1, .int (0 : Int32)), (0, .ref (ad 0))] dX10_goOdds_43 rfl rfl (by decide) rfl ?_
  refine z_sub [1, 0] rfl (l_X10_goOdds_44 C  (fun v1_10 s11 => ?_) g_N (0 : Int32) s8)
  exact z_vret C dX10_goOdds_68
set_option maxRecDepth 100000 in
set_option maxHeartbeats 4000000 in
theorem l_X10_findOdds_6 {G : gG} {X : gX} {ad : Nat → Nat} (C : g_K G X LM ad cX10_findOdds 3 RX10 none 6)   (v1 : Int32) {k : Int32 → gS → gR} (hk : ∀ (v2 : Int32) (s : gS), g_Z G X LM ad 3 21 [] [] s (k v2 s)) : ∀ (n : Nat) (v2 : Int32) (s : gS), g_Z G X LM ad 3 6 [(0, .ref (ad 0)), (1, .int v1), (2, .int v2)] [] s (f_X10_findOdds_6 v1 k n v2 s) := by
  intro n
  induction n with
  | zero => intros; exact z_none
  | succ n ih =>
    intro v2 s
    rw [f_X10_findOdds_6.eq_2]
    refine z_iload_n C (q := 7) 2 dX10_findOdds_6 rfl rfl ?_
    refine z_iload_n C (q := 8) 1 dX10_findOdds_7 rfl rfl ?_
    refine z_icmp_ge C (tgt := 21) (q := 11) dX10_findOdds_8 (by decide) rfl ?_ ?_
    · exact z_sub [] rfl (hk v2 s)
    refine z_aload_n C (q := 12) 0 dX10_findOdds_11 rfl rfl ?_
    refine z_callV C (q := 15) [] gl_X10_292 glv_X10_goOdds ob_m rfl (m_X10_goOdds G (g_Kap C)  _) rfl rfl (Nat.le_of_ble_eq_true rfl) ⟨by decide, by decide⟩ dX10_findOdds_12 rfl (z_kv (fun s2 => ?_))
    refine z_iinc C (q := 18) 2 [(2, .int (v2 + 1)), (0, .ref (ad 0)), (1, .int v1)] dX10_findOdds_15 rfl rfl (lt_iinc_1 _) (by decide) rfl ?_
    refine z_goto C (tgt := 6) dX10_findOdds_18 (by decide) ?_
    exact z_sub [1, 2, 0] rfl (ih (v2 + 1) s2)
set_option maxRecDepth 100000 in
set_option maxHeartbeats 4000000 in
theorem m_X10_findOdds (G : gG) {ad : Nat → Nat} (hap : g_ap LM ad)   (v1 : Int32) (s : gS) : g_M G LM ad yX10_findOdds cX10_findOdds 3 none 6 [.ref (ad 0), .int v1] s (f_X10_findOdds v1 s) := by
  refine g_entry (by decide) hap (Nat.le_of_ble_eq_true rfl) [(0, .ref (ad 0)), (1, .int v1)] rfl (fun X C => ?_)
  unfold f_X10_findOdds
  refine z_aload_n C (q := 1) 0 dX10_findOdds_0 rfl rfl ?_
  refine z_callV C (q := 4) [] gl_X10_289 glv_X10_startOdds ob_m rfl (m_X10_startOdds G (g_Kap C)  _) rfl rfl (Nat.le_of_ble_eq_true rfl) ⟨by decide, by decide⟩ dX10_findOdds_1 rfl (z_kv (fun s1 => ?_))
  refine z_iconst C (q := 5) dX10_findOdds_4 rfl lt_iconst_0 ?_
  refine z_istore_n C (q := 6) [(2, .int (0 : Int32)), (0, .ref (ad 0)), (1, .int v1)] dX10_findOdds_5 rfl rfl (by decide) rfl ?_
  refine z_sub [1, 2, 0] rfl (l_X10_findOdds_6 C v1 (fun v2_3 s4 => ?_) g_N (0 : Int32) s1)
  exact z_vret C dX10_findOdds_21
set_option maxRecDepth 100000 in
set_option maxHeartbeats 4000000 in
theorem m_X10_odds (G : gG) {ad : Nat → Nat} (hap : g_ap LM ad)   (v1 : Int32) (v2 : Int32) (v3 : Int32) (s : gS) : g_M G LM ad yX10_odds cX10_odds 4 (some .int) 7 [.ref (ad 0), .int v1, .int v2, .int v3] s (f_X10_odds v1 v2 v3 s) := by
  refine g_entry (by decide) hap (Nat.le_of_ble_eq_true rfl) [(0, .ref (ad 0)), (1, .int v1), (2, .int v2), (3, .int v3)] rfl (fun X C => ?_)
  unfold f_X10_odds
  refine z_aload_n C (q := 1) 0 dX10_odds_0 rfl rfl ?_
  refine z_iload_n C (q := 2) 1 dX10_odds_1 rfl rfl ?_
  refine z_iload_n C (q := 3) 2 dX10_odds_2 rfl rfl ?_
  refine z_callV C (q := 6) [.int v1, .int v2] gl_X10_239 glv_X10_isCell ob_m rfl (m_X10_isCell G (g_Kap C) v1 v2 _) rfl rfl (Nat.le_of_ble_eq_true rfl) ⟨by decide, by decide⟩ dX10_odds_3 rfl (z_ki (fun r2 s1 => ?_))
  refine z_if_ne C (tgt := 12) (q := 9) dX10_odds_6 (by decide) rfl ?_ ?_
  · refine z_iload_n C (q := 13) 3 dX10_odds_12 rfl rfl ?_
    refine z_i2l C (q := 14) dX10_odds_13 rfl ?_
    refine z_lconst C (q := 15) (v := 0) dX10_odds_14 rfl rfl ?_
    refine z_ldc2 C (q := 18) dX10_odds_15 rfl wm_711 ?_
    refine z_callS C (q := 21) [.long (v3.toInt64), .long (0 : Int64), .long (12 : Int64)] gl_X10_91 wm_198 (m_X10_in G (g_Kap C) (v3.toInt64) (0 : Int64) (12 : Int64) _) rfl rfl (Nat.le_of_ble_eq_true rfl) ⟨by decide, by decide⟩ dX10_odds_18 rfl (z_ki (fun r4 s3 => ?_))
    refine z_if_ne C (tgt := 27) (q := 24) dX10_odds_21 (by decide) rfl ?_ ?_
    · refine z_aload_n C (q := 28) 0 dX10_odds_27 rfl rfl ?_
      refine z_iload_n C (q := 29) 3 dX10_odds_28 rfl rfl ?_
      refine z_callV C (q := 32) [.int v3] gl_X10_297 glv_X10_findOdds ob_m rfl (m_X10_findOdds G (g_Kap C) v3 _) rfl rfl (Nat.le_of_ble_eq_true rfl) ⟨by decide, by decide⟩ dX10_odds_29 rfl (z_kv (fun s5 => ?_))
      refine z_aload_n C (q := 33) 0 dX10_odds_32 rfl rfl ?_
      refine z_getR C (q := 36) ob_m fF_X10_69 rfl dX10_odds_33 rfl ?_
      refine z_aload_n C (q := 37) 0 dX10_odds_36 rfl rfl ?_
      refine z_getI C (q := 40) ob_m fF_X10_85 rfl dX10_odds_37 rfl ?_
      refine z_iload_n C (q := 41) 2 dX10_odds_40 rfl rfl ?_
      refine z_imul C (q := 42) dX10_odds_41 rfl ?_
      refine z_iload_n C (q := 43) 1 dX10_odds_42 rfl rfl ?_
      refine z_iadd C (q := 44) dX10_odds_43 rfl ?_
      refine z_lald C (q := 45) ar_m18 dX10_odds_44 rfl ?_
      refine z_l2i C (q := 46) dX10_odds_45 rfl ?_
      exact z_iret C dX10_odds_46
    refine z_ldc C (q := 26) dX10_odds_24 rfl wm_193 ?_
    exact z_iret C dX10_odds_26
  refine z_ldc C (q := 11) dX10_odds_9 rfl wm_524 ?_
  exact z_iret C dX10_odds_11
set_option maxRecDepth 100000 in
set_option maxHeartbeats 4000000 in
theorem l_X10_meanOf_13 {G : gG} {X : gX} {ad : Nat → Nat} (C : g_K G X LM ad cX10_meanOf 5 RX10 (some .int) 7)   (v1 : Int32) {k : Int64 → Int32 → gS → gR} (hk : ∀ (v2 : Int64) (v4 : Int32) (s : gS), g_Z G X LM ad 5 47 [(2, .long v2)] [] s (k v2 v4 s)) : ∀ (n : Nat) (v2 : Int64) (v4 : Int32) (s : gS), g_Z G X LM ad 5 13 [(0, .ref (ad 0)), (1, .int v1), (2, .long v2), (4, .int v4)] [] s (f_X10_meanOf_13 v1 k n v2 v4 s) := by
  intro n
  induction n with
  | zero => intros; exact z_none
  | succ n ih =>
    intro v2 v4 s
    rw [f_X10_meanOf_13.eq_2]
    refine z_iload C (q := 15) 3 dX10_meanOf_13 rfl rfl ?_
    refine z_aload_n C (q := 16) 0 dX10_meanOf_15 rfl rfl ?_
    refine z_callV C (q := 19) [] gl_X10_225 glv_X10_cells ob_m rfl (m_X10_cells G (g_Kap C)  _) rfl rfl (Nat.le_of_ble_eq_true rfl) ⟨by decide, by decide⟩ dX10_meanOf_16 rfl (z_ki (fun r3 s2 => ?_))
    refine z_icmp_ge C (tgt := 47) (q := 22) dX10_meanOf_19 (by decide) rfl ?_ ?_
    · exact z_sub [2] rfl (hk v2 v4 s2)
    refine z_lload_n C (q := 23) 2 dX10_meanOf_22 rfl rfl ?_
    refine z_aload_n C (q := 24) 0 dX10_meanOf_23 rfl rfl ?_
    refine z_iload_n C (q := 25) 1 dX10_meanOf_24 rfl rfl ?_
    refine z_iload C (q := 27) 3 dX10_meanOf_25 rfl rfl ?_
    refine z_callV C (q := 30) [.int v1, .int v4] gl_X10_256 glv_X10_tithesOf ob_m rfl (m_X10_tithesOf G (g_Kap C) v1 v4 _) rfl rfl (Nat.le_of_ble_eq_true rfl) ⟨by decide, by decide⟩ dX10_meanOf_27 rfl (z_ki (fun r5 s4 => ?_))
    refine z_i2l C (q := 31) dX10_meanOf_30 rfl ?_
    refine z_aload_n C (q := 32) 0 dX10_meanOf_31 rfl rfl ?_
    refine z_getR C (q := 35) ob_m fF_X10_69 rfl dX10_meanOf_32 rfl ?_
    refine z_iload C (q := 37) 3 dX10_meanOf_35 rfl rfl ?_
    refine z_lald C (q := 38) ar_m18 dX10_meanOf_37 rfl ?_
    refine z_lmul C (q := 39) dX10_meanOf_38 rfl ?_
    refine z_ladd C (q := 40) dX10_meanOf_39 rfl ?_
    refine z_letl (fun v2_6 => ?_)
    refine z_lstore_n C (q := 41) [(2, .long v2_6), (0, .ref (ad 0)), (1, .int v1), (4, .int v4)] dX10_meanOf_40 rfl rfl (by decide) rfl ?_
    refine z_iinc C (q := 44) 3 [(4, .int (v4 + 1)), (2, .long v2_6), (0, .ref (ad 0)), (1, .int v1)] dX10_meanOf_41 rfl rfl (lt_iinc_1 _) (by decide) rfl ?_
    refine z_goto C (tgt := 13) dX10_meanOf_44 (by decide) ?_
    exact z_sub [2, 3, 1, 0] rfl (ih v2_6 (v4 + 1) s4)
set_option maxRecDepth 100000 in
set_option maxHeartbeats 4000000 in
theorem m_X10_meanOf (G : gG) {ad : Nat → Nat} (hap : g_ap LM ad)   (v1 : Int32) (s : gS) : g_M G LM ad yX10_meanOf cX10_meanOf 5 (some .int) 7 [.ref (ad 0), .int v1] s (f_X10_meanOf v1 s) := by
  refine g_entry (by decide) hap (Nat.le_of_ble_eq_true rfl) [(0, .ref (ad 0)), (1, .int v1)] rfl (fun X C => ?_)
  unfold f_X10_meanOf
  refine z_aload_n C (q := 1) 0 dX10_meanOf_0 rfl rfl ?_
  refine z_aload_n C (q := 2) 0 dX10_meanOf_1 rfl rfl ?_
  refine z_getI C (q := 5) ob_m fF_X10_26 rfl dX10_meanOf_2 rfl ?_
  refine z_callV C (q := 8) [.int (s.1 0 7)] gl_X10_297 glv_X10_findOdds ob_m rfl (m_X10_findOdds G (g_Kap C) (s.1 0 7) _) rfl rfl (Nat.le_of_ble_eq_true rfl) ⟨by decide, by decide⟩ dX10_meanOf_5 rfl (z_kv (fun s1 => ?_))
  refine z_lconst C (q := 9) (v := 0) dX10_meanOf_8 rfl rfl ?_
  refine z_lstore_n C (q := 10) [(2, .long (0 : Int64)), (0, .ref (ad 0)), (1, .int v1)] dX10_meanOf_9 rfl rfl (by decide) rfl ?_
  refine z_iconst C (q := 11) dX10_meanOf_10 rfl lt_iconst_0 ?_
  refine z_istore C (q := 13) [(4, .int (0 : Int32)), (2, .long (0 : Int64)), (0, .ref (ad 0)), (1, .int v1)] dX10_meanOf_11 rfl (by decide) rfl ?_
  refine z_sub [2, 3, 1, 0] rfl (l_X10_meanOf_13 C v1 (fun v2_7 v4_8 s9 => ?_) g_N (0 : Int64) (0 : Int32) s1)
  refine z_lload_n C (q := 48) 0 dX10_meanOf_47 rfl rfl ?_
  refine z_ldc2 C (q := 51) dX10_meanOf_48 rfl wm_720 ?_
  refine z_ldivK C (q := 52) (by decide) dX10_meanOf_51 rfl ?_
  refine z_l2i C (q := 53) dX10_meanOf_52 rfl ?_
  exact z_iret C dX10_meanOf_53
set_option maxRecDepth 100000 in
set_option maxHeartbeats 4000000 in
theorem m_X10_mean (G : gG) {ad : Nat → Nat} (hap : g_ap LM ad)   (v1 : Int32) (s : gS) : g_M G LM ad yX10_mean cX10_mean 2 (some .int) 8 [.ref (ad 0), .int v1] s (f_X10_mean v1 s) := by
  refine g_entry (by decide) hap (Nat.le_of_ble_eq_true rfl) [(0, .ref (ad 0)), (1, .int v1)] rfl (fun X C => ?_)
  unfold f_X10_mean
  refine z_iload_n C (q := 1) 1 dX10_mean_0 rfl rfl ?_
  refine z_callS C (q := 4) [.int v1] gl_X10_253 wm_553 (m_X10_isParish G (g_Kap C) v1 _) rfl rfl (Nat.le_of_ble_eq_true rfl) ⟨by decide, by decide⟩ dX10_mean_1 rfl (z_ki (fun r2 s1 => ?_))
  refine z_if_ne C (tgt := 12) (q := 7) dX10_mean_4 (by decide) rfl ?_ ?_
  · refine z_aload_n C (q := 13) 0 dX10_mean_12 rfl rfl ?_
    refine z_callV C (q := 16) [] gl_X10_225 glv_X10_cells ob_m rfl (m_X10_cells G (g_Kap C)  _) rfl rfl (Nat.le_of_ble_eq_true rfl) ⟨by decide, by decide⟩ dX10_mean_13 rfl (z_ki (fun r4 s3 => ?_))
    refine z_if_ne C (tgt := 25) (q := 19) dX10_mean_16 (by decide) rfl ?_ ?_
    · refine z_aload_n C (q := 26) 0 dX10_mean_25 rfl rfl ?_
      refine z_iload_n C (q := 27) 1 dX10_mean_26 rfl rfl ?_
      refine z_callV C (q := 30) [.int v1] gl_X10_300 glv_X10_meanOf ob_m rfl (m_X10_meanOf G (g_Kap C) v1 _) rfl rfl (Nat.le_of_ble_eq_true rfl) ⟨by decide, by decide⟩ dX10_mean_27 rfl (z_ki (fun r6 s5 => ?_))
      exact z_iret C dX10_mean_30
    refine z_ldcw C (q := 22) dX10_mean_19 rfl wm_605 ?_
    refine z_goto C (tgt := 30) dX10_mean_22 (by decide) ?_
    exact z_iret C dX10_mean_30
  refine z_ldc C (q := 9) dX10_mean_7 rfl wm_524 ?_
  refine z_goto C (tgt := 30) dX10_mean_9 (by decide) ?_
  exact z_iret C dX10_mean_30
set_option maxRecDepth 100000 in
set_option maxHeartbeats 4000000 in
theorem l_X10_keepGrass_2 {G : gG} {X : gX} {ad : Nat → Nat} (C : g_K G X LM ad cX10_keepGrass 2 RX10 none 0)    {k : Int32 → gS → gR} (hk : ∀ (v1 : Int32) (s : gS), g_Z G X LM ad 2 28 [] [] s (k v1 s)) : ∀ (n : Nat) (v1 : Int32) (s : gS), g_Z G X LM ad 2 2 [(0, .ref (ad 0)), (1, .int v1)] [] s (f_X10_keepGrass_2  k n v1 s) := by
  intro n
  induction n with
  | zero => intros; exact z_none
  | succ n ih =>
    intro v1 s
    rw [f_X10_keepGrass_2.eq_2]
    refine z_iload_n C (q := 3) 1 dX10_keepGrass_2 rfl rfl ?_
    refine z_bipush C (q := 5) dX10_keepGrass_3 rfl lt_bipush_80 ?_
    refine z_icmp_ge C (tgt := 28) (q := 8) dX10_keepGrass_5 (by decide) rfl ?_ ?_
    · exact z_sub [] rfl (hk v1 s)
    refine z_aload_n C (q := 9) 0 dX10_keepGrass_8 rfl rfl ?_
    refine z_getR C (q := 12) ob_m fF_X10_76 rfl dX10_keepGrass_9 rfl ?_
    refine z_iload_n C (q := 13) 1 dX10_keepGrass_12 rfl rfl ?_
    refine z_aload_n C (q := 14) 0 dX10_keepGrass_13 rfl rfl ?_
    refine z_getR C (q := 17) ob_m fF_X10_7 rfl dX10_keepGrass_14 rfl ?_
    refine z_iconst C (q := 18) dX10_keepGrass_17 rfl lt_iconst_0 ?_
    refine z_iload_n C (q := 19) 1 dX10_keepGrass_18 rfl rfl ?_
    refine z_iadd C (q := 20) dX10_keepGrass_19 rfl ?_
    refine z_iald C (q := 21) ar_m1 dX10_keepGrass_20 rfl ?_
    refine z_iast C (q := 22) ar_m20 dX10_keepGrass_21 rfl (fun s1 => ?_)
    refine z_iinc C (q := 25) 1 [(1, .int (v1 + 1)), (0, .ref (ad 0))] dX10_keepGrass_22 rfl rfl (lt_iinc_1 _) (by decide) rfl ?_
    refine z_goto C (tgt := 2) dX10_keepGrass_25 (by decide) ?_
    exact z_sub [1, 0] rfl (ih (v1 + 1) s1)
set_option maxRecDepth 100000 in
set_option maxHeartbeats 4000000 in
theorem m_X10_keepGrass (G : gG) {ad : Nat → Nat} (hap : g_ap LM ad)    (s : gS) : g_M G LM ad yX10_keepGrass cX10_keepGrass 2 none 0 [.ref (ad 0)] s (f_X10_keepGrass s) := by
  refine g_entry (by decide) hap (Nat.le_of_ble_eq_true rfl) [(0, .ref (ad 0))] rfl (fun X C => ?_)
  unfold f_X10_keepGrass
  refine z_iconst C (q := 1) dX10_keepGrass_0 rfl lt_iconst_0 ?_
  refine z_istore_n C (q := 2) [(1, .int (0 : Int32)), (0, .ref (ad 0))] dX10_keepGrass_1 rfl rfl (by decide) rfl ?_
  refine z_sub [1, 0] rfl (l_X10_keepGrass_2 C  (fun v1_2 s3 => ?_) g_N (0 : Int32) s)
  exact z_vret C dX10_keepGrass_28
set_option maxRecDepth 100000 in
set_option maxHeartbeats 4000000 in
theorem l_X10_giveGrass_2 {G : gG} {X : gX} {ad : Nat → Nat} (C : g_K G X LM ad cX10_giveGrass 2 RX10 none 0)    {k : Int32 → gS → gR} (hk : ∀ (v1 : Int32) (s : gS), g_Z G X LM ad 2 28 [] [] s (k v1 s)) : ∀ (n : Nat) (v1 : Int32) (s : gS), g_Z G X LM ad 2 2 [(0, .ref (ad 0)), (1, .int v1)] [] s (f_X10_giveGrass_2  k n v1 s) := by
  intro n
  induction n with
  | zero => intros; exact z_none
  | succ n ih =>
    intro v1 s
    rw [f_X10_giveGrass_2.eq_2]
    refine z_iload_n C (q := 3) 1 dX10_giveGrass_2 rfl rfl ?_
    refine z_bipush C (q := 5) dX10_giveGrass_3 rfl lt_bipush_80 ?_
    refine z_icmp_ge C (tgt := 28) (q := 8) dX10_giveGrass_5 (by decide) rfl ?_ ?_
    · exact z_sub [] rfl (hk v1 s)
    refine z_aload_n C (q := 9) 0 dX10_giveGrass_8 rfl rfl ?_
    refine z_getR C (q := 12) ob_m fF_X10_7 rfl dX10_giveGrass_9 rfl ?_
    refine z_iconst C (q := 13) dX10_giveGrass_12 rfl lt_iconst_0 ?_
    refine z_iload_n C (q := 14) 1 dX10_giveGrass_13 rfl rfl ?_
    refine z_iadd C (q := 15) dX10_giveGrass_14 rfl ?_
    refine z_aload_n C (q := 16) 0 dX10_giveGrass_15 rfl rfl ?_
    refine z_getR C (q := 19) ob_m fF_X10_76 rfl dX10_giveGrass_16 rfl ?_
    refine z_iload_n C (q := 20) 1 dX10_giveGrass_19 rfl rfl ?_
    refine z_iald C (q := 21) ar_m20 dX10_giveGrass_20 rfl ?_
    refine z_iast C (q := 22) ar_m1 dX10_giveGrass_21 rfl (fun s1 => ?_)
    refine z_iinc C (q := 25) 1 [(1, .int (v1 + 1)), (0, .ref (ad 0))] dX10_giveGrass_22 rfl rfl (lt_iinc_1 _) (by decide) rfl ?_
    refine z_goto C (tgt := 2) dX10_giveGrass_25 (by decide) ?_
    exact z_sub [1, 0] rfl (ih (v1 + 1) s1)
set_option maxRecDepth 100000 in
set_option maxHeartbeats 4000000 in
theorem m_X10_giveGrass (G : gG) {ad : Nat → Nat} (hap : g_ap LM ad)    (s : gS) : g_M G LM ad yX10_giveGrass cX10_giveGrass 2 none 0 [.ref (ad 0)] s (f_X10_giveGrass s) := by
  refine g_entry (by decide) hap (Nat.le_of_ble_eq_true rfl) [(0, .ref (ad 0))] rfl (fun X C => ?_)
  unfold f_X10_giveGrass
  refine z_iconst C (q := 1) dX10_giveGrass_0 rfl lt_iconst_0 ?_
  refine z_istore_n C (q := 2) [(1, .int (0 : Int32)), (0, .ref (ad 0))] dX10_giveGrass_1 rfl rfl (by decide) rfl ?_
  refine z_sub [1, 0] rfl (l_X10_giveGrass_2 C  (fun v1_2 s3 => ?_) g_N (0 : Int32) s)
  exact z_vret C dX10_giveGrass_28
set_option maxRecDepth 100000 in
set_option maxHeartbeats 4000000 in
theorem l_X10_bestClover_13 {G : gG} {X : gX} {ad : Nat → Nat} (C : g_K G X LM ad cX10_bestClover 7 RX10 (some .int) 8)   (v1 : Int32) (v2 : Int32) (v3 : Int32) {k : Int32 → Int32 → gS → gR} (hk : ∀ (v4 : Int32) (v5 : Int32) (s : gS), g_Z G X LM ad 7 101 [(4, .int v4)] [] s (k v4 v5 s)) : ∀ (n : Nat) (v4 : Int32) (v5 : Int32) (s : gS), g_Z G X LM ad 7 13 [(0, .ref (ad 0)), (1, .int v1), (2, .int v2), (3, .int v3), (4, .int v4), (5, .int v5)] [] s (f_X10_bestClover_13 v1 v2 v3 k n v4 v5 s) := by
  intro n
  induction n with
  | zero => intros; exact z_none
  | succ n ih =>
    intro v4 v5 s
    rw [f_X10_bestClover_13.eq_2]
    refine z_iload C (q := 15) 5 dX10_bestClover_13 rfl rfl ?_
    refine z_aload_n C (q := 16) 0 dX10_bestClover_15 rfl rfl ?_
    refine z_callV C (q := 19) [] gl_X10_225 glv_X10_cells ob_m rfl (m_X10_cells G (g_Kap C)  _) rfl rfl (Nat.le_of_ble_eq_true rfl) ⟨by decide, by decide⟩ dX10_bestClover_16 rfl (z_ki (fun r3 s2 => ?_))
    refine z_icmp_ge C (tgt := 101) (q := 22) dX10_bestClover_19 (by decide) rfl ?_ ?_
    · exact z_sub [4] rfl (hk v4 v5 s2)
    refine z_aload_n C (q := 23) 0 dX10_bestClover_22 rfl rfl ?_
    refine z_callV C (q := 26) [] gl_X10_307 glv_X10_keepGrass ob_m rfl (m_X10_keepGrass G (g_Kap C)  _) rfl rfl (Nat.le_of_ble_eq_true rfl) ⟨by decide, by decide⟩ dX10_bestClover_23 rfl (z_kv (fun s4 => ?_))
    refine z_iload_n C (q := 27) 3 dX10_bestClover_26 rfl rfl ?_
    refine z_iconst C (q := 28) dX10_bestClover_27 rfl lt_iconst_m1 ?_
    refine z_icmp_eq C (tgt := 37) (q := 31) dX10_bestClover_28 (by decide) rfl ?_ ?_
    · refine z_aload_n C (q := 38) 0 dX10_bestClover_37 rfl rfl ?_
      refine z_iload C (q := 40) 5 dX10_bestClover_38 rfl rfl ?_
      refine z_iload_n C (q := 41) 2 dX10_bestClover_40 rfl rfl ?_
      refine z_callV C (q := 44) [.int v5, .int v2] gl_X10_280 glv_X10_sowOn ob_m rfl (m_X10_sowOn G (g_Kap C) v5 v2 _) rfl rfl (Nat.le_of_ble_eq_true rfl) ⟨by decide, by decide⟩ dX10_bestClover_41 rfl (z_kv (fun s5 => ?_))
      refine z_aload_n C (q := 45) 0 dX10_bestClover_44 rfl rfl ?_
      refine z_iload_n C (q := 46) 1 dX10_bestClover_45 rfl rfl ?_
      refine z_callV C (q := 49) [.int v1] gl_X10_300 glv_X10_meanOf ob_m rfl (m_X10_meanOf G (g_Kap C) v1 _) rfl rfl (Nat.le_of_ble_eq_true rfl) ⟨by decide, by decide⟩ dX10_bestClover_46 rfl (z_ki (fun r7 s6 => ?_))
      refine z_istore C (q := 51) [(6, .int r7), (0, .ref (ad 0)), (1, .int v1), (2, .int v2), (3, .int v3), (4, .int v4), (5, .int v5)] dX10_bestClover_49 rfl (by decide) rfl ?_
      refine z_aload_n C (q := 52) 1 dX10_bestClover_51 rfl rfl ?_
      refine z_callV C (q := 55) [] gl_X10_310 glv_X10_giveGrass ob_m rfl (m_X10_giveGrass G (g_Kap C)  _) rfl rfl (Nat.le_of_ble_eq_true rfl) ⟨by decide, by decide⟩ dX10_bestClover_52 rfl (z_kv (fun s8 => ?_))
      refine z_iload C (q := 57) 0 dX10_bestClover_55 rfl rfl ?_
      refine z_aload_n C (q := 58) 1 dX10_bestClover_57 rfl rfl ?_
      refine z_getI C (q := 61) ob_m fF_X10_304 rfl dX10_bestClover_58 rfl ?_
      refine z_icmp_le C (tgt := 69) (q := 64) dX10_bestClover_61 (by decide) rfl ?_ ?_
      · refine z_iload C (q := 71) 5 dX10_bestClover_69 rfl rfl ?_
        refine z_istore C (q := 73) [(4, .int v4), (6, .int r7), (0, .ref (ad 0)), (1, .int v1), (2, .int v2), (3, .int v3), (5, .int v5)] dX10_bestClover_71 rfl (by decide) rfl ?_
        refine z_aload_n C (q := 74) 2 dX10_bestClover_73 rfl rfl ?_
        refine z_iload C (q := 76) 1 dX10_bestClover_74 rfl rfl ?_
        refine z_aload_n C (q := 77) 2 dX10_bestClover_76 rfl rfl ?_
        refine z_getI C (q := 80) ob_m fF_X10_304 rfl dX10_bestClover_77 rfl ?_
        refine z_icmp_le C (tgt := 88) (q := 83) dX10_bestClover_80 (by decide) rfl ?_ ?_
        · refine z_aload_n C (q := 89) 2 dX10_bestClover_88 rfl rfl ?_
          refine z_getI C (q := 92) ob_m fF_X10_304 rfl dX10_bestClover_89 rfl ?_
          refine z_putI C (q := 95) ob_m fP_X10_304 rfl dX10_bestClover_92 rfl (fun s9 => ?_)
          refine z_iinc C (q := 98) 6 [(5, .int (v5 + 1)), (4, .int v4), (6, .int r7), (0, .ref (ad 0)), (1, .int v1), (2, .int v2), (3, .int v3)] dX10_bestClover_95 rfl rfl (lt_iinc_1 _) (by decide) rfl ?_
          refine z_goto C (tgt := 13) dX10_bestClover_98 (by decide) ?_
          exact z_sub [3, 4, 5, 6, 1, 0] rfl (ih v4 (v5 + 1) s9)
        refine z_iload C (q := 85) 1 dX10_bestClover_83 rfl rfl ?_
        refine z_goto C (tgt := 92) dX10_bestClover_85 (by decide) ?_
        refine z_putI C (q := 95) ob_m fP_X10_304 rfl dX10_bestClover_92 rfl (fun s10 => ?_)
        refine z_iinc C (q := 98) 6 [(5, .int (v5 + 1)), (4, .int v4), (6, .int r7), (0, .ref (ad 0)), (1, .int v1), (2, .int v2), (3, .int v3)] dX10_bestClover_95 rfl rfl (lt_iinc_1 _) (by decide) rfl ?_
        refine z_goto C (tgt := 13) dX10_bestClover_98 (by decide) ?_
        exact z_sub [3, 4, 5, 6, 1, 0] rfl (ih v4 (v5 + 1) s10)
      refine z_iload C (q := 66) 6 dX10_bestClover_64 rfl rfl ?_
      refine z_goto C (tgt := 71) dX10_bestClover_66 (by decide) ?_
      refine z_istore C (q := 73) [(4, .int v5), (6, .int r7), (0, .ref (ad 0)), (1, .int v1), (2, .int v2), (3, .int v3), (5, .int v5)] dX10_bestClover_71 rfl (by decide) rfl ?_
      refine z_aload_n C (q := 74) 2 dX10_bestClover_73 rfl rfl ?_
      refine z_iload C (q := 76) 1 dX10_bestClover_74 rfl rfl ?_
      refine z_aload_n C (q := 77) 2 dX10_bestClover_76 rfl rfl ?_
      refine z_getI C (q := 80) ob_m fF_X10_304 rfl dX10_bestClover_77 rfl ?_
      refine z_icmp_le C (tgt := 88) (q := 83) dX10_bestClover_80 (by decide) rfl ?_ ?_
      · refine z_aload_n C (q := 89) 2 dX10_bestClover_88 rfl rfl ?_
        refine z_getI C (q := 92) ob_m fF_X10_304 rfl dX10_bestClover_89 rfl ?_
        refine z_putI C (q := 95) ob_m fP_X10_304 rfl dX10_bestClover_92 rfl (fun s11 => ?_)
        refine z_iinc C (q := 98) 6 [(5, .int (v5 + 1)), (4, .int v5), (6, .int r7), (0, .ref (ad 0)), (1, .int v1), (2, .int v2), (3, .int v3)] dX10_bestClover_95 rfl rfl (lt_iinc_1 _) (by decide) rfl ?_
        refine z_goto C (tgt := 13) dX10_bestClover_98 (by decide) ?_
        exact z_sub [3, 4, 5, 6, 1, 0] rfl (ih v5 (v5 + 1) s11)
      refine z_iload C (q := 85) 1 dX10_bestClover_83 rfl rfl ?_
      refine z_goto C (tgt := 92) dX10_bestClover_85 (by decide) ?_
      refine z_putI C (q := 95) ob_m fP_X10_304 rfl dX10_bestClover_92 rfl (fun s12 => ?_)
      refine z_iinc C (q := 98) 6 [(5, .int (v5 + 1)), (4, .int v5), (6, .int r7), (0, .ref (ad 0)), (1, .int v1), (2, .int v2), (3, .int v3)] dX10_bestClover_95 rfl rfl (lt_iinc_1 _) (by decide) rfl ?_
      refine z_goto C (tgt := 13) dX10_bestClover_98 (by decide) ?_
      exact z_sub [3, 4, 5, 6, 1, 0] rfl (ih v5 (v5 + 1) s12)
    refine z_aload_n C (q := 32) 0 dX10_bestClover_31 rfl rfl ?_
    refine z_iload_n C (q := 33) 3 dX10_bestClover_32 rfl rfl ?_
    refine z_iload_n C (q := 34) 2 dX10_bestClover_33 rfl rfl ?_
    refine z_callV C (q := 37) [.int v3, .int v2] gl_X10_280 glv_X10_sowOn ob_m rfl (m_X10_sowOn G (g_Kap C) v3 v2 _) rfl rfl (Nat.le_of_ble_eq_true rfl) ⟨by decide, by decide⟩ dX10_bestClover_34 rfl (z_kv (fun s13 => ?_))
    refine z_aload_n C (q := 38) 0 dX10_bestClover_37 rfl rfl ?_
    refine z_iload C (q := 40) 5 dX10_bestClover_38 rfl rfl ?_
    refine z_iload_n C (q := 41) 2 dX10_bestClover_40 rfl rfl ?_
    refine z_callV C (q := 44) [.int v5, .int v2] gl_X10_280 glv_X10_sowOn ob_m rfl (m_X10_sowOn G (g_Kap C) v5 v2 _) rfl rfl (Nat.le_of_ble_eq_true rfl) ⟨by decide, by decide⟩ dX10_bestClover_41 rfl (z_kv (fun s14 => ?_))
    refine z_aload_n C (q := 45) 0 dX10_bestClover_44 rfl rfl ?_
    refine z_iload_n C (q := 46) 1 dX10_bestClover_45 rfl rfl ?_
    refine z_callV C (q := 49) [.int v1] gl_X10_300 glv_X10_meanOf ob_m rfl (m_X10_meanOf G (g_Kap C) v1 _) rfl rfl (Nat.le_of_ble_eq_true rfl) ⟨by decide, by decide⟩ dX10_bestClover_46 rfl (z_ki (fun r16 s15 => ?_))
    refine z_istore C (q := 51) [(6, .int r16), (0, .ref (ad 0)), (1, .int v1), (2, .int v2), (3, .int v3), (4, .int v4), (5, .int v5)] dX10_bestClover_49 rfl (by decide) rfl ?_
    refine z_aload_n C (q := 52) 1 dX10_bestClover_51 rfl rfl ?_
    refine z_callV C (q := 55) [] gl_X10_310 glv_X10_giveGrass ob_m rfl (m_X10_giveGrass G (g_Kap C)  _) rfl rfl (Nat.le_of_ble_eq_true rfl) ⟨by decide, by decide⟩ dX10_bestClover_52 rfl (z_kv (fun s17 => ?_))
    refine z_iload C (q := 57) 0 dX10_bestClover_55 rfl rfl ?_
    refine z_aload_n C (q := 58) 1 dX10_bestClover_57 rfl rfl ?_
    refine z_getI C (q := 61) ob_m fF_X10_304 rfl dX10_bestClover_58 rfl ?_
    refine z_icmp_le C (tgt := 69) (q := 64) dX10_bestClover_61 (by decide) rfl ?_ ?_
    · refine z_iload C (q := 71) 5 dX10_bestClover_69 rfl rfl ?_
      refine z_istore C (q := 73) [(4, .int v4), (6, .int r16), (0, .ref (ad 0)), (1, .int v1), (2, .int v2), (3, .int v3), (5, .int v5)] dX10_bestClover_71 rfl (by decide) rfl ?_
      refine z_aload_n C (q := 74) 2 dX10_bestClover_73 rfl rfl ?_
      refine z_iload C (q := 76) 1 dX10_bestClover_74 rfl rfl ?_
      refine z_aload_n C (q := 77) 2 dX10_bestClover_76 rfl rfl ?_
      refine z_getI C (q := 80) ob_m fF_X10_304 rfl dX10_bestClover_77 rfl ?_
      refine z_icmp_le C (tgt := 88) (q := 83) dX10_bestClover_80 (by decide) rfl ?_ ?_
      · refine z_aload_n C (q := 89) 2 dX10_bestClover_88 rfl rfl ?_
        refine z_getI C (q := 92) ob_m fF_X10_304 rfl dX10_bestClover_89 rfl ?_
        refine z_putI C (q := 95) ob_m fP_X10_304 rfl dX10_bestClover_92 rfl (fun s18 => ?_)
        refine z_iinc C (q := 98) 6 [(5, .int (v5 + 1)), (4, .int v4), (6, .int r16), (0, .ref (ad 0)), (1, .int v1), (2, .int v2), (3, .int v3)] dX10_bestClover_95 rfl rfl (lt_iinc_1 _) (by decide) rfl ?_
        refine z_goto C (tgt := 13) dX10_bestClover_98 (by decide) ?_
        exact z_sub [3, 4, 5, 6, 1, 0] rfl (ih v4 (v5 + 1) s18)
      refine z_iload C (q := 85) 1 dX10_bestClover_83 rfl rfl ?_
      refine z_goto C (tgt := 92) dX10_bestClover_85 (by decide) ?_
      refine z_putI C (q := 95) ob_m fP_X10_304 rfl dX10_bestClover_92 rfl (fun s19 => ?_)
      refine z_iinc C (q := 98) 6 [(5, .int (v5 + 1)), (4, .int v4), (6, .int r16), (0, .ref (ad 0)), (1, .int v1), (2, .int v2), (3, .int v3)] dX10_bestClover_95 rfl rfl (lt_iinc_1 _) (by decide) rfl ?_
      refine z_goto C (tgt := 13) dX10_bestClover_98 (by decide) ?_
      exact z_sub [3, 4, 5, 6, 1, 0] rfl (ih v4 (v5 + 1) s19)
    refine z_iload C (q := 66) 6 dX10_bestClover_64 rfl rfl ?_
    refine z_goto C (tgt := 71) dX10_bestClover_66 (by decide) ?_
    refine z_istore C (q := 73) [(4, .int v5), (6, .int r16), (0, .ref (ad 0)), (1, .int v1), (2, .int v2), (3, .int v3), (5, .int v5)] dX10_bestClover_71 rfl (by decide) rfl ?_
    refine z_aload_n C (q := 74) 2 dX10_bestClover_73 rfl rfl ?_
    refine z_iload C (q := 76) 1 dX10_bestClover_74 rfl rfl ?_
    refine z_aload_n C (q := 77) 2 dX10_bestClover_76 rfl rfl ?_
    refine z_getI C (q := 80) ob_m fF_X10_304 rfl dX10_bestClover_77 rfl ?_
    refine z_icmp_le C (tgt := 88) (q := 83) dX10_bestClover_80 (by decide) rfl ?_ ?_
    · refine z_aload_n C (q := 89) 2 dX10_bestClover_88 rfl rfl ?_
      refine z_getI C (q := 92) ob_m fF_X10_304 rfl dX10_bestClover_89 rfl ?_
      refine z_putI C (q := 95) ob_m fP_X10_304 rfl dX10_bestClover_92 rfl (fun s20 => ?_)
      refine z_iinc C (q := 98) 6 [(5, .int (v5 + 1)), (4, .int v5), (6, .int r16), (0, .ref (ad 0)), (1, .int v1), (2, .int v2), (3, .int v3)] dX10_bestClover_95 rfl rfl (lt_iinc_1 _) (by decide) rfl ?_
      refine z_goto C (tgt := 13) dX10_bestClover_98 (by decide) ?_
      exact z_sub [3, 4, 5, 6, 1, 0] rfl (ih v5 (v5 + 1) s20)
    refine z_iload C (q := 85) 1 dX10_bestClover_83 rfl rfl ?_
    refine z_goto C (tgt := 92) dX10_bestClover_85 (by decide) ?_
    refine z_putI C (q := 95) ob_m fP_X10_304 rfl dX10_bestClover_92 rfl (fun s21 => ?_)
    refine z_iinc C (q := 98) 6 [(5, .int (v5 + 1)), (4, .int v5), (6, .int r16), (0, .ref (ad 0)), (1, .int v1), (2, .int v2), (3, .int v3)] dX10_bestClover_95 rfl rfl (lt_iinc_1 _) (by decide) rfl ?_
    refine z_goto C (tgt := 13) dX10_bestClover_98 (by decide) ?_
    exact z_sub [3, 4, 5, 6, 1, 0] rfl (ih v5 (v5 + 1) s21)
set_option maxRecDepth 100000 in
set_option maxHeartbeats 4000000 in
theorem m_X10_bestClover (G : gG) {ad : Nat → Nat} (hap : g_ap LM ad)   (v1 : Int32) (v2 : Int32) (v3 : Int32) (s : gS) : g_M G LM ad yX10_bestClover cX10_bestClover 7 (some .int) 8 [.ref (ad 0), .int v1, .int v2, .int v3] s (f_X10_bestClover v1 v2 v3 s) := by
  refine g_entry (by decide) hap (Nat.le_of_ble_eq_true rfl) [(0, .ref (ad 0)), (1, .int v1), (2, .int v2), (3, .int v3)] rfl (fun X C => ?_)
  unfold f_X10_bestClover
  refine z_iconst C (q := 1) dX10_bestClover_0 rfl lt_iconst_m1 ?_
  refine z_istore C (q := 3) [(4, .int (-1 : Int32)), (0, .ref (ad 0)), (1, .int v1), (2, .int v2), (3, .int v3)] dX10_bestClover_1 rfl (by decide) rfl ?_
  refine z_aload_n C (q := 4) 1 dX10_bestClover_3 rfl rfl ?_
  refine z_ldcw C (q := 7) dX10_bestClover_4 rfl wm_780 ?_
  refine z_putI C (q := 10) ob_m fP_X10_304 rfl dX10_bestClover_7 rfl (fun s1 => ?_)
  refine z_iconst C (q := 11) dX10_bestClover_10 rfl lt_iconst_0 ?_
  refine z_istore C (q := 13) [(5, .int (0 : Int32)), (4, .int (-1 : Int32)), (0, .ref (ad 0)), (1, .int v1), (2, .int v2), (3, .int v3)] dX10_bestClover_11 rfl (by decide) rfl ?_
  refine z_sub [2, 3, 4, 5, 1, 0] rfl (l_X10_bestClover_13 C v1 v2 v3 (fun v4_22 v5_23 s24 => ?_) g_N (-1 : Int32) (0 : Int32) s1)
  refine z_iload C (q := 103) 0 dX10_bestClover_101 rfl rfl ?_
  exact z_iret C dX10_bestClover_103
set_option maxRecDepth 100000 in
set_option maxHeartbeats 4000000 in
theorem m_X10_clover (G : gG) {ad : Nat → Nat} (hap : g_ap LM ad)   (v1 : Int32) (v2 : Int32) (v3 : Int32) (s : gS) : g_M G LM ad yX10_clover cX10_clover 5 (some .int) 9 [.ref (ad 0), .int v1, .int v2, .int v3] s (f_X10_clover v1 v2 v3 s) := by
  refine g_entry (by decide) hap (Nat.le_of_ble_eq_true rfl) [(0, .ref (ad 0)), (1, .int v1), (2, .int v2), (3, .int v3)] rfl (fun X C => ?_)
  unfold f_X10_clover
  refine z_iload_n C (q := 1) 1 dX10_clover_0 rfl rfl ?_
  refine z_callS C (q := 4) [.int v1] gl_X10_253 wm_553 (m_X10_isParish G (g_Kap C) v1 _) rfl rfl (Nat.le_of_ble_eq_true rfl) ⟨by decide, by decide⟩ dX10_clover_1 rfl (z_ki (fun r2 s1 => ?_))
  refine z_if_ne C (tgt := 10) (q := 7) dX10_clover_4 (by decide) rfl ?_ ?_
  · refine z_iload_n C (q := 11) 2 dX10_clover_10 rfl rfl ?_
    refine z_i2l C (q := 12) dX10_clover_11 rfl ?_
    refine z_lconst C (q := 13) (v := 1) dX10_clover_12 rfl rfl ?_
    refine z_ldc2 C (q := 16) dX10_clover_13 rfl wm_418 ?_
    refine z_callS C (q := 19) [.long (v2.toInt64), .long (1 : Int64), .long (9 : Int64)] gl_X10_91 wm_198 (m_X10_in G (g_Kap C) (v2.toInt64) (1 : Int64) (9 : Int64) _) rfl rfl (Nat.le_of_ble_eq_true rfl) ⟨by decide, by decide⟩ dX10_clover_16 rfl (z_ki (fun r4 s3 => ?_))
    refine z_if_eq C (tgt := 32) (q := 22) dX10_clover_19 (by decide) rfl ?_ ?_
    · refine z_ldc C (q := 34) dX10_clover_32 rfl wm_193 ?_
      exact z_iret C dX10_clover_34
    refine z_iload_n C (q := 23) 3 dX10_clover_22 rfl rfl ?_
    refine z_i2l C (q := 24) dX10_clover_23 rfl ?_
    refine z_lconst C (q := 25) (v := 0) dX10_clover_24 rfl rfl ?_
    refine z_lconst C (q := 26) (v := 1) dX10_clover_25 rfl rfl ?_
    refine z_callS C (q := 29) [.long (v3.toInt64), .long (0 : Int64), .long (1 : Int64)] gl_X10_91 wm_198 (m_X10_in G (g_Kap C) (v3.toInt64) (0 : Int64) (1 : Int64) _) rfl rfl (Nat.le_of_ble_eq_true rfl) ⟨by decide, by decide⟩ dX10_clover_26 rfl (z_ki (fun r6 s5 => ?_))
    refine z_if_ne C (tgt := 35) (q := 32) dX10_clover_29 (by decide) rfl ?_ ?_
    · refine z_aload_n C (q := 36) 0 dX10_clover_35 rfl rfl ?_
      refine z_callV C (q := 39) [] gl_X10_225 glv_X10_cells ob_m rfl (m_X10_cells G (g_Kap C)  _) rfl rfl (Nat.le_of_ble_eq_true rfl) ⟨by decide, by decide⟩ dX10_clover_36 rfl (z_ki (fun r8 s7 => ?_))
      refine z_if_ne C (tgt := 46) (q := 42) dX10_clover_39 (by decide) rfl ?_ ?_
      · refine z_aload_n C (q := 47) 0 dX10_clover_46 rfl rfl ?_
        refine z_iload_n C (q := 48) 1 dX10_clover_47 rfl rfl ?_
        refine z_iload_n C (q := 49) 2 dX10_clover_48 rfl rfl ?_
        refine z_iconst C (q := 50) dX10_clover_49 rfl lt_iconst_m1 ?_
        refine z_callV C (q := 53) [.int v1, .int v2, .int (-1 : Int32)] gl_X10_313 glv_X10_bestClover ob_m rfl (m_X10_bestClover G (g_Kap C) v1 v2 (-1 : Int32) _) rfl rfl (Nat.le_of_ble_eq_true rfl) ⟨by decide, by decide⟩ dX10_clover_50 rfl (z_ki (fun r10 s9 => ?_))
        refine z_istore C (q := 55) [(4, .int r10), (0, .ref (ad 0)), (1, .int v1), (2, .int v2), (3, .int v3)] dX10_clover_53 rfl (by decide) rfl ?_
        refine z_iload_n C (q := 56) 4 dX10_clover_55 rfl rfl ?_
        refine z_if_ne C (tgt := 68) (q := 59) dX10_clover_56 (by decide) rfl ?_ ?_
        · refine z_aload_n C (q := 69) 1 dX10_clover_68 rfl rfl ?_
          refine z_getI C (q := 72) ob_m fF_X10_304 rfl dX10_clover_69 rfl ?_
          refine z_aload_n C (q := 73) 1 dX10_clover_72 rfl rfl ?_
          refine z_iload_n C (q := 74) 2 dX10_clover_73 rfl rfl ?_
          refine z_callV C (q := 77) [.int v1] gl_X10_300 glv_X10_meanOf ob_m rfl (m_X10_meanOf G (g_Kap C) v1 _) rfl rfl (Nat.le_of_ble_eq_true rfl) ⟨by decide, by decide⟩ dX10_clover_74 rfl (z_ki (fun r12 s11 => ?_))
          refine z_isub C (q := 78) dX10_clover_77 rfl ?_
          exact z_iret C dX10_clover_78
        refine z_aload_n C (q := 60) 1 dX10_clover_59 rfl rfl ?_
        refine z_iload C (q := 62) 0 dX10_clover_60 rfl rfl ?_
        refine z_callV C (q := 65) [.int r10] gl_X10_235 glv_X10_named ob_m rfl (m_X10_named G (g_Kap C) r10 _) rfl rfl (Nat.le_of_ble_eq_true rfl) ⟨by decide, by decide⟩ dX10_clover_62 rfl (z_ki (fun r14 s13 => ?_))
        refine z_goto C (tgt := 78) dX10_clover_65 (by decide) ?_
        exact z_iret C dX10_clover_78
      refine z_ldcw C (q := 45) dX10_clover_42 rfl wm_605 ?_
      exact z_iret C dX10_clover_45
    refine z_ldc C (q := 34) dX10_clover_32 rfl wm_193 ?_
    exact z_iret C dX10_clover_34
  refine z_ldc C (q := 9) dX10_clover_7 rfl wm_524 ?_
  exact z_iret C dX10_clover_9
set_option maxRecDepth 100000 in
set_option maxHeartbeats 4000000 in
theorem l_X10_rests_61 {G : gG} {X : gX} {ad : Nat → Nat} (C : g_K G X LM ad cX10_rests 8 RX10 (some .int) 9)   (v1 : Int32) (v2 : Int32) {k : Int32 → Int32 → Int32 → gS → gR} (hk : ∀ (v3 : Int32) (v4 : Int32) (v5 : Int32) (s : gS), g_Z G X LM ad 8 139 [] [] s (k v3 v4 v5 s)) : ∀ (n : Nat) (v3 : Int32) (v4 : Int32) (v5 : Int32) (s : gS), g_Z G X LM ad 8 61 [(0, .ref (ad 0)), (1, .int v1), (2, .int v2), (3, .int v3), (4, .int v4), (5, .int v5)] [] s (f_X10_rests_61 v1 v2 k n v3 v4 v5 s) := by
  intro n
  induction n with
  | zero => intros; exact z_none
  | succ n ih =>
    intro v3 v4 v5 s
    rw [f_X10_rests_61.eq_2]
    refine z_iload C (q := 63) 5 dX10_rests_61 rfl rfl ?_
    refine z_bipush C (q := 65) dX10_rests_63 rfl lt_bipush_20 ?_
    refine z_icmp_ge C (tgt := 139) (q := 68) dX10_rests_65 (by decide) rfl ?_ ?_
    · exact z_sub [] rfl (hk v3 v4 v5 s)
    refine z_aload_n C (q := 69) 0 dX10_rests_68 rfl rfl ?_
    refine z_iconst C (q := 70) dX10_rests_69 rfl lt_iconst_0 ?_
    refine z_iload_n C (q := 71) 2 dX10_rests_70 rfl rfl ?_
    refine z_iload C (q := 73) 4 dX10_rests_71 rfl rfl ?_
    refine z_callV C (q := 76) [.int (0 : Int32), .int v2, .int v4] gl_X10_313 glv_X10_bestClover ob_m rfl (m_X10_bestClover G (g_Kap C) (0 : Int32) v2 v4 _) rfl rfl (Nat.le_of_ble_eq_true rfl) ⟨by decide, by decide⟩ dX10_rests_73 rfl (z_ki (fun r10 s9 => ?_))
    refine z_istore C (q := 78) [(6, .int r10), (0, .ref (ad 0)), (1, .int v1), (2, .int v2), (3, .int v3), (4, .int v4), (5, .int v5)] dX10_rests_76 rfl (by decide) rfl ?_
    refine z_aload_n C (q := 79) 1 dX10_rests_78 rfl rfl ?_
    refine z_iconst C (q := 80) dX10_rests_79 rfl lt_iconst_1 ?_
    refine z_iload_n C (q := 81) 3 dX10_rests_80 rfl rfl ?_
    refine z_iload C (q := 83) 0 dX10_rests_81 rfl rfl ?_
    refine z_callV C (q := 86) [.int (1 : Int32), .int v2, .int r10] gl_X10_313 glv_X10_bestClover ob_m rfl (m_X10_bestClover G (g_Kap C) (1 : Int32) v2 r10 _) rfl rfl (Nat.le_of_ble_eq_true rfl) ⟨by decide, by decide⟩ dX10_rests_83 rfl (z_ki (fun r12 s11 => ?_))
    refine z_istore C (q := 88) [(7, .int r12), (6, .int r10), (0, .ref (ad 0)), (1, .int v1), (2, .int v2), (3, .int v3), (4, .int v4), (5, .int v5)] dX10_rests_86 rfl (by decide) rfl ?_
    refine z_iload C (q := 90) 1 dX10_rests_88 rfl rfl ?_
    refine z_iload_n C (q := 91) 5 dX10_rests_90 rfl rfl ?_
    refine z_icmp_ne C (tgt := 126) (q := 94) dX10_rests_91 (by decide) rfl ?_ ?_
    · refine z_iload C (q := 128) 1 dX10_rests_126 rfl rfl ?_
      refine z_istore_n C (q := 129) [(3, .int r10), (7, .int r12), (6, .int r10), (0, .ref (ad 0)), (1, .int v1), (2, .int v2), (4, .int v4), (5, .int v5)] dX10_rests_128 rfl rfl (by decide) rfl ?_
      refine z_iload C (q := 131) 1 dX10_rests_129 rfl rfl ?_
      refine z_istore C (q := 133) [(4, .int r12), (3, .int r10), (7, .int r12), (6, .int r10), (0, .ref (ad 0)), (1, .int v1), (2, .int v2), (5, .int v5)] dX10_rests_131 rfl (by decide) rfl ?_
      refine z_iinc C (q := 136) 7 [(5, .int (v5 + 1)), (4, .int r12), (3, .int r10), (7, .int r12), (6, .int r10), (0, .ref (ad 0)), (1, .int v1), (2, .int v2)] dX10_rests_133 rfl rfl (lt_iinc_1 _) (by decide) rfl ?_
      refine z_goto C (tgt := 61) dX10_rests_136 (by decide) ?_
      exact z_sub [5, 6, 7, 2, 1, 0] rfl (ih r10 r12 (v5 + 1) s11)
    refine z_iload C (q := 96) 0 dX10_rests_94 rfl rfl ?_
    refine z_iload C (q := 98) 6 dX10_rests_96 rfl rfl ?_
    refine z_icmp_ne C (tgt := 126) (q := 101) dX10_rests_98 (by decide) rfl ?_ ?_
    · refine z_iload C (q := 128) 1 dX10_rests_126 rfl rfl ?_
      refine z_istore_n C (q := 129) [(3, .int r10), (7, .int r12), (6, .int r10), (0, .ref (ad 0)), (1, .int v1), (2, .int v2), (4, .int v4), (5, .int v5)] dX10_rests_128 rfl rfl (by decide) rfl ?_
      refine z_iload C (q := 131) 1 dX10_rests_129 rfl rfl ?_
      refine z_istore C (q := 133) [(4, .int r12), (3, .int r10), (7, .int r12), (6, .int r10), (0, .ref (ad 0)), (1, .int v1), (2, .int v2), (5, .int v5)] dX10_rests_131 rfl (by decide) rfl ?_
      refine z_iinc C (q := 136) 7 [(5, .int (v5 + 1)), (4, .int r12), (3, .int r10), (7, .int r12), (6, .int r10), (0, .ref (ad 0)), (1, .int v1), (2, .int v2)] dX10_rests_133 rfl rfl (lt_iinc_1 _) (by decide) rfl ?_
      refine z_goto C (tgt := 61) dX10_rests_136 (by decide) ?_
      exact z_sub [5, 6, 7, 2, 1, 0] rfl (ih r10 r12 (v5 + 1) s11)
    refine z_iload_n C (q := 102) 3 dX10_rests_101 rfl rfl ?_
    refine z_iconst C (q := 103) dX10_rests_102 rfl lt_iconst_m1 ?_
    refine z_icmp_ne C (tgt := 111) (q := 106) dX10_rests_103 (by decide) rfl ?_ ?_
    · refine z_aload_n C (q := 112) 2 dX10_rests_111 rfl rfl ?_
      refine z_iload_n C (q := 113) 3 dX10_rests_112 rfl rfl ?_
      refine z_if_ne C (tgt := 120) (q := 116) dX10_rests_113 (by decide) rfl ?_ ?_
      · refine z_iload C (q := 122) 6 dX10_rests_120 rfl rfl ?_
        refine z_callV C (q := 125) [.int v4] gl_X10_235 glv_X10_named ob_m rfl (m_X10_named G (g_Kap C) v4 _) rfl rfl (Nat.le_of_ble_eq_true rfl) ⟨by decide, by decide⟩ dX10_rests_122 rfl (z_ki (fun r14 s13 => ?_))
        exact z_iret C dX10_rests_125
      refine z_iload_n C (q := 117) 5 dX10_rests_116 rfl rfl ?_
      refine z_goto C (tgt := 122) dX10_rests_117 (by decide) ?_
      refine z_callV C (q := 125) [.int v3] gl_X10_235 glv_X10_named ob_m rfl (m_X10_named G (g_Kap C) v3 _) rfl rfl (Nat.le_of_ble_eq_true rfl) ⟨by decide, by decide⟩ dX10_rests_122 rfl (z_ki (fun r16 s15 => ?_))
      exact z_iret C dX10_rests_125
    refine z_iload C (q := 108) 7 dX10_rests_106 rfl rfl ?_
    refine z_goto C (tgt := 125) dX10_rests_108 (by decide) ?_
    exact z_iret C dX10_rests_125
set_option maxRecDepth 100000 in
set_option maxHeartbeats 4000000 in
theorem m_X10_rests (G : gG) {ad : Nat → Nat} (hap : g_ap LM ad)   (v1 : Int32) (v2 : Int32) (s : gS) : g_M G LM ad yX10_rests cX10_rests 8 (some .int) 9 [.ref (ad 0), .int v1, .int v2] s (f_X10_rests v1 v2 s) := by
  refine g_entry (by decide) hap (Nat.le_of_ble_eq_true rfl) [(0, .ref (ad 0)), (1, .int v1), (2, .int v2)] rfl (fun X C => ?_)
  unfold f_X10_rests
  refine z_iload_n C (q := 1) 1 dX10_rests_0 rfl rfl ?_
  refine z_iconst C (q := 2) dX10_rests_1 rfl lt_iconst_m1 ?_
  refine z_icmp_eq C (tgt := 15) (q := 5) dX10_rests_2 (by decide) rfl ?_ ?_
  · refine z_iload_n C (q := 16) 2 dX10_rests_15 rfl rfl ?_
    refine z_i2l C (q := 17) dX10_rests_16 rfl ?_
    refine z_lconst C (q := 18) (v := 1) dX10_rests_17 rfl rfl ?_
    refine z_ldc2 C (q := 21) dX10_rests_18 rfl wm_418 ?_
    refine z_callS C (q := 24) [.long (v2.toInt64), .long (1 : Int64), .long (9 : Int64)] gl_X10_91 wm_198 (m_X10_in G (g_Kap C) (v2.toInt64) (1 : Int64) (9 : Int64) _) rfl rfl (Nat.le_of_ble_eq_true rfl) ⟨by decide, by decide⟩ dX10_rests_21 rfl (z_ki (fun r2 s1 => ?_))
    refine z_if_ne C (tgt := 30) (q := 27) dX10_rests_24 (by decide) rfl ?_ ?_
    · refine z_aload_n C (q := 31) 0 dX10_rests_30 rfl rfl ?_
      refine z_callV C (q := 34) [] gl_X10_225 glv_X10_cells ob_m rfl (m_X10_cells G (g_Kap C)  _) rfl rfl (Nat.le_of_ble_eq_true rfl) ⟨by decide, by decide⟩ dX10_rests_31 rfl (z_ki (fun r4 s3 => ?_))
      refine z_if_ne C (tgt := 41) (q := 37) dX10_rests_34 (by decide) rfl ?_ ?_
      · refine z_aload_n C (q := 42) 0 dX10_rests_41 rfl rfl ?_
        refine z_iconst C (q := 43) dX10_rests_42 rfl lt_iconst_0 ?_
        refine z_iload_n C (q := 44) 2 dX10_rests_43 rfl rfl ?_
        refine z_iconst C (q := 45) dX10_rests_44 rfl lt_iconst_m1 ?_
        refine z_callV C (q := 48) [.int (0 : Int32), .int v2, .int (-1 : Int32)] gl_X10_313 glv_X10_bestClover ob_m rfl (m_X10_bestClover G (g_Kap C) (0 : Int32) v2 (-1 : Int32) _) rfl rfl (Nat.le_of_ble_eq_true rfl) ⟨by decide, by decide⟩ dX10_rests_45 rfl (z_ki (fun r6 s5 => ?_))
        refine z_istore_n C (q := 49) [(3, .int r6), (0, .ref (ad 0)), (1, .int v1), (2, .int v2)] dX10_rests_48 rfl rfl (by decide) rfl ?_
        refine z_aload_n C (q := 50) 1 dX10_rests_49 rfl rfl ?_
        refine z_iconst C (q := 51) dX10_rests_50 rfl lt_iconst_1 ?_
        refine z_iload_n C (q := 52) 3 dX10_rests_51 rfl rfl ?_
        refine z_iconst C (q := 53) dX10_rests_52 rfl lt_iconst_m1 ?_
        refine z_callV C (q := 56) [.int (1 : Int32), .int v2, .int (-1 : Int32)] gl_X10_313 glv_X10_bestClover ob_m rfl (m_X10_bestClover G (g_Kap C) (1 : Int32) v2 (-1 : Int32) _) rfl rfl (Nat.le_of_ble_eq_true rfl) ⟨by decide, by decide⟩ dX10_rests_53 rfl (z_ki (fun r8 s7 => ?_))
        refine z_istore C (q := 58) [(4, .int r8), (3, .int r6), (0, .ref (ad 0)), (1, .int v1), (2, .int v2)] dX10_rests_56 rfl (by decide) rfl ?_
        refine z_iconst C (q := 59) dX10_rests_58 rfl lt_iconst_0 ?_
        refine z_istore C (q := 61) [(5, .int (0 : Int32)), (4, .int r8), (3, .int r6), (0, .ref (ad 0)), (1, .int v1), (2, .int v2)] dX10_rests_59 rfl (by decide) rfl ?_
        refine z_sub [3, 4, 5, 2, 1, 0] rfl (l_X10_rests_61 C v1 v2 (fun v3_17 v4_18 v5_19 s20 => ?_) g_N r6 r8 (0 : Int32) s7)
        refine z_iconst C (q := 140) dX10_rests_139 rfl lt_iconst_m1 ?_
        exact z_iret C dX10_rests_140
      refine z_ldcw C (q := 40) dX10_rests_37 rfl wm_605 ?_
      exact z_iret C dX10_rests_40
    refine z_ldc C (q := 29) dX10_rests_27 rfl wm_193 ?_
    exact z_iret C dX10_rests_29
  refine z_iload_n C (q := 6) 1 dX10_rests_5 rfl rfl ?_
  refine z_callS C (q := 9) [.int v1] gl_X10_253 wm_553 (m_X10_isParish G (g_Kap C) v1 _) rfl rfl (Nat.le_of_ble_eq_true rfl) ⟨by decide, by decide⟩ dX10_rests_6 rfl (z_ki (fun r22 s21 => ?_))
  refine z_if_ne C (tgt := 15) (q := 12) dX10_rests_9 (by decide) rfl ?_ ?_
  · refine z_iload_n C (q := 16) 2 dX10_rests_15 rfl rfl ?_
    refine z_i2l C (q := 17) dX10_rests_16 rfl ?_
    refine z_lconst C (q := 18) (v := 1) dX10_rests_17 rfl rfl ?_
    refine z_ldc2 C (q := 21) dX10_rests_18 rfl wm_418 ?_
    refine z_callS C (q := 24) [.long (v2.toInt64), .long (1 : Int64), .long (9 : Int64)] gl_X10_91 wm_198 (m_X10_in G (g_Kap C) (v2.toInt64) (1 : Int64) (9 : Int64) _) rfl rfl (Nat.le_of_ble_eq_true rfl) ⟨by decide, by decide⟩ dX10_rests_21 rfl (z_ki (fun r24 s23 => ?_))
    refine z_if_ne C (tgt := 30) (q := 27) dX10_rests_24 (by decide) rfl ?_ ?_
    · refine z_aload_n C (q := 31) 0 dX10_rests_30 rfl rfl ?_
      refine z_callV C (q := 34) [] gl_X10_225 glv_X10_cells ob_m rfl (m_X10_cells G (g_Kap C)  _) rfl rfl (Nat.le_of_ble_eq_true rfl) ⟨by decide, by decide⟩ dX10_rests_31 rfl (z_ki (fun r26 s25 => ?_))
      refine z_if_ne C (tgt := 41) (q := 37) dX10_rests_34 (by decide) rfl ?_ ?_
      · refine z_aload_n C (q := 42) 0 dX10_rests_41 rfl rfl ?_
        refine z_iconst C (q := 43) dX10_rests_42 rfl lt_iconst_0 ?_
        refine z_iload_n C (q := 44) 2 dX10_rests_43 rfl rfl ?_
        refine z_iconst C (q := 45) dX10_rests_44 rfl lt_iconst_m1 ?_
        refine z_callV C (q := 48) [.int (0 : Int32), .int v2, .int (-1 : Int32)] gl_X10_313 glv_X10_bestClover ob_m rfl (m_X10_bestClover G (g_Kap C) (0 : Int32) v2 (-1 : Int32) _) rfl rfl (Nat.le_of_ble_eq_true rfl) ⟨by decide, by decide⟩ dX10_rests_45 rfl (z_ki (fun r28 s27 => ?_))
        refine z_istore_n C (q := 49) [(3, .int r28), (0, .ref (ad 0)), (1, .int v1), (2, .int v2)] dX10_rests_48 rfl rfl (by decide) rfl ?_
        refine z_aload_n C (q := 50) 1 dX10_rests_49 rfl rfl ?_
        refine z_iconst C (q := 51) dX10_rests_50 rfl lt_iconst_1 ?_
        refine z_iload_n C (q := 52) 3 dX10_rests_51 rfl rfl ?_
        refine z_iconst C (q := 53) dX10_rests_52 rfl lt_iconst_m1 ?_
        refine z_callV C (q := 56) [.int (1 : Int32), .int v2, .int (-1 : Int32)] gl_X10_313 glv_X10_bestClover ob_m rfl (m_X10_bestClover G (g_Kap C) (1 : Int32) v2 (-1 : Int32) _) rfl rfl (Nat.le_of_ble_eq_true rfl) ⟨by decide, by decide⟩ dX10_rests_53 rfl (z_ki (fun r30 s29 => ?_))
        refine z_istore C (q := 58) [(4, .int r30), (3, .int r28), (0, .ref (ad 0)), (1, .int v1), (2, .int v2)] dX10_rests_56 rfl (by decide) rfl ?_
        refine z_iconst C (q := 59) dX10_rests_58 rfl lt_iconst_0 ?_
        refine z_istore C (q := 61) [(5, .int (0 : Int32)), (4, .int r30), (3, .int r28), (0, .ref (ad 0)), (1, .int v1), (2, .int v2)] dX10_rests_59 rfl (by decide) rfl ?_
        refine z_sub [3, 4, 5, 2, 1, 0] rfl (l_X10_rests_61 C v1 v2 (fun v3_31 v4_32 v5_33 s34 => ?_) g_N r28 r30 (0 : Int32) s29)
        refine z_iconst C (q := 140) dX10_rests_139 rfl lt_iconst_m1 ?_
        exact z_iret C dX10_rests_140
      refine z_ldcw C (q := 40) dX10_rests_37 rfl wm_605 ?_
      exact z_iret C dX10_rests_40
    refine z_ldc C (q := 29) dX10_rests_27 rfl wm_193 ?_
    exact z_iret C dX10_rests_29
  refine z_ldc C (q := 14) dX10_rests_12 rfl wm_524 ?_
  exact z_iret C dX10_rests_14
set_option maxRecDepth 100000 in
set_option maxHeartbeats 4000000 in
theorem m_X10_worth (G : gG) {ad : Nat → Nat} (hap : g_ap LM ad)   (v1 : Int32) (v2 : Int32) (v3 : Int32) (s : gS) : g_M G LM ad yX10_worth cX10_worth 7 (some .int) 8 [.ref (ad 0), .int v1, .int v2, .int v3] s (f_X10_worth v1 v2 v3 s) := by
  refine g_entry (by decide) hap (Nat.le_of_ble_eq_true rfl) [(0, .ref (ad 0)), (1, .int v1), (2, .int v2), (3, .int v3)] rfl (fun X C => ?_)
  unfold f_X10_worth
  refine z_iload_n C (q := 1) 1 dX10_worth_0 rfl rfl ?_
  refine z_callS C (q := 4) [.int v1] gl_X10_253 wm_553 (m_X10_isParish G (g_Kap C) v1 _) rfl rfl (Nat.le_of_ble_eq_true rfl) ⟨by decide, by decide⟩ dX10_worth_1 rfl (z_ki (fun r2 s1 => ?_))
  refine z_if_eq C (tgt := 16) (q := 7) dX10_worth_4 (by decide) rfl ?_ ?_
  · refine z_ldc C (q := 18) dX10_worth_16 rfl wm_524 ?_
    exact z_iret C dX10_worth_18
  refine z_aload_n C (q := 8) 0 dX10_worth_7 rfl rfl ?_
  refine z_iload_n C (q := 9) 2 dX10_worth_8 rfl rfl ?_
  refine z_iload_n C (q := 10) 3 dX10_worth_9 rfl rfl ?_
  refine z_callV C (q := 13) [.int v2, .int v3] gl_X10_239 glv_X10_isCell ob_m rfl (m_X10_isCell G (g_Kap C) v2 v3 _) rfl rfl (Nat.le_of_ble_eq_true rfl) ⟨by decide, by decide⟩ dX10_worth_10 rfl (z_ki (fun r4 s3 => ?_))
  refine z_if_ne C (tgt := 19) (q := 16) dX10_worth_13 (by decide) rfl ?_ ?_
  · refine z_aload_n C (q := 20) 0 dX10_worth_19 rfl rfl ?_
    refine z_getR C (q := 23) ob_m fF_X10_7 rfl dX10_worth_20 rfl ?_
    refine z_bipush C (q := 25) dX10_worth_23 rfl lt_bipush_82 ?_
    refine z_iald C (q := 26) ar_m1 dX10_worth_25 rfl ?_
    refine z_leti (fun v4_5 => ?_)
    refine z_istore C (q := 28) [(4, .int v4_5), (0, .ref (ad 0)), (1, .int v1), (2, .int v2), (3, .int v3)] dX10_worth_26 rfl (by decide) rfl ?_
    refine z_aload_n C (q := 29) 1 dX10_worth_28 rfl rfl ?_
    refine z_iload_n C (q := 30) 2 dX10_worth_29 rfl rfl ?_
    refine z_callV C (q := 33) [.int v1] gl_X10_300 glv_X10_meanOf ob_m rfl (m_X10_meanOf G (g_Kap C) v1 _) rfl rfl (Nat.le_of_ble_eq_true rfl) ⟨by decide, by decide⟩ dX10_worth_30 rfl (z_ki (fun r7 s6 => ?_))
    refine z_istore C (q := 35) [(5, .int r7), (4, .int v4_5), (0, .ref (ad 0)), (1, .int v1), (2, .int v2), (3, .int v3)] dX10_worth_33 rfl (by decide) rfl ?_
    refine z_aload_n C (q := 36) 2 dX10_worth_35 rfl rfl ?_
    refine z_getR C (q := 39) ob_m fF_X10_7 rfl dX10_worth_36 rfl ?_
    refine z_bipush C (q := 41) dX10_worth_39 rfl lt_bipush_82 ?_
    refine z_aload_n C (q := 42) 2 dX10_worth_41 rfl rfl ?_
    refine z_getI C (q := 45) ob_m fF_X10_85 rfl dX10_worth_42 rfl ?_
    refine z_iload_n C (q := 46) 5 dX10_worth_45 rfl rfl ?_
    refine z_imul C (q := 47) dX10_worth_46 rfl ?_
    refine z_iload_n C (q := 48) 4 dX10_worth_47 rfl rfl ?_
    refine z_iadd C (q := 49) dX10_worth_48 rfl ?_
    refine z_iast C (q := 50) ar_m1 dX10_worth_49 rfl (fun s8 => ?_)
    refine z_aload_n C (q := 51) 2 dX10_worth_50 rfl rfl ?_
    refine z_iload_n C (q := 52) 3 dX10_worth_51 rfl rfl ?_
    refine z_callV C (q := 55) [.int v1] gl_X10_300 glv_X10_meanOf ob_m rfl (m_X10_meanOf G (g_Kap C) v1 _) rfl rfl (Nat.le_of_ble_eq_true rfl) ⟨by decide, by decide⟩ dX10_worth_52 rfl (z_ki (fun r10 s9 => ?_))
    refine z_istore C (q := 57) [(6, .int r10), (5, .int r7), (4, .int v4_5), (0, .ref (ad 0)), (1, .int v1), (2, .int v2), (3, .int v3)] dX10_worth_55 rfl (by decide) rfl ?_
    refine z_aload_n C (q := 58) 3 dX10_worth_57 rfl rfl ?_
    refine z_getR C (q := 61) ob_m fF_X10_7 rfl dX10_worth_58 rfl ?_
    refine z_bipush C (q := 63) dX10_worth_61 rfl lt_bipush_82 ?_
    refine z_iload C (q := 65) 2 dX10_worth_63 rfl rfl ?_
    refine z_iast C (q := 66) ar_m1 dX10_worth_65 rfl (fun s11 => ?_)
    refine z_iload C (q := 68) 0 dX10_worth_66 rfl rfl ?_
    refine z_iload C (q := 70) 1 dX10_worth_68 rfl rfl ?_
    refine z_isub C (q := 71) dX10_worth_70 rfl ?_
    exact z_iret C dX10_worth_71
  refine z_ldc C (q := 18) dX10_worth_16 rfl wm_524 ?_
  exact z_iret C dX10_worth_18
set_option maxRecDepth 100000 in
set_option maxHeartbeats 4000000 in
theorem l_X10_fairest_42 {G : gG} {X : gX} {ad : Nat → Nat} (C : g_K G X LM ad cX10_fairest 7 RX10 (some .int) 8)   (v1 : Int32) (v2 : Int32) {k : Int32 → Int32 → Int32 → gS → gR} (hk : ∀ (v3 : Int32) (v4 : Int32) (v5 : Int32) (s : gS), g_Z G X LM ad 7 124 [(0, .ref (ad 0)), (1, .int v1), (2, .int v2), (3, .int v3), (4, .int v4)] [] s (k v3 v4 v5 s)) : ∀ (n : Nat) (v3 : Int32) (v4 : Int32) (v5 : Int32) (s : gS), g_Z G X LM ad 7 42 [(0, .ref (ad 0)), (1, .int v1), (2, .int v2), (3, .int v3), (4, .int v4), (5, .int v5)] [] s (f_X10_fairest_42 v1 v2 k n v3 v4 v5 s) := by
  intro n
  induction n with
  | zero => intros; exact z_none
  | succ n ih =>
    intro v3 v4 v5 s
    rw [f_X10_fairest_42.eq_2]
    refine z_iload C (q := 44) 5 dX10_fairest_42 rfl rfl ?_
    refine z_aload_n C (q := 45) 0 dX10_fairest_44 rfl rfl ?_
    refine z_callV C (q := 48) [] gl_X10_225 glv_X10_cells ob_m rfl (m_X10_cells G (g_Kap C)  _) rfl rfl (Nat.le_of_ble_eq_true rfl) ⟨by decide, by decide⟩ dX10_fairest_45 rfl (z_ki (fun r7 s6 => ?_))
    refine z_icmp_ge C (tgt := 124) (q := 51) dX10_fairest_48 (by decide) rfl ?_ ?_
    · exact z_sub [0, 1, 2, 3, 4] rfl (hk v3 v4 v5 s6)
    refine z_aload_n C (q := 52) 0 dX10_fairest_51 rfl rfl ?_
    refine z_getR C (q := 55) ob_m fF_X10_7 rfl dX10_fairest_52 rfl ?_
    refine z_bipush C (q := 57) dX10_fairest_55 rfl lt_bipush_82 ?_
    refine z_iload C (q := 59) 5 dX10_fairest_57 rfl rfl ?_
    refine z_iast C (q := 60) ar_m1 dX10_fairest_59 rfl (fun s8 => ?_)
    refine z_aload_n C (q := 61) 0 dX10_fairest_60 rfl rfl ?_
    refine z_iconst C (q := 62) dX10_fairest_61 rfl lt_iconst_0 ?_
    refine z_callV C (q := 65) [.int (0 : Int32)] gl_X10_300 glv_X10_meanOf ob_m rfl (m_X10_meanOf G (g_Kap C) (0 : Int32) _) rfl rfl (Nat.le_of_ble_eq_true rfl) ⟨by decide, by decide⟩ dX10_fairest_62 rfl (z_ki (fun r10 s9 => ?_))
    refine z_aload_n C (q := 66) 0 dX10_fairest_65 rfl rfl ?_
    refine z_iconst C (q := 67) dX10_fairest_66 rfl lt_iconst_1 ?_
    refine z_callV C (q := 70) [.int (1 : Int32)] gl_X10_300 glv_X10_meanOf ob_m rfl (m_X10_meanOf G (g_Kap C) (1 : Int32) _) rfl rfl (Nat.le_of_ble_eq_true rfl) ⟨by decide, by decide⟩ dX10_fairest_67 rfl (z_ki (fun r12 s11 => ?_))
    refine z_isub C (q := 71) dX10_fairest_70 rfl ?_
    refine z_leti (fun v6_13 => ?_)
    refine z_istore C (q := 73) [(6, .int v6_13), (0, .ref (ad 0)), (1, .int v1), (2, .int v2), (3, .int v3), (4, .int v4), (5, .int v5)] dX10_fairest_71 rfl (by decide) rfl ?_
    refine z_iload C (q := 75) 0 dX10_fairest_73 rfl rfl ?_
    refine z_if_ge C (tgt := 84) (q := 78) dX10_fairest_75 (by decide) rfl ?_ ?_
    · refine z_iload C (q := 86) 0 dX10_fairest_84 rfl rfl ?_
      refine z_istore C (q := 88) [(6, .int v6_13), (0, .ref (ad 0)), (1, .int v1), (2, .int v2), (3, .int v3), (4, .int v4), (5, .int v5)] dX10_fairest_86 rfl (by decide) rfl ?_
      refine z_iload C (q := 90) 0 dX10_fairest_88 rfl rfl ?_
      refine z_iload C (q := 92) 5 dX10_fairest_90 rfl rfl ?_
      refine z_icmp_ge C (tgt := 100) (q := 95) dX10_fairest_92 (by decide) rfl ?_ ?_
      · refine z_iload_n C (q := 101) 4 dX10_fairest_100 rfl rfl ?_
        refine z_istore_n C (q := 102) [(3, .int v3), (6, .int v6_13), (0, .ref (ad 0)), (1, .int v1), (2, .int v2), (4, .int v4), (5, .int v5)] dX10_fairest_101 rfl rfl (by decide) rfl ?_
        refine z_iload C (q := 104) 1 dX10_fairest_102 rfl rfl ?_
        refine z_iload C (q := 106) 5 dX10_fairest_104 rfl rfl ?_
        refine z_icmp_ge C (tgt := 114) (q := 109) dX10_fairest_106 (by decide) rfl ?_ ?_
        · refine z_iload C (q := 116) 5 dX10_fairest_114 rfl rfl ?_
          refine z_istore C (q := 118) [(4, .int v4), (3, .int v3), (6, .int v6_13), (0, .ref (ad 0)), (1, .int v1), (2, .int v2), (5, .int v5)] dX10_fairest_116 rfl (by decide) rfl ?_
          refine z_iinc C (q := 121) 6 [(5, .int (v5 + 1)), (4, .int v4), (3, .int v3), (6, .int v6_13), (0, .ref (ad 0)), (1, .int v1), (2, .int v2)] dX10_fairest_118 rfl rfl (lt_iinc_1 _) (by decide) rfl ?_
          refine z_goto C (tgt := 42) dX10_fairest_121 (by decide) ?_
          exact z_sub [4, 5, 6, 2, 1, 0] rfl (ih v3 v4 (v5 + 1) s11)
        refine z_iload C (q := 111) 1 dX10_fairest_109 rfl rfl ?_
        refine z_goto C (tgt := 116) dX10_fairest_111 (by decide) ?_
        refine z_istore C (q := 118) [(4, .int v6_13), (3, .int v3), (6, .int v6_13), (0, .ref (ad 0)), (1, .int v1), (2, .int v2), (5, .int v5)] dX10_fairest_116 rfl (by decide) rfl ?_
        refine z_iinc C (q := 121) 6 [(5, .int (v5 + 1)), (4, .int v6_13), (3, .int v3), (6, .int v6_13), (0, .ref (ad 0)), (1, .int v1), (2, .int v2)] dX10_fairest_118 rfl rfl (lt_iinc_1 _) (by decide) rfl ?_
        refine z_goto C (tgt := 42) dX10_fairest_121 (by decide) ?_
        exact z_sub [4, 5, 6, 2, 1, 0] rfl (ih v3 v6_13 (v5 + 1) s11)
      refine z_iload C (q := 97) 6 dX10_fairest_95 rfl rfl ?_
      refine z_goto C (tgt := 101) dX10_fairest_97 (by decide) ?_
      refine z_istore_n C (q := 102) [(3, .int v5), (6, .int v6_13), (0, .ref (ad 0)), (1, .int v1), (2, .int v2), (4, .int v4), (5, .int v5)] dX10_fairest_101 rfl rfl (by decide) rfl ?_
      refine z_iload C (q := 104) 1 dX10_fairest_102 rfl rfl ?_
      refine z_iload C (q := 106) 5 dX10_fairest_104 rfl rfl ?_
      refine z_icmp_ge C (tgt := 114) (q := 109) dX10_fairest_106 (by decide) rfl ?_ ?_
      · refine z_iload C (q := 116) 5 dX10_fairest_114 rfl rfl ?_
        refine z_istore C (q := 118) [(4, .int v4), (3, .int v5), (6, .int v6_13), (0, .ref (ad 0)), (1, .int v1), (2, .int v2), (5, .int v5)] dX10_fairest_116 rfl (by decide) rfl ?_
        refine z_iinc C (q := 121) 6 [(5, .int (v5 + 1)), (4, .int v4), (3, .int v5), (6, .int v6_13), (0, .ref (ad 0)), (1, .int v1), (2, .int v2)] dX10_fairest_118 rfl rfl (lt_iinc_1 _) (by decide) rfl ?_
        refine z_goto C (tgt := 42) dX10_fairest_121 (by decide) ?_
        exact z_sub [4, 5, 6, 2, 1, 0] rfl (ih v5 v4 (v5 + 1) s11)
      refine z_iload C (q := 111) 1 dX10_fairest_109 rfl rfl ?_
      refine z_goto C (tgt := 116) dX10_fairest_111 (by decide) ?_
      refine z_istore C (q := 118) [(4, .int v6_13), (3, .int v5), (6, .int v6_13), (0, .ref (ad 0)), (1, .int v1), (2, .int v2), (5, .int v5)] dX10_fairest_116 rfl (by decide) rfl ?_
      refine z_iinc C (q := 121) 6 [(5, .int (v5 + 1)), (4, .int v6_13), (3, .int v5), (6, .int v6_13), (0, .ref (ad 0)), (1, .int v1), (2, .int v2)] dX10_fairest_118 rfl rfl (lt_iinc_1 _) (by decide) rfl ?_
      refine z_goto C (tgt := 42) dX10_fairest_121 (by decide) ?_
      exact z_sub [4, 5, 6, 2, 1, 0] rfl (ih v5 v6_13 (v5 + 1) s11)
    refine z_iload C (q := 80) 0 dX10_fairest_78 rfl rfl ?_
    refine z_ineg C (q := 81) dX10_fairest_80 rfl ?_
    refine z_goto C (tgt := 86) dX10_fairest_81 (by decide) ?_
    refine z_istore C (q := 88) [(6, .int (-v6_13)), (0, .ref (ad 0)), (1, .int v1), (2, .int v2), (3, .int v3), (4, .int v4), (5, .int v5)] dX10_fairest_86 rfl (by decide) rfl ?_
    refine z_iload C (q := 90) 0 dX10_fairest_88 rfl rfl ?_
    refine z_iload C (q := 92) 5 dX10_fairest_90 rfl rfl ?_
    refine z_icmp_ge C (tgt := 100) (q := 95) dX10_fairest_92 (by decide) rfl ?_ ?_
    · refine z_iload_n C (q := 101) 4 dX10_fairest_100 rfl rfl ?_
      refine z_istore_n C (q := 102) [(3, .int v3), (6, .int (-v6_13)), (0, .ref (ad 0)), (1, .int v1), (2, .int v2), (4, .int v4), (5, .int v5)] dX10_fairest_101 rfl rfl (by decide) rfl ?_
      refine z_iload C (q := 104) 1 dX10_fairest_102 rfl rfl ?_
      refine z_iload C (q := 106) 5 dX10_fairest_104 rfl rfl ?_
      refine z_icmp_ge C (tgt := 114) (q := 109) dX10_fairest_106 (by decide) rfl ?_ ?_
      · refine z_iload C (q := 116) 5 dX10_fairest_114 rfl rfl ?_
        refine z_istore C (q := 118) [(4, .int v4), (3, .int v3), (6, .int (-v6_13)), (0, .ref (ad 0)), (1, .int v1), (2, .int v2), (5, .int v5)] dX10_fairest_116 rfl (by decide) rfl ?_
        refine z_iinc C (q := 121) 6 [(5, .int (v5 + 1)), (4, .int v4), (3, .int v3), (6, .int (-v6_13)), (0, .ref (ad 0)), (1, .int v1), (2, .int v2)] dX10_fairest_118 rfl rfl (lt_iinc_1 _) (by decide) rfl ?_
        refine z_goto C (tgt := 42) dX10_fairest_121 (by decide) ?_
        exact z_sub [4, 5, 6, 2, 1, 0] rfl (ih v3 v4 (v5 + 1) s11)
      refine z_iload C (q := 111) 1 dX10_fairest_109 rfl rfl ?_
      refine z_goto C (tgt := 116) dX10_fairest_111 (by decide) ?_
      refine z_istore C (q := 118) [(4, .int (-v6_13)), (3, .int v3), (6, .int (-v6_13)), (0, .ref (ad 0)), (1, .int v1), (2, .int v2), (5, .int v5)] dX10_fairest_116 rfl (by decide) rfl ?_
      refine z_iinc C (q := 121) 6 [(5, .int (v5 + 1)), (4, .int (-v6_13)), (3, .int v3), (6, .int (-v6_13)), (0, .ref (ad 0)), (1, .int v1), (2, .int v2)] dX10_fairest_118 rfl rfl (lt_iinc_1 _) (by decide) rfl ?_
      refine z_goto C (tgt := 42) dX10_fairest_121 (by decide) ?_
      exact z_sub [4, 5, 6, 2, 1, 0] rfl (ih v3 (-v6_13) (v5 + 1) s11)
    refine z_iload C (q := 97) 6 dX10_fairest_95 rfl rfl ?_
    refine z_goto C (tgt := 101) dX10_fairest_97 (by decide) ?_
    refine z_istore_n C (q := 102) [(3, .int v5), (6, .int (-v6_13)), (0, .ref (ad 0)), (1, .int v1), (2, .int v2), (4, .int v4), (5, .int v5)] dX10_fairest_101 rfl rfl (by decide) rfl ?_
    refine z_iload C (q := 104) 1 dX10_fairest_102 rfl rfl ?_
    refine z_iload C (q := 106) 5 dX10_fairest_104 rfl rfl ?_
    refine z_icmp_ge C (tgt := 114) (q := 109) dX10_fairest_106 (by decide) rfl ?_ ?_
    · refine z_iload C (q := 116) 5 dX10_fairest_114 rfl rfl ?_
      refine z_istore C (q := 118) [(4, .int v4), (3, .int v5), (6, .int (-v6_13)), (0, .ref (ad 0)), (1, .int v1), (2, .int v2), (5, .int v5)] dX10_fairest_116 rfl (by decide) rfl ?_
      refine z_iinc C (q := 121) 6 [(5, .int (v5 + 1)), (4, .int v4), (3, .int v5), (6, .int (-v6_13)), (0, .ref (ad 0)), (1, .int v1), (2, .int v2)] dX10_fairest_118 rfl rfl (lt_iinc_1 _) (by decide) rfl ?_
      refine z_goto C (tgt := 42) dX10_fairest_121 (by decide) ?_
      exact z_sub [4, 5, 6, 2, 1, 0] rfl (ih v5 v4 (v5 + 1) s11)
    refine z_iload C (q := 111) 1 dX10_fairest_109 rfl rfl ?_
    refine z_goto C (tgt := 116) dX10_fairest_111 (by decide) ?_
    refine z_istore C (q := 118) [(4, .int (-v6_13)), (3, .int v5), (6, .int (-v6_13)), (0, .ref (ad 0)), (1, .int v1), (2, .int v2), (5, .int v5)] dX10_fairest_116 rfl (by decide) rfl ?_
    refine z_iinc C (q := 121) 6 [(5, .int (v5 + 1)), (4, .int (-v6_13)), (3, .int v5), (6, .int (-v6_13)), (0, .ref (ad 0)), (1, .int v1), (2, .int v2)] dX10_fairest_118 rfl rfl (lt_iinc_1 _) (by decide) rfl ?_
    refine z_goto C (tgt := 42) dX10_fairest_121 (by decide) ?_
    exact z_sub [4, 5, 6, 2, 1, 0] rfl (ih v5 (-v6_13) (v5 + 1) s11)
set_option maxRecDepth 100000 in
set_option maxHeartbeats 4000000 in
theorem m_X10_fairest (G : gG) {ad : Nat → Nat} (hap : g_ap LM ad)   (v1 : Int32) (s : gS) : g_M G LM ad yX10_fairest cX10_fairest 7 (some .int) 8 [.ref (ad 0), .int v1] s (f_X10_fairest v1 s) := by
  refine g_entry (by decide) hap (Nat.le_of_ble_eq_true rfl) [(0, .ref (ad 0)), (1, .int v1)] rfl (fun X C => ?_)
  unfold f_X10_fairest
  refine z_iload_n C (q := 1) 1 dX10_fairest_0 rfl rfl ?_
  refine z_i2l C (q := 2) dX10_fairest_1 rfl ?_
  refine z_lconst C (q := 3) (v := 0) dX10_fairest_2 rfl rfl ?_
  refine z_lconst C (q := 4) (v := 1) dX10_fairest_3 rfl rfl ?_
  refine z_callS C (q := 7) [.long (v1.toInt64), .long (0 : Int64), .long (1 : Int64)] gl_X10_91 wm_198 (m_X10_in G (g_Kap C) (v1.toInt64) (0 : Int64) (1 : Int64) _) rfl rfl (Nat.le_of_ble_eq_true rfl) ⟨by decide, by decide⟩ dX10_fairest_4 rfl (z_ki (fun r2 s1 => ?_))
  refine z_if_ne C (tgt := 13) (q := 10) dX10_fairest_7 (by decide) rfl ?_ ?_
  · refine z_aload_n C (q := 14) 0 dX10_fairest_13 rfl rfl ?_
    refine z_callV C (q := 17) [] gl_X10_225 glv_X10_cells ob_m rfl (m_X10_cells G (g_Kap C)  _) rfl rfl (Nat.le_of_ble_eq_true rfl) ⟨by decide, by decide⟩ dX10_fairest_14 rfl (z_ki (fun r4 s3 => ?_))
    refine z_if_ne C (tgt := 24) (q := 20) dX10_fairest_17 (by decide) rfl ?_ ?_
    · refine z_aload_n C (q := 25) 0 dX10_fairest_24 rfl rfl ?_
      refine z_getR C (q := 28) ob_m fF_X10_7 rfl dX10_fairest_25 rfl ?_
      refine z_bipush C (q := 30) dX10_fairest_28 rfl lt_bipush_82 ?_
      refine z_iald C (q := 31) ar_m1 dX10_fairest_30 rfl ?_
      refine z_leti (fun v2_5 => ?_)
      refine z_istore_n C (q := 32) [(2, .int v2_5), (0, .ref (ad 0)), (1, .int v1)] dX10_fairest_31 rfl rfl (by decide) rfl ?_
      refine z_iconst C (q := 33) dX10_fairest_32 rfl lt_iconst_m1 ?_
      refine z_istore_n C (q := 34) [(3, .int (-1 : Int32)), (2, .int v2_5), (0, .ref (ad 0)), (1, .int v1)] dX10_fairest_33 rfl rfl (by decide) rfl ?_
      refine z_ldcw C (q := 37) dX10_fairest_34 rfl wm_829 ?_
      refine z_istore C (q := 39) [(4, .int (2000000000 : Int32)), (3, .int (-1 : Int32)), (2, .int v2_5), (0, .ref (ad 0)), (1, .int v1)] dX10_fairest_37 rfl (by decide) rfl ?_
      refine z_iconst C (q := 40) dX10_fairest_39 rfl lt_iconst_0 ?_
      refine z_istore C (q := 42) [(5, .int (0 : Int32)), (4, .int (2000000000 : Int32)), (3, .int (-1 : Int32)), (2, .int v2_5), (0, .ref (ad 0)), (1, .int v1)] dX10_fairest_40 rfl (by decide) rfl ?_
      refine z_sub [4, 5, 3, 2, 1, 0] rfl (l_X10_fairest_42 C v1 v2_5 (fun v3_14 v4_15 v5_16 s17 => ?_) g_N (-1 : Int32) (2000000000 : Int32) (0 : Int32) s3)
      refine z_aload_n C (q := 125) 0 dX10_fairest_124 rfl rfl ?_
      refine z_getR C (q := 128) ob_m fF_X10_7 rfl dX10_fairest_125 rfl ?_
      refine z_bipush C (q := 130) dX10_fairest_128 rfl lt_bipush_82 ?_
      refine z_iload_n C (q := 131) 2 dX10_fairest_130 rfl rfl ?_
      refine z_iast C (q := 132) ar_m1 dX10_fairest_131 rfl (fun s18 => ?_)
      refine z_iload_n C (q := 133) 1 dX10_fairest_132 rfl rfl ?_
      refine z_if_ne C (tgt := 144) (q := 136) dX10_fairest_133 (by decide) rfl ?_ ?_
      · refine z_iload C (q := 146) 4 dX10_fairest_144 rfl rfl ?_
        exact z_iret C dX10_fairest_146
      refine z_aload_n C (q := 137) 0 dX10_fairest_136 rfl rfl ?_
      refine z_iload_n C (q := 138) 3 dX10_fairest_137 rfl rfl ?_
      refine z_callV C (q := 141) [.int v3_14] gl_X10_235 glv_X10_named ob_m rfl (m_X10_named G (g_Kap C) v3_14 _) rfl rfl (Nat.le_of_ble_eq_true rfl) ⟨by decide, by decide⟩ dX10_fairest_138 rfl (z_ki (fun r20 s19 => ?_))
      refine z_goto C (tgt := 146) dX10_fairest_141 (by decide) ?_
      exact z_iret C dX10_fairest_146
    refine z_ldcw C (q := 23) dX10_fairest_20 rfl wm_605 ?_
    exact z_iret C dX10_fairest_23
  refine z_ldc C (q := 12) dX10_fairest_10 rfl wm_193 ?_
  exact z_iret C dX10_fairest_12
set_option maxRecDepth 100000 in
set_option maxHeartbeats 4000000 in
theorem l_X10_watch_61 {G : gG} {X : gX} {ad : Nat → Nat} (C : g_K G X LM ad cX10_watch 9 RX10 (some .int) 6)   (v1 : Int32) (v2 : Int32) (v3 : Int32) (v4 : Int64) (v6 : Int32) {k : Int32 → Int32 → gS → gR} (hk : ∀ (v7 : Int32) (v8 : Int32) (s : gS), g_Z G X LM ad 9 103 [(0, .ref (ad 0)), (1, .int v1), (2, .int v2), (3, .int v3), (4, .long v4), (6, .int v6), (7, .int v7)] [] s (k v7 v8 s)) : ∀ (n : Nat) (v7 : Int32) (v8 : Int32) (s : gS), g_Z G X LM ad 9 61 [(0, .ref (ad 0)), (1, .int v1), (2, .int v2), (3, .int v3), (4, .long v4), (6, .int v6), (7, .int v7), (8, .int v8)] [] s (f_X10_watch_61 v1 v2 v3 v4 v6 k n v7 v8 s) := by
  intro n
  induction n with
  | zero => intros; exact z_none
  | succ n ih =>
    intro v7 v8 s
    rw [f_X10_watch_61.eq_2]
    refine z_iload C (q := 63) 7 dX10_watch_61 rfl rfl ?_
    refine z_aload_n C (q := 64) 0 dX10_watch_63 rfl rfl ?_
    refine z_callV C (q := 67) [] gl_X10_225 glv_X10_cells ob_m rfl (m_X10_cells G (g_Kap C)  _) rfl rfl (Nat.le_of_ble_eq_true rfl) ⟨by decide, by decide⟩ dX10_watch_64 rfl (z_ki (fun r8 s7 => ?_))
    refine z_icmp_ge C (tgt := 103) (q := 70) dX10_watch_67 (by decide) rfl ?_ ?_
    · exact z_sub [0, 1, 2, 3, 4, 5, 6] rfl (hk v7 v8 s7)
    refine z_aload_n C (q := 71) 0 dX10_watch_70 rfl rfl ?_
    refine z_getR C (q := 74) ob_m fF_X10_69 rfl dX10_watch_71 rfl ?_
    refine z_iload C (q := 76) 7 dX10_watch_74 rfl rfl ?_
    refine z_lald C (q := 77) ar_m18 dX10_watch_76 rfl ?_
    refine z_aload_n C (q := 78) 0 dX10_watch_77 rfl rfl ?_
    refine z_getR C (q := 81) ob_m fF_X10_69 rfl dX10_watch_78 rfl ?_
    refine z_iload C (q := 83) 6 dX10_watch_81 rfl rfl ?_
    refine z_lald C (q := 84) ar_m18 dX10_watch_83 rfl ?_
    refine z_lcmp C (q := 85) dX10_watch_84 rfl ?_
    refine z_if_le C (tgt := 93) (q := 88) dX10_watch_85 (by decide) rfl ?_ ?_
    · refine z_iload C (q := 95) 6 dX10_watch_93 rfl rfl ?_
      refine z_istore C (q := 97) [(7, .int v7), (0, .ref (ad 0)), (1, .int v1), (2, .int v2), (3, .int v3), (4, .long v4), (6, .int v6), (8, .int v8)] dX10_watch_95 rfl (by decide) rfl ?_
      refine z_iinc C (q := 100) 7 [(8, .int (v8 + 1)), (7, .int v7), (0, .ref (ad 0)), (1, .int v1), (2, .int v2), (3, .int v3), (4, .long v4), (6, .int v6)] dX10_watch_97 rfl rfl (lt_iinc_1 _) (by decide) rfl ?_
      refine z_goto C (tgt := 61) dX10_watch_100 (by decide) ?_
      exact z_sub [2, 3, 4, 5, 6, 7, 1, 0] rfl (ih v7 (v8 + 1) s7)
    refine z_iload C (q := 90) 7 dX10_watch_88 rfl rfl ?_
    refine z_goto C (tgt := 95) dX10_watch_90 (by decide) ?_
    refine z_istore C (q := 97) [(7, .int v8), (0, .ref (ad 0)), (1, .int v1), (2, .int v2), (3, .int v3), (4, .long v4), (6, .int v6), (8, .int v8)] dX10_watch_95 rfl (by decide) rfl ?_
    refine z_iinc C (q := 100) 7 [(8, .int (v8 + 1)), (7, .int v8), (0, .ref (ad 0)), (1, .int v1), (2, .int v2), (3, .int v3), (4, .long v4), (6, .int v6)] dX10_watch_97 rfl rfl (lt_iinc_1 _) (by decide) rfl ?_
    refine z_goto C (tgt := 61) dX10_watch_100 (by decide) ?_
    exact z_sub [2, 3, 4, 5, 6, 7, 1, 0] rfl (ih v8 (v8 + 1) s7)
set_option maxRecDepth 100000 in
set_option maxHeartbeats 4000000 in
theorem l_X10_watch_42 {G : gG} {X : gX} {ad : Nat → Nat} (C : g_K G X LM ad cX10_watch 9 RX10 (some .int) 6)   (v1 : Int32) {k : Int32 → Int32 → Int64 → Int32 → gS → gR} (hk : ∀ (v2 : Int32) (v3 : Int32) (v4 : Int64) (v6 : Int32) (s : gS), g_Z G X LM ad 9 137 [(0, .ref (ad 0)), (1, .int v1), (2, .int v2), (3, .int v3), (4, .long v4)] [] s (k v2 v3 v4 v6 s)) : ∀ (n : Nat) (v2 : Int32) (v3 : Int32) (v4 : Int64) (v6 : Int32) (s : gS), g_Z G X LM ad 9 42 [(0, .ref (ad 0)), (1, .int v1), (2, .int v2), (3, .int v3), (4, .long v4), (6, .int v6)] [] s (f_X10_watch_42 v1 k n v2 v3 v4 v6 s) := by
  intro n
  induction n with
  | zero => intros; exact z_none
  | succ n ih =>
    intro v2 v3 v4 v6 s
    rw [f_X10_watch_42.eq_2]
    refine z_iload C (q := 44) 5 dX10_watch_42 rfl rfl ?_
    refine z_aload_n C (q := 45) 0 dX10_watch_44 rfl rfl ?_
    refine z_getI C (q := 48) ob_m fF_X10_26 rfl dX10_watch_45 rfl ?_
    refine z_icmp_gt C (tgt := 137) (q := 51) dX10_watch_48 (by decide) rfl ?_ ?_
    · exact z_sub [0, 1, 2, 3, 4] rfl (hk v2 v3 v4 v6 s)
    refine z_aload_n C (q := 52) 0 dX10_watch_51 rfl rfl ?_
    refine z_callV C (q := 55) [] gl_X10_292 glv_X10_goOdds ob_m rfl (m_X10_goOdds G (g_Kap C)  _) rfl rfl (Nat.le_of_ble_eq_true rfl) ⟨by decide, by decide⟩ dX10_watch_52 rfl (z_kv (fun s6 => ?_))
    refine z_iconst C (q := 56) dX10_watch_55 rfl lt_iconst_0 ?_
    refine z_istore C (q := 58) [(7, .int (0 : Int32)), (0, .ref (ad 0)), (1, .int v1), (2, .int v2), (3, .int v3), (4, .long v4), (6, .int v6)] dX10_watch_56 rfl (by decide) rfl ?_
    refine z_iconst C (q := 59) dX10_watch_58 rfl lt_iconst_1 ?_
    refine z_istore C (q := 61) [(8, .int (1 : Int32)), (7, .int (0 : Int32)), (0, .ref (ad 0)), (1, .int v1), (2, .int v2), (3, .int v3), (4, .long v4), (6, .int v6)] dX10_watch_59 rfl (by decide) rfl ?_
    refine z_sub [2, 3, 4, 5, 6, 7, 1, 0] rfl (l_X10_watch_61 C v1 v2 v3 v4 v6 (fun v7_9 v8_10 s11 => ?_) g_N (0 : Int32) (1 : Int32) s6)
    refine z_aload_n C (q := 104) 0 dX10_watch_103 rfl rfl ?_
    refine z_getR C (q := 107) ob_m fF_X10_69 rfl dX10_watch_104 rfl ?_
    refine z_iload C (q := 109) 6 dX10_watch_107 rfl rfl ?_
    refine z_lald C (q := 110) ar_m18 dX10_watch_109 rfl ?_
    refine z_lload C (q := 112) 4 dX10_watch_110 rfl rfl ?_
    refine z_lcmp C (q := 113) dX10_watch_112 rfl ?_
    refine z_if_lt C (tgt := 131) (q := 116) dX10_watch_113 (by decide) rfl ?_ ?_
    · refine z_iinc C (q := 134) 5 [(6, .int (v6 + 1)), (0, .ref (ad 0)), (1, .int v1), (2, .int v2), (3, .int v3), (4, .long v4), (7, .int v7_9)] dX10_watch_131 rfl rfl (lt_iinc_1 _) (by decide) rfl ?_
      refine z_goto C (tgt := 42) dX10_watch_134 (by decide) ?_
      exact z_sub [1, 2, 3, 4, 5, 0] rfl (ih v2 v3 v4 (v6 + 1) s11)
    refine z_aload_n C (q := 117) 0 dX10_watch_116 rfl rfl ?_
    refine z_getR C (q := 120) ob_m fF_X10_69 rfl dX10_watch_117 rfl ?_
    refine z_iload C (q := 122) 6 dX10_watch_120 rfl rfl ?_
    refine z_lald C (q := 123) ar_m18 dX10_watch_122 rfl ?_
    refine z_letl (fun v4_12 => ?_)
    refine z_lstore C (q := 125) [(4, .long v4_12), (0, .ref (ad 0)), (1, .int v1), (2, .int v2), (3, .int v3), (6, .int v6), (7, .int v7_9)] dX10_watch_123 rfl (by decide) rfl ?_
    refine z_iload C (q := 127) 5 dX10_watch_125 rfl rfl ?_
    refine z_istore_n C (q := 128) [(2, .int v6), (4, .long v4_12), (0, .ref (ad 0)), (1, .int v1), (3, .int v3), (6, .int v6), (7, .int v7_9)] dX10_watch_127 rfl rfl (by decide) rfl ?_
    refine z_iload C (q := 130) 6 dX10_watch_128 rfl rfl ?_
    refine z_istore_n C (q := 131) [(3, .int v7_9), (2, .int v6), (4, .long v4_12), (0, .ref (ad 0)), (1, .int v1), (6, .int v6), (7, .int v7_9)] dX10_watch_130 rfl rfl (by decide) rfl ?_
    refine z_iinc C (q := 134) 5 [(6, .int (v6 + 1)), (3, .int v7_9), (2, .int v6), (4, .long v4_12), (0, .ref (ad 0)), (1, .int v1), (7, .int v7_9)] dX10_watch_131 rfl rfl (lt_iinc_1 _) (by decide) rfl ?_
    refine z_goto C (tgt := 42) dX10_watch_134 (by decide) ?_
    exact z_sub [4, 5, 2, 1, 3, 0] rfl (ih v6 v7_9 v4_12 (v6 + 1) s11)
set_option maxRecDepth 100000 in
set_option maxHeartbeats 4000000 in
theorem m_X10_watch (G : gG) {ad : Nat → Nat} (hap : g_ap LM ad)   (v1 : Int32) (s : gS) : g_M G LM ad yX10_watch cX10_watch 9 (some .int) 6 [.ref (ad 0), .int v1] s (f_X10_watch v1 s) := by
  refine g_entry (by decide) hap (Nat.le_of_ble_eq_true rfl) [(0, .ref (ad 0)), (1, .int v1)] rfl (fun X C => ?_)
  unfold f_X10_watch
  refine z_iload_n C (q := 1) 1 dX10_watch_0 rfl rfl ?_
  refine z_i2l C (q := 2) dX10_watch_1 rfl ?_
  refine z_lconst C (q := 3) (v := 0) dX10_watch_2 rfl rfl ?_
  refine z_ldc2 C (q := 6) dX10_watch_3 rfl wm_634 ?_
  refine z_callS C (q := 9) [.long (v1.toInt64), .long (0 : Int64), .long (2 : Int64)] gl_X10_91 wm_198 (m_X10_in G (g_Kap C) (v1.toInt64) (0 : Int64) (2 : Int64) _) rfl rfl (Nat.le_of_ble_eq_true rfl) ⟨by decide, by decide⟩ dX10_watch_6 rfl (z_ki (fun r2 s1 => ?_))
  refine z_if_ne C (tgt := 15) (q := 12) dX10_watch_9 (by decide) rfl ?_ ?_
  · refine z_aload_n C (q := 16) 0 dX10_watch_15 rfl rfl ?_
    refine z_callV C (q := 19) [] gl_X10_225 glv_X10_cells ob_m rfl (m_X10_cells G (g_Kap C)  _) rfl rfl (Nat.le_of_ble_eq_true rfl) ⟨by decide, by decide⟩ dX10_watch_16 rfl (z_ki (fun r4 s3 => ?_))
    refine z_if_ne C (tgt := 26) (q := 22) dX10_watch_19 (by decide) rfl ?_ ?_
    · refine z_aload_n C (q := 27) 0 dX10_watch_26 rfl rfl ?_
      refine z_callV C (q := 30) [] gl_X10_289 glv_X10_startOdds ob_m rfl (m_X10_startOdds G (g_Kap C)  _) rfl rfl (Nat.le_of_ble_eq_true rfl) ⟨by decide, by decide⟩ dX10_watch_27 rfl (z_kv (fun s5 => ?_))
      refine z_iconst C (q := 31) dX10_watch_30 rfl lt_iconst_0 ?_
      refine z_istore_n C (q := 32) [(2, .int (0 : Int32)), (0, .ref (ad 0)), (1, .int v1)] dX10_watch_31 rfl rfl (by decide) rfl ?_
      refine z_iconst C (q := 33) dX10_watch_32 rfl lt_iconst_m1 ?_
      refine z_istore_n C (q := 34) [(3, .int (-1 : Int32)), (2, .int (0 : Int32)), (0, .ref (ad 0)), (1, .int v1)] dX10_watch_33 rfl rfl (by decide) rfl ?_
      refine z_ldc2 C (q := 37) dX10_watch_34 rfl wm_847 ?_
      refine z_lstore C (q := 39) [(4, .long (-1 : Int64)), (3, .int (-1 : Int32)), (2, .int (0 : Int32)), (0, .ref (ad 0)), (1, .int v1)] dX10_watch_37 rfl (by decide) rfl ?_
      refine z_iconst C (q := 40) dX10_watch_39 rfl lt_iconst_1 ?_
      refine z_istore C (q := 42) [(6, .int (1 : Int32)), (4, .long (-1 : Int64)), (3, .int (-1 : Int32)), (2, .int (0 : Int32)), (0, .ref (ad 0)), (1, .int v1)] dX10_watch_40 rfl (by decide) rfl ?_
      refine z_sub [4, 5, 3, 2, 1, 0] rfl (l_X10_watch_42 C v1 (fun v2_13 v3_14 v4_15 v6_16 s17 => ?_) g_N (0 : Int32) (-1 : Int32) (-1 : Int64) (1 : Int32) s5)
      refine z_iload_n C (q := 138) 1 dX10_watch_137 rfl rfl ?_
      refine z_if_ne C (tgt := 145) (q := 141) dX10_watch_138 (by decide) rfl ?_ ?_
      · refine z_iload_n C (q := 146) 1 dX10_watch_145 rfl rfl ?_
        refine z_iconst C (q := 147) dX10_watch_146 rfl lt_iconst_1 ?_
        refine z_icmp_ne C (tgt := 158) (q := 150) dX10_watch_147 (by decide) rfl ?_ ?_
        · refine z_lload C (q := 160) 4 dX10_watch_158 rfl rfl ?_
          refine z_l2i C (q := 161) dX10_watch_160 rfl ?_
          exact z_iret C dX10_watch_161
        refine z_aload_n C (q := 151) 0 dX10_watch_150 rfl rfl ?_
        refine z_iload_n C (q := 152) 3 dX10_watch_151 rfl rfl ?_
        refine z_callV C (q := 155) [.int v3_14] gl_X10_235 glv_X10_named ob_m rfl (m_X10_named G (g_Kap C) v3_14 _) rfl rfl (Nat.le_of_ble_eq_true rfl) ⟨by decide, by decide⟩ dX10_watch_152 rfl (z_ki (fun r19 s18 => ?_))
        refine z_goto C (tgt := 161) dX10_watch_155 (by decide) ?_
        exact z_iret C dX10_watch_161
      refine z_iload_n C (q := 142) 2 dX10_watch_141 rfl rfl ?_
      refine z_goto C (tgt := 161) dX10_watch_142 (by decide) ?_
      exact z_iret C dX10_watch_161
    refine z_ldcw C (q := 25) dX10_watch_22 rfl wm_605 ?_
    exact z_iret C dX10_watch_25
  refine z_ldc C (q := 14) dX10_watch_12 rfl wm_193 ?_
  exact z_iret C dX10_watch_14
set_option maxRecDepth 100000 in
set_option maxHeartbeats 4000000 in
theorem m_X10_see (G : gG) {ad : Nat → Nat} (hap : g_ap LM ad)   (v1 : Int32) (v2 : Int32) (v3 : Int32) (s : gS) : g_M G LM ad yX10_see cX10_see 4 (some .int) 2 [.ref (ad 0), .int v1, .int v2, .int v3] s (f_X10_see v1 v2 v3 s) := by
  refine g_entry (by decide) hap (Nat.le_of_ble_eq_true rfl) [(0, .ref (ad 0)), (1, .int v1), (2, .int v2), (3, .int v3)] rfl (fun X C => ?_)
  unfold f_X10_see
  refine z_aload_n C (q := 1) 0 dX10_see_0 rfl rfl ?_
  refine z_iload_n C (q := 2) 1 dX10_see_1 rfl rfl ?_
  refine z_iload_n C (q := 3) 2 dX10_see_2 rfl rfl ?_
  refine z_callV C (q := 6) [.int v1, .int v2] gl_X10_239 glv_X10_isCell ob_m rfl (m_X10_isCell G (g_Kap C) v1 v2 _) rfl rfl (Nat.le_of_ble_eq_true rfl) ⟨by decide, by decide⟩ dX10_see_3 rfl (z_ki (fun r2 s1 => ?_))
  refine z_if_ne C (tgt := 12) (q := 9) dX10_see_6 (by decide) rfl ?_ ?_
  · refine z_iload_n C (q := 13) 3 dX10_see_12 rfl rfl ?_
    refine z_i2l C (q := 14) dX10_see_13 rfl ?_
    refine z_lconst C (q := 15) (v := 0) dX10_see_14 rfl rfl ?_
    refine z_ldc2 C (q := 18) dX10_see_15 rfl wm_711 ?_
    refine z_callS C (q := 21) [.long (v3.toInt64), .long (0 : Int64), .long (12 : Int64)] gl_X10_91 wm_198 (m_X10_in G (g_Kap C) (v3.toInt64) (0 : Int64) (12 : Int64) _) rfl rfl (Nat.le_of_ble_eq_true rfl) ⟨by decide, by decide⟩ dX10_see_18 rfl (z_ki (fun r4 s3 => ?_))
    refine z_if_ne C (tgt := 27) (q := 24) dX10_see_21 (by decide) rfl ?_ ?_
    · refine z_aload_n C (q := 28) 0 dX10_see_27 rfl rfl ?_
      refine z_getI C (q := 31) ob_m fF_X10_229 rfl dX10_see_28 rfl ?_
      refine z_bipush C (q := 33) dX10_see_31 rfl lt_bipush_10 ?_
      refine z_icmp_ne C (tgt := 39) (q := 36) dX10_see_33 (by decide) rfl ?_ ?_
      · refine z_aload_n C (q := 40) 0 dX10_see_39 rfl rfl ?_
        refine z_getR C (q := 43) ob_m fF_X10_33 rfl dX10_see_40 rfl ?_
        refine z_aload_n C (q := 44) 0 dX10_see_43 rfl rfl ?_
        refine z_getI C (q := 47) ob_m fF_X10_229 rfl dX10_see_44 rfl ?_
        refine z_aload_n C (q := 48) 0 dX10_see_47 rfl rfl ?_
        refine z_getI C (q := 51) ob_m fF_X10_85 rfl dX10_see_48 rfl ?_
        refine z_iload_n C (q := 52) 2 dX10_see_51 rfl rfl ?_
        refine z_imul C (q := 53) dX10_see_52 rfl ?_
        refine z_iload_n C (q := 54) 1 dX10_see_53 rfl rfl ?_
        refine z_iadd C (q := 55) dX10_see_54 rfl ?_
        refine z_iast C (q := 56) ar_m7 dX10_see_55 rfl (fun s5 => ?_)
        refine z_aload_n C (q := 57) 0 dX10_see_56 rfl rfl ?_
        refine z_getR C (q := 60) ob_m fF_X10_36 rfl dX10_see_57 rfl ?_
        refine z_aload_n C (q := 61) 0 dX10_see_60 rfl rfl ?_
        refine z_getI C (q := 64) ob_m fF_X10_229 rfl dX10_see_61 rfl ?_
        refine z_iload_n C (q := 65) 3 dX10_see_64 rfl rfl ?_
        refine z_iast C (q := 66) ar_m8 dX10_see_65 rfl (fun s6 => ?_)
        refine z_aload_n C (q := 67) 0 dX10_see_66 rfl rfl ?_
        refine z_dup C (q := 68) dX10_see_67 rfl rfl ?_
        refine z_getI C (q := 71) ob_m fF_X10_229 rfl dX10_see_68 rfl ?_
        refine z_iconst C (q := 72) dX10_see_71 rfl lt_iconst_1 ?_
        refine z_iadd C (q := 73) dX10_see_72 rfl ?_
        refine z_putI C (q := 76) ob_m fP_X10_229 rfl dX10_see_73 rfl (fun s7 => ?_)
        refine z_aload_n C (q := 77) 0 dX10_see_76 rfl rfl ?_
        refine z_getI C (q := 80) ob_m fF_X10_229 rfl dX10_see_77 rfl ?_
        exact z_iret C dX10_see_80
      refine z_ldc C (q := 38) dX10_see_36 rfl wm_195 ?_
      exact z_iret C dX10_see_38
    refine z_ldc C (q := 26) dX10_see_24 rfl wm_193 ?_
    exact z_iret C dX10_see_26
  refine z_ldc C (q := 11) dX10_see_9 rfl wm_524 ?_
  exact z_iret C dX10_see_11
set_option maxRecDepth 100000 in
set_option maxHeartbeats 4000000 in
theorem l_X10_fit_12 {G : gG} {X : gX} {ad : Nat → Nat} (C : g_K G X LM ad cX10_fit 4 RX10 none 0)   (v1 : Int32) (v2 : Int32) {k : Int32 → gS → gR} (hk : ∀ (v3 : Int32) (s : gS), g_Z G X LM ad 4 64 [(0, .ref (ad 0)), (1, .int v1), (2, .int v2)] [] s (k v3 s)) : ∀ (n : Nat) (v3 : Int32) (s : gS), g_Z G X LM ad 4 12 [(0, .ref (ad 0)), (1, .int v1), (2, .int v2), (3, .int v3)] [] s (f_X10_fit_12 v1 v2 k n v3 s) := by
  intro n
  induction n with
  | zero => intros; exact z_none
  | succ n ih =>
    intro v3 s
    rw [f_X10_fit_12.eq_2]
    refine z_iload_n C (q := 13) 3 dX10_fit_12 rfl rfl ?_
    refine z_bipush C (q := 15) dX10_fit_13 rfl lt_bipush_40 ?_
    refine z_icmp_ge C (tgt := 64) (q := 18) dX10_fit_15 (by decide) rfl ?_ ?_
    · exact z_sub [0, 1, 2] rfl (hk v3 s)
    refine z_aload_n C (q := 19) 0 dX10_fit_18 rfl rfl ?_
    refine z_getR C (q := 22) ob_m fF_X10_36 rfl dX10_fit_19 rfl ?_
    refine z_iload_n C (q := 23) 2 dX10_fit_22 rfl rfl ?_
    refine z_iald C (q := 24) ar_m8 dX10_fit_23 rfl ?_
    refine z_iload_n C (q := 25) 1 dX10_fit_24 rfl rfl ?_
    refine z_icmp_ne C (tgt := 64) (q := 28) dX10_fit_25 (by decide) rfl ?_ ?_
    · exact z_sub [0, 1, 2] rfl (hk v3 s)
    refine z_aload_n C (q := 29) 0 dX10_fit_28 rfl rfl ?_
    refine z_getR C (q := 32) ob_m fF_X10_79 rfl dX10_fit_29 rfl ?_
    refine z_iload_n C (q := 33) 3 dX10_fit_32 rfl rfl ?_
    refine z_aload_n C (q := 34) 0 dX10_fit_33 rfl rfl ?_
    refine z_getR C (q := 37) ob_m fF_X10_79 rfl dX10_fit_34 rfl ?_
    refine z_iload_n C (q := 38) 3 dX10_fit_37 rfl rfl ?_
    refine z_zald C (q := 39) ar_m21 dX10_fit_38 rfl ?_
    refine z_if_eq C (tgt := 56) (q := 42) dX10_fit_39 (by decide) rfl ?_ ?_
    · refine z_iconst C (q := 57) dX10_fit_56 rfl lt_iconst_0 ?_
      refine z_zast C (q := 58) ar_m21 dX10_fit_57 rfl (fun s1 => ?_)
      refine z_iinc C (q := 61) 3 [(3, .int (v3 + 1)), (0, .ref (ad 0)), (1, .int v1), (2, .int v2)] dX10_fit_58 rfl rfl (lt_iinc_1 _) (by decide) rfl ?_
      refine z_goto C (tgt := 12) dX10_fit_61 (by decide) ?_
      exact z_sub [1, 2, 3, 0] rfl (ih (v3 + 1) s1)
    refine z_iload_n C (q := 43) 3 dX10_fit_42 rfl rfl ?_
    refine z_aload_n C (q := 44) 0 dX10_fit_43 rfl rfl ?_
    refine z_getR C (q := 47) ob_m fF_X10_33 rfl dX10_fit_44 rfl ?_
    refine z_iload_n C (q := 48) 2 dX10_fit_47 rfl rfl ?_
    refine z_iald C (q := 49) ar_m7 dX10_fit_48 rfl ?_
    refine z_icmp_ne C (tgt := 56) (q := 52) dX10_fit_49 (by decide) rfl ?_ ?_
    · refine z_iconst C (q := 57) dX10_fit_56 rfl lt_iconst_0 ?_
      refine z_zast C (q := 58) ar_m21 dX10_fit_57 rfl (fun s2 => ?_)
      refine z_iinc C (q := 61) 3 [(3, .int (v3 + 1)), (0, .ref (ad 0)), (1, .int v1), (2, .int v2)] dX10_fit_58 rfl rfl (lt_iinc_1 _) (by decide) rfl ?_
      refine z_goto C (tgt := 12) dX10_fit_61 (by decide) ?_
      exact z_sub [1, 2, 3, 0] rfl (ih (v3 + 1) s2)
    refine z_iconst C (q := 53) dX10_fit_52 rfl lt_iconst_1 ?_
    refine z_goto C (tgt := 57) dX10_fit_53 (by decide) ?_
    refine z_zast C (q := 58) ar_m21 dX10_fit_57 rfl (fun s3 => ?_)
    refine z_iinc C (q := 61) 3 [(3, .int (v3 + 1)), (0, .ref (ad 0)), (1, .int v1), (2, .int v2)] dX10_fit_58 rfl rfl (lt_iinc_1 _) (by decide) rfl ?_
    refine z_goto C (tgt := 12) dX10_fit_61 (by decide) ?_
    exact z_sub [1, 2, 3, 0] rfl (ih (v3 + 1) s3)
set_option maxRecDepth 100000 in
set_option maxHeartbeats 4000000 in
theorem l_X10_fit_2 {G : gG} {X : gX} {ad : Nat → Nat} (C : g_K G X LM ad cX10_fit 4 RX10 none 0)   (v1 : Int32) {k : Int32 → gS → gR} (hk : ∀ (v2 : Int32) (s : gS), g_Z G X LM ad 4 70 [] [] s (k v2 s)) : ∀ (n : Nat) (v2 : Int32) (s : gS), g_Z G X LM ad 4 2 [(0, .ref (ad 0)), (1, .int v1), (2, .int v2)] [] s (f_X10_fit_2 v1 k n v2 s) := by
  intro n
  induction n with
  | zero => intros; exact z_none
  | succ n ih =>
    intro v2 s
    rw [f_X10_fit_2.eq_2]
    refine z_iload_n C (q := 3) 2 dX10_fit_2 rfl rfl ?_
    refine z_aload_n C (q := 4) 0 dX10_fit_3 rfl rfl ?_
    refine z_getI C (q := 7) ob_m fF_X10_229 rfl dX10_fit_4 rfl ?_
    refine z_icmp_ge C (tgt := 70) (q := 10) dX10_fit_7 (by decide) rfl ?_ ?_
    · exact z_sub [] rfl (hk v2 s)
    refine z_iconst C (q := 11) dX10_fit_10 rfl lt_iconst_0 ?_
    refine z_istore_n C (q := 12) [(3, .int (0 : Int32)), (0, .ref (ad 0)), (1, .int v1), (2, .int v2)] dX10_fit_11 rfl rfl (by decide) rfl ?_
    refine z_sub [1, 2, 3, 0] rfl (l_X10_fit_12 C v1 v2 (fun v3_4 s5 => ?_) g_N (0 : Int32) s)
    refine z_iinc C (q := 67) 2 [(2, .int (v2 + 1)), (0, .ref (ad 0)), (1, .int v1)] dX10_fit_64 rfl rfl (lt_iinc_1 _) (by decide) rfl ?_
    refine z_goto C (tgt := 2) dX10_fit_67 (by decide) ?_
    exact z_sub [1, 2, 0] rfl (ih (v2 + 1) s5)
set_option maxRecDepth 100000 in
set_option maxHeartbeats 4000000 in
theorem m_X10_fit (G : gG) {ad : Nat → Nat} (hap : g_ap LM ad)   (v1 : Int32) (s : gS) : g_M G LM ad yX10_fit cX10_fit 4 none 0 [.ref (ad 0), .int v1] s (f_X10_fit v1 s) := by
  refine g_entry (by decide) hap (Nat.le_of_ble_eq_true rfl) [(0, .ref (ad 0)), (1, .int v1)] rfl (fun X C => ?_)
  unfold f_X10_fit
  refine z_iconst C (q := 1) dX10_fit_0 rfl lt_iconst_0 ?_
  refine z_istore_n C (q := 2) [(2, .int (0 : Int32)), (0, .ref (ad 0)), (1, .int v1)] dX10_fit_1 rfl rfl (by decide) rfl ?_
  refine z_sub [1, 2, 0] rfl (l_X10_fit_2 C v1 (fun v2_6 s7 => ?_) g_N (0 : Int32) s)
  exact z_vret C dX10_fit_70
set_option maxRecDepth 100000 in
set_option maxHeartbeats 4000000 in
theorem l_X10_findCan_2 {G : gG} {X : gX} {ad : Nat → Nat} (C : g_K G X LM ad cX10_findCan 4 RX10 none 3)    {k : Int32 → gS → gR} (hk : ∀ (v1 : Int32) (s : gS), g_Z G X LM ad 4 36 [(0, .ref (ad 0))] [] s (k v1 s)) : ∀ (n : Nat) (v1 : Int32) (s : gS), g_Z G X LM ad 4 2 [(0, .ref (ad 0)), (1, .int v1)] [] s (f_X10_findCan_2  k n v1 s) := by
  intro n
  induction n with
  | zero => intros; exact z_none
  | succ n ih =>
    intro v1 s
    rw [f_X10_findCan_2.eq_2]
    refine z_iload_n C (q := 3) 1 dX10_findCan_2 rfl rfl ?_
    refine z_bipush C (q := 5) dX10_findCan_3 rfl lt_bipush_40 ?_
    refine z_icmp_ge C (tgt := 36) (q := 8) dX10_findCan_5 (by decide) rfl ?_ ?_
    · exact z_sub [0] rfl (hk v1 s)
    refine z_aload_n C (q := 9) 0 dX10_findCan_8 rfl rfl ?_
    refine z_getR C (q := 12) ob_m fF_X10_79 rfl dX10_findCan_9 rfl ?_
    refine z_iload_n C (q := 13) 1 dX10_findCan_12 rfl rfl ?_
    refine z_iload_n C (q := 14) 1 dX10_findCan_13 rfl rfl ?_
    refine z_aload_n C (q := 15) 0 dX10_findCan_14 rfl rfl ?_
    refine z_getR C (q := 18) ob_m fF_X10_7 rfl dX10_findCan_15 rfl ?_
    refine z_bipush C (q := 20) dX10_findCan_18 rfl lt_bipush_80 ?_
    refine z_iald C (q := 21) ar_m1 dX10_findCan_20 rfl ?_
    refine z_icmp_ne C (tgt := 28) (q := 24) dX10_findCan_21 (by decide) rfl ?_ ?_
    · refine z_iconst C (q := 29) dX10_findCan_28 rfl lt_iconst_0 ?_
      refine z_zast C (q := 30) ar_m21 dX10_findCan_29 rfl (fun s1 => ?_)
      refine z_iinc C (q := 33) 1 [(1, .int (v1 + 1)), (0, .ref (ad 0))] dX10_findCan_30 rfl rfl (lt_iinc_1 _) (by decide) rfl ?_
      refine z_goto C (tgt := 2) dX10_findCan_33 (by decide) ?_
      exact z_sub [1, 0] rfl (ih (v1 + 1) s1)
    refine z_iconst C (q := 25) dX10_findCan_24 rfl lt_iconst_1 ?_
    refine z_goto C (tgt := 29) dX10_findCan_25 (by decide) ?_
    refine z_zast C (q := 30) ar_m21 dX10_findCan_29 rfl (fun s2 => ?_)
    refine z_iinc C (q := 33) 1 [(1, .int (v1 + 1)), (0, .ref (ad 0))] dX10_findCan_30 rfl rfl (lt_iinc_1 _) (by decide) rfl ?_
    refine z_goto C (tgt := 2) dX10_findCan_33 (by decide) ?_
    exact z_sub [1, 0] rfl (ih (v1 + 1) s2)
set_option maxRecDepth 100000 in
set_option maxHeartbeats 4000000 in
theorem l_X10_findCan_53 {G : gG} {X : gX} {ad : Nat → Nat} (C : g_K G X LM ad cX10_findCan 4 RX10 none 3)   (v1 : Int32) {k : Int32 → gS → gR} (hk : ∀ (v2 : Int32) (s : gS), g_Z G X LM ad 4 72 [(0, .ref (ad 0)), (1, .int v1)] [] s (k v2 s)) : ∀ (n : Nat) (v2 : Int32) (s : gS), g_Z G X LM ad 4 53 [(0, .ref (ad 0)), (1, .int v1), (2, .int v2)] [] s (f_X10_findCan_53 v1 k n v2 s) := by
  intro n
  induction n with
  | zero => intros; exact z_none
  | succ n ih =>
    intro v2 s
    rw [f_X10_findCan_53.eq_2]
    refine z_iload_n C (q := 54) 2 dX10_findCan_53 rfl rfl ?_
    refine z_bipush C (q := 56) dX10_findCan_54 rfl lt_bipush_40 ?_
    refine z_icmp_ge C (tgt := 72) (q := 59) dX10_findCan_56 (by decide) rfl ?_ ?_
    · exact z_sub [0, 1] rfl (hk v2 s)
    refine z_aload_n C (q := 60) 0 dX10_findCan_59 rfl rfl ?_
    refine z_getR C (q := 63) ob_m fF_X10_82 rfl dX10_findCan_60 rfl ?_
    refine z_iload_n C (q := 64) 2 dX10_findCan_63 rfl rfl ?_
    refine z_iconst C (q := 65) dX10_findCan_64 rfl lt_iconst_0 ?_
    refine z_zast C (q := 66) ar_m22 dX10_findCan_65 rfl (fun s6 => ?_)
    refine z_iinc C (q := 69) 2 [(2, .int (v2 + 1)), (0, .ref (ad 0)), (1, .int v1)] dX10_findCan_66 rfl rfl (lt_iinc_1 _) (by decide) rfl ?_
    refine z_goto C (tgt := 53) dX10_findCan_69 (by decide) ?_
    exact z_sub [1, 2, 0] rfl (ih (v2 + 1) s6)
set_option maxRecDepth 100000 in
set_option maxHeartbeats 4000000 in
theorem l_X10_findCan_74 {G : gG} {X : gX} {ad : Nat → Nat} (C : g_K G X LM ad cX10_findCan 4 RX10 none 3)   (v1 : Int32) {k : Int32 → gS → gR} (hk : ∀ (v2 : Int32) (s : gS), g_Z G X LM ad 4 124 [(0, .ref (ad 0)), (1, .int v1)] [] s (k v2 s)) : ∀ (n : Nat) (v2 : Int32) (s : gS), g_Z G X LM ad 4 74 [(0, .ref (ad 0)), (1, .int v1), (2, .int v2)] [] s (f_X10_findCan_74 v1 k n v2 s) := by
  intro n
  induction n with
  | zero => intros; exact z_none
  | succ n ih =>
    intro v2 s
    rw [f_X10_findCan_74.eq_2]
    refine z_iload_n C (q := 75) 2 dX10_findCan_74 rfl rfl ?_
    refine z_iconst C (q := 76) dX10_findCan_75 rfl lt_iconst_5 ?_
    refine z_aload_n C (q := 77) 0 dX10_findCan_76 rfl rfl ?_
    refine z_callV C (q := 80) [] gl_X10_225 glv_X10_cells ob_m rfl (m_X10_cells G (g_Kap C)  _) rfl rfl (Nat.le_of_ble_eq_true rfl) ⟨by decide, by decide⟩ dX10_findCan_77 rfl (z_ki (fun r10 s9 => ?_))
    refine z_imul C (q := 81) dX10_findCan_80 rfl ?_
    refine z_icmp_ge C (tgt := 124) (q := 84) dX10_findCan_81 (by decide) rfl ?_ ?_
    · exact z_sub [0, 1] rfl (hk v2 s9)
    refine z_aload_n C (q := 85) 0 dX10_findCan_84 rfl rfl ?_
    refine z_iload_n C (q := 86) 2 dX10_findCan_85 rfl rfl ?_
    refine z_iconst C (q := 87) dX10_findCan_86 rfl lt_iconst_5 ?_
    refine z_idivK C (q := 88) (by decide) dX10_findCan_87 rfl ?_
    refine z_iload_n C (q := 89) 2 dX10_findCan_88 rfl rfl ?_
    refine z_iconst C (q := 90) dX10_findCan_89 rfl lt_iconst_5 ?_
    refine z_iremK C (q := 91) (by decide) dX10_findCan_90 rfl ?_
    refine z_callV C (q := 94) [.int (v2 / (5 : Int32)), .int (g_rem v2 (5 : Int32))] gl_X10_242 glv_X10_way ob_m rfl (m_X10_way G (g_Kap C) (v2 / (5 : Int32)) (g_rem v2 (5 : Int32)) _) rfl rfl (Nat.le_of_ble_eq_true rfl) ⟨by decide, by decide⟩ dX10_findCan_91 rfl (z_ki (fun r12 s11 => ?_))
    refine z_istore_n C (q := 95) [(3, .int r12), (0, .ref (ad 0)), (1, .int v1), (2, .int v2)] dX10_findCan_94 rfl rfl (by decide) rfl ?_
    refine z_aload_n C (q := 96) 1 dX10_findCan_95 rfl rfl ?_
    refine z_getR C (q := 99) ob_m fF_X10_79 rfl dX10_findCan_96 rfl ?_
    refine z_iload_n C (q := 100) 3 dX10_findCan_99 rfl rfl ?_
    refine z_iconst C (q := 101) dX10_findCan_100 rfl lt_iconst_5 ?_
    refine z_idivK C (q := 102) (by decide) dX10_findCan_101 rfl ?_
    refine z_zald C (q := 103) ar_m21 dX10_findCan_102 rfl ?_
    refine z_if_eq C (tgt := 118) (q := 106) dX10_findCan_103 (by decide) rfl ?_ ?_
    · refine z_iinc C (q := 121) 3 [(2, .int (v2 + 1)), (3, .int r12), (0, .ref (ad 0)), (1, .int v1)] dX10_findCan_118 rfl rfl (lt_iinc_1 _) (by decide) rfl ?_
      refine z_goto C (tgt := 74) dX10_findCan_121 (by decide) ?_
      exact z_sub [2, 3, 0] rfl (ih (v2 + 1) s11)
    refine z_iload_n C (q := 107) 0 dX10_findCan_106 rfl rfl ?_
    refine z_iconst C (q := 108) dX10_findCan_107 rfl lt_iconst_m1 ?_
    refine z_icmp_eq C (tgt := 118) (q := 111) dX10_findCan_108 (by decide) rfl ?_ ?_
    · refine z_iinc C (q := 121) 3 [(2, .int (v2 + 1)), (3, .int r12), (0, .ref (ad 0)), (1, .int v1)] dX10_findCan_118 rfl rfl (lt_iinc_1 _) (by decide) rfl ?_
      refine z_goto C (tgt := 74) dX10_findCan_121 (by decide) ?_
      exact z_sub [2, 3, 0] rfl (ih (v2 + 1) s11)
    refine z_aload_n C (q := 112) 1 dX10_findCan_111 rfl rfl ?_
    refine z_getR C (q := 115) ob_m fF_X10_82 rfl dX10_findCan_112 rfl ?_
    refine z_iload_n C (q := 116) 0 dX10_findCan_115 rfl rfl ?_
    refine z_iconst C (q := 117) dX10_findCan_116 rfl lt_iconst_1 ?_
    refine z_zast C (q := 118) ar_m22 dX10_findCan_117 rfl (fun s13 => ?_)
    refine z_iinc C (q := 121) 3 [(2, .int (v2 + 1)), (3, .int r12), (0, .ref (ad 0)), (1, .int v1)] dX10_findCan_118 rfl rfl (lt_iinc_1 _) (by decide) rfl ?_
    refine z_goto C (tgt := 74) dX10_findCan_121 (by decide) ?_
    exact z_sub [2, 3, 0] rfl (ih (v2 + 1) s13)
set_option maxRecDepth 100000 in
set_option maxHeartbeats 4000000 in
theorem l_X10_findCan_126 {G : gG} {X : gX} {ad : Nat → Nat} (C : g_K G X LM ad cX10_findCan 4 RX10 none 3)   (v1 : Int32) {k : Int32 → gS → gR} (hk : ∀ (v2 : Int32) (s : gS), g_Z G X LM ad 4 150 [(0, .ref (ad 0)), (1, .int v1)] [] s (k v2 s)) : ∀ (n : Nat) (v2 : Int32) (s : gS), g_Z G X LM ad 4 126 [(0, .ref (ad 0)), (1, .int v1), (2, .int v2)] [] s (f_X10_findCan_126 v1 k n v2 s) := by
  intro n
  induction n with
  | zero => intros; exact z_none
  | succ n ih =>
    intro v2 s
    rw [f_X10_findCan_126.eq_2]
    refine z_iload_n C (q := 127) 2 dX10_findCan_126 rfl rfl ?_
    refine z_bipush C (q := 129) dX10_findCan_127 rfl lt_bipush_40 ?_
    refine z_icmp_ge C (tgt := 150) (q := 132) dX10_findCan_129 (by decide) rfl ?_ ?_
    · exact z_sub [0, 1] rfl (hk v2 s)
    refine z_aload_n C (q := 133) 0 dX10_findCan_132 rfl rfl ?_
    refine z_getR C (q := 136) ob_m fF_X10_79 rfl dX10_findCan_133 rfl ?_
    refine z_iload_n C (q := 137) 2 dX10_findCan_136 rfl rfl ?_
    refine z_aload_n C (q := 138) 0 dX10_findCan_137 rfl rfl ?_
    refine z_getR C (q := 141) ob_m fF_X10_82 rfl dX10_findCan_138 rfl ?_
    refine z_iload_n C (q := 142) 2 dX10_findCan_141 rfl rfl ?_
    refine z_zald C (q := 143) ar_m22 dX10_findCan_142 rfl ?_
    refine z_zast C (q := 144) ar_m21 dX10_findCan_143 rfl (fun s16 => ?_)
    refine z_iinc C (q := 147) 2 [(2, .int (v2 + 1)), (0, .ref (ad 0)), (1, .int v1)] dX10_findCan_144 rfl rfl (lt_iinc_1 _) (by decide) rfl ?_
    refine z_goto C (tgt := 126) dX10_findCan_147 (by decide) ?_
    exact z_sub [1, 2, 0] rfl (ih (v2 + 1) s16)
set_option maxRecDepth 100000 in
set_option maxHeartbeats 4000000 in
theorem l_X10_findCan_43 {G : gG} {X : gX} {ad : Nat → Nat} (C : g_K G X LM ad cX10_findCan 4 RX10 none 3)    {k : Int32 → gS → gR} (hk : ∀ (v1 : Int32) (s : gS), g_Z G X LM ad 4 161 [] [] s (k v1 s)) : ∀ (n : Nat) (v1 : Int32) (s : gS), g_Z G X LM ad 4 43 [(0, .ref (ad 0)), (1, .int v1)] [] s (f_X10_findCan_43  k n v1 s) := by
  intro n
  induction n with
  | zero => intros; exact z_none
  | succ n ih =>
    intro v1 s
    rw [f_X10_findCan_43.eq_2]
    refine z_iload_n C (q := 44) 1 dX10_findCan_43 rfl rfl ?_
    refine z_aload_n C (q := 45) 0 dX10_findCan_44 rfl rfl ?_
    refine z_getI C (q := 48) ob_m fF_X10_26 rfl dX10_findCan_45 rfl ?_
    refine z_icmp_gt C (tgt := 161) (q := 51) dX10_findCan_48 (by decide) rfl ?_ ?_
    · exact z_sub [] rfl (hk v1 s)
    refine z_iconst C (q := 52) dX10_findCan_51 rfl lt_iconst_0 ?_
    refine z_istore_n C (q := 53) [(2, .int (0 : Int32)), (0, .ref (ad 0)), (1, .int v1)] dX10_findCan_52 rfl rfl (by decide) rfl ?_
    refine z_sub [1, 2, 0] rfl (l_X10_findCan_53 C v1 (fun v2_7 s8 => ?_) g_N (0 : Int32) s)
    refine z_iconst C (q := 73) dX10_findCan_72 rfl lt_iconst_0 ?_
    refine z_istore_n C (q := 74) [(2, .int (0 : Int32)), (0, .ref (ad 0)), (1, .int v1)] dX10_findCan_73 rfl rfl (by decide) rfl ?_
    refine z_sub [1, 2, 0] rfl (l_X10_findCan_74 C v1 (fun v2_14 s15 => ?_) g_N (0 : Int32) s8)
    refine z_iconst C (q := 125) dX10_findCan_124 rfl lt_iconst_0 ?_
    refine z_istore_n C (q := 126) [(2, .int (0 : Int32)), (0, .ref (ad 0)), (1, .int v1)] dX10_findCan_125 rfl rfl (by decide) rfl ?_
    refine z_sub [1, 2, 0] rfl (l_X10_findCan_126 C v1 (fun v2_17 s18 => ?_) g_N (0 : Int32) s15)
    refine z_aload_n C (q := 151) 0 dX10_findCan_150 rfl rfl ?_
    refine z_iload_n C (q := 152) 1 dX10_findCan_151 rfl rfl ?_
    refine z_callV C (q := 155) [.int v1] gl_X10_320 glv_X10_fit ob_m rfl (m_X10_fit G (g_Kap C) v1 _) rfl rfl (Nat.le_of_ble_eq_true rfl) ⟨by decide, by decide⟩ dX10_findCan_152 rfl (z_kv (fun s19 => ?_))
    refine z_iinc C (q := 158) 1 [(1, .int (v1 + 1)), (0, .ref (ad 0))] dX10_findCan_155 rfl rfl (lt_iinc_1 _) (by decide) rfl ?_
    refine z_goto C (tgt := 43) dX10_findCan_158 (by decide) ?_
    exact z_sub [1, 0] rfl (ih (v1 + 1) s19)
set_option maxRecDepth 100000 in
set_option maxHeartbeats 4000000 in
theorem m_X10_findCan (G : gG) {ad : Nat → Nat} (hap : g_ap LM ad)    (s : gS) : g_M G LM ad yX10_findCan cX10_findCan 4 none 3 [.ref (ad 0)] s (f_X10_findCan s) := by
  refine g_entry (by decide) hap (Nat.le_of_ble_eq_true rfl) [(0, .ref (ad 0))] rfl (fun X C => ?_)
  unfold f_X10_findCan
  refine z_iconst C (q := 1) dX10_findCan_0 rfl lt_iconst_0 ?_
  refine z_istore_n C (q := 2) [(1, .int (0 : Int32)), (0, .ref (ad 0))] dX10_findCan_1 rfl rfl (by decide) rfl ?_
  refine z_sub [1, 0] rfl (l_X10_findCan_2 C  (fun v1_3 s4 => ?_) g_N (0 : Int32) s)
  refine z_aload_n C (q := 37) 0 dX10_findCan_36 rfl rfl ?_
  refine z_iconst C (q := 38) dX10_findCan_37 rfl lt_iconst_0 ?_
  refine z_callV C (q := 41) [.int (0 : Int32)] gl_X10_320 glv_X10_fit ob_m rfl (m_X10_fit G (g_Kap C) (0 : Int32) _) rfl rfl (Nat.le_of_ble_eq_true rfl) ⟨by decide, by decide⟩ dX10_findCan_38 rfl (z_kv (fun s5 => ?_))
  refine z_iconst C (q := 42) dX10_findCan_41 rfl lt_iconst_1 ?_
  refine z_istore_n C (q := 43) [(1, .int (1 : Int32)), (0, .ref (ad 0))] dX10_findCan_42 rfl rfl (by decide) rfl ?_
  refine z_sub [1, 0] rfl (l_X10_findCan_43 C  (fun v1_20 s21 => ?_) g_N (1 : Int32) s5)
  exact z_vret C dX10_findCan_161
set_option maxRecDepth 100000 in
set_option maxHeartbeats 4000000 in
theorem l_X10_lay_29 {G : gG} {X : gX} {ad : Nat → Nat} (C : g_K G X LM ad cX10_lay 6 RX10 (some .int) 4)   (v1 : Int32) (v2 : Int32) {k : Int32 → Int32 → Int32 → gS → gR} (hk : ∀ (v3 : Int32) (v4 : Int32) (v5 : Int32) (s : gS), g_Z G X LM ad 6 91 [(2, .int v2), (3, .int v3), (4, .int v4)] [] s (k v3 v4 v5 s)) : ∀ (n : Nat) (v3 : Int32) (v4 : Int32) (v5 : Int32) (s : gS), g_Z G X LM ad 6 29 [(0, .ref (ad 0)), (1, .int v1), (2, .int v2), (3, .int v3), (4, .int v4), (5, .int v5)] [] s (f_X10_lay_29 v1 v2 k n v3 v4 v5 s) := by
  intro n
  induction n with
  | zero => intros; exact z_none
  | succ n ih =>
    intro v3 v4 v5 s
    rw [f_X10_lay_29.eq_2]
    refine z_iload C (q := 31) 5 dX10_lay_29 rfl rfl ?_
    refine z_aload_n C (q := 32) 0 dX10_lay_31 rfl rfl ?_
    refine z_callV C (q := 35) [] gl_X10_225 glv_X10_cells ob_m rfl (m_X10_cells G (g_Kap C)  _) rfl rfl (Nat.le_of_ble_eq_true rfl) ⟨by decide, by decide⟩ dX10_lay_32 rfl (z_ki (fun r5 s4 => ?_))
    refine z_icmp_ge C (tgt := 91) (q := 38) dX10_lay_35 (by decide) rfl ?_ ?_
    · exact z_sub [2, 3, 4] rfl (hk v3 v4 v5 s4)
    refine z_aload_n C (q := 39) 0 dX10_lay_38 rfl rfl ?_
    refine z_getR C (q := 42) ob_m fF_X10_79 rfl dX10_lay_39 rfl ?_
    refine z_iload C (q := 44) 5 dX10_lay_42 rfl rfl ?_
    refine z_zald C (q := 45) ar_m21 dX10_lay_44 rfl ?_
    refine z_if_eq C (tgt := 85) (q := 48) dX10_lay_45 (by decide) rfl ?_ ?_
    · refine z_iinc C (q := 88) 5 [(5, .int (v5 + 1)), (0, .ref (ad 0)), (1, .int v1), (2, .int v2), (3, .int v3), (4, .int v4)] dX10_lay_85 rfl rfl (lt_iinc_1 _) (by decide) rfl ?_
      refine z_goto C (tgt := 29) dX10_lay_88 (by decide) ?_
      exact z_sub [1, 2, 3, 4, 5, 0] rfl (ih v3 v4 (v5 + 1) s4)
    refine z_iload_n C (q := 49) 1 dX10_lay_48 rfl rfl ?_
    refine z_iconst C (q := 50) dX10_lay_49 rfl lt_iconst_m1 ?_
    refine z_icmp_eq C (tgt := 64) (q := 53) dX10_lay_50 (by decide) rfl ?_ ?_
    · refine z_iload_n C (q := 65) 3 dX10_lay_64 rfl rfl ?_
      refine z_iload_n C (q := 66) 2 dX10_lay_65 rfl rfl ?_
      refine z_icmp_ne C (tgt := 78) (q := 69) dX10_lay_66 (by decide) rfl ?_ ?_
      · refine z_iload C (q := 80) 4 dX10_lay_78 rfl rfl ?_
        refine z_istore C (q := 82) [(4, .int v4), (0, .ref (ad 0)), (1, .int v1), (2, .int v2), (3, .int v3), (5, .int v5)] dX10_lay_80 rfl (by decide) rfl ?_
        refine z_iinc C (q := 85) 4 [(3, .int (v3 + 1)), (4, .int v4), (0, .ref (ad 0)), (1, .int v1), (2, .int v2), (5, .int v5)] dX10_lay_82 rfl rfl (lt_iinc_1 _) (by decide) rfl ?_
        refine z_iinc C (q := 88) 5 [(5, .int (v5 + 1)), (3, .int (v3 + 1)), (4, .int v4), (0, .ref (ad 0)), (1, .int v1), (2, .int v2)] dX10_lay_85 rfl rfl (lt_iinc_1 _) (by decide) rfl ?_
        refine z_goto C (tgt := 29) dX10_lay_88 (by decide) ?_
        exact z_sub [3, 4, 5, 1, 2, 0] rfl (ih (v3 + 1) v4 (v5 + 1) s4)
      refine z_aload_n C (q := 70) 0 dX10_lay_69 rfl rfl ?_
      refine z_iload C (q := 72) 5 dX10_lay_70 rfl rfl ?_
      refine z_callV C (q := 75) [.int v5] gl_X10_235 glv_X10_named ob_m rfl (m_X10_named G (g_Kap C) v5 _) rfl rfl (Nat.le_of_ble_eq_true rfl) ⟨by decide, by decide⟩ dX10_lay_72 rfl (z_ki (fun r7 s6 => ?_))
      refine z_goto C (tgt := 80) dX10_lay_75 (by decide) ?_
      refine z_istore C (q := 82) [(4, .int r7), (0, .ref (ad 0)), (1, .int v1), (2, .int v2), (3, .int v3), (5, .int v5)] dX10_lay_80 rfl (by decide) rfl ?_
      refine z_iinc C (q := 85) 4 [(3, .int (v3 + 1)), (4, .int r7), (0, .ref (ad 0)), (1, .int v1), (2, .int v2), (5, .int v5)] dX10_lay_82 rfl rfl (lt_iinc_1 _) (by decide) rfl ?_
      refine z_iinc C (q := 88) 5 [(5, .int (v5 + 1)), (3, .int (v3 + 1)), (4, .int r7), (0, .ref (ad 0)), (1, .int v1), (2, .int v2)] dX10_lay_85 rfl rfl (lt_iinc_1 _) (by decide) rfl ?_
      refine z_goto C (tgt := 29) dX10_lay_88 (by decide) ?_
      exact z_sub [3, 4, 5, 1, 2, 0] rfl (ih (v3 + 1) r7 (v5 + 1) s6)
    refine z_aload_n C (q := 54) 0 dX10_lay_53 rfl rfl ?_
    refine z_iconst C (q := 55) dX10_lay_54 rfl lt_iconst_0 ?_
    refine z_iload C (q := 57) 5 dX10_lay_55 rfl rfl ?_
    refine z_callV C (q := 60) [.int (0 : Int32), .int v5] gl_X10_256 glv_X10_tithesOf ob_m rfl (m_X10_tithesOf G (g_Kap C) (0 : Int32) v5 _) rfl rfl (Nat.le_of_ble_eq_true rfl) ⟨by decide, by decide⟩ dX10_lay_57 rfl (z_ki (fun r9 s8 => ?_))
    refine z_iload_n C (q := 61) 1 dX10_lay_60 rfl rfl ?_
    refine z_icmp_ne C (tgt := 85) (q := 64) dX10_lay_61 (by decide) rfl ?_ ?_
    · refine z_iinc C (q := 88) 5 [(5, .int (v5 + 1)), (0, .ref (ad 0)), (1, .int v1), (2, .int v2), (3, .int v3), (4, .int v4)] dX10_lay_85 rfl rfl (lt_iinc_1 _) (by decide) rfl ?_
      refine z_goto C (tgt := 29) dX10_lay_88 (by decide) ?_
      exact z_sub [1, 2, 3, 4, 5, 0] rfl (ih v3 v4 (v5 + 1) s8)
    refine z_iload_n C (q := 65) 3 dX10_lay_64 rfl rfl ?_
    refine z_iload_n C (q := 66) 2 dX10_lay_65 rfl rfl ?_
    refine z_icmp_ne C (tgt := 78) (q := 69) dX10_lay_66 (by decide) rfl ?_ ?_
    · refine z_iload C (q := 80) 4 dX10_lay_78 rfl rfl ?_
      refine z_istore C (q := 82) [(4, .int v4), (0, .ref (ad 0)), (1, .int v1), (2, .int v2), (3, .int v3), (5, .int v5)] dX10_lay_80 rfl (by decide) rfl ?_
      refine z_iinc C (q := 85) 4 [(3, .int (v3 + 1)), (4, .int v4), (0, .ref (ad 0)), (1, .int v1), (2, .int v2), (5, .int v5)] dX10_lay_82 rfl rfl (lt_iinc_1 _) (by decide) rfl ?_
      refine z_iinc C (q := 88) 5 [(5, .int (v5 + 1)), (3, .int (v3 + 1)), (4, .int v4), (0, .ref (ad 0)), (1, .int v1), (2, .int v2)] dX10_lay_85 rfl rfl (lt_iinc_1 _) (by decide) rfl ?_
      refine z_goto C (tgt := 29) dX10_lay_88 (by decide) ?_
      exact z_sub [3, 4, 5, 1, 2, 0] rfl (ih (v3 + 1) v4 (v5 + 1) s8)
    refine z_aload_n C (q := 70) 0 dX10_lay_69 rfl rfl ?_
    refine z_iload C (q := 72) 5 dX10_lay_70 rfl rfl ?_
    refine z_callV C (q := 75) [.int v5] gl_X10_235 glv_X10_named ob_m rfl (m_X10_named G (g_Kap C) v5 _) rfl rfl (Nat.le_of_ble_eq_true rfl) ⟨by decide, by decide⟩ dX10_lay_72 rfl (z_ki (fun r11 s10 => ?_))
    refine z_goto C (tgt := 80) dX10_lay_75 (by decide) ?_
    refine z_istore C (q := 82) [(4, .int r11), (0, .ref (ad 0)), (1, .int v1), (2, .int v2), (3, .int v3), (5, .int v5)] dX10_lay_80 rfl (by decide) rfl ?_
    refine z_iinc C (q := 85) 4 [(3, .int (v3 + 1)), (4, .int r11), (0, .ref (ad 0)), (1, .int v1), (2, .int v2), (5, .int v5)] dX10_lay_82 rfl rfl (lt_iinc_1 _) (by decide) rfl ?_
    refine z_iinc C (q := 88) 5 [(5, .int (v5 + 1)), (3, .int (v3 + 1)), (4, .int r11), (0, .ref (ad 0)), (1, .int v1), (2, .int v2)] dX10_lay_85 rfl rfl (lt_iinc_1 _) (by decide) rfl ?_
    refine z_goto C (tgt := 29) dX10_lay_88 (by decide) ?_
    exact z_sub [3, 4, 5, 1, 2, 0] rfl (ih (v3 + 1) r11 (v5 + 1) s10)
set_option maxRecDepth 100000 in
set_option maxHeartbeats 4000000 in
theorem m_X10_lay (G : gG) {ad : Nat → Nat} (hap : g_ap LM ad)   (v1 : Int32) (v2 : Int32) (s : gS) : g_M G LM ad yX10_lay cX10_lay 6 (some .int) 4 [.ref (ad 0), .int v1, .int v2] s (f_X10_lay v1 v2 s) := by
  refine g_entry (by decide) hap (Nat.le_of_ble_eq_true rfl) [(0, .ref (ad 0)), (1, .int v1), (2, .int v2)] rfl (fun X C => ?_)
  unfold f_X10_lay
  refine z_iload_n C (q := 1) 1 dX10_lay_0 rfl rfl ?_
  refine z_i2l C (q := 2) dX10_lay_1 rfl ?_
  refine z_ldc2 C (q := 5) dX10_lay_2 rfl wm_847 ?_
  refine z_ldc2 C (q := 8) dX10_lay_5 rfl wm_903 ?_
  refine z_callS C (q := 11) [.long (v1.toInt64), .long (-1 : Int64), .long (9999 : Int64)] gl_X10_91 wm_198 (m_X10_in G (g_Kap C) (v1.toInt64) (-1 : Int64) (9999 : Int64) _) rfl rfl (Nat.le_of_ble_eq_true rfl) ⟨by decide, by decide⟩ dX10_lay_8 rfl (z_ki (fun r2 s1 => ?_))
  refine z_if_ne C (tgt := 17) (q := 14) dX10_lay_11 (by decide) rfl ?_ ?_
  · refine z_aload_n C (q := 18) 0 dX10_lay_17 rfl rfl ?_
    refine z_callV C (q := 21) [] gl_X10_325 glv_X10_findCan ob_m rfl (m_X10_findCan G (g_Kap C)  _) rfl rfl (Nat.le_of_ble_eq_true rfl) ⟨by decide, by decide⟩ dX10_lay_18 rfl (z_kv (fun s3 => ?_))
    refine z_iconst C (q := 22) dX10_lay_21 rfl lt_iconst_0 ?_
    refine z_istore_n C (q := 23) [(3, .int (0 : Int32)), (0, .ref (ad 0)), (1, .int v1), (2, .int v2)] dX10_lay_22 rfl rfl (by decide) rfl ?_
    refine z_iconst C (q := 24) dX10_lay_23 rfl lt_iconst_m1 ?_
    refine z_istore C (q := 26) [(4, .int (-1 : Int32)), (3, .int (0 : Int32)), (0, .ref (ad 0)), (1, .int v1), (2, .int v2)] dX10_lay_24 rfl (by decide) rfl ?_
    refine z_iconst C (q := 27) dX10_lay_26 rfl lt_iconst_0 ?_
    refine z_istore C (q := 29) [(5, .int (0 : Int32)), (4, .int (-1 : Int32)), (3, .int (0 : Int32)), (0, .ref (ad 0)), (1, .int v1), (2, .int v2)] dX10_lay_27 rfl (by decide) rfl ?_
    refine z_sub [3, 4, 5, 2, 1, 0] rfl (l_X10_lay_29 C v1 v2 (fun v3_12 v4_13 v5_14 s15 => ?_) g_N (0 : Int32) (-1 : Int32) (0 : Int32) s3)
    refine z_iload_n C (q := 92) 0 dX10_lay_91 rfl rfl ?_
    refine z_iconst C (q := 93) dX10_lay_92 rfl lt_iconst_m1 ?_
    refine z_icmp_ne C (tgt := 100) (q := 96) dX10_lay_93 (by decide) rfl ?_ ?_
    · refine z_iload C (q := 102) 2 dX10_lay_100 rfl rfl ?_
      exact z_iret C dX10_lay_102
    refine z_iload_n C (q := 97) 1 dX10_lay_96 rfl rfl ?_
    refine z_goto C (tgt := 102) dX10_lay_97 (by decide) ?_
    exact z_iret C dX10_lay_102
  refine z_ldc C (q := 16) dX10_lay_14 rfl wm_193 ?_
  exact z_iret C dX10_lay_16
set_option maxRecDepth 100000 in
set_option maxHeartbeats 4000000 in
theorem m_X10_write (G : gG) {ad : Nat → Nat} (hap : g_ap LM ad)   (v1 : Int32) (v2 : Int32) (v3 : Int32) (s : gS) : g_M G LM ad yX10_write cX10_write 4 (some .int) 2 [.ref (ad 0), .int v1, .int v2, .int v3] s (f_X10_write v1 v2 v3 s) := by
  refine g_entry (by decide) hap (Nat.le_of_ble_eq_true rfl) [(0, .ref (ad 0)), (1, .int v1), (2, .int v2), (3, .int v3)] rfl (fun X C => ?_)
  unfold f_X10_write
  refine z_aload_n C (q := 1) 0 dX10_write_0 rfl rfl ?_
  refine z_iload_n C (q := 2) 1 dX10_write_1 rfl rfl ?_
  refine z_iload_n C (q := 3) 2 dX10_write_2 rfl rfl ?_
  refine z_callV C (q := 6) [.int v1, .int v2] gl_X10_239 glv_X10_isCell ob_m rfl (m_X10_isCell G (g_Kap C) v1 v2 _) rfl rfl (Nat.le_of_ble_eq_true rfl) ⟨by decide, by decide⟩ dX10_write_3 rfl (z_ki (fun r2 s1 => ?_))
  refine z_if_ne C (tgt := 12) (q := 9) dX10_write_6 (by decide) rfl ?_ ?_
  · refine z_iload_n C (q := 13) 3 dX10_write_12 rfl rfl ?_
    refine z_i2l C (q := 14) dX10_write_13 rfl ?_
    refine z_lconst C (q := 15) (v := 0) dX10_write_14 rfl rfl ?_
    refine z_ldc2 C (q := 18) dX10_write_15 rfl wm_903 ?_
    refine z_callS C (q := 21) [.long (v3.toInt64), .long (0 : Int64), .long (9999 : Int64)] gl_X10_91 wm_198 (m_X10_in G (g_Kap C) (v3.toInt64) (0 : Int64) (9999 : Int64) _) rfl rfl (Nat.le_of_ble_eq_true rfl) ⟨by decide, by decide⟩ dX10_write_18 rfl (z_ki (fun r4 s3 => ?_))
    refine z_if_ne C (tgt := 27) (q := 24) dX10_write_21 (by decide) rfl ?_ ?_
    · refine z_aload_n C (q := 28) 0 dX10_write_27 rfl rfl ?_
      refine z_getI C (q := 31) ob_m fF_X10_232 rfl dX10_write_28 rfl ?_
      refine z_bipush C (q := 33) dX10_write_31 rfl lt_bipush_30 ?_
      refine z_icmp_ne C (tgt := 39) (q := 36) dX10_write_33 (by decide) rfl ?_ ?_
      · refine z_aload_n C (q := 40) 0 dX10_write_39 rfl rfl ?_
        refine z_getR C (q := 43) ob_m fF_X10_39 rfl dX10_write_40 rfl ?_
        refine z_aload_n C (q := 44) 0 dX10_write_43 rfl rfl ?_
        refine z_getI C (q := 47) ob_m fF_X10_232 rfl dX10_write_44 rfl ?_
        refine z_aload_n C (q := 48) 0 dX10_write_47 rfl rfl ?_
        refine z_getI C (q := 51) ob_m fF_X10_85 rfl dX10_write_48 rfl ?_
        refine z_iload_n C (q := 52) 2 dX10_write_51 rfl rfl ?_
        refine z_imul C (q := 53) dX10_write_52 rfl ?_
        refine z_iload_n C (q := 54) 1 dX10_write_53 rfl rfl ?_
        refine z_iadd C (q := 55) dX10_write_54 rfl ?_
        refine z_iast C (q := 56) ar_m9 dX10_write_55 rfl (fun s5 => ?_)
        refine z_aload_n C (q := 57) 0 dX10_write_56 rfl rfl ?_
        refine z_getR C (q := 60) ob_m fF_X10_42 rfl dX10_write_57 rfl ?_
        refine z_aload_n C (q := 61) 0 dX10_write_60 rfl rfl ?_
        refine z_getI C (q := 64) ob_m fF_X10_232 rfl dX10_write_61 rfl ?_
        refine z_iload_n C (q := 65) 3 dX10_write_64 rfl rfl ?_
        refine z_iast C (q := 66) ar_m10 dX10_write_65 rfl (fun s6 => ?_)
        refine z_aload_n C (q := 67) 0 dX10_write_66 rfl rfl ?_
        refine z_dup C (q := 68) dX10_write_67 rfl rfl ?_
        refine z_getI C (q := 71) ob_m fF_X10_232 rfl dX10_write_68 rfl ?_
        refine z_iconst C (q := 72) dX10_write_71 rfl lt_iconst_1 ?_
        refine z_iadd C (q := 73) dX10_write_72 rfl ?_
        refine z_putI C (q := 76) ob_m fP_X10_232 rfl dX10_write_73 rfl (fun s7 => ?_)
        refine z_aload_n C (q := 77) 0 dX10_write_76 rfl rfl ?_
        refine z_getI C (q := 80) ob_m fF_X10_232 rfl dX10_write_77 rfl ?_
        exact z_iret C dX10_write_80
      refine z_ldc C (q := 38) dX10_write_36 rfl wm_195 ?_
      exact z_iret C dX10_write_38
    refine z_ldc C (q := 26) dX10_write_24 rfl wm_193 ?_
    exact z_iret C dX10_write_26
  refine z_ldc C (q := 11) dX10_write_9 rfl wm_524 ?_
  exact z_iret C dX10_write_11
set_option maxRecDepth 100000 in
set_option maxHeartbeats 4000000 in
theorem m_X10_tear (G : gG) {ad : Nat → Nat} (hap : g_ap LM ad)    (s : gS) : g_M G LM ad yX10_tear cX10_tear 2 (some .int) 0 [.ref (ad 0)] s (f_X10_tear s) := by
  refine g_entry (by decide) hap (Nat.le_of_ble_eq_true rfl) [(0, .ref (ad 0))] rfl (fun X C => ?_)
  unfold f_X10_tear
  refine z_aload_n C (q := 1) 0 dX10_tear_0 rfl rfl ?_
  refine z_getI C (q := 4) ob_m fF_X10_232 rfl dX10_tear_1 rfl ?_
  refine z_aload_n C (q := 5) 0 dX10_tear_4 rfl rfl ?_
  refine z_getI C (q := 8) ob_m fF_X10_229 rfl dX10_tear_5 rfl ?_
  refine z_iadd C (q := 9) dX10_tear_8 rfl ?_
  refine z_leti (fun v1_1 => ?_)
  refine z_istore_n C (q := 10) [(1, .int v1_1), (0, .ref (ad 0))] dX10_tear_9 rfl rfl (by decide) rfl ?_
  refine z_aload_n C (q := 11) 1 dX10_tear_10 rfl rfl ?_
  refine z_iconst C (q := 12) dX10_tear_11 rfl lt_iconst_0 ?_
  refine z_putI C (q := 15) ob_m fP_X10_232 rfl dX10_tear_12 rfl (fun s2 => ?_)
  refine z_aload_n C (q := 16) 1 dX10_tear_15 rfl rfl ?_
  refine z_iconst C (q := 17) dX10_tear_16 rfl lt_iconst_0 ?_
  refine z_putI C (q := 20) ob_m fP_X10_229 rfl dX10_tear_17 rfl (fun s3 => ?_)
  refine z_iload_n C (q := 21) 0 dX10_tear_20 rfl rfl ?_
  exact z_iret C dX10_tear_21
set_option maxRecDepth 100000 in
set_option maxHeartbeats 4000000 in
theorem l_X10_judge_2 {G : gG} {X : gX} {ad : Nat → Nat} (C : g_K G X LM ad cX10_judge 2 RX10 (some .int) 2)    {k : Int32 → gS → gR} (hk : ∀ (v1 : Int32) (s : gS), g_Z G X LM ad 2 38 [] [] s (k v1 s)) : ∀ (n : Nat) (v1 : Int32) (s : gS), g_Z G X LM ad 2 2 [(0, .ref (ad 0)), (1, .int v1)] [] s (f_X10_judge_2  k n v1 s) := by
  intro n
  induction n with
  | zero => intros; exact z_none
  | succ n ih =>
    intro v1 s
    rw [f_X10_judge_2.eq_2]
    refine z_iload_n C (q := 3) 1 dX10_judge_2 rfl rfl ?_
    refine z_aload_n C (q := 4) 0 dX10_judge_3 rfl rfl ?_
    refine z_getI C (q := 7) ob_m fF_X10_232 rfl dX10_judge_4 rfl ?_
    refine z_icmp_ge C (tgt := 38) (q := 10) dX10_judge_7 (by decide) rfl ?_ ?_
    · exact z_sub [] rfl (hk v1 s)
    refine z_aload_n C (q := 11) 0 dX10_judge_10 rfl rfl ?_
    refine z_iconst C (q := 12) dX10_judge_11 rfl lt_iconst_0 ?_
    refine z_aload_n C (q := 13) 0 dX10_judge_12 rfl rfl ?_
    refine z_getR C (q := 16) ob_m fF_X10_39 rfl dX10_judge_13 rfl ?_
    refine z_iload_n C (q := 17) 1 dX10_judge_16 rfl rfl ?_
    refine z_iald C (q := 18) ar_m9 dX10_judge_17 rfl ?_
    refine z_callV C (q := 21) [.int (0 : Int32), .int (s.1 9 v1.toNatClampNeg)] gl_X10_256 glv_X10_tithesOf ob_m rfl (m_X10_tithesOf G (g_Kap C) (0 : Int32) (s.1 9 v1.toNatClampNeg) _) rfl rfl (Nat.le_of_ble_eq_true rfl) ⟨by decide, by decide⟩ dX10_judge_18 rfl (z_ki (fun r2 s1 => ?_))
    refine z_aload_n C (q := 22) 0 dX10_judge_21 rfl rfl ?_
    refine z_getR C (q := 25) ob_m fF_X10_42 rfl dX10_judge_22 rfl ?_
    refine z_iload_n C (q := 26) 1 dX10_judge_25 rfl rfl ?_
    refine z_iald C (q := 27) ar_m10 dX10_judge_26 rfl ?_
    refine z_icmp_eq C (tgt := 32) (q := 30) dX10_judge_27 (by decide) rfl ?_ ?_
    · refine z_iinc C (q := 35) 1 [(1, .int (v1 + 1)), (0, .ref (ad 0))] dX10_judge_32 rfl rfl (lt_iinc_1 _) (by decide) rfl ?_
      refine z_goto C (tgt := 2) dX10_judge_35 (by decide) ?_
      exact z_sub [1, 0] rfl (ih (v1 + 1) s1)
    refine z_iload_n C (q := 31) 1 dX10_judge_30 rfl rfl ?_
    exact z_iret C dX10_judge_31
set_option maxRecDepth 100000 in
set_option maxHeartbeats 4000000 in
theorem m_X10_judge (G : gG) {ad : Nat → Nat} (hap : g_ap LM ad)    (s : gS) : g_M G LM ad yX10_judge cX10_judge 2 (some .int) 2 [.ref (ad 0)] s (f_X10_judge s) := by
  refine g_entry (by decide) hap (Nat.le_of_ble_eq_true rfl) [(0, .ref (ad 0))] rfl (fun X C => ?_)
  unfold f_X10_judge
  refine z_iconst C (q := 1) dX10_judge_0 rfl lt_iconst_0 ?_
  refine z_istore_n C (q := 2) [(1, .int (0 : Int32)), (0, .ref (ad 0))] dX10_judge_1 rfl rfl (by decide) rfl ?_
  refine z_sub [1, 0] rfl (l_X10_judge_2 C  (fun v1_3 s4 => ?_) g_N (0 : Int32) s)
  refine z_iconst C (q := 39) dX10_judge_38 rfl lt_iconst_m1 ?_
  exact z_iret C dX10_judge_39
set_option maxRecDepth 100000 in
set_option maxHeartbeats 4000000 in
theorem m_X10_seed (G : gG) {ad : Nat → Nat} (hap : g_ap LM ad)   (v1 : Int32) (s : gS) : g_M G LM ad yX10_seed cX10_seed 3 (some .int) 0 [.ref (ad 0), .int v1] s (f_X10_seed v1 s) := by
  refine g_entry (by decide) hap (Nat.le_of_ble_eq_true rfl) [(0, .ref (ad 0)), (1, .int v1)] rfl (fun X C => ?_)
  unfold f_X10_seed
  refine z_iload_n C (q := 1) 1 dX10_seed_0 rfl rfl ?_
  refine z_if_ge C (tgt := 7) (q := 4) dX10_seed_1 (by decide) rfl ?_ ?_
  · refine z_aload_n C (q := 8) 0 dX10_seed_7 rfl rfl ?_
    refine z_getR C (q := 11) ob_m fF_X10_7 rfl dX10_seed_8 rfl ?_
    refine z_bipush C (q := 13) dX10_seed_11 rfl lt_bipush_87 ?_
    refine z_iald C (q := 14) ar_m1 dX10_seed_13 rfl ?_
    refine z_leti (fun v2_1 => ?_)
    refine z_istore_n C (q := 15) [(2, .int v2_1), (0, .ref (ad 0)), (1, .int v1)] dX10_seed_14 rfl rfl (by decide) rfl ?_
    refine z_aload_n C (q := 16) 1 dX10_seed_15 rfl rfl ?_
    refine z_getR C (q := 19) ob_m fF_X10_7 rfl dX10_seed_16 rfl ?_
    refine z_bipush C (q := 21) dX10_seed_19 rfl lt_bipush_87 ?_
    refine z_iload_n C (q := 22) 2 dX10_seed_21 rfl rfl ?_
    refine z_iast C (q := 23) ar_m1 dX10_seed_22 rfl (fun s2 => ?_)
    refine z_iload_n C (q := 24) 0 dX10_seed_23 rfl rfl ?_
    exact z_iret C dX10_seed_24
  refine z_ldc C (q := 6) dX10_seed_4 rfl wm_193 ?_
  exact z_iret C dX10_seed_6
set_option maxRecDepth 100000 in
set_option maxHeartbeats 4000000 in
theorem l_X10_keep_15 {G : gG} {X : gX} {ad : Nat → Nat} (C : g_K G X LM ad cX10_keep 3 RX10 (some .int) 1)   (v1 : Int32) {k : Int32 → gS → gR} (hk : ∀ (v2 : Int32) (s : gS), g_Z G X LM ad 3 44 [(0, .ref (ad 0)), (1, .int v1)] [] s (k v2 s)) : ∀ (n : Nat) (v2 : Int32) (s : gS), g_Z G X LM ad 3 15 [(0, .ref (ad 0)), (1, .int v1), (2, .int v2)] [] s (f_X10_keep_15 v1 k n v2 s) := by
  intro n
  induction n with
  | zero => intros; exact z_none
  | succ n ih =>
    intro v2 s
    rw [f_X10_keep_15.eq_2]
    refine z_iload_n C (q := 16) 2 dX10_keep_15 rfl rfl ?_
    refine z_bipush C (q := 18) dX10_keep_16 rfl lt_bipush_88 ?_
    refine z_icmp_ge C (tgt := 44) (q := 21) dX10_keep_18 (by decide) rfl ?_ ?_
    · exact z_sub [0, 1] rfl (hk v2 s)
    refine z_aload_n C (q := 22) 0 dX10_keep_21 rfl rfl ?_
    refine z_getR C (q := 25) ob_m fF_X10_13 rfl dX10_keep_22 rfl ?_
    refine z_bipush C (q := 27) dX10_keep_25 rfl lt_bipush_88 ?_
    refine z_iload_n C (q := 28) 1 dX10_keep_27 rfl rfl ?_
    refine z_imul C (q := 29) dX10_keep_28 rfl ?_
    refine z_iload_n C (q := 30) 2 dX10_keep_29 rfl rfl ?_
    refine z_iadd C (q := 31) dX10_keep_30 rfl ?_
    refine z_aload_n C (q := 32) 0 dX10_keep_31 rfl rfl ?_
    refine z_getR C (q := 35) ob_m fF_X10_7 rfl dX10_keep_32 rfl ?_
    refine z_iload_n C (q := 36) 2 dX10_keep_35 rfl rfl ?_
    refine z_iald C (q := 37) ar_m1 dX10_keep_36 rfl ?_
    refine z_iast C (q := 38) ar_m2 dX10_keep_37 rfl (fun s3 => ?_)
    refine z_iinc C (q := 41) 2 [(2, .int (v2 + 1)), (0, .ref (ad 0)), (1, .int v1)] dX10_keep_38 rfl rfl (lt_iinc_1 _) (by decide) rfl ?_
    refine z_goto C (tgt := 15) dX10_keep_41 (by decide) ?_
    exact z_sub [1, 2, 0] rfl (ih (v2 + 1) s3)
set_option maxRecDepth 100000 in
set_option maxHeartbeats 4000000 in
theorem m_X10_keep (G : gG) {ad : Nat → Nat} (hap : g_ap LM ad)   (v1 : Int32) (s : gS) : g_M G LM ad yX10_keep cX10_keep 3 (some .int) 1 [.ref (ad 0), .int v1] s (f_X10_keep v1 s) := by
  refine g_entry (by decide) hap (Nat.le_of_ble_eq_true rfl) [(0, .ref (ad 0)), (1, .int v1)] rfl (fun X C => ?_)
  unfold f_X10_keep
  refine z_iload_n C (q := 1) 1 dX10_keep_0 rfl rfl ?_
  refine z_i2l C (q := 2) dX10_keep_1 rfl ?_
  refine z_lconst C (q := 3) (v := 0) dX10_keep_2 rfl rfl ?_
  refine z_lconst C (q := 4) (v := 1) dX10_keep_3 rfl rfl ?_
  refine z_callS C (q := 7) [.long (v1.toInt64), .long (0 : Int64), .long (1 : Int64)] gl_X10_91 wm_198 (m_X10_in G (g_Kap C) (v1.toInt64) (0 : Int64) (1 : Int64) _) rfl rfl (Nat.le_of_ble_eq_true rfl) ⟨by decide, by decide⟩ dX10_keep_4 rfl (z_ki (fun r2 s1 => ?_))
  refine z_if_ne C (tgt := 13) (q := 10) dX10_keep_7 (by decide) rfl ?_ ?_
  · refine z_iconst C (q := 14) dX10_keep_13 rfl lt_iconst_0 ?_
    refine z_istore_n C (q := 15) [(2, .int (0 : Int32)), (0, .ref (ad 0)), (1, .int v1)] dX10_keep_14 rfl rfl (by decide) rfl ?_
    refine z_sub [1, 2, 0] rfl (l_X10_keep_15 C v1 (fun v2_4 s5 => ?_) g_N (0 : Int32) s1)
    refine z_aload_n C (q := 45) 0 dX10_keep_44 rfl rfl ?_
    refine z_getR C (q := 48) ob_m fF_X10_16 rfl dX10_keep_45 rfl ?_
    refine z_iload_n C (q := 49) 1 dX10_keep_48 rfl rfl ?_
    refine z_iconst C (q := 50) dX10_keep_49 rfl lt_iconst_1 ?_
    refine z_zast C (q := 51) ar_m3 dX10_keep_50 rfl (fun s6 => ?_)
    refine z_iconst C (q := 52) dX10_keep_51 rfl lt_iconst_1 ?_
    exact z_iret C dX10_keep_52
  refine z_ldc C (q := 12) dX10_keep_10 rfl wm_524 ?_
  exact z_iret C dX10_keep_12
set_option maxRecDepth 100000 in
set_option maxHeartbeats 4000000 in
theorem l_X10_goBack_28 {G : gG} {X : gX} {ad : Nat → Nat} (C : g_K G X LM ad cX10_goBack 3 RX10 (some .int) 1)   (v1 : Int32) {k : Int32 → gS → gR} (hk : ∀ (v2 : Int32) (s : gS), g_Z G X LM ad 3 57 [] [] s (k v2 s)) : ∀ (n : Nat) (v2 : Int32) (s : gS), g_Z G X LM ad 3 28 [(0, .ref (ad 0)), (1, .int v1), (2, .int v2)] [] s (f_X10_goBack_28 v1 k n v2 s) := by
  intro n
  induction n with
  | zero => intros; exact z_none
  | succ n ih =>
    intro v2 s
    rw [f_X10_goBack_28.eq_2]
    refine z_iload_n C (q := 29) 2 dX10_goBack_28 rfl rfl ?_
    refine z_bipush C (q := 31) dX10_goBack_29 rfl lt_bipush_88 ?_
    refine z_icmp_ge C (tgt := 57) (q := 34) dX10_goBack_31 (by decide) rfl ?_ ?_
    · exact z_sub [] rfl (hk v2 s)
    refine z_aload_n C (q := 35) 0 dX10_goBack_34 rfl rfl ?_
    refine z_getR C (q := 38) ob_m fF_X10_7 rfl dX10_goBack_35 rfl ?_
    refine z_iload_n C (q := 39) 2 dX10_goBack_38 rfl rfl ?_
    refine z_aload_n C (q := 40) 0 dX10_goBack_39 rfl rfl ?_
    refine z_getR C (q := 43) ob_m fF_X10_13 rfl dX10_goBack_40 rfl ?_
    refine z_bipush C (q := 45) dX10_goBack_43 rfl lt_bipush_88 ?_
    refine z_iload_n C (q := 46) 1 dX10_goBack_45 rfl rfl ?_
    refine z_imul C (q := 47) dX10_goBack_46 rfl ?_
    refine z_iload_n C (q := 48) 2 dX10_goBack_47 rfl rfl ?_
    refine z_iadd C (q := 49) dX10_goBack_48 rfl ?_
    refine z_iald C (q := 50) ar_m2 dX10_goBack_49 rfl ?_
    refine z_iast C (q := 51) ar_m1 dX10_goBack_50 rfl (fun s3 => ?_)
    refine z_iinc C (q := 54) 2 [(2, .int (v2 + 1)), (0, .ref (ad 0)), (1, .int v1)] dX10_goBack_51 rfl rfl (lt_iinc_1 _) (by decide) rfl ?_
    refine z_goto C (tgt := 28) dX10_goBack_54 (by decide) ?_
    exact z_sub [1, 2, 0] rfl (ih (v2 + 1) s3)
set_option maxRecDepth 100000 in
set_option maxHeartbeats 4000000 in
theorem m_X10_goBack (G : gG) {ad : Nat → Nat} (hap : g_ap LM ad)   (v1 : Int32) (s : gS) : g_M G LM ad yX10_goBack cX10_goBack 3 (some .int) 1 [.ref (ad 0), .int v1] s (f_X10_goBack v1 s) := by
  refine g_entry (by decide) hap (Nat.le_of_ble_eq_true rfl) [(0, .ref (ad 0)), (1, .int v1)] rfl (fun X C => ?_)
  unfold f_X10_goBack
  refine z_iload_n C (q := 1) 1 dX10_goBack_0 rfl rfl ?_
  refine z_i2l C (q := 2) dX10_goBack_1 rfl ?_
  refine z_lconst C (q := 3) (v := 0) dX10_goBack_2 rfl rfl ?_
  refine z_lconst C (q := 4) (v := 1) dX10_goBack_3 rfl rfl ?_
  refine z_callS C (q := 7) [.long (v1.toInt64), .long (0 : Int64), .long (1 : Int64)] gl_X10_91 wm_198 (m_X10_in G (g_Kap C) (v1.toInt64) (0 : Int64) (1 : Int64) _) rfl rfl (Nat.le_of_ble_eq_true rfl) ⟨by decide, by decide⟩ dX10_goBack_4 rfl (z_ki (fun r2 s1 => ?_))
  refine z_if_ne C (tgt := 13) (q := 10) dX10_goBack_7 (by decide) rfl ?_ ?_
  · refine z_aload_n C (q := 14) 0 dX10_goBack_13 rfl rfl ?_
    refine z_getR C (q := 17) ob_m fF_X10_16 rfl dX10_goBack_14 rfl ?_
    refine z_iload_n C (q := 18) 1 dX10_goBack_17 rfl rfl ?_
    refine z_zald C (q := 19) ar_m3 dX10_goBack_18 rfl ?_
    refine z_if_ne C (tgt := 26) (q := 22) dX10_goBack_19 (by decide) rfl ?_ ?_
    · refine z_iconst C (q := 27) dX10_goBack_26 rfl lt_iconst_0 ?_
      refine z_istore_n C (q := 28) [(2, .int (0 : Int32)), (0, .ref (ad 0)), (1, .int v1)] dX10_goBack_27 rfl rfl (by decide) rfl ?_
      refine z_sub [1, 2, 0] rfl (l_X10_goBack_28 C v1 (fun v2_4 s5 => ?_) g_N (0 : Int32) s1)
      refine z_iconst C (q := 58) dX10_goBack_57 rfl lt_iconst_1 ?_
      exact z_iret C dX10_goBack_58
    refine z_ldcw C (q := 25) dX10_goBack_22 rfl wm_605 ?_
    exact z_iret C dX10_goBack_25
  refine z_ldc C (q := 12) dX10_goBack_10 rfl wm_524 ?_
  exact z_iret C dX10_goBack_12

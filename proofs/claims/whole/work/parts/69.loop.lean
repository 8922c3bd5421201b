/-! The law's loop -/

set_option maxRecDepth 100000 in
set_option maxHeartbeats 40000000 in
theorem lw_loop {p : Program} {l : Launch} {e : Env} {s : State} {m : MethodId} {below : List Frame} {meth : Method} {c : Code} {b L : Nat} {xs : Nat → Int32} {D : va_G} {kd : Nat → ClassId} {adK adV adC adM : Nat → Nat} (K : lwK p s m meth c b L xs D kd adK adV adC adM) (hL : L ≤ 2048) : ∀ (n i : Nat) (cs ms : gS), i ≤ L + 3 → L + 4 ≤ i + n → Rel cs ms → lwY p l e s m below meth c b D kd adC adM 18 [(3, .int (nI i)), (2, .ref (adM 0)), (1, .ref (adC 0)), (0, .ref b)] [] cs ms := by
  intro n
  induction n with
  | zero => intro i cs ms h1 h2; omega
  | succ n ih =>
    intro i cs ms h1 h2 R
    refine y_iload_n K (q := 19) 0 rfl dL_law_18 rfl ?_
    refine y_aload_n K (q := 20) 3 rfl dL_law_19 rfl ?_
    refine y_slen K (q := 21) dL_law_20 rfl ?_
    refine y_iconst K (q := 22) (v := 4) (by decide) dL_law_21 rfl ?_
    refine y_isub K (q := 23) dL_law_22 rfl ?_
    refine y_icmp_gt K (tgt := 956) (q := 26) dL_law_23 rfl rfl (fun _ => ?_) (fun hgt => ?_)
    · refine y_iconst K (q := 957) (v := 1) (by decide) dL_law_956 rfl ?_
      exact y_end K dL_law_957
    · have hi : i + 3 < L := by
        have h3 := Int32.not_lt.mp hgt
        rw [Int32.le_iff_toInt_le, show (4 : Int32) = nI 4 from rfl, show Int32.ofNat L = nI L from rfl, pk_sub_toInt (by omega) (by omega), nI_toInt (by omega)] at h3
        omega
      have next : ∀ cs' ms', Rel cs' ms' → lwY p l e s m below meth c b D kd adC adM 950 [(3, .int (nI i)), (2, .ref (adM 0)), (1, .ref (adC 0)), (0, .ref b)] [] cs' ms' := fun cs' ms' R' => by
        refine y_iinc K (q := 953) (x := nI i) (v := nI (i + 4)) 0 [(3, .int (nI (i + 4))), (2, .ref (adM 0)), (1, .ref (adC 0)), (0, .ref b)] dL_law_950 rfl rfl (nI_add i 4) (by decide) rfl ?_
        refine y_goto K (tgt := 18) dL_law_953 rfl ?_
        exact ih (i + 4) cs' ms' (by omega) (by omega) R'
      refine y_aload_n K (q := 27) 3 rfl dL_law_26 rfl ?_
      refine y_iload_n K (q := 28) 0 rfl dL_law_27 rfl ?_
      refine y_sld K (q := 29) (j := i) (by omega) hL dL_law_28 rfl ?_
      refine y_bipush K (q := 31) (v := 31) (by decide) dL_law_29 rfl ?_
      refine y_iand K (q := 32) dL_law_31 rfl ?_
      by_cases h0 : xs i &&& 31 = 0
      · refine y_tsIn K (tgt := 152) (off := 120) dL_law_32 0 h0 (by decide) (by decide) (by decide +kernel) (by decide) ?_
        exact lw_case_0 K hL hi R next
      by_cases h1 : xs i &&& 31 = 1
      · refine y_tsIn K (tgt := 215) (off := 183) dL_law_32 1 h1 (by decide) (by decide) (by decide +kernel) (by decide) ?_
        exact lw_case_1 K hL hi R next
      by_cases h2 : xs i &&& 31 = 2
      · refine y_tsIn K (tgt := 228) (off := 196) dL_law_32 2 h2 (by decide) (by decide) (by decide +kernel) (by decide) ?_
        exact lw_case_2 K hL hi R next
      by_cases h3 : xs i &&& 31 = 3
      · refine y_tsIn K (tgt := 241) (off := 209) dL_law_32 3 h3 (by decide) (by decide) (by decide +kernel) (by decide) ?_
        exact lw_case_3 K hL hi R next
      by_cases h4 : xs i &&& 31 = 4
      · refine y_tsIn K (tgt := 264) (off := 232) dL_law_32 4 h4 (by decide) (by decide) (by decide +kernel) (by decide) ?_
        exact lw_case_4 K hL hi R next
      by_cases h5 : xs i &&& 31 = 5
      · refine y_tsIn K (tgt := 307) (off := 275) dL_law_32 5 h5 (by decide) (by decide) (by decide +kernel) (by decide) ?_
        exact lw_case_5 K hL hi R next
      by_cases h6 : xs i &&& 31 = 6
      · refine y_tsIn K (tgt := 350) (off := 318) dL_law_32 6 h6 (by decide) (by decide) (by decide +kernel) (by decide) ?_
        exact lw_case_6 K hL hi R next
      by_cases h7 : xs i &&& 31 = 7
      · refine y_tsIn K (tgt := 373) (off := 341) dL_law_32 7 h7 (by decide) (by decide) (by decide +kernel) (by decide) ?_
        exact lw_case_7 K hL hi R next
      by_cases h8 : xs i &&& 31 = 8
      · refine y_tsIn K (tgt := 396) (off := 364) dL_law_32 8 h8 (by decide) (by decide) (by decide +kernel) (by decide) ?_
        exact lw_case_8 K hL hi R next
      by_cases h9 : xs i &&& 31 = 9
      · refine y_tsIn K (tgt := 439) (off := 407) dL_law_32 9 h9 (by decide) (by decide) (by decide +kernel) (by decide) ?_
        exact lw_case_9 K hL hi R next
      by_cases h10 : xs i &&& 31 = 10
      · refine y_tsIn K (tgt := 472) (off := 440) dL_law_32 10 h10 (by decide) (by decide) (by decide +kernel) (by decide) ?_
        exact lw_case_10 K hL hi R next
      by_cases h11 : xs i &&& 31 = 11
      · refine y_tsIn K (tgt := 505) (off := 473) dL_law_32 11 h11 (by decide) (by decide) (by decide +kernel) (by decide) ?_
        exact lw_case_11 K hL hi R next
      by_cases h12 : xs i &&& 31 = 12
      · refine y_tsIn K (tgt := 548) (off := 516) dL_law_32 12 h12 (by decide) (by decide) (by decide +kernel) (by decide) ?_
        exact lw_case_12 K hL hi R next
      by_cases h13 : xs i &&& 31 = 13
      · refine y_tsIn K (tgt := 571) (off := 539) dL_law_32 13 h13 (by decide) (by decide) (by decide +kernel) (by decide) ?_
        exact lw_case_13 K hL hi R next
      by_cases h14 : xs i &&& 31 = 14
      · refine y_tsIn K (tgt := 614) (off := 582) dL_law_32 14 h14 (by decide) (by decide) (by decide +kernel) (by decide) ?_
        exact lw_case_14 K hL hi R next
      by_cases h15 : xs i &&& 31 = 15
      · refine y_tsIn K (tgt := 647) (off := 615) dL_law_32 15 h15 (by decide) (by decide) (by decide +kernel) (by decide) ?_
        exact lw_case_15 K hL hi R next
      by_cases h16 : xs i &&& 31 = 16
      · refine y_tsIn K (tgt := 690) (off := 658) dL_law_32 16 h16 (by decide) (by decide) (by decide +kernel) (by decide) ?_
        exact lw_case_16 K hL hi R next
      by_cases h17 : xs i &&& 31 = 17
      · refine y_tsIn K (tgt := 713) (off := 681) dL_law_32 17 h17 (by decide) (by decide) (by decide +kernel) (by decide) ?_
        exact lw_case_17 K hL hi R next
      by_cases h18 : xs i &&& 31 = 18
      · refine y_tsIn K (tgt := 736) (off := 704) dL_law_32 18 h18 (by decide) (by decide) (by decide +kernel) (by decide) ?_
        exact lw_case_18 K hL hi R next
      by_cases h19 : xs i &&& 31 = 19
      · refine y_tsIn K (tgt := 779) (off := 747) dL_law_32 19 h19 (by decide) (by decide) (by decide +kernel) (by decide) ?_
        exact lw_case_19 K hL hi R next
      by_cases h20 : xs i &&& 31 = 20
      · refine y_tsIn K (tgt := 812) (off := 780) dL_law_32 20 h20 (by decide) (by decide) (by decide +kernel) (by decide) ?_
        exact lw_case_20 K hL hi R next
      by_cases h21 : xs i &&& 31 = 21
      · refine y_tsIn K (tgt := 855) (off := 823) dL_law_32 21 h21 (by decide) (by decide) (by decide +kernel) (by decide) ?_
        exact lw_case_21 K hL hi R next
      by_cases h22 : xs i &&& 31 = 22
      · refine y_tsIn K (tgt := 868) (off := 836) dL_law_32 22 h22 (by decide) (by decide) (by decide +kernel) (by decide) ?_
        exact lw_case_22 K hL hi R next
      by_cases h23 : xs i &&& 31 = 23
      · refine y_tsIn K (tgt := 881) (off := 849) dL_law_32 23 h23 (by decide) (by decide) (by decide +kernel) (by decide) ?_
        exact lw_case_23 K hL hi R next
      by_cases h24 : xs i &&& 31 = 24
      · refine y_tsIn K (tgt := 904) (off := 872) dL_law_32 24 h24 (by decide) (by decide) (by decide +kernel) (by decide) ?_
        exact lw_case_24 K hL hi R next
      by_cases h25 : xs i &&& 31 = 25
      · refine y_tsIn K (tgt := 927) (off := 895) dL_law_32 25 h25 (by decide) (by decide) (by decide +kernel) (by decide) ?_
        exact lw_case_25 K hL hi R next
      · refine y_tsOut K (tgt := 950) dL_law_32 ?_ rfl (next cs ms R)
        generalize hz : xs i &&& 31 = z at h0 h1 h2 h3 h4 h5 h6 h7 h8 h9 h10 h11 h12 h13 h14 h15 h16 h17 h18 h19 h20 h21 h22 h23 h24 h25 ⊢
        rcases Int.lt_or_le z.toInt 0 with q | q
        · exact Or.inl q
        · refine Or.inr ?_
          rcases Int.lt_or_le 25 z.toInt with q2 | q2
          · exact q2
          · exfalso
            have hz0 : ∀ v : Int32, z.toInt = v.toInt → z = v := fun v e => Int32.toInt_inj.mp e
            have hc : z.toInt = 0 ∨ z.toInt = 1 ∨ z.toInt = 2 ∨ z.toInt = 3 ∨ z.toInt = 4 ∨ z.toInt = 5 ∨ z.toInt = 6 ∨ z.toInt = 7 ∨ z.toInt = 8 ∨ z.toInt = 9 ∨ z.toInt = 10 ∨ z.toInt = 11 ∨ z.toInt = 12 ∨ z.toInt = 13 ∨ z.toInt = 14 ∨ z.toInt = 15 ∨ z.toInt = 16 ∨ z.toInt = 17 ∨ z.toInt = 18 ∨ z.toInt = 19 ∨ z.toInt = 20 ∨ z.toInt = 21 ∨ z.toInt = 22 ∨ z.toInt = 23 ∨ z.toInt = 24 ∨ z.toInt = 25 := by omega
            rcases hc with hc | hc | hc | hc | hc | hc | hc | hc | hc | hc | hc | hc | hc | hc | hc | hc | hc | hc | hc | hc | hc | hc | hc | hc | hc | hc
            · exact h0 (hz0 0 (by rw [hc]; decide))
            · exact h1 (hz0 1 (by rw [hc]; decide))
            · exact h2 (hz0 2 (by rw [hc]; decide))
            · exact h3 (hz0 3 (by rw [hc]; decide))
            · exact h4 (hz0 4 (by rw [hc]; decide))
            · exact h5 (hz0 5 (by rw [hc]; decide))
            · exact h6 (hz0 6 (by rw [hc]; decide))
            · exact h7 (hz0 7 (by rw [hc]; decide))
            · exact h8 (hz0 8 (by rw [hc]; decide))
            · exact h9 (hz0 9 (by rw [hc]; decide))
            · exact h10 (hz0 10 (by rw [hc]; decide))
            · exact h11 (hz0 11 (by rw [hc]; decide))
            · exact h12 (hz0 12 (by rw [hc]; decide))
            · exact h13 (hz0 13 (by rw [hc]; decide))
            · exact h14 (hz0 14 (by rw [hc]; decide))
            · exact h15 (hz0 15 (by rw [hc]; decide))
            · exact h16 (hz0 16 (by rw [hc]; decide))
            · exact h17 (hz0 17 (by rw [hc]; decide))
            · exact h18 (hz0 18 (by rw [hc]; decide))
            · exact h19 (hz0 19 (by rw [hc]; decide))
            · exact h20 (hz0 20 (by rw [hc]; decide))
            · exact h21 (hz0 21 (by rw [hc]; decide))
            · exact h22 (hz0 22 (by rw [hc]; decide))
            · exact h23 (hz0 23 (by rw [hc]; decide))
            · exact h24 (hz0 24 (by rw [hc]; decide))
            · exact h25 (hz0 25 (by rw [hc]; decide))

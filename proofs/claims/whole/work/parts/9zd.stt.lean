/-! ===== the start: each constructor's run ===== -/
theorem zi_1 (B : aM) : Ms 15 105 [(2, ((2 : Nat) : Int))] (rn zl4 B, (3, 3, 934)) (none) (rn zl30 B, (16, 16, 1068)) := by
  refine Ms.of ?_
  show Wp 15 105 0 [] [(2, ((2 : Nat) : Int))] [] (rn zl4 B, (3, 3, 934)) _
  refine y_blk (t := 0) rfl (show fnd bk_X10_init 0 = some _ from rfl) aB_X10_init ?_
  refine wp_aload_n (v := ((2 : Nat) : Int)) rfl (Int.natCast_nonneg _) ?_
  refine wp_objInit ⟨by decide, Nat.le_of_ble_eq_true rfl, rfl, Int.natCast_nonneg _⟩ ?_
  refine wp_aload_n (v := ((2 : Nat) : Int)) rfl (Int.natCast_nonneg _) ?_
  refine wp_bipush (by decide) ?_
  refine z_newarray (n := 8) (M1 := rn zl5 B) (T1 := (4, 4, 942)) (show ash 3 = (100, 8) from rfl) (by decide) (by decide) (by decide) rfl rfl rfl ?_
  refine z_put (M1 := rn zl6 B) (show ash 2 = (10, 19) from rfl) (by decide) rfl rfl ?_
  refine wp_aload_n (v := ((2 : Nat) : Int)) rfl (Int.natCast_nonneg _) ?_
  refine wp_bipush (by decide) ?_
  refine z_newarray (n := 10) (M1 := rn zl7 B) (T1 := (5, 5, 952)) (show ash 4 = (100, 10) from rfl) (by decide) (by decide) (by decide) rfl rfl rfl ?_
  refine z_put (M1 := rn zl8 B) (show ash 2 = (10, 19) from rfl) (by decide) rfl rfl ?_
  refine wp_aload_n (v := ((2 : Nat) : Int)) rfl (Int.natCast_nonneg _) ?_
  refine wp_bipush (by decide) ?_
  refine z_newarray (n := 10) (M1 := rn zl9 B) (T1 := (6, 6, 962)) (show ash 5 = (100, 10) from rfl) (by decide) (by decide) (by decide) rfl rfl rfl ?_
  refine z_put (M1 := rn zl10 B) (show ash 2 = (10, 19) from rfl) (by decide) rfl rfl ?_
  refine wp_aload_n (v := ((2 : Nat) : Int)) rfl (Int.natCast_nonneg _) ?_
  refine wp_bipush (by decide) ?_
  refine z_newarray (n := 10) (M1 := rn zl11 B) (T1 := (7, 7, 972)) (show ash 6 = (100, 10) from rfl) (by decide) (by decide) (by decide) rfl rfl rfl ?_
  refine z_put (M1 := rn zl12 B) (show ash 2 = (10, 19) from rfl) (by decide) rfl rfl ?_
  refine wp_aload_n (v := ((2 : Nat) : Int)) rfl (Int.natCast_nonneg _) ?_
  refine wp_bipush (by decide) ?_
  refine z_newarray (n := 64) (M1 := rn zl13 B) (T1 := (8, 8, 1036)) (show ash 7 = (100, 64) from rfl) (by decide) (by decide) (by decide) rfl rfl rfl ?_
  refine z_put (M1 := rn zl14 B) (show ash 2 = (10, 19) from rfl) (by decide) rfl rfl ?_
  refine wp_aload_n (v := ((2 : Nat) : Int)) rfl (Int.natCast_nonneg _) ?_
  refine wp_iconst ⟨by decide, by decide⟩ ?_
  refine z_newarray (n := 3) (M1 := rn zl15 B) (T1 := (9, 9, 1039)) (show ash 8 = (100, 3) from rfl) (by decide) (by decide) (by decide) rfl rfl rfl ?_
  refine z_put (M1 := rn zl16 B) (show ash 2 = (10, 19) from rfl) (by decide) rfl rfl ?_
  refine wp_aload_n (v := ((2 : Nat) : Int)) rfl (Int.natCast_nonneg _) ?_
  refine wp_iconst ⟨by decide, by decide⟩ ?_
  refine z_newarray (n := 3) (M1 := rn zl17 B) (T1 := (10, 10, 1042)) (show ash 9 = (100, 3) from rfl) (by decide) (by decide) (by decide) rfl rfl rfl ?_
  refine z_put (M1 := rn zl18 B) (show ash 2 = (10, 19) from rfl) (by decide) rfl rfl ?_
  refine wp_aload_n (v := ((2 : Nat) : Int)) rfl (Int.natCast_nonneg _) ?_
  refine wp_iconst ⟨by decide, by decide⟩ ?_
  refine z_newarray (n := 4) (M1 := rn zl19 B) (T1 := (11, 11, 1046)) (show ash 10 = (100, 4) from rfl) (by decide) (by decide) (by decide) rfl rfl rfl ?_
  refine z_put (M1 := rn zl20 B) (show ash 2 = (10, 19) from rfl) (by decide) rfl rfl ?_
  refine wp_aload_n (v := ((2 : Nat) : Int)) rfl (Int.natCast_nonneg _) ?_
  refine wp_iconst ⟨by decide, by decide⟩ ?_
  refine z_newarray (n := 4) (M1 := rn zl21 B) (T1 := (12, 12, 1050)) (show ash 11 = (100, 4) from rfl) (by decide) (by decide) (by decide) rfl rfl rfl ?_
  refine z_put (M1 := rn zl22 B) (show ash 2 = (10, 19) from rfl) (by decide) rfl rfl ?_
  refine wp_aload_n (v := ((2 : Nat) : Int)) rfl (Int.natCast_nonneg _) ?_
  refine wp_iconst ⟨by decide, by decide⟩ ?_
  refine z_newarray (n := 4) (M1 := rn zl23 B) (T1 := (13, 13, 1054)) (show ash 12 = (100, 4) from rfl) (by decide) (by decide) (by decide) rfl rfl rfl ?_
  refine z_put (M1 := rn zl24 B) (show ash 2 = (10, 19) from rfl) (by decide) rfl rfl ?_
  refine wp_aload_n (v := ((2 : Nat) : Int)) rfl (Int.natCast_nonneg _) ?_
  refine wp_iconst ⟨by decide, by decide⟩ ?_
  refine z_newarray (n := 4) (M1 := rn zl25 B) (T1 := (14, 14, 1058)) (show ash 13 = (100, 4) from rfl) (by decide) (by decide) (by decide) rfl rfl rfl ?_
  refine z_put (M1 := rn zl26 B) (show ash 2 = (10, 19) from rfl) (by decide) rfl rfl ?_
  refine wp_aload_n (v := ((2 : Nat) : Int)) rfl (Int.natCast_nonneg _) ?_
  refine wp_iconst ⟨by decide, by decide⟩ ?_
  refine z_newarray (n := 5) (M1 := rn zl27 B) (T1 := (15, 15, 1063)) (show ash 14 = (100, 5) from rfl) (by decide) (by decide) (by decide) rfl rfl rfl ?_
  refine z_put (M1 := rn zl28 B) (show ash 2 = (10, 19) from rfl) (by decide) rfl rfl ?_
  refine wp_aload_n (v := ((2 : Nat) : Int)) rfl (Int.natCast_nonneg _) ?_
  refine wp_iconst ⟨by decide, by decide⟩ ?_
  refine z_newarray (n := 5) (M1 := rn zl29 B) (T1 := (16, 16, 1068)) (show ash 15 = (100, 5) from rfl) (by decide) (by decide) (by decide) rfl rfl rfl ?_
  refine z_put (M1 := rn zl30 B) (show ash 2 = (10, 19) from rfl) (by decide) rfl rfl ?_
  exact wp_return ⟨rfl, rfl⟩
theorem zi_2 (B : aM) : Ms 14 105 [(2, ((17 : Nat) : Int))] (rn zl33 B, (18, 18, 1095)) (none) (rn zl59 B, (31, 31, 1229)) := by
  refine Ms.of ?_
  show Wp 14 105 0 [] [(2, ((17 : Nat) : Int))] [] (rn zl33 B, (18, 18, 1095)) _
  refine y_blk (t := 0) rfl (show fnd bk_X10_init 0 = some _ from rfl) aB_X10_init ?_
  refine wp_aload_n (v := ((17 : Nat) : Int)) rfl (Int.natCast_nonneg _) ?_
  refine wp_objInit ⟨by decide, Nat.le_of_ble_eq_true rfl, rfl, Int.natCast_nonneg _⟩ ?_
  refine wp_aload_n (v := ((17 : Nat) : Int)) rfl (Int.natCast_nonneg _) ?_
  refine wp_bipush (by decide) ?_
  refine z_newarray (n := 8) (M1 := rn zl34 B) (T1 := (19, 19, 1103)) (show ash 18 = (100, 8) from rfl) (by decide) (by decide) (by decide) rfl rfl rfl ?_
  refine z_put (M1 := rn zl35 B) (show ash 17 = (10, 19) from rfl) (by decide) rfl rfl ?_
  refine wp_aload_n (v := ((17 : Nat) : Int)) rfl (Int.natCast_nonneg _) ?_
  refine wp_bipush (by decide) ?_
  refine z_newarray (n := 10) (M1 := rn zl36 B) (T1 := (20, 20, 1113)) (show ash 19 = (100, 10) from rfl) (by decide) (by decide) (by decide) rfl rfl rfl ?_
  refine z_put (M1 := rn zl37 B) (show ash 17 = (10, 19) from rfl) (by decide) rfl rfl ?_
  refine wp_aload_n (v := ((17 : Nat) : Int)) rfl (Int.natCast_nonneg _) ?_
  refine wp_bipush (by decide) ?_
  refine z_newarray (n := 10) (M1 := rn zl38 B) (T1 := (21, 21, 1123)) (show ash 20 = (100, 10) from rfl) (by decide) (by decide) (by decide) rfl rfl rfl ?_
  refine z_put (M1 := rn zl39 B) (show ash 17 = (10, 19) from rfl) (by decide) rfl rfl ?_
  refine wp_aload_n (v := ((17 : Nat) : Int)) rfl (Int.natCast_nonneg _) ?_
  refine wp_bipush (by decide) ?_
  refine z_newarray (n := 10) (M1 := rn zl40 B) (T1 := (22, 22, 1133)) (show ash 21 = (100, 10) from rfl) (by decide) (by decide) (by decide) rfl rfl rfl ?_
  refine z_put (M1 := rn zl41 B) (show ash 17 = (10, 19) from rfl) (by decide) rfl rfl ?_
  refine wp_aload_n (v := ((17 : Nat) : Int)) rfl (Int.natCast_nonneg _) ?_
  refine wp_bipush (by decide) ?_
  refine z_newarray (n := 64) (M1 := rn zl42 B) (T1 := (23, 23, 1197)) (show ash 22 = (100, 64) from rfl) (by decide) (by decide) (by decide) rfl rfl rfl ?_
  refine z_put (M1 := rn zl43 B) (show ash 17 = (10, 19) from rfl) (by decide) rfl rfl ?_
  refine wp_aload_n (v := ((17 : Nat) : Int)) rfl (Int.natCast_nonneg _) ?_
  refine wp_iconst ⟨by decide, by decide⟩ ?_
  refine z_newarray (n := 3) (M1 := rn zl44 B) (T1 := (24, 24, 1200)) (show ash 23 = (100, 3) from rfl) (by decide) (by decide) (by decide) rfl rfl rfl ?_
  refine z_put (M1 := rn zl45 B) (show ash 17 = (10, 19) from rfl) (by decide) rfl rfl ?_
  refine wp_aload_n (v := ((17 : Nat) : Int)) rfl (Int.natCast_nonneg _) ?_
  refine wp_iconst ⟨by decide, by decide⟩ ?_
  refine z_newarray (n := 3) (M1 := rn zl46 B) (T1 := (25, 25, 1203)) (show ash 24 = (100, 3) from rfl) (by decide) (by decide) (by decide) rfl rfl rfl ?_
  refine z_put (M1 := rn zl47 B) (show ash 17 = (10, 19) from rfl) (by decide) rfl rfl ?_
  refine wp_aload_n (v := ((17 : Nat) : Int)) rfl (Int.natCast_nonneg _) ?_
  refine wp_iconst ⟨by decide, by decide⟩ ?_
  refine z_newarray (n := 4) (M1 := rn zl48 B) (T1 := (26, 26, 1207)) (show ash 25 = (100, 4) from rfl) (by decide) (by decide) (by decide) rfl rfl rfl ?_
  refine z_put (M1 := rn zl49 B) (show ash 17 = (10, 19) from rfl) (by decide) rfl rfl ?_
  refine wp_aload_n (v := ((17 : Nat) : Int)) rfl (Int.natCast_nonneg _) ?_
  refine wp_iconst ⟨by decide, by decide⟩ ?_
  refine z_newarray (n := 4) (M1 := rn zl50 B) (T1 := (27, 27, 1211)) (show ash 26 = (100, 4) from rfl) (by decide) (by decide) (by decide) rfl rfl rfl ?_
  refine z_put (M1 := rn zl51 B) (show ash 17 = (10, 19) from rfl) (by decide) rfl rfl ?_
  refine wp_aload_n (v := ((17 : Nat) : Int)) rfl (Int.natCast_nonneg _) ?_
  refine wp_iconst ⟨by decide, by decide⟩ ?_
  refine z_newarray (n := 4) (M1 := rn zl52 B) (T1 := (28, 28, 1215)) (show ash 27 = (100, 4) from rfl) (by decide) (by decide) (by decide) rfl rfl rfl ?_
  refine z_put (M1 := rn zl53 B) (show ash 17 = (10, 19) from rfl) (by decide) rfl rfl ?_
  refine wp_aload_n (v := ((17 : Nat) : Int)) rfl (Int.natCast_nonneg _) ?_
  refine wp_iconst ⟨by decide, by decide⟩ ?_
  refine z_newarray (n := 4) (M1 := rn zl54 B) (T1 := (29, 29, 1219)) (show ash 28 = (100, 4) from rfl) (by decide) (by decide) (by decide) rfl rfl rfl ?_
  refine z_put (M1 := rn zl55 B) (show ash 17 = (10, 19) from rfl) (by decide) rfl rfl ?_
  refine wp_aload_n (v := ((17 : Nat) : Int)) rfl (Int.natCast_nonneg _) ?_
  refine wp_iconst ⟨by decide, by decide⟩ ?_
  refine z_newarray (n := 5) (M1 := rn zl56 B) (T1 := (30, 30, 1224)) (show ash 29 = (100, 5) from rfl) (by decide) (by decide) (by decide) rfl rfl rfl ?_
  refine z_put (M1 := rn zl57 B) (show ash 17 = (10, 19) from rfl) (by decide) rfl rfl ?_
  refine wp_aload_n (v := ((17 : Nat) : Int)) rfl (Int.natCast_nonneg _) ?_
  refine wp_iconst ⟨by decide, by decide⟩ ?_
  refine z_newarray (n := 5) (M1 := rn zl58 B) (T1 := (31, 31, 1229)) (show ash 30 = (100, 5) from rfl) (by decide) (by decide) (by decide) rfl rfl rfl ?_
  refine z_put (M1 := rn zl59 B) (show ash 17 = (10, 19) from rfl) (by decide) rfl rfl ?_
  exact wp_return ⟨rfl, rfl⟩
theorem zi_3 (B : aM) : Ms 14 96 [(2, ((34 : Nat) : Int)), (2, ((1 : Nat) : Int))] (rn zl67 B, (35, 35, 1303)) (none) (rn zl68 B, (35, 35, 1303)) := by
  refine Ms.of ?_
  show Wp 14 96 0 [] [(2, ((34 : Nat) : Int)), (2, ((1 : Nat) : Int))] [] (rn zl67 B, (35, 35, 1303)) _
  refine y_blk (t := 0) rfl (show fnd bk_X9_init 0 = some _ from rfl) aB_X9_init ?_
  refine wp_aload_n (v := ((34 : Nat) : Int)) rfl (Int.natCast_nonneg _) ?_
  refine wp_objInit ⟨by decide, Nat.le_of_ble_eq_true rfl, rfl, Int.natCast_nonneg _⟩ ?_
  refine wp_aload_n (v := ((34 : Nat) : Int)) rfl (Int.natCast_nonneg _) ?_
  refine wp_aload_n (v := ((1 : Nat) : Int)) rfl (Int.natCast_nonneg _) ?_
  refine z_put (M1 := rn zl68 B) (show ash 34 = (9, 5) from rfl) (by decide) rfl rfl ?_
  exact wp_return ⟨rfl, rfl⟩
theorem zi_4 (B : aM) : Ms 14 81 [(0, 0)] (rn zl69 B, (35, 35, 1303)) (some (2, 2000012)) (rn zl69 B, (35, 35, 1303)) := by
  refine Ms.of ?_
  show Wp 14 81 0 [] [(0, 0)] [] (rn zl69 B, (35, 35, 1303)) _
  refine y_blk (t := 0) rfl (show fnd bk_X7_lineWord 0 = some _ from rfl) aB_X7_lineWord ?_
  refine wp_iload_n (v := 0) rfl ?_
  refine y_ts (off := 43) (t := 44) ⟨by decide, by decide⟩ rfl rfl ?_
  refine y_blk (t := 44) rfl (show fnd bk_X7_lineWord 44 = some _ from rfl) aB_X7_lineWord ?_
  refine y_ldcS (v := 2000012) rfl ?_
  exact wp_areturn (by decide) ⟨rfl, rfl⟩
theorem zi_5 (B : aM) : Ms 14 101 [(2, 2000012)] (rn zl69 B, (35, 35, 1303)) (some (1, 759180)) (rn zl69 B, (35, 35, 1303)) := by
  refine Ms.of ?_
  show Wp 14 101 0 [] [(2, 2000012), (9, 0), (9, 0), (9, 0)] [] (rn zl69 B, (35, 35, 1303)) _
  refine y_blk (t := 0) rfl (show fnd bk_X9_numberOf 0 = some _ from rfl) aB_X9_numberOf ?_
  refine y_lconst (v := 0) rfl ?_
  refine y_lstn (L1 := [(2, 2000012), (1, 0), (9, 0), (9, 0)]) (Nat.le_of_ble_eq_true rfl) rfl ?_
  refine wp_iconst ⟨by decide, by decide⟩ ?_
  refine y_stn (L1 := [(2, 2000012), (1, 0), (9, 0), (0, 0)]) (Nat.le_of_ble_eq_true rfl) rfl ?_
  refine y_blk (t := 4) rfl (show fnd bk_X9_numberOf 4 = some _ from rfl) aB_X9_numberOf ?_
  refine wp_iload_n (v := 0) rfl ?_
  refine wp_aload_n (v := 2000012) rfl (by decide) ?_
  refine y_slen ⟨by decide, Nat.le_of_ble_eq_true rfl, rfl, by decide, by decide⟩ ?_
  refine y_top (v := 4) (by decide) ?_
  refine wp_icmp_ge (fun c => absurd c (by decide)) (fun _ => ?_)
  refine wp_lload_n (v := 0) rfl ?_
  refine y_ldc2 (v := 32) (by decide) rfl ?_
  refine wp_lmul ⟨by decide, by decide⟩ ?_
  refine y_top (v := 0) (by decide) ?_
  refine wp_aload_n (v := 2000012) rfl (by decide) ?_
  refine wp_iload_n (v := 0) rfl ?_
  refine y_schar ⟨by decide, Nat.le_of_ble_eq_true rfl, rfl, by decide, by decide, by decide, by decide⟩ ?_
  refine y_top (v := 119) (by decide) ?_
  refine wp_bipush (by decide) ?_
  refine wp_isub ⟨by decide, by decide⟩ ?_
  refine y_top (v := 22) (by decide) ?_
  refine wp_iconst ⟨by decide, by decide⟩ ?_
  refine wp_iadd ⟨by decide, by decide⟩ ?_
  refine y_top (v := 23) (by decide) ?_
  refine wp_i2l ?_
  refine wp_ladd ⟨by decide, by decide⟩ ?_
  refine y_top (v := 23) (by decide) ?_
  refine y_lstn (L1 := [(2, 2000012), (1, 23), (9, 0), (0, 0)]) (Nat.le_of_ble_eq_true rfl) rfl ?_
  refine y_iinc (L1 := [(2, 2000012), (1, 23), (9, 0), (0, 1)]) rfl (Nat.le_of_ble_eq_true rfl) ⟨by decide, by decide⟩ ⟨by decide, by decide⟩ rfl ?_
  refine wp_goto ?_
  refine y_blk (t := 4) rfl (show fnd bk_X9_numberOf 4 = some _ from rfl) aB_X9_numberOf ?_
  refine wp_iload_n (v := 1) rfl ?_
  refine wp_aload_n (v := 2000012) rfl (by decide) ?_
  refine y_slen ⟨by decide, Nat.le_of_ble_eq_true rfl, rfl, by decide, by decide⟩ ?_
  refine y_top (v := 4) (by decide) ?_
  refine wp_icmp_ge (fun c => absurd c (by decide)) (fun _ => ?_)
  refine wp_lload_n (v := 23) rfl ?_
  refine y_ldc2 (v := 32) (by decide) rfl ?_
  refine wp_lmul ⟨by decide, by decide⟩ ?_
  refine y_top (v := 736) (by decide) ?_
  refine wp_aload_n (v := 2000012) rfl (by decide) ?_
  refine wp_iload_n (v := 1) rfl ?_
  refine y_schar ⟨by decide, Nat.le_of_ble_eq_true rfl, rfl, by decide, by decide, by decide, by decide⟩ ?_
  refine y_top (v := 101) (by decide) ?_
  refine wp_bipush (by decide) ?_
  refine wp_isub ⟨by decide, by decide⟩ ?_
  refine y_top (v := 4) (by decide) ?_
  refine wp_iconst ⟨by decide, by decide⟩ ?_
  refine wp_iadd ⟨by decide, by decide⟩ ?_
  refine y_top (v := 5) (by decide) ?_
  refine wp_i2l ?_
  refine wp_ladd ⟨by decide, by decide⟩ ?_
  refine y_top (v := 741) (by decide) ?_
  refine y_lstn (L1 := [(2, 2000012), (1, 741), (9, 0), (0, 1)]) (Nat.le_of_ble_eq_true rfl) rfl ?_
  refine y_iinc (L1 := [(2, 2000012), (1, 741), (9, 0), (0, 2)]) rfl (Nat.le_of_ble_eq_true rfl) ⟨by decide, by decide⟩ ⟨by decide, by decide⟩ rfl ?_
  refine wp_goto ?_
  refine y_blk (t := 4) rfl (show fnd bk_X9_numberOf 4 = some _ from rfl) aB_X9_numberOf ?_
  refine wp_iload_n (v := 2) rfl ?_
  refine wp_aload_n (v := 2000012) rfl (by decide) ?_
  refine y_slen ⟨by decide, Nat.le_of_ble_eq_true rfl, rfl, by decide, by decide⟩ ?_
  refine y_top (v := 4) (by decide) ?_
  refine wp_icmp_ge (fun c => absurd c (by decide)) (fun _ => ?_)
  refine wp_lload_n (v := 741) rfl ?_
  refine y_ldc2 (v := 32) (by decide) rfl ?_
  refine wp_lmul ⟨by decide, by decide⟩ ?_
  refine y_top (v := 23712) (by decide) ?_
  refine wp_aload_n (v := 2000012) rfl (by decide) ?_
  refine wp_iload_n (v := 2) rfl ?_
  refine y_schar ⟨by decide, Nat.le_of_ble_eq_true rfl, rfl, by decide, by decide, by decide, by decide⟩ ?_
  refine y_top (v := 108) (by decide) ?_
  refine wp_bipush (by decide) ?_
  refine wp_isub ⟨by decide, by decide⟩ ?_
  refine y_top (v := 11) (by decide) ?_
  refine wp_iconst ⟨by decide, by decide⟩ ?_
  refine wp_iadd ⟨by decide, by decide⟩ ?_
  refine y_top (v := 12) (by decide) ?_
  refine wp_i2l ?_
  refine wp_ladd ⟨by decide, by decide⟩ ?_
  refine y_top (v := 23724) (by decide) ?_
  refine y_lstn (L1 := [(2, 2000012), (1, 23724), (9, 0), (0, 2)]) (Nat.le_of_ble_eq_true rfl) rfl ?_
  refine y_iinc (L1 := [(2, 2000012), (1, 23724), (9, 0), (0, 3)]) rfl (Nat.le_of_ble_eq_true rfl) ⟨by decide, by decide⟩ ⟨by decide, by decide⟩ rfl ?_
  refine wp_goto ?_
  refine y_blk (t := 4) rfl (show fnd bk_X9_numberOf 4 = some _ from rfl) aB_X9_numberOf ?_
  refine wp_iload_n (v := 3) rfl ?_
  refine wp_aload_n (v := 2000012) rfl (by decide) ?_
  refine y_slen ⟨by decide, Nat.le_of_ble_eq_true rfl, rfl, by decide, by decide⟩ ?_
  refine y_top (v := 4) (by decide) ?_
  refine wp_icmp_ge (fun c => absurd c (by decide)) (fun _ => ?_)
  refine wp_lload_n (v := 23724) rfl ?_
  refine y_ldc2 (v := 32) (by decide) rfl ?_
  refine wp_lmul ⟨by decide, by decide⟩ ?_
  refine y_top (v := 759168) (by decide) ?_
  refine wp_aload_n (v := 2000012) rfl (by decide) ?_
  refine wp_iload_n (v := 3) rfl ?_
  refine y_schar ⟨by decide, Nat.le_of_ble_eq_true rfl, rfl, by decide, by decide, by decide, by decide⟩ ?_
  refine y_top (v := 108) (by decide) ?_
  refine wp_bipush (by decide) ?_
  refine wp_isub ⟨by decide, by decide⟩ ?_
  refine y_top (v := 11) (by decide) ?_
  refine wp_iconst ⟨by decide, by decide⟩ ?_
  refine wp_iadd ⟨by decide, by decide⟩ ?_
  refine y_top (v := 12) (by decide) ?_
  refine wp_i2l ?_
  refine wp_ladd ⟨by decide, by decide⟩ ?_
  refine y_top (v := 759180) (by decide) ?_
  refine y_lstn (L1 := [(2, 2000012), (1, 759180), (9, 0), (0, 3)]) (Nat.le_of_ble_eq_true rfl) rfl ?_
  refine y_iinc (L1 := [(2, 2000012), (1, 759180), (9, 0), (0, 4)]) rfl (Nat.le_of_ble_eq_true rfl) ⟨by decide, by decide⟩ ⟨by decide, by decide⟩ rfl ?_
  refine wp_goto ?_
  refine y_blk (t := 4) rfl (show fnd bk_X9_numberOf 4 = some _ from rfl) aB_X9_numberOf ?_
  refine wp_iload_n (v := 4) rfl ?_
  refine wp_aload_n (v := 2000012) rfl (by decide) ?_
  refine y_slen ⟨by decide, Nat.le_of_ble_eq_true rfl, rfl, by decide, by decide⟩ ?_
  refine y_top (v := 4) (by decide) ?_
  refine wp_icmp_ge (fun _ => ?_) (fun c => absurd (by decide) c)
  refine y_blk (t := 36) rfl (show fnd bk_X9_numberOf 36 = some _ from rfl) aB_X9_numberOf ?_
  refine wp_lload_n (v := 759180) rfl ?_
  exact wp_lreturn ⟨rfl, rfl⟩
theorem zi_6 (B : aM) : Ms 14 81 [(0, 1)] (rn zl71 B, (35, 35, 1303)) (some (2, 2000013)) (rn zl71 B, (35, 35, 1303)) := by
  refine Ms.of ?_
  show Wp 14 81 0 [] [(0, 1)] [] (rn zl71 B, (35, 35, 1303)) _
  refine y_blk (t := 0) rfl (show fnd bk_X7_lineWord 0 = some _ from rfl) aB_X7_lineWord ?_
  refine wp_iload_n (v := 1) rfl ?_
  refine y_ts (off := 46) (t := 47) ⟨by decide, by decide⟩ rfl rfl ?_
  refine y_blk (t := 47) rfl (show fnd bk_X7_lineWord 47 = some _ from rfl) aB_X7_lineWord ?_
  refine y_ldcS (v := 2000013) rfl ?_
  exact wp_areturn (by decide) ⟨rfl, rfl⟩
theorem zi_7 (B : aM) : Ms 14 101 [(2, 2000013)] (rn zl71 B, (35, 35, 1303)) (some (1, 100037)) (rn zl71 B, (35, 35, 1303)) := by
  refine Ms.of ?_
  show Wp 14 101 0 [] [(2, 2000013), (9, 0), (9, 0), (9, 0)] [] (rn zl71 B, (35, 35, 1303)) _
  refine y_blk (t := 0) rfl (show fnd bk_X9_numberOf 0 = some _ from rfl) aB_X9_numberOf ?_
  refine y_lconst (v := 0) rfl ?_
  refine y_lstn (L1 := [(2, 2000013), (1, 0), (9, 0), (9, 0)]) (Nat.le_of_ble_eq_true rfl) rfl ?_
  refine wp_iconst ⟨by decide, by decide⟩ ?_
  refine y_stn (L1 := [(2, 2000013), (1, 0), (9, 0), (0, 0)]) (Nat.le_of_ble_eq_true rfl) rfl ?_
  refine y_blk (t := 4) rfl (show fnd bk_X9_numberOf 4 = some _ from rfl) aB_X9_numberOf ?_
  refine wp_iload_n (v := 0) rfl ?_
  refine wp_aload_n (v := 2000013) rfl (by decide) ?_
  refine y_slen ⟨by decide, Nat.le_of_ble_eq_true rfl, rfl, by decide, by decide⟩ ?_
  refine y_top (v := 4) (by decide) ?_
  refine wp_icmp_ge (fun c => absurd c (by decide)) (fun _ => ?_)
  refine wp_lload_n (v := 0) rfl ?_
  refine y_ldc2 (v := 32) (by decide) rfl ?_
  refine wp_lmul ⟨by decide, by decide⟩ ?_
  refine y_top (v := 0) (by decide) ?_
  refine wp_aload_n (v := 2000013) rfl (by decide) ?_
  refine wp_iload_n (v := 0) rfl ?_
  refine y_schar ⟨by decide, Nat.le_of_ble_eq_true rfl, rfl, by decide, by decide, by decide, by decide⟩ ?_
  refine y_top (v := 99) (by decide) ?_
  refine wp_bipush (by decide) ?_
  refine wp_isub ⟨by decide, by decide⟩ ?_
  refine y_top (v := 2) (by decide) ?_
  refine wp_iconst ⟨by decide, by decide⟩ ?_
  refine wp_iadd ⟨by decide, by decide⟩ ?_
  refine y_top (v := 3) (by decide) ?_
  refine wp_i2l ?_
  refine wp_ladd ⟨by decide, by decide⟩ ?_
  refine y_top (v := 3) (by decide) ?_
  refine y_lstn (L1 := [(2, 2000013), (1, 3), (9, 0), (0, 0)]) (Nat.le_of_ble_eq_true rfl) rfl ?_
  refine y_iinc (L1 := [(2, 2000013), (1, 3), (9, 0), (0, 1)]) rfl (Nat.le_of_ble_eq_true rfl) ⟨by decide, by decide⟩ ⟨by decide, by decide⟩ rfl ?_
  refine wp_goto ?_
  refine y_blk (t := 4) rfl (show fnd bk_X9_numberOf 4 = some _ from rfl) aB_X9_numberOf ?_
  refine wp_iload_n (v := 1) rfl ?_
  refine wp_aload_n (v := 2000013) rfl (by decide) ?_
  refine y_slen ⟨by decide, Nat.le_of_ble_eq_true rfl, rfl, by decide, by decide⟩ ?_
  refine y_top (v := 4) (by decide) ?_
  refine wp_icmp_ge (fun c => absurd c (by decide)) (fun _ => ?_)
  refine wp_lload_n (v := 3) rfl ?_
  refine y_ldc2 (v := 32) (by decide) rfl ?_
  refine wp_lmul ⟨by decide, by decide⟩ ?_
  refine y_top (v := 96) (by decide) ?_
  refine wp_aload_n (v := 2000013) rfl (by decide) ?_
  refine wp_iload_n (v := 1) rfl ?_
  refine y_schar ⟨by decide, Nat.le_of_ble_eq_true rfl, rfl, by decide, by decide, by decide, by decide⟩ ?_
  refine y_top (v := 97) (by decide) ?_
  refine wp_bipush (by decide) ?_
  refine wp_isub ⟨by decide, by decide⟩ ?_
  refine y_top (v := 0) (by decide) ?_
  refine wp_iconst ⟨by decide, by decide⟩ ?_
  refine wp_iadd ⟨by decide, by decide⟩ ?_
  refine y_top (v := 1) (by decide) ?_
  refine wp_i2l ?_
  refine wp_ladd ⟨by decide, by decide⟩ ?_
  refine y_top (v := 97) (by decide) ?_
  refine y_lstn (L1 := [(2, 2000013), (1, 97), (9, 0), (0, 1)]) (Nat.le_of_ble_eq_true rfl) rfl ?_
  refine y_iinc (L1 := [(2, 2000013), (1, 97), (9, 0), (0, 2)]) rfl (Nat.le_of_ble_eq_true rfl) ⟨by decide, by decide⟩ ⟨by decide, by decide⟩ rfl ?_
  refine wp_goto ?_
  refine y_blk (t := 4) rfl (show fnd bk_X9_numberOf 4 = some _ from rfl) aB_X9_numberOf ?_
  refine wp_iload_n (v := 2) rfl ?_
  refine wp_aload_n (v := 2000013) rfl (by decide) ?_
  refine y_slen ⟨by decide, Nat.le_of_ble_eq_true rfl, rfl, by decide, by decide⟩ ?_
  refine y_top (v := 4) (by decide) ?_
  refine wp_icmp_ge (fun c => absurd c (by decide)) (fun _ => ?_)
  refine wp_lload_n (v := 97) rfl ?_
  refine y_ldc2 (v := 32) (by decide) rfl ?_
  refine wp_lmul ⟨by decide, by decide⟩ ?_
  refine y_top (v := 3104) (by decide) ?_
  refine wp_aload_n (v := 2000013) rfl (by decide) ?_
  refine wp_iload_n (v := 2) rfl ?_
  refine y_schar ⟨by decide, Nat.le_of_ble_eq_true rfl, rfl, by decide, by decide, by decide, by decide⟩ ?_
  refine y_top (v := 118) (by decide) ?_
  refine wp_bipush (by decide) ?_
  refine wp_isub ⟨by decide, by decide⟩ ?_
  refine y_top (v := 21) (by decide) ?_
  refine wp_iconst ⟨by decide, by decide⟩ ?_
  refine wp_iadd ⟨by decide, by decide⟩ ?_
  refine y_top (v := 22) (by decide) ?_
  refine wp_i2l ?_
  refine wp_ladd ⟨by decide, by decide⟩ ?_
  refine y_top (v := 3126) (by decide) ?_
  refine y_lstn (L1 := [(2, 2000013), (1, 3126), (9, 0), (0, 2)]) (Nat.le_of_ble_eq_true rfl) rfl ?_
  refine y_iinc (L1 := [(2, 2000013), (1, 3126), (9, 0), (0, 3)]) rfl (Nat.le_of_ble_eq_true rfl) ⟨by decide, by decide⟩ ⟨by decide, by decide⟩ rfl ?_
  refine wp_goto ?_
  refine y_blk (t := 4) rfl (show fnd bk_X9_numberOf 4 = some _ from rfl) aB_X9_numberOf ?_
  refine wp_iload_n (v := 3) rfl ?_
  refine wp_aload_n (v := 2000013) rfl (by decide) ?_
  refine y_slen ⟨by decide, Nat.le_of_ble_eq_true rfl, rfl, by decide, by decide⟩ ?_
  refine y_top (v := 4) (by decide) ?_
  refine wp_icmp_ge (fun c => absurd c (by decide)) (fun _ => ?_)
  refine wp_lload_n (v := 3126) rfl ?_
  refine y_ldc2 (v := 32) (by decide) rfl ?_
  refine wp_lmul ⟨by decide, by decide⟩ ?_
  refine y_top (v := 100032) (by decide) ?_
  refine wp_aload_n (v := 2000013) rfl (by decide) ?_
  refine wp_iload_n (v := 3) rfl ?_
  refine y_schar ⟨by decide, Nat.le_of_ble_eq_true rfl, rfl, by decide, by decide, by decide, by decide⟩ ?_
  refine y_top (v := 101) (by decide) ?_
  refine wp_bipush (by decide) ?_
  refine wp_isub ⟨by decide, by decide⟩ ?_
  refine y_top (v := 4) (by decide) ?_
  refine wp_iconst ⟨by decide, by decide⟩ ?_
  refine wp_iadd ⟨by decide, by decide⟩ ?_
  refine y_top (v := 5) (by decide) ?_
  refine wp_i2l ?_
  refine wp_ladd ⟨by decide, by decide⟩ ?_
  refine y_top (v := 100037) (by decide) ?_
  refine y_lstn (L1 := [(2, 2000013), (1, 100037), (9, 0), (0, 3)]) (Nat.le_of_ble_eq_true rfl) rfl ?_
  refine y_iinc (L1 := [(2, 2000013), (1, 100037), (9, 0), (0, 4)]) rfl (Nat.le_of_ble_eq_true rfl) ⟨by decide, by decide⟩ ⟨by decide, by decide⟩ rfl ?_
  refine wp_goto ?_
  refine y_blk (t := 4) rfl (show fnd bk_X9_numberOf 4 = some _ from rfl) aB_X9_numberOf ?_
  refine wp_iload_n (v := 4) rfl ?_
  refine wp_aload_n (v := 2000013) rfl (by decide) ?_
  refine y_slen ⟨by decide, Nat.le_of_ble_eq_true rfl, rfl, by decide, by decide⟩ ?_
  refine y_top (v := 4) (by decide) ?_
  refine wp_icmp_ge (fun _ => ?_) (fun c => absurd (by decide) c)
  refine y_blk (t := 36) rfl (show fnd bk_X9_numberOf 36 = some _ from rfl) aB_X9_numberOf ?_
  refine wp_lload_n (v := 100037) rfl ?_
  exact wp_lreturn ⟨rfl, rfl⟩
theorem zi_8 (B : aM) : Ms 14 81 [(0, 2)] (rn zl73 B, (35, 35, 1303)) (some (2, 2000014)) (rn zl73 B, (35, 35, 1303)) := by
  refine Ms.of ?_
  show Wp 14 81 0 [] [(0, 2)] [] (rn zl73 B, (35, 35, 1303)) _
  refine y_blk (t := 0) rfl (show fnd bk_X7_lineWord 0 = some _ from rfl) aB_X7_lineWord ?_
  refine wp_iload_n (v := 2) rfl ?_
  refine y_ts (off := 49) (t := 50) ⟨by decide, by decide⟩ rfl rfl ?_
  refine y_blk (t := 50) rfl (show fnd bk_X7_lineWord 50 = some _ from rfl) aB_X7_lineWord ?_
  refine y_ldcS (v := 2000014) rfl ?_
  exact wp_areturn (by decide) ⟨rfl, rfl⟩
theorem zi_9 (B : aM) : Ms 14 101 [(2, 2000014)] (rn zl73 B, (35, 35, 1303)) (some (1, 23609)) (rn zl73 B, (35, 35, 1303)) := by
  refine Ms.of ?_
  show Wp 14 101 0 [] [(2, 2000014), (9, 0), (9, 0), (9, 0)] [] (rn zl73 B, (35, 35, 1303)) _
  refine y_blk (t := 0) rfl (show fnd bk_X9_numberOf 0 = some _ from rfl) aB_X9_numberOf ?_
  refine y_lconst (v := 0) rfl ?_
  refine y_lstn (L1 := [(2, 2000014), (1, 0), (9, 0), (9, 0)]) (Nat.le_of_ble_eq_true rfl) rfl ?_
  refine wp_iconst ⟨by decide, by decide⟩ ?_
  refine y_stn (L1 := [(2, 2000014), (1, 0), (9, 0), (0, 0)]) (Nat.le_of_ble_eq_true rfl) rfl ?_
  refine y_blk (t := 4) rfl (show fnd bk_X9_numberOf 4 = some _ from rfl) aB_X9_numberOf ?_
  refine wp_iload_n (v := 0) rfl ?_
  refine wp_aload_n (v := 2000014) rfl (by decide) ?_
  refine y_slen ⟨by decide, Nat.le_of_ble_eq_true rfl, rfl, by decide, by decide⟩ ?_
  refine y_top (v := 3) (by decide) ?_
  refine wp_icmp_ge (fun c => absurd c (by decide)) (fun _ => ?_)
  refine wp_lload_n (v := 0) rfl ?_
  refine y_ldc2 (v := 32) (by decide) rfl ?_
  refine wp_lmul ⟨by decide, by decide⟩ ?_
  refine y_top (v := 0) (by decide) ?_
  refine wp_aload_n (v := 2000014) rfl (by decide) ?_
  refine wp_iload_n (v := 0) rfl ?_
  refine y_schar ⟨by decide, Nat.le_of_ble_eq_true rfl, rfl, by decide, by decide, by decide, by decide⟩ ?_
  refine y_top (v := 119) (by decide) ?_
  refine wp_bipush (by decide) ?_
  refine wp_isub ⟨by decide, by decide⟩ ?_
  refine y_top (v := 22) (by decide) ?_
  refine wp_iconst ⟨by decide, by decide⟩ ?_
  refine wp_iadd ⟨by decide, by decide⟩ ?_
  refine y_top (v := 23) (by decide) ?_
  refine wp_i2l ?_
  refine wp_ladd ⟨by decide, by decide⟩ ?_
  refine y_top (v := 23) (by decide) ?_
  refine y_lstn (L1 := [(2, 2000014), (1, 23), (9, 0), (0, 0)]) (Nat.le_of_ble_eq_true rfl) rfl ?_
  refine y_iinc (L1 := [(2, 2000014), (1, 23), (9, 0), (0, 1)]) rfl (Nat.le_of_ble_eq_true rfl) ⟨by decide, by decide⟩ ⟨by decide, by decide⟩ rfl ?_
  refine wp_goto ?_
  refine y_blk (t := 4) rfl (show fnd bk_X9_numberOf 4 = some _ from rfl) aB_X9_numberOf ?_
  refine wp_iload_n (v := 1) rfl ?_
  refine wp_aload_n (v := 2000014) rfl (by decide) ?_
  refine y_slen ⟨by decide, Nat.le_of_ble_eq_true rfl, rfl, by decide, by decide⟩ ?_
  refine y_top (v := 3) (by decide) ?_
  refine wp_icmp_ge (fun c => absurd c (by decide)) (fun _ => ?_)
  refine wp_lload_n (v := 23) rfl ?_
  refine y_ldc2 (v := 32) (by decide) rfl ?_
  refine wp_lmul ⟨by decide, by decide⟩ ?_
  refine y_top (v := 736) (by decide) ?_
  refine wp_aload_n (v := 2000014) rfl (by decide) ?_
  refine wp_iload_n (v := 1) rfl ?_
  refine y_schar ⟨by decide, Nat.le_of_ble_eq_true rfl, rfl, by decide, by decide, by decide, by decide⟩ ?_
  refine y_top (v := 97) (by decide) ?_
  refine wp_bipush (by decide) ?_
  refine wp_isub ⟨by decide, by decide⟩ ?_
  refine y_top (v := 0) (by decide) ?_
  refine wp_iconst ⟨by decide, by decide⟩ ?_
  refine wp_iadd ⟨by decide, by decide⟩ ?_
  refine y_top (v := 1) (by decide) ?_
  refine wp_i2l ?_
  refine wp_ladd ⟨by decide, by decide⟩ ?_
  refine y_top (v := 737) (by decide) ?_
  refine y_lstn (L1 := [(2, 2000014), (1, 737), (9, 0), (0, 1)]) (Nat.le_of_ble_eq_true rfl) rfl ?_
  refine y_iinc (L1 := [(2, 2000014), (1, 737), (9, 0), (0, 2)]) rfl (Nat.le_of_ble_eq_true rfl) ⟨by decide, by decide⟩ ⟨by decide, by decide⟩ rfl ?_
  refine wp_goto ?_
  refine y_blk (t := 4) rfl (show fnd bk_X9_numberOf 4 = some _ from rfl) aB_X9_numberOf ?_
  refine wp_iload_n (v := 2) rfl ?_
  refine wp_aload_n (v := 2000014) rfl (by decide) ?_
  refine y_slen ⟨by decide, Nat.le_of_ble_eq_true rfl, rfl, by decide, by decide⟩ ?_
  refine y_top (v := 3) (by decide) ?_
  refine wp_icmp_ge (fun c => absurd c (by decide)) (fun _ => ?_)
  refine wp_lload_n (v := 737) rfl ?_
  refine y_ldc2 (v := 32) (by decide) rfl ?_
  refine wp_lmul ⟨by decide, by decide⟩ ?_
  refine y_top (v := 23584) (by decide) ?_
  refine wp_aload_n (v := 2000014) rfl (by decide) ?_
  refine wp_iload_n (v := 2) rfl ?_
  refine y_schar ⟨by decide, Nat.le_of_ble_eq_true rfl, rfl, by decide, by decide, by decide, by decide⟩ ?_
  refine y_top (v := 121) (by decide) ?_
  refine wp_bipush (by decide) ?_
  refine wp_isub ⟨by decide, by decide⟩ ?_
  refine y_top (v := 24) (by decide) ?_
  refine wp_iconst ⟨by decide, by decide⟩ ?_
  refine wp_iadd ⟨by decide, by decide⟩ ?_
  refine y_top (v := 25) (by decide) ?_
  refine wp_i2l ?_
  refine wp_ladd ⟨by decide, by decide⟩ ?_
  refine y_top (v := 23609) (by decide) ?_
  refine y_lstn (L1 := [(2, 2000014), (1, 23609), (9, 0), (0, 2)]) (Nat.le_of_ble_eq_true rfl) rfl ?_
  refine y_iinc (L1 := [(2, 2000014), (1, 23609), (9, 0), (0, 3)]) rfl (Nat.le_of_ble_eq_true rfl) ⟨by decide, by decide⟩ ⟨by decide, by decide⟩ rfl ?_
  refine wp_goto ?_
  refine y_blk (t := 4) rfl (show fnd bk_X9_numberOf 4 = some _ from rfl) aB_X9_numberOf ?_
  refine wp_iload_n (v := 3) rfl ?_
  refine wp_aload_n (v := 2000014) rfl (by decide) ?_
  refine y_slen ⟨by decide, Nat.le_of_ble_eq_true rfl, rfl, by decide, by decide⟩ ?_
  refine y_top (v := 3) (by decide) ?_
  refine wp_icmp_ge (fun _ => ?_) (fun c => absurd (by decide) c)
  refine y_blk (t := 36) rfl (show fnd bk_X9_numberOf 36 = some _ from rfl) aB_X9_numberOf ?_
  refine wp_lload_n (v := 23609) rfl ?_
  exact wp_lreturn ⟨rfl, rfl⟩
theorem zi_10 (B : aM) : Ms 14 81 [(0, 3)] (rn zl75 B, (35, 35, 1303)) (some (2, 2000015)) (rn zl75 B, (35, 35, 1303)) := by
  refine Ms.of ?_
  show Wp 14 81 0 [] [(0, 3)] [] (rn zl75 B, (35, 35, 1303)) _
  refine y_blk (t := 0) rfl (show fnd bk_X7_lineWord 0 = some _ from rfl) aB_X7_lineWord ?_
  refine wp_iload_n (v := 3) rfl ?_
  refine y_ts (off := 52) (t := 53) ⟨by decide, by decide⟩ rfl rfl ?_
  refine y_blk (t := 53) rfl (show fnd bk_X7_lineWord 53 = some _ from rfl) aB_X7_lineWord ?_
  refine y_ldcS (v := 2000015) rfl ?_
  exact wp_areturn (by decide) ⟨rfl, rfl⟩
theorem zi_11 (B : aM) : Ms 14 101 [(2, 2000015)] (rn zl75 B, (35, 35, 1303)) (some (1, 23569509)) (rn zl75 B, (35, 35, 1303)) := by
  refine Ms.of ?_
  show Wp 14 101 0 [] [(2, 2000015), (9, 0), (9, 0), (9, 0)] [] (rn zl75 B, (35, 35, 1303)) _
  refine y_blk (t := 0) rfl (show fnd bk_X9_numberOf 0 = some _ from rfl) aB_X9_numberOf ?_
  refine y_lconst (v := 0) rfl ?_
  refine y_lstn (L1 := [(2, 2000015), (1, 0), (9, 0), (9, 0)]) (Nat.le_of_ble_eq_true rfl) rfl ?_
  refine wp_iconst ⟨by decide, by decide⟩ ?_
  refine y_stn (L1 := [(2, 2000015), (1, 0), (9, 0), (0, 0)]) (Nat.le_of_ble_eq_true rfl) rfl ?_
  refine y_blk (t := 4) rfl (show fnd bk_X9_numberOf 4 = some _ from rfl) aB_X9_numberOf ?_
  refine wp_iload_n (v := 0) rfl ?_
  refine wp_aload_n (v := 2000015) rfl (by decide) ?_
  refine y_slen ⟨by decide, Nat.le_of_ble_eq_true rfl, rfl, by decide, by decide⟩ ?_
  refine y_top (v := 5) (by decide) ?_
  refine wp_icmp_ge (fun c => absurd c (by decide)) (fun _ => ?_)
  refine wp_lload_n (v := 0) rfl ?_
  refine y_ldc2 (v := 32) (by decide) rfl ?_
  refine wp_lmul ⟨by decide, by decide⟩ ?_
  refine y_top (v := 0) (by decide) ?_
  refine wp_aload_n (v := 2000015) rfl (by decide) ?_
  refine wp_iload_n (v := 0) rfl ?_
  refine y_schar ⟨by decide, Nat.le_of_ble_eq_true rfl, rfl, by decide, by decide, by decide, by decide⟩ ?_
  refine y_top (v := 118) (by decide) ?_
  refine wp_bipush (by decide) ?_
  refine wp_isub ⟨by decide, by decide⟩ ?_
  refine y_top (v := 21) (by decide) ?_
  refine wp_iconst ⟨by decide, by decide⟩ ?_
  refine wp_iadd ⟨by decide, by decide⟩ ?_
  refine y_top (v := 22) (by decide) ?_
  refine wp_i2l ?_
  refine wp_ladd ⟨by decide, by decide⟩ ?_
  refine y_top (v := 22) (by decide) ?_
  refine y_lstn (L1 := [(2, 2000015), (1, 22), (9, 0), (0, 0)]) (Nat.le_of_ble_eq_true rfl) rfl ?_
  refine y_iinc (L1 := [(2, 2000015), (1, 22), (9, 0), (0, 1)]) rfl (Nat.le_of_ble_eq_true rfl) ⟨by decide, by decide⟩ ⟨by decide, by decide⟩ rfl ?_
  refine wp_goto ?_
  refine y_blk (t := 4) rfl (show fnd bk_X9_numberOf 4 = some _ from rfl) aB_X9_numberOf ?_
  refine wp_iload_n (v := 1) rfl ?_
  refine wp_aload_n (v := 2000015) rfl (by decide) ?_
  refine y_slen ⟨by decide, Nat.le_of_ble_eq_true rfl, rfl, by decide, by decide⟩ ?_
  refine y_top (v := 5) (by decide) ?_
  refine wp_icmp_ge (fun c => absurd c (by decide)) (fun _ => ?_)
  refine wp_lload_n (v := 22) rfl ?_
  refine y_ldc2 (v := 32) (by decide) rfl ?_
  refine wp_lmul ⟨by decide, by decide⟩ ?_
  refine y_top (v := 704) (by decide) ?_
  refine wp_aload_n (v := 2000015) rfl (by decide) ?_
  refine wp_iload_n (v := 1) rfl ?_
  refine y_schar ⟨by decide, Nat.le_of_ble_eq_true rfl, rfl, by decide, by decide, by decide, by decide⟩ ?_
  refine y_top (v := 111) (by decide) ?_
  refine wp_bipush (by decide) ?_
  refine wp_isub ⟨by decide, by decide⟩ ?_
  refine y_top (v := 14) (by decide) ?_
  refine wp_iconst ⟨by decide, by decide⟩ ?_
  refine wp_iadd ⟨by decide, by decide⟩ ?_
  refine y_top (v := 15) (by decide) ?_
  refine wp_i2l ?_
  refine wp_ladd ⟨by decide, by decide⟩ ?_
  refine y_top (v := 719) (by decide) ?_
  refine y_lstn (L1 := [(2, 2000015), (1, 719), (9, 0), (0, 1)]) (Nat.le_of_ble_eq_true rfl) rfl ?_
  refine y_iinc (L1 := [(2, 2000015), (1, 719), (9, 0), (0, 2)]) rfl (Nat.le_of_ble_eq_true rfl) ⟨by decide, by decide⟩ ⟨by decide, by decide⟩ rfl ?_
  refine wp_goto ?_
  refine y_blk (t := 4) rfl (show fnd bk_X9_numberOf 4 = some _ from rfl) aB_X9_numberOf ?_
  refine wp_iload_n (v := 2) rfl ?_
  refine wp_aload_n (v := 2000015) rfl (by decide) ?_
  refine y_slen ⟨by decide, Nat.le_of_ble_eq_true rfl, rfl, by decide, by decide⟩ ?_
  refine y_top (v := 5) (by decide) ?_
  refine wp_icmp_ge (fun c => absurd c (by decide)) (fun _ => ?_)
  refine wp_lload_n (v := 719) rfl ?_
  refine y_ldc2 (v := 32) (by decide) rfl ?_
  refine wp_lmul ⟨by decide, by decide⟩ ?_
  refine y_top (v := 23008) (by decide) ?_
  refine wp_aload_n (v := 2000015) rfl (by decide) ?_
  refine wp_iload_n (v := 2) rfl ?_
  refine y_schar ⟨by decide, Nat.le_of_ble_eq_true rfl, rfl, by decide, by decide, by decide, by decide⟩ ?_
  refine y_top (v := 105) (by decide) ?_
  refine wp_bipush (by decide) ?_
  refine wp_isub ⟨by decide, by decide⟩ ?_
  refine y_top (v := 8) (by decide) ?_
  refine wp_iconst ⟨by decide, by decide⟩ ?_
  refine wp_iadd ⟨by decide, by decide⟩ ?_
  refine y_top (v := 9) (by decide) ?_
  refine wp_i2l ?_
  refine wp_ladd ⟨by decide, by decide⟩ ?_
  refine y_top (v := 23017) (by decide) ?_
  refine y_lstn (L1 := [(2, 2000015), (1, 23017), (9, 0), (0, 2)]) (Nat.le_of_ble_eq_true rfl) rfl ?_
  refine y_iinc (L1 := [(2, 2000015), (1, 23017), (9, 0), (0, 3)]) rfl (Nat.le_of_ble_eq_true rfl) ⟨by decide, by decide⟩ ⟨by decide, by decide⟩ rfl ?_
  refine wp_goto ?_
  refine y_blk (t := 4) rfl (show fnd bk_X9_numberOf 4 = some _ from rfl) aB_X9_numberOf ?_
  refine wp_iload_n (v := 3) rfl ?_
  refine wp_aload_n (v := 2000015) rfl (by decide) ?_
  refine y_slen ⟨by decide, Nat.le_of_ble_eq_true rfl, rfl, by decide, by decide⟩ ?_
  refine y_top (v := 5) (by decide) ?_
  refine wp_icmp_ge (fun c => absurd c (by decide)) (fun _ => ?_)
  refine wp_lload_n (v := 23017) rfl ?_
  refine y_ldc2 (v := 32) (by decide) rfl ?_
  refine wp_lmul ⟨by decide, by decide⟩ ?_
  refine y_top (v := 736544) (by decide) ?_
  refine wp_aload_n (v := 2000015) rfl (by decide) ?_
  refine wp_iload_n (v := 3) rfl ?_
  refine y_schar ⟨by decide, Nat.le_of_ble_eq_true rfl, rfl, by decide, by decide, by decide, by decide⟩ ?_
  refine y_top (v := 99) (by decide) ?_
  refine wp_bipush (by decide) ?_
  refine wp_isub ⟨by decide, by decide⟩ ?_
  refine y_top (v := 2) (by decide) ?_
  refine wp_iconst ⟨by decide, by decide⟩ ?_
  refine wp_iadd ⟨by decide, by decide⟩ ?_
  refine y_top (v := 3) (by decide) ?_
  refine wp_i2l ?_
  refine wp_ladd ⟨by decide, by decide⟩ ?_
  refine y_top (v := 736547) (by decide) ?_
  refine y_lstn (L1 := [(2, 2000015), (1, 736547), (9, 0), (0, 3)]) (Nat.le_of_ble_eq_true rfl) rfl ?_
  refine y_iinc (L1 := [(2, 2000015), (1, 736547), (9, 0), (0, 4)]) rfl (Nat.le_of_ble_eq_true rfl) ⟨by decide, by decide⟩ ⟨by decide, by decide⟩ rfl ?_
  refine wp_goto ?_
  refine y_blk (t := 4) rfl (show fnd bk_X9_numberOf 4 = some _ from rfl) aB_X9_numberOf ?_
  refine wp_iload_n (v := 4) rfl ?_
  refine wp_aload_n (v := 2000015) rfl (by decide) ?_
  refine y_slen ⟨by decide, Nat.le_of_ble_eq_true rfl, rfl, by decide, by decide⟩ ?_
  refine y_top (v := 5) (by decide) ?_
  refine wp_icmp_ge (fun c => absurd c (by decide)) (fun _ => ?_)
  refine wp_lload_n (v := 736547) rfl ?_
  refine y_ldc2 (v := 32) (by decide) rfl ?_
  refine wp_lmul ⟨by decide, by decide⟩ ?_
  refine y_top (v := 23569504) (by decide) ?_
  refine wp_aload_n (v := 2000015) rfl (by decide) ?_
  refine wp_iload_n (v := 4) rfl ?_
  refine y_schar ⟨by decide, Nat.le_of_ble_eq_true rfl, rfl, by decide, by decide, by decide, by decide⟩ ?_
  refine y_top (v := 101) (by decide) ?_
  refine wp_bipush (by decide) ?_
  refine wp_isub ⟨by decide, by decide⟩ ?_
  refine y_top (v := 4) (by decide) ?_
  refine wp_iconst ⟨by decide, by decide⟩ ?_
  refine wp_iadd ⟨by decide, by decide⟩ ?_
  refine y_top (v := 5) (by decide) ?_
  refine wp_i2l ?_
  refine wp_ladd ⟨by decide, by decide⟩ ?_
  refine y_top (v := 23569509) (by decide) ?_
  refine y_lstn (L1 := [(2, 2000015), (1, 23569509), (9, 0), (0, 4)]) (Nat.le_of_ble_eq_true rfl) rfl ?_
  refine y_iinc (L1 := [(2, 2000015), (1, 23569509), (9, 0), (0, 5)]) rfl (Nat.le_of_ble_eq_true rfl) ⟨by decide, by decide⟩ ⟨by decide, by decide⟩ rfl ?_
  refine wp_goto ?_
  refine y_blk (t := 4) rfl (show fnd bk_X9_numberOf 4 = some _ from rfl) aB_X9_numberOf ?_
  refine wp_iload_n (v := 5) rfl ?_
  refine wp_aload_n (v := 2000015) rfl (by decide) ?_
  refine y_slen ⟨by decide, Nat.le_of_ble_eq_true rfl, rfl, by decide, by decide⟩ ?_
  refine y_top (v := 5) (by decide) ?_
  refine wp_icmp_ge (fun _ => ?_) (fun c => absurd (by decide) c)
  refine y_blk (t := 36) rfl (show fnd bk_X9_numberOf 36 = some _ from rfl) aB_X9_numberOf ?_
  refine wp_lload_n (v := 23569509) rfl ?_
  exact wp_lreturn ⟨rfl, rfl⟩
theorem zi_12 (B : aM) : Ms 14 81 [(0, 4)] (rn zl77 B, (35, 35, 1303)) (some (2, 2000016)) (rn zl77 B, (35, 35, 1303)) := by
  refine Ms.of ?_
  show Wp 14 81 0 [] [(0, 4)] [] (rn zl77 B, (35, 35, 1303)) _
  refine y_blk (t := 0) rfl (show fnd bk_X7_lineWord 0 = some _ from rfl) aB_X7_lineWord ?_
  refine wp_iload_n (v := 4) rfl ?_
  refine y_ts (off := 55) (t := 56) ⟨by decide, by decide⟩ rfl rfl ?_
  refine y_blk (t := 56) rfl (show fnd bk_X7_lineWord 56 = some _ from rfl) aB_X7_lineWord ?_
  refine y_ldcS (v := 2000016) rfl ?_
  exact wp_areturn (by decide) ⟨rfl, rfl⟩
theorem zi_13 (B : aM) : Ms 14 101 [(2, 2000016)] (rn zl77 B, (35, 35, 1303)) (some (1, 212363)) (rn zl77 B, (35, 35, 1303)) := by
  refine Ms.of ?_
  show Wp 14 101 0 [] [(2, 2000016), (9, 0), (9, 0), (9, 0)] [] (rn zl77 B, (35, 35, 1303)) _
  refine y_blk (t := 0) rfl (show fnd bk_X9_numberOf 0 = some _ from rfl) aB_X9_numberOf ?_
  refine y_lconst (v := 0) rfl ?_
  refine y_lstn (L1 := [(2, 2000016), (1, 0), (9, 0), (9, 0)]) (Nat.le_of_ble_eq_true rfl) rfl ?_
  refine wp_iconst ⟨by decide, by decide⟩ ?_
  refine y_stn (L1 := [(2, 2000016), (1, 0), (9, 0), (0, 0)]) (Nat.le_of_ble_eq_true rfl) rfl ?_
  refine y_blk (t := 4) rfl (show fnd bk_X9_numberOf 4 = some _ from rfl) aB_X9_numberOf ?_
  refine wp_iload_n (v := 0) rfl ?_
  refine wp_aload_n (v := 2000016) rfl (by decide) ?_
  refine y_slen ⟨by decide, Nat.le_of_ble_eq_true rfl, rfl, by decide, by decide⟩ ?_
  refine y_top (v := 4) (by decide) ?_
  refine wp_icmp_ge (fun c => absurd c (by decide)) (fun _ => ?_)
  refine wp_lload_n (v := 0) rfl ?_
  refine y_ldc2 (v := 32) (by decide) rfl ?_
  refine wp_lmul ⟨by decide, by decide⟩ ?_
  refine y_top (v := 0) (by decide) ?_
  refine wp_aload_n (v := 2000016) rfl (by decide) ?_
  refine wp_iload_n (v := 0) rfl ?_
  refine y_schar ⟨by decide, Nat.le_of_ble_eq_true rfl, rfl, by decide, by decide, by decide, by decide⟩ ?_
  refine y_top (v := 102) (by decide) ?_
  refine wp_bipush (by decide) ?_
  refine wp_isub ⟨by decide, by decide⟩ ?_
  refine y_top (v := 5) (by decide) ?_
  refine wp_iconst ⟨by decide, by decide⟩ ?_
  refine wp_iadd ⟨by decide, by decide⟩ ?_
  refine y_top (v := 6) (by decide) ?_
  refine wp_i2l ?_
  refine wp_ladd ⟨by decide, by decide⟩ ?_
  refine y_top (v := 6) (by decide) ?_
  refine y_lstn (L1 := [(2, 2000016), (1, 6), (9, 0), (0, 0)]) (Nat.le_of_ble_eq_true rfl) rfl ?_
  refine y_iinc (L1 := [(2, 2000016), (1, 6), (9, 0), (0, 1)]) rfl (Nat.le_of_ble_eq_true rfl) ⟨by decide, by decide⟩ ⟨by decide, by decide⟩ rfl ?_
  refine wp_goto ?_
  refine y_blk (t := 4) rfl (show fnd bk_X9_numberOf 4 = some _ from rfl) aB_X9_numberOf ?_
  refine wp_iload_n (v := 1) rfl ?_
  refine wp_aload_n (v := 2000016) rfl (by decide) ?_
  refine y_slen ⟨by decide, Nat.le_of_ble_eq_true rfl, rfl, by decide, by decide⟩ ?_
  refine y_top (v := 4) (by decide) ?_
  refine wp_icmp_ge (fun c => absurd c (by decide)) (fun _ => ?_)
  refine wp_lload_n (v := 6) rfl ?_
  refine y_ldc2 (v := 32) (by decide) rfl ?_
  refine wp_lmul ⟨by decide, by decide⟩ ?_
  refine y_top (v := 192) (by decide) ?_
  refine wp_aload_n (v := 2000016) rfl (by decide) ?_
  refine wp_iload_n (v := 1) rfl ?_
  refine y_schar ⟨by decide, Nat.le_of_ble_eq_true rfl, rfl, by decide, by decide, by decide, by decide⟩ ?_
  refine y_top (v := 111) (by decide) ?_
  refine wp_bipush (by decide) ?_
  refine wp_isub ⟨by decide, by decide⟩ ?_
  refine y_top (v := 14) (by decide) ?_
  refine wp_iconst ⟨by decide, by decide⟩ ?_
  refine wp_iadd ⟨by decide, by decide⟩ ?_
  refine y_top (v := 15) (by decide) ?_
  refine wp_i2l ?_
  refine wp_ladd ⟨by decide, by decide⟩ ?_
  refine y_top (v := 207) (by decide) ?_
  refine y_lstn (L1 := [(2, 2000016), (1, 207), (9, 0), (0, 1)]) (Nat.le_of_ble_eq_true rfl) rfl ?_
  refine y_iinc (L1 := [(2, 2000016), (1, 207), (9, 0), (0, 2)]) rfl (Nat.le_of_ble_eq_true rfl) ⟨by decide, by decide⟩ ⟨by decide, by decide⟩ rfl ?_
  refine wp_goto ?_
  refine y_blk (t := 4) rfl (show fnd bk_X9_numberOf 4 = some _ from rfl) aB_X9_numberOf ?_
  refine wp_iload_n (v := 2) rfl ?_
  refine wp_aload_n (v := 2000016) rfl (by decide) ?_
  refine y_slen ⟨by decide, Nat.le_of_ble_eq_true rfl, rfl, by decide, by decide⟩ ?_
  refine y_top (v := 4) (by decide) ?_
  refine wp_icmp_ge (fun c => absurd c (by decide)) (fun _ => ?_)
  refine wp_lload_n (v := 207) rfl ?_
  refine y_ldc2 (v := 32) (by decide) rfl ?_
  refine wp_lmul ⟨by decide, by decide⟩ ?_
  refine y_top (v := 6624) (by decide) ?_
  refine wp_aload_n (v := 2000016) rfl (by decide) ?_
  refine wp_iload_n (v := 2) rfl ?_
  refine y_schar ⟨by decide, Nat.le_of_ble_eq_true rfl, rfl, by decide, by decide, by decide, by decide⟩ ?_
  refine y_top (v := 108) (by decide) ?_
  refine wp_bipush (by decide) ?_
  refine wp_isub ⟨by decide, by decide⟩ ?_
  refine y_top (v := 11) (by decide) ?_
  refine wp_iconst ⟨by decide, by decide⟩ ?_
  refine wp_iadd ⟨by decide, by decide⟩ ?_
  refine y_top (v := 12) (by decide) ?_
  refine wp_i2l ?_
  refine wp_ladd ⟨by decide, by decide⟩ ?_
  refine y_top (v := 6636) (by decide) ?_
  refine y_lstn (L1 := [(2, 2000016), (1, 6636), (9, 0), (0, 2)]) (Nat.le_of_ble_eq_true rfl) rfl ?_
  refine y_iinc (L1 := [(2, 2000016), (1, 6636), (9, 0), (0, 3)]) rfl (Nat.le_of_ble_eq_true rfl) ⟨by decide, by decide⟩ ⟨by decide, by decide⟩ rfl ?_
  refine wp_goto ?_
  refine y_blk (t := 4) rfl (show fnd bk_X9_numberOf 4 = some _ from rfl) aB_X9_numberOf ?_
  refine wp_iload_n (v := 3) rfl ?_
  refine wp_aload_n (v := 2000016) rfl (by decide) ?_
  refine y_slen ⟨by decide, Nat.le_of_ble_eq_true rfl, rfl, by decide, by decide⟩ ?_
  refine y_top (v := 4) (by decide) ?_
  refine wp_icmp_ge (fun c => absurd c (by decide)) (fun _ => ?_)
  refine wp_lload_n (v := 6636) rfl ?_
  refine y_ldc2 (v := 32) (by decide) rfl ?_
  refine wp_lmul ⟨by decide, by decide⟩ ?_
  refine y_top (v := 212352) (by decide) ?_
  refine wp_aload_n (v := 2000016) rfl (by decide) ?_
  refine wp_iload_n (v := 3) rfl ?_
  refine y_schar ⟨by decide, Nat.le_of_ble_eq_true rfl, rfl, by decide, by decide, by decide, by decide⟩ ?_
  refine y_top (v := 107) (by decide) ?_
  refine wp_bipush (by decide) ?_
  refine wp_isub ⟨by decide, by decide⟩ ?_
  refine y_top (v := 10) (by decide) ?_
  refine wp_iconst ⟨by decide, by decide⟩ ?_
  refine wp_iadd ⟨by decide, by decide⟩ ?_
  refine y_top (v := 11) (by decide) ?_
  refine wp_i2l ?_
  refine wp_ladd ⟨by decide, by decide⟩ ?_
  refine y_top (v := 212363) (by decide) ?_
  refine y_lstn (L1 := [(2, 2000016), (1, 212363), (9, 0), (0, 3)]) (Nat.le_of_ble_eq_true rfl) rfl ?_
  refine y_iinc (L1 := [(2, 2000016), (1, 212363), (9, 0), (0, 4)]) rfl (Nat.le_of_ble_eq_true rfl) ⟨by decide, by decide⟩ ⟨by decide, by decide⟩ rfl ?_
  refine wp_goto ?_
  refine y_blk (t := 4) rfl (show fnd bk_X9_numberOf 4 = some _ from rfl) aB_X9_numberOf ?_
  refine wp_iload_n (v := 4) rfl ?_
  refine wp_aload_n (v := 2000016) rfl (by decide) ?_
  refine y_slen ⟨by decide, Nat.le_of_ble_eq_true rfl, rfl, by decide, by decide⟩ ?_
  refine y_top (v := 4) (by decide) ?_
  refine wp_icmp_ge (fun _ => ?_) (fun c => absurd (by decide) c)
  refine y_blk (t := 36) rfl (show fnd bk_X9_numberOf 36 = some _ from rfl) aB_X9_numberOf ?_
  refine wp_lload_n (v := 212363) rfl ?_
  exact wp_lreturn ⟨rfl, rfl⟩
theorem zi_14 (B : aM) : Ms 14 81 [(0, 5)] (rn zl79 B, (35, 35, 1303)) (some (2, 2000017)) (rn zl79 B, (35, 35, 1303)) := by
  refine Ms.of ?_
  show Wp 14 81 0 [] [(0, 5)] [] (rn zl79 B, (35, 35, 1303)) _
  refine y_blk (t := 0) rfl (show fnd bk_X7_lineWord 0 = some _ from rfl) aB_X7_lineWord ?_
  refine wp_iload_n (v := 5) rfl ?_
  refine y_ts (off := 58) (t := 59) ⟨by decide, by decide⟩ rfl rfl ?_
  refine y_blk (t := 59) rfl (show fnd bk_X7_lineWord 59 = some _ from rfl) aB_X7_lineWord ?_
  refine y_ldcS (v := 2000017) rfl ?_
  exact wp_areturn (by decide) ⟨rfl, rfl⟩
theorem zi_15 (B : aM) : Ms 14 101 [(2, 2000017)] (rn zl79 B, (35, 35, 1303)) (some (1, 167183)) (rn zl79 B, (35, 35, 1303)) := by
  refine Ms.of ?_
  show Wp 14 101 0 [] [(2, 2000017), (9, 0), (9, 0), (9, 0)] [] (rn zl79 B, (35, 35, 1303)) _
  refine y_blk (t := 0) rfl (show fnd bk_X9_numberOf 0 = some _ from rfl) aB_X9_numberOf ?_
  refine y_lconst (v := 0) rfl ?_
  refine y_lstn (L1 := [(2, 2000017), (1, 0), (9, 0), (9, 0)]) (Nat.le_of_ble_eq_true rfl) rfl ?_
  refine wp_iconst ⟨by decide, by decide⟩ ?_
  refine y_stn (L1 := [(2, 2000017), (1, 0), (9, 0), (0, 0)]) (Nat.le_of_ble_eq_true rfl) rfl ?_
  refine y_blk (t := 4) rfl (show fnd bk_X9_numberOf 4 = some _ from rfl) aB_X9_numberOf ?_
  refine wp_iload_n (v := 0) rfl ?_
  refine wp_aload_n (v := 2000017) rfl (by decide) ?_
  refine y_slen ⟨by decide, Nat.le_of_ble_eq_true rfl, rfl, by decide, by decide⟩ ?_
  refine y_top (v := 4) (by decide) ?_
  refine wp_icmp_ge (fun c => absurd c (by decide)) (fun _ => ?_)
  refine wp_lload_n (v := 0) rfl ?_
  refine y_ldc2 (v := 32) (by decide) rfl ?_
  refine wp_lmul ⟨by decide, by decide⟩ ?_
  refine y_top (v := 0) (by decide) ?_
  refine wp_aload_n (v := 2000017) rfl (by decide) ?_
  refine wp_iload_n (v := 0) rfl ?_
  refine y_schar ⟨by decide, Nat.le_of_ble_eq_true rfl, rfl, by decide, by decide, by decide, by decide⟩ ?_
  refine y_top (v := 101) (by decide) ?_
  refine wp_bipush (by decide) ?_
  refine wp_isub ⟨by decide, by decide⟩ ?_
  refine y_top (v := 4) (by decide) ?_
  refine wp_iconst ⟨by decide, by decide⟩ ?_
  refine wp_iadd ⟨by decide, by decide⟩ ?_
  refine y_top (v := 5) (by decide) ?_
  refine wp_i2l ?_
  refine wp_ladd ⟨by decide, by decide⟩ ?_
  refine y_top (v := 5) (by decide) ?_
  refine y_lstn (L1 := [(2, 2000017), (1, 5), (9, 0), (0, 0)]) (Nat.le_of_ble_eq_true rfl) rfl ?_
  refine y_iinc (L1 := [(2, 2000017), (1, 5), (9, 0), (0, 1)]) rfl (Nat.le_of_ble_eq_true rfl) ⟨by decide, by decide⟩ ⟨by decide, by decide⟩ rfl ?_
  refine wp_goto ?_
  refine y_blk (t := 4) rfl (show fnd bk_X9_numberOf 4 = some _ from rfl) aB_X9_numberOf ?_
  refine wp_iload_n (v := 1) rfl ?_
  refine wp_aload_n (v := 2000017) rfl (by decide) ?_
  refine y_slen ⟨by decide, Nat.le_of_ble_eq_true rfl, rfl, by decide, by decide⟩ ?_
  refine y_top (v := 4) (by decide) ?_
  refine wp_icmp_ge (fun c => absurd c (by decide)) (fun _ => ?_)
  refine wp_lload_n (v := 5) rfl ?_
  refine y_ldc2 (v := 32) (by decide) rfl ?_
  refine wp_lmul ⟨by decide, by decide⟩ ?_
  refine y_top (v := 160) (by decide) ?_
  refine wp_aload_n (v := 2000017) rfl (by decide) ?_
  refine wp_iload_n (v := 1) rfl ?_
  refine y_schar ⟨by decide, Nat.le_of_ble_eq_true rfl, rfl, by decide, by decide, by decide, by decide⟩ ?_
  refine y_top (v := 99) (by decide) ?_
  refine wp_bipush (by decide) ?_
  refine wp_isub ⟨by decide, by decide⟩ ?_
  refine y_top (v := 2) (by decide) ?_
  refine wp_iconst ⟨by decide, by decide⟩ ?_
  refine wp_iadd ⟨by decide, by decide⟩ ?_
  refine y_top (v := 3) (by decide) ?_
  refine wp_i2l ?_
  refine wp_ladd ⟨by decide, by decide⟩ ?_
  refine y_top (v := 163) (by decide) ?_
  refine y_lstn (L1 := [(2, 2000017), (1, 163), (9, 0), (0, 1)]) (Nat.le_of_ble_eq_true rfl) rfl ?_
  refine y_iinc (L1 := [(2, 2000017), (1, 163), (9, 0), (0, 2)]) rfl (Nat.le_of_ble_eq_true rfl) ⟨by decide, by decide⟩ ⟨by decide, by decide⟩ rfl ?_
  refine wp_goto ?_
  refine y_blk (t := 4) rfl (show fnd bk_X9_numberOf 4 = some _ from rfl) aB_X9_numberOf ?_
  refine wp_iload_n (v := 2) rfl ?_
  refine wp_aload_n (v := 2000017) rfl (by decide) ?_
  refine y_slen ⟨by decide, Nat.le_of_ble_eq_true rfl, rfl, by decide, by decide⟩ ?_
  refine y_top (v := 4) (by decide) ?_
  refine wp_icmp_ge (fun c => absurd c (by decide)) (fun _ => ?_)
  refine wp_lload_n (v := 163) rfl ?_
  refine y_ldc2 (v := 32) (by decide) rfl ?_
  refine wp_lmul ⟨by decide, by decide⟩ ?_
  refine y_top (v := 5216) (by decide) ?_
  refine wp_aload_n (v := 2000017) rfl (by decide) ?_
  refine wp_iload_n (v := 2) rfl ?_
  refine y_schar ⟨by decide, Nat.le_of_ble_eq_true rfl, rfl, by decide, by decide, by decide, by decide⟩ ?_
  refine y_top (v := 104) (by decide) ?_
  refine wp_bipush (by decide) ?_
  refine wp_isub ⟨by decide, by decide⟩ ?_
  refine y_top (v := 7) (by decide) ?_
  refine wp_iconst ⟨by decide, by decide⟩ ?_
  refine wp_iadd ⟨by decide, by decide⟩ ?_
  refine y_top (v := 8) (by decide) ?_
  refine wp_i2l ?_
  refine wp_ladd ⟨by decide, by decide⟩ ?_
  refine y_top (v := 5224) (by decide) ?_
  refine y_lstn (L1 := [(2, 2000017), (1, 5224), (9, 0), (0, 2)]) (Nat.le_of_ble_eq_true rfl) rfl ?_
  refine y_iinc (L1 := [(2, 2000017), (1, 5224), (9, 0), (0, 3)]) rfl (Nat.le_of_ble_eq_true rfl) ⟨by decide, by decide⟩ ⟨by decide, by decide⟩ rfl ?_
  refine wp_goto ?_
  refine y_blk (t := 4) rfl (show fnd bk_X9_numberOf 4 = some _ from rfl) aB_X9_numberOf ?_
  refine wp_iload_n (v := 3) rfl ?_
  refine wp_aload_n (v := 2000017) rfl (by decide) ?_
  refine y_slen ⟨by decide, Nat.le_of_ble_eq_true rfl, rfl, by decide, by decide⟩ ?_
  refine y_top (v := 4) (by decide) ?_
  refine wp_icmp_ge (fun c => absurd c (by decide)) (fun _ => ?_)
  refine wp_lload_n (v := 5224) rfl ?_
  refine y_ldc2 (v := 32) (by decide) rfl ?_
  refine wp_lmul ⟨by decide, by decide⟩ ?_
  refine y_top (v := 167168) (by decide) ?_
  refine wp_aload_n (v := 2000017) rfl (by decide) ?_
  refine wp_iload_n (v := 3) rfl ?_
  refine y_schar ⟨by decide, Nat.le_of_ble_eq_true rfl, rfl, by decide, by decide, by decide, by decide⟩ ?_
  refine y_top (v := 111) (by decide) ?_
  refine wp_bipush (by decide) ?_
  refine wp_isub ⟨by decide, by decide⟩ ?_
  refine y_top (v := 14) (by decide) ?_
  refine wp_iconst ⟨by decide, by decide⟩ ?_
  refine wp_iadd ⟨by decide, by decide⟩ ?_
  refine y_top (v := 15) (by decide) ?_
  refine wp_i2l ?_
  refine wp_ladd ⟨by decide, by decide⟩ ?_
  refine y_top (v := 167183) (by decide) ?_
  refine y_lstn (L1 := [(2, 2000017), (1, 167183), (9, 0), (0, 3)]) (Nat.le_of_ble_eq_true rfl) rfl ?_
  refine y_iinc (L1 := [(2, 2000017), (1, 167183), (9, 0), (0, 4)]) rfl (Nat.le_of_ble_eq_true rfl) ⟨by decide, by decide⟩ ⟨by decide, by decide⟩ rfl ?_
  refine wp_goto ?_
  refine y_blk (t := 4) rfl (show fnd bk_X9_numberOf 4 = some _ from rfl) aB_X9_numberOf ?_
  refine wp_iload_n (v := 4) rfl ?_
  refine wp_aload_n (v := 2000017) rfl (by decide) ?_
  refine y_slen ⟨by decide, Nat.le_of_ble_eq_true rfl, rfl, by decide, by decide⟩ ?_
  refine y_top (v := 4) (by decide) ?_
  refine wp_icmp_ge (fun _ => ?_) (fun c => absurd (by decide) c)
  refine y_blk (t := 36) rfl (show fnd bk_X9_numberOf 36 = some _ from rfl) aB_X9_numberOf ?_
  refine wp_lload_n (v := 167183) rfl ?_
  exact wp_lreturn ⟨rfl, rfl⟩
theorem zi_16 (B : aM) : Ms 14 81 [(0, 6)] (rn zl81 B, (35, 35, 1303)) (some (2, 2000018)) (rn zl81 B, (35, 35, 1303)) := by
  refine Ms.of ?_
  show Wp 14 81 0 [] [(0, 6)] [] (rn zl81 B, (35, 35, 1303)) _
  refine y_blk (t := 0) rfl (show fnd bk_X7_lineWord 0 = some _ from rfl) aB_X7_lineWord ?_
  refine wp_iload_n (v := 6) rfl ?_
  refine y_ts (off := 61) (t := 62) ⟨by decide, by decide⟩ rfl rfl ?_
  refine y_blk (t := 62) rfl (show fnd bk_X7_lineWord 62 = some _ from rfl) aB_X7_lineWord ?_
  refine y_ldcS (v := 2000018) rfl ?_
  exact wp_areturn (by decide) ⟨rfl, rfl⟩
theorem zi_17 (B : aM) : Ms 14 101 [(2, 2000018)] (rn zl81 B, (35, 35, 1303)) (some (1, 719967813)) (rn zl81 B, (35, 35, 1303)) := by
  refine Ms.of ?_
  show Wp 14 101 0 [] [(2, 2000018), (9, 0), (9, 0), (9, 0)] [] (rn zl81 B, (35, 35, 1303)) _
  refine y_blk (t := 0) rfl (show fnd bk_X9_numberOf 0 = some _ from rfl) aB_X9_numberOf ?_
  refine y_lconst (v := 0) rfl ?_
  refine y_lstn (L1 := [(2, 2000018), (1, 0), (9, 0), (9, 0)]) (Nat.le_of_ble_eq_true rfl) rfl ?_
  refine wp_iconst ⟨by decide, by decide⟩ ?_
  refine y_stn (L1 := [(2, 2000018), (1, 0), (9, 0), (0, 0)]) (Nat.le_of_ble_eq_true rfl) rfl ?_
  refine y_blk (t := 4) rfl (show fnd bk_X9_numberOf 4 = some _ from rfl) aB_X9_numberOf ?_
  refine wp_iload_n (v := 0) rfl ?_
  refine wp_aload_n (v := 2000018) rfl (by decide) ?_
  refine y_slen ⟨by decide, Nat.le_of_ble_eq_true rfl, rfl, by decide, by decide⟩ ?_
  refine y_top (v := 6) (by decide) ?_
  refine wp_icmp_ge (fun c => absurd c (by decide)) (fun _ => ?_)
  refine wp_lload_n (v := 0) rfl ?_
  refine y_ldc2 (v := 32) (by decide) rfl ?_
  refine wp_lmul ⟨by decide, by decide⟩ ?_
  refine y_top (v := 0) (by decide) ?_
  refine wp_aload_n (v := 2000018) rfl (by decide) ?_
  refine wp_iload_n (v := 0) rfl ?_
  refine y_schar ⟨by decide, Nat.le_of_ble_eq_true rfl, rfl, by decide, by decide, by decide, by decide⟩ ?_
  refine y_top (v := 117) (by decide) ?_
  refine wp_bipush (by decide) ?_
  refine wp_isub ⟨by decide, by decide⟩ ?_
  refine y_top (v := 20) (by decide) ?_
  refine wp_iconst ⟨by decide, by decide⟩ ?_
  refine wp_iadd ⟨by decide, by decide⟩ ?_
  refine y_top (v := 21) (by decide) ?_
  refine wp_i2l ?_
  refine wp_ladd ⟨by decide, by decide⟩ ?_
  refine y_top (v := 21) (by decide) ?_
  refine y_lstn (L1 := [(2, 2000018), (1, 21), (9, 0), (0, 0)]) (Nat.le_of_ble_eq_true rfl) rfl ?_
  refine y_iinc (L1 := [(2, 2000018), (1, 21), (9, 0), (0, 1)]) rfl (Nat.le_of_ble_eq_true rfl) ⟨by decide, by decide⟩ ⟨by decide, by decide⟩ rfl ?_
  refine wp_goto ?_
  refine y_blk (t := 4) rfl (show fnd bk_X9_numberOf 4 = some _ from rfl) aB_X9_numberOf ?_
  refine wp_iload_n (v := 1) rfl ?_
  refine wp_aload_n (v := 2000018) rfl (by decide) ?_
  refine y_slen ⟨by decide, Nat.le_of_ble_eq_true rfl, rfl, by decide, by decide⟩ ?_
  refine y_top (v := 6) (by decide) ?_
  refine wp_icmp_ge (fun c => absurd c (by decide)) (fun _ => ?_)
  refine wp_lload_n (v := 21) rfl ?_
  refine y_ldc2 (v := 32) (by decide) rfl ?_
  refine wp_lmul ⟨by decide, by decide⟩ ?_
  refine y_top (v := 672) (by decide) ?_
  refine wp_aload_n (v := 2000018) rfl (by decide) ?_
  refine wp_iload_n (v := 1) rfl ?_
  refine y_schar ⟨by decide, Nat.le_of_ble_eq_true rfl, rfl, by decide, by decide, by decide, by decide⟩ ?_
  refine y_top (v := 110) (by decide) ?_
  refine wp_bipush (by decide) ?_
  refine wp_isub ⟨by decide, by decide⟩ ?_
  refine y_top (v := 13) (by decide) ?_
  refine wp_iconst ⟨by decide, by decide⟩ ?_
  refine wp_iadd ⟨by decide, by decide⟩ ?_
  refine y_top (v := 14) (by decide) ?_
  refine wp_i2l ?_
  refine wp_ladd ⟨by decide, by decide⟩ ?_
  refine y_top (v := 686) (by decide) ?_
  refine y_lstn (L1 := [(2, 2000018), (1, 686), (9, 0), (0, 1)]) (Nat.le_of_ble_eq_true rfl) rfl ?_
  refine y_iinc (L1 := [(2, 2000018), (1, 686), (9, 0), (0, 2)]) rfl (Nat.le_of_ble_eq_true rfl) ⟨by decide, by decide⟩ ⟨by decide, by decide⟩ rfl ?_
  refine wp_goto ?_
  refine y_blk (t := 4) rfl (show fnd bk_X9_numberOf 4 = some _ from rfl) aB_X9_numberOf ?_
  refine wp_iload_n (v := 2) rfl ?_
  refine wp_aload_n (v := 2000018) rfl (by decide) ?_
  refine y_slen ⟨by decide, Nat.le_of_ble_eq_true rfl, rfl, by decide, by decide⟩ ?_
  refine y_top (v := 6) (by decide) ?_
  refine wp_icmp_ge (fun c => absurd c (by decide)) (fun _ => ?_)
  refine wp_lload_n (v := 686) rfl ?_
  refine y_ldc2 (v := 32) (by decide) rfl ?_
  refine wp_lmul ⟨by decide, by decide⟩ ?_
  refine y_top (v := 21952) (by decide) ?_
  refine wp_aload_n (v := 2000018) rfl (by decide) ?_
  refine wp_iload_n (v := 2) rfl ?_
  refine y_schar ⟨by decide, Nat.le_of_ble_eq_true rfl, rfl, by decide, by decide, by decide, by decide⟩ ?_
  refine y_top (v := 115) (by decide) ?_
  refine wp_bipush (by decide) ?_
  refine wp_isub ⟨by decide, by decide⟩ ?_
  refine y_top (v := 18) (by decide) ?_
  refine wp_iconst ⟨by decide, by decide⟩ ?_
  refine wp_iadd ⟨by decide, by decide⟩ ?_
  refine y_top (v := 19) (by decide) ?_
  refine wp_i2l ?_
  refine wp_ladd ⟨by decide, by decide⟩ ?_
  refine y_top (v := 21971) (by decide) ?_
  refine y_lstn (L1 := [(2, 2000018), (1, 21971), (9, 0), (0, 2)]) (Nat.le_of_ble_eq_true rfl) rfl ?_
  refine y_iinc (L1 := [(2, 2000018), (1, 21971), (9, 0), (0, 3)]) rfl (Nat.le_of_ble_eq_true rfl) ⟨by decide, by decide⟩ ⟨by decide, by decide⟩ rfl ?_
  refine wp_goto ?_
  refine y_blk (t := 4) rfl (show fnd bk_X9_numberOf 4 = some _ from rfl) aB_X9_numberOf ?_
  refine wp_iload_n (v := 3) rfl ?_
  refine wp_aload_n (v := 2000018) rfl (by decide) ?_
  refine y_slen ⟨by decide, Nat.le_of_ble_eq_true rfl, rfl, by decide, by decide⟩ ?_
  refine y_top (v := 6) (by decide) ?_
  refine wp_icmp_ge (fun c => absurd c (by decide)) (fun _ => ?_)
  refine wp_lload_n (v := 21971) rfl ?_
  refine y_ldc2 (v := 32) (by decide) rfl ?_
  refine wp_lmul ⟨by decide, by decide⟩ ?_
  refine y_top (v := 703072) (by decide) ?_
  refine wp_aload_n (v := 2000018) rfl (by decide) ?_
  refine wp_iload_n (v := 3) rfl ?_
  refine y_schar ⟨by decide, Nat.le_of_ble_eq_true rfl, rfl, by decide, by decide, by decide, by decide⟩ ?_
  refine y_top (v := 117) (by decide) ?_
  refine wp_bipush (by decide) ?_
  refine wp_isub ⟨by decide, by decide⟩ ?_
  refine y_top (v := 20) (by decide) ?_
  refine wp_iconst ⟨by decide, by decide⟩ ?_
  refine wp_iadd ⟨by decide, by decide⟩ ?_
  refine y_top (v := 21) (by decide) ?_
  refine wp_i2l ?_
  refine wp_ladd ⟨by decide, by decide⟩ ?_
  refine y_top (v := 703093) (by decide) ?_
  refine y_lstn (L1 := [(2, 2000018), (1, 703093), (9, 0), (0, 3)]) (Nat.le_of_ble_eq_true rfl) rfl ?_
  refine y_iinc (L1 := [(2, 2000018), (1, 703093), (9, 0), (0, 4)]) rfl (Nat.le_of_ble_eq_true rfl) ⟨by decide, by decide⟩ ⟨by decide, by decide⟩ rfl ?_
  refine wp_goto ?_
  refine y_blk (t := 4) rfl (show fnd bk_X9_numberOf 4 = some _ from rfl) aB_X9_numberOf ?_
  refine wp_iload_n (v := 4) rfl ?_
  refine wp_aload_n (v := 2000018) rfl (by decide) ?_
  refine y_slen ⟨by decide, Nat.le_of_ble_eq_true rfl, rfl, by decide, by decide⟩ ?_
  refine y_top (v := 6) (by decide) ?_
  refine wp_icmp_ge (fun c => absurd c (by decide)) (fun _ => ?_)
  refine wp_lload_n (v := 703093) rfl ?_
  refine y_ldc2 (v := 32) (by decide) rfl ?_
  refine wp_lmul ⟨by decide, by decide⟩ ?_
  refine y_top (v := 22498976) (by decide) ?_
  refine wp_aload_n (v := 2000018) rfl (by decide) ?_
  refine wp_iload_n (v := 4) rfl ?_
  refine y_schar ⟨by decide, Nat.le_of_ble_eq_true rfl, rfl, by decide, by decide, by decide, by decide⟩ ?_
  refine y_top (v := 114) (by decide) ?_
  refine wp_bipush (by decide) ?_
  refine wp_isub ⟨by decide, by decide⟩ ?_
  refine y_top (v := 17) (by decide) ?_
  refine wp_iconst ⟨by decide, by decide⟩ ?_
  refine wp_iadd ⟨by decide, by decide⟩ ?_
  refine y_top (v := 18) (by decide) ?_
  refine wp_i2l ?_
  refine wp_ladd ⟨by decide, by decide⟩ ?_
  refine y_top (v := 22498994) (by decide) ?_
  refine y_lstn (L1 := [(2, 2000018), (1, 22498994), (9, 0), (0, 4)]) (Nat.le_of_ble_eq_true rfl) rfl ?_
  refine y_iinc (L1 := [(2, 2000018), (1, 22498994), (9, 0), (0, 5)]) rfl (Nat.le_of_ble_eq_true rfl) ⟨by decide, by decide⟩ ⟨by decide, by decide⟩ rfl ?_
  refine wp_goto ?_
  refine y_blk (t := 4) rfl (show fnd bk_X9_numberOf 4 = some _ from rfl) aB_X9_numberOf ?_
  refine wp_iload_n (v := 5) rfl ?_
  refine wp_aload_n (v := 2000018) rfl (by decide) ?_
  refine y_slen ⟨by decide, Nat.le_of_ble_eq_true rfl, rfl, by decide, by decide⟩ ?_
  refine y_top (v := 6) (by decide) ?_
  refine wp_icmp_ge (fun c => absurd c (by decide)) (fun _ => ?_)
  refine wp_lload_n (v := 22498994) rfl ?_
  refine y_ldc2 (v := 32) (by decide) rfl ?_
  refine wp_lmul ⟨by decide, by decide⟩ ?_
  refine y_top (v := 719967808) (by decide) ?_
  refine wp_aload_n (v := 2000018) rfl (by decide) ?_
  refine wp_iload_n (v := 5) rfl ?_
  refine y_schar ⟨by decide, Nat.le_of_ble_eq_true rfl, rfl, by decide, by decide, by decide, by decide⟩ ?_
  refine y_top (v := 101) (by decide) ?_
  refine wp_bipush (by decide) ?_
  refine wp_isub ⟨by decide, by decide⟩ ?_
  refine y_top (v := 4) (by decide) ?_
  refine wp_iconst ⟨by decide, by decide⟩ ?_
  refine wp_iadd ⟨by decide, by decide⟩ ?_
  refine y_top (v := 5) (by decide) ?_
  refine wp_i2l ?_
  refine wp_ladd ⟨by decide, by decide⟩ ?_
  refine y_top (v := 719967813) (by decide) ?_
  refine y_lstn (L1 := [(2, 2000018), (1, 719967813), (9, 0), (0, 5)]) (Nat.le_of_ble_eq_true rfl) rfl ?_
  refine y_iinc (L1 := [(2, 2000018), (1, 719967813), (9, 0), (0, 6)]) rfl (Nat.le_of_ble_eq_true rfl) ⟨by decide, by decide⟩ ⟨by decide, by decide⟩ rfl ?_
  refine wp_goto ?_
  refine y_blk (t := 4) rfl (show fnd bk_X9_numberOf 4 = some _ from rfl) aB_X9_numberOf ?_
  refine wp_iload_n (v := 6) rfl ?_
  refine wp_aload_n (v := 2000018) rfl (by decide) ?_
  refine y_slen ⟨by decide, Nat.le_of_ble_eq_true rfl, rfl, by decide, by decide⟩ ?_
  refine y_top (v := 6) (by decide) ?_
  refine wp_icmp_ge (fun _ => ?_) (fun c => absurd (by decide) c)
  refine y_blk (t := 36) rfl (show fnd bk_X9_numberOf 36 = some _ from rfl) aB_X9_numberOf ?_
  refine wp_lload_n (v := 719967813) rfl ?_
  exact wp_lreturn ⟨rfl, rfl⟩
theorem zi_18 (B : aM) : Ms 14 81 [(0, 7)] (rn zl83 B, (35, 35, 1303)) (some (2, 2000019)) (rn zl83 B, (35, 35, 1303)) := by
  refine Ms.of ?_
  show Wp 14 81 0 [] [(0, 7)] [] (rn zl83 B, (35, 35, 1303)) _
  refine y_blk (t := 0) rfl (show fnd bk_X7_lineWord 0 = some _ from rfl) aB_X7_lineWord ?_
  refine wp_iload_n (v := 7) rfl ?_
  refine y_td (t := 65) (by decide) rfl ?_
  refine y_blk (t := 65) rfl (show fnd bk_X7_lineWord 65 = some _ from rfl) aB_X7_lineWord ?_
  refine y_ldcS (v := 2000019) rfl ?_
  exact wp_areturn (by decide) ⟨rfl, rfl⟩
theorem zi_19 (B : aM) : Ms 14 101 [(2, 2000019)] (rn zl83 B, (35, 35, 1303)) (some (1, 656779)) (rn zl83 B, (35, 35, 1303)) := by
  refine Ms.of ?_
  show Wp 14 101 0 [] [(2, 2000019), (9, 0), (9, 0), (9, 0)] [] (rn zl83 B, (35, 35, 1303)) _
  refine y_blk (t := 0) rfl (show fnd bk_X9_numberOf 0 = some _ from rfl) aB_X9_numberOf ?_
  refine y_lconst (v := 0) rfl ?_
  refine y_lstn (L1 := [(2, 2000019), (1, 0), (9, 0), (9, 0)]) (Nat.le_of_ble_eq_true rfl) rfl ?_
  refine wp_iconst ⟨by decide, by decide⟩ ?_
  refine y_stn (L1 := [(2, 2000019), (1, 0), (9, 0), (0, 0)]) (Nat.le_of_ble_eq_true rfl) rfl ?_
  refine y_blk (t := 4) rfl (show fnd bk_X9_numberOf 4 = some _ from rfl) aB_X9_numberOf ?_
  refine wp_iload_n (v := 0) rfl ?_
  refine wp_aload_n (v := 2000019) rfl (by decide) ?_
  refine y_slen ⟨by decide, Nat.le_of_ble_eq_true rfl, rfl, by decide, by decide⟩ ?_
  refine y_top (v := 4) (by decide) ?_
  refine wp_icmp_ge (fun c => absurd c (by decide)) (fun _ => ?_)
  refine wp_lload_n (v := 0) rfl ?_
  refine y_ldc2 (v := 32) (by decide) rfl ?_
  refine wp_lmul ⟨by decide, by decide⟩ ?_
  refine y_top (v := 0) (by decide) ?_
  refine wp_aload_n (v := 2000019) rfl (by decide) ?_
  refine wp_iload_n (v := 0) rfl ?_
  refine y_schar ⟨by decide, Nat.le_of_ble_eq_true rfl, rfl, by decide, by decide, by decide, by decide⟩ ?_
  refine y_top (v := 116) (by decide) ?_
  refine wp_bipush (by decide) ?_
  refine wp_isub ⟨by decide, by decide⟩ ?_
  refine y_top (v := 19) (by decide) ?_
  refine wp_iconst ⟨by decide, by decide⟩ ?_
  refine wp_iadd ⟨by decide, by decide⟩ ?_
  refine y_top (v := 20) (by decide) ?_
  refine wp_i2l ?_
  refine wp_ladd ⟨by decide, by decide⟩ ?_
  refine y_top (v := 20) (by decide) ?_
  refine y_lstn (L1 := [(2, 2000019), (1, 20), (9, 0), (0, 0)]) (Nat.le_of_ble_eq_true rfl) rfl ?_
  refine y_iinc (L1 := [(2, 2000019), (1, 20), (9, 0), (0, 1)]) rfl (Nat.le_of_ble_eq_true rfl) ⟨by decide, by decide⟩ ⟨by decide, by decide⟩ rfl ?_
  refine wp_goto ?_
  refine y_blk (t := 4) rfl (show fnd bk_X9_numberOf 4 = some _ from rfl) aB_X9_numberOf ?_
  refine wp_iload_n (v := 1) rfl ?_
  refine wp_aload_n (v := 2000019) rfl (by decide) ?_
  refine y_slen ⟨by decide, Nat.le_of_ble_eq_true rfl, rfl, by decide, by decide⟩ ?_
  refine y_top (v := 4) (by decide) ?_
  refine wp_icmp_ge (fun c => absurd c (by decide)) (fun _ => ?_)
  refine wp_lload_n (v := 20) rfl ?_
  refine y_ldc2 (v := 32) (by decide) rfl ?_
  refine wp_lmul ⟨by decide, by decide⟩ ?_
  refine y_top (v := 640) (by decide) ?_
  refine wp_aload_n (v := 2000019) rfl (by decide) ?_
  refine wp_iload_n (v := 1) rfl ?_
  refine y_schar ⟨by decide, Nat.le_of_ble_eq_true rfl, rfl, by decide, by decide, by decide, by decide⟩ ?_
  refine y_top (v := 97) (by decide) ?_
  refine wp_bipush (by decide) ?_
  refine wp_isub ⟨by decide, by decide⟩ ?_
  refine y_top (v := 0) (by decide) ?_
  refine wp_iconst ⟨by decide, by decide⟩ ?_
  refine wp_iadd ⟨by decide, by decide⟩ ?_
  refine y_top (v := 1) (by decide) ?_
  refine wp_i2l ?_
  refine wp_ladd ⟨by decide, by decide⟩ ?_
  refine y_top (v := 641) (by decide) ?_
  refine y_lstn (L1 := [(2, 2000019), (1, 641), (9, 0), (0, 1)]) (Nat.le_of_ble_eq_true rfl) rfl ?_
  refine y_iinc (L1 := [(2, 2000019), (1, 641), (9, 0), (0, 2)]) rfl (Nat.le_of_ble_eq_true rfl) ⟨by decide, by decide⟩ ⟨by decide, by decide⟩ rfl ?_
  refine wp_goto ?_
  refine y_blk (t := 4) rfl (show fnd bk_X9_numberOf 4 = some _ from rfl) aB_X9_numberOf ?_
  refine wp_iload_n (v := 2) rfl ?_
  refine wp_aload_n (v := 2000019) rfl (by decide) ?_
  refine y_slen ⟨by decide, Nat.le_of_ble_eq_true rfl, rfl, by decide, by decide⟩ ?_
  refine y_top (v := 4) (by decide) ?_
  refine wp_icmp_ge (fun c => absurd c (by decide)) (fun _ => ?_)
  refine wp_lload_n (v := 641) rfl ?_
  refine y_ldc2 (v := 32) (by decide) rfl ?_
  refine wp_lmul ⟨by decide, by decide⟩ ?_
  refine y_top (v := 20512) (by decide) ?_
  refine wp_aload_n (v := 2000019) rfl (by decide) ?_
  refine wp_iload_n (v := 2) rfl ?_
  refine y_schar ⟨by decide, Nat.le_of_ble_eq_true rfl, rfl, by decide, by decide, by decide, by decide⟩ ?_
  refine y_top (v := 108) (by decide) ?_
  refine wp_bipush (by decide) ?_
  refine wp_isub ⟨by decide, by decide⟩ ?_
  refine y_top (v := 11) (by decide) ?_
  refine wp_iconst ⟨by decide, by decide⟩ ?_
  refine wp_iadd ⟨by decide, by decide⟩ ?_
  refine y_top (v := 12) (by decide) ?_
  refine wp_i2l ?_
  refine wp_ladd ⟨by decide, by decide⟩ ?_
  refine y_top (v := 20524) (by decide) ?_
  refine y_lstn (L1 := [(2, 2000019), (1, 20524), (9, 0), (0, 2)]) (Nat.le_of_ble_eq_true rfl) rfl ?_
  refine y_iinc (L1 := [(2, 2000019), (1, 20524), (9, 0), (0, 3)]) rfl (Nat.le_of_ble_eq_true rfl) ⟨by decide, by decide⟩ ⟨by decide, by decide⟩ rfl ?_
  refine wp_goto ?_
  refine y_blk (t := 4) rfl (show fnd bk_X9_numberOf 4 = some _ from rfl) aB_X9_numberOf ?_
  refine wp_iload_n (v := 3) rfl ?_
  refine wp_aload_n (v := 2000019) rfl (by decide) ?_
  refine y_slen ⟨by decide, Nat.le_of_ble_eq_true rfl, rfl, by decide, by decide⟩ ?_
  refine y_top (v := 4) (by decide) ?_
  refine wp_icmp_ge (fun c => absurd c (by decide)) (fun _ => ?_)
  refine wp_lload_n (v := 20524) rfl ?_
  refine y_ldc2 (v := 32) (by decide) rfl ?_
  refine wp_lmul ⟨by decide, by decide⟩ ?_
  refine y_top (v := 656768) (by decide) ?_
  refine wp_aload_n (v := 2000019) rfl (by decide) ?_
  refine wp_iload_n (v := 3) rfl ?_
  refine y_schar ⟨by decide, Nat.le_of_ble_eq_true rfl, rfl, by decide, by decide, by decide, by decide⟩ ?_
  refine y_top (v := 107) (by decide) ?_
  refine wp_bipush (by decide) ?_
  refine wp_isub ⟨by decide, by decide⟩ ?_
  refine y_top (v := 10) (by decide) ?_
  refine wp_iconst ⟨by decide, by decide⟩ ?_
  refine wp_iadd ⟨by decide, by decide⟩ ?_
  refine y_top (v := 11) (by decide) ?_
  refine wp_i2l ?_
  refine wp_ladd ⟨by decide, by decide⟩ ?_
  refine y_top (v := 656779) (by decide) ?_
  refine y_lstn (L1 := [(2, 2000019), (1, 656779), (9, 0), (0, 3)]) (Nat.le_of_ble_eq_true rfl) rfl ?_
  refine y_iinc (L1 := [(2, 2000019), (1, 656779), (9, 0), (0, 4)]) rfl (Nat.le_of_ble_eq_true rfl) ⟨by decide, by decide⟩ ⟨by decide, by decide⟩ rfl ?_
  refine wp_goto ?_
  refine y_blk (t := 4) rfl (show fnd bk_X9_numberOf 4 = some _ from rfl) aB_X9_numberOf ?_
  refine wp_iload_n (v := 4) rfl ?_
  refine wp_aload_n (v := 2000019) rfl (by decide) ?_
  refine y_slen ⟨by decide, Nat.le_of_ble_eq_true rfl, rfl, by decide, by decide⟩ ?_
  refine y_top (v := 4) (by decide) ?_
  refine wp_icmp_ge (fun _ => ?_) (fun c => absurd (by decide) c)
  refine y_blk (t := 36) rfl (show fnd bk_X9_numberOf 36 = some _ from rfl) aB_X9_numberOf ?_
  refine wp_lload_n (v := 656779) rfl ?_
  exact wp_lreturn ⟨rfl, rfl⟩
theorem zi_20 (B : aM) : Ms 15 67 [(2, ((16 : Nat) : Int)), (2, ((1 : Nat) : Int))] (rn zl32 B, (17, 17, 1076)) (none) (rn zl85 B, (35, 35, 1303)) := by
  refine Ms.of ?_
  show Wp 15 67 0 [] [(2, ((16 : Nat) : Int)), (2, ((1 : Nat) : Int)), (9, 0)] [] (rn zl32 B, (17, 17, 1076)) _
  refine y_blk (t := 0) rfl (show fnd bk_X7_init 0 = some _ from rfl) aB_X7_init ?_
  refine wp_aload_n (v := ((16 : Nat) : Int)) rfl (Int.natCast_nonneg _) ?_
  refine wp_objInit ⟨by decide, Nat.le_of_ble_eq_true rfl, rfl, Int.natCast_nonneg _⟩ ?_
  refine wp_aload_n (v := ((16 : Nat) : Int)) rfl (Int.natCast_nonneg _) ?_
  refine y_new (M1 := rn zl33 B) (T1 := (18, 18, 1095)) (show ash 17 = (10, 19) from rfl) (by decide) (by decide) rfl rfl ?_
  refine wp_dup (Or.inr rfl) ?_
  refine y_callM (as := [(2, ((17 : Nat) : Int))]) (S1 := [(2, ((17 : Nat) : Int)), (2, ((16 : Nat) : Int))]) (d1 := 14) rfl (zi_2 B) (fun z hz => by cases hz) rfl (Nat.le_of_ble_eq_true rfl) rfl (Nat.le_of_ble_eq_true rfl) rfl ?_
  refine z_put (M1 := rn zl60 B) (show ash 16 = (7, 8) from rfl) (by decide) rfl rfl ?_
  refine wp_aload_n (v := ((16 : Nat) : Int)) rfl (Int.natCast_nonneg _) ?_
  refine wp_bipush (by decide) ?_
  refine z_newarray (n := 23) (M1 := rn zl61 B) (T1 := (32, 32, 1252)) (show ash 31 = (102, 23) from rfl) (by decide) (by decide) (by decide) rfl rfl rfl ?_
  refine z_put (M1 := rn zl62 B) (show ash 16 = (7, 8) from rfl) (by decide) rfl rfl ?_
  refine wp_aload_n (v := ((16 : Nat) : Int)) rfl (Int.natCast_nonneg _) ?_
  refine wp_bipush (by decide) ?_
  refine z_newarray (n := 23) (M1 := rn zl63 B) (T1 := (33, 33, 1275)) (show ash 32 = (100, 23) from rfl) (by decide) (by decide) (by decide) rfl rfl rfl ?_
  refine z_put (M1 := rn zl64 B) (show ash 16 = (7, 8) from rfl) (by decide) rfl rfl ?_
  refine wp_aload_n (v := ((16 : Nat) : Int)) rfl (Int.natCast_nonneg _) ?_
  refine wp_bipush (by decide) ?_
  refine z_newarray (n := 23) (M1 := rn zl65 B) (T1 := (34, 34, 1298)) (show ash 33 = (100, 23) from rfl) (by decide) (by decide) (by decide) rfl rfl rfl ?_
  refine z_put (M1 := rn zl66 B) (show ash 16 = (7, 8) from rfl) (by decide) rfl rfl ?_
  refine wp_aload_n (v := ((16 : Nat) : Int)) rfl (Int.natCast_nonneg _) ?_
  refine y_new (M1 := rn zl67 B) (T1 := (35, 35, 1303)) (show ash 34 = (9, 5) from rfl) (by decide) (by decide) rfl rfl ?_
  refine wp_dup (Or.inr rfl) ?_
  refine wp_aload_n (v := ((1 : Nat) : Int)) rfl (Int.natCast_nonneg _) ?_
  refine y_callM (as := [(2, ((34 : Nat) : Int)), (2, ((1 : Nat) : Int))]) (S1 := [(2, ((34 : Nat) : Int)), (2, ((16 : Nat) : Int))]) (d1 := 14) rfl (zi_3 B) (fun z hz => by cases hz) rfl (Nat.le_of_ble_eq_true rfl) rfl (Nat.le_of_ble_eq_true rfl) rfl ?_
  refine z_put (M1 := rn zl69 B) (show ash 16 = (7, 8) from rfl) (by decide) rfl rfl ?_
  refine wp_iconst ⟨by decide, by decide⟩ ?_
  refine y_stn (L1 := [(2, ((16 : Nat) : Int)), (2, ((1 : Nat) : Int)), (0, 0)]) (Nat.le_of_ble_eq_true rfl) rfl ?_
  refine y_blk (t := 53) rfl (show fnd bk_X7_init 53 = some _ from rfl) aB_X7_init ?_
  refine wp_iload_n (v := 0) rfl ?_
  refine wp_bipush (by decide) ?_
  refine wp_icmp_ge (fun c => absurd c (by decide)) (fun _ => ?_)
  refine wp_aload_n (v := ((16 : Nat) : Int)) rfl (Int.natCast_nonneg _) ?_
  refine y_get (show ash 16 = (7, 8) from rfl) (by decide) (v := ((31 : Nat) : Int)) (zlk_ok (by decide +kernel)) rfl ?_
  refine wp_iload_n (v := 0) rfl ?_
  refine wp_iload_n (v := 0) rfl ?_
  refine y_callM (as := [(0, 0)]) (S1 := [(0, 0), (2, ((31 : Nat) : Int))]) (d1 := 14) rfl (zi_4 B) (fun z hz => by cases hz) rfl (Nat.le_of_ble_eq_true rfl) rfl (Nat.le_of_ble_eq_true rfl) rfl ?_
  refine y_callM (as := [(2, 2000012)]) (S1 := [(0, 0), (2, ((31 : Nat) : Int))]) (d1 := 14) rfl (zi_5 B) (fun z hz => by cases hz) rfl (Nat.le_of_ble_eq_true rfl) rfl (Nat.le_of_ble_eq_true rfl) rfl ?_
  refine z_lastore (M1 := rn zl70 B) (show ash 31 = (102, 23) from rfl) (by decide) ⟨by decide, by decide⟩ rfl ?_
  refine wp_aload_n (v := ((16 : Nat) : Int)) rfl (Int.natCast_nonneg _) ?_
  refine y_get (show ash 16 = (7, 8) from rfl) (by decide) (v := ((32 : Nat) : Int)) (zlk_ok (by decide +kernel)) rfl ?_
  refine wp_iload_n (v := 0) rfl ?_
  refine wp_iconst ⟨by decide, by decide⟩ ?_
  refine z_iastore (M1 := rn zl71 B) (show ash 32 = (100, 23) from rfl) (by decide) ⟨by decide, by decide⟩ rfl ?_
  refine y_iinc (L1 := [(2, ((16 : Nat) : Int)), (2, ((1 : Nat) : Int)), (0, 1)]) rfl (Nat.le_of_ble_eq_true rfl) ⟨by decide, by decide⟩ ⟨by decide, by decide⟩ rfl ?_
  refine wp_goto ?_
  refine y_blk (t := 53) rfl (show fnd bk_X7_init 53 = some _ from rfl) aB_X7_init ?_
  refine wp_iload_n (v := 1) rfl ?_
  refine wp_bipush (by decide) ?_
  refine wp_icmp_ge (fun c => absurd c (by decide)) (fun _ => ?_)
  refine wp_aload_n (v := ((16 : Nat) : Int)) rfl (Int.natCast_nonneg _) ?_
  refine y_get (show ash 16 = (7, 8) from rfl) (by decide) (v := ((31 : Nat) : Int)) (zlk_ok (by decide +kernel)) rfl ?_
  refine wp_iload_n (v := 1) rfl ?_
  refine wp_iload_n (v := 1) rfl ?_
  refine y_callM (as := [(0, 1)]) (S1 := [(0, 1), (2, ((31 : Nat) : Int))]) (d1 := 14) rfl (zi_6 B) (fun z hz => by cases hz) rfl (Nat.le_of_ble_eq_true rfl) rfl (Nat.le_of_ble_eq_true rfl) rfl ?_
  refine y_callM (as := [(2, 2000013)]) (S1 := [(0, 1), (2, ((31 : Nat) : Int))]) (d1 := 14) rfl (zi_7 B) (fun z hz => by cases hz) rfl (Nat.le_of_ble_eq_true rfl) rfl (Nat.le_of_ble_eq_true rfl) rfl ?_
  refine z_lastore (M1 := rn zl72 B) (show ash 31 = (102, 23) from rfl) (by decide) ⟨by decide, by decide⟩ rfl ?_
  refine wp_aload_n (v := ((16 : Nat) : Int)) rfl (Int.natCast_nonneg _) ?_
  refine y_get (show ash 16 = (7, 8) from rfl) (by decide) (v := ((32 : Nat) : Int)) (zlk_ok (by decide +kernel)) rfl ?_
  refine wp_iload_n (v := 1) rfl ?_
  refine wp_iconst ⟨by decide, by decide⟩ ?_
  refine z_iastore (M1 := rn zl73 B) (show ash 32 = (100, 23) from rfl) (by decide) ⟨by decide, by decide⟩ rfl ?_
  refine y_iinc (L1 := [(2, ((16 : Nat) : Int)), (2, ((1 : Nat) : Int)), (0, 2)]) rfl (Nat.le_of_ble_eq_true rfl) ⟨by decide, by decide⟩ ⟨by decide, by decide⟩ rfl ?_
  refine wp_goto ?_
  refine y_blk (t := 53) rfl (show fnd bk_X7_init 53 = some _ from rfl) aB_X7_init ?_
  refine wp_iload_n (v := 2) rfl ?_
  refine wp_bipush (by decide) ?_
  refine wp_icmp_ge (fun c => absurd c (by decide)) (fun _ => ?_)
  refine wp_aload_n (v := ((16 : Nat) : Int)) rfl (Int.natCast_nonneg _) ?_
  refine y_get (show ash 16 = (7, 8) from rfl) (by decide) (v := ((31 : Nat) : Int)) (zlk_ok (by decide +kernel)) rfl ?_
  refine wp_iload_n (v := 2) rfl ?_
  refine wp_iload_n (v := 2) rfl ?_
  refine y_callM (as := [(0, 2)]) (S1 := [(0, 2), (2, ((31 : Nat) : Int))]) (d1 := 14) rfl (zi_8 B) (fun z hz => by cases hz) rfl (Nat.le_of_ble_eq_true rfl) rfl (Nat.le_of_ble_eq_true rfl) rfl ?_
  refine y_callM (as := [(2, 2000014)]) (S1 := [(0, 2), (2, ((31 : Nat) : Int))]) (d1 := 14) rfl (zi_9 B) (fun z hz => by cases hz) rfl (Nat.le_of_ble_eq_true rfl) rfl (Nat.le_of_ble_eq_true rfl) rfl ?_
  refine z_lastore (M1 := rn zl74 B) (show ash 31 = (102, 23) from rfl) (by decide) ⟨by decide, by decide⟩ rfl ?_
  refine wp_aload_n (v := ((16 : Nat) : Int)) rfl (Int.natCast_nonneg _) ?_
  refine y_get (show ash 16 = (7, 8) from rfl) (by decide) (v := ((32 : Nat) : Int)) (zlk_ok (by decide +kernel)) rfl ?_
  refine wp_iload_n (v := 2) rfl ?_
  refine wp_iconst ⟨by decide, by decide⟩ ?_
  refine z_iastore (M1 := rn zl75 B) (show ash 32 = (100, 23) from rfl) (by decide) ⟨by decide, by decide⟩ rfl ?_
  refine y_iinc (L1 := [(2, ((16 : Nat) : Int)), (2, ((1 : Nat) : Int)), (0, 3)]) rfl (Nat.le_of_ble_eq_true rfl) ⟨by decide, by decide⟩ ⟨by decide, by decide⟩ rfl ?_
  refine wp_goto ?_
  refine y_blk (t := 53) rfl (show fnd bk_X7_init 53 = some _ from rfl) aB_X7_init ?_
  refine wp_iload_n (v := 3) rfl ?_
  refine wp_bipush (by decide) ?_
  refine wp_icmp_ge (fun c => absurd c (by decide)) (fun _ => ?_)
  refine wp_aload_n (v := ((16 : Nat) : Int)) rfl (Int.natCast_nonneg _) ?_
  refine y_get (show ash 16 = (7, 8) from rfl) (by decide) (v := ((31 : Nat) : Int)) (zlk_ok (by decide +kernel)) rfl ?_
  refine wp_iload_n (v := 3) rfl ?_
  refine wp_iload_n (v := 3) rfl ?_
  refine y_callM (as := [(0, 3)]) (S1 := [(0, 3), (2, ((31 : Nat) : Int))]) (d1 := 14) rfl (zi_10 B) (fun z hz => by cases hz) rfl (Nat.le_of_ble_eq_true rfl) rfl (Nat.le_of_ble_eq_true rfl) rfl ?_
  refine y_callM (as := [(2, 2000015)]) (S1 := [(0, 3), (2, ((31 : Nat) : Int))]) (d1 := 14) rfl (zi_11 B) (fun z hz => by cases hz) rfl (Nat.le_of_ble_eq_true rfl) rfl (Nat.le_of_ble_eq_true rfl) rfl ?_
  refine z_lastore (M1 := rn zl76 B) (show ash 31 = (102, 23) from rfl) (by decide) ⟨by decide, by decide⟩ rfl ?_
  refine wp_aload_n (v := ((16 : Nat) : Int)) rfl (Int.natCast_nonneg _) ?_
  refine y_get (show ash 16 = (7, 8) from rfl) (by decide) (v := ((32 : Nat) : Int)) (zlk_ok (by decide +kernel)) rfl ?_
  refine wp_iload_n (v := 3) rfl ?_
  refine wp_iconst ⟨by decide, by decide⟩ ?_
  refine z_iastore (M1 := rn zl77 B) (show ash 32 = (100, 23) from rfl) (by decide) ⟨by decide, by decide⟩ rfl ?_
  refine y_iinc (L1 := [(2, ((16 : Nat) : Int)), (2, ((1 : Nat) : Int)), (0, 4)]) rfl (Nat.le_of_ble_eq_true rfl) ⟨by decide, by decide⟩ ⟨by decide, by decide⟩ rfl ?_
  refine wp_goto ?_
  refine y_blk (t := 53) rfl (show fnd bk_X7_init 53 = some _ from rfl) aB_X7_init ?_
  refine wp_iload_n (v := 4) rfl ?_
  refine wp_bipush (by decide) ?_
  refine wp_icmp_ge (fun c => absurd c (by decide)) (fun _ => ?_)
  refine wp_aload_n (v := ((16 : Nat) : Int)) rfl (Int.natCast_nonneg _) ?_
  refine y_get (show ash 16 = (7, 8) from rfl) (by decide) (v := ((31 : Nat) : Int)) (zlk_ok (by decide +kernel)) rfl ?_
  refine wp_iload_n (v := 4) rfl ?_
  refine wp_iload_n (v := 4) rfl ?_
  refine y_callM (as := [(0, 4)]) (S1 := [(0, 4), (2, ((31 : Nat) : Int))]) (d1 := 14) rfl (zi_12 B) (fun z hz => by cases hz) rfl (Nat.le_of_ble_eq_true rfl) rfl (Nat.le_of_ble_eq_true rfl) rfl ?_
  refine y_callM (as := [(2, 2000016)]) (S1 := [(0, 4), (2, ((31 : Nat) : Int))]) (d1 := 14) rfl (zi_13 B) (fun z hz => by cases hz) rfl (Nat.le_of_ble_eq_true rfl) rfl (Nat.le_of_ble_eq_true rfl) rfl ?_
  refine z_lastore (M1 := rn zl78 B) (show ash 31 = (102, 23) from rfl) (by decide) ⟨by decide, by decide⟩ rfl ?_
  refine wp_aload_n (v := ((16 : Nat) : Int)) rfl (Int.natCast_nonneg _) ?_
  refine y_get (show ash 16 = (7, 8) from rfl) (by decide) (v := ((32 : Nat) : Int)) (zlk_ok (by decide +kernel)) rfl ?_
  refine wp_iload_n (v := 4) rfl ?_
  refine wp_iconst ⟨by decide, by decide⟩ ?_
  refine z_iastore (M1 := rn zl79 B) (show ash 32 = (100, 23) from rfl) (by decide) ⟨by decide, by decide⟩ rfl ?_
  refine y_iinc (L1 := [(2, ((16 : Nat) : Int)), (2, ((1 : Nat) : Int)), (0, 5)]) rfl (Nat.le_of_ble_eq_true rfl) ⟨by decide, by decide⟩ ⟨by decide, by decide⟩ rfl ?_
  refine wp_goto ?_
  refine y_blk (t := 53) rfl (show fnd bk_X7_init 53 = some _ from rfl) aB_X7_init ?_
  refine wp_iload_n (v := 5) rfl ?_
  refine wp_bipush (by decide) ?_
  refine wp_icmp_ge (fun c => absurd c (by decide)) (fun _ => ?_)
  refine wp_aload_n (v := ((16 : Nat) : Int)) rfl (Int.natCast_nonneg _) ?_
  refine y_get (show ash 16 = (7, 8) from rfl) (by decide) (v := ((31 : Nat) : Int)) (zlk_ok (by decide +kernel)) rfl ?_
  refine wp_iload_n (v := 5) rfl ?_
  refine wp_iload_n (v := 5) rfl ?_
  refine y_callM (as := [(0, 5)]) (S1 := [(0, 5), (2, ((31 : Nat) : Int))]) (d1 := 14) rfl (zi_14 B) (fun z hz => by cases hz) rfl (Nat.le_of_ble_eq_true rfl) rfl (Nat.le_of_ble_eq_true rfl) rfl ?_
  refine y_callM (as := [(2, 2000017)]) (S1 := [(0, 5), (2, ((31 : Nat) : Int))]) (d1 := 14) rfl (zi_15 B) (fun z hz => by cases hz) rfl (Nat.le_of_ble_eq_true rfl) rfl (Nat.le_of_ble_eq_true rfl) rfl ?_
  refine z_lastore (M1 := rn zl80 B) (show ash 31 = (102, 23) from rfl) (by decide) ⟨by decide, by decide⟩ rfl ?_
  refine wp_aload_n (v := ((16 : Nat) : Int)) rfl (Int.natCast_nonneg _) ?_
  refine y_get (show ash 16 = (7, 8) from rfl) (by decide) (v := ((32 : Nat) : Int)) (zlk_ok (by decide +kernel)) rfl ?_
  refine wp_iload_n (v := 5) rfl ?_
  refine wp_iconst ⟨by decide, by decide⟩ ?_
  refine z_iastore (M1 := rn zl81 B) (show ash 32 = (100, 23) from rfl) (by decide) ⟨by decide, by decide⟩ rfl ?_
  refine y_iinc (L1 := [(2, ((16 : Nat) : Int)), (2, ((1 : Nat) : Int)), (0, 6)]) rfl (Nat.le_of_ble_eq_true rfl) ⟨by decide, by decide⟩ ⟨by decide, by decide⟩ rfl ?_
  refine wp_goto ?_
  refine y_blk (t := 53) rfl (show fnd bk_X7_init 53 = some _ from rfl) aB_X7_init ?_
  refine wp_iload_n (v := 6) rfl ?_
  refine wp_bipush (by decide) ?_
  refine wp_icmp_ge (fun c => absurd c (by decide)) (fun _ => ?_)
  refine wp_aload_n (v := ((16 : Nat) : Int)) rfl (Int.natCast_nonneg _) ?_
  refine y_get (show ash 16 = (7, 8) from rfl) (by decide) (v := ((31 : Nat) : Int)) (zlk_ok (by decide +kernel)) rfl ?_
  refine wp_iload_n (v := 6) rfl ?_
  refine wp_iload_n (v := 6) rfl ?_
  refine y_callM (as := [(0, 6)]) (S1 := [(0, 6), (2, ((31 : Nat) : Int))]) (d1 := 14) rfl (zi_16 B) (fun z hz => by cases hz) rfl (Nat.le_of_ble_eq_true rfl) rfl (Nat.le_of_ble_eq_true rfl) rfl ?_
  refine y_callM (as := [(2, 2000018)]) (S1 := [(0, 6), (2, ((31 : Nat) : Int))]) (d1 := 14) rfl (zi_17 B) (fun z hz => by cases hz) rfl (Nat.le_of_ble_eq_true rfl) rfl (Nat.le_of_ble_eq_true rfl) rfl ?_
  refine z_lastore (M1 := rn zl82 B) (show ash 31 = (102, 23) from rfl) (by decide) ⟨by decide, by decide⟩ rfl ?_
  refine wp_aload_n (v := ((16 : Nat) : Int)) rfl (Int.natCast_nonneg _) ?_
  refine y_get (show ash 16 = (7, 8) from rfl) (by decide) (v := ((32 : Nat) : Int)) (zlk_ok (by decide +kernel)) rfl ?_
  refine wp_iload_n (v := 6) rfl ?_
  refine wp_iconst ⟨by decide, by decide⟩ ?_
  refine z_iastore (M1 := rn zl83 B) (show ash 32 = (100, 23) from rfl) (by decide) ⟨by decide, by decide⟩ rfl ?_
  refine y_iinc (L1 := [(2, ((16 : Nat) : Int)), (2, ((1 : Nat) : Int)), (0, 7)]) rfl (Nat.le_of_ble_eq_true rfl) ⟨by decide, by decide⟩ ⟨by decide, by decide⟩ rfl ?_
  refine wp_goto ?_
  refine y_blk (t := 53) rfl (show fnd bk_X7_init 53 = some _ from rfl) aB_X7_init ?_
  refine wp_iload_n (v := 7) rfl ?_
  refine wp_bipush (by decide) ?_
  refine wp_icmp_ge (fun c => absurd c (by decide)) (fun _ => ?_)
  refine wp_aload_n (v := ((16 : Nat) : Int)) rfl (Int.natCast_nonneg _) ?_
  refine y_get (show ash 16 = (7, 8) from rfl) (by decide) (v := ((31 : Nat) : Int)) (zlk_ok (by decide +kernel)) rfl ?_
  refine wp_iload_n (v := 7) rfl ?_
  refine wp_iload_n (v := 7) rfl ?_
  refine y_callM (as := [(0, 7)]) (S1 := [(0, 7), (2, ((31 : Nat) : Int))]) (d1 := 14) rfl (zi_18 B) (fun z hz => by cases hz) rfl (Nat.le_of_ble_eq_true rfl) rfl (Nat.le_of_ble_eq_true rfl) rfl ?_
  refine y_callM (as := [(2, 2000019)]) (S1 := [(0, 7), (2, ((31 : Nat) : Int))]) (d1 := 14) rfl (zi_19 B) (fun z hz => by cases hz) rfl (Nat.le_of_ble_eq_true rfl) rfl (Nat.le_of_ble_eq_true rfl) rfl ?_
  refine z_lastore (M1 := rn zl84 B) (show ash 31 = (102, 23) from rfl) (by decide) ⟨by decide, by decide⟩ rfl ?_
  refine wp_aload_n (v := ((16 : Nat) : Int)) rfl (Int.natCast_nonneg _) ?_
  refine y_get (show ash 16 = (7, 8) from rfl) (by decide) (v := ((32 : Nat) : Int)) (zlk_ok (by decide +kernel)) rfl ?_
  refine wp_iload_n (v := 7) rfl ?_
  refine wp_iconst ⟨by decide, by decide⟩ ?_
  refine z_iastore (M1 := rn zl85 B) (show ash 32 = (100, 23) from rfl) (by decide) ⟨by decide, by decide⟩ rfl ?_
  refine y_iinc (L1 := [(2, ((16 : Nat) : Int)), (2, ((1 : Nat) : Int)), (0, 8)]) rfl (Nat.le_of_ble_eq_true rfl) ⟨by decide, by decide⟩ ⟨by decide, by decide⟩ rfl ?_
  refine wp_goto ?_
  refine y_blk (t := 53) rfl (show fnd bk_X7_init 53 = some _ from rfl) aB_X7_init ?_
  refine wp_iload_n (v := 8) rfl ?_
  refine wp_bipush (by decide) ?_
  refine wp_icmp_ge (fun _ => ?_) (fun c => absurd (by decide) c)
  refine y_blk (t := 85) rfl (show fnd bk_X7_init 85 = some _ from rfl) aB_X7_init ?_
  exact wp_return ⟨rfl, rfl⟩
theorem zi_21 (B : aM) : Ms 15 92 [(2, ((35 : Nat) : Int))] (rn zl87 B, (36, 36, 1308)) (none) (rn zl93 B, (39, 39, 1318)) := by
  refine Ms.of ?_
  show Wp 15 92 0 [] [(2, ((35 : Nat) : Int))] [] (rn zl87 B, (36, 36, 1308)) _
  refine y_blk (t := 0) rfl (show fnd bk_X8_init 0 = some _ from rfl) aB_X8_init ?_
  refine wp_aload_n (v := ((35 : Nat) : Int)) rfl (Int.natCast_nonneg _) ?_
  refine wp_objInit ⟨by decide, Nat.le_of_ble_eq_true rfl, rfl, Int.natCast_nonneg _⟩ ?_
  refine wp_aload_n (v := ((35 : Nat) : Int)) rfl (Int.natCast_nonneg _) ?_
  refine wp_iconst ⟨by decide, by decide⟩ ?_
  refine z_newarray (n := 3) (M1 := rn zl88 B) (T1 := (37, 37, 1311)) (show ash 36 = (100, 3) from rfl) (by decide) (by decide) (by decide) rfl rfl rfl ?_
  refine z_put (M1 := rn zl89 B) (show ash 35 = (8, 5) from rfl) (by decide) rfl rfl ?_
  refine wp_aload_n (v := ((35 : Nat) : Int)) rfl (Int.natCast_nonneg _) ?_
  refine wp_iconst ⟨by decide, by decide⟩ ?_
  refine z_newarray (n := 3) (M1 := rn zl90 B) (T1 := (38, 38, 1314)) (show ash 37 = (100, 3) from rfl) (by decide) (by decide) (by decide) rfl rfl rfl ?_
  refine z_put (M1 := rn zl91 B) (show ash 35 = (8, 5) from rfl) (by decide) rfl rfl ?_
  refine wp_aload_n (v := ((35 : Nat) : Int)) rfl (Int.natCast_nonneg _) ?_
  refine wp_iconst ⟨by decide, by decide⟩ ?_
  refine z_newarray (n := 4) (M1 := rn zl92 B) (T1 := (39, 39, 1318)) (show ash 38 = (100, 4) from rfl) (by decide) (by decide) (by decide) rfl rfl rfl ?_
  refine z_put (M1 := rn zl93 B) (show ash 35 = (8, 5) from rfl) (by decide) rfl rfl ?_
  exact wp_return ⟨rfl, rfl⟩
theorem zi_22 (B : aM) : Ms 15 47 [(2, ((39 : Nat) : Int)), (2, ((2 : Nat) : Int))] (rn zl95 B, (40, 40, 1322)) (none) (rn zl100 B, (42, 42, 1394)) := by
  refine Ms.of ?_
  show Wp 15 47 0 [] [(2, ((39 : Nat) : Int)), (2, ((2 : Nat) : Int))] [] (rn zl95 B, (40, 40, 1322)) _
  refine y_blk (t := 0) rfl (show fnd bk_X5_init 0 = some _ from rfl) aB_X5_init ?_
  refine wp_aload_n (v := ((39 : Nat) : Int)) rfl (Int.natCast_nonneg _) ?_
  refine wp_objInit ⟨by decide, Nat.le_of_ble_eq_true rfl, rfl, Int.natCast_nonneg _⟩ ?_
  refine wp_aload_n (v := ((39 : Nat) : Int)) rfl (Int.natCast_nonneg _) ?_
  refine wp_bipush (by decide) ?_
  refine z_newarray (n := 8) (M1 := rn zl96 B) (T1 := (41, 41, 1330)) (show ash 40 = (100, 8) from rfl) (by decide) (by decide) (by decide) rfl rfl rfl ?_
  refine z_put (M1 := rn zl97 B) (show ash 39 = (5, 4) from rfl) (by decide) rfl rfl ?_
  refine wp_aload_n (v := ((39 : Nat) : Int)) rfl (Int.natCast_nonneg _) ?_
  refine wp_bipush (by decide) ?_
  refine z_newarray (n := 64) (M1 := rn zl98 B) (T1 := (42, 42, 1394)) (show ash 41 = (100, 64) from rfl) (by decide) (by decide) (by decide) rfl rfl rfl ?_
  refine z_put (M1 := rn zl99 B) (show ash 39 = (5, 4) from rfl) (by decide) rfl rfl ?_
  refine wp_aload_n (v := ((39 : Nat) : Int)) rfl (Int.natCast_nonneg _) ?_
  refine wp_aload_n (v := ((2 : Nat) : Int)) rfl (Int.natCast_nonneg _) ?_
  refine z_put (M1 := rn zl100 B) (show ash 39 = (5, 4) from rfl) (by decide) rfl rfl ?_
  exact wp_return ⟨rfl, rfl⟩
theorem zi_23 (B : aM) : Ms 15 47 [(2, ((42 : Nat) : Int)), (2, ((2 : Nat) : Int))] (rn zl102 B, (43, 43, 1398)) (none) (rn zl107 B, (45, 45, 1470)) := by
  refine Ms.of ?_
  show Wp 15 47 0 [] [(2, ((42 : Nat) : Int)), (2, ((2 : Nat) : Int))] [] (rn zl102 B, (43, 43, 1398)) _
  refine y_blk (t := 0) rfl (show fnd bk_X5_init 0 = some _ from rfl) aB_X5_init ?_
  refine wp_aload_n (v := ((42 : Nat) : Int)) rfl (Int.natCast_nonneg _) ?_
  refine wp_objInit ⟨by decide, Nat.le_of_ble_eq_true rfl, rfl, Int.natCast_nonneg _⟩ ?_
  refine wp_aload_n (v := ((42 : Nat) : Int)) rfl (Int.natCast_nonneg _) ?_
  refine wp_bipush (by decide) ?_
  refine z_newarray (n := 8) (M1 := rn zl103 B) (T1 := (44, 44, 1406)) (show ash 43 = (100, 8) from rfl) (by decide) (by decide) (by decide) rfl rfl rfl ?_
  refine z_put (M1 := rn zl104 B) (show ash 42 = (5, 4) from rfl) (by decide) rfl rfl ?_
  refine wp_aload_n (v := ((42 : Nat) : Int)) rfl (Int.natCast_nonneg _) ?_
  refine wp_bipush (by decide) ?_
  refine z_newarray (n := 64) (M1 := rn zl105 B) (T1 := (45, 45, 1470)) (show ash 44 = (100, 64) from rfl) (by decide) (by decide) (by decide) rfl rfl rfl ?_
  refine z_put (M1 := rn zl106 B) (show ash 42 = (5, 4) from rfl) (by decide) rfl rfl ?_
  refine wp_aload_n (v := ((42 : Nat) : Int)) rfl (Int.natCast_nonneg _) ?_
  refine wp_aload_n (v := ((2 : Nat) : Int)) rfl (Int.natCast_nonneg _) ?_
  refine z_put (M1 := rn zl107 B) (show ash 42 = (5, 4) from rfl) (by decide) rfl rfl ?_
  exact wp_return ⟨rfl, rfl⟩
theorem zi_24 (B : aM) : Ms 15 47 [(2, ((45 : Nat) : Int)), (2, ((2 : Nat) : Int))] (rn zl109 B, (46, 46, 1474)) (none) (rn zl114 B, (48, 48, 1546)) := by
  refine Ms.of ?_
  show Wp 15 47 0 [] [(2, ((45 : Nat) : Int)), (2, ((2 : Nat) : Int))] [] (rn zl109 B, (46, 46, 1474)) _
  refine y_blk (t := 0) rfl (show fnd bk_X5_init 0 = some _ from rfl) aB_X5_init ?_
  refine wp_aload_n (v := ((45 : Nat) : Int)) rfl (Int.natCast_nonneg _) ?_
  refine wp_objInit ⟨by decide, Nat.le_of_ble_eq_true rfl, rfl, Int.natCast_nonneg _⟩ ?_
  refine wp_aload_n (v := ((45 : Nat) : Int)) rfl (Int.natCast_nonneg _) ?_
  refine wp_bipush (by decide) ?_
  refine z_newarray (n := 8) (M1 := rn zl110 B) (T1 := (47, 47, 1482)) (show ash 46 = (100, 8) from rfl) (by decide) (by decide) (by decide) rfl rfl rfl ?_
  refine z_put (M1 := rn zl111 B) (show ash 45 = (5, 4) from rfl) (by decide) rfl rfl ?_
  refine wp_aload_n (v := ((45 : Nat) : Int)) rfl (Int.natCast_nonneg _) ?_
  refine wp_bipush (by decide) ?_
  refine z_newarray (n := 64) (M1 := rn zl112 B) (T1 := (48, 48, 1546)) (show ash 47 = (100, 64) from rfl) (by decide) (by decide) (by decide) rfl rfl rfl ?_
  refine z_put (M1 := rn zl113 B) (show ash 45 = (5, 4) from rfl) (by decide) rfl rfl ?_
  refine wp_aload_n (v := ((45 : Nat) : Int)) rfl (Int.natCast_nonneg _) ?_
  refine wp_aload_n (v := ((2 : Nat) : Int)) rfl (Int.natCast_nonneg _) ?_
  refine z_put (M1 := rn zl114 B) (show ash 45 = (5, 4) from rfl) (by decide) rfl rfl ?_
  exact wp_return ⟨rfl, rfl⟩
theorem zi_25 (B : aM) : Ms 15 7 [(2, ((48 : Nat) : Int)), (2, ((2 : Nat) : Int)), (2, ((35 : Nat) : Int)), (2, ((39 : Nat) : Int))] (rn zl116 B, (49, 49, 1552)) (none) (rn zl125 B, (52, 52, 1838)) := by
  refine Ms.of ?_
  show Wp 15 7 0 [] [(2, ((48 : Nat) : Int)), (2, ((2 : Nat) : Int)), (2, ((35 : Nat) : Int)), (2, ((39 : Nat) : Int))] [] (rn zl116 B, (49, 49, 1552)) _
  refine y_blk (t := 0) rfl (show fnd bk_X1_init 0 = some _ from rfl) aB_X1_init ?_
  refine wp_aload_n (v := ((48 : Nat) : Int)) rfl (Int.natCast_nonneg _) ?_
  refine wp_objInit ⟨by decide, Nat.le_of_ble_eq_true rfl, rfl, Int.natCast_nonneg _⟩ ?_
  refine wp_aload_n (v := ((48 : Nat) : Int)) rfl (Int.natCast_nonneg _) ?_
  refine wp_sipush (by decide) ?_
  refine z_newarray (n := 217) (M1 := rn zl117 B) (T1 := (50, 50, 1769)) (show ash 49 = (100, 217) from rfl) (by decide) (by decide) (by decide) rfl rfl rfl ?_
  refine z_put (M1 := rn zl118 B) (show ash 48 = (1, 6) from rfl) (by decide) rfl rfl ?_
  refine wp_aload_n (v := ((48 : Nat) : Int)) rfl (Int.natCast_nonneg _) ?_
  refine wp_bipush (by decide) ?_
  refine z_newarray (n := 61) (M1 := rn zl119 B) (T1 := (51, 51, 1830)) (show ash 50 = (100, 61) from rfl) (by decide) (by decide) (by decide) rfl rfl rfl ?_
  refine z_put (M1 := rn zl120 B) (show ash 48 = (1, 6) from rfl) (by decide) rfl rfl ?_
  refine wp_aload_n (v := ((48 : Nat) : Int)) rfl (Int.natCast_nonneg _) ?_
  refine wp_bipush (by decide) ?_
  refine z_newarray (n := 8) (M1 := rn zl121 B) (T1 := (52, 52, 1838)) (show ash 51 = (100, 8) from rfl) (by decide) (by decide) (by decide) rfl rfl rfl ?_
  refine z_put (M1 := rn zl122 B) (show ash 48 = (1, 6) from rfl) (by decide) rfl rfl ?_
  refine wp_aload_n (v := ((48 : Nat) : Int)) rfl (Int.natCast_nonneg _) ?_
  refine wp_aload_n (v := ((2 : Nat) : Int)) rfl (Int.natCast_nonneg _) ?_
  refine z_put (M1 := rn zl123 B) (show ash 48 = (1, 6) from rfl) (by decide) rfl rfl ?_
  refine wp_aload_n (v := ((48 : Nat) : Int)) rfl (Int.natCast_nonneg _) ?_
  refine wp_aload_n (v := ((35 : Nat) : Int)) rfl (Int.natCast_nonneg _) ?_
  refine z_put (M1 := rn zl124 B) (show ash 48 = (1, 6) from rfl) (by decide) rfl rfl ?_
  refine wp_aload_n (v := ((48 : Nat) : Int)) rfl (Int.natCast_nonneg _) ?_
  refine wp_aload_n (v := ((39 : Nat) : Int)) rfl (Int.natCast_nonneg _) ?_
  refine z_put (M1 := rn zl125 B) (show ash 48 = (1, 6) from rfl) (by decide) rfl rfl ?_
  exact wp_return ⟨rfl, rfl⟩
theorem zi_26 (B : aM) : Ms 15 24 [(2, ((52 : Nat) : Int)), (2, ((2 : Nat) : Int)), (2, ((42 : Nat) : Int))] (rn zl127 B, (53, 53, 1840)) (none) (rn zl129 B, (53, 53, 1840)) := by
  refine Ms.of ?_
  show Wp 15 24 0 [] [(2, ((52 : Nat) : Int)), (2, ((2 : Nat) : Int)), (2, ((42 : Nat) : Int))] [] (rn zl127 B, (53, 53, 1840)) _
  refine y_blk (t := 0) rfl (show fnd bk_X2_init 0 = some _ from rfl) aB_X2_init ?_
  refine wp_aload_n (v := ((52 : Nat) : Int)) rfl (Int.natCast_nonneg _) ?_
  refine wp_objInit ⟨by decide, Nat.le_of_ble_eq_true rfl, rfl, Int.natCast_nonneg _⟩ ?_
  refine wp_aload_n (v := ((52 : Nat) : Int)) rfl (Int.natCast_nonneg _) ?_
  refine wp_aload_n (v := ((2 : Nat) : Int)) rfl (Int.natCast_nonneg _) ?_
  refine z_put (M1 := rn zl128 B) (show ash 52 = (2, 2) from rfl) (by decide) rfl rfl ?_
  refine wp_aload_n (v := ((52 : Nat) : Int)) rfl (Int.natCast_nonneg _) ?_
  refine wp_aload_n (v := ((42 : Nat) : Int)) rfl (Int.natCast_nonneg _) ?_
  refine z_put (M1 := rn zl129 B) (show ash 52 = (2, 2) from rfl) (by decide) rfl rfl ?_
  exact wp_return ⟨rfl, rfl⟩
theorem zi_27 (B : aM) : Ms 15 61 [(2, ((53 : Nat) : Int)), (2, ((2 : Nat) : Int)), (2, ((45 : Nat) : Int))] (rn zl131 B, (54, 54, 1842)) (none) (rn zl133 B, (54, 54, 1842)) := by
  refine Ms.of ?_
  show Wp 15 61 0 [] [(2, ((53 : Nat) : Int)), (2, ((2 : Nat) : Int)), (2, ((45 : Nat) : Int))] [] (rn zl131 B, (54, 54, 1842)) _
  refine y_blk (t := 0) rfl (show fnd bk_X6_init 0 = some _ from rfl) aB_X6_init ?_
  refine wp_aload_n (v := ((53 : Nat) : Int)) rfl (Int.natCast_nonneg _) ?_
  refine wp_objInit ⟨by decide, Nat.le_of_ble_eq_true rfl, rfl, Int.natCast_nonneg _⟩ ?_
  refine wp_aload_n (v := ((53 : Nat) : Int)) rfl (Int.natCast_nonneg _) ?_
  refine wp_aload_n (v := ((2 : Nat) : Int)) rfl (Int.natCast_nonneg _) ?_
  refine z_put (M1 := rn zl132 B) (show ash 53 = (6, 2) from rfl) (by decide) rfl rfl ?_
  refine wp_aload_n (v := ((53 : Nat) : Int)) rfl (Int.natCast_nonneg _) ?_
  refine wp_aload_n (v := ((45 : Nat) : Int)) rfl (Int.natCast_nonneg _) ?_
  refine z_put (M1 := rn zl133 B) (show ash 53 = (6, 2) from rfl) (by decide) rfl rfl ?_
  exact wp_return ⟨rfl, rfl⟩
theorem zi_28 (B : aM) : Ms 15 34 [(2, ((54 : Nat) : Int)), (2, ((2 : Nat) : Int)), (2, ((39 : Nat) : Int))] (rn zl135 B, (55, 55, 1847)) (none) (rn zl143 B, (58, 58, 1927)) := by
  refine Ms.of ?_
  show Wp 15 34 0 [] [(2, ((54 : Nat) : Int)), (2, ((2 : Nat) : Int)), (2, ((39 : Nat) : Int))] [] (rn zl135 B, (55, 55, 1847)) _
  refine y_blk (t := 0) rfl (show fnd bk_X3_init 0 = some _ from rfl) aB_X3_init ?_
  refine wp_aload_n (v := ((54 : Nat) : Int)) rfl (Int.natCast_nonneg _) ?_
  refine wp_objInit ⟨by decide, Nat.le_of_ble_eq_true rfl, rfl, Int.natCast_nonneg _⟩ ?_
  refine wp_aload_n (v := ((54 : Nat) : Int)) rfl (Int.natCast_nonneg _) ?_
  refine wp_bipush (by decide) ?_
  refine z_newarray (n := 64) (M1 := rn zl136 B) (T1 := (56, 56, 1911)) (show ash 55 = (100, 64) from rfl) (by decide) (by decide) (by decide) rfl rfl rfl ?_
  refine z_put (M1 := rn zl137 B) (show ash 54 = (3, 5) from rfl) (by decide) rfl rfl ?_
  refine wp_aload_n (v := ((54 : Nat) : Int)) rfl (Int.natCast_nonneg _) ?_
  refine wp_bipush (by decide) ?_
  refine z_newarray (n := 8) (M1 := rn zl138 B) (T1 := (57, 57, 1919)) (show ash 56 = (100, 8) from rfl) (by decide) (by decide) (by decide) rfl rfl rfl ?_
  refine z_put (M1 := rn zl139 B) (show ash 54 = (3, 5) from rfl) (by decide) rfl rfl ?_
  refine wp_aload_n (v := ((54 : Nat) : Int)) rfl (Int.natCast_nonneg _) ?_
  refine wp_bipush (by decide) ?_
  refine z_newarray (n := 8) (M1 := rn zl140 B) (T1 := (58, 58, 1927)) (show ash 57 = (100, 8) from rfl) (by decide) (by decide) (by decide) rfl rfl rfl ?_
  refine z_put (M1 := rn zl141 B) (show ash 54 = (3, 5) from rfl) (by decide) rfl rfl ?_
  refine wp_aload_n (v := ((54 : Nat) : Int)) rfl (Int.natCast_nonneg _) ?_
  refine wp_aload_n (v := ((2 : Nat) : Int)) rfl (Int.natCast_nonneg _) ?_
  refine z_put (M1 := rn zl142 B) (show ash 54 = (3, 5) from rfl) (by decide) rfl rfl ?_
  refine wp_aload_n (v := ((54 : Nat) : Int)) rfl (Int.natCast_nonneg _) ?_
  refine wp_aload_n (v := ((39 : Nat) : Int)) rfl (Int.natCast_nonneg _) ?_
  refine z_put (M1 := rn zl143 B) (show ash 54 = (3, 5) from rfl) (by decide) rfl rfl ?_
  exact wp_return ⟨rfl, rfl⟩
theorem zi_29 (B : aM) : Ms 15 0 [(2, ((58 : Nat) : Int)), (2, ((2 : Nat) : Int)), (2, ((35 : Nat) : Int)), (2, ((45 : Nat) : Int))] (rn zl145 B, (59, 59, 1931)) (none) (rn zl148 B, (59, 59, 1931)) := by
  refine Ms.of ?_
  show Wp 15 0 0 [] [(2, ((58 : Nat) : Int)), (2, ((2 : Nat) : Int)), (2, ((35 : Nat) : Int)), (2, ((45 : Nat) : Int))] [] (rn zl145 B, (59, 59, 1931)) _
  refine y_blk (t := 0) rfl (show fnd bk_X0_init 0 = some _ from rfl) aB_X0_init ?_
  refine wp_aload_n (v := ((58 : Nat) : Int)) rfl (Int.natCast_nonneg _) ?_
  refine wp_objInit ⟨by decide, Nat.le_of_ble_eq_true rfl, rfl, Int.natCast_nonneg _⟩ ?_
  refine wp_aload_n (v := ((58 : Nat) : Int)) rfl (Int.natCast_nonneg _) ?_
  refine wp_aload_n (v := ((2 : Nat) : Int)) rfl (Int.natCast_nonneg _) ?_
  refine z_put (M1 := rn zl146 B) (show ash 58 = (0, 4) from rfl) (by decide) rfl rfl ?_
  refine wp_aload_n (v := ((58 : Nat) : Int)) rfl (Int.natCast_nonneg _) ?_
  refine wp_aload_n (v := ((35 : Nat) : Int)) rfl (Int.natCast_nonneg _) ?_
  refine z_put (M1 := rn zl147 B) (show ash 58 = (0, 4) from rfl) (by decide) rfl rfl ?_
  refine wp_aload_n (v := ((58 : Nat) : Int)) rfl (Int.natCast_nonneg _) ?_
  refine wp_aload_n (v := ((45 : Nat) : Int)) rfl (Int.natCast_nonneg _) ?_
  refine z_put (M1 := rn zl148 B) (show ash 58 = (0, 4) from rfl) (by decide) rfl rfl ?_
  exact wp_return ⟨rfl, rfl⟩
theorem zi_30 (B : aM) : Ms 14 92 [(2, ((62 : Nat) : Int))] (rn zl155 B, (63, 63, 1960)) (none) (rn zl161 B, (66, 66, 1970)) := by
  refine Ms.of ?_
  show Wp 14 92 0 [] [(2, ((62 : Nat) : Int))] [] (rn zl155 B, (63, 63, 1960)) _
  refine y_blk (t := 0) rfl (show fnd bk_X8_init 0 = some _ from rfl) aB_X8_init ?_
  refine wp_aload_n (v := ((62 : Nat) : Int)) rfl (Int.natCast_nonneg _) ?_
  refine wp_objInit ⟨by decide, Nat.le_of_ble_eq_true rfl, rfl, Int.natCast_nonneg _⟩ ?_
  refine wp_aload_n (v := ((62 : Nat) : Int)) rfl (Int.natCast_nonneg _) ?_
  refine wp_iconst ⟨by decide, by decide⟩ ?_
  refine z_newarray (n := 3) (M1 := rn zl156 B) (T1 := (64, 64, 1963)) (show ash 63 = (100, 3) from rfl) (by decide) (by decide) (by decide) rfl rfl rfl ?_
  refine z_put (M1 := rn zl157 B) (show ash 62 = (8, 5) from rfl) (by decide) rfl rfl ?_
  refine wp_aload_n (v := ((62 : Nat) : Int)) rfl (Int.natCast_nonneg _) ?_
  refine wp_iconst ⟨by decide, by decide⟩ ?_
  refine z_newarray (n := 3) (M1 := rn zl158 B) (T1 := (65, 65, 1966)) (show ash 64 = (100, 3) from rfl) (by decide) (by decide) (by decide) rfl rfl rfl ?_
  refine z_put (M1 := rn zl159 B) (show ash 62 = (8, 5) from rfl) (by decide) rfl rfl ?_
  refine wp_aload_n (v := ((62 : Nat) : Int)) rfl (Int.natCast_nonneg _) ?_
  refine wp_iconst ⟨by decide, by decide⟩ ?_
  refine z_newarray (n := 4) (M1 := rn zl160 B) (T1 := (66, 66, 1970)) (show ash 65 = (100, 4) from rfl) (by decide) (by decide) (by decide) rfl rfl rfl ?_
  refine z_put (M1 := rn zl161 B) (show ash 62 = (8, 5) from rfl) (by decide) rfl rfl ?_
  exact wp_return ⟨rfl, rfl⟩
theorem zi_31 (B : aM) : Ms 14 92 [(2, ((66 : Nat) : Int))] (rn zl163 B, (67, 67, 1975)) (none) (rn zl169 B, (70, 70, 1985)) := by
  refine Ms.of ?_
  show Wp 14 92 0 [] [(2, ((66 : Nat) : Int))] [] (rn zl163 B, (67, 67, 1975)) _
  refine y_blk (t := 0) rfl (show fnd bk_X8_init 0 = some _ from rfl) aB_X8_init ?_
  refine wp_aload_n (v := ((66 : Nat) : Int)) rfl (Int.natCast_nonneg _) ?_
  refine wp_objInit ⟨by decide, Nat.le_of_ble_eq_true rfl, rfl, Int.natCast_nonneg _⟩ ?_
  refine wp_aload_n (v := ((66 : Nat) : Int)) rfl (Int.natCast_nonneg _) ?_
  refine wp_iconst ⟨by decide, by decide⟩ ?_
  refine z_newarray (n := 3) (M1 := rn zl164 B) (T1 := (68, 68, 1978)) (show ash 67 = (100, 3) from rfl) (by decide) (by decide) (by decide) rfl rfl rfl ?_
  refine z_put (M1 := rn zl165 B) (show ash 66 = (8, 5) from rfl) (by decide) rfl rfl ?_
  refine wp_aload_n (v := ((66 : Nat) : Int)) rfl (Int.natCast_nonneg _) ?_
  refine wp_iconst ⟨by decide, by decide⟩ ?_
  refine z_newarray (n := 3) (M1 := rn zl166 B) (T1 := (69, 69, 1981)) (show ash 68 = (100, 3) from rfl) (by decide) (by decide) (by decide) rfl rfl rfl ?_
  refine z_put (M1 := rn zl167 B) (show ash 66 = (8, 5) from rfl) (by decide) rfl rfl ?_
  refine wp_aload_n (v := ((66 : Nat) : Int)) rfl (Int.natCast_nonneg _) ?_
  refine wp_iconst ⟨by decide, by decide⟩ ?_
  refine z_newarray (n := 4) (M1 := rn zl168 B) (T1 := (70, 70, 1985)) (show ash 69 = (100, 4) from rfl) (by decide) (by decide) (by decide) rfl rfl rfl ?_
  refine z_put (M1 := rn zl169 B) (show ash 66 = (8, 5) from rfl) (by decide) rfl rfl ?_
  exact wp_return ⟨rfl, rfl⟩
theorem zi_32 (B : aM) : Ms 14 92 [(2, ((70 : Nat) : Int))] (rn zl171 B, (71, 71, 1990)) (none) (rn zl177 B, (74, 74, 2000)) := by
  refine Ms.of ?_
  show Wp 14 92 0 [] [(2, ((70 : Nat) : Int))] [] (rn zl171 B, (71, 71, 1990)) _
  refine y_blk (t := 0) rfl (show fnd bk_X8_init 0 = some _ from rfl) aB_X8_init ?_
  refine wp_aload_n (v := ((70 : Nat) : Int)) rfl (Int.natCast_nonneg _) ?_
  refine wp_objInit ⟨by decide, Nat.le_of_ble_eq_true rfl, rfl, Int.natCast_nonneg _⟩ ?_
  refine wp_aload_n (v := ((70 : Nat) : Int)) rfl (Int.natCast_nonneg _) ?_
  refine wp_iconst ⟨by decide, by decide⟩ ?_
  refine z_newarray (n := 3) (M1 := rn zl172 B) (T1 := (72, 72, 1993)) (show ash 71 = (100, 3) from rfl) (by decide) (by decide) (by decide) rfl rfl rfl ?_
  refine z_put (M1 := rn zl173 B) (show ash 70 = (8, 5) from rfl) (by decide) rfl rfl ?_
  refine wp_aload_n (v := ((70 : Nat) : Int)) rfl (Int.natCast_nonneg _) ?_
  refine wp_iconst ⟨by decide, by decide⟩ ?_
  refine z_newarray (n := 3) (M1 := rn zl174 B) (T1 := (73, 73, 1996)) (show ash 72 = (100, 3) from rfl) (by decide) (by decide) (by decide) rfl rfl rfl ?_
  refine z_put (M1 := rn zl175 B) (show ash 70 = (8, 5) from rfl) (by decide) rfl rfl ?_
  refine wp_aload_n (v := ((70 : Nat) : Int)) rfl (Int.natCast_nonneg _) ?_
  refine wp_iconst ⟨by decide, by decide⟩ ?_
  refine z_newarray (n := 4) (M1 := rn zl176 B) (T1 := (74, 74, 2000)) (show ash 73 = (100, 4) from rfl) (by decide) (by decide) (by decide) rfl rfl rfl ?_
  refine z_put (M1 := rn zl177 B) (show ash 70 = (8, 5) from rfl) (by decide) rfl rfl ?_
  exact wp_return ⟨rfl, rfl⟩
theorem zi_33 (B : aM) : Ms 14 92 [(2, ((74 : Nat) : Int))] (rn zl179 B, (75, 75, 2005)) (none) (rn zl185 B, (78, 78, 2015)) := by
  refine Ms.of ?_
  show Wp 14 92 0 [] [(2, ((74 : Nat) : Int))] [] (rn zl179 B, (75, 75, 2005)) _
  refine y_blk (t := 0) rfl (show fnd bk_X8_init 0 = some _ from rfl) aB_X8_init ?_
  refine wp_aload_n (v := ((74 : Nat) : Int)) rfl (Int.natCast_nonneg _) ?_
  refine wp_objInit ⟨by decide, Nat.le_of_ble_eq_true rfl, rfl, Int.natCast_nonneg _⟩ ?_
  refine wp_aload_n (v := ((74 : Nat) : Int)) rfl (Int.natCast_nonneg _) ?_
  refine wp_iconst ⟨by decide, by decide⟩ ?_
  refine z_newarray (n := 3) (M1 := rn zl180 B) (T1 := (76, 76, 2008)) (show ash 75 = (100, 3) from rfl) (by decide) (by decide) (by decide) rfl rfl rfl ?_
  refine z_put (M1 := rn zl181 B) (show ash 74 = (8, 5) from rfl) (by decide) rfl rfl ?_
  refine wp_aload_n (v := ((74 : Nat) : Int)) rfl (Int.natCast_nonneg _) ?_
  refine wp_iconst ⟨by decide, by decide⟩ ?_
  refine z_newarray (n := 3) (M1 := rn zl182 B) (T1 := (77, 77, 2011)) (show ash 76 = (100, 3) from rfl) (by decide) (by decide) (by decide) rfl rfl rfl ?_
  refine z_put (M1 := rn zl183 B) (show ash 74 = (8, 5) from rfl) (by decide) rfl rfl ?_
  refine wp_aload_n (v := ((74 : Nat) : Int)) rfl (Int.natCast_nonneg _) ?_
  refine wp_iconst ⟨by decide, by decide⟩ ?_
  refine z_newarray (n := 4) (M1 := rn zl184 B) (T1 := (78, 78, 2015)) (show ash 77 = (100, 4) from rfl) (by decide) (by decide) (by decide) rfl rfl rfl ?_
  refine z_put (M1 := rn zl185 B) (show ash 74 = (8, 5) from rfl) (by decide) rfl rfl ?_
  exact wp_return ⟨rfl, rfl⟩
theorem zi_34 (B : aM) : Ms 14 92 [(2, ((78 : Nat) : Int))] (rn zl187 B, (79, 79, 2020)) (none) (rn zl193 B, (82, 82, 2030)) := by
  refine Ms.of ?_
  show Wp 14 92 0 [] [(2, ((78 : Nat) : Int))] [] (rn zl187 B, (79, 79, 2020)) _
  refine y_blk (t := 0) rfl (show fnd bk_X8_init 0 = some _ from rfl) aB_X8_init ?_
  refine wp_aload_n (v := ((78 : Nat) : Int)) rfl (Int.natCast_nonneg _) ?_
  refine wp_objInit ⟨by decide, Nat.le_of_ble_eq_true rfl, rfl, Int.natCast_nonneg _⟩ ?_
  refine wp_aload_n (v := ((78 : Nat) : Int)) rfl (Int.natCast_nonneg _) ?_
  refine wp_iconst ⟨by decide, by decide⟩ ?_
  refine z_newarray (n := 3) (M1 := rn zl188 B) (T1 := (80, 80, 2023)) (show ash 79 = (100, 3) from rfl) (by decide) (by decide) (by decide) rfl rfl rfl ?_
  refine z_put (M1 := rn zl189 B) (show ash 78 = (8, 5) from rfl) (by decide) rfl rfl ?_
  refine wp_aload_n (v := ((78 : Nat) : Int)) rfl (Int.natCast_nonneg _) ?_
  refine wp_iconst ⟨by decide, by decide⟩ ?_
  refine z_newarray (n := 3) (M1 := rn zl190 B) (T1 := (81, 81, 2026)) (show ash 80 = (100, 3) from rfl) (by decide) (by decide) (by decide) rfl rfl rfl ?_
  refine z_put (M1 := rn zl191 B) (show ash 78 = (8, 5) from rfl) (by decide) rfl rfl ?_
  refine wp_aload_n (v := ((78 : Nat) : Int)) rfl (Int.natCast_nonneg _) ?_
  refine wp_iconst ⟨by decide, by decide⟩ ?_
  refine z_newarray (n := 4) (M1 := rn zl192 B) (T1 := (82, 82, 2030)) (show ash 81 = (100, 4) from rfl) (by decide) (by decide) (by decide) rfl rfl rfl ?_
  refine z_put (M1 := rn zl193 B) (show ash 78 = (8, 5) from rfl) (by decide) rfl rfl ?_
  exact wp_return ⟨rfl, rfl⟩
theorem zi_35 (B : aM) : Ms 14 92 [(2, ((82 : Nat) : Int))] (rn zl195 B, (83, 83, 2035)) (none) (rn zl201 B, (86, 86, 2045)) := by
  refine Ms.of ?_
  show Wp 14 92 0 [] [(2, ((82 : Nat) : Int))] [] (rn zl195 B, (83, 83, 2035)) _
  refine y_blk (t := 0) rfl (show fnd bk_X8_init 0 = some _ from rfl) aB_X8_init ?_
  refine wp_aload_n (v := ((82 : Nat) : Int)) rfl (Int.natCast_nonneg _) ?_
  refine wp_objInit ⟨by decide, Nat.le_of_ble_eq_true rfl, rfl, Int.natCast_nonneg _⟩ ?_
  refine wp_aload_n (v := ((82 : Nat) : Int)) rfl (Int.natCast_nonneg _) ?_
  refine wp_iconst ⟨by decide, by decide⟩ ?_
  refine z_newarray (n := 3) (M1 := rn zl196 B) (T1 := (84, 84, 2038)) (show ash 83 = (100, 3) from rfl) (by decide) (by decide) (by decide) rfl rfl rfl ?_
  refine z_put (M1 := rn zl197 B) (show ash 82 = (8, 5) from rfl) (by decide) rfl rfl ?_
  refine wp_aload_n (v := ((82 : Nat) : Int)) rfl (Int.natCast_nonneg _) ?_
  refine wp_iconst ⟨by decide, by decide⟩ ?_
  refine z_newarray (n := 3) (M1 := rn zl198 B) (T1 := (85, 85, 2041)) (show ash 84 = (100, 3) from rfl) (by decide) (by decide) (by decide) rfl rfl rfl ?_
  refine z_put (M1 := rn zl199 B) (show ash 82 = (8, 5) from rfl) (by decide) rfl rfl ?_
  refine wp_aload_n (v := ((82 : Nat) : Int)) rfl (Int.natCast_nonneg _) ?_
  refine wp_iconst ⟨by decide, by decide⟩ ?_
  refine z_newarray (n := 4) (M1 := rn zl200 B) (T1 := (86, 86, 2045)) (show ash 85 = (100, 4) from rfl) (by decide) (by decide) (by decide) rfl rfl rfl ?_
  refine z_put (M1 := rn zl201 B) (show ash 82 = (8, 5) from rfl) (by decide) rfl rfl ?_
  exact wp_return ⟨rfl, rfl⟩
theorem zi_36 (B : aM) : Ms 14 92 [(2, ((86 : Nat) : Int))] (rn zl203 B, (87, 87, 2050)) (none) (rn zl209 B, (90, 90, 2060)) := by
  refine Ms.of ?_
  show Wp 14 92 0 [] [(2, ((86 : Nat) : Int))] [] (rn zl203 B, (87, 87, 2050)) _
  refine y_blk (t := 0) rfl (show fnd bk_X8_init 0 = some _ from rfl) aB_X8_init ?_
  refine wp_aload_n (v := ((86 : Nat) : Int)) rfl (Int.natCast_nonneg _) ?_
  refine wp_objInit ⟨by decide, Nat.le_of_ble_eq_true rfl, rfl, Int.natCast_nonneg _⟩ ?_
  refine wp_aload_n (v := ((86 : Nat) : Int)) rfl (Int.natCast_nonneg _) ?_
  refine wp_iconst ⟨by decide, by decide⟩ ?_
  refine z_newarray (n := 3) (M1 := rn zl204 B) (T1 := (88, 88, 2053)) (show ash 87 = (100, 3) from rfl) (by decide) (by decide) (by decide) rfl rfl rfl ?_
  refine z_put (M1 := rn zl205 B) (show ash 86 = (8, 5) from rfl) (by decide) rfl rfl ?_
  refine wp_aload_n (v := ((86 : Nat) : Int)) rfl (Int.natCast_nonneg _) ?_
  refine wp_iconst ⟨by decide, by decide⟩ ?_
  refine z_newarray (n := 3) (M1 := rn zl206 B) (T1 := (89, 89, 2056)) (show ash 88 = (100, 3) from rfl) (by decide) (by decide) (by decide) rfl rfl rfl ?_
  refine z_put (M1 := rn zl207 B) (show ash 86 = (8, 5) from rfl) (by decide) rfl rfl ?_
  refine wp_aload_n (v := ((86 : Nat) : Int)) rfl (Int.natCast_nonneg _) ?_
  refine wp_iconst ⟨by decide, by decide⟩ ?_
  refine z_newarray (n := 4) (M1 := rn zl208 B) (T1 := (90, 90, 2060)) (show ash 89 = (100, 4) from rfl) (by decide) (by decide) (by decide) rfl rfl rfl ?_
  refine z_put (M1 := rn zl209 B) (show ash 86 = (8, 5) from rfl) (by decide) rfl rfl ?_
  exact wp_return ⟨rfl, rfl⟩
theorem zi_37 (B : aM) : Ms 14 92 [(2, ((90 : Nat) : Int))] (rn zl211 B, (91, 91, 2065)) (none) (rn zl217 B, (94, 94, 2075)) := by
  refine Ms.of ?_
  show Wp 14 92 0 [] [(2, ((90 : Nat) : Int))] [] (rn zl211 B, (91, 91, 2065)) _
  refine y_blk (t := 0) rfl (show fnd bk_X8_init 0 = some _ from rfl) aB_X8_init ?_
  refine wp_aload_n (v := ((90 : Nat) : Int)) rfl (Int.natCast_nonneg _) ?_
  refine wp_objInit ⟨by decide, Nat.le_of_ble_eq_true rfl, rfl, Int.natCast_nonneg _⟩ ?_
  refine wp_aload_n (v := ((90 : Nat) : Int)) rfl (Int.natCast_nonneg _) ?_
  refine wp_iconst ⟨by decide, by decide⟩ ?_
  refine z_newarray (n := 3) (M1 := rn zl212 B) (T1 := (92, 92, 2068)) (show ash 91 = (100, 3) from rfl) (by decide) (by decide) (by decide) rfl rfl rfl ?_
  refine z_put (M1 := rn zl213 B) (show ash 90 = (8, 5) from rfl) (by decide) rfl rfl ?_
  refine wp_aload_n (v := ((90 : Nat) : Int)) rfl (Int.natCast_nonneg _) ?_
  refine wp_iconst ⟨by decide, by decide⟩ ?_
  refine z_newarray (n := 3) (M1 := rn zl214 B) (T1 := (93, 93, 2071)) (show ash 92 = (100, 3) from rfl) (by decide) (by decide) (by decide) rfl rfl rfl ?_
  refine z_put (M1 := rn zl215 B) (show ash 90 = (8, 5) from rfl) (by decide) rfl rfl ?_
  refine wp_aload_n (v := ((90 : Nat) : Int)) rfl (Int.natCast_nonneg _) ?_
  refine wp_iconst ⟨by decide, by decide⟩ ?_
  refine z_newarray (n := 4) (M1 := rn zl216 B) (T1 := (94, 94, 2075)) (show ash 93 = (100, 4) from rfl) (by decide) (by decide) (by decide) rfl rfl rfl ?_
  refine z_put (M1 := rn zl217 B) (show ash 90 = (8, 5) from rfl) (by decide) rfl rfl ?_
  exact wp_return ⟨rfl, rfl⟩
theorem zi_38 (B : aM) : Ms 14 92 [(2, ((94 : Nat) : Int))] (rn zl219 B, (95, 95, 2080)) (none) (rn zl225 B, (98, 98, 2090)) := by
  refine Ms.of ?_
  show Wp 14 92 0 [] [(2, ((94 : Nat) : Int))] [] (rn zl219 B, (95, 95, 2080)) _
  refine y_blk (t := 0) rfl (show fnd bk_X8_init 0 = some _ from rfl) aB_X8_init ?_
  refine wp_aload_n (v := ((94 : Nat) : Int)) rfl (Int.natCast_nonneg _) ?_
  refine wp_objInit ⟨by decide, Nat.le_of_ble_eq_true rfl, rfl, Int.natCast_nonneg _⟩ ?_
  refine wp_aload_n (v := ((94 : Nat) : Int)) rfl (Int.natCast_nonneg _) ?_
  refine wp_iconst ⟨by decide, by decide⟩ ?_
  refine z_newarray (n := 3) (M1 := rn zl220 B) (T1 := (96, 96, 2083)) (show ash 95 = (100, 3) from rfl) (by decide) (by decide) (by decide) rfl rfl rfl ?_
  refine z_put (M1 := rn zl221 B) (show ash 94 = (8, 5) from rfl) (by decide) rfl rfl ?_
  refine wp_aload_n (v := ((94 : Nat) : Int)) rfl (Int.natCast_nonneg _) ?_
  refine wp_iconst ⟨by decide, by decide⟩ ?_
  refine z_newarray (n := 3) (M1 := rn zl222 B) (T1 := (97, 97, 2086)) (show ash 96 = (100, 3) from rfl) (by decide) (by decide) (by decide) rfl rfl rfl ?_
  refine z_put (M1 := rn zl223 B) (show ash 94 = (8, 5) from rfl) (by decide) rfl rfl ?_
  refine wp_aload_n (v := ((94 : Nat) : Int)) rfl (Int.natCast_nonneg _) ?_
  refine wp_iconst ⟨by decide, by decide⟩ ?_
  refine z_newarray (n := 4) (M1 := rn zl224 B) (T1 := (98, 98, 2090)) (show ash 97 = (100, 4) from rfl) (by decide) (by decide) (by decide) rfl rfl rfl ?_
  refine z_put (M1 := rn zl225 B) (show ash 94 = (8, 5) from rfl) (by decide) rfl rfl ?_
  exact wp_return ⟨rfl, rfl⟩
theorem zi_39 (B : aM) : Ms 14 92 [(2, ((98 : Nat) : Int))] (rn zl227 B, (99, 99, 2095)) (none) (rn zl233 B, (102, 102, 2105)) := by
  refine Ms.of ?_
  show Wp 14 92 0 [] [(2, ((98 : Nat) : Int))] [] (rn zl227 B, (99, 99, 2095)) _
  refine y_blk (t := 0) rfl (show fnd bk_X8_init 0 = some _ from rfl) aB_X8_init ?_
  refine wp_aload_n (v := ((98 : Nat) : Int)) rfl (Int.natCast_nonneg _) ?_
  refine wp_objInit ⟨by decide, Nat.le_of_ble_eq_true rfl, rfl, Int.natCast_nonneg _⟩ ?_
  refine wp_aload_n (v := ((98 : Nat) : Int)) rfl (Int.natCast_nonneg _) ?_
  refine wp_iconst ⟨by decide, by decide⟩ ?_
  refine z_newarray (n := 3) (M1 := rn zl228 B) (T1 := (100, 100, 2098)) (show ash 99 = (100, 3) from rfl) (by decide) (by decide) (by decide) rfl rfl rfl ?_
  refine z_put (M1 := rn zl229 B) (show ash 98 = (8, 5) from rfl) (by decide) rfl rfl ?_
  refine wp_aload_n (v := ((98 : Nat) : Int)) rfl (Int.natCast_nonneg _) ?_
  refine wp_iconst ⟨by decide, by decide⟩ ?_
  refine z_newarray (n := 3) (M1 := rn zl230 B) (T1 := (101, 101, 2101)) (show ash 100 = (100, 3) from rfl) (by decide) (by decide) (by decide) rfl rfl rfl ?_
  refine z_put (M1 := rn zl231 B) (show ash 98 = (8, 5) from rfl) (by decide) rfl rfl ?_
  refine wp_aload_n (v := ((98 : Nat) : Int)) rfl (Int.natCast_nonneg _) ?_
  refine wp_iconst ⟨by decide, by decide⟩ ?_
  refine z_newarray (n := 4) (M1 := rn zl232 B) (T1 := (102, 102, 2105)) (show ash 101 = (100, 4) from rfl) (by decide) (by decide) (by decide) rfl rfl rfl ?_
  refine z_put (M1 := rn zl233 B) (show ash 98 = (8, 5) from rfl) (by decide) rfl rfl ?_
  exact wp_return ⟨rfl, rfl⟩
theorem zi_40 (B : aM) : Ms 14 92 [(2, ((102 : Nat) : Int))] (rn zl235 B, (103, 103, 2110)) (none) (rn zl241 B, (106, 106, 2120)) := by
  refine Ms.of ?_
  show Wp 14 92 0 [] [(2, ((102 : Nat) : Int))] [] (rn zl235 B, (103, 103, 2110)) _
  refine y_blk (t := 0) rfl (show fnd bk_X8_init 0 = some _ from rfl) aB_X8_init ?_
  refine wp_aload_n (v := ((102 : Nat) : Int)) rfl (Int.natCast_nonneg _) ?_
  refine wp_objInit ⟨by decide, Nat.le_of_ble_eq_true rfl, rfl, Int.natCast_nonneg _⟩ ?_
  refine wp_aload_n (v := ((102 : Nat) : Int)) rfl (Int.natCast_nonneg _) ?_
  refine wp_iconst ⟨by decide, by decide⟩ ?_
  refine z_newarray (n := 3) (M1 := rn zl236 B) (T1 := (104, 104, 2113)) (show ash 103 = (100, 3) from rfl) (by decide) (by decide) (by decide) rfl rfl rfl ?_
  refine z_put (M1 := rn zl237 B) (show ash 102 = (8, 5) from rfl) (by decide) rfl rfl ?_
  refine wp_aload_n (v := ((102 : Nat) : Int)) rfl (Int.natCast_nonneg _) ?_
  refine wp_iconst ⟨by decide, by decide⟩ ?_
  refine z_newarray (n := 3) (M1 := rn zl238 B) (T1 := (105, 105, 2116)) (show ash 104 = (100, 3) from rfl) (by decide) (by decide) (by decide) rfl rfl rfl ?_
  refine z_put (M1 := rn zl239 B) (show ash 102 = (8, 5) from rfl) (by decide) rfl rfl ?_
  refine wp_aload_n (v := ((102 : Nat) : Int)) rfl (Int.natCast_nonneg _) ?_
  refine wp_iconst ⟨by decide, by decide⟩ ?_
  refine z_newarray (n := 4) (M1 := rn zl240 B) (T1 := (106, 106, 2120)) (show ash 105 = (100, 4) from rfl) (by decide) (by decide) (by decide) rfl rfl rfl ?_
  refine z_put (M1 := rn zl241 B) (show ash 102 = (8, 5) from rfl) (by decide) rfl rfl ?_
  exact wp_return ⟨rfl, rfl⟩
theorem zi_41 (B : aM) : Ms 14 92 [(2, ((106 : Nat) : Int))] (rn zl243 B, (107, 107, 2125)) (none) (rn zl249 B, (110, 110, 2135)) := by
  refine Ms.of ?_
  show Wp 14 92 0 [] [(2, ((106 : Nat) : Int))] [] (rn zl243 B, (107, 107, 2125)) _
  refine y_blk (t := 0) rfl (show fnd bk_X8_init 0 = some _ from rfl) aB_X8_init ?_
  refine wp_aload_n (v := ((106 : Nat) : Int)) rfl (Int.natCast_nonneg _) ?_
  refine wp_objInit ⟨by decide, Nat.le_of_ble_eq_true rfl, rfl, Int.natCast_nonneg _⟩ ?_
  refine wp_aload_n (v := ((106 : Nat) : Int)) rfl (Int.natCast_nonneg _) ?_
  refine wp_iconst ⟨by decide, by decide⟩ ?_
  refine z_newarray (n := 3) (M1 := rn zl244 B) (T1 := (108, 108, 2128)) (show ash 107 = (100, 3) from rfl) (by decide) (by decide) (by decide) rfl rfl rfl ?_
  refine z_put (M1 := rn zl245 B) (show ash 106 = (8, 5) from rfl) (by decide) rfl rfl ?_
  refine wp_aload_n (v := ((106 : Nat) : Int)) rfl (Int.natCast_nonneg _) ?_
  refine wp_iconst ⟨by decide, by decide⟩ ?_
  refine z_newarray (n := 3) (M1 := rn zl246 B) (T1 := (109, 109, 2131)) (show ash 108 = (100, 3) from rfl) (by decide) (by decide) (by decide) rfl rfl rfl ?_
  refine z_put (M1 := rn zl247 B) (show ash 106 = (8, 5) from rfl) (by decide) rfl rfl ?_
  refine wp_aload_n (v := ((106 : Nat) : Int)) rfl (Int.natCast_nonneg _) ?_
  refine wp_iconst ⟨by decide, by decide⟩ ?_
  refine z_newarray (n := 4) (M1 := rn zl248 B) (T1 := (110, 110, 2135)) (show ash 109 = (100, 4) from rfl) (by decide) (by decide) (by decide) rfl rfl rfl ?_
  refine z_put (M1 := rn zl249 B) (show ash 106 = (8, 5) from rfl) (by decide) rfl rfl ?_
  exact wp_return ⟨rfl, rfl⟩
theorem zi_42 (B : aM) : Ms 14 92 [(2, ((110 : Nat) : Int))] (rn zl251 B, (111, 111, 2140)) (none) (rn zl257 B, (114, 114, 2150)) := by
  refine Ms.of ?_
  show Wp 14 92 0 [] [(2, ((110 : Nat) : Int))] [] (rn zl251 B, (111, 111, 2140)) _
  refine y_blk (t := 0) rfl (show fnd bk_X8_init 0 = some _ from rfl) aB_X8_init ?_
  refine wp_aload_n (v := ((110 : Nat) : Int)) rfl (Int.natCast_nonneg _) ?_
  refine wp_objInit ⟨by decide, Nat.le_of_ble_eq_true rfl, rfl, Int.natCast_nonneg _⟩ ?_
  refine wp_aload_n (v := ((110 : Nat) : Int)) rfl (Int.natCast_nonneg _) ?_
  refine wp_iconst ⟨by decide, by decide⟩ ?_
  refine z_newarray (n := 3) (M1 := rn zl252 B) (T1 := (112, 112, 2143)) (show ash 111 = (100, 3) from rfl) (by decide) (by decide) (by decide) rfl rfl rfl ?_
  refine z_put (M1 := rn zl253 B) (show ash 110 = (8, 5) from rfl) (by decide) rfl rfl ?_
  refine wp_aload_n (v := ((110 : Nat) : Int)) rfl (Int.natCast_nonneg _) ?_
  refine wp_iconst ⟨by decide, by decide⟩ ?_
  refine z_newarray (n := 3) (M1 := rn zl254 B) (T1 := (113, 113, 2146)) (show ash 112 = (100, 3) from rfl) (by decide) (by decide) (by decide) rfl rfl rfl ?_
  refine z_put (M1 := rn zl255 B) (show ash 110 = (8, 5) from rfl) (by decide) rfl rfl ?_
  refine wp_aload_n (v := ((110 : Nat) : Int)) rfl (Int.natCast_nonneg _) ?_
  refine wp_iconst ⟨by decide, by decide⟩ ?_
  refine z_newarray (n := 4) (M1 := rn zl256 B) (T1 := (114, 114, 2150)) (show ash 113 = (100, 4) from rfl) (by decide) (by decide) (by decide) rfl rfl rfl ?_
  refine z_put (M1 := rn zl257 B) (show ash 110 = (8, 5) from rfl) (by decide) rfl rfl ?_
  exact wp_return ⟨rfl, rfl⟩
theorem zi_43 (B : aM) : Ms 14 92 [(2, ((114 : Nat) : Int))] (rn zl259 B, (115, 115, 2155)) (none) (rn zl265 B, (118, 118, 2165)) := by
  refine Ms.of ?_
  show Wp 14 92 0 [] [(2, ((114 : Nat) : Int))] [] (rn zl259 B, (115, 115, 2155)) _
  refine y_blk (t := 0) rfl (show fnd bk_X8_init 0 = some _ from rfl) aB_X8_init ?_
  refine wp_aload_n (v := ((114 : Nat) : Int)) rfl (Int.natCast_nonneg _) ?_
  refine wp_objInit ⟨by decide, Nat.le_of_ble_eq_true rfl, rfl, Int.natCast_nonneg _⟩ ?_
  refine wp_aload_n (v := ((114 : Nat) : Int)) rfl (Int.natCast_nonneg _) ?_
  refine wp_iconst ⟨by decide, by decide⟩ ?_
  refine z_newarray (n := 3) (M1 := rn zl260 B) (T1 := (116, 116, 2158)) (show ash 115 = (100, 3) from rfl) (by decide) (by decide) (by decide) rfl rfl rfl ?_
  refine z_put (M1 := rn zl261 B) (show ash 114 = (8, 5) from rfl) (by decide) rfl rfl ?_
  refine wp_aload_n (v := ((114 : Nat) : Int)) rfl (Int.natCast_nonneg _) ?_
  refine wp_iconst ⟨by decide, by decide⟩ ?_
  refine z_newarray (n := 3) (M1 := rn zl262 B) (T1 := (117, 117, 2161)) (show ash 116 = (100, 3) from rfl) (by decide) (by decide) (by decide) rfl rfl rfl ?_
  refine z_put (M1 := rn zl263 B) (show ash 114 = (8, 5) from rfl) (by decide) rfl rfl ?_
  refine wp_aload_n (v := ((114 : Nat) : Int)) rfl (Int.natCast_nonneg _) ?_
  refine wp_iconst ⟨by decide, by decide⟩ ?_
  refine z_newarray (n := 4) (M1 := rn zl264 B) (T1 := (118, 118, 2165)) (show ash 117 = (100, 4) from rfl) (by decide) (by decide) (by decide) rfl rfl rfl ?_
  refine z_put (M1 := rn zl265 B) (show ash 114 = (8, 5) from rfl) (by decide) rfl rfl ?_
  exact wp_return ⟨rfl, rfl⟩
theorem zi_44 (B : aM) : Ms 14 92 [(2, ((118 : Nat) : Int))] (rn zl267 B, (119, 119, 2170)) (none) (rn zl273 B, (122, 122, 2180)) := by
  refine Ms.of ?_
  show Wp 14 92 0 [] [(2, ((118 : Nat) : Int))] [] (rn zl267 B, (119, 119, 2170)) _
  refine y_blk (t := 0) rfl (show fnd bk_X8_init 0 = some _ from rfl) aB_X8_init ?_
  refine wp_aload_n (v := ((118 : Nat) : Int)) rfl (Int.natCast_nonneg _) ?_
  refine wp_objInit ⟨by decide, Nat.le_of_ble_eq_true rfl, rfl, Int.natCast_nonneg _⟩ ?_
  refine wp_aload_n (v := ((118 : Nat) : Int)) rfl (Int.natCast_nonneg _) ?_
  refine wp_iconst ⟨by decide, by decide⟩ ?_
  refine z_newarray (n := 3) (M1 := rn zl268 B) (T1 := (120, 120, 2173)) (show ash 119 = (100, 3) from rfl) (by decide) (by decide) (by decide) rfl rfl rfl ?_
  refine z_put (M1 := rn zl269 B) (show ash 118 = (8, 5) from rfl) (by decide) rfl rfl ?_
  refine wp_aload_n (v := ((118 : Nat) : Int)) rfl (Int.natCast_nonneg _) ?_
  refine wp_iconst ⟨by decide, by decide⟩ ?_
  refine z_newarray (n := 3) (M1 := rn zl270 B) (T1 := (121, 121, 2176)) (show ash 120 = (100, 3) from rfl) (by decide) (by decide) (by decide) rfl rfl rfl ?_
  refine z_put (M1 := rn zl271 B) (show ash 118 = (8, 5) from rfl) (by decide) rfl rfl ?_
  refine wp_aload_n (v := ((118 : Nat) : Int)) rfl (Int.natCast_nonneg _) ?_
  refine wp_iconst ⟨by decide, by decide⟩ ?_
  refine z_newarray (n := 4) (M1 := rn zl272 B) (T1 := (122, 122, 2180)) (show ash 121 = (100, 4) from rfl) (by decide) (by decide) (by decide) rfl rfl rfl ?_
  refine z_put (M1 := rn zl273 B) (show ash 118 = (8, 5) from rfl) (by decide) rfl rfl ?_
  exact wp_return ⟨rfl, rfl⟩
theorem zi_45 (B : aM) : Ms 14 92 [(2, ((122 : Nat) : Int))] (rn zl275 B, (123, 123, 2185)) (none) (rn zl281 B, (126, 126, 2195)) := by
  refine Ms.of ?_
  show Wp 14 92 0 [] [(2, ((122 : Nat) : Int))] [] (rn zl275 B, (123, 123, 2185)) _
  refine y_blk (t := 0) rfl (show fnd bk_X8_init 0 = some _ from rfl) aB_X8_init ?_
  refine wp_aload_n (v := ((122 : Nat) : Int)) rfl (Int.natCast_nonneg _) ?_
  refine wp_objInit ⟨by decide, Nat.le_of_ble_eq_true rfl, rfl, Int.natCast_nonneg _⟩ ?_
  refine wp_aload_n (v := ((122 : Nat) : Int)) rfl (Int.natCast_nonneg _) ?_
  refine wp_iconst ⟨by decide, by decide⟩ ?_
  refine z_newarray (n := 3) (M1 := rn zl276 B) (T1 := (124, 124, 2188)) (show ash 123 = (100, 3) from rfl) (by decide) (by decide) (by decide) rfl rfl rfl ?_
  refine z_put (M1 := rn zl277 B) (show ash 122 = (8, 5) from rfl) (by decide) rfl rfl ?_
  refine wp_aload_n (v := ((122 : Nat) : Int)) rfl (Int.natCast_nonneg _) ?_
  refine wp_iconst ⟨by decide, by decide⟩ ?_
  refine z_newarray (n := 3) (M1 := rn zl278 B) (T1 := (125, 125, 2191)) (show ash 124 = (100, 3) from rfl) (by decide) (by decide) (by decide) rfl rfl rfl ?_
  refine z_put (M1 := rn zl279 B) (show ash 122 = (8, 5) from rfl) (by decide) rfl rfl ?_
  refine wp_aload_n (v := ((122 : Nat) : Int)) rfl (Int.natCast_nonneg _) ?_
  refine wp_iconst ⟨by decide, by decide⟩ ?_
  refine z_newarray (n := 4) (M1 := rn zl280 B) (T1 := (126, 126, 2195)) (show ash 125 = (100, 4) from rfl) (by decide) (by decide) (by decide) rfl rfl rfl ?_
  refine z_put (M1 := rn zl281 B) (show ash 122 = (8, 5) from rfl) (by decide) rfl rfl ?_
  exact wp_return ⟨rfl, rfl⟩
theorem zi_46 (B : aM) : Ms 14 92 [(2, ((126 : Nat) : Int))] (rn zl283 B, (127, 127, 2200)) (none) (rn zl289 B, (130, 130, 2210)) := by
  refine Ms.of ?_
  show Wp 14 92 0 [] [(2, ((126 : Nat) : Int))] [] (rn zl283 B, (127, 127, 2200)) _
  refine y_blk (t := 0) rfl (show fnd bk_X8_init 0 = some _ from rfl) aB_X8_init ?_
  refine wp_aload_n (v := ((126 : Nat) : Int)) rfl (Int.natCast_nonneg _) ?_
  refine wp_objInit ⟨by decide, Nat.le_of_ble_eq_true rfl, rfl, Int.natCast_nonneg _⟩ ?_
  refine wp_aload_n (v := ((126 : Nat) : Int)) rfl (Int.natCast_nonneg _) ?_
  refine wp_iconst ⟨by decide, by decide⟩ ?_
  refine z_newarray (n := 3) (M1 := rn zl284 B) (T1 := (128, 128, 2203)) (show ash 127 = (100, 3) from rfl) (by decide) (by decide) (by decide) rfl rfl rfl ?_
  refine z_put (M1 := rn zl285 B) (show ash 126 = (8, 5) from rfl) (by decide) rfl rfl ?_
  refine wp_aload_n (v := ((126 : Nat) : Int)) rfl (Int.natCast_nonneg _) ?_
  refine wp_iconst ⟨by decide, by decide⟩ ?_
  refine z_newarray (n := 3) (M1 := rn zl286 B) (T1 := (129, 129, 2206)) (show ash 128 = (100, 3) from rfl) (by decide) (by decide) (by decide) rfl rfl rfl ?_
  refine z_put (M1 := rn zl287 B) (show ash 126 = (8, 5) from rfl) (by decide) rfl rfl ?_
  refine wp_aload_n (v := ((126 : Nat) : Int)) rfl (Int.natCast_nonneg _) ?_
  refine wp_iconst ⟨by decide, by decide⟩ ?_
  refine z_newarray (n := 4) (M1 := rn zl288 B) (T1 := (130, 130, 2210)) (show ash 129 = (100, 4) from rfl) (by decide) (by decide) (by decide) rfl rfl rfl ?_
  refine z_put (M1 := rn zl289 B) (show ash 126 = (8, 5) from rfl) (by decide) rfl rfl ?_
  exact wp_return ⟨rfl, rfl⟩
theorem zi_47 (B : aM) : Ms 14 92 [(2, ((130 : Nat) : Int))] (rn zl291 B, (131, 131, 2215)) (none) (rn zl297 B, (134, 134, 2225)) := by
  refine Ms.of ?_
  show Wp 14 92 0 [] [(2, ((130 : Nat) : Int))] [] (rn zl291 B, (131, 131, 2215)) _
  refine y_blk (t := 0) rfl (show fnd bk_X8_init 0 = some _ from rfl) aB_X8_init ?_
  refine wp_aload_n (v := ((130 : Nat) : Int)) rfl (Int.natCast_nonneg _) ?_
  refine wp_objInit ⟨by decide, Nat.le_of_ble_eq_true rfl, rfl, Int.natCast_nonneg _⟩ ?_
  refine wp_aload_n (v := ((130 : Nat) : Int)) rfl (Int.natCast_nonneg _) ?_
  refine wp_iconst ⟨by decide, by decide⟩ ?_
  refine z_newarray (n := 3) (M1 := rn zl292 B) (T1 := (132, 132, 2218)) (show ash 131 = (100, 3) from rfl) (by decide) (by decide) (by decide) rfl rfl rfl ?_
  refine z_put (M1 := rn zl293 B) (show ash 130 = (8, 5) from rfl) (by decide) rfl rfl ?_
  refine wp_aload_n (v := ((130 : Nat) : Int)) rfl (Int.natCast_nonneg _) ?_
  refine wp_iconst ⟨by decide, by decide⟩ ?_
  refine z_newarray (n := 3) (M1 := rn zl294 B) (T1 := (133, 133, 2221)) (show ash 132 = (100, 3) from rfl) (by decide) (by decide) (by decide) rfl rfl rfl ?_
  refine z_put (M1 := rn zl295 B) (show ash 130 = (8, 5) from rfl) (by decide) rfl rfl ?_
  refine wp_aload_n (v := ((130 : Nat) : Int)) rfl (Int.natCast_nonneg _) ?_
  refine wp_iconst ⟨by decide, by decide⟩ ?_
  refine z_newarray (n := 4) (M1 := rn zl296 B) (T1 := (134, 134, 2225)) (show ash 133 = (100, 4) from rfl) (by decide) (by decide) (by decide) rfl rfl rfl ?_
  refine z_put (M1 := rn zl297 B) (show ash 130 = (8, 5) from rfl) (by decide) rfl rfl ?_
  exact wp_return ⟨rfl, rfl⟩
theorem zi_48 (B : aM) : Ms 14 92 [(2, ((134 : Nat) : Int))] (rn zl299 B, (135, 135, 2230)) (none) (rn zl305 B, (138, 138, 2240)) := by
  refine Ms.of ?_
  show Wp 14 92 0 [] [(2, ((134 : Nat) : Int))] [] (rn zl299 B, (135, 135, 2230)) _
  refine y_blk (t := 0) rfl (show fnd bk_X8_init 0 = some _ from rfl) aB_X8_init ?_
  refine wp_aload_n (v := ((134 : Nat) : Int)) rfl (Int.natCast_nonneg _) ?_
  refine wp_objInit ⟨by decide, Nat.le_of_ble_eq_true rfl, rfl, Int.natCast_nonneg _⟩ ?_
  refine wp_aload_n (v := ((134 : Nat) : Int)) rfl (Int.natCast_nonneg _) ?_
  refine wp_iconst ⟨by decide, by decide⟩ ?_
  refine z_newarray (n := 3) (M1 := rn zl300 B) (T1 := (136, 136, 2233)) (show ash 135 = (100, 3) from rfl) (by decide) (by decide) (by decide) rfl rfl rfl ?_
  refine z_put (M1 := rn zl301 B) (show ash 134 = (8, 5) from rfl) (by decide) rfl rfl ?_
  refine wp_aload_n (v := ((134 : Nat) : Int)) rfl (Int.natCast_nonneg _) ?_
  refine wp_iconst ⟨by decide, by decide⟩ ?_
  refine z_newarray (n := 3) (M1 := rn zl302 B) (T1 := (137, 137, 2236)) (show ash 136 = (100, 3) from rfl) (by decide) (by decide) (by decide) rfl rfl rfl ?_
  refine z_put (M1 := rn zl303 B) (show ash 134 = (8, 5) from rfl) (by decide) rfl rfl ?_
  refine wp_aload_n (v := ((134 : Nat) : Int)) rfl (Int.natCast_nonneg _) ?_
  refine wp_iconst ⟨by decide, by decide⟩ ?_
  refine z_newarray (n := 4) (M1 := rn zl304 B) (T1 := (138, 138, 2240)) (show ash 137 = (100, 4) from rfl) (by decide) (by decide) (by decide) rfl rfl rfl ?_
  refine z_put (M1 := rn zl305 B) (show ash 134 = (8, 5) from rfl) (by decide) rfl rfl ?_
  exact wp_return ⟨rfl, rfl⟩
theorem zi_49 (B : aM) : Ms 15 41 [(2, ((59 : Nat) : Int))] (rn zl150 B, (60, 60, 1936)) (none) (rn zl306 B, (138, 138, 2240)) := by
  refine Ms.of ?_
  show Wp 15 41 0 [] [(2, ((59 : Nat) : Int)), (9, 0)] [] (rn zl150 B, (60, 60, 1936)) _
  refine y_blk (t := 0) rfl (show fnd bk_X4_init 0 = some _ from rfl) aB_X4_init ?_
  refine wp_aload_n (v := ((59 : Nat) : Int)) rfl (Int.natCast_nonneg _) ?_
  refine wp_objInit ⟨by decide, Nat.le_of_ble_eq_true rfl, rfl, Int.natCast_nonneg _⟩ ?_
  refine wp_aload_n (v := ((59 : Nat) : Int)) rfl (Int.natCast_nonneg _) ?_
  refine wp_bipush (by decide) ?_
  refine z_anewarray (n := 16) (M1 := rn zl151 B) (T1 := (61, 61, 1952)) (show ash 60 = (103, 16) from rfl) (by decide) (by decide) rfl rfl rfl ?_
  refine z_put (M1 := rn zl152 B) (show ash 59 = (4, 5) from rfl) (by decide) rfl rfl ?_
  refine wp_aload_n (v := ((59 : Nat) : Int)) rfl (Int.natCast_nonneg _) ?_
  refine wp_iconst ⟨by decide, by decide⟩ ?_
  refine z_anewarray (n := 3) (M1 := rn zl153 B) (T1 := (62, 62, 1955)) (show ash 61 = (103, 3) from rfl) (by decide) (by decide) rfl rfl rfl ?_
  refine z_put (M1 := rn zl154 B) (show ash 59 = (4, 5) from rfl) (by decide) rfl rfl ?_
  refine wp_iconst ⟨by decide, by decide⟩ ?_
  refine y_stn (L1 := [(2, ((59 : Nat) : Int)), (0, 0)]) (Nat.le_of_ble_eq_true rfl) rfl ?_
  refine y_blk (t := 23) rfl (show fnd bk_X4_init 23 = some _ from rfl) aB_X4_init ?_
  refine wp_iload_n (v := 0) rfl ?_
  refine wp_bipush (by decide) ?_
  refine wp_icmp_ge (fun c => absurd c (by decide)) (fun _ => ?_)
  refine wp_aload_n (v := ((59 : Nat) : Int)) rfl (Int.natCast_nonneg _) ?_
  refine y_get (show ash 59 = (4, 5) from rfl) (by decide) (v := ((60 : Nat) : Int)) (zlk_ok (by decide +kernel)) rfl ?_
  refine wp_iload_n (v := 0) rfl ?_
  refine y_new (M1 := rn zl155 B) (T1 := (63, 63, 1960)) (show ash 62 = (8, 5) from rfl) (by decide) (by decide) rfl rfl ?_
  refine wp_dup (Or.inr rfl) ?_
  refine y_callM (as := [(2, ((62 : Nat) : Int))]) (S1 := [(2, ((62 : Nat) : Int)), (0, 0), (2, ((60 : Nat) : Int))]) (d1 := 14) rfl (zi_30 B) (fun z hz => by cases hz) rfl (Nat.le_of_ble_eq_true rfl) rfl (Nat.le_of_ble_eq_true rfl) rfl ?_
  refine z_aastore (M1 := rn zl162 B) (show ash 60 = (103, 16) from rfl) (by decide) ⟨by decide, by decide⟩ (show ash 62 = (8, 5) from rfl) (by decide) rfl ?_
  refine y_iinc (L1 := [(2, ((59 : Nat) : Int)), (0, 1)]) rfl (Nat.le_of_ble_eq_true rfl) ⟨by decide, by decide⟩ ⟨by decide, by decide⟩ rfl ?_
  refine wp_goto ?_
  refine y_blk (t := 23) rfl (show fnd bk_X4_init 23 = some _ from rfl) aB_X4_init ?_
  refine wp_iload_n (v := 1) rfl ?_
  refine wp_bipush (by decide) ?_
  refine wp_icmp_ge (fun c => absurd c (by decide)) (fun _ => ?_)
  refine wp_aload_n (v := ((59 : Nat) : Int)) rfl (Int.natCast_nonneg _) ?_
  refine y_get (show ash 59 = (4, 5) from rfl) (by decide) (v := ((60 : Nat) : Int)) (zlk_ok (by decide +kernel)) rfl ?_
  refine wp_iload_n (v := 1) rfl ?_
  refine y_new (M1 := rn zl163 B) (T1 := (67, 67, 1975)) (show ash 66 = (8, 5) from rfl) (by decide) (by decide) rfl rfl ?_
  refine wp_dup (Or.inr rfl) ?_
  refine y_callM (as := [(2, ((66 : Nat) : Int))]) (S1 := [(2, ((66 : Nat) : Int)), (0, 1), (2, ((60 : Nat) : Int))]) (d1 := 14) rfl (zi_31 B) (fun z hz => by cases hz) rfl (Nat.le_of_ble_eq_true rfl) rfl (Nat.le_of_ble_eq_true rfl) rfl ?_
  refine z_aastore (M1 := rn zl170 B) (show ash 60 = (103, 16) from rfl) (by decide) ⟨by decide, by decide⟩ (show ash 66 = (8, 5) from rfl) (by decide) rfl ?_
  refine y_iinc (L1 := [(2, ((59 : Nat) : Int)), (0, 2)]) rfl (Nat.le_of_ble_eq_true rfl) ⟨by decide, by decide⟩ ⟨by decide, by decide⟩ rfl ?_
  refine wp_goto ?_
  refine y_blk (t := 23) rfl (show fnd bk_X4_init 23 = some _ from rfl) aB_X4_init ?_
  refine wp_iload_n (v := 2) rfl ?_
  refine wp_bipush (by decide) ?_
  refine wp_icmp_ge (fun c => absurd c (by decide)) (fun _ => ?_)
  refine wp_aload_n (v := ((59 : Nat) : Int)) rfl (Int.natCast_nonneg _) ?_
  refine y_get (show ash 59 = (4, 5) from rfl) (by decide) (v := ((60 : Nat) : Int)) (zlk_ok (by decide +kernel)) rfl ?_
  refine wp_iload_n (v := 2) rfl ?_
  refine y_new (M1 := rn zl171 B) (T1 := (71, 71, 1990)) (show ash 70 = (8, 5) from rfl) (by decide) (by decide) rfl rfl ?_
  refine wp_dup (Or.inr rfl) ?_
  refine y_callM (as := [(2, ((70 : Nat) : Int))]) (S1 := [(2, ((70 : Nat) : Int)), (0, 2), (2, ((60 : Nat) : Int))]) (d1 := 14) rfl (zi_32 B) (fun z hz => by cases hz) rfl (Nat.le_of_ble_eq_true rfl) rfl (Nat.le_of_ble_eq_true rfl) rfl ?_
  refine z_aastore (M1 := rn zl178 B) (show ash 60 = (103, 16) from rfl) (by decide) ⟨by decide, by decide⟩ (show ash 70 = (8, 5) from rfl) (by decide) rfl ?_
  refine y_iinc (L1 := [(2, ((59 : Nat) : Int)), (0, 3)]) rfl (Nat.le_of_ble_eq_true rfl) ⟨by decide, by decide⟩ ⟨by decide, by decide⟩ rfl ?_
  refine wp_goto ?_
  refine y_blk (t := 23) rfl (show fnd bk_X4_init 23 = some _ from rfl) aB_X4_init ?_
  refine wp_iload_n (v := 3) rfl ?_
  refine wp_bipush (by decide) ?_
  refine wp_icmp_ge (fun c => absurd c (by decide)) (fun _ => ?_)
  refine wp_aload_n (v := ((59 : Nat) : Int)) rfl (Int.natCast_nonneg _) ?_
  refine y_get (show ash 59 = (4, 5) from rfl) (by decide) (v := ((60 : Nat) : Int)) (zlk_ok (by decide +kernel)) rfl ?_
  refine wp_iload_n (v := 3) rfl ?_
  refine y_new (M1 := rn zl179 B) (T1 := (75, 75, 2005)) (show ash 74 = (8, 5) from rfl) (by decide) (by decide) rfl rfl ?_
  refine wp_dup (Or.inr rfl) ?_
  refine y_callM (as := [(2, ((74 : Nat) : Int))]) (S1 := [(2, ((74 : Nat) : Int)), (0, 3), (2, ((60 : Nat) : Int))]) (d1 := 14) rfl (zi_33 B) (fun z hz => by cases hz) rfl (Nat.le_of_ble_eq_true rfl) rfl (Nat.le_of_ble_eq_true rfl) rfl ?_
  refine z_aastore (M1 := rn zl186 B) (show ash 60 = (103, 16) from rfl) (by decide) ⟨by decide, by decide⟩ (show ash 74 = (8, 5) from rfl) (by decide) rfl ?_
  refine y_iinc (L1 := [(2, ((59 : Nat) : Int)), (0, 4)]) rfl (Nat.le_of_ble_eq_true rfl) ⟨by decide, by decide⟩ ⟨by decide, by decide⟩ rfl ?_
  refine wp_goto ?_
  refine y_blk (t := 23) rfl (show fnd bk_X4_init 23 = some _ from rfl) aB_X4_init ?_
  refine wp_iload_n (v := 4) rfl ?_
  refine wp_bipush (by decide) ?_
  refine wp_icmp_ge (fun c => absurd c (by decide)) (fun _ => ?_)
  refine wp_aload_n (v := ((59 : Nat) : Int)) rfl (Int.natCast_nonneg _) ?_
  refine y_get (show ash 59 = (4, 5) from rfl) (by decide) (v := ((60 : Nat) : Int)) (zlk_ok (by decide +kernel)) rfl ?_
  refine wp_iload_n (v := 4) rfl ?_
  refine y_new (M1 := rn zl187 B) (T1 := (79, 79, 2020)) (show ash 78 = (8, 5) from rfl) (by decide) (by decide) rfl rfl ?_
  refine wp_dup (Or.inr rfl) ?_
  refine y_callM (as := [(2, ((78 : Nat) : Int))]) (S1 := [(2, ((78 : Nat) : Int)), (0, 4), (2, ((60 : Nat) : Int))]) (d1 := 14) rfl (zi_34 B) (fun z hz => by cases hz) rfl (Nat.le_of_ble_eq_true rfl) rfl (Nat.le_of_ble_eq_true rfl) rfl ?_
  refine z_aastore (M1 := rn zl194 B) (show ash 60 = (103, 16) from rfl) (by decide) ⟨by decide, by decide⟩ (show ash 78 = (8, 5) from rfl) (by decide) rfl ?_
  refine y_iinc (L1 := [(2, ((59 : Nat) : Int)), (0, 5)]) rfl (Nat.le_of_ble_eq_true rfl) ⟨by decide, by decide⟩ ⟨by decide, by decide⟩ rfl ?_
  refine wp_goto ?_
  refine y_blk (t := 23) rfl (show fnd bk_X4_init 23 = some _ from rfl) aB_X4_init ?_
  refine wp_iload_n (v := 5) rfl ?_
  refine wp_bipush (by decide) ?_
  refine wp_icmp_ge (fun c => absurd c (by decide)) (fun _ => ?_)
  refine wp_aload_n (v := ((59 : Nat) : Int)) rfl (Int.natCast_nonneg _) ?_
  refine y_get (show ash 59 = (4, 5) from rfl) (by decide) (v := ((60 : Nat) : Int)) (zlk_ok (by decide +kernel)) rfl ?_
  refine wp_iload_n (v := 5) rfl ?_
  refine y_new (M1 := rn zl195 B) (T1 := (83, 83, 2035)) (show ash 82 = (8, 5) from rfl) (by decide) (by decide) rfl rfl ?_
  refine wp_dup (Or.inr rfl) ?_
  refine y_callM (as := [(2, ((82 : Nat) : Int))]) (S1 := [(2, ((82 : Nat) : Int)), (0, 5), (2, ((60 : Nat) : Int))]) (d1 := 14) rfl (zi_35 B) (fun z hz => by cases hz) rfl (Nat.le_of_ble_eq_true rfl) rfl (Nat.le_of_ble_eq_true rfl) rfl ?_
  refine z_aastore (M1 := rn zl202 B) (show ash 60 = (103, 16) from rfl) (by decide) ⟨by decide, by decide⟩ (show ash 82 = (8, 5) from rfl) (by decide) rfl ?_
  refine y_iinc (L1 := [(2, ((59 : Nat) : Int)), (0, 6)]) rfl (Nat.le_of_ble_eq_true rfl) ⟨by decide, by decide⟩ ⟨by decide, by decide⟩ rfl ?_
  refine wp_goto ?_
  refine y_blk (t := 23) rfl (show fnd bk_X4_init 23 = some _ from rfl) aB_X4_init ?_
  refine wp_iload_n (v := 6) rfl ?_
  refine wp_bipush (by decide) ?_
  refine wp_icmp_ge (fun c => absurd c (by decide)) (fun _ => ?_)
  refine wp_aload_n (v := ((59 : Nat) : Int)) rfl (Int.natCast_nonneg _) ?_
  refine y_get (show ash 59 = (4, 5) from rfl) (by decide) (v := ((60 : Nat) : Int)) (zlk_ok (by decide +kernel)) rfl ?_
  refine wp_iload_n (v := 6) rfl ?_
  refine y_new (M1 := rn zl203 B) (T1 := (87, 87, 2050)) (show ash 86 = (8, 5) from rfl) (by decide) (by decide) rfl rfl ?_
  refine wp_dup (Or.inr rfl) ?_
  refine y_callM (as := [(2, ((86 : Nat) : Int))]) (S1 := [(2, ((86 : Nat) : Int)), (0, 6), (2, ((60 : Nat) : Int))]) (d1 := 14) rfl (zi_36 B) (fun z hz => by cases hz) rfl (Nat.le_of_ble_eq_true rfl) rfl (Nat.le_of_ble_eq_true rfl) rfl ?_
  refine z_aastore (M1 := rn zl210 B) (show ash 60 = (103, 16) from rfl) (by decide) ⟨by decide, by decide⟩ (show ash 86 = (8, 5) from rfl) (by decide) rfl ?_
  refine y_iinc (L1 := [(2, ((59 : Nat) : Int)), (0, 7)]) rfl (Nat.le_of_ble_eq_true rfl) ⟨by decide, by decide⟩ ⟨by decide, by decide⟩ rfl ?_
  refine wp_goto ?_
  refine y_blk (t := 23) rfl (show fnd bk_X4_init 23 = some _ from rfl) aB_X4_init ?_
  refine wp_iload_n (v := 7) rfl ?_
  refine wp_bipush (by decide) ?_
  refine wp_icmp_ge (fun c => absurd c (by decide)) (fun _ => ?_)
  refine wp_aload_n (v := ((59 : Nat) : Int)) rfl (Int.natCast_nonneg _) ?_
  refine y_get (show ash 59 = (4, 5) from rfl) (by decide) (v := ((60 : Nat) : Int)) (zlk_ok (by decide +kernel)) rfl ?_
  refine wp_iload_n (v := 7) rfl ?_
  refine y_new (M1 := rn zl211 B) (T1 := (91, 91, 2065)) (show ash 90 = (8, 5) from rfl) (by decide) (by decide) rfl rfl ?_
  refine wp_dup (Or.inr rfl) ?_
  refine y_callM (as := [(2, ((90 : Nat) : Int))]) (S1 := [(2, ((90 : Nat) : Int)), (0, 7), (2, ((60 : Nat) : Int))]) (d1 := 14) rfl (zi_37 B) (fun z hz => by cases hz) rfl (Nat.le_of_ble_eq_true rfl) rfl (Nat.le_of_ble_eq_true rfl) rfl ?_
  refine z_aastore (M1 := rn zl218 B) (show ash 60 = (103, 16) from rfl) (by decide) ⟨by decide, by decide⟩ (show ash 90 = (8, 5) from rfl) (by decide) rfl ?_
  refine y_iinc (L1 := [(2, ((59 : Nat) : Int)), (0, 8)]) rfl (Nat.le_of_ble_eq_true rfl) ⟨by decide, by decide⟩ ⟨by decide, by decide⟩ rfl ?_
  refine wp_goto ?_
  refine y_blk (t := 23) rfl (show fnd bk_X4_init 23 = some _ from rfl) aB_X4_init ?_
  refine wp_iload_n (v := 8) rfl ?_
  refine wp_bipush (by decide) ?_
  refine wp_icmp_ge (fun c => absurd c (by decide)) (fun _ => ?_)
  refine wp_aload_n (v := ((59 : Nat) : Int)) rfl (Int.natCast_nonneg _) ?_
  refine y_get (show ash 59 = (4, 5) from rfl) (by decide) (v := ((60 : Nat) : Int)) (zlk_ok (by decide +kernel)) rfl ?_
  refine wp_iload_n (v := 8) rfl ?_
  refine y_new (M1 := rn zl219 B) (T1 := (95, 95, 2080)) (show ash 94 = (8, 5) from rfl) (by decide) (by decide) rfl rfl ?_
  refine wp_dup (Or.inr rfl) ?_
  refine y_callM (as := [(2, ((94 : Nat) : Int))]) (S1 := [(2, ((94 : Nat) : Int)), (0, 8), (2, ((60 : Nat) : Int))]) (d1 := 14) rfl (zi_38 B) (fun z hz => by cases hz) rfl (Nat.le_of_ble_eq_true rfl) rfl (Nat.le_of_ble_eq_true rfl) rfl ?_
  refine z_aastore (M1 := rn zl226 B) (show ash 60 = (103, 16) from rfl) (by decide) ⟨by decide, by decide⟩ (show ash 94 = (8, 5) from rfl) (by decide) rfl ?_
  refine y_iinc (L1 := [(2, ((59 : Nat) : Int)), (0, 9)]) rfl (Nat.le_of_ble_eq_true rfl) ⟨by decide, by decide⟩ ⟨by decide, by decide⟩ rfl ?_
  refine wp_goto ?_
  refine y_blk (t := 23) rfl (show fnd bk_X4_init 23 = some _ from rfl) aB_X4_init ?_
  refine wp_iload_n (v := 9) rfl ?_
  refine wp_bipush (by decide) ?_
  refine wp_icmp_ge (fun c => absurd c (by decide)) (fun _ => ?_)
  refine wp_aload_n (v := ((59 : Nat) : Int)) rfl (Int.natCast_nonneg _) ?_
  refine y_get (show ash 59 = (4, 5) from rfl) (by decide) (v := ((60 : Nat) : Int)) (zlk_ok (by decide +kernel)) rfl ?_
  refine wp_iload_n (v := 9) rfl ?_
  refine y_new (M1 := rn zl227 B) (T1 := (99, 99, 2095)) (show ash 98 = (8, 5) from rfl) (by decide) (by decide) rfl rfl ?_
  refine wp_dup (Or.inr rfl) ?_
  refine y_callM (as := [(2, ((98 : Nat) : Int))]) (S1 := [(2, ((98 : Nat) : Int)), (0, 9), (2, ((60 : Nat) : Int))]) (d1 := 14) rfl (zi_39 B) (fun z hz => by cases hz) rfl (Nat.le_of_ble_eq_true rfl) rfl (Nat.le_of_ble_eq_true rfl) rfl ?_
  refine z_aastore (M1 := rn zl234 B) (show ash 60 = (103, 16) from rfl) (by decide) ⟨by decide, by decide⟩ (show ash 98 = (8, 5) from rfl) (by decide) rfl ?_
  refine y_iinc (L1 := [(2, ((59 : Nat) : Int)), (0, 10)]) rfl (Nat.le_of_ble_eq_true rfl) ⟨by decide, by decide⟩ ⟨by decide, by decide⟩ rfl ?_
  refine wp_goto ?_
  refine y_blk (t := 23) rfl (show fnd bk_X4_init 23 = some _ from rfl) aB_X4_init ?_
  refine wp_iload_n (v := 10) rfl ?_
  refine wp_bipush (by decide) ?_
  refine wp_icmp_ge (fun c => absurd c (by decide)) (fun _ => ?_)
  refine wp_aload_n (v := ((59 : Nat) : Int)) rfl (Int.natCast_nonneg _) ?_
  refine y_get (show ash 59 = (4, 5) from rfl) (by decide) (v := ((60 : Nat) : Int)) (zlk_ok (by decide +kernel)) rfl ?_
  refine wp_iload_n (v := 10) rfl ?_
  refine y_new (M1 := rn zl235 B) (T1 := (103, 103, 2110)) (show ash 102 = (8, 5) from rfl) (by decide) (by decide) rfl rfl ?_
  refine wp_dup (Or.inr rfl) ?_
  refine y_callM (as := [(2, ((102 : Nat) : Int))]) (S1 := [(2, ((102 : Nat) : Int)), (0, 10), (2, ((60 : Nat) : Int))]) (d1 := 14) rfl (zi_40 B) (fun z hz => by cases hz) rfl (Nat.le_of_ble_eq_true rfl) rfl (Nat.le_of_ble_eq_true rfl) rfl ?_
  refine z_aastore (M1 := rn zl242 B) (show ash 60 = (103, 16) from rfl) (by decide) ⟨by decide, by decide⟩ (show ash 102 = (8, 5) from rfl) (by decide) rfl ?_
  refine y_iinc (L1 := [(2, ((59 : Nat) : Int)), (0, 11)]) rfl (Nat.le_of_ble_eq_true rfl) ⟨by decide, by decide⟩ ⟨by decide, by decide⟩ rfl ?_
  refine wp_goto ?_
  refine y_blk (t := 23) rfl (show fnd bk_X4_init 23 = some _ from rfl) aB_X4_init ?_
  refine wp_iload_n (v := 11) rfl ?_
  refine wp_bipush (by decide) ?_
  refine wp_icmp_ge (fun c => absurd c (by decide)) (fun _ => ?_)
  refine wp_aload_n (v := ((59 : Nat) : Int)) rfl (Int.natCast_nonneg _) ?_
  refine y_get (show ash 59 = (4, 5) from rfl) (by decide) (v := ((60 : Nat) : Int)) (zlk_ok (by decide +kernel)) rfl ?_
  refine wp_iload_n (v := 11) rfl ?_
  refine y_new (M1 := rn zl243 B) (T1 := (107, 107, 2125)) (show ash 106 = (8, 5) from rfl) (by decide) (by decide) rfl rfl ?_
  refine wp_dup (Or.inr rfl) ?_
  refine y_callM (as := [(2, ((106 : Nat) : Int))]) (S1 := [(2, ((106 : Nat) : Int)), (0, 11), (2, ((60 : Nat) : Int))]) (d1 := 14) rfl (zi_41 B) (fun z hz => by cases hz) rfl (Nat.le_of_ble_eq_true rfl) rfl (Nat.le_of_ble_eq_true rfl) rfl ?_
  refine z_aastore (M1 := rn zl250 B) (show ash 60 = (103, 16) from rfl) (by decide) ⟨by decide, by decide⟩ (show ash 106 = (8, 5) from rfl) (by decide) rfl ?_
  refine y_iinc (L1 := [(2, ((59 : Nat) : Int)), (0, 12)]) rfl (Nat.le_of_ble_eq_true rfl) ⟨by decide, by decide⟩ ⟨by decide, by decide⟩ rfl ?_
  refine wp_goto ?_
  refine y_blk (t := 23) rfl (show fnd bk_X4_init 23 = some _ from rfl) aB_X4_init ?_
  refine wp_iload_n (v := 12) rfl ?_
  refine wp_bipush (by decide) ?_
  refine wp_icmp_ge (fun c => absurd c (by decide)) (fun _ => ?_)
  refine wp_aload_n (v := ((59 : Nat) : Int)) rfl (Int.natCast_nonneg _) ?_
  refine y_get (show ash 59 = (4, 5) from rfl) (by decide) (v := ((60 : Nat) : Int)) (zlk_ok (by decide +kernel)) rfl ?_
  refine wp_iload_n (v := 12) rfl ?_
  refine y_new (M1 := rn zl251 B) (T1 := (111, 111, 2140)) (show ash 110 = (8, 5) from rfl) (by decide) (by decide) rfl rfl ?_
  refine wp_dup (Or.inr rfl) ?_
  refine y_callM (as := [(2, ((110 : Nat) : Int))]) (S1 := [(2, ((110 : Nat) : Int)), (0, 12), (2, ((60 : Nat) : Int))]) (d1 := 14) rfl (zi_42 B) (fun z hz => by cases hz) rfl (Nat.le_of_ble_eq_true rfl) rfl (Nat.le_of_ble_eq_true rfl) rfl ?_
  refine z_aastore (M1 := rn zl258 B) (show ash 60 = (103, 16) from rfl) (by decide) ⟨by decide, by decide⟩ (show ash 110 = (8, 5) from rfl) (by decide) rfl ?_
  refine y_iinc (L1 := [(2, ((59 : Nat) : Int)), (0, 13)]) rfl (Nat.le_of_ble_eq_true rfl) ⟨by decide, by decide⟩ ⟨by decide, by decide⟩ rfl ?_
  refine wp_goto ?_
  refine y_blk (t := 23) rfl (show fnd bk_X4_init 23 = some _ from rfl) aB_X4_init ?_
  refine wp_iload_n (v := 13) rfl ?_
  refine wp_bipush (by decide) ?_
  refine wp_icmp_ge (fun c => absurd c (by decide)) (fun _ => ?_)
  refine wp_aload_n (v := ((59 : Nat) : Int)) rfl (Int.natCast_nonneg _) ?_
  refine y_get (show ash 59 = (4, 5) from rfl) (by decide) (v := ((60 : Nat) : Int)) (zlk_ok (by decide +kernel)) rfl ?_
  refine wp_iload_n (v := 13) rfl ?_
  refine y_new (M1 := rn zl259 B) (T1 := (115, 115, 2155)) (show ash 114 = (8, 5) from rfl) (by decide) (by decide) rfl rfl ?_
  refine wp_dup (Or.inr rfl) ?_
  refine y_callM (as := [(2, ((114 : Nat) : Int))]) (S1 := [(2, ((114 : Nat) : Int)), (0, 13), (2, ((60 : Nat) : Int))]) (d1 := 14) rfl (zi_43 B) (fun z hz => by cases hz) rfl (Nat.le_of_ble_eq_true rfl) rfl (Nat.le_of_ble_eq_true rfl) rfl ?_
  refine z_aastore (M1 := rn zl266 B) (show ash 60 = (103, 16) from rfl) (by decide) ⟨by decide, by decide⟩ (show ash 114 = (8, 5) from rfl) (by decide) rfl ?_
  refine y_iinc (L1 := [(2, ((59 : Nat) : Int)), (0, 14)]) rfl (Nat.le_of_ble_eq_true rfl) ⟨by decide, by decide⟩ ⟨by decide, by decide⟩ rfl ?_
  refine wp_goto ?_
  refine y_blk (t := 23) rfl (show fnd bk_X4_init 23 = some _ from rfl) aB_X4_init ?_
  refine wp_iload_n (v := 14) rfl ?_
  refine wp_bipush (by decide) ?_
  refine wp_icmp_ge (fun c => absurd c (by decide)) (fun _ => ?_)
  refine wp_aload_n (v := ((59 : Nat) : Int)) rfl (Int.natCast_nonneg _) ?_
  refine y_get (show ash 59 = (4, 5) from rfl) (by decide) (v := ((60 : Nat) : Int)) (zlk_ok (by decide +kernel)) rfl ?_
  refine wp_iload_n (v := 14) rfl ?_
  refine y_new (M1 := rn zl267 B) (T1 := (119, 119, 2170)) (show ash 118 = (8, 5) from rfl) (by decide) (by decide) rfl rfl ?_
  refine wp_dup (Or.inr rfl) ?_
  refine y_callM (as := [(2, ((118 : Nat) : Int))]) (S1 := [(2, ((118 : Nat) : Int)), (0, 14), (2, ((60 : Nat) : Int))]) (d1 := 14) rfl (zi_44 B) (fun z hz => by cases hz) rfl (Nat.le_of_ble_eq_true rfl) rfl (Nat.le_of_ble_eq_true rfl) rfl ?_
  refine z_aastore (M1 := rn zl274 B) (show ash 60 = (103, 16) from rfl) (by decide) ⟨by decide, by decide⟩ (show ash 118 = (8, 5) from rfl) (by decide) rfl ?_
  refine y_iinc (L1 := [(2, ((59 : Nat) : Int)), (0, 15)]) rfl (Nat.le_of_ble_eq_true rfl) ⟨by decide, by decide⟩ ⟨by decide, by decide⟩ rfl ?_
  refine wp_goto ?_
  refine y_blk (t := 23) rfl (show fnd bk_X4_init 23 = some _ from rfl) aB_X4_init ?_
  refine wp_iload_n (v := 15) rfl ?_
  refine wp_bipush (by decide) ?_
  refine wp_icmp_ge (fun c => absurd c (by decide)) (fun _ => ?_)
  refine wp_aload_n (v := ((59 : Nat) : Int)) rfl (Int.natCast_nonneg _) ?_
  refine y_get (show ash 59 = (4, 5) from rfl) (by decide) (v := ((60 : Nat) : Int)) (zlk_ok (by decide +kernel)) rfl ?_
  refine wp_iload_n (v := 15) rfl ?_
  refine y_new (M1 := rn zl275 B) (T1 := (123, 123, 2185)) (show ash 122 = (8, 5) from rfl) (by decide) (by decide) rfl rfl ?_
  refine wp_dup (Or.inr rfl) ?_
  refine y_callM (as := [(2, ((122 : Nat) : Int))]) (S1 := [(2, ((122 : Nat) : Int)), (0, 15), (2, ((60 : Nat) : Int))]) (d1 := 14) rfl (zi_45 B) (fun z hz => by cases hz) rfl (Nat.le_of_ble_eq_true rfl) rfl (Nat.le_of_ble_eq_true rfl) rfl ?_
  refine z_aastore (M1 := rn zl282 B) (show ash 60 = (103, 16) from rfl) (by decide) ⟨by decide, by decide⟩ (show ash 122 = (8, 5) from rfl) (by decide) rfl ?_
  refine y_iinc (L1 := [(2, ((59 : Nat) : Int)), (0, 16)]) rfl (Nat.le_of_ble_eq_true rfl) ⟨by decide, by decide⟩ ⟨by decide, by decide⟩ rfl ?_
  refine wp_goto ?_
  refine y_blk (t := 23) rfl (show fnd bk_X4_init 23 = some _ from rfl) aB_X4_init ?_
  refine wp_iload_n (v := 16) rfl ?_
  refine wp_bipush (by decide) ?_
  refine wp_icmp_ge (fun _ => ?_) (fun c => absurd (by decide) c)
  refine y_blk (t := 48) rfl (show fnd bk_X4_init 48 = some _ from rfl) aB_X4_init ?_
  refine wp_iconst ⟨by decide, by decide⟩ ?_
  refine y_stn (L1 := [(2, ((59 : Nat) : Int)), (0, 0)]) (Nat.le_of_ble_eq_true rfl) rfl ?_
  refine y_blk (t := 50) rfl (show fnd bk_X4_init 50 = some _ from rfl) aB_X4_init ?_
  refine wp_iload_n (v := 0) rfl ?_
  refine wp_iconst ⟨by decide, by decide⟩ ?_
  refine wp_icmp_ge (fun c => absurd c (by decide)) (fun _ => ?_)
  refine wp_aload_n (v := ((59 : Nat) : Int)) rfl (Int.natCast_nonneg _) ?_
  refine y_get (show ash 59 = (4, 5) from rfl) (by decide) (v := ((61 : Nat) : Int)) (zlk_ok (by decide +kernel)) rfl ?_
  refine wp_iload_n (v := 0) rfl ?_
  refine y_new (M1 := rn zl283 B) (T1 := (127, 127, 2200)) (show ash 126 = (8, 5) from rfl) (by decide) (by decide) rfl rfl ?_
  refine wp_dup (Or.inr rfl) ?_
  refine y_callM (as := [(2, ((126 : Nat) : Int))]) (S1 := [(2, ((126 : Nat) : Int)), (0, 0), (2, ((61 : Nat) : Int))]) (d1 := 14) rfl (zi_46 B) (fun z hz => by cases hz) rfl (Nat.le_of_ble_eq_true rfl) rfl (Nat.le_of_ble_eq_true rfl) rfl ?_
  refine z_aastore (M1 := rn zl290 B) (show ash 61 = (103, 3) from rfl) (by decide) ⟨by decide, by decide⟩ (show ash 126 = (8, 5) from rfl) (by decide) rfl ?_
  refine y_iinc (L1 := [(2, ((59 : Nat) : Int)), (0, 1)]) rfl (Nat.le_of_ble_eq_true rfl) ⟨by decide, by decide⟩ ⟨by decide, by decide⟩ rfl ?_
  refine wp_goto ?_
  refine y_blk (t := 50) rfl (show fnd bk_X4_init 50 = some _ from rfl) aB_X4_init ?_
  refine wp_iload_n (v := 1) rfl ?_
  refine wp_iconst ⟨by decide, by decide⟩ ?_
  refine wp_icmp_ge (fun c => absurd c (by decide)) (fun _ => ?_)
  refine wp_aload_n (v := ((59 : Nat) : Int)) rfl (Int.natCast_nonneg _) ?_
  refine y_get (show ash 59 = (4, 5) from rfl) (by decide) (v := ((61 : Nat) : Int)) (zlk_ok (by decide +kernel)) rfl ?_
  refine wp_iload_n (v := 1) rfl ?_
  refine y_new (M1 := rn zl291 B) (T1 := (131, 131, 2215)) (show ash 130 = (8, 5) from rfl) (by decide) (by decide) rfl rfl ?_
  refine wp_dup (Or.inr rfl) ?_
  refine y_callM (as := [(2, ((130 : Nat) : Int))]) (S1 := [(2, ((130 : Nat) : Int)), (0, 1), (2, ((61 : Nat) : Int))]) (d1 := 14) rfl (zi_47 B) (fun z hz => by cases hz) rfl (Nat.le_of_ble_eq_true rfl) rfl (Nat.le_of_ble_eq_true rfl) rfl ?_
  refine z_aastore (M1 := rn zl298 B) (show ash 61 = (103, 3) from rfl) (by decide) ⟨by decide, by decide⟩ (show ash 130 = (8, 5) from rfl) (by decide) rfl ?_
  refine y_iinc (L1 := [(2, ((59 : Nat) : Int)), (0, 2)]) rfl (Nat.le_of_ble_eq_true rfl) ⟨by decide, by decide⟩ ⟨by decide, by decide⟩ rfl ?_
  refine wp_goto ?_
  refine y_blk (t := 50) rfl (show fnd bk_X4_init 50 = some _ from rfl) aB_X4_init ?_
  refine wp_iload_n (v := 2) rfl ?_
  refine wp_iconst ⟨by decide, by decide⟩ ?_
  refine wp_icmp_ge (fun c => absurd c (by decide)) (fun _ => ?_)
  refine wp_aload_n (v := ((59 : Nat) : Int)) rfl (Int.natCast_nonneg _) ?_
  refine y_get (show ash 59 = (4, 5) from rfl) (by decide) (v := ((61 : Nat) : Int)) (zlk_ok (by decide +kernel)) rfl ?_
  refine wp_iload_n (v := 2) rfl ?_
  refine y_new (M1 := rn zl299 B) (T1 := (135, 135, 2230)) (show ash 134 = (8, 5) from rfl) (by decide) (by decide) rfl rfl ?_
  refine wp_dup (Or.inr rfl) ?_
  refine y_callM (as := [(2, ((134 : Nat) : Int))]) (S1 := [(2, ((134 : Nat) : Int)), (0, 2), (2, ((61 : Nat) : Int))]) (d1 := 14) rfl (zi_48 B) (fun z hz => by cases hz) rfl (Nat.le_of_ble_eq_true rfl) rfl (Nat.le_of_ble_eq_true rfl) rfl ?_
  refine z_aastore (M1 := rn zl306 B) (show ash 61 = (103, 3) from rfl) (by decide) ⟨by decide, by decide⟩ (show ash 134 = (8, 5) from rfl) (by decide) rfl ?_
  refine y_iinc (L1 := [(2, ((59 : Nat) : Int)), (0, 3)]) rfl (Nat.le_of_ble_eq_true rfl) ⟨by decide, by decide⟩ ⟨by decide, by decide⟩ rfl ?_
  refine wp_goto ?_
  refine y_blk (t := 50) rfl (show fnd bk_X4_init 50 = some _ from rfl) aB_X4_init ?_
  refine wp_iload_n (v := 3) rfl ?_
  refine wp_iconst ⟨by decide, by decide⟩ ?_
  refine wp_icmp_ge (fun _ => ?_) (fun c => absurd (by decide) c)
  refine y_blk (t := 74) rfl (show fnd bk_X4_init 74 = some _ from rfl) aB_X4_init ?_
  exact wp_return ⟨rfl, rfl⟩
theorem zi_50 (B : aM) : Ms 16 113 [(2, ((0 : Nat) : Int))] (rn zl1 B, (1, 1, 15)) (none) (rn zl307 B, (138, 138, 2240)) := by
  refine Ms.of ?_
  show Wp 16 113 0 [] [(2, ((0 : Nat) : Int))] [] (rn zl1 B, (1, 1, 15)) _
  refine y_blk (t := 0) rfl (show fnd bk_X11_init 0 = some _ from rfl) aB_X11_init ?_
  refine wp_aload_n (v := ((0 : Nat) : Int)) rfl (Int.natCast_nonneg _) ?_
  refine wp_objInit ⟨by decide, Nat.le_of_ble_eq_true rfl, rfl, Int.natCast_nonneg _⟩ ?_
  refine wp_aload_n (v := ((0 : Nat) : Int)) rfl (Int.natCast_nonneg _) ?_
  refine wp_sipush (by decide) ?_
  refine z_newarray (n := 900) (M1 := rn zl2 B) (T1 := (2, 2, 915)) (show ash 1 = (101, 900) from rfl) (by decide) (by decide) (by decide) rfl rfl rfl ?_
  refine z_put (M1 := rn zl3 B) (show ash 0 = (11, 15) from rfl) (by decide) rfl rfl ?_
  refine wp_aload_n (v := ((0 : Nat) : Int)) rfl (Int.natCast_nonneg _) ?_
  refine y_new (M1 := rn zl4 B) (T1 := (3, 3, 934)) (show ash 2 = (10, 19) from rfl) (by decide) (by decide) rfl rfl ?_
  refine wp_dup (Or.inr rfl) ?_
  refine y_callM (as := [(2, ((2 : Nat) : Int))]) (S1 := [(2, ((2 : Nat) : Int)), (2, ((0 : Nat) : Int))]) (d1 := 15) rfl (zi_1 B) (fun z hz => by cases hz) rfl (Nat.le_of_ble_eq_true rfl) rfl (Nat.le_of_ble_eq_true rfl) rfl ?_
  refine z_put (M1 := rn zl31 B) (show ash 0 = (11, 15) from rfl) (by decide) rfl rfl ?_
  refine wp_aload_n (v := ((0 : Nat) : Int)) rfl (Int.natCast_nonneg _) ?_
  refine y_new (M1 := rn zl32 B) (T1 := (17, 17, 1076)) (show ash 16 = (7, 8) from rfl) (by decide) (by decide) rfl rfl ?_
  refine wp_dup (Or.inr rfl) ?_
  refine wp_aload_n (v := ((0 : Nat) : Int)) rfl (Int.natCast_nonneg _) ?_
  refine y_get (show ash 0 = (11, 15) from rfl) (by decide) (v := ((1 : Nat) : Int)) (zlk_ok (by decide +kernel)) rfl ?_
  refine y_callM (as := [(2, ((16 : Nat) : Int)), (2, ((1 : Nat) : Int))]) (S1 := [(2, ((16 : Nat) : Int)), (2, ((0 : Nat) : Int))]) (d1 := 15) rfl (zi_20 B) (fun z hz => by cases hz) rfl (Nat.le_of_ble_eq_true rfl) rfl (Nat.le_of_ble_eq_true rfl) rfl ?_
  refine z_put (M1 := rn zl86 B) (show ash 0 = (11, 15) from rfl) (by decide) rfl rfl ?_
  refine wp_aload_n (v := ((0 : Nat) : Int)) rfl (Int.natCast_nonneg _) ?_
  refine y_new (M1 := rn zl87 B) (T1 := (36, 36, 1308)) (show ash 35 = (8, 5) from rfl) (by decide) (by decide) rfl rfl ?_
  refine wp_dup (Or.inr rfl) ?_
  refine y_callM (as := [(2, ((35 : Nat) : Int))]) (S1 := [(2, ((35 : Nat) : Int)), (2, ((0 : Nat) : Int))]) (d1 := 15) rfl (zi_21 B) (fun z hz => by cases hz) rfl (Nat.le_of_ble_eq_true rfl) rfl (Nat.le_of_ble_eq_true rfl) rfl ?_
  refine z_put (M1 := rn zl94 B) (show ash 0 = (11, 15) from rfl) (by decide) rfl rfl ?_
  refine wp_aload_n (v := ((0 : Nat) : Int)) rfl (Int.natCast_nonneg _) ?_
  refine y_new (M1 := rn zl95 B) (T1 := (40, 40, 1322)) (show ash 39 = (5, 4) from rfl) (by decide) (by decide) rfl rfl ?_
  refine wp_dup (Or.inr rfl) ?_
  refine wp_aload_n (v := ((0 : Nat) : Int)) rfl (Int.natCast_nonneg _) ?_
  refine y_get (show ash 0 = (11, 15) from rfl) (by decide) (v := ((2 : Nat) : Int)) (zlk_ok (by decide +kernel)) rfl ?_
  refine y_callM (as := [(2, ((39 : Nat) : Int)), (2, ((2 : Nat) : Int))]) (S1 := [(2, ((39 : Nat) : Int)), (2, ((0 : Nat) : Int))]) (d1 := 15) rfl (zi_22 B) (fun z hz => by cases hz) rfl (Nat.le_of_ble_eq_true rfl) rfl (Nat.le_of_ble_eq_true rfl) rfl ?_
  refine z_put (M1 := rn zl101 B) (show ash 0 = (11, 15) from rfl) (by decide) rfl rfl ?_
  refine wp_aload_n (v := ((0 : Nat) : Int)) rfl (Int.natCast_nonneg _) ?_
  refine y_new (M1 := rn zl102 B) (T1 := (43, 43, 1398)) (show ash 42 = (5, 4) from rfl) (by decide) (by decide) rfl rfl ?_
  refine wp_dup (Or.inr rfl) ?_
  refine wp_aload_n (v := ((0 : Nat) : Int)) rfl (Int.natCast_nonneg _) ?_
  refine y_get (show ash 0 = (11, 15) from rfl) (by decide) (v := ((2 : Nat) : Int)) (zlk_ok (by decide +kernel)) rfl ?_
  refine y_callM (as := [(2, ((42 : Nat) : Int)), (2, ((2 : Nat) : Int))]) (S1 := [(2, ((42 : Nat) : Int)), (2, ((0 : Nat) : Int))]) (d1 := 15) rfl (zi_23 B) (fun z hz => by cases hz) rfl (Nat.le_of_ble_eq_true rfl) rfl (Nat.le_of_ble_eq_true rfl) rfl ?_
  refine z_put (M1 := rn zl108 B) (show ash 0 = (11, 15) from rfl) (by decide) rfl rfl ?_
  refine wp_aload_n (v := ((0 : Nat) : Int)) rfl (Int.natCast_nonneg _) ?_
  refine y_new (M1 := rn zl109 B) (T1 := (46, 46, 1474)) (show ash 45 = (5, 4) from rfl) (by decide) (by decide) rfl rfl ?_
  refine wp_dup (Or.inr rfl) ?_
  refine wp_aload_n (v := ((0 : Nat) : Int)) rfl (Int.natCast_nonneg _) ?_
  refine y_get (show ash 0 = (11, 15) from rfl) (by decide) (v := ((2 : Nat) : Int)) (zlk_ok (by decide +kernel)) rfl ?_
  refine y_callM (as := [(2, ((45 : Nat) : Int)), (2, ((2 : Nat) : Int))]) (S1 := [(2, ((45 : Nat) : Int)), (2, ((0 : Nat) : Int))]) (d1 := 15) rfl (zi_24 B) (fun z hz => by cases hz) rfl (Nat.le_of_ble_eq_true rfl) rfl (Nat.le_of_ble_eq_true rfl) rfl ?_
  refine z_put (M1 := rn zl115 B) (show ash 0 = (11, 15) from rfl) (by decide) rfl rfl ?_
  refine wp_aload_n (v := ((0 : Nat) : Int)) rfl (Int.natCast_nonneg _) ?_
  refine y_new (M1 := rn zl116 B) (T1 := (49, 49, 1552)) (show ash 48 = (1, 6) from rfl) (by decide) (by decide) rfl rfl ?_
  refine wp_dup (Or.inr rfl) ?_
  refine wp_aload_n (v := ((0 : Nat) : Int)) rfl (Int.natCast_nonneg _) ?_
  refine y_get (show ash 0 = (11, 15) from rfl) (by decide) (v := ((2 : Nat) : Int)) (zlk_ok (by decide +kernel)) rfl ?_
  refine wp_aload_n (v := ((0 : Nat) : Int)) rfl (Int.natCast_nonneg _) ?_
  refine y_get (show ash 0 = (11, 15) from rfl) (by decide) (v := ((35 : Nat) : Int)) (zlk_ok (by decide +kernel)) rfl ?_
  refine wp_aload_n (v := ((0 : Nat) : Int)) rfl (Int.natCast_nonneg _) ?_
  refine y_get (show ash 0 = (11, 15) from rfl) (by decide) (v := ((39 : Nat) : Int)) (zlk_ok (by decide +kernel)) rfl ?_
  refine y_callM (as := [(2, ((48 : Nat) : Int)), (2, ((2 : Nat) : Int)), (2, ((35 : Nat) : Int)), (2, ((39 : Nat) : Int))]) (S1 := [(2, ((48 : Nat) : Int)), (2, ((0 : Nat) : Int))]) (d1 := 15) rfl (zi_25 B) (fun z hz => by cases hz) rfl (Nat.le_of_ble_eq_true rfl) rfl (Nat.le_of_ble_eq_true rfl) rfl ?_
  refine z_put (M1 := rn zl126 B) (show ash 0 = (11, 15) from rfl) (by decide) rfl rfl ?_
  refine wp_aload_n (v := ((0 : Nat) : Int)) rfl (Int.natCast_nonneg _) ?_
  refine y_new (M1 := rn zl127 B) (T1 := (53, 53, 1840)) (show ash 52 = (2, 2) from rfl) (by decide) (by decide) rfl rfl ?_
  refine wp_dup (Or.inr rfl) ?_
  refine wp_aload_n (v := ((0 : Nat) : Int)) rfl (Int.natCast_nonneg _) ?_
  refine y_get (show ash 0 = (11, 15) from rfl) (by decide) (v := ((2 : Nat) : Int)) (zlk_ok (by decide +kernel)) rfl ?_
  refine wp_aload_n (v := ((0 : Nat) : Int)) rfl (Int.natCast_nonneg _) ?_
  refine y_get (show ash 0 = (11, 15) from rfl) (by decide) (v := ((42 : Nat) : Int)) (zlk_ok (by decide +kernel)) rfl ?_
  refine y_callM (as := [(2, ((52 : Nat) : Int)), (2, ((2 : Nat) : Int)), (2, ((42 : Nat) : Int))]) (S1 := [(2, ((52 : Nat) : Int)), (2, ((0 : Nat) : Int))]) (d1 := 15) rfl (zi_26 B) (fun z hz => by cases hz) rfl (Nat.le_of_ble_eq_true rfl) rfl (Nat.le_of_ble_eq_true rfl) rfl ?_
  refine z_put (M1 := rn zl130 B) (show ash 0 = (11, 15) from rfl) (by decide) rfl rfl ?_
  refine wp_aload_n (v := ((0 : Nat) : Int)) rfl (Int.natCast_nonneg _) ?_
  refine y_new (M1 := rn zl131 B) (T1 := (54, 54, 1842)) (show ash 53 = (6, 2) from rfl) (by decide) (by decide) rfl rfl ?_
  refine wp_dup (Or.inr rfl) ?_
  refine wp_aload_n (v := ((0 : Nat) : Int)) rfl (Int.natCast_nonneg _) ?_
  refine y_get (show ash 0 = (11, 15) from rfl) (by decide) (v := ((2 : Nat) : Int)) (zlk_ok (by decide +kernel)) rfl ?_
  refine wp_aload_n (v := ((0 : Nat) : Int)) rfl (Int.natCast_nonneg _) ?_
  refine y_get (show ash 0 = (11, 15) from rfl) (by decide) (v := ((45 : Nat) : Int)) (zlk_ok (by decide +kernel)) rfl ?_
  refine y_callM (as := [(2, ((53 : Nat) : Int)), (2, ((2 : Nat) : Int)), (2, ((45 : Nat) : Int))]) (S1 := [(2, ((53 : Nat) : Int)), (2, ((0 : Nat) : Int))]) (d1 := 15) rfl (zi_27 B) (fun z hz => by cases hz) rfl (Nat.le_of_ble_eq_true rfl) rfl (Nat.le_of_ble_eq_true rfl) rfl ?_
  refine z_put (M1 := rn zl134 B) (show ash 0 = (11, 15) from rfl) (by decide) rfl rfl ?_
  refine wp_aload_n (v := ((0 : Nat) : Int)) rfl (Int.natCast_nonneg _) ?_
  refine y_new (M1 := rn zl135 B) (T1 := (55, 55, 1847)) (show ash 54 = (3, 5) from rfl) (by decide) (by decide) rfl rfl ?_
  refine wp_dup (Or.inr rfl) ?_
  refine wp_aload_n (v := ((0 : Nat) : Int)) rfl (Int.natCast_nonneg _) ?_
  refine y_get (show ash 0 = (11, 15) from rfl) (by decide) (v := ((2 : Nat) : Int)) (zlk_ok (by decide +kernel)) rfl ?_
  refine wp_aload_n (v := ((0 : Nat) : Int)) rfl (Int.natCast_nonneg _) ?_
  refine y_get (show ash 0 = (11, 15) from rfl) (by decide) (v := ((39 : Nat) : Int)) (zlk_ok (by decide +kernel)) rfl ?_
  refine y_callM (as := [(2, ((54 : Nat) : Int)), (2, ((2 : Nat) : Int)), (2, ((39 : Nat) : Int))]) (S1 := [(2, ((54 : Nat) : Int)), (2, ((0 : Nat) : Int))]) (d1 := 15) rfl (zi_28 B) (fun z hz => by cases hz) rfl (Nat.le_of_ble_eq_true rfl) rfl (Nat.le_of_ble_eq_true rfl) rfl ?_
  refine z_put (M1 := rn zl144 B) (show ash 0 = (11, 15) from rfl) (by decide) rfl rfl ?_
  refine wp_aload_n (v := ((0 : Nat) : Int)) rfl (Int.natCast_nonneg _) ?_
  refine y_new (M1 := rn zl145 B) (T1 := (59, 59, 1931)) (show ash 58 = (0, 4) from rfl) (by decide) (by decide) rfl rfl ?_
  refine wp_dup (Or.inr rfl) ?_
  refine wp_aload_n (v := ((0 : Nat) : Int)) rfl (Int.natCast_nonneg _) ?_
  refine y_get (show ash 0 = (11, 15) from rfl) (by decide) (v := ((2 : Nat) : Int)) (zlk_ok (by decide +kernel)) rfl ?_
  refine wp_aload_n (v := ((0 : Nat) : Int)) rfl (Int.natCast_nonneg _) ?_
  refine y_get (show ash 0 = (11, 15) from rfl) (by decide) (v := ((35 : Nat) : Int)) (zlk_ok (by decide +kernel)) rfl ?_
  refine wp_aload_n (v := ((0 : Nat) : Int)) rfl (Int.natCast_nonneg _) ?_
  refine y_get (show ash 0 = (11, 15) from rfl) (by decide) (v := ((45 : Nat) : Int)) (zlk_ok (by decide +kernel)) rfl ?_
  refine y_callM (as := [(2, ((58 : Nat) : Int)), (2, ((2 : Nat) : Int)), (2, ((35 : Nat) : Int)), (2, ((45 : Nat) : Int))]) (S1 := [(2, ((58 : Nat) : Int)), (2, ((0 : Nat) : Int))]) (d1 := 15) rfl (zi_29 B) (fun z hz => by cases hz) rfl (Nat.le_of_ble_eq_true rfl) rfl (Nat.le_of_ble_eq_true rfl) rfl ?_
  refine z_put (M1 := rn zl149 B) (show ash 0 = (11, 15) from rfl) (by decide) rfl rfl ?_
  refine wp_aload_n (v := ((0 : Nat) : Int)) rfl (Int.natCast_nonneg _) ?_
  refine y_new (M1 := rn zl150 B) (T1 := (60, 60, 1936)) (show ash 59 = (4, 5) from rfl) (by decide) (by decide) rfl rfl ?_
  refine wp_dup (Or.inr rfl) ?_
  refine y_callM (as := [(2, ((59 : Nat) : Int))]) (S1 := [(2, ((59 : Nat) : Int)), (2, ((0 : Nat) : Int))]) (d1 := 15) rfl (zi_49 B) (fun z hz => by cases hz) rfl (Nat.le_of_ble_eq_true rfl) rfl (Nat.le_of_ble_eq_true rfl) rfl ?_
  refine z_put (M1 := rn zl307 B) (show ash 0 = (11, 15) from rfl) (by decide) rfl rfl ?_
  exact wp_return ⟨rfl, rfl⟩
theorem zi_51 (B : aM) : Ms 16 195 [(2, ((138 : Nat) : Int))] (rn zl308 B, (139, 139, 2278)) (none) (rn zl337 B, (153, 153, 3890)) := by
  refine Ms.of ?_
  show Wp 16 195 0 [] [(2, ((138 : Nat) : Int))] [] (rn zl308 B, (139, 139, 2278)) _
  refine y_blk (t := 0) rfl (show fnd bk_X13_init 0 = some _ from rfl) aB_X13_init ?_
  refine wp_aload_n (v := ((138 : Nat) : Int)) rfl (Int.natCast_nonneg _) ?_
  refine wp_objInit ⟨by decide, Nat.le_of_ble_eq_true rfl, rfl, Int.natCast_nonneg _⟩ ?_
  refine wp_aload_n (v := ((138 : Nat) : Int)) rfl (Int.natCast_nonneg _) ?_
  refine wp_iconst ⟨by decide, by decide⟩ ?_
  refine z_put (M1 := rn zl309 B) (show ash 138 = (13, 38) from rfl) (by decide) rfl rfl ?_
  refine wp_aload_n (v := ((138 : Nat) : Int)) rfl (Int.natCast_nonneg _) ?_
  refine wp_sipush (by decide) ?_
  refine z_newarray (n := 900) (M1 := rn zl310 B) (T1 := (140, 140, 3178)) (show ash 139 = (101, 900) from rfl) (by decide) (by decide) (by decide) rfl rfl rfl ?_
  refine z_put (M1 := rn zl311 B) (show ash 138 = (13, 38) from rfl) (by decide) rfl rfl ?_
  refine wp_aload_n (v := ((138 : Nat) : Int)) rfl (Int.natCast_nonneg _) ?_
  refine wp_bipush (by decide) ?_
  refine z_newarray (n := 12) (M1 := rn zl312 B) (T1 := (141, 141, 3190)) (show ash 140 = (100, 12) from rfl) (by decide) (by decide) (by decide) rfl rfl rfl ?_
  refine z_put (M1 := rn zl313 B) (show ash 138 = (13, 38) from rfl) (by decide) rfl rfl ?_
  refine wp_aload_n (v := ((138 : Nat) : Int)) rfl (Int.natCast_nonneg _) ?_
  refine wp_bipush (by decide) ?_
  refine z_newarray (n := 12) (M1 := rn zl314 B) (T1 := (142, 142, 3202)) (show ash 141 = (100, 12) from rfl) (by decide) (by decide) (by decide) rfl rfl rfl ?_
  refine z_put (M1 := rn zl315 B) (show ash 138 = (13, 38) from rfl) (by decide) rfl rfl ?_
  refine wp_aload_n (v := ((138 : Nat) : Int)) rfl (Int.natCast_nonneg _) ?_
  refine wp_sipush (by decide) ?_
  refine z_newarray (n := 192) (M1 := rn zl316 B) (T1 := (143, 143, 3394)) (show ash 142 = (100, 192) from rfl) (by decide) (by decide) (by decide) rfl rfl rfl ?_
  refine z_put (M1 := rn zl317 B) (show ash 138 = (13, 38) from rfl) (by decide) rfl rfl ?_
  refine wp_aload_n (v := ((138 : Nat) : Int)) rfl (Int.natCast_nonneg _) ?_
  refine wp_bipush (by decide) ?_
  refine z_newarray (n := 36) (M1 := rn zl318 B) (T1 := (144, 144, 3430)) (show ash 143 = (100, 36) from rfl) (by decide) (by decide) (by decide) rfl rfl rfl ?_
  refine z_put (M1 := rn zl319 B) (show ash 138 = (13, 38) from rfl) (by decide) rfl rfl ?_
  refine wp_aload_n (v := ((138 : Nat) : Int)) rfl (Int.natCast_nonneg _) ?_
  refine wp_bipush (by decide) ?_
  refine z_newarray (n := 64) (M1 := rn zl320 B) (T1 := (145, 145, 3494)) (show ash 144 = (100, 64) from rfl) (by decide) (by decide) (by decide) rfl rfl rfl ?_
  refine z_put (M1 := rn zl321 B) (show ash 138 = (13, 38) from rfl) (by decide) rfl rfl ?_
  refine wp_aload_n (v := ((138 : Nat) : Int)) rfl (Int.natCast_nonneg _) ?_
  refine wp_bipush (by decide) ?_
  refine z_newarray (n := 8) (M1 := rn zl322 B) (T1 := (146, 146, 3502)) (show ash 145 = (100, 8) from rfl) (by decide) (by decide) (by decide) rfl rfl rfl ?_
  refine z_put (M1 := rn zl323 B) (show ash 138 = (13, 38) from rfl) (by decide) rfl rfl ?_
  refine wp_aload_n (v := ((138 : Nat) : Int)) rfl (Int.natCast_nonneg _) ?_
  refine wp_sipush (by decide) ?_
  refine z_newarray (n := 288) (M1 := rn zl324 B) (T1 := (147, 147, 3790)) (show ash 146 = (100, 288) from rfl) (by decide) (by decide) (by decide) rfl rfl rfl ?_
  refine z_put (M1 := rn zl325 B) (show ash 138 = (13, 38) from rfl) (by decide) rfl rfl ?_
  refine wp_aload_n (v := ((138 : Nat) : Int)) rfl (Int.natCast_nonneg _) ?_
  refine wp_bipush (by decide) ?_
  refine z_newarray (n := 8) (M1 := rn zl326 B) (T1 := (148, 148, 3798)) (show ash 147 = (100, 8) from rfl) (by decide) (by decide) (by decide) rfl rfl rfl ?_
  refine z_put (M1 := rn zl327 B) (show ash 138 = (13, 38) from rfl) (by decide) rfl rfl ?_
  refine wp_aload_n (v := ((138 : Nat) : Int)) rfl (Int.natCast_nonneg _) ?_
  refine wp_bipush (by decide) ?_
  refine z_newarray (n := 8) (M1 := rn zl328 B) (T1 := (149, 149, 3806)) (show ash 148 = (100, 8) from rfl) (by decide) (by decide) (by decide) rfl rfl rfl ?_
  refine z_put (M1 := rn zl329 B) (show ash 138 = (13, 38) from rfl) (by decide) rfl rfl ?_
  refine wp_aload_n (v := ((138 : Nat) : Int)) rfl (Int.natCast_nonneg _) ?_
  refine wp_bipush (by decide) ?_
  refine z_newarray (n := 8) (M1 := rn zl330 B) (T1 := (150, 150, 3814)) (show ash 149 = (100, 8) from rfl) (by decide) (by decide) (by decide) rfl rfl rfl ?_
  refine z_put (M1 := rn zl331 B) (show ash 138 = (13, 38) from rfl) (by decide) rfl rfl ?_
  refine wp_aload_n (v := ((138 : Nat) : Int)) rfl (Int.natCast_nonneg _) ?_
  refine wp_bipush (by decide) ?_
  refine z_newarray (n := 8) (M1 := rn zl332 B) (T1 := (151, 151, 3822)) (show ash 150 = (100, 8) from rfl) (by decide) (by decide) (by decide) rfl rfl rfl ?_
  refine z_put (M1 := rn zl333 B) (show ash 138 = (13, 38) from rfl) (by decide) rfl rfl ?_
  refine wp_aload_n (v := ((138 : Nat) : Int)) rfl (Int.natCast_nonneg _) ?_
  refine wp_iconst ⟨by decide, by decide⟩ ?_
  refine z_newarray (n := 4) (M1 := rn zl334 B) (T1 := (152, 152, 3826)) (show ash 151 = (100, 4) from rfl) (by decide) (by decide) (by decide) rfl rfl rfl ?_
  refine z_put (M1 := rn zl335 B) (show ash 138 = (13, 38) from rfl) (by decide) rfl rfl ?_
  refine wp_aload_n (v := ((138 : Nat) : Int)) rfl (Int.natCast_nonneg _) ?_
  refine wp_bipush (by decide) ?_
  refine z_newarray (n := 64) (M1 := rn zl336 B) (T1 := (153, 153, 3890)) (show ash 152 = (100, 64) from rfl) (by decide) (by decide) (by decide) rfl rfl rfl ?_
  refine z_put (M1 := rn zl337 B) (show ash 138 = (13, 38) from rfl) (by decide) rfl rfl ?_
  exact wp_return ⟨rfl, rfl⟩

/-! ===== methods as functions ===== -/
theorem aB_X10_addWay : ∀ pc, aB 108 pc = fnd bk_X10_addWay pc := fun _ => rfl
def f_X10_addWay (T : Nat) (e0 : Nat) (v1 : Int) (v2 : Int) (v3 : Int) (v4 : Int) (M : aM) : Option (Int × aM) :=
 if 0 ≤ (M (e0 + 1) 2) ∧ (M (e0 + 1) 2) < 10 then
 (some (aup M (e0 + 2) ((M (e0 + 1) 2)).toNat (if v2 < v1 then v2 else v1))).bind fun m2 =>
 (some (aup m2 (e0 + 3) ((M (e0 + 1) 2)).toNat (if v2 < v1 then v1 else v2))).bind fun m4 =>
 (some (aup m4 (e0 + 4) ((M (e0 + 1) 2)).toNat v3)).bind fun m6 =>
 if aIn (v1 * 8) then
 if aIn ((v1 * 8) + v2) then
 if aIn ((M (e0 + 1) 2) + 1) then
 if 0 ≤ ((v1 * 8) + v2) ∧ ((v1 * 8) + v2) < 64 then
 (some (aup m6 (e0 + 5) (((v1 * 8) + v2)).toNat ((M (e0 + 1) 2) + 1))).bind fun m12 =>
 if aIn (v2 * 8) then
 if aIn ((v2 * 8) + v1) then
 if 0 ≤ ((v2 * 8) + v1) ∧ ((v2 * 8) + v1) < 64 then
 (some (aup m12 (e0 + 5) (((v2 * 8) + v1)).toNat ((M (e0 + 1) 2) + 1))).bind fun m17 =>
 if v4 = 0 then
 some (0, m17) else
 (some (aup m17 e0 9 (aor (m17 e0 9) (ashl 1 (M (e0 + 1) 2))))).bind fun m20 =>
 some (0, m20) else none else none else none else none else none else none else none else none
theorem t_X10_addWay {T : T3} {e0 : Nat} {v1 : Int} {v2 : Int} {v3 : Int} {v4 : Int} {M : aM} {y : (Int × aM)} (he0 : isTold e0) (hS : Sh T.1 M) (h : f_X10_addWay T.1 e0 v1 v2 v3 v4 M = some y) : Mr 1 108 [(2, ((e0 : Nat) : Int)), (0, v1), (0, v2), (0, v3), (0, v4)] M (none) y.2 T ∧ Sh T.1 y.2 := by
  have key : ∀ d, 1 ≤ d → Wp d 108 0 [] [(2, ((e0 : Nat) : Int)), (0, v1), (0, v2), (0, v3), (0, v4), (9, 0)] [] (M, T) (fun r2 σ2 => r2 = none ∧ σ2 = (y.2, T) ∧ Sh T.1 y.2) := by
    intro d hd
    rw [f_X10_addWay] at h
    refine y_blk (t := 0) rfl (show fnd bk_X10_addWay 0 = some _ from rfl) aB_X10_addWay ?_
    refine wp_aload_n (v := ((e0 : Nat) : Int)) rfl (Int.natCast_nonneg _) ?_
    refine y_get (aTold0 he0) (ltTold hS.1.1 he0 0 (by decide)) (v := (((e0 + 1) : Nat) : Int)) (rTold3 hS he0) rfl ?_
    refine wp_iconst ⟨by decide, by decide⟩ ?_
    refine y_iald (aTold1 he0) (Or.inl (ltTold hS.1.1 he0 1 (by decide))) (Nat.ne_of_lt (Nat.lt_of_lt_of_le (ltTold hS.1.1 he0 1 (by decide)) hS.1.2)) ⟨by decide, by decide⟩ (v := M (e0 + 1) 2) rfl ?_
    refine y_st (L1 := [(2, ((e0 : Nat) : Int)), (0, v1), (0, v2), (0, v3), (0, v4), (0, (M (e0 + 1) 2))]) (Nat.le_of_ble_eq_true rfl) rfl ?_
    refine wp_aload_n (v := ((e0 : Nat) : Int)) rfl (Int.natCast_nonneg _) ?_
    refine y_get (aTold0 he0) (ltTold hS.1.1 he0 0 (by decide)) (v := (((e0 + 2) : Nat) : Int)) (rTold5 hS he0) rfl ?_
    refine wp_iload (v := (M (e0 + 1) 2)) rfl ?_
    refine wp_iload_n (v := v1) rfl ?_
    refine wp_iload_n (v := v2) rfl ?_
    refine wp_min ⟨by omega, Nat.le_of_ble_eq_true rfl, rfl⟩ ?_
    obtain ⟨c1, h⟩ := d_ite h
    refine y_iast (aTold2 he0) (ltTold hS.1.1 he0 2 (by decide)) c1 ?_
    obtain ⟨m2, em2, h⟩ := d_bind h
    have em2 := Option.some.inj em2
    have s3 : Sh T.1 m2 := em2 ▸ hS.up (Or.inl ⟨by rw [(aTold2 he0)]; exact Nat.le_of_ble_eq_true rfl, by rw [(aTold2 he0)]; exact Nat.le_of_ble_eq_true rfl⟩) (by have := (ltTold hS.1.1 he0 2 (by decide)); have := hS.1.2; omega)
    rw [em2]
    refine wp_aload_n (v := ((e0 : Nat) : Int)) rfl (Int.natCast_nonneg _) ?_
    refine y_get (aTold0 he0) (ltTold hS.1.1 he0 0 (by decide)) (v := (((e0 + 3) : Nat) : Int)) (rTold6 s3 he0) rfl ?_
    refine wp_iload (v := (M (e0 + 1) 2)) rfl ?_
    refine wp_iload_n (v := v1) rfl ?_
    refine wp_iload_n (v := v2) rfl ?_
    refine wp_max ⟨by omega, Nat.le_of_ble_eq_true rfl, rfl⟩ ?_
    refine y_iast (aTold3 he0) (ltTold hS.1.1 he0 3 (by decide)) c1 ?_
    obtain ⟨m4, em4, h⟩ := d_bind h
    have em4 := Option.some.inj em4
    have s5 : Sh T.1 m4 := em4 ▸ s3.up (Or.inl ⟨by rw [(aTold3 he0)]; exact Nat.le_of_ble_eq_true rfl, by rw [(aTold3 he0)]; exact Nat.le_of_ble_eq_true rfl⟩) (by have := (ltTold hS.1.1 he0 3 (by decide)); have := hS.1.2; omega)
    rw [em4]
    refine wp_aload_n (v := ((e0 : Nat) : Int)) rfl (Int.natCast_nonneg _) ?_
    refine y_get (aTold0 he0) (ltTold hS.1.1 he0 0 (by decide)) (v := (((e0 + 4) : Nat) : Int)) (rTold7 s5 he0) rfl ?_
    refine wp_iload (v := (M (e0 + 1) 2)) rfl ?_
    refine wp_iload_n (v := v3) rfl ?_
    refine y_iast (aTold4 he0) (ltTold hS.1.1 he0 4 (by decide)) c1 ?_
    obtain ⟨m6, em6, h⟩ := d_bind h
    have em6 := Option.some.inj em6
    have s7 : Sh T.1 m6 := em6 ▸ s5.up (Or.inl ⟨by rw [(aTold4 he0)]; exact Nat.le_of_ble_eq_true rfl, by rw [(aTold4 he0)]; exact Nat.le_of_ble_eq_true rfl⟩) (by have := (ltTold hS.1.1 he0 4 (by decide)); have := hS.1.2; omega)
    rw [em6]
    refine wp_aload_n (v := ((e0 : Nat) : Int)) rfl (Int.natCast_nonneg _) ?_
    refine y_get (aTold0 he0) (ltTold hS.1.1 he0 0 (by decide)) (v := (((e0 + 5) : Nat) : Int)) (rTold8 s7 he0) rfl ?_
    refine wp_iload_n (v := v1) rfl ?_
    refine wp_bipush (by decide) ?_
    obtain ⟨c8, h⟩ := d_ite h
    refine wp_imul c8 ?_
    refine wp_iload_n (v := v2) rfl ?_
    obtain ⟨c9, h⟩ := d_ite h
    refine wp_iadd c9 ?_
    refine wp_iload (v := (M (e0 + 1) 2)) rfl ?_
    refine wp_iconst ⟨by decide, by decide⟩ ?_
    obtain ⟨c10, h⟩ := d_ite h
    refine wp_iadd c10 ?_
    obtain ⟨c11, h⟩ := d_ite h
    refine y_iast (aTold5 he0) (ltTold hS.1.1 he0 5 (by decide)) c11 ?_
    obtain ⟨m12, em12, h⟩ := d_bind h
    have em12 := Option.some.inj em12
    have s13 : Sh T.1 m12 := em12 ▸ s7.up (Or.inl ⟨by rw [(aTold5 he0)]; exact Nat.le_of_ble_eq_true rfl, by rw [(aTold5 he0)]; exact Nat.le_of_ble_eq_true rfl⟩) (by have := (ltTold hS.1.1 he0 5 (by decide)); have := hS.1.2; omega)
    rw [em12]
    refine wp_aload_n (v := ((e0 : Nat) : Int)) rfl (Int.natCast_nonneg _) ?_
    refine y_get (aTold0 he0) (ltTold hS.1.1 he0 0 (by decide)) (v := (((e0 + 5) : Nat) : Int)) (rTold8 s13 he0) rfl ?_
    refine wp_iload_n (v := v2) rfl ?_
    refine wp_bipush (by decide) ?_
    obtain ⟨c14, h⟩ := d_ite h
    refine wp_imul c14 ?_
    refine wp_iload_n (v := v1) rfl ?_
    obtain ⟨c15, h⟩ := d_ite h
    refine wp_iadd c15 ?_
    refine wp_iload (v := (M (e0 + 1) 2)) rfl ?_
    refine wp_iconst ⟨by decide, by decide⟩ ?_
    refine wp_iadd c10 ?_
    obtain ⟨c16, h⟩ := d_ite h
    refine y_iast (aTold5 he0) (ltTold hS.1.1 he0 5 (by decide)) c16 ?_
    obtain ⟨m17, em17, h⟩ := d_bind h
    have em17 := Option.some.inj em17
    have s18 : Sh T.1 m17 := em17 ▸ s13.up (Or.inl ⟨by rw [(aTold5 he0)]; exact Nat.le_of_ble_eq_true rfl, by rw [(aTold5 he0)]; exact Nat.le_of_ble_eq_true rfl⟩) (by have := (ltTold hS.1.1 he0 5 (by decide)); have := hS.1.2; omega)
    rw [em17]
    refine wp_iload (v := v4) rfl ?_
    refine wp_if_eq (fun c19 => ?_) (fun c19 => ?_)
    · rw [if_pos c19] at h
      refine y_blk (t := 88) rfl (show fnd bk_X10_addWay 88 = some _ from rfl) aB_X10_addWay ?_
      cases h
      exact wp_return ⟨rfl, rfl, s18⟩
    · rw [if_neg c19] at h
      refine wp_aload_n (v := ((e0 : Nat) : Int)) rfl (Int.natCast_nonneg _) ?_
      refine wp_dup (Or.inr rfl) ?_
      refine y_get (aTold0 he0) (ltTold hS.1.1 he0 0 (by decide)) (v := m17 e0 9) rfl rfl ?_
      refine wp_iconst ⟨by decide, by decide⟩ ?_
      refine wp_iload (v := (M (e0 + 1) 2)) rfl ?_
      refine wp_ishl ?_
      refine wp_ior ?_
      refine y_put (aTold0 he0) (ltTold hS.1.1 he0 0 (by decide)) rfl ?_
      obtain ⟨m20, em20, h⟩ := d_bind h
      have em20 := Option.some.inj em20
      have s21 : Sh T.1 m20 := em20 ▸ s18.up (Or.inr ⟨by rw [(aTold0 he0)]; decide, by rw [(aTold0 he0)]; decide⟩) (by have := (ltTold hS.1.1 he0 0 (by decide)); have := hS.1.2; omega)
      rw [em20]
      refine y_blk (t := 88) rfl (show fnd bk_X10_addWay 88 = some _ from rfl) aB_X10_addWay ?_
      cases h
      exact wp_return ⟨rfl, rfl, s21⟩
  exact ⟨fun d hd => Ms.of3 (key d hd), Ms.sh (key 1 (Nat.le_refl _))⟩
theorem aB_X7_readWay : ∀ pc, aB 74 pc = fnd bk_X7_readWay pc := fun _ => rfl
def f_X7_readWay (T : Nat)  (M : aM) : Option (Int × aM) :=
 (f_X7_readFirstCave T M).bind fun x1 =>
 if x1.1 = (-1) then
 some (0, x1.2) else
 (f_X7_caveHere T x1.2).bind fun x6 =>
 if x6.1 = (-1) then
 some (0, x6.2) else
 if x6.1 = x1.1 then
 (f_X7_fails T 3 x6.2).bind fun x12 =>
 if x12.1 = 0 ∨ x12.1 = 1 then
 some (x12.1, x12.2) else none else
 (f_X10_wayBetween T 17 x1.1 x6.1 x6.2).bind fun x17 =>
 if x17 = (-1) then
 (f_X9_advance T x6.2).bind fun x20 =>
 (f_X7_readNumber T 2000005 1 20 x20.2).bind fun x24 =>
 if x24.1 = (-1) then
 some (0, x24.2) else
 (f_X9_isWord T 2000006 x24.2).bind fun x29 =>
 if x29 = 0 then
 (f_X10_addWay T 17 x1.1 x6.1 x24.1 x29 x24.2).bind fun x32 =>
 if x29 = 0 then
 (f_X7_readWord T 2000007 x32.2).bind fun x37 =>
 if x37.1 = 0 ∨ x37.1 = 1 then
 some (x37.1, x37.2) else none else
 (f_X7_readWord T 2000006 x32.2).bind fun x42 =>
 if x42.1 = 0 ∨ x42.1 = 1 then
 some (x42.1, x42.2) else none else
 (f_J6_bitCount_0f7a4 T (x24.2 17 9) x24.2).bind fun x47 =>
 if x47 < 6 then
 (f_X10_addWay T 17 x1.1 x6.1 x24.1 x29 x24.2).bind fun x50 =>
 if x29 = 0 then
 (f_X7_readWord T 2000007 x50.2).bind fun x55 =>
 if x55.1 = 0 ∨ x55.1 = 1 then
 some (x55.1, x55.2) else none else
 (f_X7_readWord T 2000006 x50.2).bind fun x60 =>
 if x60.1 = 0 ∨ x60.1 = 1 then
 some (x60.1, x60.2) else none else
 (f_X7_fails T 5 x24.2).bind fun x65 =>
 if x65.1 = 0 ∨ x65.1 = 1 then
 some (x65.1, x65.2) else none else
 (f_X7_fails T 3 x6.2).bind fun x70 =>
 if x70.1 = 0 ∨ x70.1 = 1 then
 some (x70.1, x70.2) else none
theorem t_X7_readWay {T : T3}  {M : aM} {y : (Int × aM)}  (hS : Sh T.1 M) (h : f_X7_readWay T.1  M = some y) : Mr 7 74 [(2, ((16 : Nat) : Int))] M (some (0, y.1)) y.2 T ∧ Sh T.1 y.2 := by
  have key : ∀ d, 7 ≤ d → Wp d 74 0 [] [(2, ((16 : Nat) : Int)), (9, 0), (9, 0), (9, 0), (9, 0)] [] (M, T) (fun r2 σ2 => r2 = some (0, y.1) ∧ σ2 = (y.2, T) ∧ Sh T.1 y.2) := by
    intro d hd
    rw [f_X7_readWay] at h
    refine y_blk (t := 0) rfl (show fnd bk_X7_readWay 0 = some _ from rfl) aB_X7_readWay ?_
    refine wp_aload_n (v := ((16 : Nat) : Int)) rfl (Int.natCast_nonneg _) ?_
    obtain ⟨x1, e2, h⟩ := d_bind h
    obtain ⟨r3, s4⟩ := t_X7_readFirstCave hS e2
    refine y_callV (as := []) (S1 := []) (Nat.le_of_ble_eq_true rfl) (by omega) r3 (Nat.le_of_ble_eq_true rfl) rfl (show ash 16 = (7, 8) from rfl) (Nat.lt_of_lt_of_le (show 16 < 154 by decide) hS.1.1) (Nat.le_of_ble_eq_true rfl) (Nat.le_of_ble_eq_true rfl) rfl ?_
    refine y_stn (L1 := [(2, ((16 : Nat) : Int)), (0, x1.1), (9, 0), (9, 0), (9, 0)]) (Nat.le_of_ble_eq_true rfl) rfl ?_
    refine wp_iload_n (v := x1.1) rfl ?_
    refine wp_iconst ⟨by decide, by decide⟩ ?_
    refine y_ne (fun c5 => ?_) (fun c5 => ?_)
    · rw [if_neg c5] at h
      refine y_blk (t := 14) rfl (show fnd bk_X7_readWay 14 = some _ from rfl) aB_X7_readWay ?_
      refine wp_aload_n (v := ((16 : Nat) : Int)) rfl (Int.natCast_nonneg _) ?_
      obtain ⟨x6, e7, h⟩ := d_bind h
      obtain ⟨r8, s9⟩ := t_X7_caveHere s4 e7
      refine y_callV (as := []) (S1 := []) (Nat.le_of_ble_eq_true rfl) (by omega) r8 (Nat.le_of_ble_eq_true rfl) rfl (show ash 16 = (7, 8) from rfl) (Nat.lt_of_lt_of_le (show 16 < 154 by decide) hS.1.1) (Nat.le_of_ble_eq_true rfl) (Nat.le_of_ble_eq_true rfl) rfl ?_
      refine y_blk (t := 18) rfl (show fnd bk_X7_readWay 18 = some _ from rfl) aB_X7_readWay ?_
      refine y_stn (L1 := [(2, ((16 : Nat) : Int)), (0, x1.1), (0, x6.1), (9, 0), (9, 0)]) (Nat.le_of_ble_eq_true rfl) rfl ?_
      refine wp_iload_n (v := x6.1) rfl ?_
      refine wp_iconst ⟨by decide, by decide⟩ ?_
      refine y_ne (fun c10 => ?_) (fun c10 => ?_)
      · rw [if_neg c10] at h
        refine y_blk (t := 26) rfl (show fnd bk_X7_readWay 26 = some _ from rfl) aB_X7_readWay ?_
        refine wp_iload_n (v := x6.1) rfl ?_
        refine wp_iload_n (v := x1.1) rfl ?_
        refine wp_icmp_eq (fun c11 => ?_) (fun c11 => ?_)
        · rw [if_pos c11] at h
          refine y_blk (t := 44) rfl (show fnd bk_X7_readWay 44 = some _ from rfl) aB_X7_readWay ?_
          refine wp_aload_n (v := ((16 : Nat) : Int)) rfl (Int.natCast_nonneg _) ?_
          refine wp_iconst ⟨by decide, by decide⟩ ?_
          obtain ⟨x12, e13, h⟩ := d_bind h
          obtain ⟨r14, s15⟩ := t_X7_fails s9 e13
          refine y_callV (as := [(0, 3)]) (S1 := []) (Nat.le_of_ble_eq_true rfl) (by omega) r14 (Nat.le_of_ble_eq_true rfl) rfl (show ash 16 = (7, 8) from rfl) (Nat.lt_of_lt_of_le (show 16 < 154 by decide) hS.1.1) (Nat.le_of_ble_eq_true rfl) (Nat.le_of_ble_eq_true rfl) rfl ?_
          obtain ⟨c16, h⟩ := d_ite h
          cases h
          exact y_ret0 (Or.inr c16) ⟨rfl, rfl, s15⟩
        · rw [if_neg c11] at h
          refine wp_aload_n (v := ((16 : Nat) : Int)) rfl (Int.natCast_nonneg _) ?_
          refine y_get (show ash 16 = (7, 8) from rfl) (Nat.lt_of_lt_of_le (show 16 < 154 by decide) hS.1.1) (v := ((17 : Nat) : Int)) (s9.at 16 0 17 (by decide +kernel)) rfl ?_
          refine wp_iload_n (v := x1.1) rfl ?_
          refine wp_iload_n (v := x6.1) rfl ?_
          obtain ⟨x17, e18, h⟩ := d_bind h
          refine y_callV (as := [(0, x1.1), (0, x6.1)]) (S1 := []) (Nat.le_of_ble_eq_true rfl) (by omega) (t_X10_wayBetween (show isTold 17 by decide) s9 e18) (Nat.le_of_ble_eq_true rfl) rfl (show ash 17 = (10, 19) from rfl) (Nat.lt_of_lt_of_le (show 17 < 154 by decide) hS.1.1) (Nat.le_of_ble_eq_true rfl) (Nat.le_of_ble_eq_true rfl) rfl ?_
          refine wp_iconst ⟨by decide, by decide⟩ ?_
          refine wp_icmp_eq (fun c19 => ?_) (fun c19 => ?_)
          · rw [if_pos c19] at h
            refine y_blk (t := 50) rfl (show fnd bk_X7_readWay 50 = some _ from rfl) aB_X7_readWay ?_
            refine wp_aload_n (v := ((16 : Nat) : Int)) rfl (Int.natCast_nonneg _) ?_
            refine y_get (show ash 16 = (7, 8) from rfl) (Nat.lt_of_lt_of_le (show 16 < 154 by decide) hS.1.1) (v := ((34 : Nat) : Int)) (s9.at 16 3 34 (by decide +kernel)) rfl ?_
            obtain ⟨x20, e21, h⟩ := d_bind h
            obtain ⟨r22, s23⟩ := t_X9_advance s9 e21
            refine y_callVv (as := []) (S1 := []) (Nat.le_of_ble_eq_true rfl) (by omega) r22 rfl (show ash 34 = (9, 5) from rfl) (Nat.lt_of_lt_of_le (show 34 < 154 by decide) hS.1.1) (Nat.le_of_ble_eq_true rfl) (Nat.le_of_ble_eq_true rfl) rfl ?_
            refine wp_aload_n (v := ((16 : Nat) : Int)) rfl (Int.natCast_nonneg _) ?_
            refine y_ldcS (v := 2000005) rfl ?_
            refine wp_iconst ⟨by decide, by decide⟩ ?_
            refine wp_bipush (by decide) ?_
            obtain ⟨x24, e25, h⟩ := d_bind h
            obtain ⟨r26, s27⟩ := t_X7_readNumber s23 e25
            refine y_callV (as := [(2, 2000005), (0, 1), (0, 20)]) (S1 := []) (Nat.le_of_ble_eq_true rfl) (by omega) r26 (Nat.le_of_ble_eq_true rfl) rfl (show ash 16 = (7, 8) from rfl) (Nat.lt_of_lt_of_le (show 16 < 154 by decide) hS.1.1) (Nat.le_of_ble_eq_true rfl) (Nat.le_of_ble_eq_true rfl) rfl ?_
            refine y_stn (L1 := [(2, ((16 : Nat) : Int)), (0, x1.1), (0, x6.1), (0, x24.1), (9, 0)]) (Nat.le_of_ble_eq_true rfl) rfl ?_
            refine wp_iload_n (v := x24.1) rfl ?_
            refine wp_iconst ⟨by decide, by decide⟩ ?_
            refine y_ne (fun c28 => ?_) (fun c28 => ?_)
            · rw [if_neg c28] at h
              refine y_blk (t := 74) rfl (show fnd bk_X7_readWay 74 = some _ from rfl) aB_X7_readWay ?_
              refine wp_aload_n (v := ((16 : Nat) : Int)) rfl (Int.natCast_nonneg _) ?_
              refine y_get (show ash 16 = (7, 8) from rfl) (Nat.lt_of_lt_of_le (show 16 < 154 by decide) hS.1.1) (v := ((34 : Nat) : Int)) (s27.at 16 3 34 (by decide +kernel)) rfl ?_
              refine y_ldcS (v := 2000006) rfl ?_
              obtain ⟨x29, e30, h⟩ := d_bind h
              refine y_callV (as := [(2, 2000006)]) (S1 := []) (Nat.le_of_ble_eq_true rfl) (by omega) (t_X9_isWord s27 e30) (Nat.le_of_ble_eq_true rfl) rfl (show ash 34 = (9, 5) from rfl) (Nat.lt_of_lt_of_le (show 34 < 154 by decide) hS.1.1) (Nat.le_of_ble_eq_true rfl) (Nat.le_of_ble_eq_true rfl) rfl ?_
              refine y_st (L1 := [(2, ((16 : Nat) : Int)), (0, x1.1), (0, x6.1), (0, x24.1), (0, x29)]) (Nat.le_of_ble_eq_true rfl) rfl ?_
              refine wp_iload (v := x29) rfl ?_
              refine wp_if_eq (fun c31 => ?_) (fun c31 => ?_)
              · rw [if_pos c31] at h
                refine y_blk (t := 111) rfl (show fnd bk_X7_readWay 111 = some _ from rfl) aB_X7_readWay ?_
                refine wp_aload_n (v := ((16 : Nat) : Int)) rfl (Int.natCast_nonneg _) ?_
                refine y_get (show ash 16 = (7, 8) from rfl) (Nat.lt_of_lt_of_le (show 16 < 154 by decide) hS.1.1) (v := ((17 : Nat) : Int)) (s27.at 16 0 17 (by decide +kernel)) rfl ?_
                refine wp_iload_n (v := x1.1) rfl ?_
                refine wp_iload_n (v := x6.1) rfl ?_
                refine wp_iload_n (v := x24.1) rfl ?_
                refine wp_iload (v := x29) rfl ?_
                obtain ⟨x32, e33, h⟩ := d_bind h
                obtain ⟨r34, s35⟩ := t_X10_addWay (show isTold 17 by decide) s27 e33
                refine y_callVv (as := [(0, x1.1), (0, x6.1), (0, x24.1), (0, x29)]) (S1 := []) (Nat.le_of_ble_eq_true rfl) (by omega) r34 rfl (show ash 17 = (10, 19) from rfl) (Nat.lt_of_lt_of_le (show 17 < 154 by decide) hS.1.1) (Nat.le_of_ble_eq_true rfl) (Nat.le_of_ble_eq_true rfl) rfl ?_
                refine wp_aload_n (v := ((16 : Nat) : Int)) rfl (Int.natCast_nonneg _) ?_
                refine wp_iload (v := x29) rfl ?_
                refine wp_if_eq (fun c36 => ?_) (fun c36 => ?_)
                · rw [if_pos c36] at h
                  refine y_blk (t := 134) rfl (show fnd bk_X7_readWay 134 = some _ from rfl) aB_X7_readWay ?_
                  refine y_ldcS (v := 2000007) rfl ?_
                  refine y_blk (t := 136) rfl (show fnd bk_X7_readWay 136 = some _ from rfl) aB_X7_readWay ?_
                  obtain ⟨x37, e38, h⟩ := d_bind h
                  obtain ⟨r39, s40⟩ := t_X7_readWord s35 e38
                  refine y_callV (as := [(2, 2000007)]) (S1 := []) (Nat.le_of_ble_eq_true rfl) (by omega) r39 (Nat.le_of_ble_eq_true rfl) rfl (show ash 16 = (7, 8) from rfl) (Nat.lt_of_lt_of_le (show 16 < 154 by decide) hS.1.1) (Nat.le_of_ble_eq_true rfl) (Nat.le_of_ble_eq_true rfl) rfl ?_
                  obtain ⟨c41, h⟩ := d_ite h
                  cases h
                  exact y_ret0 (Or.inr c41) ⟨rfl, rfl, s40⟩
                · rw [if_neg c36] at h
                  refine y_ldcS (v := 2000006) rfl ?_
                  refine wp_goto ?_
                  refine y_blk (t := 136) rfl (show fnd bk_X7_readWay 136 = some _ from rfl) aB_X7_readWay ?_
                  obtain ⟨x42, e43, h⟩ := d_bind h
                  obtain ⟨r44, s45⟩ := t_X7_readWord s35 e43
                  refine y_callV (as := [(2, 2000006)]) (S1 := []) (Nat.le_of_ble_eq_true rfl) (by omega) r44 (Nat.le_of_ble_eq_true rfl) rfl (show ash 16 = (7, 8) from rfl) (Nat.lt_of_lt_of_le (show 16 < 154 by decide) hS.1.1) (Nat.le_of_ble_eq_true rfl) (Nat.le_of_ble_eq_true rfl) rfl ?_
                  obtain ⟨c46, h⟩ := d_ite h
                  cases h
                  exact y_ret0 (Or.inr c46) ⟨rfl, rfl, s45⟩
              · rw [if_neg c31] at h
                refine wp_aload_n (v := ((16 : Nat) : Int)) rfl (Int.natCast_nonneg _) ?_
                refine y_get (show ash 16 = (7, 8) from rfl) (Nat.lt_of_lt_of_le (show 16 < 154 by decide) hS.1.1) (v := ((17 : Nat) : Int)) (s27.at 16 0 17 (by decide +kernel)) rfl ?_
                refine y_get (show ash 17 = (10, 19) from rfl) (Nat.lt_of_lt_of_le (show 17 < 154 by decide) hS.1.1) (v := x24.2 17 9) rfl rfl ?_
                obtain ⟨x47, e48, h⟩ := d_bind h
                refine y_callS (as := [(0, (x24.2 17 9))]) (S1 := []) (Nat.le_of_ble_eq_true rfl) (by omega) (t_J6_bitCount_0f7a4 s27 e48) (Nat.le_of_ble_eq_true rfl) rfl (Nat.le_of_ble_eq_true rfl) (Nat.le_of_ble_eq_true rfl) rfl ?_
                refine wp_bipush (by decide) ?_
                refine wp_icmp_lt (fun c49 => ?_) (fun c49 => ?_)
                · rw [if_pos c49] at h
                  refine y_blk (t := 111) rfl (show fnd bk_X7_readWay 111 = some _ from rfl) aB_X7_readWay ?_
                  refine wp_aload_n (v := ((16 : Nat) : Int)) rfl (Int.natCast_nonneg _) ?_
                  refine y_get (show ash 16 = (7, 8) from rfl) (Nat.lt_of_lt_of_le (show 16 < 154 by decide) hS.1.1) (v := ((17 : Nat) : Int)) (s27.at 16 0 17 (by decide +kernel)) rfl ?_
                  refine wp_iload_n (v := x1.1) rfl ?_
                  refine wp_iload_n (v := x6.1) rfl ?_
                  refine wp_iload_n (v := x24.1) rfl ?_
                  refine wp_iload (v := x29) rfl ?_
                  obtain ⟨x50, e51, h⟩ := d_bind h
                  obtain ⟨r52, s53⟩ := t_X10_addWay (show isTold 17 by decide) s27 e51
                  refine y_callVv (as := [(0, x1.1), (0, x6.1), (0, x24.1), (0, x29)]) (S1 := []) (Nat.le_of_ble_eq_true rfl) (by omega) r52 rfl (show ash 17 = (10, 19) from rfl) (Nat.lt_of_lt_of_le (show 17 < 154 by decide) hS.1.1) (Nat.le_of_ble_eq_true rfl) (Nat.le_of_ble_eq_true rfl) rfl ?_
                  refine wp_aload_n (v := ((16 : Nat) : Int)) rfl (Int.natCast_nonneg _) ?_
                  refine wp_iload (v := x29) rfl ?_
                  refine wp_if_eq (fun c54 => ?_) (fun c54 => ?_)
                  · rw [if_pos c54] at h
                    refine y_blk (t := 134) rfl (show fnd bk_X7_readWay 134 = some _ from rfl) aB_X7_readWay ?_
                    refine y_ldcS (v := 2000007) rfl ?_
                    refine y_blk (t := 136) rfl (show fnd bk_X7_readWay 136 = some _ from rfl) aB_X7_readWay ?_
                    obtain ⟨x55, e56, h⟩ := d_bind h
                    obtain ⟨r57, s58⟩ := t_X7_readWord s53 e56
                    refine y_callV (as := [(2, 2000007)]) (S1 := []) (Nat.le_of_ble_eq_true rfl) (by omega) r57 (Nat.le_of_ble_eq_true rfl) rfl (show ash 16 = (7, 8) from rfl) (Nat.lt_of_lt_of_le (show 16 < 154 by decide) hS.1.1) (Nat.le_of_ble_eq_true rfl) (Nat.le_of_ble_eq_true rfl) rfl ?_
                    obtain ⟨c59, h⟩ := d_ite h
                    cases h
                    exact y_ret0 (Or.inr c59) ⟨rfl, rfl, s58⟩
                  · rw [if_neg c54] at h
                    refine y_ldcS (v := 2000006) rfl ?_
                    refine wp_goto ?_
                    refine y_blk (t := 136) rfl (show fnd bk_X7_readWay 136 = some _ from rfl) aB_X7_readWay ?_
                    obtain ⟨x60, e61, h⟩ := d_bind h
                    obtain ⟨r62, s63⟩ := t_X7_readWord s53 e61
                    refine y_callV (as := [(2, 2000006)]) (S1 := []) (Nat.le_of_ble_eq_true rfl) (by omega) r62 (Nat.le_of_ble_eq_true rfl) rfl (show ash 16 = (7, 8) from rfl) (Nat.lt_of_lt_of_le (show 16 < 154 by decide) hS.1.1) (Nat.le_of_ble_eq_true rfl) (Nat.le_of_ble_eq_true rfl) rfl ?_
                    obtain ⟨c64, h⟩ := d_ite h
                    cases h
                    exact y_ret0 (Or.inr c64) ⟨rfl, rfl, s63⟩
                · rw [if_neg c49] at h
                  refine wp_aload_n (v := ((16 : Nat) : Int)) rfl (Int.natCast_nonneg _) ?_
                  refine wp_iconst ⟨by decide, by decide⟩ ?_
                  obtain ⟨x65, e66, h⟩ := d_bind h
                  obtain ⟨r67, s68⟩ := t_X7_fails s27 e66
                  refine y_callV (as := [(0, 5)]) (S1 := []) (Nat.le_of_ble_eq_true rfl) (by omega) r67 (Nat.le_of_ble_eq_true rfl) rfl (show ash 16 = (7, 8) from rfl) (Nat.lt_of_lt_of_le (show 16 < 154 by decide) hS.1.1) (Nat.le_of_ble_eq_true rfl) (Nat.le_of_ble_eq_true rfl) rfl ?_
                  obtain ⟨c69, h⟩ := d_ite h
                  cases h
                  exact y_ret0 (Or.inr c69) ⟨rfl, rfl, s68⟩
            · rw [if_pos c28] at h
              refine wp_iconst ⟨by decide, by decide⟩ ?_
              cases h
              exact y_ret0 (Or.inr (Or.inl rfl)) ⟨rfl, rfl, s27⟩
          · rw [if_neg c19] at h
            refine y_blk (t := 44) rfl (show fnd bk_X7_readWay 44 = some _ from rfl) aB_X7_readWay ?_
            refine wp_aload_n (v := ((16 : Nat) : Int)) rfl (Int.natCast_nonneg _) ?_
            refine wp_iconst ⟨by decide, by decide⟩ ?_
            obtain ⟨x70, e71, h⟩ := d_bind h
            obtain ⟨r72, s73⟩ := t_X7_fails s9 e71
            refine y_callV (as := [(0, 3)]) (S1 := []) (Nat.le_of_ble_eq_true rfl) (by omega) r72 (Nat.le_of_ble_eq_true rfl) rfl (show ash 16 = (7, 8) from rfl) (Nat.lt_of_lt_of_le (show 16 < 154 by decide) hS.1.1) (Nat.le_of_ble_eq_true rfl) (Nat.le_of_ble_eq_true rfl) rfl ?_
            obtain ⟨c74, h⟩ := d_ite h
            cases h
            exact y_ret0 (Or.inr c74) ⟨rfl, rfl, s73⟩
      · rw [if_pos c10] at h
        refine wp_iconst ⟨by decide, by decide⟩ ?_
        cases h
        exact y_ret0 (Or.inr (Or.inl rfl)) ⟨rfl, rfl, s9⟩
    · rw [if_pos c5] at h
      refine wp_iconst ⟨by decide, by decide⟩ ?_
      refine wp_goto ?_
      refine y_blk (t := 18) rfl (show fnd bk_X7_readWay 18 = some _ from rfl) aB_X7_readWay ?_
      refine y_stn (L1 := [(2, ((16 : Nat) : Int)), (0, x1.1), (0, (-1)), (9, 0), (9, 0)]) (Nat.le_of_ble_eq_true rfl) rfl ?_
      refine wp_iload_n (v := (-1)) rfl ?_
      refine wp_iconst ⟨by decide, by decide⟩ ?_
      refine y_ne (fun c75 => ?_) (fun c75 => ?_)
      · exact absurd (by decide) c75
      · refine wp_iconst ⟨by decide, by decide⟩ ?_
        cases h
        exact y_ret0 (Or.inr (Or.inl rfl)) ⟨rfl, rfl, s4⟩
  exact ⟨fun d hd => Ms.of3 (key d hd), Ms.sh (key 7 (Nat.le_refl _))⟩
theorem aB_X7_kindHere : ∀ pc, aB 82 pc = fnd bk_X7_kindHere pc := fun _ => rfl
def f_X7_kindHere (T : Nat)  (M : aM) : Option Int :=
 (f_X9_isWord T 2000020 M).bind fun x1 =>
 if x1 = 0 then
 (f_X9_isWord T 2000021 M).bind fun x4 =>
 if x4 = 0 then
 (f_X9_isWord T 2000022 M).bind fun x7 =>
 if x7 = 0 then
 (f_X9_isWord T 2000023 M).bind fun x10 =>
 if x10 = 0 then
 some (-1) else
 some 3 else
 some 2 else
 some 1 else
 some 0
theorem t_X7_kindHere {T : T3}  {M : aM} {y : Int}  (hS : Sh T.1 M) (h : f_X7_kindHere T.1  M = some y) : Mr 5 82 [(2, ((16 : Nat) : Int))] M (some (0, y)) M T := by
  have key : ∀ d, 5 ≤ d → Wp d 82 0 [] [(2, ((16 : Nat) : Int))] [] (M, T) (fun r2 σ2 => r2 = some (0, y) ∧ σ2 = (M, T)) := by
    intro d hd
    rw [f_X7_kindHere] at h
    refine y_blk (t := 0) rfl (show fnd bk_X7_kindHere 0 = some _ from rfl) aB_X7_kindHere ?_
    refine wp_aload_n (v := ((16 : Nat) : Int)) rfl (Int.natCast_nonneg _) ?_
    refine y_get (show ash 16 = (7, 8) from rfl) (Nat.lt_of_lt_of_le (show 16 < 154 by decide) hS.1.1) (v := ((34 : Nat) : Int)) (hS.at 16 3 34 (by decide +kernel)) rfl ?_
    refine y_ldcS (v := 2000020) rfl ?_
    obtain ⟨x1, e2, h⟩ := d_bind h
    refine y_callV (as := [(2, 2000020)]) (S1 := []) (Nat.le_of_ble_eq_true rfl) (by omega) (t_X9_isWord hS e2) (Nat.le_of_ble_eq_true rfl) rfl (show ash 34 = (9, 5) from rfl) (Nat.lt_of_lt_of_le (show 34 < 154 by decide) hS.1.1) (Nat.le_of_ble_eq_true rfl) (Nat.le_of_ble_eq_true rfl) rfl ?_
    refine wp_if_eq (fun c3 => ?_) (fun c3 => ?_)
    · rw [if_pos c3] at h
      refine y_blk (t := 14) rfl (show fnd bk_X7_kindHere 14 = some _ from rfl) aB_X7_kindHere ?_
      refine wp_aload_n (v := ((16 : Nat) : Int)) rfl (Int.natCast_nonneg _) ?_
      refine y_get (show ash 16 = (7, 8) from rfl) (Nat.lt_of_lt_of_le (show 16 < 154 by decide) hS.1.1) (v := ((34 : Nat) : Int)) (hS.at 16 3 34 (by decide +kernel)) rfl ?_
      refine y_ldcS (v := 2000021) rfl ?_
      obtain ⟨x4, e5, h⟩ := d_bind h
      refine y_callV (as := [(2, 2000021)]) (S1 := []) (Nat.le_of_ble_eq_true rfl) (by omega) (t_X9_isWord hS e5) (Nat.le_of_ble_eq_true rfl) rfl (show ash 34 = (9, 5) from rfl) (Nat.lt_of_lt_of_le (show 34 < 154 by decide) hS.1.1) (Nat.le_of_ble_eq_true rfl) (Nat.le_of_ble_eq_true rfl) rfl ?_
      refine wp_if_eq (fun c6 => ?_) (fun c6 => ?_)
      · rw [if_pos c6] at h
        refine y_blk (t := 28) rfl (show fnd bk_X7_kindHere 28 = some _ from rfl) aB_X7_kindHere ?_
        refine wp_aload_n (v := ((16 : Nat) : Int)) rfl (Int.natCast_nonneg _) ?_
        refine y_get (show ash 16 = (7, 8) from rfl) (Nat.lt_of_lt_of_le (show 16 < 154 by decide) hS.1.1) (v := ((34 : Nat) : Int)) (hS.at 16 3 34 (by decide +kernel)) rfl ?_
        refine y_ldcS (v := 2000022) rfl ?_
        obtain ⟨x7, e8, h⟩ := d_bind h
        refine y_callV (as := [(2, 2000022)]) (S1 := []) (Nat.le_of_ble_eq_true rfl) (by omega) (t_X9_isWord hS e8) (Nat.le_of_ble_eq_true rfl) rfl (show ash 34 = (9, 5) from rfl) (Nat.lt_of_lt_of_le (show 34 < 154 by decide) hS.1.1) (Nat.le_of_ble_eq_true rfl) (Nat.le_of_ble_eq_true rfl) rfl ?_
        refine wp_if_eq (fun c9 => ?_) (fun c9 => ?_)
        · rw [if_pos c9] at h
          refine y_blk (t := 42) rfl (show fnd bk_X7_kindHere 42 = some _ from rfl) aB_X7_kindHere ?_
          refine wp_aload_n (v := ((16 : Nat) : Int)) rfl (Int.natCast_nonneg _) ?_
          refine y_get (show ash 16 = (7, 8) from rfl) (Nat.lt_of_lt_of_le (show 16 < 154 by decide) hS.1.1) (v := ((34 : Nat) : Int)) (hS.at 16 3 34 (by decide +kernel)) rfl ?_
          refine y_ldcS (v := 2000023) rfl ?_
          obtain ⟨x10, e11, h⟩ := d_bind h
          refine y_callV (as := [(2, 2000023)]) (S1 := []) (Nat.le_of_ble_eq_true rfl) (by omega) (t_X9_isWord hS e11) (Nat.le_of_ble_eq_true rfl) rfl (show ash 34 = (9, 5) from rfl) (Nat.lt_of_lt_of_le (show 34 < 154 by decide) hS.1.1) (Nat.le_of_ble_eq_true rfl) (Nat.le_of_ble_eq_true rfl) rfl ?_
          refine wp_if_eq (fun c12 => ?_) (fun c12 => ?_)
          · rw [if_pos c12] at h
            refine y_blk (t := 58) rfl (show fnd bk_X7_kindHere 58 = some _ from rfl) aB_X7_kindHere ?_
            refine wp_iconst ⟨by decide, by decide⟩ ?_
            refine y_blk (t := 59) rfl (show fnd bk_X7_kindHere 59 = some _ from rfl) aB_X7_kindHere ?_
            cases h
            exact y_ret0 (Or.inl rfl) ⟨rfl, rfl⟩
          · rw [if_neg c12] at h
            refine wp_iconst ⟨by decide, by decide⟩ ?_
            refine wp_goto ?_
            refine y_blk (t := 59) rfl (show fnd bk_X7_kindHere 59 = some _ from rfl) aB_X7_kindHere ?_
            cases h
            exact y_ret0 (Or.inl rfl) ⟨rfl, rfl⟩
        · rw [if_neg c9] at h
          refine wp_iconst ⟨by decide, by decide⟩ ?_
          cases h
          exact y_ret0 (Or.inl rfl) ⟨rfl, rfl⟩
      · rw [if_neg c6] at h
        refine wp_iconst ⟨by decide, by decide⟩ ?_
        cases h
        exact y_ret0 (Or.inl rfl) ⟨rfl, rfl⟩
    · rw [if_neg c3] at h
      refine wp_iconst ⟨by decide, by decide⟩ ?_
      cases h
      exact y_ret0 (Or.inl rfl) ⟨rfl, rfl⟩
  exact fun d hd => Ms.of (key d hd)
theorem aB_X7_readVoice : ∀ pc, aB 75 pc = fnd bk_X7_readVoice pc := fun _ => rfl
def f_X7_readVoice (T : Nat)  (M : aM) : Option (Int × aM) :=
 (f_X7_readNewName T 3 M).bind fun x1 =>
 if x1.1 = 0 then
 some (0, x1.2) else
 (f_X7_kindHere T x1.2).bind fun x6 =>
 if 0 ≤ (M 18 3) ∧ (M 18 3) < 3 then
 (some (aup x1.2 23 ((M 18 3)).toNat x6)).bind fun m9 =>
 if (m9 23 ((M 18 3)).toNat) = (-1) then
 (f_X7_fails T 1 m9).bind fun x31 =>
 if x31.1 = 0 ∨ x31.1 = 1 then
 some (x31.1, x31.2) else none else
 (f_X9_advance T m9).bind fun x12 =>
 (f_X7_readWord T 2000008 x12.2).bind fun x16 =>
 if x16.1 = 0 then
 (some (aup x16.2 24 ((M 18 3)).toNat (-1))).bind fun m21 =>
 if (m21 24 ((M 18 3)).toNat) = (-1) then
 some (0, m21) else
 some (1, m21) else
 (f_X7_readFirstCave T x16.2).bind fun x24 =>
 (some (aup x24.2 24 ((M 18 3)).toNat x24.1)).bind fun m28 =>
 if (m28 24 ((M 18 3)).toNat) = (-1) then
 some (0, m28) else
 some (1, m28) else none
theorem t_X7_readVoice {T : T3}  {M : aM} {y : (Int × aM)}  (hS : Sh T.1 M) (h : f_X7_readVoice T.1  M = some y) : Mr 6 75 [(2, ((16 : Nat) : Int))] M (some (0, y.1)) y.2 T ∧ Sh T.1 y.2 := by
  have key : ∀ d, 6 ≤ d → Wp d 75 0 [] [(2, ((16 : Nat) : Int)), (9, 0)] [] (M, T) (fun r2 σ2 => r2 = some (0, y.1) ∧ σ2 = (y.2, T) ∧ Sh T.1 y.2) := by
    intro d hd
    rw [f_X7_readVoice] at h
    refine y_blk (t := 0) rfl (show fnd bk_X7_readVoice 0 = some _ from rfl) aB_X7_readVoice ?_
    refine wp_aload_n (v := ((16 : Nat) : Int)) rfl (Int.natCast_nonneg _) ?_
    refine y_get (show ash 16 = (7, 8) from rfl) (Nat.lt_of_lt_of_le (show 16 < 154 by decide) hS.1.1) (v := ((17 : Nat) : Int)) (hS.at 16 0 17 (by decide +kernel)) rfl ?_
    refine y_get (show ash 17 = (10, 19) from rfl) (Nat.lt_of_lt_of_le (show 17 < 154 by decide) hS.1.1) (v := ((18 : Nat) : Int)) (hS.at 17 3 18 (by decide +kernel)) rfl ?_
    refine wp_iconst ⟨by decide, by decide⟩ ?_
    refine y_iald (show ash 18 = (100, 8) from rfl) (Or.inl (Nat.lt_of_lt_of_le (show 18 < 154 by decide) hS.1.1)) (Nat.ne_of_lt (Nat.lt_of_lt_of_le (Nat.lt_of_lt_of_le (show 18 < 154 by decide) hS.1.1) hS.1.2)) ⟨by decide, by decide⟩ (v := M 18 3) rfl ?_
    refine y_stn (L1 := [(2, ((16 : Nat) : Int)), (0, (M 18 3))]) (Nat.le_of_ble_eq_true rfl) rfl ?_
    refine wp_aload_n (v := ((16 : Nat) : Int)) rfl (Int.natCast_nonneg _) ?_
    refine wp_iconst ⟨by decide, by decide⟩ ?_
    obtain ⟨x1, e2, h⟩ := d_bind h
    obtain ⟨r3, s4⟩ := t_X7_readNewName hS e2
    refine y_callV (as := [(0, 3)]) (S1 := []) (Nat.le_of_ble_eq_true rfl) (by omega) r3 (Nat.le_of_ble_eq_true rfl) rfl (show ash 16 = (7, 8) from rfl) (Nat.lt_of_lt_of_le (show 16 < 154 by decide) hS.1.1) (Nat.le_of_ble_eq_true rfl) (Nat.le_of_ble_eq_true rfl) rfl ?_
    refine y_nez (fun c5 => ?_) (fun c5 => ?_)
    · rw [if_neg c5] at h
      refine y_blk (t := 20) rfl (show fnd bk_X7_readVoice 20 = some _ from rfl) aB_X7_readVoice ?_
      refine wp_aload_n (v := ((16 : Nat) : Int)) rfl (Int.natCast_nonneg _) ?_
      refine y_get (show ash 16 = (7, 8) from rfl) (Nat.lt_of_lt_of_le (show 16 < 154 by decide) hS.1.1) (v := ((17 : Nat) : Int)) (s4.at 16 0 17 (by decide +kernel)) rfl ?_
      refine y_get (show ash 17 = (10, 19) from rfl) (Nat.lt_of_lt_of_le (show 17 < 154 by decide) hS.1.1) (v := ((23 : Nat) : Int)) (s4.at 17 10 23 (by decide +kernel)) rfl ?_
      refine wp_iload_n (v := (M 18 3)) rfl ?_
      refine wp_aload_n (v := ((16 : Nat) : Int)) rfl (Int.natCast_nonneg _) ?_
      obtain ⟨x6, e7, h⟩ := d_bind h
      refine y_callV (as := []) (S1 := [(0, (M 18 3)), (2, ((23 : Nat) : Int))]) (Nat.le_of_ble_eq_true rfl) (by omega) (t_X7_kindHere s4 e7) (Nat.le_of_ble_eq_true rfl) rfl (show ash 16 = (7, 8) from rfl) (Nat.lt_of_lt_of_le (show 16 < 154 by decide) hS.1.1) (Nat.le_of_ble_eq_true rfl) (Nat.le_of_ble_eq_true rfl) rfl ?_
      obtain ⟨c8, h⟩ := d_ite h
      refine y_iast (show ash 23 = (100, 3) from rfl) (Nat.lt_of_lt_of_le (show 23 < 154 by decide) hS.1.1) c8 ?_
      obtain ⟨m9, em9, h⟩ := d_bind h
      have em9 := Option.some.inj em9
      have s10 : Sh T.1 m9 := em9 ▸ s4.up (Or.inl ⟨by rw [(show ash 23 = (100, 3) from rfl)]; exact Nat.le_of_ble_eq_true rfl, by rw [(show ash 23 = (100, 3) from rfl)]; exact Nat.le_of_ble_eq_true rfl⟩) (by have := (Nat.lt_of_lt_of_le (show 23 < 154 by decide) hS.1.1); have := hS.1.2; omega)
      rw [em9]
      refine wp_aload_n (v := ((16 : Nat) : Int)) rfl (Int.natCast_nonneg _) ?_
      refine y_get (show ash 16 = (7, 8) from rfl) (Nat.lt_of_lt_of_le (show 16 < 154 by decide) hS.1.1) (v := ((17 : Nat) : Int)) (s10.at 16 0 17 (by decide +kernel)) rfl ?_
      refine y_get (show ash 17 = (10, 19) from rfl) (Nat.lt_of_lt_of_le (show 17 < 154 by decide) hS.1.1) (v := ((23 : Nat) : Int)) (s10.at 17 10 23 (by decide +kernel)) rfl ?_
      refine wp_iload_n (v := (M 18 3)) rfl ?_
      refine y_iald (show ash 23 = (100, 3) from rfl) (Or.inl (Nat.lt_of_lt_of_le (show 23 < 154 by decide) hS.1.1)) (Nat.ne_of_lt (Nat.lt_of_lt_of_le (Nat.lt_of_lt_of_le (show 23 < 154 by decide) hS.1.1) hS.1.2)) c8 (v := m9 23 ((M 18 3)).toNat) rfl ?_
      refine wp_iconst ⟨by decide, by decide⟩ ?_
      refine y_ne (fun c11 => ?_) (fun c11 => ?_)
      · rw [if_neg c11] at h
        refine y_blk (t := 52) rfl (show fnd bk_X7_readVoice 52 = some _ from rfl) aB_X7_readVoice ?_
        refine wp_aload_n (v := ((16 : Nat) : Int)) rfl (Int.natCast_nonneg _) ?_
        refine y_get (show ash 16 = (7, 8) from rfl) (Nat.lt_of_lt_of_le (show 16 < 154 by decide) hS.1.1) (v := ((34 : Nat) : Int)) (s10.at 16 3 34 (by decide +kernel)) rfl ?_
        obtain ⟨x12, e13, h⟩ := d_bind h
        obtain ⟨r14, s15⟩ := t_X9_advance s10 e13
        refine y_callVv (as := []) (S1 := []) (Nat.le_of_ble_eq_true rfl) (by omega) r14 rfl (show ash 34 = (9, 5) from rfl) (Nat.lt_of_lt_of_le (show 34 < 154 by decide) hS.1.1) (Nat.le_of_ble_eq_true rfl) (Nat.le_of_ble_eq_true rfl) rfl ?_
        refine wp_aload_n (v := ((16 : Nat) : Int)) rfl (Int.natCast_nonneg _) ?_
        refine y_get (show ash 16 = (7, 8) from rfl) (Nat.lt_of_lt_of_le (show 16 < 154 by decide) hS.1.1) (v := ((17 : Nat) : Int)) (s15.at 16 0 17 (by decide +kernel)) rfl ?_
        refine y_get (show ash 17 = (10, 19) from rfl) (Nat.lt_of_lt_of_le (show 17 < 154 by decide) hS.1.1) (v := ((24 : Nat) : Int)) (s15.at 17 11 24 (by decide +kernel)) rfl ?_
        refine wp_iload_n (v := (M 18 3)) rfl ?_
        refine wp_aload_n (v := ((16 : Nat) : Int)) rfl (Int.natCast_nonneg _) ?_
        refine y_ldcS (v := 2000008) rfl ?_
        obtain ⟨x16, e17, h⟩ := d_bind h
        obtain ⟨r18, s19⟩ := t_X7_readWord s15 e17
        refine y_callV (as := [(2, 2000008)]) (S1 := [(0, (M 18 3)), (2, ((24 : Nat) : Int))]) (Nat.le_of_ble_eq_true rfl) (by omega) r18 (Nat.le_of_ble_eq_true rfl) rfl (show ash 16 = (7, 8) from rfl) (Nat.lt_of_lt_of_le (show 16 < 154 by decide) hS.1.1) (Nat.le_of_ble_eq_true rfl) (Nat.le_of_ble_eq_true rfl) rfl ?_
        refine wp_if_eq (fun c20 => ?_) (fun c20 => ?_)
        · rw [if_pos c20] at h
          refine y_blk (t := 83) rfl (show fnd bk_X7_readVoice 83 = some _ from rfl) aB_X7_readVoice ?_
          refine wp_iconst ⟨by decide, by decide⟩ ?_
          refine y_blk (t := 84) rfl (show fnd bk_X7_readVoice 84 = some _ from rfl) aB_X7_readVoice ?_
          refine y_iast (show ash 24 = (100, 3) from rfl) (Nat.lt_of_lt_of_le (show 24 < 154 by decide) hS.1.1) c8 ?_
          obtain ⟨m21, em21, h⟩ := d_bind h
          have em21 := Option.some.inj em21
          have s22 : Sh T.1 m21 := em21 ▸ s19.up (Or.inl ⟨by rw [(show ash 24 = (100, 3) from rfl)]; exact Nat.le_of_ble_eq_true rfl, by rw [(show ash 24 = (100, 3) from rfl)]; exact Nat.le_of_ble_eq_true rfl⟩) (by have := (Nat.lt_of_lt_of_le (show 24 < 154 by decide) hS.1.1); have := hS.1.2; omega)
          rw [em21]
          refine wp_aload_n (v := ((16 : Nat) : Int)) rfl (Int.natCast_nonneg _) ?_
          refine y_get (show ash 16 = (7, 8) from rfl) (Nat.lt_of_lt_of_le (show 16 < 154 by decide) hS.1.1) (v := ((17 : Nat) : Int)) (s22.at 16 0 17 (by decide +kernel)) rfl ?_
          refine y_get (show ash 17 = (10, 19) from rfl) (Nat.lt_of_lt_of_le (show 17 < 154 by decide) hS.1.1) (v := ((24 : Nat) : Int)) (s22.at 17 11 24 (by decide +kernel)) rfl ?_
          refine wp_iload_n (v := (M 18 3)) rfl ?_
          refine y_iald (show ash 24 = (100, 3) from rfl) (Or.inl (Nat.lt_of_lt_of_le (show 24 < 154 by decide) hS.1.1)) (Nat.ne_of_lt (Nat.lt_of_lt_of_le (Nat.lt_of_lt_of_le (show 24 < 154 by decide) hS.1.1) hS.1.2)) c8 (v := m21 24 ((M 18 3)).toNat) rfl ?_
          refine wp_iconst ⟨by decide, by decide⟩ ?_
          refine wp_icmp_eq (fun c23 => ?_) (fun c23 => ?_)
          · rw [if_pos c23] at h
            refine y_blk (t := 102) rfl (show fnd bk_X7_readVoice 102 = some _ from rfl) aB_X7_readVoice ?_
            refine wp_iconst ⟨by decide, by decide⟩ ?_
            refine y_blk (t := 103) rfl (show fnd bk_X7_readVoice 103 = some _ from rfl) aB_X7_readVoice ?_
            cases h
            exact y_ret0 (Or.inr (Or.inl rfl)) ⟨rfl, rfl, s22⟩
          · rw [if_neg c23] at h
            refine wp_iconst ⟨by decide, by decide⟩ ?_
            refine wp_goto ?_
            refine y_blk (t := 103) rfl (show fnd bk_X7_readVoice 103 = some _ from rfl) aB_X7_readVoice ?_
            cases h
            exact y_ret0 (Or.inr (Or.inr rfl)) ⟨rfl, rfl, s22⟩
        · rw [if_neg c20] at h
          refine wp_aload_n (v := ((16 : Nat) : Int)) rfl (Int.natCast_nonneg _) ?_
          obtain ⟨x24, e25, h⟩ := d_bind h
          obtain ⟨r26, s27⟩ := t_X7_readFirstCave s19 e25
          refine y_callV (as := []) (S1 := [(0, (M 18 3)), (2, ((24 : Nat) : Int))]) (Nat.le_of_ble_eq_true rfl) (by omega) r26 (Nat.le_of_ble_eq_true rfl) rfl (show ash 16 = (7, 8) from rfl) (Nat.lt_of_lt_of_le (show 16 < 154 by decide) hS.1.1) (Nat.le_of_ble_eq_true rfl) (Nat.le_of_ble_eq_true rfl) rfl ?_
          refine wp_goto ?_
          refine y_blk (t := 84) rfl (show fnd bk_X7_readVoice 84 = some _ from rfl) aB_X7_readVoice ?_
          refine y_iast (show ash 24 = (100, 3) from rfl) (Nat.lt_of_lt_of_le (show 24 < 154 by decide) hS.1.1) c8 ?_
          obtain ⟨m28, em28, h⟩ := d_bind h
          have em28 := Option.some.inj em28
          have s29 : Sh T.1 m28 := em28 ▸ s27.up (Or.inl ⟨by rw [(show ash 24 = (100, 3) from rfl)]; exact Nat.le_of_ble_eq_true rfl, by rw [(show ash 24 = (100, 3) from rfl)]; exact Nat.le_of_ble_eq_true rfl⟩) (by have := (Nat.lt_of_lt_of_le (show 24 < 154 by decide) hS.1.1); have := hS.1.2; omega)
          rw [em28]
          refine wp_aload_n (v := ((16 : Nat) : Int)) rfl (Int.natCast_nonneg _) ?_
          refine y_get (show ash 16 = (7, 8) from rfl) (Nat.lt_of_lt_of_le (show 16 < 154 by decide) hS.1.1) (v := ((17 : Nat) : Int)) (s29.at 16 0 17 (by decide +kernel)) rfl ?_
          refine y_get (show ash 17 = (10, 19) from rfl) (Nat.lt_of_lt_of_le (show 17 < 154 by decide) hS.1.1) (v := ((24 : Nat) : Int)) (s29.at 17 11 24 (by decide +kernel)) rfl ?_
          refine wp_iload_n (v := (M 18 3)) rfl ?_
          refine y_iald (show ash 24 = (100, 3) from rfl) (Or.inl (Nat.lt_of_lt_of_le (show 24 < 154 by decide) hS.1.1)) (Nat.ne_of_lt (Nat.lt_of_lt_of_le (Nat.lt_of_lt_of_le (show 24 < 154 by decide) hS.1.1) hS.1.2)) c8 (v := m28 24 ((M 18 3)).toNat) rfl ?_
          refine wp_iconst ⟨by decide, by decide⟩ ?_
          refine wp_icmp_eq (fun c30 => ?_) (fun c30 => ?_)
          · rw [if_pos c30] at h
            refine y_blk (t := 102) rfl (show fnd bk_X7_readVoice 102 = some _ from rfl) aB_X7_readVoice ?_
            refine wp_iconst ⟨by decide, by decide⟩ ?_
            refine y_blk (t := 103) rfl (show fnd bk_X7_readVoice 103 = some _ from rfl) aB_X7_readVoice ?_
            cases h
            exact y_ret0 (Or.inr (Or.inl rfl)) ⟨rfl, rfl, s29⟩
          · rw [if_neg c30] at h
            refine wp_iconst ⟨by decide, by decide⟩ ?_
            refine wp_goto ?_
            refine y_blk (t := 103) rfl (show fnd bk_X7_readVoice 103 = some _ from rfl) aB_X7_readVoice ?_
            cases h
            exact y_ret0 (Or.inr (Or.inr rfl)) ⟨rfl, rfl, s29⟩
      · rw [if_pos c11] at h
        refine wp_aload_n (v := ((16 : Nat) : Int)) rfl (Int.natCast_nonneg _) ?_
        refine wp_iconst ⟨by decide, by decide⟩ ?_
        obtain ⟨x31, e32, h⟩ := d_bind h
        obtain ⟨r33, s34⟩ := t_X7_fails s10 e32
        refine y_callV (as := [(0, 1)]) (S1 := []) (Nat.le_of_ble_eq_true rfl) (by omega) r33 (Nat.le_of_ble_eq_true rfl) rfl (show ash 16 = (7, 8) from rfl) (Nat.lt_of_lt_of_le (show 16 < 154 by decide) hS.1.1) (Nat.le_of_ble_eq_true rfl) (Nat.le_of_ble_eq_true rfl) rfl ?_
        obtain ⟨c35, h⟩ := d_ite h
        cases h
        exact y_ret0 (Or.inr c35) ⟨rfl, rfl, s34⟩
    · rw [if_pos c5] at h
      refine wp_iconst ⟨by decide, by decide⟩ ?_
      cases h
      exact y_ret0 (Or.inr (Or.inl rfl)) ⟨rfl, rfl, s4⟩
  exact ⟨fun d hd => Ms.of3 (key d hd), Ms.sh (key 6 (Nat.le_refl _))⟩
theorem aB_X7_readFolk : ∀ pc, aB 76 pc = fnd bk_X7_readFolk pc := fun _ => rfl
def f_X7_readFolk (T : Nat)  (M : aM) : Option (Int × aM) :=
 (f_X7_readNewName T 4 M).bind fun x1 =>
 if x1.1 = 0 then
 some (0, x1.2) else
 (f_X7_readWord T 2000008 x1.2).bind fun x6 =>
 if x6.1 = 0 then
 if 0 ≤ (M 18 4) ∧ (M 18 4) < 4 then
 (some (aup x6.2 25 ((M 18 4)).toNat (-1))).bind fun m12 =>
 if (m12 25 ((M 18 4)).toNat) = (-1) then
 some (0, m12) else
 some (1, m12) else none else
 (f_X7_readFirstCave T x6.2).bind fun x15 =>
 if 0 ≤ (M 18 4) ∧ (M 18 4) < 4 then
 (some (aup x15.2 25 ((M 18 4)).toNat x15.1)).bind fun m20 =>
 if (m20 25 ((M 18 4)).toNat) = (-1) then
 some (0, m20) else
 some (1, m20) else none
theorem t_X7_readFolk {T : T3}  {M : aM} {y : (Int × aM)}  (hS : Sh T.1 M) (h : f_X7_readFolk T.1  M = some y) : Mr 6 76 [(2, ((16 : Nat) : Int))] M (some (0, y.1)) y.2 T ∧ Sh T.1 y.2 := by
  have key : ∀ d, 6 ≤ d → Wp d 76 0 [] [(2, ((16 : Nat) : Int)), (9, 0)] [] (M, T) (fun r2 σ2 => r2 = some (0, y.1) ∧ σ2 = (y.2, T) ∧ Sh T.1 y.2) := by
    intro d hd
    rw [f_X7_readFolk] at h
    refine y_blk (t := 0) rfl (show fnd bk_X7_readFolk 0 = some _ from rfl) aB_X7_readFolk ?_
    refine wp_aload_n (v := ((16 : Nat) : Int)) rfl (Int.natCast_nonneg _) ?_
    refine y_get (show ash 16 = (7, 8) from rfl) (Nat.lt_of_lt_of_le (show 16 < 154 by decide) hS.1.1) (v := ((17 : Nat) : Int)) (hS.at 16 0 17 (by decide +kernel)) rfl ?_
    refine y_get (show ash 17 = (10, 19) from rfl) (Nat.lt_of_lt_of_le (show 17 < 154 by decide) hS.1.1) (v := ((18 : Nat) : Int)) (hS.at 17 3 18 (by decide +kernel)) rfl ?_
    refine wp_iconst ⟨by decide, by decide⟩ ?_
    refine y_iald (show ash 18 = (100, 8) from rfl) (Or.inl (Nat.lt_of_lt_of_le (show 18 < 154 by decide) hS.1.1)) (Nat.ne_of_lt (Nat.lt_of_lt_of_le (Nat.lt_of_lt_of_le (show 18 < 154 by decide) hS.1.1) hS.1.2)) ⟨by decide, by decide⟩ (v := M 18 4) rfl ?_
    refine y_stn (L1 := [(2, ((16 : Nat) : Int)), (0, (M 18 4))]) (Nat.le_of_ble_eq_true rfl) rfl ?_
    refine wp_aload_n (v := ((16 : Nat) : Int)) rfl (Int.natCast_nonneg _) ?_
    refine wp_iconst ⟨by decide, by decide⟩ ?_
    obtain ⟨x1, e2, h⟩ := d_bind h
    obtain ⟨r3, s4⟩ := t_X7_readNewName hS e2
    refine y_callV (as := [(0, 4)]) (S1 := []) (Nat.le_of_ble_eq_true rfl) (by omega) r3 (Nat.le_of_ble_eq_true rfl) rfl (show ash 16 = (7, 8) from rfl) (Nat.lt_of_lt_of_le (show 16 < 154 by decide) hS.1.1) (Nat.le_of_ble_eq_true rfl) (Nat.le_of_ble_eq_true rfl) rfl ?_
    refine y_nez (fun c5 => ?_) (fun c5 => ?_)
    · rw [if_neg c5] at h
      refine y_blk (t := 20) rfl (show fnd bk_X7_readFolk 20 = some _ from rfl) aB_X7_readFolk ?_
      refine wp_aload_n (v := ((16 : Nat) : Int)) rfl (Int.natCast_nonneg _) ?_
      refine y_get (show ash 16 = (7, 8) from rfl) (Nat.lt_of_lt_of_le (show 16 < 154 by decide) hS.1.1) (v := ((17 : Nat) : Int)) (s4.at 16 0 17 (by decide +kernel)) rfl ?_
      refine y_get (show ash 17 = (10, 19) from rfl) (Nat.lt_of_lt_of_le (show 17 < 154 by decide) hS.1.1) (v := ((25 : Nat) : Int)) (s4.at 17 12 25 (by decide +kernel)) rfl ?_
      refine wp_iload_n (v := (M 18 4)) rfl ?_
      refine wp_aload_n (v := ((16 : Nat) : Int)) rfl (Int.natCast_nonneg _) ?_
      refine y_ldcS (v := 2000008) rfl ?_
      obtain ⟨x6, e7, h⟩ := d_bind h
      obtain ⟨r8, s9⟩ := t_X7_readWord s4 e7
      refine y_callV (as := [(2, 2000008)]) (S1 := [(0, (M 18 4)), (2, ((25 : Nat) : Int))]) (Nat.le_of_ble_eq_true rfl) (by omega) r8 (Nat.le_of_ble_eq_true rfl) rfl (show ash 16 = (7, 8) from rfl) (Nat.lt_of_lt_of_le (show 16 < 154 by decide) hS.1.1) (Nat.le_of_ble_eq_true rfl) (Nat.le_of_ble_eq_true rfl) rfl ?_
      refine wp_if_eq (fun c10 => ?_) (fun c10 => ?_)
      · rw [if_pos c10] at h
        refine y_blk (t := 44) rfl (show fnd bk_X7_readFolk 44 = some _ from rfl) aB_X7_readFolk ?_
        refine wp_iconst ⟨by decide, by decide⟩ ?_
        refine y_blk (t := 45) rfl (show fnd bk_X7_readFolk 45 = some _ from rfl) aB_X7_readFolk ?_
        obtain ⟨c11, h⟩ := d_ite h
        refine y_iast (show ash 25 = (100, 4) from rfl) (Nat.lt_of_lt_of_le (show 25 < 154 by decide) hS.1.1) c11 ?_
        obtain ⟨m12, em12, h⟩ := d_bind h
        have em12 := Option.some.inj em12
        have s13 : Sh T.1 m12 := em12 ▸ s9.up (Or.inl ⟨by rw [(show ash 25 = (100, 4) from rfl)]; exact Nat.le_of_ble_eq_true rfl, by rw [(show ash 25 = (100, 4) from rfl)]; exact Nat.le_of_ble_eq_true rfl⟩) (by have := (Nat.lt_of_lt_of_le (show 25 < 154 by decide) hS.1.1); have := hS.1.2; omega)
        rw [em12]
        refine wp_aload_n (v := ((16 : Nat) : Int)) rfl (Int.natCast_nonneg _) ?_
        refine y_get (show ash 16 = (7, 8) from rfl) (Nat.lt_of_lt_of_le (show 16 < 154 by decide) hS.1.1) (v := ((17 : Nat) : Int)) (s13.at 16 0 17 (by decide +kernel)) rfl ?_
        refine y_get (show ash 17 = (10, 19) from rfl) (Nat.lt_of_lt_of_le (show 17 < 154 by decide) hS.1.1) (v := ((25 : Nat) : Int)) (s13.at 17 12 25 (by decide +kernel)) rfl ?_
        refine wp_iload_n (v := (M 18 4)) rfl ?_
        refine y_iald (show ash 25 = (100, 4) from rfl) (Or.inl (Nat.lt_of_lt_of_le (show 25 < 154 by decide) hS.1.1)) (Nat.ne_of_lt (Nat.lt_of_lt_of_le (Nat.lt_of_lt_of_le (show 25 < 154 by decide) hS.1.1) hS.1.2)) c11 (v := m12 25 ((M 18 4)).toNat) rfl ?_
        refine wp_iconst ⟨by decide, by decide⟩ ?_
        refine wp_icmp_eq (fun c14 => ?_) (fun c14 => ?_)
        · rw [if_pos c14] at h
          refine y_blk (t := 63) rfl (show fnd bk_X7_readFolk 63 = some _ from rfl) aB_X7_readFolk ?_
          refine wp_iconst ⟨by decide, by decide⟩ ?_
          refine y_blk (t := 64) rfl (show fnd bk_X7_readFolk 64 = some _ from rfl) aB_X7_readFolk ?_
          cases h
          exact y_ret0 (Or.inr (Or.inl rfl)) ⟨rfl, rfl, s13⟩
        · rw [if_neg c14] at h
          refine wp_iconst ⟨by decide, by decide⟩ ?_
          refine wp_goto ?_
          refine y_blk (t := 64) rfl (show fnd bk_X7_readFolk 64 = some _ from rfl) aB_X7_readFolk ?_
          cases h
          exact y_ret0 (Or.inr (Or.inr rfl)) ⟨rfl, rfl, s13⟩
      · rw [if_neg c10] at h
        refine wp_aload_n (v := ((16 : Nat) : Int)) rfl (Int.natCast_nonneg _) ?_
        obtain ⟨x15, e16, h⟩ := d_bind h
        obtain ⟨r17, s18⟩ := t_X7_readFirstCave s9 e16
        refine y_callV (as := []) (S1 := [(0, (M 18 4)), (2, ((25 : Nat) : Int))]) (Nat.le_of_ble_eq_true rfl) (by omega) r17 (Nat.le_of_ble_eq_true rfl) rfl (show ash 16 = (7, 8) from rfl) (Nat.lt_of_lt_of_le (show 16 < 154 by decide) hS.1.1) (Nat.le_of_ble_eq_true rfl) (Nat.le_of_ble_eq_true rfl) rfl ?_
        refine wp_goto ?_
        refine y_blk (t := 45) rfl (show fnd bk_X7_readFolk 45 = some _ from rfl) aB_X7_readFolk ?_
        obtain ⟨c19, h⟩ := d_ite h
        refine y_iast (show ash 25 = (100, 4) from rfl) (Nat.lt_of_lt_of_le (show 25 < 154 by decide) hS.1.1) c19 ?_
        obtain ⟨m20, em20, h⟩ := d_bind h
        have em20 := Option.some.inj em20
        have s21 : Sh T.1 m20 := em20 ▸ s18.up (Or.inl ⟨by rw [(show ash 25 = (100, 4) from rfl)]; exact Nat.le_of_ble_eq_true rfl, by rw [(show ash 25 = (100, 4) from rfl)]; exact Nat.le_of_ble_eq_true rfl⟩) (by have := (Nat.lt_of_lt_of_le (show 25 < 154 by decide) hS.1.1); have := hS.1.2; omega)
        rw [em20]
        refine wp_aload_n (v := ((16 : Nat) : Int)) rfl (Int.natCast_nonneg _) ?_
        refine y_get (show ash 16 = (7, 8) from rfl) (Nat.lt_of_lt_of_le (show 16 < 154 by decide) hS.1.1) (v := ((17 : Nat) : Int)) (s21.at 16 0 17 (by decide +kernel)) rfl ?_
        refine y_get (show ash 17 = (10, 19) from rfl) (Nat.lt_of_lt_of_le (show 17 < 154 by decide) hS.1.1) (v := ((25 : Nat) : Int)) (s21.at 17 12 25 (by decide +kernel)) rfl ?_
        refine wp_iload_n (v := (M 18 4)) rfl ?_
        refine y_iald (show ash 25 = (100, 4) from rfl) (Or.inl (Nat.lt_of_lt_of_le (show 25 < 154 by decide) hS.1.1)) (Nat.ne_of_lt (Nat.lt_of_lt_of_le (Nat.lt_of_lt_of_le (show 25 < 154 by decide) hS.1.1) hS.1.2)) c19 (v := m20 25 ((M 18 4)).toNat) rfl ?_
        refine wp_iconst ⟨by decide, by decide⟩ ?_
        refine wp_icmp_eq (fun c22 => ?_) (fun c22 => ?_)
        · rw [if_pos c22] at h
          refine y_blk (t := 63) rfl (show fnd bk_X7_readFolk 63 = some _ from rfl) aB_X7_readFolk ?_
          refine wp_iconst ⟨by decide, by decide⟩ ?_
          refine y_blk (t := 64) rfl (show fnd bk_X7_readFolk 64 = some _ from rfl) aB_X7_readFolk ?_
          cases h
          exact y_ret0 (Or.inr (Or.inl rfl)) ⟨rfl, rfl, s21⟩
        · rw [if_neg c22] at h
          refine wp_iconst ⟨by decide, by decide⟩ ?_
          refine wp_goto ?_
          refine y_blk (t := 64) rfl (show fnd bk_X7_readFolk 64 = some _ from rfl) aB_X7_readFolk ?_
          cases h
          exact y_ret0 (Or.inr (Or.inr rfl)) ⟨rfl, rfl, s21⟩
    · rw [if_pos c5] at h
      refine wp_iconst ⟨by decide, by decide⟩ ?_
      cases h
      exact y_ret0 (Or.inr (Or.inl rfl)) ⟨rfl, rfl, s4⟩
  exact ⟨fun d hd => Ms.of3 (key d hd), Ms.sh (key 6 (Nat.le_refl _))⟩
theorem aB_X10_hasEcho : ∀ pc, aB 112 pc = fnd bk_X10_hasEcho pc := fun _ => rfl
def l_X10_hasEcho_2 (T : Nat) (e0 : Nat) (v1 : Int) (M : aM) (k : Int → Option Int) : Nat → Int → Option Int
| 0, _ => none
| n + 1, v2 =>
 if (M (e0 + 1) 5) ≤ v2 then
 k v2 else
 if 0 ≤ v2 ∧ v2 < 4 then
 if (M (e0 + 9) (v2).toNat) = v1 then
 some 1 else
 if aIn (v2 + 1) then
 l_X10_hasEcho_2 T e0 v1 M k n (v2 + 1) else none else none
theorem tl_X10_hasEcho_2 {d : Nat} (hd : 0 ≤ d) {T : T3} {e0 : Nat} {v1 : Int} {M : aM} {k : Int → Option Int} {y : Int} (he0 : isTold e0) (hS : Sh T.1 M)
    (hk : ∀ (v2 : Int), Sh T.1 M → k v2 = some y → Wp d 112 30 [] [(2, ((e0 : Nat) : Int)), (0, v1), (0, v2)] [] (M, T) (fun r2 σ2 => r2 = some (0, y) ∧ σ2 = (M, T))) :
    ∀ (n : Nat) (v2 : Int), Sh T.1 M → l_X10_hasEcho_2 T.1 e0 v1 M k n v2 = some y → Wp d 112 2 [] [(2, ((e0 : Nat) : Int)), (0, v1), (0, v2)] [] (M, T) (fun r2 σ2 => r2 = some (0, y) ∧ σ2 = (M, T)) := by
  intro n
  induction n with
  | zero =>
    intro v2 _ h
    exact nomatch (show (none : Option Int) = some y from h)
  | succ n ih =>
    intro v2 sM h
    rw [l_X10_hasEcho_2] at h
    refine y_blk (t := 2) rfl (show fnd bk_X10_hasEcho 2 = some _ from rfl) aB_X10_hasEcho ?_
    refine wp_iload_n (v := v2) rfl ?_
    refine wp_aload_n (v := ((e0 : Nat) : Int)) rfl (Int.natCast_nonneg _) ?_
    refine y_get (aTold0 he0) (ltTold hS.1.1 he0 0 (by decide)) (v := (((e0 + 1) : Nat) : Int)) (rTold3 sM he0) rfl ?_
    refine wp_iconst ⟨by decide, by decide⟩ ?_
    refine y_iald (aTold1 he0) (Or.inl (ltTold hS.1.1 he0 1 (by decide))) (Nat.ne_of_lt (Nat.lt_of_lt_of_le (ltTold hS.1.1 he0 1 (by decide)) hS.1.2)) ⟨by decide, by decide⟩ (v := M (e0 + 1) 5) rfl ?_
    refine wp_icmp_ge (fun c1 => ?_) (fun c1 => ?_)
    · rw [if_pos c1] at h
      exact hk v2   sM h
    · rw [if_neg c1] at h
      refine wp_aload_n (v := ((e0 : Nat) : Int)) rfl (Int.natCast_nonneg _) ?_
      refine y_get (aTold0 he0) (ltTold hS.1.1 he0 0 (by decide)) (v := (((e0 + 9) : Nat) : Int)) (rTold13 sM he0) rfl ?_
      refine wp_iload_n (v := v2) rfl ?_
      obtain ⟨c2, h⟩ := d_ite h
      refine y_iald (aTold9 he0) (Or.inl (ltTold hS.1.1 he0 9 (by decide))) (Nat.ne_of_lt (Nat.lt_of_lt_of_le (ltTold hS.1.1 he0 9 (by decide)) hS.1.2)) c2 (v := M (e0 + 9) (v2).toNat) rfl ?_
      refine wp_iload_n (v := v1) rfl ?_
      refine y_ne (fun c3 => ?_) (fun c3 => ?_)
      · rw [if_neg c3] at h
        refine y_blk (t := 24) rfl (show fnd bk_X10_hasEcho 24 = some _ from rfl) aB_X10_hasEcho ?_
        obtain ⟨c4, h⟩ := d_ite h
        refine y_iinc (L1 := [(2, ((e0 : Nat) : Int)), (0, v1), (0, (v2 + 1))]) rfl (Nat.le_of_ble_eq_true rfl) ⟨by decide, by decide⟩ c4 rfl ?_
        refine wp_goto ?_
        exact ih (v2 + 1)   sM h
      · rw [if_pos c3] at h
        refine wp_iconst ⟨by decide, by decide⟩ ?_
        cases h
        exact y_ret0 (Or.inr (Or.inr rfl)) ⟨rfl, rfl⟩
def f_X10_hasEcho (T : Nat) (e0 : Nat) (v1 : Int) (M : aM) : Option Int :=
 l_X10_hasEcho_2 T e0 v1 M (fun w5 =>
 some 0) FU 0
theorem t_X10_hasEcho {T : T3} {e0 : Nat} {v1 : Int} {M : aM} {y : Int} (he0 : isTold e0) (hS : Sh T.1 M) (h : f_X10_hasEcho T.1 e0 v1 M = some y) : Mr 0 112 [(2, ((e0 : Nat) : Int)), (0, v1)] M (some (0, y)) M T := by
  have key : ∀ d, 0 ≤ d → Wp d 112 0 [] [(2, ((e0 : Nat) : Int)), (0, v1), (9, 0)] [] (M, T) (fun r2 σ2 => r2 = some (0, y) ∧ σ2 = (M, T)) := by
    intro d hd
    rw [f_X10_hasEcho] at h
    refine y_blk (t := 0) rfl (show fnd bk_X10_hasEcho 0 = some _ from rfl) aB_X10_hasEcho ?_
    refine wp_iconst ⟨by decide, by decide⟩ ?_
    refine y_stn (L1 := [(2, ((e0 : Nat) : Int)), (0, v1), (0, 0)]) (Nat.le_of_ble_eq_true rfl) rfl ?_
    refine tl_X10_hasEcho_2 (by omega) he0 hS (fun w5   s6 h => ?_) FU 0   hS h
    refine y_blk (t := 30) rfl (show fnd bk_X10_hasEcho 30 = some _ from rfl) aB_X10_hasEcho ?_
    refine wp_iconst ⟨by decide, by decide⟩ ?_
    cases h
    exact y_ret0 (Or.inr (Or.inl rfl)) ⟨rfl, rfl⟩
  exact fun d hd => Ms.of (key d hd)

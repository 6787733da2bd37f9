/-! ===== methods as functions ===== -/
theorem aB_X7_read : ∀ pc, aB 68 pc = fnd bk_X7_read pc := fun _ => rfl
def l_X7_read_35 (T : Nat)  (k : Int → Int → aM → Option (Int × aM)) : Nat → Int → Int → aM → Option (Int × aM)
| 0, _, _, _ => none
| n + 1, v2, v3, M =>
 if 900 ≤ v3 then
 k v2 v3 M else
 if v2 = 0 then
 k v2 v3 M else
 (f_X7_lineHere T M).bind fun x17 =>
 (f_X7_beginsLine T x17 M).bind fun x19 =>
 if x19.1 = 0 then
 if aIn (v3 + 1) then
 l_X7_read_35 T k n 0 (v3 + 1) x19.2 else none else
 (f_X7_readRest T x17 x19.2).bind fun x25 =>
 if x25.1 = 0 then
 if aIn (v3 + 1) then
 l_X7_read_35 T k n 0 (v3 + 1) x25.2 else none else
 (f_X7_endsLine T x17 x25.2).bind fun x31 =>
 if x31.1 = 0 then
 if aIn (v3 + 1) then
 l_X7_read_35 T k n 0 (v3 + 1) x31.2 else none else
 if aIn (v3 + 1) then
 l_X7_read_35 T k n 1 (v3 + 1) x31.2 else none
theorem tl_X7_read_35 {d : Nat} (hd : 9 ≤ d) {T : T3}  {k : Int → Int → aM → Option (Int × aM)} {y : (Int × aM)}  {M0 : aM} (hS : Sh T.1 M0)
    (hk : ∀ (v2 v3 : Int) (u1 u4 : aV) (M : aM), Sh T.1 M → k v2 v3 M = some y → Wp d 68 91 [] [(2, ((16 : Nat) : Int)), u1, (0, v2), (0, v3), u4] [] (M, T) (fun r2 σ2 => r2 = some (0, y.1) ∧ σ2 = (y.2, T) ∧ Sh T.1 y.2)) :
    ∀ (n : Nat) (v2 v3 : Int) (u1 u4 : aV) (M : aM), Sh T.1 M → l_X7_read_35 T.1 k n v2 v3 M = some y → Wp d 68 35 [] [(2, ((16 : Nat) : Int)), u1, (0, v2), (0, v3), u4] [] (M, T) (fun r2 σ2 => r2 = some (0, y.1) ∧ σ2 = (y.2, T) ∧ Sh T.1 y.2) := by
  intro n
  induction n with
  | zero =>
    intro v2 v3 u1 u4 M _ h
    exact nomatch (show (none : Option (Int × aM)) = some y from h)
  | succ n ih =>
    intro v2 v3 u1 u4 M sM h
    rw [l_X7_read_35] at h
    refine y_blk (t := 35) rfl (show fnd bk_X7_read 35 = some _ from rfl) aB_X7_read ?_
    refine wp_iload_n (v := v3) rfl ?_
    refine wp_sipush (by decide) ?_
    refine wp_icmp_ge (fun c15 => ?_) (fun c15 => ?_)
    · rw [if_pos c15] at h
      exact hk v2 v3 u1 u4 M sM h
    · rw [if_neg c15] at h
      refine wp_iload_n (v := v2) rfl ?_
      refine wp_if_eq (fun c16 => ?_) (fun c16 => ?_)
      · rw [if_pos c16] at h
        exact hk v2 v3 u1 u4 M sM h
      · rw [if_neg c16] at h
        refine wp_aload_n (v := ((16 : Nat) : Int)) rfl (Int.natCast_nonneg _) ?_
        obtain ⟨x17, e18, h⟩ := d_bind h
        refine y_callV (as := []) (S1 := []) (Nat.le_of_ble_eq_true rfl) (by omega) (t_X7_lineHere sM e18) (Nat.le_of_ble_eq_true rfl) rfl (show ash 16 = (7, 8) from rfl) (Nat.lt_of_lt_of_le (show 16 < 154 by decide) hS.1.1) (Nat.le_of_ble_eq_true rfl) (Nat.le_of_ble_eq_true rfl) rfl ?_
        refine y_st (L1 := [(2, ((16 : Nat) : Int)), u1, (0, v2), (0, v3), (0, x17)]) (Nat.le_of_ble_eq_true rfl) rfl ?_
        refine wp_aload_n (v := ((16 : Nat) : Int)) rfl (Int.natCast_nonneg _) ?_
        refine wp_iload (v := x17) rfl ?_
        obtain ⟨x19, e20, h⟩ := d_bind h
        obtain ⟨r21, s22⟩ := t_X7_beginsLine sM e20
        refine y_callV (as := [(0, x17)]) (S1 := []) (Nat.le_of_ble_eq_true rfl) (by omega) r21 (Nat.le_of_ble_eq_true rfl) rfl (show ash 16 = (7, 8) from rfl) (Nat.lt_of_lt_of_le (show 16 < 154 by decide) hS.1.1) (Nat.le_of_ble_eq_true rfl) (Nat.le_of_ble_eq_true rfl) rfl ?_
        refine wp_if_eq (fun c23 => ?_) (fun c23 => ?_)
        · rw [if_pos c23] at h
          refine y_blk (t := 83) rfl (show fnd bk_X7_read 83 = some _ from rfl) aB_X7_read ?_
          refine wp_iconst ⟨by decide, by decide⟩ ?_
          refine y_blk (t := 84) rfl (show fnd bk_X7_read 84 = some _ from rfl) aB_X7_read ?_
          refine y_stn (L1 := [(2, ((16 : Nat) : Int)), (ajk u1), (0, 0), (0, v3), (0, x17)]) (Nat.le_of_ble_eq_true rfl) (aset_jk (q := 1) (u := u1) rfl) ?_
          obtain ⟨c24, h⟩ := d_ite h
          refine y_iinc (L1 := [(2, ((16 : Nat) : Int)), (ajk u1), (0, 0), (0, (v3 + 1)), (0, x17)]) rfl (Nat.le_of_ble_eq_true rfl) ⟨by decide, by decide⟩ c24 rfl ?_
          refine wp_goto ?_
          exact ih 0 (v3 + 1) (ajk u1) (0, x17) x19.2 s22 h
        · rw [if_neg c23] at h
          refine wp_aload_n (v := ((16 : Nat) : Int)) rfl (Int.natCast_nonneg _) ?_
          refine wp_iload (v := x17) rfl ?_
          obtain ⟨x25, e26, h⟩ := d_bind h
          obtain ⟨r27, s28⟩ := t_X7_readRest s22 e26
          refine y_callV (as := [(0, x17)]) (S1 := []) (Nat.le_of_ble_eq_true rfl) (by omega) r27 (Nat.le_of_ble_eq_true rfl) rfl (show ash 16 = (7, 8) from rfl) (Nat.lt_of_lt_of_le (show 16 < 154 by decide) hS.1.1) (Nat.le_of_ble_eq_true rfl) (Nat.le_of_ble_eq_true rfl) rfl ?_
          refine wp_if_eq (fun c29 => ?_) (fun c29 => ?_)
          · rw [if_pos c29] at h
            refine y_blk (t := 83) rfl (show fnd bk_X7_read 83 = some _ from rfl) aB_X7_read ?_
            refine wp_iconst ⟨by decide, by decide⟩ ?_
            refine y_blk (t := 84) rfl (show fnd bk_X7_read 84 = some _ from rfl) aB_X7_read ?_
            refine y_stn (L1 := [(2, ((16 : Nat) : Int)), (ajk u1), (0, 0), (0, v3), (0, x17)]) (Nat.le_of_ble_eq_true rfl) (aset_jk (q := 1) (u := u1) rfl) ?_
            obtain ⟨c30, h⟩ := d_ite h
            refine y_iinc (L1 := [(2, ((16 : Nat) : Int)), (ajk u1), (0, 0), (0, (v3 + 1)), (0, x17)]) rfl (Nat.le_of_ble_eq_true rfl) ⟨by decide, by decide⟩ c30 rfl ?_
            refine wp_goto ?_
            exact ih 0 (v3 + 1) (ajk u1) (0, x17) x25.2 s28 h
          · rw [if_neg c29] at h
            refine wp_aload_n (v := ((16 : Nat) : Int)) rfl (Int.natCast_nonneg _) ?_
            refine wp_iload (v := x17) rfl ?_
            obtain ⟨x31, e32, h⟩ := d_bind h
            obtain ⟨r33, s34⟩ := t_X7_endsLine s28 e32
            refine y_callV (as := [(0, x17)]) (S1 := []) (Nat.le_of_ble_eq_true rfl) (by omega) r33 (Nat.le_of_ble_eq_true rfl) rfl (show ash 16 = (7, 8) from rfl) (Nat.lt_of_lt_of_le (show 16 < 154 by decide) hS.1.1) (Nat.le_of_ble_eq_true rfl) (Nat.le_of_ble_eq_true rfl) rfl ?_
            refine wp_if_eq (fun c35 => ?_) (fun c35 => ?_)
            · rw [if_pos c35] at h
              refine y_blk (t := 83) rfl (show fnd bk_X7_read 83 = some _ from rfl) aB_X7_read ?_
              refine wp_iconst ⟨by decide, by decide⟩ ?_
              refine y_blk (t := 84) rfl (show fnd bk_X7_read 84 = some _ from rfl) aB_X7_read ?_
              refine y_stn (L1 := [(2, ((16 : Nat) : Int)), (ajk u1), (0, 0), (0, v3), (0, x17)]) (Nat.le_of_ble_eq_true rfl) (aset_jk (q := 1) (u := u1) rfl) ?_
              obtain ⟨c36, h⟩ := d_ite h
              refine y_iinc (L1 := [(2, ((16 : Nat) : Int)), (ajk u1), (0, 0), (0, (v3 + 1)), (0, x17)]) rfl (Nat.le_of_ble_eq_true rfl) ⟨by decide, by decide⟩ c36 rfl ?_
              refine wp_goto ?_
              exact ih 0 (v3 + 1) (ajk u1) (0, x17) x31.2 s34 h
            · rw [if_neg c35] at h
              refine wp_iconst ⟨by decide, by decide⟩ ?_
              refine wp_goto ?_
              refine y_blk (t := 84) rfl (show fnd bk_X7_read 84 = some _ from rfl) aB_X7_read ?_
              refine y_stn (L1 := [(2, ((16 : Nat) : Int)), (ajk u1), (0, 1), (0, v3), (0, x17)]) (Nat.le_of_ble_eq_true rfl) (aset_jk (q := 1) (u := u1) rfl) ?_
              obtain ⟨c37, h⟩ := d_ite h
              refine y_iinc (L1 := [(2, ((16 : Nat) : Int)), (ajk u1), (0, 1), (0, (v3 + 1)), (0, x17)]) rfl (Nat.le_of_ble_eq_true rfl) ⟨by decide, by decide⟩ c37 rfl ?_
              refine wp_goto ?_
              exact ih 1 (v3 + 1) (ajk u1) (0, x17) x31.2 s34 h
def f_X7_read (T : Nat) (v1 : Int) (M : aM) : Option (Int × aM) :=
 (f_X10_empty T 17 M).bind fun x1 =>
 (some (aup x1.2 16 7 8)).bind fun m5 =>
 (some (aup m5 16 1 0)).bind fun m7 =>
 (some (aup m7 16 2 (-1))).bind fun m9 =>
 (f_X9_begin T v1 m9).bind fun x11 =>
 l_X7_read_35 T (fun w38 w39 m42 =>
 if (m42 16 1) = 0 then
 some (1, m42) else
 some (0, m42)) FU 1 0 x11.2
theorem t_X7_read {T : T3} {v1 : Int} {M : aM} {y : (Int × aM)}  (hS : Sh T.1 M) (h : f_X7_read T.1 v1 M = some y) : Mr 9 68 [(2, ((16 : Nat) : Int)), (0, v1)] M (some (0, y.1)) y.2 T ∧ Sh T.1 y.2 := by
  have key : ∀ d, 9 ≤ d → Wp d 68 0 [] [(2, ((16 : Nat) : Int)), (0, v1), (9, 0), (9, 0), (9, 0)] [] (M, T) (fun r2 σ2 => r2 = some (0, y.1) ∧ σ2 = (y.2, T) ∧ Sh T.1 y.2) := by
    intro d hd
    rw [f_X7_read] at h
    refine y_blk (t := 0) rfl (show fnd bk_X7_read 0 = some _ from rfl) aB_X7_read ?_
    refine wp_aload_n (v := ((16 : Nat) : Int)) rfl (Int.natCast_nonneg _) ?_
    refine y_get (show ash 16 = (7, 8) from rfl) (Nat.lt_of_lt_of_le (show 16 < 154 by decide) hS.1.1) (v := ((17 : Nat) : Int)) (hS.at 16 0 17 (by decide +kernel)) rfl ?_
    obtain ⟨x1, e2, h⟩ := d_bind h
    obtain ⟨r3, s4⟩ := t_X10_empty (show isTold 17 by decide) hS e2
    refine y_callVv (as := []) (S1 := []) (Nat.le_of_ble_eq_true rfl) (by omega) r3 rfl (show ash 17 = (10, 19) from rfl) (Nat.lt_of_lt_of_le (show 17 < 154 by decide) hS.1.1) (Nat.le_of_ble_eq_true rfl) (Nat.le_of_ble_eq_true rfl) rfl ?_
    refine wp_aload_n (v := ((16 : Nat) : Int)) rfl (Int.natCast_nonneg _) ?_
    refine wp_bipush (by decide) ?_
    refine y_put (show ash 16 = (7, 8) from rfl) (Nat.lt_of_lt_of_le (show 16 < 154 by decide) hS.1.1) rfl ?_
    obtain ⟨m5, em5, h⟩ := d_bind h
    have em5 := Option.some.inj em5
    have s6 : Sh T.1 m5 := em5 ▸ s4.up (Or.inr ⟨by rw [(show ash 16 = (7, 8) from rfl)]; decide, by rw [(show ash 16 = (7, 8) from rfl)]; decide⟩) (by have := (Nat.lt_of_lt_of_le (show 16 < 154 by decide) hS.1.1); have := hS.1.2; omega)
    rw [em5]
    refine wp_aload_n (v := ((16 : Nat) : Int)) rfl (Int.natCast_nonneg _) ?_
    refine wp_iconst ⟨by decide, by decide⟩ ?_
    refine y_put (show ash 16 = (7, 8) from rfl) (Nat.lt_of_lt_of_le (show 16 < 154 by decide) hS.1.1) rfl ?_
    obtain ⟨m7, em7, h⟩ := d_bind h
    have em7 := Option.some.inj em7
    have s8 : Sh T.1 m7 := em7 ▸ s6.up (Or.inr ⟨by rw [(show ash 16 = (7, 8) from rfl)]; decide, by rw [(show ash 16 = (7, 8) from rfl)]; decide⟩) (by have := (Nat.lt_of_lt_of_le (show 16 < 154 by decide) hS.1.1); have := hS.1.2; omega)
    rw [em7]
    refine wp_aload_n (v := ((16 : Nat) : Int)) rfl (Int.natCast_nonneg _) ?_
    refine wp_iconst ⟨by decide, by decide⟩ ?_
    refine y_put (show ash 16 = (7, 8) from rfl) (Nat.lt_of_lt_of_le (show 16 < 154 by decide) hS.1.1) rfl ?_
    obtain ⟨m9, em9, h⟩ := d_bind h
    have em9 := Option.some.inj em9
    have s10 : Sh T.1 m9 := em9 ▸ s8.up (Or.inr ⟨by rw [(show ash 16 = (7, 8) from rfl)]; decide, by rw [(show ash 16 = (7, 8) from rfl)]; decide⟩) (by have := (Nat.lt_of_lt_of_le (show 16 < 154 by decide) hS.1.1); have := hS.1.2; omega)
    rw [em9]
    refine wp_aload_n (v := ((16 : Nat) : Int)) rfl (Int.natCast_nonneg _) ?_
    refine y_get (show ash 16 = (7, 8) from rfl) (Nat.lt_of_lt_of_le (show 16 < 154 by decide) hS.1.1) (v := ((34 : Nat) : Int)) (s10.at 16 3 34 (by decide +kernel)) rfl ?_
    refine wp_iload_n (v := v1) rfl ?_
    obtain ⟨x11, e12, h⟩ := d_bind h
    obtain ⟨r13, s14⟩ := t_X9_begin s10 e12
    refine y_callVv (as := [(0, v1)]) (S1 := []) (Nat.le_of_ble_eq_true rfl) (by omega) r13 rfl (show ash 34 = (9, 5) from rfl) (Nat.lt_of_lt_of_le (show 34 < 154 by decide) hS.1.1) (Nat.le_of_ble_eq_true rfl) (Nat.le_of_ble_eq_true rfl) rfl ?_
    refine wp_iconst ⟨by decide, by decide⟩ ?_
    refine y_stn (L1 := [(2, ((16 : Nat) : Int)), (0, v1), (0, 1), (9, 0), (9, 0)]) (Nat.le_of_ble_eq_true rfl) rfl ?_
    refine wp_iconst ⟨by decide, by decide⟩ ?_
    refine y_stn (L1 := [(2, ((16 : Nat) : Int)), (0, v1), (0, 1), (0, 0), (9, 0)]) (Nat.le_of_ble_eq_true rfl) rfl ?_
    refine tl_X7_read_35 (by omega) hS (fun w38 w39 u40 u41 m42 s43 h => ?_) FU 1 0 (0, v1) (9, 0) x11.2 s14 h
    refine y_blk (t := 91) rfl (show fnd bk_X7_read 91 = some _ from rfl) aB_X7_read ?_
    refine wp_aload_n (v := ((16 : Nat) : Int)) rfl (Int.natCast_nonneg _) ?_
    refine y_get (show ash 16 = (7, 8) from rfl) (Nat.lt_of_lt_of_le (show 16 < 154 by decide) hS.1.1) (v := m42 16 1) rfl rfl ?_
    refine y_nez (fun c44 => ?_) (fun c44 => ?_)
    · rw [if_neg c44] at h
      refine y_blk (t := 102) rfl (show fnd bk_X7_read 102 = some _ from rfl) aB_X7_read ?_
      refine wp_iconst ⟨by decide, by decide⟩ ?_
      refine y_blk (t := 103) rfl (show fnd bk_X7_read 103 = some _ from rfl) aB_X7_read ?_
      cases h
      exact y_ret0 (Or.inr (Or.inl rfl)) ⟨rfl, rfl, s43⟩
    · rw [if_pos c44] at h
      refine wp_iconst ⟨by decide, by decide⟩ ?_
      refine wp_goto ?_
      refine y_blk (t := 103) rfl (show fnd bk_X7_read 103 = some _ from rfl) aB_X7_read ?_
      cases h
      exact y_ret0 (Or.inr (Or.inr rfl)) ⟨rfl, rfl, s43⟩
  exact ⟨fun d hd => Ms.of3 (key d hd), Ms.sh (key 9 (Nat.le_refl _))⟩
theorem aB_X8_begin : ∀ pc, aB 93 pc = fnd bk_X8_begin pc := fun _ => rfl
def l_X8_begin_30 (T : Nat) (e0 : Nat) (e1 : Nat) (k : Int → aM → Option (Int × aM)) : Nat → Int → aM → Option (Int × aM)
| 0, _, _ => none
| n + 1, v2, M =>
 if 3 ≤ v2 then
 k v2 M else
 if 0 ≤ v2 ∧ v2 < 3 then
 (some (aup M (e0 + 2) (v2).toNat (-2))).bind fun m7 =>
 if aIn (v2 + 1) then
 l_X8_begin_30 T e0 e1 k n (v2 + 1) m7 else none else none
theorem tl_X8_begin_30 {d : Nat} (hd : 1 ≤ d) {T : T3} {e0 : Nat} {e1 : Nat} {k : Int → aM → Option (Int × aM)} {y : (Int × aM)} (he0 : isSt e0) (he1 : isTold e1) {M0 : aM} (hS : Sh T.1 M0)
    (hk : ∀ (v2 : Int) (M : aM), Sh T.1 M → k v2 M = some y → Wp d 93 49 [] [(2, ((e0 : Nat) : Int)), (2, ((e1 : Nat) : Int)), (0, v2)] [] (M, T) (fun r2 σ2 => r2 = none ∧ σ2 = (y.2, T) ∧ Sh T.1 y.2)) :
    ∀ (n : Nat) (v2 : Int) (M : aM), Sh T.1 M → l_X8_begin_30 T.1 e0 e1 k n v2 M = some y → Wp d 93 30 [] [(2, ((e0 : Nat) : Int)), (2, ((e1 : Nat) : Int)), (0, v2)] [] (M, T) (fun r2 σ2 => r2 = none ∧ σ2 = (y.2, T) ∧ Sh T.1 y.2) := by
  intro n
  induction n with
  | zero =>
    intro v2 M _ h
    exact nomatch (show (none : Option (Int × aM)) = some y from h)
  | succ n ih =>
    intro v2 M sM h
    rw [l_X8_begin_30] at h
    refine y_blk (t := 30) rfl (show fnd bk_X8_begin 30 = some _ from rfl) aB_X8_begin ?_
    refine wp_iload_n (v := v2) rfl ?_
    refine wp_iconst ⟨by decide, by decide⟩ ?_
    refine wp_icmp_ge (fun c5 => ?_) (fun c5 => ?_)
    · rw [if_pos c5] at h
      exact hk v2  M sM h
    · rw [if_neg c5] at h
      refine wp_aload_n (v := ((e0 : Nat) : Int)) rfl (Int.natCast_nonneg _) ?_
      refine y_get (aSt0 he0) (ltSt hS.1.1 he0 0 (by decide)) (v := (((e0 + 2) : Nat) : Int)) (rSt1 sM he0) rfl ?_
      refine wp_iload_n (v := v2) rfl ?_
      refine wp_bipush (by decide) ?_
      obtain ⟨c6, h⟩ := d_ite h
      refine y_iast (aSt2 he0) (ltSt hS.1.1 he0 2 (by decide)) c6 ?_
      obtain ⟨m7, em7, h⟩ := d_bind h
      have em7 := Option.some.inj em7
      have s8 : Sh T.1 m7 := em7 ▸ sM.up (Or.inl ⟨by rw [(aSt2 he0)]; exact Nat.le_of_ble_eq_true rfl, by rw [(aSt2 he0)]; exact Nat.le_of_ble_eq_true rfl⟩) (by have := (ltSt hS.1.1 he0 2 (by decide)); have := hS.1.2; omega)
      rw [em7]
      obtain ⟨c9, h⟩ := d_ite h
      refine y_iinc (L1 := [(2, ((e0 : Nat) : Int)), (2, ((e1 : Nat) : Int)), (0, (v2 + 1))]) rfl (Nat.le_of_ble_eq_true rfl) ⟨by decide, by decide⟩ c9 rfl ?_
      refine wp_goto ?_
      exact ih (v2 + 1)  m7 s8 h
def f_X8_begin (T : Nat) (e0 : Nat) (e1 : Nat) (M : aM) : Option (Int × aM) :=
 (some (acpy M (e1 + 7) (e0 + 1) 0 0 3)).bind fun m1 =>
 (some (acpy m1 (e1 + 8) (e0 + 3) 0 0 4)).bind fun m3 =>
 l_X8_begin_30 T e0 e1 (fun w10 m11 =>
 (some (aup m11 e0 3 (m11 e1 9))).bind fun m13 =>
 (some (aup m13 e0 4 0)).bind fun m15 =>
 some (0, m15)) FU 0 m3
theorem t_X8_begin {T : T3} {e0 : Nat} {e1 : Nat} {M : aM} {y : (Int × aM)} (he0 : isSt e0) (he1 : isTold e1) (hS : Sh T.1 M) (h : f_X8_begin T.1 e0 e1 M = some y) : Mr 1 93 [(2, ((e0 : Nat) : Int)), (2, ((e1 : Nat) : Int))] M (none) y.2 T ∧ Sh T.1 y.2 := by
  have key : ∀ d, 1 ≤ d → Wp d 93 0 [] [(2, ((e0 : Nat) : Int)), (2, ((e1 : Nat) : Int)), (9, 0)] [] (M, T) (fun r2 σ2 => r2 = none ∧ σ2 = (y.2, T) ∧ Sh T.1 y.2) := by
    intro d hd
    rw [f_X8_begin] at h
    refine y_blk (t := 0) rfl (show fnd bk_X8_begin 0 = some _ from rfl) aB_X8_begin ?_
    refine wp_aload_n (v := ((e1 : Nat) : Int)) rfl (Int.natCast_nonneg _) ?_
    refine y_get (aTold0 he1) (ltTold hS.1.1 he1 0 (by decide)) (v := (((e1 + 7) : Nat) : Int)) (rTold11 hS he1) rfl ?_
    refine wp_iconst ⟨by decide, by decide⟩ ?_
    refine wp_aload_n (v := ((e0 : Nat) : Int)) rfl (Int.natCast_nonneg _) ?_
    refine y_get (aSt0 he0) (ltSt hS.1.1 he0 0 (by decide)) (v := (((e0 + 1) : Nat) : Int)) (rSt0 hS he0) rfl ?_
    refine wp_iconst ⟨by decide, by decide⟩ ?_
    refine wp_iconst ⟨by decide, by decide⟩ ?_
    refine y_cpy (by omega) (Nat.le_of_ble_eq_true rfl) (aTold7 he1) (aSt1 he0) (ltTold hS.1.1 he1 7 (by decide)) (ltSt hS.1.1 he0 1 (by decide)) (by decide) (by decide) (by decide) (by decide) (by decide) ?_
    obtain ⟨m1, em1, h⟩ := d_bind h
    have em1 := Option.some.inj em1
    have s2 : Sh T.1 m1 := em1 ▸ hS.cpy (by rw [(aSt1 he0)]) (by have := (ltSt hS.1.1 he0 1 (by decide)); have := hS.1.2; omega)
    rw [show ((3 : Int)).toNat = 3 from rfl, show ((0 : Int)).toNat = 0 from rfl, em1]
    refine wp_aload_n (v := ((e1 : Nat) : Int)) rfl (Int.natCast_nonneg _) ?_
    refine y_get (aTold0 he1) (ltTold hS.1.1 he1 0 (by decide)) (v := (((e1 + 8) : Nat) : Int)) (rTold12 s2 he1) rfl ?_
    refine wp_iconst ⟨by decide, by decide⟩ ?_
    refine wp_aload_n (v := ((e0 : Nat) : Int)) rfl (Int.natCast_nonneg _) ?_
    refine y_get (aSt0 he0) (ltSt hS.1.1 he0 0 (by decide)) (v := (((e0 + 3) : Nat) : Int)) (rSt2 s2 he0) rfl ?_
    refine wp_iconst ⟨by decide, by decide⟩ ?_
    refine wp_iconst ⟨by decide, by decide⟩ ?_
    refine y_cpy (by omega) (Nat.le_of_ble_eq_true rfl) (aTold8 he1) (aSt3 he0) (ltTold hS.1.1 he1 8 (by decide)) (ltSt hS.1.1 he0 3 (by decide)) (by decide) (by decide) (by decide) (by decide) (by decide) ?_
    obtain ⟨m3, em3, h⟩ := d_bind h
    have em3 := Option.some.inj em3
    have s4 : Sh T.1 m3 := em3 ▸ s2.cpy (by rw [(aSt3 he0)]) (by have := (ltSt hS.1.1 he0 3 (by decide)); have := hS.1.2; omega)
    rw [show ((4 : Int)).toNat = 4 from rfl, show ((0 : Int)).toNat = 0 from rfl, em3]
    refine wp_iconst ⟨by decide, by decide⟩ ?_
    refine y_stn (L1 := [(2, ((e0 : Nat) : Int)), (2, ((e1 : Nat) : Int)), (0, 0)]) (Nat.le_of_ble_eq_true rfl) rfl ?_
    refine tl_X8_begin_30 (by omega) he0 he1 hS (fun w10  m11 s12 h => ?_) FU 0  m3 s4 h
    refine y_blk (t := 49) rfl (show fnd bk_X8_begin 49 = some _ from rfl) aB_X8_begin ?_
    refine wp_aload_n (v := ((e0 : Nat) : Int)) rfl (Int.natCast_nonneg _) ?_
    refine wp_aload_n (v := ((e1 : Nat) : Int)) rfl (Int.natCast_nonneg _) ?_
    refine y_get (aTold0 he1) (ltTold hS.1.1 he1 0 (by decide)) (v := m11 e1 9) rfl rfl ?_
    refine y_put (aSt0 he0) (ltSt hS.1.1 he0 0 (by decide)) rfl ?_
    obtain ⟨m13, em13, h⟩ := d_bind h
    have em13 := Option.some.inj em13
    have s14 : Sh T.1 m13 := em13 ▸ s12.up (Or.inr ⟨by rw [(aSt0 he0)]; decide, by rw [(aSt0 he0)]; decide⟩) (by have := (ltSt hS.1.1 he0 0 (by decide)); have := hS.1.2; omega)
    rw [em13]
    refine wp_aload_n (v := ((e0 : Nat) : Int)) rfl (Int.natCast_nonneg _) ?_
    refine wp_iconst ⟨by decide, by decide⟩ ?_
    refine y_put (aSt0 he0) (ltSt hS.1.1 he0 0 (by decide)) rfl ?_
    obtain ⟨m15, em15, h⟩ := d_bind h
    have em15 := Option.some.inj em15
    have s16 : Sh T.1 m15 := em15 ▸ s14.up (Or.inr ⟨by rw [(aSt0 he0)]; decide, by rw [(aSt0 he0)]; decide⟩) (by have := (ltSt hS.1.1 he0 0 (by decide)); have := hS.1.2; omega)
    rw [em15]
    cases h
    exact wp_return ⟨rfl, rfl, s16⟩
  exact ⟨fun d hd => Ms.of3 (key d hd), Ms.sh (key 1 (Nat.le_refl _))⟩
theorem aB_X8_moveVoice : ∀ pc, aB 95 pc = fnd bk_X8_moveVoice pc := fun _ => rfl
def f_X8_moveVoice (T : Nat) (e0 : Nat) (v1 : Int) (v2 : Int) (M : aM) : Option (Int × aM) :=
 if 0 ≤ v1 ∧ v1 < 3 then
 if (M (e0 + 1) (v1).toNat) = v2 then
 some (0, M) else
 (some (aup M (e0 + 2) (v1).toNat (M (e0 + 1) (v1).toNat))).bind fun m3 =>
 (some (aup m3 (e0 + 1) (v1).toNat v2)).bind fun m5 =>
 some (1, m5) else none
theorem t_X8_moveVoice {T : T3} {e0 : Nat} {v1 : Int} {v2 : Int} {M : aM} {y : (Int × aM)} (he0 : isSt e0) (hS : Sh T.1 M) (h : f_X8_moveVoice T.1 e0 v1 v2 M = some y) : Mr 0 95 [(2, ((e0 : Nat) : Int)), (0, v1), (0, v2)] M (some (0, y.1)) y.2 T ∧ Sh T.1 y.2 := by
  have key : ∀ d, 0 ≤ d → Wp d 95 0 [] [(2, ((e0 : Nat) : Int)), (0, v1), (0, v2)] [] (M, T) (fun r2 σ2 => r2 = some (0, y.1) ∧ σ2 = (y.2, T) ∧ Sh T.1 y.2) := by
    intro d hd
    rw [f_X8_moveVoice] at h
    refine y_blk (t := 0) rfl (show fnd bk_X8_moveVoice 0 = some _ from rfl) aB_X8_moveVoice ?_
    refine wp_aload_n (v := ((e0 : Nat) : Int)) rfl (Int.natCast_nonneg _) ?_
    refine y_get (aSt0 he0) (ltSt hS.1.1 he0 0 (by decide)) (v := (((e0 + 1) : Nat) : Int)) (rSt0 hS he0) rfl ?_
    refine wp_iload_n (v := v1) rfl ?_
    obtain ⟨c1, h⟩ := d_ite h
    refine y_iald (aSt1 he0) (Or.inl (ltSt hS.1.1 he0 1 (by decide))) (Nat.ne_of_lt (Nat.lt_of_lt_of_le (ltSt hS.1.1 he0 1 (by decide)) hS.1.2)) c1 (v := M (e0 + 1) (v1).toNat) rfl ?_
    refine wp_iload_n (v := v2) rfl ?_
    refine y_ne (fun c2 => ?_) (fun c2 => ?_)
    · rw [if_neg c2] at h
      refine y_blk (t := 12) rfl (show fnd bk_X8_moveVoice 12 = some _ from rfl) aB_X8_moveVoice ?_
      refine wp_aload_n (v := ((e0 : Nat) : Int)) rfl (Int.natCast_nonneg _) ?_
      refine y_get (aSt0 he0) (ltSt hS.1.1 he0 0 (by decide)) (v := (((e0 + 2) : Nat) : Int)) (rSt1 hS he0) rfl ?_
      refine wp_iload_n (v := v1) rfl ?_
      refine wp_aload_n (v := ((e0 : Nat) : Int)) rfl (Int.natCast_nonneg _) ?_
      refine y_get (aSt0 he0) (ltSt hS.1.1 he0 0 (by decide)) (v := (((e0 + 1) : Nat) : Int)) (rSt0 hS he0) rfl ?_
      refine wp_iload_n (v := v1) rfl ?_
      refine y_iald (aSt1 he0) (Or.inl (ltSt hS.1.1 he0 1 (by decide))) (Nat.ne_of_lt (Nat.lt_of_lt_of_le (ltSt hS.1.1 he0 1 (by decide)) hS.1.2)) c1 (v := M (e0 + 1) (v1).toNat) rfl ?_
      refine y_iast (aSt2 he0) (ltSt hS.1.1 he0 2 (by decide)) c1 ?_
      obtain ⟨m3, em3, h⟩ := d_bind h
      have em3 := Option.some.inj em3
      have s4 : Sh T.1 m3 := em3 ▸ hS.up (Or.inl ⟨by rw [(aSt2 he0)]; exact Nat.le_of_ble_eq_true rfl, by rw [(aSt2 he0)]; exact Nat.le_of_ble_eq_true rfl⟩) (by have := (ltSt hS.1.1 he0 2 (by decide)); have := hS.1.2; omega)
      rw [em3]
      refine wp_aload_n (v := ((e0 : Nat) : Int)) rfl (Int.natCast_nonneg _) ?_
      refine y_get (aSt0 he0) (ltSt hS.1.1 he0 0 (by decide)) (v := (((e0 + 1) : Nat) : Int)) (rSt0 s4 he0) rfl ?_
      refine wp_iload_n (v := v1) rfl ?_
      refine wp_iload_n (v := v2) rfl ?_
      refine y_iast (aSt1 he0) (ltSt hS.1.1 he0 1 (by decide)) c1 ?_
      obtain ⟨m5, em5, h⟩ := d_bind h
      have em5 := Option.some.inj em5
      have s6 : Sh T.1 m5 := em5 ▸ s4.up (Or.inl ⟨by rw [(aSt1 he0)]; exact Nat.le_of_ble_eq_true rfl, by rw [(aSt1 he0)]; exact Nat.le_of_ble_eq_true rfl⟩) (by have := (ltSt hS.1.1 he0 1 (by decide)); have := hS.1.2; omega)
      rw [em5]
      refine wp_iconst ⟨by decide, by decide⟩ ?_
      cases h
      exact y_ret0 (Or.inr (Or.inr rfl)) ⟨rfl, rfl, s6⟩
    · rw [if_pos c2] at h
      refine wp_iconst ⟨by decide, by decide⟩ ?_
      cases h
      exact y_ret0 (Or.inr (Or.inl rfl)) ⟨rfl, rfl, hS⟩
  exact ⟨fun d hd => Ms.of3 (key d hd), Ms.sh (key 0 (Nat.le_refl _))⟩
theorem aB_X10_take : ∀ pc, aB 107 pc = fnd bk_X10_take pc := fun _ => rfl
def f_X10_take (T : Nat) (e0 : Nat) (e1 : Nat) (M : aM) : Option (Int × aM) :=
 (some (aup M e0 0 (M e1 0))).bind fun m1 =>
 (some (aup m1 e0 1 (m1 e1 1))).bind fun m3 =>
 (some (aup m3 e0 2 (m3 e1 2))).bind fun m5 =>
 (some (aup m5 e0 4 (m5 e1 4))).bind fun m7 =>
 (some (aup m7 e0 9 (m7 e1 9))).bind fun m9 =>
 (some (aup m9 e0 18 (m9 e1 18))).bind fun m11 =>
 (some (acpy m11 (e1 + 1) (e0 + 1) 0 0 8)).bind fun m13 =>
 (some (acpy m13 (e1 + 2) (e0 + 2) 0 0 10)).bind fun m15 =>
 (some (acpy m15 (e1 + 3) (e0 + 3) 0 0 10)).bind fun m17 =>
 (some (acpy m17 (e1 + 4) (e0 + 4) 0 0 10)).bind fun m19 =>
 (some (acpy m19 (e1 + 5) (e0 + 5) 0 0 64)).bind fun m21 =>
 (some (acpy m21 (e1 + 6) (e0 + 6) 0 0 3)).bind fun m23 =>
 (some (acpy m23 (e1 + 7) (e0 + 7) 0 0 3)).bind fun m25 =>
 (some (acpy m25 (e1 + 8) (e0 + 8) 0 0 4)).bind fun m27 =>
 (some (acpy m27 (e1 + 9) (e0 + 9) 0 0 4)).bind fun m29 =>
 (some (acpy m29 (e1 + 10) (e0 + 10) 0 0 4)).bind fun m31 =>
 (some (acpy m31 (e1 + 11) (e0 + 11) 0 0 4)).bind fun m33 =>
 (some (acpy m33 (e1 + 12) (e0 + 12) 0 0 5)).bind fun m35 =>
 (some (acpy m35 (e1 + 13) (e0 + 13) 0 0 5)).bind fun m37 =>
 some (0, m37)
theorem t_X10_take {T : T3} {e0 : Nat} {e1 : Nat} {M : aM} {y : (Int × aM)} (he0 : isTold e0) (he1 : isTold e1) (hS : Sh T.1 M) (h : f_X10_take T.1 e0 e1 M = some y) : Mr 1 107 [(2, ((e0 : Nat) : Int)), (2, ((e1 : Nat) : Int))] M (none) y.2 T ∧ Sh T.1 y.2 := by
  have key : ∀ d, 1 ≤ d → Wp d 107 0 [] [(2, ((e0 : Nat) : Int)), (2, ((e1 : Nat) : Int))] [] (M, T) (fun r2 σ2 => r2 = none ∧ σ2 = (y.2, T) ∧ Sh T.1 y.2) := by
    intro d hd
    rw [f_X10_take] at h
    refine y_blk (t := 0) rfl (show fnd bk_X10_take 0 = some _ from rfl) aB_X10_take ?_
    refine wp_aload_n (v := ((e0 : Nat) : Int)) rfl (Int.natCast_nonneg _) ?_
    refine wp_aload_n (v := ((e1 : Nat) : Int)) rfl (Int.natCast_nonneg _) ?_
    refine y_get (aTold0 he1) (ltTold hS.1.1 he1 0 (by decide)) (v := M e1 0) rfl rfl ?_
    refine y_put (aTold0 he0) (ltTold hS.1.1 he0 0 (by decide)) rfl ?_
    obtain ⟨m1, em1, h⟩ := d_bind h
    have em1 := Option.some.inj em1
    have s2 : Sh T.1 m1 := em1 ▸ hS.up (Or.inr ⟨by rw [(aTold0 he0)]; decide, by rw [(aTold0 he0)]; decide⟩) (by have := (ltTold hS.1.1 he0 0 (by decide)); have := hS.1.2; omega)
    rw [em1]
    refine wp_aload_n (v := ((e0 : Nat) : Int)) rfl (Int.natCast_nonneg _) ?_
    refine wp_aload_n (v := ((e1 : Nat) : Int)) rfl (Int.natCast_nonneg _) ?_
    refine y_get (aTold0 he1) (ltTold hS.1.1 he1 0 (by decide)) (v := m1 e1 1) rfl rfl ?_
    refine y_put (aTold0 he0) (ltTold hS.1.1 he0 0 (by decide)) rfl ?_
    obtain ⟨m3, em3, h⟩ := d_bind h
    have em3 := Option.some.inj em3
    have s4 : Sh T.1 m3 := em3 ▸ s2.up (Or.inr ⟨by rw [(aTold0 he0)]; decide, by rw [(aTold0 he0)]; decide⟩) (by have := (ltTold hS.1.1 he0 0 (by decide)); have := hS.1.2; omega)
    rw [em3]
    refine wp_aload_n (v := ((e0 : Nat) : Int)) rfl (Int.natCast_nonneg _) ?_
    refine wp_aload_n (v := ((e1 : Nat) : Int)) rfl (Int.natCast_nonneg _) ?_
    refine y_get (aTold0 he1) (ltTold hS.1.1 he1 0 (by decide)) (v := m3 e1 2) rfl rfl ?_
    refine y_put (aTold0 he0) (ltTold hS.1.1 he0 0 (by decide)) rfl ?_
    obtain ⟨m5, em5, h⟩ := d_bind h
    have em5 := Option.some.inj em5
    have s6 : Sh T.1 m5 := em5 ▸ s4.up (Or.inr ⟨by rw [(aTold0 he0)]; decide, by rw [(aTold0 he0)]; decide⟩) (by have := (ltTold hS.1.1 he0 0 (by decide)); have := hS.1.2; omega)
    rw [em5]
    refine wp_aload_n (v := ((e0 : Nat) : Int)) rfl (Int.natCast_nonneg _) ?_
    refine wp_aload_n (v := ((e1 : Nat) : Int)) rfl (Int.natCast_nonneg _) ?_
    refine y_get (aTold0 he1) (ltTold hS.1.1 he1 0 (by decide)) (v := m5 e1 4) rfl rfl ?_
    refine y_put (aTold0 he0) (ltTold hS.1.1 he0 0 (by decide)) rfl ?_
    obtain ⟨m7, em7, h⟩ := d_bind h
    have em7 := Option.some.inj em7
    have s8 : Sh T.1 m7 := em7 ▸ s6.up (Or.inr ⟨by rw [(aTold0 he0)]; decide, by rw [(aTold0 he0)]; decide⟩) (by have := (ltTold hS.1.1 he0 0 (by decide)); have := hS.1.2; omega)
    rw [em7]
    refine wp_aload_n (v := ((e0 : Nat) : Int)) rfl (Int.natCast_nonneg _) ?_
    refine wp_aload_n (v := ((e1 : Nat) : Int)) rfl (Int.natCast_nonneg _) ?_
    refine y_get (aTold0 he1) (ltTold hS.1.1 he1 0 (by decide)) (v := m7 e1 9) rfl rfl ?_
    refine y_put (aTold0 he0) (ltTold hS.1.1 he0 0 (by decide)) rfl ?_
    obtain ⟨m9, em9, h⟩ := d_bind h
    have em9 := Option.some.inj em9
    have s10 : Sh T.1 m9 := em9 ▸ s8.up (Or.inr ⟨by rw [(aTold0 he0)]; decide, by rw [(aTold0 he0)]; decide⟩) (by have := (ltTold hS.1.1 he0 0 (by decide)); have := hS.1.2; omega)
    rw [em9]
    refine wp_aload_n (v := ((e0 : Nat) : Int)) rfl (Int.natCast_nonneg _) ?_
    refine wp_aload_n (v := ((e1 : Nat) : Int)) rfl (Int.natCast_nonneg _) ?_
    refine y_get (aTold0 he1) (ltTold hS.1.1 he1 0 (by decide)) (v := m9 e1 18) rfl rfl ?_
    refine y_put (aTold0 he0) (ltTold hS.1.1 he0 0 (by decide)) rfl ?_
    obtain ⟨m11, em11, h⟩ := d_bind h
    have em11 := Option.some.inj em11
    have s12 : Sh T.1 m11 := em11 ▸ s10.up (Or.inr ⟨by rw [(aTold0 he0)]; decide, by rw [(aTold0 he0)]; decide⟩) (by have := (ltTold hS.1.1 he0 0 (by decide)); have := hS.1.2; omega)
    rw [em11]
    refine wp_aload_n (v := ((e1 : Nat) : Int)) rfl (Int.natCast_nonneg _) ?_
    refine y_get (aTold0 he1) (ltTold hS.1.1 he1 0 (by decide)) (v := (((e1 + 1) : Nat) : Int)) (rTold3 s12 he1) rfl ?_
    refine wp_iconst ⟨by decide, by decide⟩ ?_
    refine wp_aload_n (v := ((e0 : Nat) : Int)) rfl (Int.natCast_nonneg _) ?_
    refine y_get (aTold0 he0) (ltTold hS.1.1 he0 0 (by decide)) (v := (((e0 + 1) : Nat) : Int)) (rTold3 s12 he0) rfl ?_
    refine wp_iconst ⟨by decide, by decide⟩ ?_
    refine wp_bipush (by decide) ?_
    refine y_cpy (by omega) (Nat.le_of_ble_eq_true rfl) (aTold1 he1) (aTold1 he0) (ltTold hS.1.1 he1 1 (by decide)) (ltTold hS.1.1 he0 1 (by decide)) (by decide) (by decide) (by decide) (by decide) (by decide) ?_
    obtain ⟨m13, em13, h⟩ := d_bind h
    have em13 := Option.some.inj em13
    have s14 : Sh T.1 m13 := em13 ▸ s12.cpy (by rw [(aTold1 he0)]) (by have := (ltTold hS.1.1 he0 1 (by decide)); have := hS.1.2; omega)
    rw [show ((8 : Int)).toNat = 8 from rfl, show ((0 : Int)).toNat = 0 from rfl, em13]
    refine wp_aload_n (v := ((e1 : Nat) : Int)) rfl (Int.natCast_nonneg _) ?_
    refine y_get (aTold0 he1) (ltTold hS.1.1 he1 0 (by decide)) (v := (((e1 + 2) : Nat) : Int)) (rTold5 s14 he1) rfl ?_
    refine wp_iconst ⟨by decide, by decide⟩ ?_
    refine wp_aload_n (v := ((e0 : Nat) : Int)) rfl (Int.natCast_nonneg _) ?_
    refine y_get (aTold0 he0) (ltTold hS.1.1 he0 0 (by decide)) (v := (((e0 + 2) : Nat) : Int)) (rTold5 s14 he0) rfl ?_
    refine wp_iconst ⟨by decide, by decide⟩ ?_
    refine wp_bipush (by decide) ?_
    refine y_cpy (by omega) (Nat.le_of_ble_eq_true rfl) (aTold2 he1) (aTold2 he0) (ltTold hS.1.1 he1 2 (by decide)) (ltTold hS.1.1 he0 2 (by decide)) (by decide) (by decide) (by decide) (by decide) (by decide) ?_
    obtain ⟨m15, em15, h⟩ := d_bind h
    have em15 := Option.some.inj em15
    have s16 : Sh T.1 m15 := em15 ▸ s14.cpy (by rw [(aTold2 he0)]) (by have := (ltTold hS.1.1 he0 2 (by decide)); have := hS.1.2; omega)
    rw [show ((10 : Int)).toNat = 10 from rfl, show ((0 : Int)).toNat = 0 from rfl, em15]
    refine wp_aload_n (v := ((e1 : Nat) : Int)) rfl (Int.natCast_nonneg _) ?_
    refine y_get (aTold0 he1) (ltTold hS.1.1 he1 0 (by decide)) (v := (((e1 + 3) : Nat) : Int)) (rTold6 s16 he1) rfl ?_
    refine wp_iconst ⟨by decide, by decide⟩ ?_
    refine wp_aload_n (v := ((e0 : Nat) : Int)) rfl (Int.natCast_nonneg _) ?_
    refine y_get (aTold0 he0) (ltTold hS.1.1 he0 0 (by decide)) (v := (((e0 + 3) : Nat) : Int)) (rTold6 s16 he0) rfl ?_
    refine wp_iconst ⟨by decide, by decide⟩ ?_
    refine wp_bipush (by decide) ?_
    refine y_cpy (by omega) (Nat.le_of_ble_eq_true rfl) (aTold3 he1) (aTold3 he0) (ltTold hS.1.1 he1 3 (by decide)) (ltTold hS.1.1 he0 3 (by decide)) (by decide) (by decide) (by decide) (by decide) (by decide) ?_
    obtain ⟨m17, em17, h⟩ := d_bind h
    have em17 := Option.some.inj em17
    have s18 : Sh T.1 m17 := em17 ▸ s16.cpy (by rw [(aTold3 he0)]) (by have := (ltTold hS.1.1 he0 3 (by decide)); have := hS.1.2; omega)
    rw [show ((10 : Int)).toNat = 10 from rfl, show ((0 : Int)).toNat = 0 from rfl, em17]
    refine wp_aload_n (v := ((e1 : Nat) : Int)) rfl (Int.natCast_nonneg _) ?_
    refine y_get (aTold0 he1) (ltTold hS.1.1 he1 0 (by decide)) (v := (((e1 + 4) : Nat) : Int)) (rTold7 s18 he1) rfl ?_
    refine wp_iconst ⟨by decide, by decide⟩ ?_
    refine wp_aload_n (v := ((e0 : Nat) : Int)) rfl (Int.natCast_nonneg _) ?_
    refine y_get (aTold0 he0) (ltTold hS.1.1 he0 0 (by decide)) (v := (((e0 + 4) : Nat) : Int)) (rTold7 s18 he0) rfl ?_
    refine wp_iconst ⟨by decide, by decide⟩ ?_
    refine wp_bipush (by decide) ?_
    refine y_cpy (by omega) (Nat.le_of_ble_eq_true rfl) (aTold4 he1) (aTold4 he0) (ltTold hS.1.1 he1 4 (by decide)) (ltTold hS.1.1 he0 4 (by decide)) (by decide) (by decide) (by decide) (by decide) (by decide) ?_
    obtain ⟨m19, em19, h⟩ := d_bind h
    have em19 := Option.some.inj em19
    have s20 : Sh T.1 m19 := em19 ▸ s18.cpy (by rw [(aTold4 he0)]) (by have := (ltTold hS.1.1 he0 4 (by decide)); have := hS.1.2; omega)
    rw [show ((10 : Int)).toNat = 10 from rfl, show ((0 : Int)).toNat = 0 from rfl, em19]
    refine wp_aload_n (v := ((e1 : Nat) : Int)) rfl (Int.natCast_nonneg _) ?_
    refine y_get (aTold0 he1) (ltTold hS.1.1 he1 0 (by decide)) (v := (((e1 + 5) : Nat) : Int)) (rTold8 s20 he1) rfl ?_
    refine wp_iconst ⟨by decide, by decide⟩ ?_
    refine wp_aload_n (v := ((e0 : Nat) : Int)) rfl (Int.natCast_nonneg _) ?_
    refine y_get (aTold0 he0) (ltTold hS.1.1 he0 0 (by decide)) (v := (((e0 + 5) : Nat) : Int)) (rTold8 s20 he0) rfl ?_
    refine wp_iconst ⟨by decide, by decide⟩ ?_
    refine wp_bipush (by decide) ?_
    refine y_cpy (by omega) (Nat.le_of_ble_eq_true rfl) (aTold5 he1) (aTold5 he0) (ltTold hS.1.1 he1 5 (by decide)) (ltTold hS.1.1 he0 5 (by decide)) (by decide) (by decide) (by decide) (by decide) (by decide) ?_
    obtain ⟨m21, em21, h⟩ := d_bind h
    have em21 := Option.some.inj em21
    have s22 : Sh T.1 m21 := em21 ▸ s20.cpy (by rw [(aTold5 he0)]) (by have := (ltTold hS.1.1 he0 5 (by decide)); have := hS.1.2; omega)
    rw [show ((64 : Int)).toNat = 64 from rfl, show ((0 : Int)).toNat = 0 from rfl, em21]
    refine wp_aload_n (v := ((e1 : Nat) : Int)) rfl (Int.natCast_nonneg _) ?_
    refine y_get (aTold0 he1) (ltTold hS.1.1 he1 0 (by decide)) (v := (((e1 + 6) : Nat) : Int)) (rTold10 s22 he1) rfl ?_
    refine wp_iconst ⟨by decide, by decide⟩ ?_
    refine wp_aload_n (v := ((e0 : Nat) : Int)) rfl (Int.natCast_nonneg _) ?_
    refine y_get (aTold0 he0) (ltTold hS.1.1 he0 0 (by decide)) (v := (((e0 + 6) : Nat) : Int)) (rTold10 s22 he0) rfl ?_
    refine wp_iconst ⟨by decide, by decide⟩ ?_
    refine wp_iconst ⟨by decide, by decide⟩ ?_
    refine y_cpy (by omega) (Nat.le_of_ble_eq_true rfl) (aTold6 he1) (aTold6 he0) (ltTold hS.1.1 he1 6 (by decide)) (ltTold hS.1.1 he0 6 (by decide)) (by decide) (by decide) (by decide) (by decide) (by decide) ?_
    obtain ⟨m23, em23, h⟩ := d_bind h
    have em23 := Option.some.inj em23
    have s24 : Sh T.1 m23 := em23 ▸ s22.cpy (by rw [(aTold6 he0)]) (by have := (ltTold hS.1.1 he0 6 (by decide)); have := hS.1.2; omega)
    rw [show ((3 : Int)).toNat = 3 from rfl, show ((0 : Int)).toNat = 0 from rfl, em23]
    refine wp_aload_n (v := ((e1 : Nat) : Int)) rfl (Int.natCast_nonneg _) ?_
    refine y_get (aTold0 he1) (ltTold hS.1.1 he1 0 (by decide)) (v := (((e1 + 7) : Nat) : Int)) (rTold11 s24 he1) rfl ?_
    refine wp_iconst ⟨by decide, by decide⟩ ?_
    refine wp_aload_n (v := ((e0 : Nat) : Int)) rfl (Int.natCast_nonneg _) ?_
    refine y_get (aTold0 he0) (ltTold hS.1.1 he0 0 (by decide)) (v := (((e0 + 7) : Nat) : Int)) (rTold11 s24 he0) rfl ?_
    refine wp_iconst ⟨by decide, by decide⟩ ?_
    refine wp_iconst ⟨by decide, by decide⟩ ?_
    refine y_cpy (by omega) (Nat.le_of_ble_eq_true rfl) (aTold7 he1) (aTold7 he0) (ltTold hS.1.1 he1 7 (by decide)) (ltTold hS.1.1 he0 7 (by decide)) (by decide) (by decide) (by decide) (by decide) (by decide) ?_
    obtain ⟨m25, em25, h⟩ := d_bind h
    have em25 := Option.some.inj em25
    have s26 : Sh T.1 m25 := em25 ▸ s24.cpy (by rw [(aTold7 he0)]) (by have := (ltTold hS.1.1 he0 7 (by decide)); have := hS.1.2; omega)
    rw [show ((3 : Int)).toNat = 3 from rfl, show ((0 : Int)).toNat = 0 from rfl, em25]
    refine wp_aload_n (v := ((e1 : Nat) : Int)) rfl (Int.natCast_nonneg _) ?_
    refine y_get (aTold0 he1) (ltTold hS.1.1 he1 0 (by decide)) (v := (((e1 + 8) : Nat) : Int)) (rTold12 s26 he1) rfl ?_
    refine wp_iconst ⟨by decide, by decide⟩ ?_
    refine wp_aload_n (v := ((e0 : Nat) : Int)) rfl (Int.natCast_nonneg _) ?_
    refine y_get (aTold0 he0) (ltTold hS.1.1 he0 0 (by decide)) (v := (((e0 + 8) : Nat) : Int)) (rTold12 s26 he0) rfl ?_
    refine wp_iconst ⟨by decide, by decide⟩ ?_
    refine wp_iconst ⟨by decide, by decide⟩ ?_
    refine y_cpy (by omega) (Nat.le_of_ble_eq_true rfl) (aTold8 he1) (aTold8 he0) (ltTold hS.1.1 he1 8 (by decide)) (ltTold hS.1.1 he0 8 (by decide)) (by decide) (by decide) (by decide) (by decide) (by decide) ?_
    obtain ⟨m27, em27, h⟩ := d_bind h
    have em27 := Option.some.inj em27
    have s28 : Sh T.1 m27 := em27 ▸ s26.cpy (by rw [(aTold8 he0)]) (by have := (ltTold hS.1.1 he0 8 (by decide)); have := hS.1.2; omega)
    rw [show ((4 : Int)).toNat = 4 from rfl, show ((0 : Int)).toNat = 0 from rfl, em27]
    refine wp_aload_n (v := ((e1 : Nat) : Int)) rfl (Int.natCast_nonneg _) ?_
    refine y_get (aTold0 he1) (ltTold hS.1.1 he1 0 (by decide)) (v := (((e1 + 9) : Nat) : Int)) (rTold13 s28 he1) rfl ?_
    refine wp_iconst ⟨by decide, by decide⟩ ?_
    refine wp_aload_n (v := ((e0 : Nat) : Int)) rfl (Int.natCast_nonneg _) ?_
    refine y_get (aTold0 he0) (ltTold hS.1.1 he0 0 (by decide)) (v := (((e0 + 9) : Nat) : Int)) (rTold13 s28 he0) rfl ?_
    refine wp_iconst ⟨by decide, by decide⟩ ?_
    refine wp_iconst ⟨by decide, by decide⟩ ?_
    refine y_cpy (by omega) (Nat.le_of_ble_eq_true rfl) (aTold9 he1) (aTold9 he0) (ltTold hS.1.1 he1 9 (by decide)) (ltTold hS.1.1 he0 9 (by decide)) (by decide) (by decide) (by decide) (by decide) (by decide) ?_
    obtain ⟨m29, em29, h⟩ := d_bind h
    have em29 := Option.some.inj em29
    have s30 : Sh T.1 m29 := em29 ▸ s28.cpy (by rw [(aTold9 he0)]) (by have := (ltTold hS.1.1 he0 9 (by decide)); have := hS.1.2; omega)
    rw [show ((4 : Int)).toNat = 4 from rfl, show ((0 : Int)).toNat = 0 from rfl, em29]
    refine wp_aload_n (v := ((e1 : Nat) : Int)) rfl (Int.natCast_nonneg _) ?_
    refine y_get (aTold0 he1) (ltTold hS.1.1 he1 0 (by decide)) (v := (((e1 + 10) : Nat) : Int)) (rTold14 s30 he1) rfl ?_
    refine wp_iconst ⟨by decide, by decide⟩ ?_
    refine wp_aload_n (v := ((e0 : Nat) : Int)) rfl (Int.natCast_nonneg _) ?_
    refine y_get (aTold0 he0) (ltTold hS.1.1 he0 0 (by decide)) (v := (((e0 + 10) : Nat) : Int)) (rTold14 s30 he0) rfl ?_
    refine wp_iconst ⟨by decide, by decide⟩ ?_
    refine wp_iconst ⟨by decide, by decide⟩ ?_
    refine y_cpy (by omega) (Nat.le_of_ble_eq_true rfl) (aTold10 he1) (aTold10 he0) (ltTold hS.1.1 he1 10 (by decide)) (ltTold hS.1.1 he0 10 (by decide)) (by decide) (by decide) (by decide) (by decide) (by decide) ?_
    obtain ⟨m31, em31, h⟩ := d_bind h
    have em31 := Option.some.inj em31
    have s32 : Sh T.1 m31 := em31 ▸ s30.cpy (by rw [(aTold10 he0)]) (by have := (ltTold hS.1.1 he0 10 (by decide)); have := hS.1.2; omega)
    rw [show ((4 : Int)).toNat = 4 from rfl, show ((0 : Int)).toNat = 0 from rfl, em31]
    refine wp_aload_n (v := ((e1 : Nat) : Int)) rfl (Int.natCast_nonneg _) ?_
    refine y_get (aTold0 he1) (ltTold hS.1.1 he1 0 (by decide)) (v := (((e1 + 11) : Nat) : Int)) (rTold15 s32 he1) rfl ?_
    refine wp_iconst ⟨by decide, by decide⟩ ?_
    refine wp_aload_n (v := ((e0 : Nat) : Int)) rfl (Int.natCast_nonneg _) ?_
    refine y_get (aTold0 he0) (ltTold hS.1.1 he0 0 (by decide)) (v := (((e0 + 11) : Nat) : Int)) (rTold15 s32 he0) rfl ?_
    refine wp_iconst ⟨by decide, by decide⟩ ?_
    refine wp_iconst ⟨by decide, by decide⟩ ?_
    refine y_cpy (by omega) (Nat.le_of_ble_eq_true rfl) (aTold11 he1) (aTold11 he0) (ltTold hS.1.1 he1 11 (by decide)) (ltTold hS.1.1 he0 11 (by decide)) (by decide) (by decide) (by decide) (by decide) (by decide) ?_
    obtain ⟨m33, em33, h⟩ := d_bind h
    have em33 := Option.some.inj em33
    have s34 : Sh T.1 m33 := em33 ▸ s32.cpy (by rw [(aTold11 he0)]) (by have := (ltTold hS.1.1 he0 11 (by decide)); have := hS.1.2; omega)
    rw [show ((4 : Int)).toNat = 4 from rfl, show ((0 : Int)).toNat = 0 from rfl, em33]
    refine wp_aload_n (v := ((e1 : Nat) : Int)) rfl (Int.natCast_nonneg _) ?_
    refine y_get (aTold0 he1) (ltTold hS.1.1 he1 0 (by decide)) (v := (((e1 + 12) : Nat) : Int)) (rTold16 s34 he1) rfl ?_
    refine wp_iconst ⟨by decide, by decide⟩ ?_
    refine wp_aload_n (v := ((e0 : Nat) : Int)) rfl (Int.natCast_nonneg _) ?_
    refine y_get (aTold0 he0) (ltTold hS.1.1 he0 0 (by decide)) (v := (((e0 + 12) : Nat) : Int)) (rTold16 s34 he0) rfl ?_
    refine wp_iconst ⟨by decide, by decide⟩ ?_
    refine wp_iconst ⟨by decide, by decide⟩ ?_
    refine y_cpy (by omega) (Nat.le_of_ble_eq_true rfl) (aTold12 he1) (aTold12 he0) (ltTold hS.1.1 he1 12 (by decide)) (ltTold hS.1.1 he0 12 (by decide)) (by decide) (by decide) (by decide) (by decide) (by decide) ?_
    obtain ⟨m35, em35, h⟩ := d_bind h
    have em35 := Option.some.inj em35
    have s36 : Sh T.1 m35 := em35 ▸ s34.cpy (by rw [(aTold12 he0)]) (by have := (ltTold hS.1.1 he0 12 (by decide)); have := hS.1.2; omega)
    rw [show ((5 : Int)).toNat = 5 from rfl, show ((0 : Int)).toNat = 0 from rfl, em35]
    refine wp_aload_n (v := ((e1 : Nat) : Int)) rfl (Int.natCast_nonneg _) ?_
    refine y_get (aTold0 he1) (ltTold hS.1.1 he1 0 (by decide)) (v := (((e1 + 13) : Nat) : Int)) (rTold17 s36 he1) rfl ?_
    refine wp_iconst ⟨by decide, by decide⟩ ?_
    refine wp_aload_n (v := ((e0 : Nat) : Int)) rfl (Int.natCast_nonneg _) ?_
    refine y_get (aTold0 he0) (ltTold hS.1.1 he0 0 (by decide)) (v := (((e0 + 13) : Nat) : Int)) (rTold17 s36 he0) rfl ?_
    refine wp_iconst ⟨by decide, by decide⟩ ?_
    refine wp_iconst ⟨by decide, by decide⟩ ?_
    refine y_cpy (by omega) (Nat.le_of_ble_eq_true rfl) (aTold13 he1) (aTold13 he0) (ltTold hS.1.1 he1 13 (by decide)) (ltTold hS.1.1 he0 13 (by decide)) (by decide) (by decide) (by decide) (by decide) (by decide) ?_
    obtain ⟨m37, em37, h⟩ := d_bind h
    have em37 := Option.some.inj em37
    have s38 : Sh T.1 m37 := em37 ▸ s36.cpy (by rw [(aTold13 he0)]) (by have := (ltTold hS.1.1 he0 13 (by decide)); have := hS.1.2; omega)
    rw [show ((5 : Int)).toNat = 5 from rfl, show ((0 : Int)).toNat = 0 from rfl, em37]
    cases h
    exact wp_return ⟨rfl, rfl, s38⟩
  exact ⟨fun d hd => Ms.of3 (key d hd), Ms.sh (key 1 (Nat.le_refl _))⟩
theorem aB_X10_waysAt : ∀ pc, aB 110 pc = fnd bk_X10_waysAt pc := fun _ => rfl
def l_X10_waysAt_4 (T : Nat) (e0 : Nat) (v1 : Int) (M : aM) (k : Int → Int → Option Int) : Nat → Int → Int → Option Int
| 0, _, _ => none
| n + 1, v2, v3 =>
 if (M (e0 + 1) 2) ≤ v3 then
 k v2 v3 else
 if 0 ≤ v3 ∧ v3 < 10 then
 if (M (e0 + 2) (v3).toNat) = v1 then
 if aIn (v2 + 1) then
 if aIn (v3 + 1) then
 l_X10_waysAt_4 T e0 v1 M k n (v2 + 1) (v3 + 1) else none else none else
 if (M (e0 + 3) (v3).toNat) = v1 then
 if aIn (v2 + 1) then
 if aIn (v3 + 1) then
 l_X10_waysAt_4 T e0 v1 M k n (v2 + 1) (v3 + 1) else none else none else
 if aIn (v3 + 1) then
 l_X10_waysAt_4 T e0 v1 M k n v2 (v3 + 1) else none else none
theorem tl_X10_waysAt_4 {d : Nat} (hd : 0 ≤ d) {T : T3} {e0 : Nat} {v1 : Int} {M : aM} {k : Int → Int → Option Int} {y : Int} (he0 : isTold e0) (hS : Sh T.1 M)
    (hk : ∀ (v2 v3 : Int), Sh T.1 M → k v2 v3 = some y → Wp d 110 43 [] [(2, ((e0 : Nat) : Int)), (0, v1), (0, v2), (0, v3)] [] (M, T) (fun r2 σ2 => r2 = some (0, y) ∧ σ2 = (M, T))) :
    ∀ (n : Nat) (v2 v3 : Int), Sh T.1 M → l_X10_waysAt_4 T.1 e0 v1 M k n v2 v3 = some y → Wp d 110 4 [] [(2, ((e0 : Nat) : Int)), (0, v1), (0, v2), (0, v3)] [] (M, T) (fun r2 σ2 => r2 = some (0, y) ∧ σ2 = (M, T)) := by
  intro n
  induction n with
  | zero =>
    intro v2 v3 _ h
    exact nomatch (show (none : Option Int) = some y from h)
  | succ n ih =>
    intro v2 v3 sM h
    rw [l_X10_waysAt_4] at h
    refine y_blk (t := 4) rfl (show fnd bk_X10_waysAt 4 = some _ from rfl) aB_X10_waysAt ?_
    refine wp_iload_n (v := v3) rfl ?_
    refine wp_aload_n (v := ((e0 : Nat) : Int)) rfl (Int.natCast_nonneg _) ?_
    refine y_get (aTold0 he0) (ltTold hS.1.1 he0 0 (by decide)) (v := (((e0 + 1) : Nat) : Int)) (rTold3 sM he0) rfl ?_
    refine wp_iconst ⟨by decide, by decide⟩ ?_
    refine y_iald (aTold1 he0) (Or.inl (ltTold hS.1.1 he0 1 (by decide))) (Nat.ne_of_lt (Nat.lt_of_lt_of_le (ltTold hS.1.1 he0 1 (by decide)) hS.1.2)) ⟨by decide, by decide⟩ (v := M (e0 + 1) 2) rfl ?_
    refine wp_icmp_ge (fun c1 => ?_) (fun c1 => ?_)
    · rw [if_pos c1] at h
      exact hk v2 v3   sM h
    · rw [if_neg c1] at h
      refine wp_aload_n (v := ((e0 : Nat) : Int)) rfl (Int.natCast_nonneg _) ?_
      refine y_get (aTold0 he0) (ltTold hS.1.1 he0 0 (by decide)) (v := (((e0 + 2) : Nat) : Int)) (rTold5 sM he0) rfl ?_
      refine wp_iload_n (v := v3) rfl ?_
      obtain ⟨c2, h⟩ := d_ite h
      refine y_iald (aTold2 he0) (Or.inl (ltTold hS.1.1 he0 2 (by decide))) (Nat.ne_of_lt (Nat.lt_of_lt_of_le (ltTold hS.1.1 he0 2 (by decide)) hS.1.2)) c2 (v := M (e0 + 2) (v3).toNat) rfl ?_
      refine wp_iload_n (v := v1) rfl ?_
      refine wp_icmp_eq (fun c3 => ?_) (fun c3 => ?_)
      · rw [if_pos c3] at h
        refine y_blk (t := 34) rfl (show fnd bk_X10_waysAt 34 = some _ from rfl) aB_X10_waysAt ?_
        obtain ⟨c4, h⟩ := d_ite h
        refine y_iinc (L1 := [(2, ((e0 : Nat) : Int)), (0, v1), (0, (v2 + 1)), (0, v3)]) rfl (Nat.le_of_ble_eq_true rfl) ⟨by decide, by decide⟩ c4 rfl ?_
        refine y_blk (t := 37) rfl (show fnd bk_X10_waysAt 37 = some _ from rfl) aB_X10_waysAt ?_
        obtain ⟨c5, h⟩ := d_ite h
        refine y_iinc (L1 := [(2, ((e0 : Nat) : Int)), (0, v1), (0, (v2 + 1)), (0, (v3 + 1))]) rfl (Nat.le_of_ble_eq_true rfl) ⟨by decide, by decide⟩ c5 rfl ?_
        refine wp_goto ?_
        exact ih (v2 + 1) (v3 + 1)   sM h
      · rw [if_neg c3] at h
        refine wp_aload_n (v := ((e0 : Nat) : Int)) rfl (Int.natCast_nonneg _) ?_
        refine y_get (aTold0 he0) (ltTold hS.1.1 he0 0 (by decide)) (v := (((e0 + 3) : Nat) : Int)) (rTold6 sM he0) rfl ?_
        refine wp_iload_n (v := v3) rfl ?_
        refine y_iald (aTold3 he0) (Or.inl (ltTold hS.1.1 he0 3 (by decide))) (Nat.ne_of_lt (Nat.lt_of_lt_of_le (ltTold hS.1.1 he0 3 (by decide)) hS.1.2)) c2 (v := M (e0 + 3) (v3).toNat) rfl ?_
        refine wp_iload_n (v := v1) rfl ?_
        refine y_ne (fun c6 => ?_) (fun c6 => ?_)
        · rw [if_neg c6] at h
          refine y_blk (t := 37) rfl (show fnd bk_X10_waysAt 37 = some _ from rfl) aB_X10_waysAt ?_
          obtain ⟨c7, h⟩ := d_ite h
          refine y_iinc (L1 := [(2, ((e0 : Nat) : Int)), (0, v1), (0, v2), (0, (v3 + 1))]) rfl (Nat.le_of_ble_eq_true rfl) ⟨by decide, by decide⟩ c7 rfl ?_
          refine wp_goto ?_
          exact ih v2 (v3 + 1)   sM h
        · rw [if_pos c6] at h
          refine y_blk (t := 34) rfl (show fnd bk_X10_waysAt 34 = some _ from rfl) aB_X10_waysAt ?_
          obtain ⟨c8, h⟩ := d_ite h
          refine y_iinc (L1 := [(2, ((e0 : Nat) : Int)), (0, v1), (0, (v2 + 1)), (0, v3)]) rfl (Nat.le_of_ble_eq_true rfl) ⟨by decide, by decide⟩ c8 rfl ?_
          refine y_blk (t := 37) rfl (show fnd bk_X10_waysAt 37 = some _ from rfl) aB_X10_waysAt ?_
          obtain ⟨c9, h⟩ := d_ite h
          refine y_iinc (L1 := [(2, ((e0 : Nat) : Int)), (0, v1), (0, (v2 + 1)), (0, (v3 + 1))]) rfl (Nat.le_of_ble_eq_true rfl) ⟨by decide, by decide⟩ c9 rfl ?_
          refine wp_goto ?_
          exact ih (v2 + 1) (v3 + 1)   sM h
def f_X10_waysAt (T : Nat) (e0 : Nat) (v1 : Int) (M : aM) : Option Int :=
 l_X10_waysAt_4 T e0 v1 M (fun w10 w11 =>
 some w10) FU 0 0
theorem t_X10_waysAt {T : T3} {e0 : Nat} {v1 : Int} {M : aM} {y : Int} (he0 : isTold e0) (hS : Sh T.1 M) (h : f_X10_waysAt T.1 e0 v1 M = some y) : Mr 0 110 [(2, ((e0 : Nat) : Int)), (0, v1)] M (some (0, y)) M T := by
  have key : ∀ d, 0 ≤ d → Wp d 110 0 [] [(2, ((e0 : Nat) : Int)), (0, v1), (9, 0), (9, 0)] [] (M, T) (fun r2 σ2 => r2 = some (0, y) ∧ σ2 = (M, T)) := by
    intro d hd
    rw [f_X10_waysAt] at h
    refine y_blk (t := 0) rfl (show fnd bk_X10_waysAt 0 = some _ from rfl) aB_X10_waysAt ?_
    refine wp_iconst ⟨by decide, by decide⟩ ?_
    refine y_stn (L1 := [(2, ((e0 : Nat) : Int)), (0, v1), (0, 0), (9, 0)]) (Nat.le_of_ble_eq_true rfl) rfl ?_
    refine wp_iconst ⟨by decide, by decide⟩ ?_
    refine y_stn (L1 := [(2, ((e0 : Nat) : Int)), (0, v1), (0, 0), (0, 0)]) (Nat.le_of_ble_eq_true rfl) rfl ?_
    refine tl_X10_waysAt_4 (by omega) he0 hS (fun w10 w11   s12 h => ?_) FU 0 0   hS h
    refine y_blk (t := 43) rfl (show fnd bk_X10_waysAt 43 = some _ from rfl) aB_X10_waysAt ?_
    refine wp_iload_n (v := w10) rfl ?_
    cases h
    exact y_ret0 (Or.inl rfl) ⟨rfl, rfl⟩
  exact fun d hd => Ms.of (key d hd)
theorem aB_X11_putBytes : ∀ pc, aB 183 pc = fnd bk_X11_putBytes pc := fun _ => rfl
def l_X11_putBytes_3 (T : Nat) (v1 : Int) (k : Int → aM → Option (Int × aM)) : Nat → Int → aM → Option (Int × aM)
| 0, _, _ => none
| n + 1, v2, M =>
 if v2 < 0 then
 k v2 M else
 if 0 ≤ (M 0 1) ∧ (M 0 1) < 900 then
 if -128 ≤ (ai2b (ashr v1 v2)) ∧ (ai2b (ashr v1 v2)) < 128 then
 (some (aup M 1 ((M 0 1)).toNat (ai2b (ashr v1 v2)))).bind fun m4 =>
 if aIn ((m4 0 1) + 1) then
 (some (aup m4 0 1 ((m4 0 1) + 1))).bind fun m7 =>
 if aIn (v2 + (-8)) then
 l_X11_putBytes_3 T v1 k n (v2 + (-8)) m7 else none else none else none else none
theorem tl_X11_putBytes_3 {d : Nat} (hd : 0 ≤ d) {T : T3} {v1 : Int} {k : Int → aM → Option (Int × aM)} {y : (Int × aM)}  {M0 : aM} (hS : Sh T.1 M0)
    (hk : ∀ (v2 : Int) (M : aM), Sh T.1 M → k v2 M = some y → Wp d 183 36 [] [(2, ((0 : Nat) : Int)), (0, v1), (0, v2)] [] (M, T) (fun r2 σ2 => r2 = none ∧ σ2 = (y.2, T) ∧ Sh T.1 y.2)) :
    ∀ (n : Nat) (v2 : Int) (M : aM), Sh T.1 M → l_X11_putBytes_3 T.1 v1 k n v2 M = some y → Wp d 183 3 [] [(2, ((0 : Nat) : Int)), (0, v1), (0, v2)] [] (M, T) (fun r2 σ2 => r2 = none ∧ σ2 = (y.2, T) ∧ Sh T.1 y.2) := by
  intro n
  induction n with
  | zero =>
    intro v2 M _ h
    exact nomatch (show (none : Option (Int × aM)) = some y from h)
  | succ n ih =>
    intro v2 M sM h
    rw [l_X11_putBytes_3] at h
    refine y_blk (t := 3) rfl (show fnd bk_X11_putBytes 3 = some _ from rfl) aB_X11_putBytes ?_
    refine wp_iload_n (v := v2) rfl ?_
    refine wp_if_lt (fun c1 => ?_) (fun c1 => ?_)
    · rw [if_pos c1] at h
      exact hk v2  M sM h
    · rw [if_neg c1] at h
      refine wp_aload_n (v := ((0 : Nat) : Int)) rfl (Int.natCast_nonneg _) ?_
      refine y_get (show ash 0 = (11, 15) from rfl) (Nat.lt_of_lt_of_le (show 0 < 154 by decide) hS.1.1) (v := ((1 : Nat) : Int)) (sM.at 0 0 1 (by decide +kernel)) rfl ?_
      refine wp_aload_n (v := ((0 : Nat) : Int)) rfl (Int.natCast_nonneg _) ?_
      refine y_get (show ash 0 = (11, 15) from rfl) (Nat.lt_of_lt_of_le (show 0 < 154 by decide) hS.1.1) (v := M 0 1) rfl rfl ?_
      refine wp_iload_n (v := v1) rfl ?_
      refine wp_iload_n (v := v2) rfl ?_
      refine wp_ishr ?_
      refine wp_i2b ?_
      obtain ⟨c2, h⟩ := d_ite h
      obtain ⟨c3, h⟩ := d_ite h
      refine y_bast (show ash 1 = (101, 900) from rfl) (Nat.lt_of_lt_of_le (show 1 < 154 by decide) hS.1.1) c2 c3 ?_
      obtain ⟨m4, em4, h⟩ := d_bind h
      have em4 := Option.some.inj em4
      have s5 : Sh T.1 m4 := em4 ▸ sM.up (Or.inl ⟨by rw [(show ash 1 = (101, 900) from rfl)]; exact Nat.le_of_ble_eq_true rfl, by rw [(show ash 1 = (101, 900) from rfl)]; exact Nat.le_of_ble_eq_true rfl⟩) (by have := (Nat.lt_of_lt_of_le (show 1 < 154 by decide) hS.1.1); have := hS.1.2; omega)
      rw [em4]
      refine wp_aload_n (v := ((0 : Nat) : Int)) rfl (Int.natCast_nonneg _) ?_
      refine wp_dup (Or.inr rfl) ?_
      refine y_get (show ash 0 = (11, 15) from rfl) (Nat.lt_of_lt_of_le (show 0 < 154 by decide) hS.1.1) (v := m4 0 1) rfl rfl ?_
      refine wp_iconst ⟨by decide, by decide⟩ ?_
      obtain ⟨c6, h⟩ := d_ite h
      refine wp_iadd c6 ?_
      refine y_put (show ash 0 = (11, 15) from rfl) (Nat.lt_of_lt_of_le (show 0 < 154 by decide) hS.1.1) rfl ?_
      obtain ⟨m7, em7, h⟩ := d_bind h
      have em7 := Option.some.inj em7
      have s8 : Sh T.1 m7 := em7 ▸ s5.up (Or.inr ⟨by rw [(show ash 0 = (11, 15) from rfl)]; decide, by rw [(show ash 0 = (11, 15) from rfl)]; decide⟩) (by have := (Nat.lt_of_lt_of_le (show 0 < 154 by decide) hS.1.1); have := hS.1.2; omega)
      rw [em7]
      obtain ⟨c9, h⟩ := d_ite h
      refine y_iinc (L1 := [(2, ((0 : Nat) : Int)), (0, v1), (0, (v2 + (-8)))]) rfl (Nat.le_of_ble_eq_true rfl) ⟨by decide, by decide⟩ c9 rfl ?_
      refine wp_goto ?_
      exact ih (v2 + (-8))  m7 s8 h
def f_X11_putBytes (T : Nat) (v1 : Int) (M : aM) : Option (Int × aM) :=
 l_X11_putBytes_3 T v1 (fun w10 m11 =>
 some (0, m11)) FU 24 M
theorem t_X11_putBytes {T : T3} {v1 : Int} {M : aM} {y : (Int × aM)}  (hS : Sh T.1 M) (h : f_X11_putBytes T.1 v1 M = some y) : Mr 0 183 [(2, ((0 : Nat) : Int)), (0, v1)] M (none) y.2 T ∧ Sh T.1 y.2 := by
  have key : ∀ d, 0 ≤ d → Wp d 183 0 [] [(2, ((0 : Nat) : Int)), (0, v1), (9, 0)] [] (M, T) (fun r2 σ2 => r2 = none ∧ σ2 = (y.2, T) ∧ Sh T.1 y.2) := by
    intro d hd
    rw [f_X11_putBytes] at h
    refine y_blk (t := 0) rfl (show fnd bk_X11_putBytes 0 = some _ from rfl) aB_X11_putBytes ?_
    refine wp_bipush (by decide) ?_
    refine y_stn (L1 := [(2, ((0 : Nat) : Int)), (0, v1), (0, 24)]) (Nat.le_of_ble_eq_true rfl) rfl ?_
    refine tl_X11_putBytes_3 (by omega) hS (fun w10  m11 s12 h => ?_) FU 24  M hS h
    refine y_blk (t := 36) rfl (show fnd bk_X11_putBytes 36 = some _ from rfl) aB_X11_putBytes ?_
    cases h
    exact wp_return ⟨rfl, rfl, s12⟩
  exact ⟨fun d hd => Ms.of3 (key d hd), Ms.sh (key 0 (Nat.le_refl _))⟩
theorem aB_X11_feed : ∀ pc, aB 114 pc = fnd bk_X11_feed pc := fun _ => rfl
def f_X11_feed (T : Nat) (v1 : Int) (v2 : Int) (v3 : Int) (v4 : Int) (v5 : Int) (M : aM) : Option (Int × aM) :=
 if aIn ((M 0 1) + 20) then
 if ((M 0 1) + 20) ≤ 900 then
 (f_X11_putBytes T v1 M).bind fun x3 =>
 (f_X11_putBytes T v2 x3.2).bind fun x7 =>
 (f_X11_putBytes T v3 x7.2).bind fun x11 =>
 (f_X11_putBytes T v4 x11.2).bind fun x15 =>
 (f_X11_putBytes T v5 x15.2).bind fun x19 =>
 some ((x19.2 0 1), x19.2) else
 some ((-1), M) else none
theorem t_X11_feed {T : T3} {v1 : Int} {v2 : Int} {v3 : Int} {v4 : Int} {v5 : Int} {M : aM} {y : (Int × aM)}  (hS : Sh T.1 M) (h : f_X11_feed T.1 v1 v2 v3 v4 v5 M = some y) : Mr 1 114 [(2, ((0 : Nat) : Int)), (0, v1), (0, v2), (0, v3), (0, v4), (0, v5)] M (some (0, y.1)) y.2 T ∧ Sh T.1 y.2 := by
  have key : ∀ d, 1 ≤ d → Wp d 114 0 [] [(2, ((0 : Nat) : Int)), (0, v1), (0, v2), (0, v3), (0, v4), (0, v5)] [] (M, T) (fun r2 σ2 => r2 = some (0, y.1) ∧ σ2 = (y.2, T) ∧ Sh T.1 y.2) := by
    intro d hd
    rw [f_X11_feed] at h
    refine y_blk (t := 0) rfl (show fnd bk_X11_feed 0 = some _ from rfl) aB_X11_feed ?_
    refine wp_aload_n (v := ((0 : Nat) : Int)) rfl (Int.natCast_nonneg _) ?_
    refine y_get (show ash 0 = (11, 15) from rfl) (Nat.lt_of_lt_of_le (show 0 < 154 by decide) hS.1.1) (v := M 0 1) rfl rfl ?_
    refine wp_bipush (by decide) ?_
    obtain ⟨c1, h⟩ := d_ite h
    refine wp_iadd c1 ?_
    refine wp_sipush (by decide) ?_
    refine wp_icmp_le (fun c2 => ?_) (fun c2 => ?_)
    · rw [if_pos c2] at h
      refine y_blk (t := 15) rfl (show fnd bk_X11_feed 15 = some _ from rfl) aB_X11_feed ?_
      refine wp_aload_n (v := ((0 : Nat) : Int)) rfl (Int.natCast_nonneg _) ?_
      refine wp_iload_n (v := v1) rfl ?_
      obtain ⟨x3, e4, h⟩ := d_bind h
      obtain ⟨r5, s6⟩ := t_X11_putBytes hS e4
      refine y_callVv (as := [(0, v1)]) (S1 := []) (Nat.le_of_ble_eq_true rfl) (by omega) r5 rfl (show ash 0 = (11, 15) from rfl) (Nat.lt_of_lt_of_le (show 0 < 154 by decide) hS.1.1) (Nat.le_of_ble_eq_true rfl) (Nat.le_of_ble_eq_true rfl) rfl ?_
      refine wp_aload_n (v := ((0 : Nat) : Int)) rfl (Int.natCast_nonneg _) ?_
      refine wp_iload_n (v := v2) rfl ?_
      obtain ⟨x7, e8, h⟩ := d_bind h
      obtain ⟨r9, s10⟩ := t_X11_putBytes s6 e8
      refine y_callVv (as := [(0, v2)]) (S1 := []) (Nat.le_of_ble_eq_true rfl) (by omega) r9 rfl (show ash 0 = (11, 15) from rfl) (Nat.lt_of_lt_of_le (show 0 < 154 by decide) hS.1.1) (Nat.le_of_ble_eq_true rfl) (Nat.le_of_ble_eq_true rfl) rfl ?_
      refine wp_aload_n (v := ((0 : Nat) : Int)) rfl (Int.natCast_nonneg _) ?_
      refine wp_iload_n (v := v3) rfl ?_
      obtain ⟨x11, e12, h⟩ := d_bind h
      obtain ⟨r13, s14⟩ := t_X11_putBytes s10 e12
      refine y_callVv (as := [(0, v3)]) (S1 := []) (Nat.le_of_ble_eq_true rfl) (by omega) r13 rfl (show ash 0 = (11, 15) from rfl) (Nat.lt_of_lt_of_le (show 0 < 154 by decide) hS.1.1) (Nat.le_of_ble_eq_true rfl) (Nat.le_of_ble_eq_true rfl) rfl ?_
      refine wp_aload_n (v := ((0 : Nat) : Int)) rfl (Int.natCast_nonneg _) ?_
      refine wp_iload (v := v4) rfl ?_
      obtain ⟨x15, e16, h⟩ := d_bind h
      obtain ⟨r17, s18⟩ := t_X11_putBytes s14 e16
      refine y_callVv (as := [(0, v4)]) (S1 := []) (Nat.le_of_ble_eq_true rfl) (by omega) r17 rfl (show ash 0 = (11, 15) from rfl) (Nat.lt_of_lt_of_le (show 0 < 154 by decide) hS.1.1) (Nat.le_of_ble_eq_true rfl) (Nat.le_of_ble_eq_true rfl) rfl ?_
      refine wp_aload_n (v := ((0 : Nat) : Int)) rfl (Int.natCast_nonneg _) ?_
      refine wp_iload (v := v5) rfl ?_
      obtain ⟨x19, e20, h⟩ := d_bind h
      obtain ⟨r21, s22⟩ := t_X11_putBytes s18 e20
      refine y_callVv (as := [(0, v5)]) (S1 := []) (Nat.le_of_ble_eq_true rfl) (by omega) r21 rfl (show ash 0 = (11, 15) from rfl) (Nat.lt_of_lt_of_le (show 0 < 154 by decide) hS.1.1) (Nat.le_of_ble_eq_true rfl) (Nat.le_of_ble_eq_true rfl) rfl ?_
      refine wp_aload_n (v := ((0 : Nat) : Int)) rfl (Int.natCast_nonneg _) ?_
      refine y_get (show ash 0 = (11, 15) from rfl) (Nat.lt_of_lt_of_le (show 0 < 154 by decide) hS.1.1) (v := x19.2 0 1) rfl rfl ?_
      cases h
      exact y_ret0 (Or.inl rfl) ⟨rfl, rfl, s22⟩
    · rw [if_neg c2] at h
      refine wp_iconst ⟨by decide, by decide⟩ ?_
      cases h
      exact y_ret0 (Or.inl rfl) ⟨rfl, rfl, hS⟩
  exact ⟨fun d hd => Ms.of3 (key d hd), Ms.sh (key 1 (Nat.le_refl _))⟩
theorem aB_X11_refuse : ∀ pc, aB 170 pc = fnd bk_X11_refuse pc := fun _ => rfl
def f_X11_refuse (T : Nat) (v1 : Int) (M : aM) : Option (Int × aM) :=
 (some (aup M 0 14 v1)).bind fun m1 =>
 some ((-1), m1)
theorem t_X11_refuse {T : T3} {v1 : Int} {M : aM} {y : (Int × aM)}  (hS : Sh T.1 M) (h : f_X11_refuse T.1 v1 M = some y) : Mr 0 170 [(2, ((0 : Nat) : Int)), (0, v1)] M (some (0, y.1)) y.2 T ∧ Sh T.1 y.2 := by
  have key : ∀ d, 0 ≤ d → Wp d 170 0 [] [(2, ((0 : Nat) : Int)), (0, v1)] [] (M, T) (fun r2 σ2 => r2 = some (0, y.1) ∧ σ2 = (y.2, T) ∧ Sh T.1 y.2) := by
    intro d hd
    rw [f_X11_refuse] at h
    refine y_blk (t := 0) rfl (show fnd bk_X11_refuse 0 = some _ from rfl) aB_X11_refuse ?_
    refine wp_aload_n (v := ((0 : Nat) : Int)) rfl (Int.natCast_nonneg _) ?_
    refine wp_iload_n (v := v1) rfl ?_
    refine y_put (show ash 0 = (11, 15) from rfl) (Nat.lt_of_lt_of_le (show 0 < 154 by decide) hS.1.1) rfl ?_
    obtain ⟨m1, em1, h⟩ := d_bind h
    have em1 := Option.some.inj em1
    have s2 : Sh T.1 m1 := em1 ▸ hS.up (Or.inr ⟨by rw [(show ash 0 = (11, 15) from rfl)]; decide, by rw [(show ash 0 = (11, 15) from rfl)]; decide⟩) (by have := (Nat.lt_of_lt_of_le (show 0 < 154 by decide) hS.1.1); have := hS.1.2; omega)
    rw [em1]
    refine wp_iconst ⟨by decide, by decide⟩ ?_
    cases h
    exact y_ret0 (Or.inl rfl) ⟨rfl, rfl, s2⟩
  exact ⟨fun d hd => Ms.of3 (key d hd), Ms.sh (key 0 (Nat.le_refl _))⟩

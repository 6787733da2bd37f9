/-! ===== methods as functions ===== -/
theorem aB_X0_chanceWithin : ∀ pc, aB 2 pc = fnd bk_X0_chanceWithin pc := fun _ => rfl
def l_X0_chanceWithin_9 (T : Nat) (v1 : Int) (v2 : Int) (v3 : Int) (k : Int → Int → Int → aM → Option (Int × aM)) : Nat → Int → Int → Int → aM → Option (Int × aM)
| 0, _, _, _, _ => none
| n + 1, v4, v6, v7, M =>
 (f_J6_bitCount_0f7a4 T (M 35 3) M).bind fun x1 =>
 if (ashl 1 x1) ≤ v7 then
 k v4 v6 v7 M else
 (f_X5_layFrom T 45 (aand (M 35 3) (axor v6 (-1))) v1 M).bind fun x4 =>
 (f_X5_span T 45 v1 v2 x4.2).bind fun x8 =>
 if v3 < x8 then
 (f_X0_nextDried T v6 x4.2).bind fun x11 =>
 if aIn (v7 + 1) then
 l_X0_chanceWithin_9 T v1 v2 v3 k n v4 x11 (v7 + 1) x4.2 else none else
 (f_X0_chanceOf T v6 x4.2).bind fun x14 =>
 if aInL (v4 + x14) then
 (f_X0_nextDried T v6 x4.2).bind fun x17 =>
 if aIn (v7 + 1) then
 l_X0_chanceWithin_9 T v1 v2 v3 k n (v4 + x14) x17 (v7 + 1) x4.2 else none else none
theorem tl_X0_chanceWithin_9 {d : Nat} (hd : 3 ≤ d) {T : T3} {v1 : Int} {v2 : Int} {v3 : Int} {k : Int → Int → Int → aM → Option (Int × aM)} {y : (Int × aM)}  {M0 : aM} (hS : Sh T.1 M0)
    (hk : ∀ (v4 v6 v7 : Int) (M : aM), Sh T.1 M → k v4 v6 v7 M = some y → Wp d 2 84 [] [(2, ((58 : Nat) : Int)), (0, v1), (0, v2), (0, v3), (1, v4), (9, 0), (0, v6), (0, v7)] [] (M, T) (fun r2 σ2 => r2 = some (1, y.1) ∧ σ2 = (y.2, T) ∧ Sh T.1 y.2)) :
    ∀ (n : Nat) (v4 v6 v7 : Int) (M : aM), Sh T.1 M → l_X0_chanceWithin_9 T.1 v1 v2 v3 k n v4 v6 v7 M = some y → Wp d 2 9 [] [(2, ((58 : Nat) : Int)), (0, v1), (0, v2), (0, v3), (1, v4), (9, 0), (0, v6), (0, v7)] [] (M, T) (fun r2 σ2 => r2 = some (1, y.1) ∧ σ2 = (y.2, T) ∧ Sh T.1 y.2) := by
  intro n
  induction n with
  | zero =>
    intro v4 v6 v7 M _ h
    exact nomatch (show (none : Option (Int × aM)) = some y from h)
  | succ n ih =>
    intro v4 v6 v7 M sM h
    rw [l_X0_chanceWithin_9] at h
    refine y_blk (t := 9) rfl (show fnd bk_X0_chanceWithin 9 = some _ from rfl) aB_X0_chanceWithin ?_
    refine wp_iload (v := v7) rfl ?_
    refine wp_iconst ⟨by decide, by decide⟩ ?_
    refine wp_aload_n (v := ((58 : Nat) : Int)) rfl (Int.natCast_nonneg _) ?_
    refine y_get (show ash 58 = (0, 4) from rfl) (Nat.lt_of_lt_of_le (show 58 < 154 by decide) hS.1.1) (v := ((35 : Nat) : Int)) (sM.at 58 1 35 (by decide +kernel)) rfl ?_
    refine y_get (show ash 35 = (8, 5) from rfl) (Nat.lt_of_lt_of_le (show 35 < 154 by decide) hS.1.1) (v := M 35 3) rfl rfl ?_
    obtain ⟨x1, e2, h⟩ := d_bind h
    refine y_callS (as := [(0, (M 35 3))]) (S1 := [(0, 1), (0, v7)]) (Nat.le_of_ble_eq_true rfl) (by omega) (t_J6_bitCount_0f7a4 sM e2) (Nat.le_of_ble_eq_true rfl) rfl (Nat.le_of_ble_eq_true rfl) (Nat.le_of_ble_eq_true rfl) rfl ?_
    refine wp_ishl ?_
    refine wp_icmp_ge (fun c3 => ?_) (fun c3 => ?_)
    · rw [if_pos c3] at h
      exact hk v4 v6 v7  M sM h
    · rw [if_neg c3] at h
      refine wp_aload_n (v := ((58 : Nat) : Int)) rfl (Int.natCast_nonneg _) ?_
      refine y_get (show ash 58 = (0, 4) from rfl) (Nat.lt_of_lt_of_le (show 58 < 154 by decide) hS.1.1) (v := ((45 : Nat) : Int)) (sM.at 58 2 45 (by decide +kernel)) rfl ?_
      refine wp_aload_n (v := ((58 : Nat) : Int)) rfl (Int.natCast_nonneg _) ?_
      refine y_get (show ash 58 = (0, 4) from rfl) (Nat.lt_of_lt_of_le (show 58 < 154 by decide) hS.1.1) (v := ((35 : Nat) : Int)) (sM.at 58 1 35 (by decide +kernel)) rfl ?_
      refine y_get (show ash 35 = (8, 5) from rfl) (Nat.lt_of_lt_of_le (show 35 < 154 by decide) hS.1.1) (v := M 35 3) rfl rfl ?_
      refine wp_iload (v := v6) rfl ?_
      refine wp_iconst ⟨by decide, by decide⟩ ?_
      refine wp_ixor ?_
      refine wp_iand ?_
      refine wp_iload_n (v := v1) rfl ?_
      obtain ⟨x4, e5, h⟩ := d_bind h
      obtain ⟨r6, s7⟩ := t_X5_layFrom (show isLand 45 by decide) sM e5
      refine y_callVv (as := [(0, (aand (M 35 3) (axor v6 (-1)))), (0, v1)]) (S1 := []) (Nat.le_of_ble_eq_true rfl) (by omega) r6 rfl (show ash 45 = (5, 4) from rfl) (Nat.lt_of_lt_of_le (show 45 < 154 by decide) hS.1.1) (Nat.le_of_ble_eq_true rfl) (Nat.le_of_ble_eq_true rfl) rfl ?_
      refine wp_aload_n (v := ((58 : Nat) : Int)) rfl (Int.natCast_nonneg _) ?_
      refine y_get (show ash 58 = (0, 4) from rfl) (Nat.lt_of_lt_of_le (show 58 < 154 by decide) hS.1.1) (v := ((45 : Nat) : Int)) (s7.at 58 2 45 (by decide +kernel)) rfl ?_
      refine wp_iload_n (v := v1) rfl ?_
      refine wp_iload_n (v := v2) rfl ?_
      obtain ⟨x8, e9, h⟩ := d_bind h
      refine y_callV (as := [(0, v1), (0, v2)]) (S1 := []) (Nat.le_of_ble_eq_true rfl) (by omega) (t_X5_span (show isLand 45 by decide) s7 e9) (Nat.le_of_ble_eq_true rfl) rfl (show ash 45 = (5, 4) from rfl) (Nat.lt_of_lt_of_le (show 45 < 154 by decide) hS.1.1) (Nat.le_of_ble_eq_true rfl) (Nat.le_of_ble_eq_true rfl) rfl ?_
      refine wp_iload_n (v := v3) rfl ?_
      refine wp_icmp_gt (fun c10 => ?_) (fun c10 => ?_)
      · rw [if_pos c10] at h
        refine y_blk (t := 70) rfl (show fnd bk_X0_chanceWithin 70 = some _ from rfl) aB_X0_chanceWithin ?_
        refine wp_aload_n (v := ((58 : Nat) : Int)) rfl (Int.natCast_nonneg _) ?_
        refine wp_iload (v := v6) rfl ?_
        obtain ⟨x11, e12, h⟩ := d_bind h
        refine y_callV (as := [(0, v6)]) (S1 := []) (Nat.le_of_ble_eq_true rfl) (by omega) (t_X0_nextDried s7 e12) (Nat.le_of_ble_eq_true rfl) rfl (show ash 58 = (0, 4) from rfl) (Nat.lt_of_lt_of_le (show 58 < 154 by decide) hS.1.1) (Nat.le_of_ble_eq_true rfl) (Nat.le_of_ble_eq_true rfl) rfl ?_
        refine y_st (L1 := [(2, ((58 : Nat) : Int)), (0, v1), (0, v2), (0, v3), (1, v4), (9, 0), (0, x11), (0, v7)]) (Nat.le_of_ble_eq_true rfl) rfl ?_
        obtain ⟨c13, h⟩ := d_ite h
        refine y_iinc (L1 := [(2, ((58 : Nat) : Int)), (0, v1), (0, v2), (0, v3), (1, v4), (9, 0), (0, x11), (0, (v7 + 1))]) rfl (Nat.le_of_ble_eq_true rfl) ⟨by decide, by decide⟩ c13 rfl ?_
        refine wp_goto ?_
        exact ih v4 x11 (v7 + 1)  x4.2 s7 h
      · rw [if_neg c10] at h
        refine wp_lload (v := v4) rfl ?_
        refine wp_aload_n (v := ((58 : Nat) : Int)) rfl (Int.natCast_nonneg _) ?_
        refine wp_iload (v := v6) rfl ?_
        obtain ⟨x14, e15, h⟩ := d_bind h
        refine y_callV (as := [(0, v6)]) (S1 := [(1, v4)]) (Nat.le_of_ble_eq_true rfl) (by omega) (t_X0_chanceOf s7 e15) (Nat.le_of_ble_eq_true rfl) rfl (show ash 58 = (0, 4) from rfl) (Nat.lt_of_lt_of_le (show 58 < 154 by decide) hS.1.1) (Nat.le_of_ble_eq_true rfl) (Nat.le_of_ble_eq_true rfl) rfl ?_
        obtain ⟨c16, h⟩ := d_ite h
        refine wp_ladd c16 ?_
        refine y_lst (L1 := [(2, ((58 : Nat) : Int)), (0, v1), (0, v2), (0, v3), (1, (v4 + x14)), (9, 0), (0, v6), (0, v7)]) (Nat.le_of_ble_eq_true rfl) rfl ?_
        refine y_blk (t := 70) rfl (show fnd bk_X0_chanceWithin 70 = some _ from rfl) aB_X0_chanceWithin ?_
        refine wp_aload_n (v := ((58 : Nat) : Int)) rfl (Int.natCast_nonneg _) ?_
        refine wp_iload (v := v6) rfl ?_
        obtain ⟨x17, e18, h⟩ := d_bind h
        refine y_callV (as := [(0, v6)]) (S1 := []) (Nat.le_of_ble_eq_true rfl) (by omega) (t_X0_nextDried s7 e18) (Nat.le_of_ble_eq_true rfl) rfl (show ash 58 = (0, 4) from rfl) (Nat.lt_of_lt_of_le (show 58 < 154 by decide) hS.1.1) (Nat.le_of_ble_eq_true rfl) (Nat.le_of_ble_eq_true rfl) rfl ?_
        refine y_st (L1 := [(2, ((58 : Nat) : Int)), (0, v1), (0, v2), (0, v3), (1, (v4 + x14)), (9, 0), (0, x17), (0, v7)]) (Nat.le_of_ble_eq_true rfl) rfl ?_
        obtain ⟨c19, h⟩ := d_ite h
        refine y_iinc (L1 := [(2, ((58 : Nat) : Int)), (0, v1), (0, v2), (0, v3), (1, (v4 + x14)), (9, 0), (0, x17), (0, (v7 + 1))]) rfl (Nat.le_of_ble_eq_true rfl) ⟨by decide, by decide⟩ c19 rfl ?_
        refine wp_goto ?_
        exact ih (v4 + x14) x17 (v7 + 1)  x4.2 s7 h
def f_X0_chanceWithin (T : Nat) (v1 : Int) (v2 : Int) (v3 : Int) (M : aM) : Option (Int × aM) :=
 l_X0_chanceWithin_9 T v1 v2 v3 (fun w20 w21 w22 m23 =>
 some (w20, m23)) FU 0 0 0 M
theorem t_X0_chanceWithin {T : T3} {v1 : Int} {v2 : Int} {v3 : Int} {M : aM} {y : (Int × aM)}  (hS : Sh T.1 M) (h : f_X0_chanceWithin T.1 v1 v2 v3 M = some y) : Mr 3 2 [(2, ((58 : Nat) : Int)), (0, v1), (0, v2), (0, v3)] M (some (1, y.1)) y.2 T ∧ Sh T.1 y.2 := by
  have key : ∀ d, 3 ≤ d → Wp d 2 0 [] [(2, ((58 : Nat) : Int)), (0, v1), (0, v2), (0, v3), (9, 0), (9, 0), (9, 0), (9, 0)] [] (M, T) (fun r2 σ2 => r2 = some (1, y.1) ∧ σ2 = (y.2, T) ∧ Sh T.1 y.2) := by
    intro d hd
    rw [f_X0_chanceWithin] at h
    refine y_blk (t := 0) rfl (show fnd bk_X0_chanceWithin 0 = some _ from rfl) aB_X0_chanceWithin ?_
    refine y_lconst (v := 0) rfl ?_
    refine y_lst (L1 := [(2, ((58 : Nat) : Int)), (0, v1), (0, v2), (0, v3), (1, 0), (9, 0), (9, 0), (9, 0)]) (Nat.le_of_ble_eq_true rfl) rfl ?_
    refine wp_iconst ⟨by decide, by decide⟩ ?_
    refine y_st (L1 := [(2, ((58 : Nat) : Int)), (0, v1), (0, v2), (0, v3), (1, 0), (9, 0), (0, 0), (9, 0)]) (Nat.le_of_ble_eq_true rfl) rfl ?_
    refine wp_iconst ⟨by decide, by decide⟩ ?_
    refine y_st (L1 := [(2, ((58 : Nat) : Int)), (0, v1), (0, v2), (0, v3), (1, 0), (9, 0), (0, 0), (0, 0)]) (Nat.le_of_ble_eq_true rfl) rfl ?_
    refine tl_X0_chanceWithin_9 (by omega) hS (fun w20 w21 w22  m23 s24 h => ?_) FU 0 0 0  M hS h
    refine y_blk (t := 84) rfl (show fnd bk_X0_chanceWithin 84 = some _ from rfl) aB_X0_chanceWithin ?_
    refine wp_lload (v := w20) rfl ?_
    cases h
    exact wp_lreturn ⟨rfl, rfl, s24⟩
  exact ⟨fun d hd => Ms.of3 (key d hd), Ms.sh (key 3 (Nat.le_refl _))⟩
theorem aB_X5_reachedFrom : ∀ pc, aB 54 pc = fnd bk_X5_reachedFrom pc := fun _ => rfl
def l_X5_reachedFrom_4 (T : Nat) (e0 : Nat) (v1 : Int) (M : aM) (k : Int → Int → Option Int) : Nat → Int → Int → Option Int
| 0, _, _ => none
| n + 1, v2, v3 =>
 if (M 3 1) ≤ v3 then
 k v2 v3 else
 (f_X5_span T e0 v1 v3 M).bind fun x2 =>
 if 1000000 ≤ x2 then
 if aIn (v3 + 1) then
 l_X5_reachedFrom_4 T e0 v1 M k n v2 (v3 + 1) else none else
 if aIn (v2 + 1) then
 if aIn (v3 + 1) then
 l_X5_reachedFrom_4 T e0 v1 M k n (v2 + 1) (v3 + 1) else none else none
theorem tl_X5_reachedFrom_4 {d : Nat} (hd : 1 ≤ d) {T : T3} {e0 : Nat} {v1 : Int} {M : aM} {k : Int → Int → Option Int} {y : Int} (he0 : isLand e0) (hS : Sh T.1 M)
    (hk : ∀ (v2 v3 : Int), Sh T.1 M → k v2 v3 = some y → Wp d 54 37 [] [(2, ((e0 : Nat) : Int)), (0, v1), (0, v2), (0, v3)] [] (M, T) (fun r2 σ2 => r2 = some (0, y) ∧ σ2 = (M, T))) :
    ∀ (n : Nat) (v2 v3 : Int), Sh T.1 M → l_X5_reachedFrom_4 T.1 e0 v1 M k n v2 v3 = some y → Wp d 54 4 [] [(2, ((e0 : Nat) : Int)), (0, v1), (0, v2), (0, v3)] [] (M, T) (fun r2 σ2 => r2 = some (0, y) ∧ σ2 = (M, T)) := by
  intro n
  induction n with
  | zero =>
    intro v2 v3 _ h
    exact nomatch (show (none : Option Int) = some y from h)
  | succ n ih =>
    intro v2 v3 sM h
    rw [l_X5_reachedFrom_4] at h
    refine y_blk (t := 4) rfl (show fnd bk_X5_reachedFrom 4 = some _ from rfl) aB_X5_reachedFrom ?_
    refine wp_iload_n (v := v3) rfl ?_
    refine wp_aload_n (v := ((e0 : Nat) : Int)) rfl (Int.natCast_nonneg _) ?_
    refine y_get (aLand0 he0) (ltLand hS.1.1 he0 0 (by decide)) (v := ((2 : Nat) : Int)) (rLand0 sM he0) rfl ?_
    refine y_get (show ash 2 = (10, 19) from rfl) (Nat.lt_of_lt_of_le (show 2 < 154 by decide) hS.1.1) (v := ((3 : Nat) : Int)) (sM.at 2 3 3 (by decide +kernel)) rfl ?_
    refine wp_iconst ⟨by decide, by decide⟩ ?_
    refine y_iald (show ash 3 = (100, 8) from rfl) (Or.inl (Nat.lt_of_lt_of_le (show 3 < 154 by decide) hS.1.1)) (Nat.ne_of_lt (Nat.lt_of_lt_of_le (Nat.lt_of_lt_of_le (show 3 < 154 by decide) hS.1.1) hS.1.2)) ⟨by decide, by decide⟩ (v := M 3 1) rfl ?_
    refine wp_icmp_ge (fun c1 => ?_) (fun c1 => ?_)
    · rw [if_pos c1] at h
      exact hk v2 v3   sM h
    · rw [if_neg c1] at h
      refine wp_aload_n (v := ((e0 : Nat) : Int)) rfl (Int.natCast_nonneg _) ?_
      refine wp_iload_n (v := v1) rfl ?_
      refine wp_iload_n (v := v3) rfl ?_
      obtain ⟨x2, e3, h⟩ := d_bind h
      refine y_callV (as := [(0, v1), (0, v3)]) (S1 := []) (Nat.le_of_ble_eq_true rfl) (by omega) (t_X5_span he0 sM e3) (Nat.le_of_ble_eq_true rfl) rfl (aLand0 he0) (ltLand hS.1.1 he0 0 (by decide)) (Nat.le_of_ble_eq_true rfl) (Nat.le_of_ble_eq_true rfl) rfl ?_
      refine y_ldc (v := 1000000) (by decide) rfl ?_
      refine wp_icmp_ge (fun c4 => ?_) (fun c4 => ?_)
      · rw [if_pos c4] at h
        refine y_blk (t := 31) rfl (show fnd bk_X5_reachedFrom 31 = some _ from rfl) aB_X5_reachedFrom ?_
        obtain ⟨c5, h⟩ := d_ite h
        refine y_iinc (L1 := [(2, ((e0 : Nat) : Int)), (0, v1), (0, v2), (0, (v3 + 1))]) rfl (Nat.le_of_ble_eq_true rfl) ⟨by decide, by decide⟩ c5 rfl ?_
        refine wp_goto ?_
        exact ih v2 (v3 + 1)   sM h
      · rw [if_neg c4] at h
        obtain ⟨c6, h⟩ := d_ite h
        refine y_iinc (L1 := [(2, ((e0 : Nat) : Int)), (0, v1), (0, (v2 + 1)), (0, v3)]) rfl (Nat.le_of_ble_eq_true rfl) ⟨by decide, by decide⟩ c6 rfl ?_
        refine y_blk (t := 31) rfl (show fnd bk_X5_reachedFrom 31 = some _ from rfl) aB_X5_reachedFrom ?_
        obtain ⟨c7, h⟩ := d_ite h
        refine y_iinc (L1 := [(2, ((e0 : Nat) : Int)), (0, v1), (0, (v2 + 1)), (0, (v3 + 1))]) rfl (Nat.le_of_ble_eq_true rfl) ⟨by decide, by decide⟩ c7 rfl ?_
        refine wp_goto ?_
        exact ih (v2 + 1) (v3 + 1)   sM h
def f_X5_reachedFrom (T : Nat) (e0 : Nat) (v1 : Int) (M : aM) : Option Int :=
 l_X5_reachedFrom_4 T e0 v1 M (fun w8 w9 =>
 some w8) FU 0 0
theorem t_X5_reachedFrom {T : T3} {e0 : Nat} {v1 : Int} {M : aM} {y : Int} (he0 : isLand e0) (hS : Sh T.1 M) (h : f_X5_reachedFrom T.1 e0 v1 M = some y) : Mr 1 54 [(2, ((e0 : Nat) : Int)), (0, v1)] M (some (0, y)) M T := by
  have key : ∀ d, 1 ≤ d → Wp d 54 0 [] [(2, ((e0 : Nat) : Int)), (0, v1), (9, 0), (9, 0)] [] (M, T) (fun r2 σ2 => r2 = some (0, y) ∧ σ2 = (M, T)) := by
    intro d hd
    rw [f_X5_reachedFrom] at h
    refine y_blk (t := 0) rfl (show fnd bk_X5_reachedFrom 0 = some _ from rfl) aB_X5_reachedFrom ?_
    refine wp_iconst ⟨by decide, by decide⟩ ?_
    refine y_stn (L1 := [(2, ((e0 : Nat) : Int)), (0, v1), (0, 0), (9, 0)]) (Nat.le_of_ble_eq_true rfl) rfl ?_
    refine wp_iconst ⟨by decide, by decide⟩ ?_
    refine y_stn (L1 := [(2, ((e0 : Nat) : Int)), (0, v1), (0, 0), (0, 0)]) (Nat.le_of_ble_eq_true rfl) rfl ?_
    refine tl_X5_reachedFrom_4 (by omega) he0 hS (fun w8 w9   s10 h => ?_) FU 0 0   hS h
    refine y_blk (t := 37) rfl (show fnd bk_X5_reachedFrom 37 = some _ from rfl) aB_X5_reachedFrom ?_
    refine wp_iload_n (v := w8) rfl ?_
    cases h
    exact y_ret0 (Or.inl rfl) ⟨rfl, rfl⟩
  exact fun d hd => Ms.of (key d hd)
theorem aB_X0_cavesByChance : ∀ pc, aB 3 pc = fnd bk_X0_cavesByChance pc := fun _ => rfl
def l_X0_cavesByChance_8 (T : Nat) (v1 : Int) (k : Int → Int → Int → aM → Option (Int × aM)) : Nat → Int → Int → Int → aM → Option (Int × aM)
| 0, _, _, _, _ => none
| n + 1, v2, v4, v5, M =>
 (f_J6_bitCount_0f7a4 T (M 35 3) M).bind fun x1 =>
 if (ashl 1 x1) ≤ v5 then
 k v2 v4 v5 M else
 (f_X5_layFrom T 45 (aand (M 35 3) (axor v4 (-1))) v1 M).bind fun x4 =>
 (f_X0_chanceOf T v4 x4.2).bind fun x8 =>
 (f_X5_reachedFrom T 45 v1 x4.2).bind fun x10 =>
 if aInL (x8 * x10) then
 if aInL (v2 + (x8 * x10)) then
 (f_X0_nextDried T v4 x4.2).bind fun x14 =>
 if aIn (v5 + 1) then
 l_X0_cavesByChance_8 T v1 k n (v2 + (x8 * x10)) x14 (v5 + 1) x4.2 else none else none else none
theorem tl_X0_cavesByChance_8 {d : Nat} (hd : 3 ≤ d) {T : T3} {v1 : Int} {k : Int → Int → Int → aM → Option (Int × aM)} {y : (Int × aM)}  {M0 : aM} (hS : Sh T.1 M0)
    (hk : ∀ (v2 v4 v5 : Int) (M : aM), Sh T.1 M → k v2 v4 v5 M = some y → Wp d 3 78 [] [(2, ((58 : Nat) : Int)), (0, v1), (1, v2), (9, 0), (0, v4), (0, v5)] [] (M, T) (fun r2 σ2 => r2 = some (1, y.1) ∧ σ2 = (y.2, T) ∧ Sh T.1 y.2)) :
    ∀ (n : Nat) (v2 v4 v5 : Int) (M : aM), Sh T.1 M → l_X0_cavesByChance_8 T.1 v1 k n v2 v4 v5 M = some y → Wp d 3 8 [] [(2, ((58 : Nat) : Int)), (0, v1), (1, v2), (9, 0), (0, v4), (0, v5)] [] (M, T) (fun r2 σ2 => r2 = some (1, y.1) ∧ σ2 = (y.2, T) ∧ Sh T.1 y.2) := by
  intro n
  induction n with
  | zero =>
    intro v2 v4 v5 M _ h
    exact nomatch (show (none : Option (Int × aM)) = some y from h)
  | succ n ih =>
    intro v2 v4 v5 M sM h
    rw [l_X0_cavesByChance_8] at h
    refine y_blk (t := 8) rfl (show fnd bk_X0_cavesByChance 8 = some _ from rfl) aB_X0_cavesByChance ?_
    refine wp_iload (v := v5) rfl ?_
    refine wp_iconst ⟨by decide, by decide⟩ ?_
    refine wp_aload_n (v := ((58 : Nat) : Int)) rfl (Int.natCast_nonneg _) ?_
    refine y_get (show ash 58 = (0, 4) from rfl) (Nat.lt_of_lt_of_le (show 58 < 154 by decide) hS.1.1) (v := ((35 : Nat) : Int)) (sM.at 58 1 35 (by decide +kernel)) rfl ?_
    refine y_get (show ash 35 = (8, 5) from rfl) (Nat.lt_of_lt_of_le (show 35 < 154 by decide) hS.1.1) (v := M 35 3) rfl rfl ?_
    obtain ⟨x1, e2, h⟩ := d_bind h
    refine y_callS (as := [(0, (M 35 3))]) (S1 := [(0, 1), (0, v5)]) (Nat.le_of_ble_eq_true rfl) (by omega) (t_J6_bitCount_0f7a4 sM e2) (Nat.le_of_ble_eq_true rfl) rfl (Nat.le_of_ble_eq_true rfl) (Nat.le_of_ble_eq_true rfl) rfl ?_
    refine wp_ishl ?_
    refine wp_icmp_ge (fun c3 => ?_) (fun c3 => ?_)
    · rw [if_pos c3] at h
      exact hk v2 v4 v5  M sM h
    · rw [if_neg c3] at h
      refine wp_aload_n (v := ((58 : Nat) : Int)) rfl (Int.natCast_nonneg _) ?_
      refine y_get (show ash 58 = (0, 4) from rfl) (Nat.lt_of_lt_of_le (show 58 < 154 by decide) hS.1.1) (v := ((45 : Nat) : Int)) (sM.at 58 2 45 (by decide +kernel)) rfl ?_
      refine wp_aload_n (v := ((58 : Nat) : Int)) rfl (Int.natCast_nonneg _) ?_
      refine y_get (show ash 58 = (0, 4) from rfl) (Nat.lt_of_lt_of_le (show 58 < 154 by decide) hS.1.1) (v := ((35 : Nat) : Int)) (sM.at 58 1 35 (by decide +kernel)) rfl ?_
      refine y_get (show ash 35 = (8, 5) from rfl) (Nat.lt_of_lt_of_le (show 35 < 154 by decide) hS.1.1) (v := M 35 3) rfl rfl ?_
      refine wp_iload (v := v4) rfl ?_
      refine wp_iconst ⟨by decide, by decide⟩ ?_
      refine wp_ixor ?_
      refine wp_iand ?_
      refine wp_iload_n (v := v1) rfl ?_
      obtain ⟨x4, e5, h⟩ := d_bind h
      obtain ⟨r6, s7⟩ := t_X5_layFrom (show isLand 45 by decide) sM e5
      refine y_callVv (as := [(0, (aand (M 35 3) (axor v4 (-1)))), (0, v1)]) (S1 := []) (Nat.le_of_ble_eq_true rfl) (by omega) r6 rfl (show ash 45 = (5, 4) from rfl) (Nat.lt_of_lt_of_le (show 45 < 154 by decide) hS.1.1) (Nat.le_of_ble_eq_true rfl) (Nat.le_of_ble_eq_true rfl) rfl ?_
      refine wp_lload_n (v := v2) rfl ?_
      refine wp_aload_n (v := ((58 : Nat) : Int)) rfl (Int.natCast_nonneg _) ?_
      refine wp_iload (v := v4) rfl ?_
      obtain ⟨x8, e9, h⟩ := d_bind h
      refine y_callV (as := [(0, v4)]) (S1 := [(1, v2)]) (Nat.le_of_ble_eq_true rfl) (by omega) (t_X0_chanceOf s7 e9) (Nat.le_of_ble_eq_true rfl) rfl (show ash 58 = (0, 4) from rfl) (Nat.lt_of_lt_of_le (show 58 < 154 by decide) hS.1.1) (Nat.le_of_ble_eq_true rfl) (Nat.le_of_ble_eq_true rfl) rfl ?_
      refine wp_aload_n (v := ((58 : Nat) : Int)) rfl (Int.natCast_nonneg _) ?_
      refine y_get (show ash 58 = (0, 4) from rfl) (Nat.lt_of_lt_of_le (show 58 < 154 by decide) hS.1.1) (v := ((45 : Nat) : Int)) (s7.at 58 2 45 (by decide +kernel)) rfl ?_
      refine wp_iload_n (v := v1) rfl ?_
      obtain ⟨x10, e11, h⟩ := d_bind h
      refine y_callV (as := [(0, v1)]) (S1 := [(1, x8), (1, v2)]) (Nat.le_of_ble_eq_true rfl) (by omega) (t_X5_reachedFrom (show isLand 45 by decide) s7 e11) (Nat.le_of_ble_eq_true rfl) rfl (show ash 45 = (5, 4) from rfl) (Nat.lt_of_lt_of_le (show 45 < 154 by decide) hS.1.1) (Nat.le_of_ble_eq_true rfl) (Nat.le_of_ble_eq_true rfl) rfl ?_
      refine wp_i2l ?_
      obtain ⟨c12, h⟩ := d_ite h
      refine wp_lmul c12 ?_
      obtain ⟨c13, h⟩ := d_ite h
      refine wp_ladd c13 ?_
      refine y_lstn (L1 := [(2, ((58 : Nat) : Int)), (0, v1), (1, (v2 + (x8 * x10))), (9, 0), (0, v4), (0, v5)]) (Nat.le_of_ble_eq_true rfl) rfl ?_
      refine wp_aload_n (v := ((58 : Nat) : Int)) rfl (Int.natCast_nonneg _) ?_
      refine wp_iload (v := v4) rfl ?_
      obtain ⟨x14, e15, h⟩ := d_bind h
      refine y_callV (as := [(0, v4)]) (S1 := []) (Nat.le_of_ble_eq_true rfl) (by omega) (t_X0_nextDried s7 e15) (Nat.le_of_ble_eq_true rfl) rfl (show ash 58 = (0, 4) from rfl) (Nat.lt_of_lt_of_le (show 58 < 154 by decide) hS.1.1) (Nat.le_of_ble_eq_true rfl) (Nat.le_of_ble_eq_true rfl) rfl ?_
      refine y_st (L1 := [(2, ((58 : Nat) : Int)), (0, v1), (1, (v2 + (x8 * x10))), (9, 0), (0, x14), (0, v5)]) (Nat.le_of_ble_eq_true rfl) rfl ?_
      obtain ⟨c16, h⟩ := d_ite h
      refine y_iinc (L1 := [(2, ((58 : Nat) : Int)), (0, v1), (1, (v2 + (x8 * x10))), (9, 0), (0, x14), (0, (v5 + 1))]) rfl (Nat.le_of_ble_eq_true rfl) ⟨by decide, by decide⟩ c16 rfl ?_
      refine wp_goto ?_
      exact ih (v2 + (x8 * x10)) x14 (v5 + 1)  x4.2 s7 h
def f_X0_cavesByChance (T : Nat) (v1 : Int) (M : aM) : Option (Int × aM) :=
 l_X0_cavesByChance_8 T v1 (fun w17 w18 w19 m20 =>
 some (w17, m20)) FU 0 0 0 M
theorem t_X0_cavesByChance {T : T3} {v1 : Int} {M : aM} {y : (Int × aM)}  (hS : Sh T.1 M) (h : f_X0_cavesByChance T.1 v1 M = some y) : Mr 3 3 [(2, ((58 : Nat) : Int)), (0, v1)] M (some (1, y.1)) y.2 T ∧ Sh T.1 y.2 := by
  have key : ∀ d, 3 ≤ d → Wp d 3 0 [] [(2, ((58 : Nat) : Int)), (0, v1), (9, 0), (9, 0), (9, 0), (9, 0)] [] (M, T) (fun r2 σ2 => r2 = some (1, y.1) ∧ σ2 = (y.2, T) ∧ Sh T.1 y.2) := by
    intro d hd
    rw [f_X0_cavesByChance] at h
    refine y_blk (t := 0) rfl (show fnd bk_X0_cavesByChance 0 = some _ from rfl) aB_X0_cavesByChance ?_
    refine y_lconst (v := 0) rfl ?_
    refine y_lstn (L1 := [(2, ((58 : Nat) : Int)), (0, v1), (1, 0), (9, 0), (9, 0), (9, 0)]) (Nat.le_of_ble_eq_true rfl) rfl ?_
    refine wp_iconst ⟨by decide, by decide⟩ ?_
    refine y_st (L1 := [(2, ((58 : Nat) : Int)), (0, v1), (1, 0), (9, 0), (0, 0), (9, 0)]) (Nat.le_of_ble_eq_true rfl) rfl ?_
    refine wp_iconst ⟨by decide, by decide⟩ ?_
    refine y_st (L1 := [(2, ((58 : Nat) : Int)), (0, v1), (1, 0), (9, 0), (0, 0), (0, 0)]) (Nat.le_of_ble_eq_true rfl) rfl ?_
    refine tl_X0_cavesByChance_8 (by omega) hS (fun w17 w18 w19  m20 s21 h => ?_) FU 0 0 0  M hS h
    refine y_blk (t := 78) rfl (show fnd bk_X0_cavesByChance 78 = some _ from rfl) aB_X0_cavesByChance ?_
    refine wp_lload_n (v := w17) rfl ?_
    cases h
    exact wp_lreturn ⟨rfl, rfl, s21⟩
  exact ⟨fun d hd => Ms.of3 (key d hd), Ms.sh (key 3 (Nat.le_refl _))⟩
theorem aB_X0_spanByDraws : ∀ pc, aB 6 pc = fnd bk_X0_spanByDraws pc := fun _ => rfl
def l_X0_spanByDraws_11 (T : Nat) (v1 : Int) (v2 : Int) (k : Int → Int → aM → Option (Int × aM)) : Nat → Int → Int → aM → Option (Int × aM)
| 0, _, _, _ => none
| n + 1, v3, v4, M =>
 if (M 3 2) ≤ v4 then
 k v3 v4 M else
 (f_X11_hasBit T (M 35 3) v4 M).bind fun x2 =>
 if x2 = 0 then
 if aIn (v4 + 1) then
 l_X0_spanByDraws_11 T v1 v2 k n v3 (v4 + 1) M else none else
 if aIn (75 * (M 58 3)) then
 if aIn ((75 * (M 58 3)) + 74) then
 (some (aup M 58 3 (arem ((75 * (M 58 3)) + 74) 65537))).bind fun m8 =>
 if (m8 2 2) ≤ (arem (m8 58 3) 100) then
 if aIn (v4 + 1) then
 l_X0_spanByDraws_11 T v1 v2 k n v3 (v4 + 1) m8 else none else
 if aIn (v4 + 1) then
 l_X0_spanByDraws_11 T v1 v2 k n (aand v3 (axor (ashl 1 v4) (-1))) (v4 + 1) m8 else none else none else none
theorem tl_X0_spanByDraws_11 {d : Nat} (hd : 3 ≤ d) {T : T3} {v1 : Int} {v2 : Int} {k : Int → Int → aM → Option (Int × aM)} {y : (Int × aM)}  {M0 : aM} (hS : Sh T.1 M0)
    (hk : ∀ (v3 v4 : Int) (M : aM), Sh T.1 M → k v3 v4 M = some y → Wp d 6 89 [] [(2, ((58 : Nat) : Int)), (0, v1), (0, v2), (0, v3), (0, v4)] [] (M, T) (fun r2 σ2 => r2 = some (0, y.1) ∧ σ2 = (y.2, T) ∧ Sh T.1 y.2)) :
    ∀ (n : Nat) (v3 v4 : Int) (M : aM), Sh T.1 M → l_X0_spanByDraws_11 T.1 v1 v2 k n v3 v4 M = some y → Wp d 6 11 [] [(2, ((58 : Nat) : Int)), (0, v1), (0, v2), (0, v3), (0, v4)] [] (M, T) (fun r2 σ2 => r2 = some (0, y.1) ∧ σ2 = (y.2, T) ∧ Sh T.1 y.2) := by
  intro n
  induction n with
  | zero =>
    intro v3 v4 M _ h
    exact nomatch (show (none : Option (Int × aM)) = some y from h)
  | succ n ih =>
    intro v3 v4 M sM h
    rw [l_X0_spanByDraws_11] at h
    refine y_blk (t := 11) rfl (show fnd bk_X0_spanByDraws 11 = some _ from rfl) aB_X0_spanByDraws ?_
    refine wp_iload (v := v4) rfl ?_
    refine wp_aload_n (v := ((58 : Nat) : Int)) rfl (Int.natCast_nonneg _) ?_
    refine y_get (show ash 58 = (0, 4) from rfl) (Nat.lt_of_lt_of_le (show 58 < 154 by decide) hS.1.1) (v := ((2 : Nat) : Int)) (sM.at 58 0 2 (by decide +kernel)) rfl ?_
    refine y_get (show ash 2 = (10, 19) from rfl) (Nat.lt_of_lt_of_le (show 2 < 154 by decide) hS.1.1) (v := ((3 : Nat) : Int)) (sM.at 2 3 3 (by decide +kernel)) rfl ?_
    refine wp_iconst ⟨by decide, by decide⟩ ?_
    refine y_iald (show ash 3 = (100, 8) from rfl) (Or.inl (Nat.lt_of_lt_of_le (show 3 < 154 by decide) hS.1.1)) (Nat.ne_of_lt (Nat.lt_of_lt_of_le (Nat.lt_of_lt_of_le (show 3 < 154 by decide) hS.1.1) hS.1.2)) ⟨by decide, by decide⟩ (v := M 3 2) rfl ?_
    refine wp_icmp_ge (fun c1 => ?_) (fun c1 => ?_)
    · rw [if_pos c1] at h
      exact hk v3 v4  M sM h
    · rw [if_neg c1] at h
      refine wp_aload_n (v := ((58 : Nat) : Int)) rfl (Int.natCast_nonneg _) ?_
      refine y_get (show ash 58 = (0, 4) from rfl) (Nat.lt_of_lt_of_le (show 58 < 154 by decide) hS.1.1) (v := ((35 : Nat) : Int)) (sM.at 58 1 35 (by decide +kernel)) rfl ?_
      refine y_get (show ash 35 = (8, 5) from rfl) (Nat.lt_of_lt_of_le (show 35 < 154 by decide) hS.1.1) (v := M 35 3) rfl rfl ?_
      refine wp_iload (v := v4) rfl ?_
      obtain ⟨x2, e3, h⟩ := d_bind h
      refine y_callS (as := [(0, (M 35 3)), (0, v4)]) (S1 := []) (Nat.le_of_ble_eq_true rfl) (by omega) (t_X11_hasBit sM e3) (Nat.le_of_ble_eq_true rfl) rfl (Nat.le_of_ble_eq_true rfl) (Nat.le_of_ble_eq_true rfl) rfl ?_
      refine wp_if_eq (fun c4 => ?_) (fun c4 => ?_)
      · rw [if_pos c4] at h
        refine y_blk (t := 83) rfl (show fnd bk_X0_spanByDraws 83 = some _ from rfl) aB_X0_spanByDraws ?_
        obtain ⟨c5, h⟩ := d_ite h
        refine y_iinc (L1 := [(2, ((58 : Nat) : Int)), (0, v1), (0, v2), (0, v3), (0, (v4 + 1))]) rfl (Nat.le_of_ble_eq_true rfl) ⟨by decide, by decide⟩ c5 rfl ?_
        refine wp_goto ?_
        exact ih v3 (v4 + 1)  M sM h
      · rw [if_neg c4] at h
        refine wp_aload_n (v := ((58 : Nat) : Int)) rfl (Int.natCast_nonneg _) ?_
        refine wp_bipush (by decide) ?_
        refine wp_aload_n (v := ((58 : Nat) : Int)) rfl (Int.natCast_nonneg _) ?_
        refine y_get (show ash 58 = (0, 4) from rfl) (Nat.lt_of_lt_of_le (show 58 < 154 by decide) hS.1.1) (v := M 58 3) rfl rfl ?_
        obtain ⟨c6, h⟩ := d_ite h
        refine wp_imul c6 ?_
        refine wp_bipush (by decide) ?_
        obtain ⟨c7, h⟩ := d_ite h
        refine wp_iadd c7 ?_
        refine y_ldc (v := 65537) (by decide) rfl ?_
        refine wp_irem (by decide) ?_
        refine y_put (show ash 58 = (0, 4) from rfl) (Nat.lt_of_lt_of_le (show 58 < 154 by decide) hS.1.1) rfl ?_
        obtain ⟨m8, em8, h⟩ := d_bind h
        have em8 := Option.some.inj em8
        have s9 : Sh T.1 m8 := em8 ▸ sM.up (Or.inr ⟨by rw [(show ash 58 = (0, 4) from rfl)]; decide, by rw [(show ash 58 = (0, 4) from rfl)]; decide⟩) (by have := (Nat.lt_of_lt_of_le (show 58 < 154 by decide) hS.1.1); have := hS.1.2; omega)
        rw [em8]
        refine wp_aload_n (v := ((58 : Nat) : Int)) rfl (Int.natCast_nonneg _) ?_
        refine y_get (show ash 58 = (0, 4) from rfl) (Nat.lt_of_lt_of_le (show 58 < 154 by decide) hS.1.1) (v := m8 58 3) rfl rfl ?_
        refine wp_bipush (by decide) ?_
        refine wp_irem (by decide) ?_
        refine wp_aload_n (v := ((58 : Nat) : Int)) rfl (Int.natCast_nonneg _) ?_
        refine y_get (show ash 58 = (0, 4) from rfl) (Nat.lt_of_lt_of_le (show 58 < 154 by decide) hS.1.1) (v := ((2 : Nat) : Int)) (s9.at 58 0 2 (by decide +kernel)) rfl ?_
        refine y_get (show ash 2 = (10, 19) from rfl) (Nat.lt_of_lt_of_le (show 2 < 154 by decide) hS.1.1) (v := m8 2 2) rfl rfl ?_
        refine wp_icmp_ge (fun c10 => ?_) (fun c10 => ?_)
        · rw [if_pos c10] at h
          refine y_blk (t := 83) rfl (show fnd bk_X0_spanByDraws 83 = some _ from rfl) aB_X0_spanByDraws ?_
          obtain ⟨c11, h⟩ := d_ite h
          refine y_iinc (L1 := [(2, ((58 : Nat) : Int)), (0, v1), (0, v2), (0, v3), (0, (v4 + 1))]) rfl (Nat.le_of_ble_eq_true rfl) ⟨by decide, by decide⟩ c11 rfl ?_
          refine wp_goto ?_
          exact ih v3 (v4 + 1)  m8 s9 h
        · rw [if_neg c10] at h
          refine wp_iload_n (v := v3) rfl ?_
          refine wp_iconst ⟨by decide, by decide⟩ ?_
          refine wp_iload (v := v4) rfl ?_
          refine wp_ishl ?_
          refine wp_iconst ⟨by decide, by decide⟩ ?_
          refine wp_ixor ?_
          refine wp_iand ?_
          refine y_stn (L1 := [(2, ((58 : Nat) : Int)), (0, v1), (0, v2), (0, (aand v3 (axor (ashl 1 v4) (-1)))), (0, v4)]) (Nat.le_of_ble_eq_true rfl) rfl ?_
          refine y_blk (t := 83) rfl (show fnd bk_X0_spanByDraws 83 = some _ from rfl) aB_X0_spanByDraws ?_
          obtain ⟨c12, h⟩ := d_ite h
          refine y_iinc (L1 := [(2, ((58 : Nat) : Int)), (0, v1), (0, v2), (0, (aand v3 (axor (ashl 1 v4) (-1)))), (0, (v4 + 1))]) rfl (Nat.le_of_ble_eq_true rfl) ⟨by decide, by decide⟩ c12 rfl ?_
          refine wp_goto ?_
          exact ih (aand v3 (axor (ashl 1 v4) (-1))) (v4 + 1)  m8 s9 h
def f_X0_spanByDraws (T : Nat) (v1 : Int) (v2 : Int) (M : aM) : Option (Int × aM) :=
 l_X0_spanByDraws_11 T v1 v2 (fun w13 w14 m15 =>
 (f_X5_layFrom T 45 w13 v1 m15).bind fun x17 =>
 (f_X5_span T 45 v1 v2 x17.2).bind fun x21 =>
 some (x21, x17.2)) FU (M 35 3) 0 M
theorem t_X0_spanByDraws {T : T3} {v1 : Int} {v2 : Int} {M : aM} {y : (Int × aM)}  (hS : Sh T.1 M) (h : f_X0_spanByDraws T.1 v1 v2 M = some y) : Mr 3 6 [(2, ((58 : Nat) : Int)), (0, v1), (0, v2)] M (some (0, y.1)) y.2 T ∧ Sh T.1 y.2 := by
  have key : ∀ d, 3 ≤ d → Wp d 6 0 [] [(2, ((58 : Nat) : Int)), (0, v1), (0, v2), (9, 0), (9, 0)] [] (M, T) (fun r2 σ2 => r2 = some (0, y.1) ∧ σ2 = (y.2, T) ∧ Sh T.1 y.2) := by
    intro d hd
    rw [f_X0_spanByDraws] at h
    refine y_blk (t := 0) rfl (show fnd bk_X0_spanByDraws 0 = some _ from rfl) aB_X0_spanByDraws ?_
    refine wp_aload_n (v := ((58 : Nat) : Int)) rfl (Int.natCast_nonneg _) ?_
    refine y_get (show ash 58 = (0, 4) from rfl) (Nat.lt_of_lt_of_le (show 58 < 154 by decide) hS.1.1) (v := ((35 : Nat) : Int)) (hS.at 58 1 35 (by decide +kernel)) rfl ?_
    refine y_get (show ash 35 = (8, 5) from rfl) (Nat.lt_of_lt_of_le (show 35 < 154 by decide) hS.1.1) (v := M 35 3) rfl rfl ?_
    refine y_stn (L1 := [(2, ((58 : Nat) : Int)), (0, v1), (0, v2), (0, (M 35 3)), (9, 0)]) (Nat.le_of_ble_eq_true rfl) rfl ?_
    refine wp_iconst ⟨by decide, by decide⟩ ?_
    refine y_st (L1 := [(2, ((58 : Nat) : Int)), (0, v1), (0, v2), (0, (M 35 3)), (0, 0)]) (Nat.le_of_ble_eq_true rfl) rfl ?_
    refine tl_X0_spanByDraws_11 (by omega) hS (fun w13 w14  m15 s16 h => ?_) FU (M 35 3) 0  M hS h
    refine y_blk (t := 89) rfl (show fnd bk_X0_spanByDraws 89 = some _ from rfl) aB_X0_spanByDraws ?_
    refine wp_aload_n (v := ((58 : Nat) : Int)) rfl (Int.natCast_nonneg _) ?_
    refine y_get (show ash 58 = (0, 4) from rfl) (Nat.lt_of_lt_of_le (show 58 < 154 by decide) hS.1.1) (v := ((45 : Nat) : Int)) (s16.at 58 2 45 (by decide +kernel)) rfl ?_
    refine wp_iload_n (v := w13) rfl ?_
    refine wp_iload_n (v := v1) rfl ?_
    obtain ⟨x17, e18, h⟩ := d_bind h
    obtain ⟨r19, s20⟩ := t_X5_layFrom (show isLand 45 by decide) s16 e18
    refine y_callVv (as := [(0, w13), (0, v1)]) (S1 := []) (Nat.le_of_ble_eq_true rfl) (by omega) r19 rfl (show ash 45 = (5, 4) from rfl) (Nat.lt_of_lt_of_le (show 45 < 154 by decide) hS.1.1) (Nat.le_of_ble_eq_true rfl) (Nat.le_of_ble_eq_true rfl) rfl ?_
    refine wp_aload_n (v := ((58 : Nat) : Int)) rfl (Int.natCast_nonneg _) ?_
    refine y_get (show ash 58 = (0, 4) from rfl) (Nat.lt_of_lt_of_le (show 58 < 154 by decide) hS.1.1) (v := ((45 : Nat) : Int)) (s20.at 58 2 45 (by decide +kernel)) rfl ?_
    refine wp_iload_n (v := v1) rfl ?_
    refine wp_iload_n (v := v2) rfl ?_
    obtain ⟨x21, e22, h⟩ := d_bind h
    refine y_callV (as := [(0, v1), (0, v2)]) (S1 := []) (Nat.le_of_ble_eq_true rfl) (by omega) (t_X5_span (show isLand 45 by decide) s20 e22) (Nat.le_of_ble_eq_true rfl) rfl (show ash 45 = (5, 4) from rfl) (Nat.lt_of_lt_of_le (show 45 < 154 by decide) hS.1.1) (Nat.le_of_ble_eq_true rfl) (Nat.le_of_ble_eq_true rfl) rfl ?_
    cases h
    exact y_ret0 (Or.inl rfl) ⟨rfl, rfl, s20⟩
  exact ⟨fun d hd => Ms.of3 (key d hd), Ms.sh (key 3 (Nat.le_refl _))⟩
theorem aB_X1_nearestFolk : ∀ pc, aB 11 pc = fnd bk_X1_nearestFolk pc := fun _ => rfl
def l_X1_nearestFolk_5 (T : Nat) (v1 : Int) (M : aM) (k : Int → Int → Option Int) : Nat → Int → Int → Option Int
| 0, _, _ => none
| n + 1, v2, v3 =>
 if (M 3 4) ≤ v3 then
 k v2 v3 else
 if 0 ≤ v3 ∧ v3 < 4 then
 (f_X5_span T 39 v1 (M 38 (v3).toNat) M).bind fun x3 =>
 if aIn (v3 + 1) then
 l_X1_nearestFolk_5 T v1 M k n (if x3 < v2 then x3 else v2) (v3 + 1) else none else none
theorem tl_X1_nearestFolk_5 {d : Nat} (hd : 1 ≤ d) {T : T3} {v1 : Int} {M : aM} {k : Int → Int → Option Int} {y : Int}  (hS : Sh T.1 M)
    (hk : ∀ (v2 v3 : Int), Sh T.1 M → k v2 v3 = some y → Wp d 11 46 [] [(2, ((48 : Nat) : Int)), (0, v1), (0, v2), (0, v3)] [] (M, T) (fun r2 σ2 => r2 = some (0, y) ∧ σ2 = (M, T))) :
    ∀ (n : Nat) (v2 v3 : Int), Sh T.1 M → l_X1_nearestFolk_5 T.1 v1 M k n v2 v3 = some y → Wp d 11 5 [] [(2, ((48 : Nat) : Int)), (0, v1), (0, v2), (0, v3)] [] (M, T) (fun r2 σ2 => r2 = some (0, y) ∧ σ2 = (M, T)) := by
  intro n
  induction n with
  | zero =>
    intro v2 v3 _ h
    exact nomatch (show (none : Option Int) = some y from h)
  | succ n ih =>
    intro v2 v3 sM h
    rw [l_X1_nearestFolk_5] at h
    refine y_blk (t := 5) rfl (show fnd bk_X1_nearestFolk 5 = some _ from rfl) aB_X1_nearestFolk ?_
    refine wp_iload_n (v := v3) rfl ?_
    refine wp_aload_n (v := ((48 : Nat) : Int)) rfl (Int.natCast_nonneg _) ?_
    refine y_get (show ash 48 = (1, 6) from rfl) (Nat.lt_of_lt_of_le (show 48 < 154 by decide) hS.1.1) (v := ((2 : Nat) : Int)) (sM.at 48 0 2 (by decide +kernel)) rfl ?_
    refine y_get (show ash 2 = (10, 19) from rfl) (Nat.lt_of_lt_of_le (show 2 < 154 by decide) hS.1.1) (v := ((3 : Nat) : Int)) (sM.at 2 3 3 (by decide +kernel)) rfl ?_
    refine wp_iconst ⟨by decide, by decide⟩ ?_
    refine y_iald (show ash 3 = (100, 8) from rfl) (Or.inl (Nat.lt_of_lt_of_le (show 3 < 154 by decide) hS.1.1)) (Nat.ne_of_lt (Nat.lt_of_lt_of_le (Nat.lt_of_lt_of_le (show 3 < 154 by decide) hS.1.1) hS.1.2)) ⟨by decide, by decide⟩ (v := M 3 4) rfl ?_
    refine wp_icmp_ge (fun c1 => ?_) (fun c1 => ?_)
    · rw [if_pos c1] at h
      exact hk v2 v3   sM h
    · rw [if_neg c1] at h
      refine wp_iload_n (v := v2) rfl ?_
      refine wp_aload_n (v := ((48 : Nat) : Int)) rfl (Int.natCast_nonneg _) ?_
      refine y_get (show ash 48 = (1, 6) from rfl) (Nat.lt_of_lt_of_le (show 48 < 154 by decide) hS.1.1) (v := ((39 : Nat) : Int)) (sM.at 48 2 39 (by decide +kernel)) rfl ?_
      refine wp_iload_n (v := v1) rfl ?_
      refine wp_aload_n (v := ((48 : Nat) : Int)) rfl (Int.natCast_nonneg _) ?_
      refine y_get (show ash 48 = (1, 6) from rfl) (Nat.lt_of_lt_of_le (show 48 < 154 by decide) hS.1.1) (v := ((35 : Nat) : Int)) (sM.at 48 1 35 (by decide +kernel)) rfl ?_
      refine y_get (show ash 35 = (8, 5) from rfl) (Nat.lt_of_lt_of_le (show 35 < 154 by decide) hS.1.1) (v := ((38 : Nat) : Int)) (sM.at 35 2 38 (by decide +kernel)) rfl ?_
      refine wp_iload_n (v := v3) rfl ?_
      obtain ⟨c2, h⟩ := d_ite h
      refine y_iald (show ash 38 = (100, 4) from rfl) (Or.inl (Nat.lt_of_lt_of_le (show 38 < 154 by decide) hS.1.1)) (Nat.ne_of_lt (Nat.lt_of_lt_of_le (Nat.lt_of_lt_of_le (show 38 < 154 by decide) hS.1.1) hS.1.2)) c2 (v := M 38 (v3).toNat) rfl ?_
      obtain ⟨x3, e4, h⟩ := d_bind h
      refine y_callV (as := [(0, v1), (0, (M 38 (v3).toNat))]) (S1 := [(0, v2)]) (Nat.le_of_ble_eq_true rfl) (by omega) (t_X5_span (show isLand 39 by decide) sM e4) (Nat.le_of_ble_eq_true rfl) rfl (show ash 39 = (5, 4) from rfl) (Nat.lt_of_lt_of_le (show 39 < 154 by decide) hS.1.1) (Nat.le_of_ble_eq_true rfl) (Nat.le_of_ble_eq_true rfl) rfl ?_
      refine wp_min ⟨by omega, Nat.le_of_ble_eq_true rfl, rfl⟩ ?_
      refine y_stn (L1 := [(2, ((48 : Nat) : Int)), (0, v1), (0, (if x3 < v2 then x3 else v2)), (0, v3)]) (Nat.le_of_ble_eq_true rfl) rfl ?_
      obtain ⟨c5, h⟩ := d_ite h
      refine y_iinc (L1 := [(2, ((48 : Nat) : Int)), (0, v1), (0, (if x3 < v2 then x3 else v2)), (0, (v3 + 1))]) rfl (Nat.le_of_ble_eq_true rfl) ⟨by decide, by decide⟩ c5 rfl ?_
      refine wp_goto ?_
      exact ih (if x3 < v2 then x3 else v2) (v3 + 1)   sM h
def f_X1_nearestFolk (T : Nat) (v1 : Int) (M : aM) : Option Int :=
 l_X1_nearestFolk_5 T v1 M (fun w6 w7 =>
 some w6) FU 1000000 0
theorem t_X1_nearestFolk {T : T3} {v1 : Int} {M : aM} {y : Int}  (hS : Sh T.1 M) (h : f_X1_nearestFolk T.1 v1 M = some y) : Mr 1 11 [(2, ((48 : Nat) : Int)), (0, v1)] M (some (0, y)) M T := by
  have key : ∀ d, 1 ≤ d → Wp d 11 0 [] [(2, ((48 : Nat) : Int)), (0, v1), (9, 0), (9, 0)] [] (M, T) (fun r2 σ2 => r2 = some (0, y) ∧ σ2 = (M, T)) := by
    intro d hd
    rw [f_X1_nearestFolk] at h
    refine y_blk (t := 0) rfl (show fnd bk_X1_nearestFolk 0 = some _ from rfl) aB_X1_nearestFolk ?_
    refine y_ldc (v := 1000000) (by decide) rfl ?_
    refine y_stn (L1 := [(2, ((48 : Nat) : Int)), (0, v1), (0, 1000000), (9, 0)]) (Nat.le_of_ble_eq_true rfl) rfl ?_
    refine wp_iconst ⟨by decide, by decide⟩ ?_
    refine y_stn (L1 := [(2, ((48 : Nat) : Int)), (0, v1), (0, 1000000), (0, 0)]) (Nat.le_of_ble_eq_true rfl) rfl ?_
    refine tl_X1_nearestFolk_5 (by omega) hS (fun w6 w7   s8 h => ?_) FU 1000000 0   hS h
    refine y_blk (t := 46) rfl (show fnd bk_X1_nearestFolk 46 = some _ from rfl) aB_X1_nearestFolk ?_
    refine wp_iload_n (v := w6) rfl ?_
    cases h
    exact y_ret0 (Or.inl rfl) ⟨rfl, rfl⟩
  exact fun d hd => Ms.of (key d hd)
theorem aB_X1_folkStep : ∀ pc, aB 10 pc = fnd bk_X1_folkStep pc := fun _ => rfl
def l_X1_folkStep_12 (T : Nat) (v1 : Int) (v2 : Int) (M : aM) (k : Int → Int → Int → Option Int) : Nat → Int → Int → Int → Option Int
| 0, _, _, _ => none
| n + 1, v3, v4, v5 =>
 if (M 3 1) ≤ v5 then
 k v3 v4 v5 else
 if 0 ≤ v1 ∧ v1 < 8 then
 (f_X11_hasBit T (M 40 (v1).toNat) v5 M).bind fun x5 =>
 if x5 = 0 then
 if aIn (v5 + 1) then
 l_X1_folkStep_12 T v1 v2 M k n v3 v4 (v5 + 1) else none else
 (f_X1_nearestFolk T v5 M).bind fun x9 =>
 if v2 = 0 then
 if x9 ≤ v4 then
 if aIn (v5 + 1) then
 l_X1_folkStep_12 T v1 v2 M k n v3 v4 (v5 + 1) else none else
 if aIn (v5 + 1) then
 l_X1_folkStep_12 T v1 v2 M k n v5 x9 (v5 + 1) else none else
 if v4 ≤ x9 then
 if aIn (v5 + 1) then
 l_X1_folkStep_12 T v1 v2 M k n v3 v4 (v5 + 1) else none else
 if aIn (v5 + 1) then
 l_X1_folkStep_12 T v1 v2 M k n v5 x9 (v5 + 1) else none else none
theorem tl_X1_folkStep_12 {d : Nat} (hd : 2 ≤ d) {T : T3} {v1 : Int} {v2 : Int} {M : aM} {k : Int → Int → Int → Option Int} {y : Int}  (hS : Sh T.1 M)
    (hk : ∀ (v3 v4 v5 : Int) (u6 : aV), Sh T.1 M → k v3 v4 v5 = some y → Wp d 10 85 [] [(2, ((48 : Nat) : Int)), (0, v1), (0, v2), (0, v3), (0, v4), (0, v5), u6] [] (M, T) (fun r2 σ2 => r2 = some (0, y) ∧ σ2 = (M, T))) :
    ∀ (n : Nat) (v3 v4 v5 : Int) (u6 : aV), Sh T.1 M → l_X1_folkStep_12 T.1 v1 v2 M k n v3 v4 v5 = some y → Wp d 10 12 [] [(2, ((48 : Nat) : Int)), (0, v1), (0, v2), (0, v3), (0, v4), (0, v5), u6] [] (M, T) (fun r2 σ2 => r2 = some (0, y) ∧ σ2 = (M, T)) := by
  intro n
  induction n with
  | zero =>
    intro v3 v4 v5 u6 _ h
    exact nomatch (show (none : Option Int) = some y from h)
  | succ n ih =>
    intro v3 v4 v5 u6 sM h
    rw [l_X1_folkStep_12] at h
    refine y_blk (t := 12) rfl (show fnd bk_X1_folkStep 12 = some _ from rfl) aB_X1_folkStep ?_
    refine wp_iload (v := v5) rfl ?_
    refine wp_aload_n (v := ((48 : Nat) : Int)) rfl (Int.natCast_nonneg _) ?_
    refine y_get (show ash 48 = (1, 6) from rfl) (Nat.lt_of_lt_of_le (show 48 < 154 by decide) hS.1.1) (v := ((2 : Nat) : Int)) (sM.at 48 0 2 (by decide +kernel)) rfl ?_
    refine y_get (show ash 2 = (10, 19) from rfl) (Nat.lt_of_lt_of_le (show 2 < 154 by decide) hS.1.1) (v := ((3 : Nat) : Int)) (sM.at 2 3 3 (by decide +kernel)) rfl ?_
    refine wp_iconst ⟨by decide, by decide⟩ ?_
    refine y_iald (show ash 3 = (100, 8) from rfl) (Or.inl (Nat.lt_of_lt_of_le (show 3 < 154 by decide) hS.1.1)) (Nat.ne_of_lt (Nat.lt_of_lt_of_le (Nat.lt_of_lt_of_le (show 3 < 154 by decide) hS.1.1) hS.1.2)) ⟨by decide, by decide⟩ (v := M 3 1) rfl ?_
    refine wp_icmp_ge (fun c3 => ?_) (fun c3 => ?_)
    · rw [if_pos c3] at h
      exact hk v3 v4 v5 u6  sM h
    · rw [if_neg c3] at h
      refine wp_aload_n (v := ((48 : Nat) : Int)) rfl (Int.natCast_nonneg _) ?_
      refine y_get (show ash 48 = (1, 6) from rfl) (Nat.lt_of_lt_of_le (show 48 < 154 by decide) hS.1.1) (v := ((39 : Nat) : Int)) (sM.at 48 2 39 (by decide +kernel)) rfl ?_
      refine y_get (show ash 39 = (5, 4) from rfl) (Nat.lt_of_lt_of_le (show 39 < 154 by decide) hS.1.1) (v := ((40 : Nat) : Int)) (sM.at 39 1 40 (by decide +kernel)) rfl ?_
      refine wp_iload_n (v := v1) rfl ?_
      obtain ⟨c4, h⟩ := d_ite h
      refine y_iald (show ash 40 = (100, 8) from rfl) (Or.inl (Nat.lt_of_lt_of_le (show 40 < 154 by decide) hS.1.1)) (Nat.ne_of_lt (Nat.lt_of_lt_of_le (Nat.lt_of_lt_of_le (show 40 < 154 by decide) hS.1.1) hS.1.2)) c4 (v := M 40 (v1).toNat) rfl ?_
      refine wp_iload (v := v5) rfl ?_
      obtain ⟨x5, e6, h⟩ := d_bind h
      refine y_callS (as := [(0, (M 40 (v1).toNat)), (0, v5)]) (S1 := []) (Nat.le_of_ble_eq_true rfl) (by omega) (t_X11_hasBit sM e6) (Nat.le_of_ble_eq_true rfl) rfl (Nat.le_of_ble_eq_true rfl) (Nat.le_of_ble_eq_true rfl) rfl ?_
      refine wp_if_eq (fun c7 => ?_) (fun c7 => ?_)
      · rw [if_pos c7] at h
        refine y_blk (t := 79) rfl (show fnd bk_X1_folkStep 79 = some _ from rfl) aB_X1_folkStep ?_
        obtain ⟨c8, h⟩ := d_ite h
        refine y_iinc (L1 := [(2, ((48 : Nat) : Int)), (0, v1), (0, v2), (0, v3), (0, v4), (0, (v5 + 1)), u6]) rfl (Nat.le_of_ble_eq_true rfl) ⟨by decide, by decide⟩ c8 rfl ?_
        refine wp_goto ?_
        exact ih v3 v4 (v5 + 1) u6  sM h
      · rw [if_neg c7] at h
        refine wp_aload_n (v := ((48 : Nat) : Int)) rfl (Int.natCast_nonneg _) ?_
        refine wp_iload (v := v5) rfl ?_
        obtain ⟨x9, e10, h⟩ := d_bind h
        refine y_callV (as := [(0, v5)]) (S1 := []) (Nat.le_of_ble_eq_true rfl) (by omega) (t_X1_nearestFolk sM e10) (Nat.le_of_ble_eq_true rfl) rfl (show ash 48 = (1, 6) from rfl) (Nat.lt_of_lt_of_le (show 48 < 154 by decide) hS.1.1) (Nat.le_of_ble_eq_true rfl) (Nat.le_of_ble_eq_true rfl) rfl ?_
        refine y_st (L1 := [(2, ((48 : Nat) : Int)), (0, v1), (0, v2), (0, v3), (0, v4), (0, v5), (0, x9)]) (Nat.le_of_ble_eq_true rfl) rfl ?_
        refine wp_iload_n (v := v2) rfl ?_
        refine wp_if_eq (fun c11 => ?_) (fun c11 => ?_)
        · rw [if_pos c11] at h
          refine y_blk (t := 65) rfl (show fnd bk_X1_folkStep 65 = some _ from rfl) aB_X1_folkStep ?_
          refine wp_iload (v := x9) rfl ?_
          refine wp_iload (v := v4) rfl ?_
          refine wp_icmp_le (fun c12 => ?_) (fun c12 => ?_)
          · rw [if_pos c12] at h
            refine y_blk (t := 79) rfl (show fnd bk_X1_folkStep 79 = some _ from rfl) aB_X1_folkStep ?_
            obtain ⟨c13, h⟩ := d_ite h
            refine y_iinc (L1 := [(2, ((48 : Nat) : Int)), (0, v1), (0, v2), (0, v3), (0, v4), (0, (v5 + 1)), (0, x9)]) rfl (Nat.le_of_ble_eq_true rfl) ⟨by decide, by decide⟩ c13 rfl ?_
            refine wp_goto ?_
            exact ih v3 v4 (v5 + 1) (0, x9)  sM h
          · rw [if_neg c12] at h
            refine y_blk (t := 72) rfl (show fnd bk_X1_folkStep 72 = some _ from rfl) aB_X1_folkStep ?_
            refine wp_iload (v := v5) rfl ?_
            refine y_stn (L1 := [(2, ((48 : Nat) : Int)), (0, v1), (0, v2), (0, v5), (0, v4), (0, v5), (0, x9)]) (Nat.le_of_ble_eq_true rfl) rfl ?_
            refine wp_iload (v := x9) rfl ?_
            refine y_st (L1 := [(2, ((48 : Nat) : Int)), (0, v1), (0, v2), (0, v5), (0, x9), (0, v5), (0, x9)]) (Nat.le_of_ble_eq_true rfl) rfl ?_
            refine y_blk (t := 79) rfl (show fnd bk_X1_folkStep 79 = some _ from rfl) aB_X1_folkStep ?_
            obtain ⟨c14, h⟩ := d_ite h
            refine y_iinc (L1 := [(2, ((48 : Nat) : Int)), (0, v1), (0, v2), (0, v5), (0, x9), (0, (v5 + 1)), (0, x9)]) rfl (Nat.le_of_ble_eq_true rfl) ⟨by decide, by decide⟩ c14 rfl ?_
            refine wp_goto ?_
            exact ih v5 x9 (v5 + 1) (0, x9)  sM h
        · rw [if_neg c11] at h
          refine wp_iload (v := x9) rfl ?_
          refine wp_iload (v := v4) rfl ?_
          refine wp_icmp_ge (fun c15 => ?_) (fun c15 => ?_)
          · rw [if_pos c15] at h
            refine y_blk (t := 79) rfl (show fnd bk_X1_folkStep 79 = some _ from rfl) aB_X1_folkStep ?_
            obtain ⟨c16, h⟩ := d_ite h
            refine y_iinc (L1 := [(2, ((48 : Nat) : Int)), (0, v1), (0, v2), (0, v3), (0, v4), (0, (v5 + 1)), (0, x9)]) rfl (Nat.le_of_ble_eq_true rfl) ⟨by decide, by decide⟩ c16 rfl ?_
            refine wp_goto ?_
            exact ih v3 v4 (v5 + 1) (0, x9)  sM h
          · rw [if_neg c15] at h
            refine wp_goto ?_
            refine y_blk (t := 72) rfl (show fnd bk_X1_folkStep 72 = some _ from rfl) aB_X1_folkStep ?_
            refine wp_iload (v := v5) rfl ?_
            refine y_stn (L1 := [(2, ((48 : Nat) : Int)), (0, v1), (0, v2), (0, v5), (0, v4), (0, v5), (0, x9)]) (Nat.le_of_ble_eq_true rfl) rfl ?_
            refine wp_iload (v := x9) rfl ?_
            refine y_st (L1 := [(2, ((48 : Nat) : Int)), (0, v1), (0, v2), (0, v5), (0, x9), (0, v5), (0, x9)]) (Nat.le_of_ble_eq_true rfl) rfl ?_
            refine y_blk (t := 79) rfl (show fnd bk_X1_folkStep 79 = some _ from rfl) aB_X1_folkStep ?_
            obtain ⟨c17, h⟩ := d_ite h
            refine y_iinc (L1 := [(2, ((48 : Nat) : Int)), (0, v1), (0, v2), (0, v5), (0, x9), (0, (v5 + 1)), (0, x9)]) rfl (Nat.le_of_ble_eq_true rfl) ⟨by decide, by decide⟩ c17 rfl ?_
            refine wp_goto ?_
            exact ih v5 x9 (v5 + 1) (0, x9)  sM h
def f_X1_folkStep (T : Nat) (v1 : Int) (v2 : Int) (M : aM) : Option Int :=
 (f_X1_nearestFolk T v1 M).bind fun x1 =>
 l_X1_folkStep_12 T v1 v2 M (fun w18 w19 w20 =>
 some w18) FU v1 x1 0
theorem t_X1_folkStep {T : T3} {v1 : Int} {v2 : Int} {M : aM} {y : Int}  (hS : Sh T.1 M) (h : f_X1_folkStep T.1 v1 v2 M = some y) : Mr 2 10 [(2, ((48 : Nat) : Int)), (0, v1), (0, v2)] M (some (0, y)) M T := by
  have key : ∀ d, 2 ≤ d → Wp d 10 0 [] [(2, ((48 : Nat) : Int)), (0, v1), (0, v2), (9, 0), (9, 0), (9, 0), (9, 0)] [] (M, T) (fun r2 σ2 => r2 = some (0, y) ∧ σ2 = (M, T)) := by
    intro d hd
    rw [f_X1_folkStep] at h
    refine y_blk (t := 0) rfl (show fnd bk_X1_folkStep 0 = some _ from rfl) aB_X1_folkStep ?_
    refine wp_iload_n (v := v1) rfl ?_
    refine y_stn (L1 := [(2, ((48 : Nat) : Int)), (0, v1), (0, v2), (0, v1), (9, 0), (9, 0), (9, 0)]) (Nat.le_of_ble_eq_true rfl) rfl ?_
    refine wp_aload_n (v := ((48 : Nat) : Int)) rfl (Int.natCast_nonneg _) ?_
    refine wp_iload_n (v := v1) rfl ?_
    obtain ⟨x1, e2, h⟩ := d_bind h
    refine y_callV (as := [(0, v1)]) (S1 := []) (Nat.le_of_ble_eq_true rfl) (by omega) (t_X1_nearestFolk hS e2) (Nat.le_of_ble_eq_true rfl) rfl (show ash 48 = (1, 6) from rfl) (Nat.lt_of_lt_of_le (show 48 < 154 by decide) hS.1.1) (Nat.le_of_ble_eq_true rfl) (Nat.le_of_ble_eq_true rfl) rfl ?_
    refine y_st (L1 := [(2, ((48 : Nat) : Int)), (0, v1), (0, v2), (0, v1), (0, x1), (9, 0), (9, 0)]) (Nat.le_of_ble_eq_true rfl) rfl ?_
    refine wp_iconst ⟨by decide, by decide⟩ ?_
    refine y_st (L1 := [(2, ((48 : Nat) : Int)), (0, v1), (0, v2), (0, v1), (0, x1), (0, 0), (9, 0)]) (Nat.le_of_ble_eq_true rfl) rfl ?_
    refine tl_X1_folkStep_12 (by omega) hS (fun w18 w19 w20 u21  s22 h => ?_) FU v1 x1 0 (9, 0)  hS h
    refine y_blk (t := 85) rfl (show fnd bk_X1_folkStep 85 = some _ from rfl) aB_X1_folkStep ?_
    refine wp_iload_n (v := w18) rfl ?_
    cases h
    exact y_ret0 (Or.inl rfl) ⟨rfl, rfl⟩
  exact fun d hd => Ms.of (key d hd)
theorem aB_X1_roverStep : ∀ pc, aB 9 pc = fnd bk_X1_roverStep pc := fun _ => rfl
def l_X1_roverStep_36 (T : Nat) (v2 : Int) (v4 : Int) (M : aM) (k : Int → Option Int) : Nat → Int → Option Int
| 0, _ => none
| n + 1, v5 =>
 if (M 3 1) ≤ v5 then
 k v5 else
 (f_X11_hasBit T v4 v5 M).bind fun x5 =>
 if x5 = 0 then
 if aIn (v5 + 1) then
 l_X1_roverStep_36 T v2 v4 M k n (v5 + 1) else none else
 some v5
theorem tl_X1_roverStep_36 {d : Nat} (hd : 1 ≤ d) {T : T3} {v2 : Int} {v4 : Int} {M : aM} {k : Int → Option Int} {y : Int}  (hS : Sh T.1 M)
    (hk : ∀ (v5 : Int) (u1 u3 : aV), Sh T.1 M → k v5 = some y → Wp d 9 69 [] [(2, ((48 : Nat) : Int)), u1, (0, v2), u3, (0, v4), (0, v5)] [] (M, T) (fun r2 σ2 => r2 = some (0, y) ∧ σ2 = (M, T))) :
    ∀ (n : Nat) (v5 : Int) (u1 u3 : aV), Sh T.1 M → l_X1_roverStep_36 T.1 v2 v4 M k n v5 = some y → Wp d 9 36 [] [(2, ((48 : Nat) : Int)), u1, (0, v2), u3, (0, v4), (0, v5)] [] (M, T) (fun r2 σ2 => r2 = some (0, y) ∧ σ2 = (M, T)) := by
  intro n
  induction n with
  | zero =>
    intro v5 u1 u3 _ h
    exact nomatch (show (none : Option Int) = some y from h)
  | succ n ih =>
    intro v5 u1 u3 sM h
    rw [l_X1_roverStep_36] at h
    refine y_blk (t := 36) rfl (show fnd bk_X1_roverStep 36 = some _ from rfl) aB_X1_roverStep ?_
    refine wp_iload (v := v5) rfl ?_
    refine wp_aload_n (v := ((48 : Nat) : Int)) rfl (Int.natCast_nonneg _) ?_
    refine y_get (show ash 48 = (1, 6) from rfl) (Nat.lt_of_lt_of_le (show 48 < 154 by decide) hS.1.1) (v := ((2 : Nat) : Int)) (sM.at 48 0 2 (by decide +kernel)) rfl ?_
    refine y_get (show ash 2 = (10, 19) from rfl) (Nat.lt_of_lt_of_le (show 2 < 154 by decide) hS.1.1) (v := ((3 : Nat) : Int)) (sM.at 2 3 3 (by decide +kernel)) rfl ?_
    refine wp_iconst ⟨by decide, by decide⟩ ?_
    refine y_iald (show ash 3 = (100, 8) from rfl) (Or.inl (Nat.lt_of_lt_of_le (show 3 < 154 by decide) hS.1.1)) (Nat.ne_of_lt (Nat.lt_of_lt_of_le (Nat.lt_of_lt_of_le (show 3 < 154 by decide) hS.1.1) hS.1.2)) ⟨by decide, by decide⟩ (v := M 3 1) rfl ?_
    refine wp_icmp_ge (fun c4 => ?_) (fun c4 => ?_)
    · rw [if_pos c4] at h
      exact hk v5 u1 u3  sM h
    · rw [if_neg c4] at h
      refine wp_iload (v := v4) rfl ?_
      refine wp_iload (v := v5) rfl ?_
      obtain ⟨x5, e6, h⟩ := d_bind h
      refine y_callS (as := [(0, v4), (0, v5)]) (S1 := []) (Nat.le_of_ble_eq_true rfl) (by omega) (t_X11_hasBit sM e6) (Nat.le_of_ble_eq_true rfl) rfl (Nat.le_of_ble_eq_true rfl) (Nat.le_of_ble_eq_true rfl) rfl ?_
      refine wp_if_eq (fun c7 => ?_) (fun c7 => ?_)
      · rw [if_pos c7] at h
        refine y_blk (t := 63) rfl (show fnd bk_X1_roverStep 63 = some _ from rfl) aB_X1_roverStep ?_
        obtain ⟨c8, h⟩ := d_ite h
        refine y_iinc (L1 := [(2, ((48 : Nat) : Int)), u1, (0, v2), u3, (0, v4), (0, (v5 + 1))]) rfl (Nat.le_of_ble_eq_true rfl) ⟨by decide, by decide⟩ c8 rfl ?_
        refine wp_goto ?_
        exact ih (v5 + 1) u1 u3  sM h
      · rw [if_neg c7] at h
        refine wp_iload (v := v5) rfl ?_
        cases h
        exact y_ret0 (Or.inl rfl) ⟨rfl, rfl⟩
def f_X1_roverStep (T : Nat) (v1 : Int) (v2 : Int) (M : aM) : Option Int :=
 if 0 ≤ v1 ∧ v1 < 8 then
 if (M 40 (v1).toNat) = 0 then
 some v1 else
 if 0 ≤ v2 then
 l_X1_roverStep_36 T v2 (aand (M 40 (v1).toNat) (axor (ashl 1 v2) (-1))) M (fun w9 =>
 some v2) FU 0 else
 l_X1_roverStep_36 T v2 (M 40 (v1).toNat) M (fun w13 =>
 some v2) FU 0 else none
theorem t_X1_roverStep {T : T3} {v1 : Int} {v2 : Int} {M : aM} {y : Int}  (hS : Sh T.1 M) (h : f_X1_roverStep T.1 v1 v2 M = some y) : Mr 1 9 [(2, ((48 : Nat) : Int)), (0, v1), (0, v2)] M (some (0, y)) M T := by
  have key : ∀ d, 1 ≤ d → Wp d 9 0 [] [(2, ((48 : Nat) : Int)), (0, v1), (0, v2), (9, 0), (9, 0), (9, 0)] [] (M, T) (fun r2 σ2 => r2 = some (0, y) ∧ σ2 = (M, T)) := by
    intro d hd
    rw [f_X1_roverStep] at h
    refine y_blk (t := 0) rfl (show fnd bk_X1_roverStep 0 = some _ from rfl) aB_X1_roverStep ?_
    refine wp_aload_n (v := ((48 : Nat) : Int)) rfl (Int.natCast_nonneg _) ?_
    refine y_get (show ash 48 = (1, 6) from rfl) (Nat.lt_of_lt_of_le (show 48 < 154 by decide) hS.1.1) (v := ((39 : Nat) : Int)) (hS.at 48 2 39 (by decide +kernel)) rfl ?_
    refine y_get (show ash 39 = (5, 4) from rfl) (Nat.lt_of_lt_of_le (show 39 < 154 by decide) hS.1.1) (v := ((40 : Nat) : Int)) (hS.at 39 1 40 (by decide +kernel)) rfl ?_
    refine wp_iload_n (v := v1) rfl ?_
    obtain ⟨c1, h⟩ := d_ite h
    refine y_iald (show ash 40 = (100, 8) from rfl) (Or.inl (Nat.lt_of_lt_of_le (show 40 < 154 by decide) hS.1.1)) (Nat.ne_of_lt (Nat.lt_of_lt_of_le (Nat.lt_of_lt_of_le (show 40 < 154 by decide) hS.1.1) hS.1.2)) c1 (v := M 40 (v1).toNat) rfl ?_
    refine y_stn (L1 := [(2, ((48 : Nat) : Int)), (0, v1), (0, v2), (0, (M 40 (v1).toNat)), (9, 0), (9, 0)]) (Nat.le_of_ble_eq_true rfl) rfl ?_
    refine wp_iload_n (v := (M 40 (v1).toNat)) rfl ?_
    refine y_nez (fun c2 => ?_) (fun c2 => ?_)
    · rw [if_neg c2] at h
      refine y_blk (t := 16) rfl (show fnd bk_X1_roverStep 16 = some _ from rfl) aB_X1_roverStep ?_
      refine wp_iload_n (v := v2) rfl ?_
      refine wp_if_ge (fun c3 => ?_) (fun c3 => ?_)
      · rw [if_pos c3] at h
        refine y_blk (t := 24) rfl (show fnd bk_X1_roverStep 24 = some _ from rfl) aB_X1_roverStep ?_
        refine wp_iload_n (v := (M 40 (v1).toNat)) rfl ?_
        refine wp_iconst ⟨by decide, by decide⟩ ?_
        refine wp_iload_n (v := v2) rfl ?_
        refine wp_ishl ?_
        refine wp_iconst ⟨by decide, by decide⟩ ?_
        refine wp_ixor ?_
        refine wp_iand ?_
        refine y_blk (t := 31) rfl (show fnd bk_X1_roverStep 31 = some _ from rfl) aB_X1_roverStep ?_
        refine y_st (L1 := [(2, ((48 : Nat) : Int)), (0, v1), (0, v2), (0, (M 40 (v1).toNat)), (0, (aand (M 40 (v1).toNat) (axor (ashl 1 v2) (-1)))), (9, 0)]) (Nat.le_of_ble_eq_true rfl) rfl ?_
        refine wp_iconst ⟨by decide, by decide⟩ ?_
        refine y_st (L1 := [(2, ((48 : Nat) : Int)), (0, v1), (0, v2), (0, (M 40 (v1).toNat)), (0, (aand (M 40 (v1).toNat) (axor (ashl 1 v2) (-1)))), (0, 0)]) (Nat.le_of_ble_eq_true rfl) rfl ?_
        refine tl_X1_roverStep_36 (by omega) hS (fun w9 u10 u11  s12 h => ?_) FU 0 (0, v1) (0, (M 40 (v1).toNat))  hS h
        refine y_blk (t := 69) rfl (show fnd bk_X1_roverStep 69 = some _ from rfl) aB_X1_roverStep ?_
        refine wp_iload_n (v := v2) rfl ?_
        cases h
        exact y_ret0 (Or.inl rfl) ⟨rfl, rfl⟩
      · rw [if_neg c3] at h
        refine wp_iload_n (v := (M 40 (v1).toNat)) rfl ?_
        refine wp_goto ?_
        refine y_blk (t := 31) rfl (show fnd bk_X1_roverStep 31 = some _ from rfl) aB_X1_roverStep ?_
        refine y_st (L1 := [(2, ((48 : Nat) : Int)), (0, v1), (0, v2), (0, (M 40 (v1).toNat)), (0, (M 40 (v1).toNat)), (9, 0)]) (Nat.le_of_ble_eq_true rfl) rfl ?_
        refine wp_iconst ⟨by decide, by decide⟩ ?_
        refine y_st (L1 := [(2, ((48 : Nat) : Int)), (0, v1), (0, v2), (0, (M 40 (v1).toNat)), (0, (M 40 (v1).toNat)), (0, 0)]) (Nat.le_of_ble_eq_true rfl) rfl ?_
        refine tl_X1_roverStep_36 (by omega) hS (fun w13 u14 u15  s16 h => ?_) FU 0 (0, v1) (0, (M 40 (v1).toNat))  hS h
        refine y_blk (t := 69) rfl (show fnd bk_X1_roverStep 69 = some _ from rfl) aB_X1_roverStep ?_
        refine wp_iload_n (v := v2) rfl ?_
        cases h
        exact y_ret0 (Or.inl rfl) ⟨rfl, rfl⟩
    · rw [if_pos c2] at h
      refine wp_iload_n (v := v1) rfl ?_
      cases h
      exact y_ret0 (Or.inl rfl) ⟨rfl, rfl⟩
  exact fun d hd => Ms.of (key d hd)
theorem aB_X1_yearStep : ∀ pc, aB 8 pc = fnd bk_X1_yearStep pc := fun _ => rfl
def f_X1_yearStep (T : Nat) (v1 : Int) (v2 : Int) (v3 : Int) (M : aM) : Option Int :=
 if v1 = 1 then
 (f_X1_folkStep T v2 0 M).bind fun x8 =>
 some x8 else
 if v1 = 2 then
 (f_X1_folkStep T v2 1 M).bind fun x6 =>
 some x6 else
 if v1 = 3 then
 (f_X1_roverStep T v2 v3 M).bind fun x4 =>
 some x4 else
 some v2
theorem t_X1_yearStep {T : T3} {v1 : Int} {v2 : Int} {v3 : Int} {M : aM} {y : Int}  (hS : Sh T.1 M) (h : f_X1_yearStep T.1 v1 v2 v3 M = some y) : Mr 3 8 [(2, ((48 : Nat) : Int)), (0, v1), (0, v2), (0, v3)] M (some (0, y)) M T := by
  have key : ∀ d, 3 ≤ d → Wp d 8 0 [] [(2, ((48 : Nat) : Int)), (0, v1), (0, v2), (0, v3)] [] (M, T) (fun r2 σ2 => r2 = some (0, y) ∧ σ2 = (M, T)) := by
    intro d hd
    rw [f_X1_yearStep] at h
    refine y_blk (t := 0) rfl (show fnd bk_X1_yearStep 0 = some _ from rfl) aB_X1_yearStep ?_
    refine wp_iload_n (v := v1) rfl ?_
    by_cases c1 : v1 = 1
    · rw [if_pos c1] at h
      refine y_ts (off := 27) (t := 28) (by omega) (by rw [c1]; rfl) rfl ?_
      refine y_blk (t := 28) rfl (show fnd bk_X1_yearStep 28 = some _ from rfl) aB_X1_yearStep ?_
      refine wp_aload_n (v := ((48 : Nat) : Int)) rfl (Int.natCast_nonneg _) ?_
      refine wp_iload_n (v := v2) rfl ?_
      refine wp_iconst ⟨by decide, by decide⟩ ?_
      obtain ⟨x8, e9, h⟩ := d_bind h
      refine y_callV (as := [(0, v2), (0, 0)]) (S1 := []) (Nat.le_of_ble_eq_true rfl) (by omega) (t_X1_folkStep hS e9) (Nat.le_of_ble_eq_true rfl) rfl (show ash 48 = (1, 6) from rfl) (Nat.lt_of_lt_of_le (show 48 < 154 by decide) hS.1.1) (Nat.le_of_ble_eq_true rfl) (Nat.le_of_ble_eq_true rfl) rfl ?_
      cases h
      exact y_ret0 (Or.inl rfl) ⟨rfl, rfl⟩
    · rw [if_neg c1] at h
      by_cases c2 : v1 = 2
      · rw [if_pos c2] at h
        refine y_ts (off := 34) (t := 35) (by omega) (by rw [c2]; rfl) rfl ?_
        refine y_blk (t := 35) rfl (show fnd bk_X1_yearStep 35 = some _ from rfl) aB_X1_yearStep ?_
        refine wp_aload_n (v := ((48 : Nat) : Int)) rfl (Int.natCast_nonneg _) ?_
        refine wp_iload_n (v := v2) rfl ?_
        refine wp_iconst ⟨by decide, by decide⟩ ?_
        obtain ⟨x6, e7, h⟩ := d_bind h
        refine y_callV (as := [(0, v2), (0, 1)]) (S1 := []) (Nat.le_of_ble_eq_true rfl) (by omega) (t_X1_folkStep hS e7) (Nat.le_of_ble_eq_true rfl) rfl (show ash 48 = (1, 6) from rfl) (Nat.lt_of_lt_of_le (show 48 < 154 by decide) hS.1.1) (Nat.le_of_ble_eq_true rfl) (Nat.le_of_ble_eq_true rfl) rfl ?_
        cases h
        exact y_ret0 (Or.inl rfl) ⟨rfl, rfl⟩
      · rw [if_neg c2] at h
        by_cases c3 : v1 = 3
        · rw [if_pos c3] at h
          refine y_ts (off := 41) (t := 42) (by omega) (by rw [c3]; rfl) rfl ?_
          refine y_blk (t := 42) rfl (show fnd bk_X1_yearStep 42 = some _ from rfl) aB_X1_yearStep ?_
          refine wp_aload_n (v := ((48 : Nat) : Int)) rfl (Int.natCast_nonneg _) ?_
          refine wp_iload_n (v := v2) rfl ?_
          refine wp_iload_n (v := v3) rfl ?_
          obtain ⟨x4, e5, h⟩ := d_bind h
          refine y_callV (as := [(0, v2), (0, v3)]) (S1 := []) (Nat.le_of_ble_eq_true rfl) (by omega) (t_X1_roverStep hS e5) (Nat.le_of_ble_eq_true rfl) rfl (show ash 48 = (1, 6) from rfl) (Nat.lt_of_lt_of_le (show 48 < 154 by decide) hS.1.1) (Nat.le_of_ble_eq_true rfl) (Nat.le_of_ble_eq_true rfl) rfl ?_
          cases h
          exact y_ret0 (Or.inl rfl) ⟨rfl, rfl⟩
        · rw [if_neg c3] at h
          refine y_td (t := 49) (by omega) rfl ?_
          refine y_blk (t := 49) rfl (show fnd bk_X1_yearStep 49 = some _ from rfl) aB_X1_yearStep ?_
          refine wp_iload_n (v := v2) rfl ?_
          cases h
          exact y_ret0 (Or.inl rfl) ⟨rfl, rfl⟩
  exact fun d hd => Ms.of (key d hd)

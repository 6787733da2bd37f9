/-! ===== methods as functions ===== -/
theorem aB_X13_neck : ∀ pc, aB 268 pc = fnd bk_X13_neck pc := fun _ => rfl
def l_X13_neck_25 (T : Nat)  (k : Int → Int → Int → aM → Option (Int × aM)) : Nat → Int → Int → Int → aM → Option (Int × aM)
| 0, _, _, _, _ => none
| n + 1, v1, v2, v3, M =>
 if okW T (M 138 3) then
 if (M (M 138 3).toNat 3) ≤ v3 then
 k v1 v2 v3 M else
 (f_X13_lays T (M 140 10) (-1) M).bind fun x6 =>
 (f_X13_pairsWithout T v3 x6.2).bind fun x10 =>
 (f_X13_lays T (x6.2 140 10) v3 x6.2).bind fun x12 =>
 (f_X13_pairsWithout T v3 x12.2).bind fun x16 =>
 if aIn (x10 - x16) then
 if v2 < (x10 - x16) then
 if aIn (v3 + 1) then
 l_X13_neck_25 T k n v3 (x10 - x16) (v3 + 1) x12.2 else none else
 if aIn (v3 + 1) then
 l_X13_neck_25 T k n v1 v2 (v3 + 1) x12.2 else none else none else none
theorem tl_X13_neck_25 {d : Nat} (hd : 2 ≤ d) {T : T3}  {k : Int → Int → Int → aM → Option (Int × aM)} {y : (Int × aM)}  {M0 : aM} (hS : Sh T.1 M0)
    (hk : ∀ (v1 v2 v3 : Int) (u4 u5 : aV) (M : aM), Sh T.1 M → k v1 v2 v3 M = some y → Wp d 268 97 [] [(2, ((138 : Nat) : Int)), (0, v1), (0, v2), (0, v3), u4, u5] [] (M, T) (fun r2 σ2 => r2 = some (0, y.1) ∧ σ2 = (y.2, T) ∧ Sh T.1 y.2)) :
    ∀ (n : Nat) (v1 v2 v3 : Int) (u4 u5 : aV) (M : aM), Sh T.1 M → l_X13_neck_25 T.1 k n v1 v2 v3 M = some y → Wp d 268 25 [] [(2, ((138 : Nat) : Int)), (0, v1), (0, v2), (0, v3), u4, u5] [] (M, T) (fun r2 σ2 => r2 = some (0, y.1) ∧ σ2 = (y.2, T) ∧ Sh T.1 y.2) := by
  intro n
  induction n with
  | zero =>
    intro v1 v2 v3 u4 u5 M _ h
    exact nomatch (show (none : Option (Int × aM)) = some y from h)
  | succ n ih =>
    intro v1 v2 v3 u4 u5 M sM h
    rw [l_X13_neck_25] at h
    refine y_blk (t := 25) rfl (show fnd bk_X13_neck 25 = some _ from rfl) aB_X13_neck ?_
    refine wp_iload_n (v := v3) rfl ?_
    refine wp_aload_n (v := ((138 : Nat) : Int)) rfl (Int.natCast_nonneg _) ?_
    obtain ⟨c4, h⟩ := d_ite h
    refine y_get (show ash 138 = (13, 38) from rfl) (Nat.lt_of_lt_of_le (show 138 < 154 by decide) hS.1.1) (v := (((M 138 3).toNat : Nat) : Int)) c4.eq rfl ?_
    refine y_get (aW0 hS.1.2 c4.is) (ltW c4.is 0 (by decide)) (v := M (M 138 3).toNat 3) rfl rfl ?_
    refine wp_icmp_ge (fun c5 => ?_) (fun c5 => ?_)
    · rw [if_pos c5] at h
      exact hk v1 v2 v3 u4 u5 M sM h
    · rw [if_neg c5] at h
      refine wp_aload_n (v := ((138 : Nat) : Int)) rfl (Int.natCast_nonneg _) ?_
      refine wp_aload_n (v := ((138 : Nat) : Int)) rfl (Int.natCast_nonneg _) ?_
      refine y_get (show ash 138 = (13, 38) from rfl) (Nat.lt_of_lt_of_le (show 138 < 154 by decide) hS.1.1) (v := ((140 : Nat) : Int)) (sM.at 138 16 140 (by decide +kernel)) rfl ?_
      refine wp_bipush (by decide) ?_
      refine y_iald (show ash 140 = (100, 12) from rfl) (Or.inl (Nat.lt_of_lt_of_le (show 140 < 154 by decide) hS.1.1)) (Nat.ne_of_lt (Nat.lt_of_lt_of_le (Nat.lt_of_lt_of_le (show 140 < 154 by decide) hS.1.1) hS.1.2)) ⟨by decide, by decide⟩ (v := M 140 10) rfl ?_
      refine wp_iconst ⟨by decide, by decide⟩ ?_
      obtain ⟨x6, e7, h⟩ := d_bind h
      obtain ⟨r8, s9⟩ := t_X13_lays sM e7
      refine y_callVv (as := [(0, (M 140 10)), (0, (-1))]) (S1 := []) (Nat.le_of_ble_eq_true rfl) (by omega) r8 rfl (show ash 138 = (13, 38) from rfl) (Nat.lt_of_lt_of_le (show 138 < 154 by decide) hS.1.1) (Nat.le_of_ble_eq_true rfl) (Nat.le_of_ble_eq_true rfl) rfl ?_
      refine wp_aload_n (v := ((138 : Nat) : Int)) rfl (Int.natCast_nonneg _) ?_
      refine wp_iload_n (v := v3) rfl ?_
      obtain ⟨x10, e11, h⟩ := d_bind h
      refine y_callV (as := [(0, v3)]) (S1 := []) (Nat.le_of_ble_eq_true rfl) (by omega) (t_X13_pairsWithout s9 e11) (Nat.le_of_ble_eq_true rfl) rfl (show ash 138 = (13, 38) from rfl) (Nat.lt_of_lt_of_le (show 138 < 154 by decide) hS.1.1) (Nat.le_of_ble_eq_true rfl) (Nat.le_of_ble_eq_true rfl) rfl ?_
      refine y_st (L1 := [(2, ((138 : Nat) : Int)), (0, v1), (0, v2), (0, v3), (0, x10), u5]) (Nat.le_of_ble_eq_true rfl) rfl ?_
      refine wp_aload_n (v := ((138 : Nat) : Int)) rfl (Int.natCast_nonneg _) ?_
      refine wp_aload_n (v := ((138 : Nat) : Int)) rfl (Int.natCast_nonneg _) ?_
      refine y_get (show ash 138 = (13, 38) from rfl) (Nat.lt_of_lt_of_le (show 138 < 154 by decide) hS.1.1) (v := ((140 : Nat) : Int)) (s9.at 138 16 140 (by decide +kernel)) rfl ?_
      refine wp_bipush (by decide) ?_
      refine y_iald (show ash 140 = (100, 12) from rfl) (Or.inl (Nat.lt_of_lt_of_le (show 140 < 154 by decide) hS.1.1)) (Nat.ne_of_lt (Nat.lt_of_lt_of_le (Nat.lt_of_lt_of_le (show 140 < 154 by decide) hS.1.1) hS.1.2)) ⟨by decide, by decide⟩ (v := x6.2 140 10) rfl ?_
      refine wp_iload_n (v := v3) rfl ?_
      obtain ⟨x12, e13, h⟩ := d_bind h
      obtain ⟨r14, s15⟩ := t_X13_lays s9 e13
      refine y_callVv (as := [(0, (x6.2 140 10)), (0, v3)]) (S1 := []) (Nat.le_of_ble_eq_true rfl) (by omega) r14 rfl (show ash 138 = (13, 38) from rfl) (Nat.lt_of_lt_of_le (show 138 < 154 by decide) hS.1.1) (Nat.le_of_ble_eq_true rfl) (Nat.le_of_ble_eq_true rfl) rfl ?_
      refine wp_iload (v := x10) rfl ?_
      refine wp_aload_n (v := ((138 : Nat) : Int)) rfl (Int.natCast_nonneg _) ?_
      refine wp_iload_n (v := v3) rfl ?_
      obtain ⟨x16, e17, h⟩ := d_bind h
      refine y_callV (as := [(0, v3)]) (S1 := [(0, x10)]) (Nat.le_of_ble_eq_true rfl) (by omega) (t_X13_pairsWithout s15 e17) (Nat.le_of_ble_eq_true rfl) rfl (show ash 138 = (13, 38) from rfl) (Nat.lt_of_lt_of_le (show 138 < 154 by decide) hS.1.1) (Nat.le_of_ble_eq_true rfl) (Nat.le_of_ble_eq_true rfl) rfl ?_
      obtain ⟨c18, h⟩ := d_ite h
      refine wp_isub c18 ?_
      refine y_st (L1 := [(2, ((138 : Nat) : Int)), (0, v1), (0, v2), (0, v3), (0, x10), (0, (x10 - x16))]) (Nat.le_of_ble_eq_true rfl) rfl ?_
      refine wp_iload (v := (x10 - x16)) rfl ?_
      refine wp_iload_n (v := v2) rfl ?_
      refine wp_icmp_gt (fun c19 => ?_) (fun c19 => ?_)
      · rw [if_pos c19] at h
        refine y_blk (t := 86) rfl (show fnd bk_X13_neck 86 = some _ from rfl) aB_X13_neck ?_
        refine wp_iload (v := (x10 - x16)) rfl ?_
        refine y_stn (L1 := [(2, ((138 : Nat) : Int)), (0, v1), (0, (x10 - x16)), (0, v3), (0, x10), (0, (x10 - x16))]) (Nat.le_of_ble_eq_true rfl) rfl ?_
        refine wp_iload_n (v := v3) rfl ?_
        refine y_stn (L1 := [(2, ((138 : Nat) : Int)), (0, v3), (0, (x10 - x16)), (0, v3), (0, x10), (0, (x10 - x16))]) (Nat.le_of_ble_eq_true rfl) rfl ?_
        refine y_blk (t := 91) rfl (show fnd bk_X13_neck 91 = some _ from rfl) aB_X13_neck ?_
        obtain ⟨c20, h⟩ := d_ite h
        refine y_iinc (L1 := [(2, ((138 : Nat) : Int)), (0, v3), (0, (x10 - x16)), (0, (v3 + 1)), (0, x10), (0, (x10 - x16))]) rfl (Nat.le_of_ble_eq_true rfl) ⟨by decide, by decide⟩ c20 rfl ?_
        refine wp_goto ?_
        exact ih v3 (x10 - x16) (v3 + 1) (0, x10) (0, (x10 - x16)) x12.2 s15 h
      · rw [if_neg c19] at h
        refine wp_goto ?_
        refine y_blk (t := 91) rfl (show fnd bk_X13_neck 91 = some _ from rfl) aB_X13_neck ?_
        obtain ⟨c21, h⟩ := d_ite h
        refine y_iinc (L1 := [(2, ((138 : Nat) : Int)), (0, v1), (0, v2), (0, (v3 + 1)), (0, x10), (0, (x10 - x16))]) rfl (Nat.le_of_ble_eq_true rfl) ⟨by decide, by decide⟩ c21 rfl ?_
        refine wp_goto ?_
        exact ih v1 v2 (v3 + 1) (0, x10) (0, (x10 - x16)) x12.2 s15 h
def f_X13_neck (T : Nat)  (M : aM) : Option (Int × aM) :=
 (some (aup M 138 0 0)).bind fun m1 =>
 if m1 138 3 < 0 then
 (f_X13_refused T 1 m1).bind fun x33 =>
 some (x33.1, x33.2) else
 l_X13_neck_25 T (fun w22 w23 w24 m27 =>
 (f_X13_good T w22 m27).bind fun x29 =>
 some (x29.1, x29.2)) FU (-2) 0 0 m1
theorem t_X13_neck {T : T3}  {M : aM} {y : (Int × aM)}  (hS : Sh T.1 M) (h : f_X13_neck T.1  M = some y) : Mr 2 268 [(2, ((138 : Nat) : Int))] M (some (0, y.1)) y.2 T ∧ Sh T.1 y.2 := by
  have key : ∀ d, 2 ≤ d → Wp d 268 0 [] [(2, ((138 : Nat) : Int)), (9, 0), (9, 0), (9, 0), (9, 0), (9, 0)] [] (M, T) (fun r2 σ2 => r2 = some (0, y.1) ∧ σ2 = (y.2, T) ∧ Sh T.1 y.2) := by
    intro d hd
    rw [f_X13_neck] at h
    refine y_blk (t := 0) rfl (show fnd bk_X13_neck 0 = some _ from rfl) aB_X13_neck ?_
    refine wp_aload_n (v := ((138 : Nat) : Int)) rfl (Int.natCast_nonneg _) ?_
    refine wp_iconst ⟨by decide, by decide⟩ ?_
    refine y_put (show ash 138 = (13, 38) from rfl) (Nat.lt_of_lt_of_le (show 138 < 154 by decide) hS.1.1) rfl ?_
    obtain ⟨m1, em1, h⟩ := d_bind h
    have em1 := Option.some.inj em1
    have s2 : Sh T.1 m1 := em1 ▸ hS.up (Or.inr ⟨by rw [(show ash 138 = (13, 38) from rfl)]; decide, by rw [(show ash 138 = (13, 38) from rfl)]; decide⟩) (by have := (Nat.lt_of_lt_of_le (show 138 < 154 by decide) hS.1.1); have := hS.1.2; omega)
    rw [em1]
    refine wp_aload_n (v := ((138 : Nat) : Int)) rfl (Int.natCast_nonneg _) ?_
    refine y_get (show ash 138 = (13, 38) from rfl) (Nat.lt_of_lt_of_le (show 138 < 154 by decide) hS.1.1) (v := m1 138 3) rfl rfl ?_
    refine wp_ifnonnull (fun c3 => ?_) (fun c3 => ?_)
    · rw [if_neg c3] at h
      refine y_blk (t := 18) rfl (show fnd bk_X13_neck 18 = some _ from rfl) aB_X13_neck ?_
      refine wp_bipush (by decide) ?_
      refine y_stn (L1 := [(2, ((138 : Nat) : Int)), (0, (-2)), (9, 0), (9, 0), (9, 0), (9, 0)]) (Nat.le_of_ble_eq_true rfl) rfl ?_
      refine wp_iconst ⟨by decide, by decide⟩ ?_
      refine y_stn (L1 := [(2, ((138 : Nat) : Int)), (0, (-2)), (0, 0), (9, 0), (9, 0), (9, 0)]) (Nat.le_of_ble_eq_true rfl) rfl ?_
      refine wp_iconst ⟨by decide, by decide⟩ ?_
      refine y_stn (L1 := [(2, ((138 : Nat) : Int)), (0, (-2)), (0, 0), (0, 0), (9, 0), (9, 0)]) (Nat.le_of_ble_eq_true rfl) rfl ?_
      refine tl_X13_neck_25 (by omega) hS (fun w22 w23 w24 u25 u26 m27 s28 h => ?_) FU (-2) 0 0 (9, 0) (9, 0) m1 s2 h
      refine y_blk (t := 97) rfl (show fnd bk_X13_neck 97 = some _ from rfl) aB_X13_neck ?_
      refine wp_aload_n (v := ((138 : Nat) : Int)) rfl (Int.natCast_nonneg _) ?_
      refine wp_iload_n (v := w22) rfl ?_
      obtain ⟨x29, e30, h⟩ := d_bind h
      obtain ⟨r31, s32⟩ := t_X13_good s28 e30
      refine y_callV (as := [(0, w22)]) (S1 := []) (Nat.le_of_ble_eq_true rfl) (by omega) r31 (Nat.le_of_ble_eq_true rfl) rfl (show ash 138 = (13, 38) from rfl) (Nat.lt_of_lt_of_le (show 138 < 154 by decide) hS.1.1) (Nat.le_of_ble_eq_true rfl) (Nat.le_of_ble_eq_true rfl) rfl ?_
      cases h
      exact y_ret0 (Or.inl rfl) ⟨rfl, rfl, s32⟩
    · rw [if_pos c3] at h
      refine wp_aload_n (v := ((138 : Nat) : Int)) rfl (Int.natCast_nonneg _) ?_
      refine wp_iconst ⟨by decide, by decide⟩ ?_
      obtain ⟨x33, e34, h⟩ := d_bind h
      obtain ⟨r35, s36⟩ := t_X13_refused s2 e34
      refine y_callV (as := [(0, 1)]) (S1 := []) (Nat.le_of_ble_eq_true rfl) (by omega) r35 (Nat.le_of_ble_eq_true rfl) rfl (show ash 138 = (13, 38) from rfl) (Nat.lt_of_lt_of_le (show 138 < 154 by decide) hS.1.1) (Nat.le_of_ble_eq_true rfl) (Nat.le_of_ble_eq_true rfl) rfl ?_
      cases h
      exact y_ret0 (Or.inl rfl) ⟨rfl, rfl, s36⟩
  exact ⟨fun d hd => Ms.of3 (key d hd), Ms.sh (key 2 (Nat.le_refl _))⟩
theorem aB_X13_refusesYears : ∀ pc, aB 269 pc = fnd bk_X13_refusesYears pc := fun _ => rfl
def f_X13_refusesYears (T : Nat) (v1 : Int) (v2 : Int) (M : aM) : Option Int :=
 if v1 = 0 then
 some 1 else
 (f_X13_in T v2 0 60 M).bind fun x2 =>
 if x2 = 0 then
 some 2 else
 some 0
theorem t_X13_refusesYears {T : T3} {v1 : Int} {v2 : Int} {M : aM} {y : Int}  (hS : Sh T.1 M) (h : f_X13_refusesYears T.1 v1 v2 M = some y) : Mr 1 269 [(2, ((138 : Nat) : Int)), (0, v1), (0, v2)] M (some (0, y)) M T := by
  have key : ∀ d, 1 ≤ d → Wp d 269 0 [] [(2, ((138 : Nat) : Int)), (0, v1), (0, v2)] [] (M, T) (fun r2 σ2 => r2 = some (0, y) ∧ σ2 = (M, T)) := by
    intro d hd
    rw [f_X13_refusesYears] at h
    refine y_blk (t := 0) rfl (show fnd bk_X13_refusesYears 0 = some _ from rfl) aB_X13_refusesYears ?_
    refine wp_iload_n (v := v1) rfl ?_
    refine y_nez (fun c1 => ?_) (fun c1 => ?_)
    · rw [if_neg c1] at h
      refine y_blk (t := 8) rfl (show fnd bk_X13_refusesYears 8 = some _ from rfl) aB_X13_refusesYears ?_
      refine wp_iload_n (v := v2) rfl ?_
      refine wp_iconst ⟨by decide, by decide⟩ ?_
      refine wp_bipush (by decide) ?_
      obtain ⟨x2, e3, h⟩ := d_bind h
      refine y_callS (as := [(0, v2), (0, 0), (0, 60)]) (S1 := []) (Nat.le_of_ble_eq_true rfl) (by omega) (t_X13_in hS e3) (Nat.le_of_ble_eq_true rfl) rfl (Nat.le_of_ble_eq_true rfl) (Nat.le_of_ble_eq_true rfl) rfl ?_
      refine wp_if_eq (fun c4 => ?_) (fun c4 => ?_)
      · rw [if_pos c4] at h
        refine y_blk (t := 22) rfl (show fnd bk_X13_refusesYears 22 = some _ from rfl) aB_X13_refusesYears ?_
        refine wp_iconst ⟨by decide, by decide⟩ ?_
        refine y_blk (t := 23) rfl (show fnd bk_X13_refusesYears 23 = some _ from rfl) aB_X13_refusesYears ?_
        cases h
        exact y_ret0 (Or.inl rfl) ⟨rfl, rfl⟩
      · rw [if_neg c4] at h
        refine wp_iconst ⟨by decide, by decide⟩ ?_
        refine wp_goto ?_
        refine y_blk (t := 23) rfl (show fnd bk_X13_refusesYears 23 = some _ from rfl) aB_X13_refusesYears ?_
        cases h
        exact y_ret0 (Or.inl rfl) ⟨rfl, rfl⟩
    · rw [if_pos c1] at h
      refine wp_iconst ⟨by decide, by decide⟩ ?_
      refine wp_goto ?_
      refine y_blk (t := 23) rfl (show fnd bk_X13_refusesYears 23 = some _ from rfl) aB_X13_refusesYears ?_
      cases h
      exact y_ret0 (Or.inl rfl) ⟨rfl, rfl⟩
  exact fun d hd => Ms.of (key d hd)
theorem aB_X13_after : ∀ pc, aB 270 pc = fnd bk_X13_after pc := fun _ => rfl
def l_X13_after_33 (T : Nat) (v1 : Int) (v2 : Int) (k : Int → aM → Option (Int × aM)) : Nat → Int → aM → Option (Int × aM)
| 0, _, _ => none
| n + 1, v4, M =>
 if v2 ≤ v4 then
 k v4 M else
 (f_X13_aYear T M).bind fun x13 =>
 if aIn (v4 + 1) then
 l_X13_after_33 T v1 v2 k n (v4 + 1) x13.2 else none
theorem tl_X13_after_33 {d : Nat} (hd : 5 ≤ d) {T : T3} {v1 : Int} {v2 : Int} {k : Int → aM → Option (Int × aM)} {y : (Int × aM)}  {M0 : aM} (hS : Sh T.1 M0)
    (hk : ∀ (v4 : Int) (u3 : aV) (M : aM), Sh T.1 M → k v4 M = some y → Wp d 270 50 [] [(2, ((138 : Nat) : Int)), (0, v1), (0, v2), u3, (0, v4)] [] (M, T) (fun r2 σ2 => r2 = some (0, y.1) ∧ σ2 = (y.2, T) ∧ Sh T.1 y.2)) :
    ∀ (n : Nat) (v4 : Int) (u3 : aV) (M : aM), Sh T.1 M → l_X13_after_33 T.1 v1 v2 k n v4 M = some y → Wp d 270 33 [] [(2, ((138 : Nat) : Int)), (0, v1), (0, v2), u3, (0, v4)] [] (M, T) (fun r2 σ2 => r2 = some (0, y.1) ∧ σ2 = (y.2, T) ∧ Sh T.1 y.2) := by
  intro n
  induction n with
  | zero =>
    intro v4 u3 M _ h
    exact nomatch (show (none : Option (Int × aM)) = some y from h)
  | succ n ih =>
    intro v4 u3 M sM h
    rw [l_X13_after_33] at h
    refine y_blk (t := 33) rfl (show fnd bk_X13_after 33 = some _ from rfl) aB_X13_after ?_
    refine wp_iload (v := v4) rfl ?_
    refine wp_iload_n (v := v2) rfl ?_
    refine wp_icmp_ge (fun c12 => ?_) (fun c12 => ?_)
    · rw [if_pos c12] at h
      exact hk v4 u3 M sM h
    · rw [if_neg c12] at h
      refine wp_aload_n (v := ((138 : Nat) : Int)) rfl (Int.natCast_nonneg _) ?_
      obtain ⟨x13, e14, h⟩ := d_bind h
      obtain ⟨r15, s16⟩ := t_X13_aYear sM e14
      refine y_callV (as := []) (S1 := []) (Nat.le_of_ble_eq_true rfl) (by omega) r15 (Nat.le_of_ble_eq_true rfl) rfl (show ash 138 = (13, 38) from rfl) (Nat.lt_of_lt_of_le (show 138 < 154 by decide) hS.1.1) (Nat.le_of_ble_eq_true rfl) (Nat.le_of_ble_eq_true rfl) rfl ?_
      refine wp_pop (Or.inl rfl) ?_
      obtain ⟨c17, h⟩ := d_ite h
      refine y_iinc (L1 := [(2, ((138 : Nat) : Int)), (0, v1), (0, v2), (ajk u3), (0, (v4 + 1))]) rfl (Nat.le_of_ble_eq_true rfl) ⟨by decide, by decide⟩ c17 (aset_jk (q := 3) (u := u3) rfl) ?_
      refine wp_goto ?_
      exact ih (v4 + 1) (ajk u3) x13.2 s16 h
def f_X13_after (T : Nat) (v1 : Int) (v2 : Int) (M : aM) : Option (Int × aM) :=
 (some (aup M 138 0 0)).bind fun m1 =>
 (f_X13_isVoice T v1 m1).bind fun x3 =>
 (f_X13_refusesYears T x3 v2 m1).bind fun x5 =>
 if x5 ≤ 0 then
 (f_X13_works T m1).bind fun x8 =>
 l_X13_after_33 T v1 v2 (fun w18 m20 =>
 if 0 ≤ v1 ∧ v1 < 12 then
 (f_X13_good T (m20 141 (v1).toNat) m20).bind fun x23 =>
 some (x23.1, x23.2) else none) FU 0 x8.2 else
 (f_X13_refused T x5 m1).bind fun x27 =>
 some (x27.1, x27.2)
theorem t_X13_after {T : T3} {v1 : Int} {v2 : Int} {M : aM} {y : (Int × aM)}  (hS : Sh T.1 M) (h : f_X13_after T.1 v1 v2 M = some y) : Mr 5 270 [(2, ((138 : Nat) : Int)), (0, v1), (0, v2)] M (some (0, y.1)) y.2 T ∧ Sh T.1 y.2 := by
  have key : ∀ d, 5 ≤ d → Wp d 270 0 [] [(2, ((138 : Nat) : Int)), (0, v1), (0, v2), (9, 0), (9, 0)] [] (M, T) (fun r2 σ2 => r2 = some (0, y.1) ∧ σ2 = (y.2, T) ∧ Sh T.1 y.2) := by
    intro d hd
    rw [f_X13_after] at h
    refine y_blk (t := 0) rfl (show fnd bk_X13_after 0 = some _ from rfl) aB_X13_after ?_
    refine wp_aload_n (v := ((138 : Nat) : Int)) rfl (Int.natCast_nonneg _) ?_
    refine wp_iconst ⟨by decide, by decide⟩ ?_
    refine y_put (show ash 138 = (13, 38) from rfl) (Nat.lt_of_lt_of_le (show 138 < 154 by decide) hS.1.1) rfl ?_
    obtain ⟨m1, em1, h⟩ := d_bind h
    have em1 := Option.some.inj em1
    have s2 : Sh T.1 m1 := em1 ▸ hS.up (Or.inr ⟨by rw [(show ash 138 = (13, 38) from rfl)]; decide, by rw [(show ash 138 = (13, 38) from rfl)]; decide⟩) (by have := (Nat.lt_of_lt_of_le (show 138 < 154 by decide) hS.1.1); have := hS.1.2; omega)
    rw [em1]
    refine wp_aload_n (v := ((138 : Nat) : Int)) rfl (Int.natCast_nonneg _) ?_
    refine wp_aload_n (v := ((138 : Nat) : Int)) rfl (Int.natCast_nonneg _) ?_
    refine wp_iload_n (v := v1) rfl ?_
    obtain ⟨x3, e4, h⟩ := d_bind h
    refine y_callV (as := [(0, v1)]) (S1 := [(2, ((138 : Nat) : Int))]) (Nat.le_of_ble_eq_true rfl) (by omega) (t_X13_isVoice s2 e4) (Nat.le_of_ble_eq_true rfl) rfl (show ash 138 = (13, 38) from rfl) (Nat.lt_of_lt_of_le (show 138 < 154 by decide) hS.1.1) (Nat.le_of_ble_eq_true rfl) (Nat.le_of_ble_eq_true rfl) rfl ?_
    refine wp_iload_n (v := v2) rfl ?_
    obtain ⟨x5, e6, h⟩ := d_bind h
    refine y_callV (as := [(0, x3), (0, v2)]) (S1 := []) (Nat.le_of_ble_eq_true rfl) (by omega) (t_X13_refusesYears s2 e6) (Nat.le_of_ble_eq_true rfl) rfl (show ash 138 = (13, 38) from rfl) (Nat.lt_of_lt_of_le (show 138 < 154 by decide) hS.1.1) (Nat.le_of_ble_eq_true rfl) (Nat.le_of_ble_eq_true rfl) rfl ?_
    refine y_stn (L1 := [(2, ((138 : Nat) : Int)), (0, v1), (0, v2), (0, x5), (9, 0)]) (Nat.le_of_ble_eq_true rfl) rfl ?_
    refine wp_iload_n (v := x5) rfl ?_
    refine wp_if_le (fun c7 => ?_) (fun c7 => ?_)
    · rw [if_pos c7] at h
      refine y_blk (t := 26) rfl (show fnd bk_X13_after 26 = some _ from rfl) aB_X13_after ?_
      refine wp_aload_n (v := ((138 : Nat) : Int)) rfl (Int.natCast_nonneg _) ?_
      obtain ⟨x8, e9, h⟩ := d_bind h
      obtain ⟨r10, s11⟩ := t_X13_works s2 e9
      refine y_callVv (as := []) (S1 := []) (Nat.le_of_ble_eq_true rfl) (by omega) r10 rfl (show ash 138 = (13, 38) from rfl) (Nat.lt_of_lt_of_le (show 138 < 154 by decide) hS.1.1) (Nat.le_of_ble_eq_true rfl) (Nat.le_of_ble_eq_true rfl) rfl ?_
      refine wp_iconst ⟨by decide, by decide⟩ ?_
      refine y_st (L1 := [(2, ((138 : Nat) : Int)), (0, v1), (0, v2), (0, x5), (0, 0)]) (Nat.le_of_ble_eq_true rfl) rfl ?_
      refine tl_X13_after_33 (by omega) hS (fun w18 u19 m20 s21 h => ?_) FU 0 (0, x5) x8.2 s11 h
      refine y_blk (t := 50) rfl (show fnd bk_X13_after 50 = some _ from rfl) aB_X13_after ?_
      refine wp_aload_n (v := ((138 : Nat) : Int)) rfl (Int.natCast_nonneg _) ?_
      refine wp_aload_n (v := ((138 : Nat) : Int)) rfl (Int.natCast_nonneg _) ?_
      refine y_get (show ash 138 = (13, 38) from rfl) (Nat.lt_of_lt_of_le (show 138 < 154 by decide) hS.1.1) (v := ((141 : Nat) : Int)) (s21.at 138 17 141 (by decide +kernel)) rfl ?_
      refine wp_iload_n (v := v1) rfl ?_
      obtain ⟨c22, h⟩ := d_ite h
      refine y_iald (show ash 141 = (100, 12) from rfl) (Or.inl (Nat.lt_of_lt_of_le (show 141 < 154 by decide) hS.1.1)) (Nat.ne_of_lt (Nat.lt_of_lt_of_le (Nat.lt_of_lt_of_le (show 141 < 154 by decide) hS.1.1) hS.1.2)) c22 (v := m20 141 (v1).toNat) rfl ?_
      obtain ⟨x23, e24, h⟩ := d_bind h
      obtain ⟨r25, s26⟩ := t_X13_good s21 e24
      refine y_callV (as := [(0, (m20 141 (v1).toNat))]) (S1 := []) (Nat.le_of_ble_eq_true rfl) (by omega) r25 (Nat.le_of_ble_eq_true rfl) rfl (show ash 138 = (13, 38) from rfl) (Nat.lt_of_lt_of_le (show 138 < 154 by decide) hS.1.1) (Nat.le_of_ble_eq_true rfl) (Nat.le_of_ble_eq_true rfl) rfl ?_
      cases h
      exact y_ret0 (Or.inl rfl) ⟨rfl, rfl, s26⟩
    · rw [if_neg c7] at h
      refine wp_aload_n (v := ((138 : Nat) : Int)) rfl (Int.natCast_nonneg _) ?_
      refine wp_iload_n (v := x5) rfl ?_
      obtain ⟨x27, e28, h⟩ := d_bind h
      obtain ⟨r29, s30⟩ := t_X13_refused s2 e28
      refine y_callV (as := [(0, x5)]) (S1 := []) (Nat.le_of_ble_eq_true rfl) (by omega) r29 (Nat.le_of_ble_eq_true rfl) rfl (show ash 138 = (13, 38) from rfl) (Nat.lt_of_lt_of_le (show 138 < 154 by decide) hS.1.1) (Nat.le_of_ble_eq_true rfl) (Nat.le_of_ble_eq_true rfl) rfl ?_
      cases h
      exact y_ret0 (Or.inl rfl) ⟨rfl, rfl, s30⟩
  exact ⟨fun d hd => Ms.of3 (key d hd), Ms.sh (key 5 (Nat.le_refl _))⟩
theorem aB_X13_comes : ∀ pc, aB 271 pc = fnd bk_X13_comes pc := fun _ => rfl
def l_X13_comes_33 (T : Nat) (v1 : Int) (v2 : Int) (k : Int → aM → Option (Int × aM)) : Nat → Int → aM → Option (Int × aM)
| 0, _, _ => none
| n + 1, v3, M =>
 if 60 < v3 then
 k v3 M else
 if 0 ≤ v1 ∧ v1 < 12 then
 if (M 141 (v1).toNat) = v2 then
 (f_X13_good T v3 M).bind fun x25 =>
 some (x25.1, x25.2) else
 (f_X13_aYear T M).bind fun x20 =>
 if aIn (v3 + 1) then
 l_X13_comes_33 T v1 v2 k n (v3 + 1) x20.2 else none else none
theorem tl_X13_comes_33 {d : Nat} (hd : 5 ≤ d) {T : T3} {v1 : Int} {v2 : Int} {k : Int → aM → Option (Int × aM)} {y : (Int × aM)}  {M0 : aM} (hS : Sh T.1 M0)
    (hk : ∀ (v3 : Int) (M : aM), Sh T.1 M → k v3 M = some y → Wp d 271 66 [] [(2, ((138 : Nat) : Int)), (0, v1), (0, v2), (0, v3)] [] (M, T) (fun r2 σ2 => r2 = some (0, y.1) ∧ σ2 = (y.2, T) ∧ Sh T.1 y.2)) :
    ∀ (n : Nat) (v3 : Int) (M : aM), Sh T.1 M → l_X13_comes_33 T.1 v1 v2 k n v3 M = some y → Wp d 271 33 [] [(2, ((138 : Nat) : Int)), (0, v1), (0, v2), (0, v3)] [] (M, T) (fun r2 σ2 => r2 = some (0, y.1) ∧ σ2 = (y.2, T) ∧ Sh T.1 y.2) := by
  intro n
  induction n with
  | zero =>
    intro v3 M _ h
    exact nomatch (show (none : Option (Int × aM)) = some y from h)
  | succ n ih =>
    intro v3 M sM h
    rw [l_X13_comes_33] at h
    refine y_blk (t := 33) rfl (show fnd bk_X13_comes 33 = some _ from rfl) aB_X13_comes ?_
    refine wp_iload_n (v := v3) rfl ?_
    refine wp_bipush (by decide) ?_
    refine wp_icmp_gt (fun c17 => ?_) (fun c17 => ?_)
    · rw [if_pos c17] at h
      exact hk v3  M sM h
    · rw [if_neg c17] at h
      refine wp_aload_n (v := ((138 : Nat) : Int)) rfl (Int.natCast_nonneg _) ?_
      refine y_get (show ash 138 = (13, 38) from rfl) (Nat.lt_of_lt_of_le (show 138 < 154 by decide) hS.1.1) (v := ((141 : Nat) : Int)) (sM.at 138 17 141 (by decide +kernel)) rfl ?_
      refine wp_iload_n (v := v1) rfl ?_
      obtain ⟨c18, h⟩ := d_ite h
      refine y_iald (show ash 141 = (100, 12) from rfl) (Or.inl (Nat.lt_of_lt_of_le (show 141 < 154 by decide) hS.1.1)) (Nat.ne_of_lt (Nat.lt_of_lt_of_le (Nat.lt_of_lt_of_le (show 141 < 154 by decide) hS.1.1) hS.1.2)) c18 (v := M 141 (v1).toNat) rfl ?_
      refine wp_iload_n (v := v2) rfl ?_
      refine y_ne (fun c19 => ?_) (fun c19 => ?_)
      · rw [if_neg c19] at h
        refine y_blk (t := 55) rfl (show fnd bk_X13_comes 55 = some _ from rfl) aB_X13_comes ?_
        refine wp_aload_n (v := ((138 : Nat) : Int)) rfl (Int.natCast_nonneg _) ?_
        obtain ⟨x20, e21, h⟩ := d_bind h
        obtain ⟨r22, s23⟩ := t_X13_aYear sM e21
        refine y_callV (as := []) (S1 := []) (Nat.le_of_ble_eq_true rfl) (by omega) r22 (Nat.le_of_ble_eq_true rfl) rfl (show ash 138 = (13, 38) from rfl) (Nat.lt_of_lt_of_le (show 138 < 154 by decide) hS.1.1) (Nat.le_of_ble_eq_true rfl) (Nat.le_of_ble_eq_true rfl) rfl ?_
        refine wp_pop (Or.inl rfl) ?_
        obtain ⟨c24, h⟩ := d_ite h
        refine y_iinc (L1 := [(2, ((138 : Nat) : Int)), (0, v1), (0, v2), (0, (v3 + 1))]) rfl (Nat.le_of_ble_eq_true rfl) ⟨by decide, by decide⟩ c24 rfl ?_
        refine wp_goto ?_
        exact ih (v3 + 1)  x20.2 s23 h
      · rw [if_pos c19] at h
        refine wp_aload_n (v := ((138 : Nat) : Int)) rfl (Int.natCast_nonneg _) ?_
        refine wp_iload_n (v := v3) rfl ?_
        obtain ⟨x25, e26, h⟩ := d_bind h
        obtain ⟨r27, s28⟩ := t_X13_good sM e26
        refine y_callV (as := [(0, v3)]) (S1 := []) (Nat.le_of_ble_eq_true rfl) (by omega) r27 (Nat.le_of_ble_eq_true rfl) rfl (show ash 138 = (13, 38) from rfl) (Nat.lt_of_lt_of_le (show 138 < 154 by decide) hS.1.1) (Nat.le_of_ble_eq_true rfl) (Nat.le_of_ble_eq_true rfl) rfl ?_
        cases h
        exact y_ret0 (Or.inl rfl) ⟨rfl, rfl, s28⟩
def f_X13_comes (T : Nat) (v1 : Int) (v2 : Int) (M : aM) : Option (Int × aM) :=
 (some (aup M 138 0 0)).bind fun m1 =>
 (f_X13_isVoice T v1 m1).bind fun x3 =>
 if x3 = 0 then
 (f_X13_refused T 1 m1).bind fun x6 =>
 some (x6.1, x6.2) else
 (f_X13_isCave T v2 m1).bind fun x10 =>
 if x10 = 0 then
 (f_X13_refused T 1 m1).bind fun x36 =>
 some (x36.1, x36.2) else
 (f_X13_works T m1).bind fun x13 =>
 l_X13_comes_33 T v1 v2 (fun w29 m30 =>
 (f_X13_good T (-2) m30).bind fun x32 =>
 some (x32.1, x32.2)) FU 0 x13.2
theorem t_X13_comes {T : T3} {v1 : Int} {v2 : Int} {M : aM} {y : (Int × aM)}  (hS : Sh T.1 M) (h : f_X13_comes T.1 v1 v2 M = some y) : Mr 5 271 [(2, ((138 : Nat) : Int)), (0, v1), (0, v2)] M (some (0, y.1)) y.2 T ∧ Sh T.1 y.2 := by
  have key : ∀ d, 5 ≤ d → Wp d 271 0 [] [(2, ((138 : Nat) : Int)), (0, v1), (0, v2), (9, 0)] [] (M, T) (fun r2 σ2 => r2 = some (0, y.1) ∧ σ2 = (y.2, T) ∧ Sh T.1 y.2) := by
    intro d hd
    rw [f_X13_comes] at h
    refine y_blk (t := 0) rfl (show fnd bk_X13_comes 0 = some _ from rfl) aB_X13_comes ?_
    refine wp_aload_n (v := ((138 : Nat) : Int)) rfl (Int.natCast_nonneg _) ?_
    refine wp_iconst ⟨by decide, by decide⟩ ?_
    refine y_put (show ash 138 = (13, 38) from rfl) (Nat.lt_of_lt_of_le (show 138 < 154 by decide) hS.1.1) rfl ?_
    obtain ⟨m1, em1, h⟩ := d_bind h
    have em1 := Option.some.inj em1
    have s2 : Sh T.1 m1 := em1 ▸ hS.up (Or.inr ⟨by rw [(show ash 138 = (13, 38) from rfl)]; decide, by rw [(show ash 138 = (13, 38) from rfl)]; decide⟩) (by have := (Nat.lt_of_lt_of_le (show 138 < 154 by decide) hS.1.1); have := hS.1.2; omega)
    rw [em1]
    refine wp_aload_n (v := ((138 : Nat) : Int)) rfl (Int.natCast_nonneg _) ?_
    refine wp_iload_n (v := v1) rfl ?_
    obtain ⟨x3, e4, h⟩ := d_bind h
    refine y_callV (as := [(0, v1)]) (S1 := []) (Nat.le_of_ble_eq_true rfl) (by omega) (t_X13_isVoice s2 e4) (Nat.le_of_ble_eq_true rfl) rfl (show ash 138 = (13, 38) from rfl) (Nat.lt_of_lt_of_le (show 138 < 154 by decide) hS.1.1) (Nat.le_of_ble_eq_true rfl) (Nat.le_of_ble_eq_true rfl) rfl ?_
    refine wp_if_eq (fun c5 => ?_) (fun c5 => ?_)
    · rw [if_pos c5] at h
      refine y_blk (t := 21) rfl (show fnd bk_X13_comes 21 = some _ from rfl) aB_X13_comes ?_
      refine wp_aload_n (v := ((138 : Nat) : Int)) rfl (Int.natCast_nonneg _) ?_
      refine wp_iconst ⟨by decide, by decide⟩ ?_
      obtain ⟨x6, e7, h⟩ := d_bind h
      obtain ⟨r8, s9⟩ := t_X13_refused s2 e7
      refine y_callV (as := [(0, 1)]) (S1 := []) (Nat.le_of_ble_eq_true rfl) (by omega) r8 (Nat.le_of_ble_eq_true rfl) rfl (show ash 138 = (13, 38) from rfl) (Nat.lt_of_lt_of_le (show 138 < 154 by decide) hS.1.1) (Nat.le_of_ble_eq_true rfl) (Nat.le_of_ble_eq_true rfl) rfl ?_
      cases h
      exact y_ret0 (Or.inl rfl) ⟨rfl, rfl, s9⟩
    · rw [if_neg c5] at h
      refine wp_aload_n (v := ((138 : Nat) : Int)) rfl (Int.natCast_nonneg _) ?_
      refine wp_iload_n (v := v2) rfl ?_
      obtain ⟨x10, e11, h⟩ := d_bind h
      refine y_callV (as := [(0, v2)]) (S1 := []) (Nat.le_of_ble_eq_true rfl) (by omega) (t_X13_isCave s2 e11) (Nat.le_of_ble_eq_true rfl) rfl (show ash 138 = (13, 38) from rfl) (Nat.lt_of_lt_of_le (show 138 < 154 by decide) hS.1.1) (Nat.le_of_ble_eq_true rfl) (Nat.le_of_ble_eq_true rfl) rfl ?_
      refine y_nez (fun c12 => ?_) (fun c12 => ?_)
      · rw [if_neg c12] at h
        refine y_blk (t := 27) rfl (show fnd bk_X13_comes 27 = some _ from rfl) aB_X13_comes ?_
        refine wp_aload_n (v := ((138 : Nat) : Int)) rfl (Int.natCast_nonneg _) ?_
        obtain ⟨x13, e14, h⟩ := d_bind h
        obtain ⟨r15, s16⟩ := t_X13_works s2 e14
        refine y_callVv (as := []) (S1 := []) (Nat.le_of_ble_eq_true rfl) (by omega) r15 rfl (show ash 138 = (13, 38) from rfl) (Nat.lt_of_lt_of_le (show 138 < 154 by decide) hS.1.1) (Nat.le_of_ble_eq_true rfl) (Nat.le_of_ble_eq_true rfl) rfl ?_
        refine wp_iconst ⟨by decide, by decide⟩ ?_
        refine y_stn (L1 := [(2, ((138 : Nat) : Int)), (0, v1), (0, v2), (0, 0)]) (Nat.le_of_ble_eq_true rfl) rfl ?_
        refine tl_X13_comes_33 (by omega) hS (fun w29  m30 s31 h => ?_) FU 0  x13.2 s16 h
        refine y_blk (t := 66) rfl (show fnd bk_X13_comes 66 = some _ from rfl) aB_X13_comes ?_
        refine wp_aload_n (v := ((138 : Nat) : Int)) rfl (Int.natCast_nonneg _) ?_
        refine wp_bipush (by decide) ?_
        obtain ⟨x32, e33, h⟩ := d_bind h
        obtain ⟨r34, s35⟩ := t_X13_good s31 e33
        refine y_callV (as := [(0, (-2))]) (S1 := []) (Nat.le_of_ble_eq_true rfl) (by omega) r34 (Nat.le_of_ble_eq_true rfl) rfl (show ash 138 = (13, 38) from rfl) (Nat.lt_of_lt_of_le (show 138 < 154 by decide) hS.1.1) (Nat.le_of_ble_eq_true rfl) (Nat.le_of_ble_eq_true rfl) rfl ?_
        cases h
        exact y_ret0 (Or.inl rfl) ⟨rfl, rfl, s35⟩
      · rw [if_pos c12] at h
        refine y_blk (t := 21) rfl (show fnd bk_X13_comes 21 = some _ from rfl) aB_X13_comes ?_
        refine wp_aload_n (v := ((138 : Nat) : Int)) rfl (Int.natCast_nonneg _) ?_
        refine wp_iconst ⟨by decide, by decide⟩ ?_
        obtain ⟨x36, e37, h⟩ := d_bind h
        obtain ⟨r38, s39⟩ := t_X13_refused s2 e37
        refine y_callV (as := [(0, 1)]) (S1 := []) (Nat.le_of_ble_eq_true rfl) (by omega) r38 (Nat.le_of_ble_eq_true rfl) rfl (show ash 138 = (13, 38) from rfl) (Nat.lt_of_lt_of_le (show 138 < 154 by decide) hS.1.1) (Nat.le_of_ble_eq_true rfl) (Nat.le_of_ble_eq_true rfl) rfl ?_
        cases h
        exact y_ret0 (Or.inl rfl) ⟨rfl, rfl, s39⟩
  exact ⟨fun d hd => Ms.of3 (key d hd), Ms.sh (key 5 (Nat.le_refl _))⟩
theorem aB_X13_meets : ∀ pc, aB 272 pc = fnd bk_X13_meets pc := fun _ => rfl
def l_X13_meets_38 (T : Nat) (v1 : Int) (v2 : Int) (k : Int → aM → Option (Int × aM)) : Nat → Int → aM → Option (Int × aM)
| 0, _, _ => none
| n + 1, v3, M =>
 if 60 < v3 then
 k v3 M else
 if 0 ≤ v1 ∧ v1 < 12 then
 if 0 ≤ v2 ∧ v2 < 12 then
 if (M 141 (v1).toNat) = (M 141 (v2).toNat) then
 (f_X13_good T v3 M).bind fun x31 =>
 some (x31.1, x31.2) else
 (f_X13_aYear T M).bind fun x26 =>
 if aIn (v3 + 1) then
 l_X13_meets_38 T v1 v2 k n (v3 + 1) x26.2 else none else none else none
theorem tl_X13_meets_38 {d : Nat} (hd : 5 ≤ d) {T : T3} {v1 : Int} {v2 : Int} {k : Int → aM → Option (Int × aM)} {y : (Int × aM)}  {M0 : aM} (hS : Sh T.1 M0)
    (hk : ∀ (v3 : Int) (M : aM), Sh T.1 M → k v3 M = some y → Wp d 272 76 [] [(2, ((138 : Nat) : Int)), (0, v1), (0, v2), (0, v3)] [] (M, T) (fun r2 σ2 => r2 = some (0, y.1) ∧ σ2 = (y.2, T) ∧ Sh T.1 y.2)) :
    ∀ (n : Nat) (v3 : Int) (M : aM), Sh T.1 M → l_X13_meets_38 T.1 v1 v2 k n v3 M = some y → Wp d 272 38 [] [(2, ((138 : Nat) : Int)), (0, v1), (0, v2), (0, v3)] [] (M, T) (fun r2 σ2 => r2 = some (0, y.1) ∧ σ2 = (y.2, T) ∧ Sh T.1 y.2) := by
  intro n
  induction n with
  | zero =>
    intro v3 M _ h
    exact nomatch (show (none : Option (Int × aM)) = some y from h)
  | succ n ih =>
    intro v3 M sM h
    rw [l_X13_meets_38] at h
    refine y_blk (t := 38) rfl (show fnd bk_X13_meets 38 = some _ from rfl) aB_X13_meets ?_
    refine wp_iload_n (v := v3) rfl ?_
    refine wp_bipush (by decide) ?_
    refine wp_icmp_gt (fun c22 => ?_) (fun c22 => ?_)
    · rw [if_pos c22] at h
      exact hk v3  M sM h
    · rw [if_neg c22] at h
      refine wp_aload_n (v := ((138 : Nat) : Int)) rfl (Int.natCast_nonneg _) ?_
      refine y_get (show ash 138 = (13, 38) from rfl) (Nat.lt_of_lt_of_le (show 138 < 154 by decide) hS.1.1) (v := ((141 : Nat) : Int)) (sM.at 138 17 141 (by decide +kernel)) rfl ?_
      refine wp_iload_n (v := v1) rfl ?_
      obtain ⟨c23, h⟩ := d_ite h
      refine y_iald (show ash 141 = (100, 12) from rfl) (Or.inl (Nat.lt_of_lt_of_le (show 141 < 154 by decide) hS.1.1)) (Nat.ne_of_lt (Nat.lt_of_lt_of_le (Nat.lt_of_lt_of_le (show 141 < 154 by decide) hS.1.1) hS.1.2)) c23 (v := M 141 (v1).toNat) rfl ?_
      refine wp_aload_n (v := ((138 : Nat) : Int)) rfl (Int.natCast_nonneg _) ?_
      refine y_get (show ash 138 = (13, 38) from rfl) (Nat.lt_of_lt_of_le (show 138 < 154 by decide) hS.1.1) (v := ((141 : Nat) : Int)) (sM.at 138 17 141 (by decide +kernel)) rfl ?_
      refine wp_iload_n (v := v2) rfl ?_
      obtain ⟨c24, h⟩ := d_ite h
      refine y_iald (show ash 141 = (100, 12) from rfl) (Or.inl (Nat.lt_of_lt_of_le (show 141 < 154 by decide) hS.1.1)) (Nat.ne_of_lt (Nat.lt_of_lt_of_le (Nat.lt_of_lt_of_le (show 141 < 154 by decide) hS.1.1) hS.1.2)) c24 (v := M 141 (v2).toNat) rfl ?_
      refine y_ne (fun c25 => ?_) (fun c25 => ?_)
      · rw [if_neg c25] at h
        refine y_blk (t := 65) rfl (show fnd bk_X13_meets 65 = some _ from rfl) aB_X13_meets ?_
        refine wp_aload_n (v := ((138 : Nat) : Int)) rfl (Int.natCast_nonneg _) ?_
        obtain ⟨x26, e27, h⟩ := d_bind h
        obtain ⟨r28, s29⟩ := t_X13_aYear sM e27
        refine y_callV (as := []) (S1 := []) (Nat.le_of_ble_eq_true rfl) (by omega) r28 (Nat.le_of_ble_eq_true rfl) rfl (show ash 138 = (13, 38) from rfl) (Nat.lt_of_lt_of_le (show 138 < 154 by decide) hS.1.1) (Nat.le_of_ble_eq_true rfl) (Nat.le_of_ble_eq_true rfl) rfl ?_
        refine wp_pop (Or.inl rfl) ?_
        obtain ⟨c30, h⟩ := d_ite h
        refine y_iinc (L1 := [(2, ((138 : Nat) : Int)), (0, v1), (0, v2), (0, (v3 + 1))]) rfl (Nat.le_of_ble_eq_true rfl) ⟨by decide, by decide⟩ c30 rfl ?_
        refine wp_goto ?_
        exact ih (v3 + 1)  x26.2 s29 h
      · rw [if_pos c25] at h
        refine wp_aload_n (v := ((138 : Nat) : Int)) rfl (Int.natCast_nonneg _) ?_
        refine wp_iload_n (v := v3) rfl ?_
        obtain ⟨x31, e32, h⟩ := d_bind h
        obtain ⟨r33, s34⟩ := t_X13_good sM e32
        refine y_callV (as := [(0, v3)]) (S1 := []) (Nat.le_of_ble_eq_true rfl) (by omega) r33 (Nat.le_of_ble_eq_true rfl) rfl (show ash 138 = (13, 38) from rfl) (Nat.lt_of_lt_of_le (show 138 < 154 by decide) hS.1.1) (Nat.le_of_ble_eq_true rfl) (Nat.le_of_ble_eq_true rfl) rfl ?_
        cases h
        exact y_ret0 (Or.inl rfl) ⟨rfl, rfl, s34⟩
def f_X13_meets (T : Nat) (v1 : Int) (v2 : Int) (M : aM) : Option (Int × aM) :=
 (some (aup M 138 0 0)).bind fun m1 =>
 (f_X13_isVoice T v1 m1).bind fun x3 =>
 if x3 = 0 then
 (f_X13_refused T 1 m1).bind fun x6 =>
 some (x6.1, x6.2) else
 (f_X13_isVoice T v2 m1).bind fun x10 =>
 if x10 = 0 then
 (f_X13_refused T 1 m1).bind fun x13 =>
 some (x13.1, x13.2) else
 if v1 = v2 then
 (f_X13_refused T 1 m1).bind fun x42 =>
 some (x42.1, x42.2) else
 (f_X13_works T m1).bind fun x18 =>
 l_X13_meets_38 T v1 v2 (fun w35 m36 =>
 (f_X13_good T (-2) m36).bind fun x38 =>
 some (x38.1, x38.2)) FU 0 x18.2
theorem t_X13_meets {T : T3} {v1 : Int} {v2 : Int} {M : aM} {y : (Int × aM)}  (hS : Sh T.1 M) (h : f_X13_meets T.1 v1 v2 M = some y) : Mr 5 272 [(2, ((138 : Nat) : Int)), (0, v1), (0, v2)] M (some (0, y.1)) y.2 T ∧ Sh T.1 y.2 := by
  have key : ∀ d, 5 ≤ d → Wp d 272 0 [] [(2, ((138 : Nat) : Int)), (0, v1), (0, v2), (9, 0)] [] (M, T) (fun r2 σ2 => r2 = some (0, y.1) ∧ σ2 = (y.2, T) ∧ Sh T.1 y.2) := by
    intro d hd
    rw [f_X13_meets] at h
    refine y_blk (t := 0) rfl (show fnd bk_X13_meets 0 = some _ from rfl) aB_X13_meets ?_
    refine wp_aload_n (v := ((138 : Nat) : Int)) rfl (Int.natCast_nonneg _) ?_
    refine wp_iconst ⟨by decide, by decide⟩ ?_
    refine y_put (show ash 138 = (13, 38) from rfl) (Nat.lt_of_lt_of_le (show 138 < 154 by decide) hS.1.1) rfl ?_
    obtain ⟨m1, em1, h⟩ := d_bind h
    have em1 := Option.some.inj em1
    have s2 : Sh T.1 m1 := em1 ▸ hS.up (Or.inr ⟨by rw [(show ash 138 = (13, 38) from rfl)]; decide, by rw [(show ash 138 = (13, 38) from rfl)]; decide⟩) (by have := (Nat.lt_of_lt_of_le (show 138 < 154 by decide) hS.1.1); have := hS.1.2; omega)
    rw [em1]
    refine wp_aload_n (v := ((138 : Nat) : Int)) rfl (Int.natCast_nonneg _) ?_
    refine wp_iload_n (v := v1) rfl ?_
    obtain ⟨x3, e4, h⟩ := d_bind h
    refine y_callV (as := [(0, v1)]) (S1 := []) (Nat.le_of_ble_eq_true rfl) (by omega) (t_X13_isVoice s2 e4) (Nat.le_of_ble_eq_true rfl) rfl (show ash 138 = (13, 38) from rfl) (Nat.lt_of_lt_of_le (show 138 < 154 by decide) hS.1.1) (Nat.le_of_ble_eq_true rfl) (Nat.le_of_ble_eq_true rfl) rfl ?_
    refine wp_if_eq (fun c5 => ?_) (fun c5 => ?_)
    · rw [if_pos c5] at h
      refine y_blk (t := 26) rfl (show fnd bk_X13_meets 26 = some _ from rfl) aB_X13_meets ?_
      refine wp_aload_n (v := ((138 : Nat) : Int)) rfl (Int.natCast_nonneg _) ?_
      refine wp_iconst ⟨by decide, by decide⟩ ?_
      obtain ⟨x6, e7, h⟩ := d_bind h
      obtain ⟨r8, s9⟩ := t_X13_refused s2 e7
      refine y_callV (as := [(0, 1)]) (S1 := []) (Nat.le_of_ble_eq_true rfl) (by omega) r8 (Nat.le_of_ble_eq_true rfl) rfl (show ash 138 = (13, 38) from rfl) (Nat.lt_of_lt_of_le (show 138 < 154 by decide) hS.1.1) (Nat.le_of_ble_eq_true rfl) (Nat.le_of_ble_eq_true rfl) rfl ?_
      cases h
      exact y_ret0 (Or.inl rfl) ⟨rfl, rfl, s9⟩
    · rw [if_neg c5] at h
      refine wp_aload_n (v := ((138 : Nat) : Int)) rfl (Int.natCast_nonneg _) ?_
      refine wp_iload_n (v := v2) rfl ?_
      obtain ⟨x10, e11, h⟩ := d_bind h
      refine y_callV (as := [(0, v2)]) (S1 := []) (Nat.le_of_ble_eq_true rfl) (by omega) (t_X13_isVoice s2 e11) (Nat.le_of_ble_eq_true rfl) rfl (show ash 138 = (13, 38) from rfl) (Nat.lt_of_lt_of_le (show 138 < 154 by decide) hS.1.1) (Nat.le_of_ble_eq_true rfl) (Nat.le_of_ble_eq_true rfl) rfl ?_
      refine wp_if_eq (fun c12 => ?_) (fun c12 => ?_)
      · rw [if_pos c12] at h
        refine y_blk (t := 26) rfl (show fnd bk_X13_meets 26 = some _ from rfl) aB_X13_meets ?_
        refine wp_aload_n (v := ((138 : Nat) : Int)) rfl (Int.natCast_nonneg _) ?_
        refine wp_iconst ⟨by decide, by decide⟩ ?_
        obtain ⟨x13, e14, h⟩ := d_bind h
        obtain ⟨r15, s16⟩ := t_X13_refused s2 e14
        refine y_callV (as := [(0, 1)]) (S1 := []) (Nat.le_of_ble_eq_true rfl) (by omega) r15 (Nat.le_of_ble_eq_true rfl) rfl (show ash 138 = (13, 38) from rfl) (Nat.lt_of_lt_of_le (show 138 < 154 by decide) hS.1.1) (Nat.le_of_ble_eq_true rfl) (Nat.le_of_ble_eq_true rfl) rfl ?_
        cases h
        exact y_ret0 (Or.inl rfl) ⟨rfl, rfl, s16⟩
      · rw [if_neg c12] at h
        refine wp_iload_n (v := v1) rfl ?_
        refine wp_iload_n (v := v2) rfl ?_
        refine y_ne (fun c17 => ?_) (fun c17 => ?_)
        · rw [if_neg c17] at h
          refine y_blk (t := 32) rfl (show fnd bk_X13_meets 32 = some _ from rfl) aB_X13_meets ?_
          refine wp_aload_n (v := ((138 : Nat) : Int)) rfl (Int.natCast_nonneg _) ?_
          obtain ⟨x18, e19, h⟩ := d_bind h
          obtain ⟨r20, s21⟩ := t_X13_works s2 e19
          refine y_callVv (as := []) (S1 := []) (Nat.le_of_ble_eq_true rfl) (by omega) r20 rfl (show ash 138 = (13, 38) from rfl) (Nat.lt_of_lt_of_le (show 138 < 154 by decide) hS.1.1) (Nat.le_of_ble_eq_true rfl) (Nat.le_of_ble_eq_true rfl) rfl ?_
          refine wp_iconst ⟨by decide, by decide⟩ ?_
          refine y_stn (L1 := [(2, ((138 : Nat) : Int)), (0, v1), (0, v2), (0, 0)]) (Nat.le_of_ble_eq_true rfl) rfl ?_
          refine tl_X13_meets_38 (by omega) hS (fun w35  m36 s37 h => ?_) FU 0  x18.2 s21 h
          refine y_blk (t := 76) rfl (show fnd bk_X13_meets 76 = some _ from rfl) aB_X13_meets ?_
          refine wp_aload_n (v := ((138 : Nat) : Int)) rfl (Int.natCast_nonneg _) ?_
          refine wp_bipush (by decide) ?_
          obtain ⟨x38, e39, h⟩ := d_bind h
          obtain ⟨r40, s41⟩ := t_X13_good s37 e39
          refine y_callV (as := [(0, (-2))]) (S1 := []) (Nat.le_of_ble_eq_true rfl) (by omega) r40 (Nat.le_of_ble_eq_true rfl) rfl (show ash 138 = (13, 38) from rfl) (Nat.lt_of_lt_of_le (show 138 < 154 by decide) hS.1.1) (Nat.le_of_ble_eq_true rfl) (Nat.le_of_ble_eq_true rfl) rfl ?_
          cases h
          exact y_ret0 (Or.inl rfl) ⟨rfl, rfl, s41⟩
        · rw [if_pos c17] at h
          refine y_blk (t := 26) rfl (show fnd bk_X13_meets 26 = some _ from rfl) aB_X13_meets ?_
          refine wp_aload_n (v := ((138 : Nat) : Int)) rfl (Int.natCast_nonneg _) ?_
          refine wp_iconst ⟨by decide, by decide⟩ ?_
          obtain ⟨x42, e43, h⟩ := d_bind h
          obtain ⟨r44, s45⟩ := t_X13_refused s2 e43
          refine y_callV (as := [(0, 1)]) (S1 := []) (Nat.le_of_ble_eq_true rfl) (by omega) r44 (Nat.le_of_ble_eq_true rfl) rfl (show ash 138 = (13, 38) from rfl) (Nat.lt_of_lt_of_le (show 138 < 154 by decide) hS.1.1) (Nat.le_of_ble_eq_true rfl) (Nat.le_of_ble_eq_true rfl) rfl ?_
          cases h
          exact y_ret0 (Or.inl rfl) ⟨rfl, rfl, s45⟩
  exact ⟨fun d hd => Ms.of3 (key d hd), Ms.sh (key 5 (Nat.le_refl _))⟩
theorem aB_X13_silentIn : ∀ pc, aB 273 pc = fnd bk_X13_silentIn pc := fun _ => rfl
def l_X13_silentIn_25 (T : Nat) (v1 : Int) (k : Int → aM → Option (Int × aM)) : Nat → Int → aM → Option (Int × aM)
| 0, _, _ => none
| n + 1, v2, M =>
 if 60 < v2 then
 k v2 M else
 (f_X13_isSilent T v1 M).bind fun x11 =>
 if x11 = 0 then
 (f_X13_aYear T M).bind fun x14 =>
 if aIn (v2 + 1) then
 l_X13_silentIn_25 T v1 k n (v2 + 1) x14.2 else none else
 (f_X13_good T v2 M).bind fun x19 =>
 some (x19.1, x19.2)
theorem tl_X13_silentIn_25 {d : Nat} (hd : 5 ≤ d) {T : T3} {v1 : Int} {k : Int → aM → Option (Int × aM)} {y : (Int × aM)}  {M0 : aM} (hS : Sh T.1 M0)
    (hk : ∀ (v2 : Int) (M : aM), Sh T.1 M → k v2 M = some y → Wp d 273 56 [] [(2, ((138 : Nat) : Int)), (0, v1), (0, v2)] [] (M, T) (fun r2 σ2 => r2 = some (0, y.1) ∧ σ2 = (y.2, T) ∧ Sh T.1 y.2)) :
    ∀ (n : Nat) (v2 : Int) (M : aM), Sh T.1 M → l_X13_silentIn_25 T.1 v1 k n v2 M = some y → Wp d 273 25 [] [(2, ((138 : Nat) : Int)), (0, v1), (0, v2)] [] (M, T) (fun r2 σ2 => r2 = some (0, y.1) ∧ σ2 = (y.2, T) ∧ Sh T.1 y.2) := by
  intro n
  induction n with
  | zero =>
    intro v2 M _ h
    exact nomatch (show (none : Option (Int × aM)) = some y from h)
  | succ n ih =>
    intro v2 M sM h
    rw [l_X13_silentIn_25] at h
    refine y_blk (t := 25) rfl (show fnd bk_X13_silentIn 25 = some _ from rfl) aB_X13_silentIn ?_
    refine wp_iload_n (v := v2) rfl ?_
    refine wp_bipush (by decide) ?_
    refine wp_icmp_gt (fun c10 => ?_) (fun c10 => ?_)
    · rw [if_pos c10] at h
      exact hk v2  M sM h
    · rw [if_neg c10] at h
      refine wp_aload_n (v := ((138 : Nat) : Int)) rfl (Int.natCast_nonneg _) ?_
      refine wp_iload_n (v := v1) rfl ?_
      obtain ⟨x11, e12, h⟩ := d_bind h
      refine y_callV (as := [(0, v1)]) (S1 := []) (Nat.le_of_ble_eq_true rfl) (by omega) (t_X13_isSilent sM e12) (Nat.le_of_ble_eq_true rfl) rfl (show ash 138 = (13, 38) from rfl) (Nat.lt_of_lt_of_le (show 138 < 154 by decide) hS.1.1) (Nat.le_of_ble_eq_true rfl) (Nat.le_of_ble_eq_true rfl) rfl ?_
      refine wp_if_eq (fun c13 => ?_) (fun c13 => ?_)
      · rw [if_pos c13] at h
        refine y_blk (t := 45) rfl (show fnd bk_X13_silentIn 45 = some _ from rfl) aB_X13_silentIn ?_
        refine wp_aload_n (v := ((138 : Nat) : Int)) rfl (Int.natCast_nonneg _) ?_
        obtain ⟨x14, e15, h⟩ := d_bind h
        obtain ⟨r16, s17⟩ := t_X13_aYear sM e15
        refine y_callV (as := []) (S1 := []) (Nat.le_of_ble_eq_true rfl) (by omega) r16 (Nat.le_of_ble_eq_true rfl) rfl (show ash 138 = (13, 38) from rfl) (Nat.lt_of_lt_of_le (show 138 < 154 by decide) hS.1.1) (Nat.le_of_ble_eq_true rfl) (Nat.le_of_ble_eq_true rfl) rfl ?_
        refine wp_pop (Or.inl rfl) ?_
        obtain ⟨c18, h⟩ := d_ite h
        refine y_iinc (L1 := [(2, ((138 : Nat) : Int)), (0, v1), (0, (v2 + 1))]) rfl (Nat.le_of_ble_eq_true rfl) ⟨by decide, by decide⟩ c18 rfl ?_
        refine wp_goto ?_
        exact ih (v2 + 1)  x14.2 s17 h
      · rw [if_neg c13] at h
        refine wp_aload_n (v := ((138 : Nat) : Int)) rfl (Int.natCast_nonneg _) ?_
        refine wp_iload_n (v := v2) rfl ?_
        obtain ⟨x19, e20, h⟩ := d_bind h
        obtain ⟨r21, s22⟩ := t_X13_good sM e20
        refine y_callV (as := [(0, v2)]) (S1 := []) (Nat.le_of_ble_eq_true rfl) (by omega) r21 (Nat.le_of_ble_eq_true rfl) rfl (show ash 138 = (13, 38) from rfl) (Nat.lt_of_lt_of_le (show 138 < 154 by decide) hS.1.1) (Nat.le_of_ble_eq_true rfl) (Nat.le_of_ble_eq_true rfl) rfl ?_
        cases h
        exact y_ret0 (Or.inl rfl) ⟨rfl, rfl, s22⟩
def f_X13_silentIn (T : Nat) (v1 : Int) (M : aM) : Option (Int × aM) :=
 (some (aup M 138 0 0)).bind fun m1 =>
 (f_X13_isVoice T v1 m1).bind fun x3 =>
 if x3 = 0 then
 (f_X13_refused T 1 m1).bind fun x30 =>
 some (x30.1, x30.2) else
 (f_X13_works T m1).bind fun x6 =>
 l_X13_silentIn_25 T v1 (fun w23 m24 =>
 (f_X13_good T (-2) m24).bind fun x26 =>
 some (x26.1, x26.2)) FU 0 x6.2
theorem t_X13_silentIn {T : T3} {v1 : Int} {M : aM} {y : (Int × aM)}  (hS : Sh T.1 M) (h : f_X13_silentIn T.1 v1 M = some y) : Mr 5 273 [(2, ((138 : Nat) : Int)), (0, v1)] M (some (0, y.1)) y.2 T ∧ Sh T.1 y.2 := by
  have key : ∀ d, 5 ≤ d → Wp d 273 0 [] [(2, ((138 : Nat) : Int)), (0, v1), (9, 0)] [] (M, T) (fun r2 σ2 => r2 = some (0, y.1) ∧ σ2 = (y.2, T) ∧ Sh T.1 y.2) := by
    intro d hd
    rw [f_X13_silentIn] at h
    refine y_blk (t := 0) rfl (show fnd bk_X13_silentIn 0 = some _ from rfl) aB_X13_silentIn ?_
    refine wp_aload_n (v := ((138 : Nat) : Int)) rfl (Int.natCast_nonneg _) ?_
    refine wp_iconst ⟨by decide, by decide⟩ ?_
    refine y_put (show ash 138 = (13, 38) from rfl) (Nat.lt_of_lt_of_le (show 138 < 154 by decide) hS.1.1) rfl ?_
    obtain ⟨m1, em1, h⟩ := d_bind h
    have em1 := Option.some.inj em1
    have s2 : Sh T.1 m1 := em1 ▸ hS.up (Or.inr ⟨by rw [(show ash 138 = (13, 38) from rfl)]; decide, by rw [(show ash 138 = (13, 38) from rfl)]; decide⟩) (by have := (Nat.lt_of_lt_of_le (show 138 < 154 by decide) hS.1.1); have := hS.1.2; omega)
    rw [em1]
    refine wp_aload_n (v := ((138 : Nat) : Int)) rfl (Int.natCast_nonneg _) ?_
    refine wp_iload_n (v := v1) rfl ?_
    obtain ⟨x3, e4, h⟩ := d_bind h
    refine y_callV (as := [(0, v1)]) (S1 := []) (Nat.le_of_ble_eq_true rfl) (by omega) (t_X13_isVoice s2 e4) (Nat.le_of_ble_eq_true rfl) rfl (show ash 138 = (13, 38) from rfl) (Nat.lt_of_lt_of_le (show 138 < 154 by decide) hS.1.1) (Nat.le_of_ble_eq_true rfl) (Nat.le_of_ble_eq_true rfl) rfl ?_
    refine y_nez (fun c5 => ?_) (fun c5 => ?_)
    · rw [if_neg c5] at h
      refine y_blk (t := 19) rfl (show fnd bk_X13_silentIn 19 = some _ from rfl) aB_X13_silentIn ?_
      refine wp_aload_n (v := ((138 : Nat) : Int)) rfl (Int.natCast_nonneg _) ?_
      obtain ⟨x6, e7, h⟩ := d_bind h
      obtain ⟨r8, s9⟩ := t_X13_works s2 e7
      refine y_callVv (as := []) (S1 := []) (Nat.le_of_ble_eq_true rfl) (by omega) r8 rfl (show ash 138 = (13, 38) from rfl) (Nat.lt_of_lt_of_le (show 138 < 154 by decide) hS.1.1) (Nat.le_of_ble_eq_true rfl) (Nat.le_of_ble_eq_true rfl) rfl ?_
      refine wp_iconst ⟨by decide, by decide⟩ ?_
      refine y_stn (L1 := [(2, ((138 : Nat) : Int)), (0, v1), (0, 0)]) (Nat.le_of_ble_eq_true rfl) rfl ?_
      refine tl_X13_silentIn_25 (by omega) hS (fun w23  m24 s25 h => ?_) FU 0  x6.2 s9 h
      refine y_blk (t := 56) rfl (show fnd bk_X13_silentIn 56 = some _ from rfl) aB_X13_silentIn ?_
      refine wp_aload_n (v := ((138 : Nat) : Int)) rfl (Int.natCast_nonneg _) ?_
      refine wp_bipush (by decide) ?_
      obtain ⟨x26, e27, h⟩ := d_bind h
      obtain ⟨r28, s29⟩ := t_X13_good s25 e27
      refine y_callV (as := [(0, (-2))]) (S1 := []) (Nat.le_of_ble_eq_true rfl) (by omega) r28 (Nat.le_of_ble_eq_true rfl) rfl (show ash 138 = (13, 38) from rfl) (Nat.lt_of_lt_of_le (show 138 < 154 by decide) hS.1.1) (Nat.le_of_ble_eq_true rfl) (Nat.le_of_ble_eq_true rfl) rfl ?_
      cases h
      exact y_ret0 (Or.inl rfl) ⟨rfl, rfl, s29⟩
    · rw [if_pos c5] at h
      refine wp_aload_n (v := ((138 : Nat) : Int)) rfl (Int.natCast_nonneg _) ?_
      refine wp_iconst ⟨by decide, by decide⟩ ?_
      obtain ⟨x30, e31, h⟩ := d_bind h
      obtain ⟨r32, s33⟩ := t_X13_refused s2 e31
      refine y_callV (as := [(0, 1)]) (S1 := []) (Nat.le_of_ble_eq_true rfl) (by omega) r32 (Nat.le_of_ble_eq_true rfl) rfl (show ash 138 = (13, 38) from rfl) (Nat.lt_of_lt_of_le (show 138 < 154 by decide) hS.1.1) (Nat.le_of_ble_eq_true rfl) (Nat.le_of_ble_eq_true rfl) rfl ?_
      cases h
      exact y_ret0 (Or.inl rfl) ⟨rfl, rfl, s33⟩
  exact ⟨fun d hd => Ms.of3 (key d hd), Ms.sh (key 5 (Nat.le_refl _))⟩
theorem aB_X13_comesAgain : ∀ pc, aB 274 pc = fnd bk_X13_comesAgain pc := fun _ => rfl
def l_X13_comesAgain_2 (T : Nat) (v2 : Int) (M : aM) (k : Int → Option Int) : Nat → Int → Option Int
| 0, _ => none
| n + 1, v3 =>
 if 144 ≤ v3 then
 k v3 else
 if 0 ≤ v3 ∧ v3 < 288 then
 if aIn (v3 + v2) then
 if 0 ≤ (v3 + v2) ∧ (v3 + v2) < 288 then
 if (M 146 (v3).toNat) = (M 146 ((v3 + v2)).toNat) then
 if aIn (v3 + 1) then
 l_X13_comesAgain_2 T v2 M k n (v3 + 1) else none else
 some 0 else none else none else none
theorem tl_X13_comesAgain_2 {d : Nat} (hd : 0 ≤ d) {T : T3} {v2 : Int} {M : aM} {k : Int → Option Int} {y : Int}  (hS : Sh T.1 M)
    (hk : ∀ (v3 : Int) (u1 : aV), Sh T.1 M → k v3 = some y → Wp d 274 34 [] [(2, ((138 : Nat) : Int)), u1, (0, v2), (0, v3)] [] (M, T) (fun r2 σ2 => r2 = some (0, y) ∧ σ2 = (M, T))) :
    ∀ (n : Nat) (v3 : Int) (u1 : aV), Sh T.1 M → l_X13_comesAgain_2 T.1 v2 M k n v3 = some y → Wp d 274 2 [] [(2, ((138 : Nat) : Int)), u1, (0, v2), (0, v3)] [] (M, T) (fun r2 σ2 => r2 = some (0, y) ∧ σ2 = (M, T)) := by
  intro n
  induction n with
  | zero =>
    intro v3 u1 _ h
    exact nomatch (show (none : Option Int) = some y from h)
  | succ n ih =>
    intro v3 u1 sM h
    rw [l_X13_comesAgain_2] at h
    refine y_blk (t := 2) rfl (show fnd bk_X13_comesAgain 2 = some _ from rfl) aB_X13_comesAgain ?_
    refine wp_iload_n (v := v3) rfl ?_
    refine wp_sipush (by decide) ?_
    refine wp_icmp_ge (fun c1 => ?_) (fun c1 => ?_)
    · rw [if_pos c1] at h
      exact hk v3 u1  sM h
    · rw [if_neg c1] at h
      refine wp_aload_n (v := ((138 : Nat) : Int)) rfl (Int.natCast_nonneg _) ?_
      refine y_get (show ash 138 = (13, 38) from rfl) (Nat.lt_of_lt_of_le (show 138 < 154 by decide) hS.1.1) (v := ((146 : Nat) : Int)) (sM.at 138 24 146 (by decide +kernel)) rfl ?_
      refine wp_iload_n (v := v3) rfl ?_
      obtain ⟨c2, h⟩ := d_ite h
      refine y_iald (show ash 146 = (100, 288) from rfl) (Or.inl (Nat.lt_of_lt_of_le (show 146 < 154 by decide) hS.1.1)) (Nat.ne_of_lt (Nat.lt_of_lt_of_le (Nat.lt_of_lt_of_le (show 146 < 154 by decide) hS.1.1) hS.1.2)) c2 (v := M 146 (v3).toNat) rfl ?_
      refine wp_aload_n (v := ((138 : Nat) : Int)) rfl (Int.natCast_nonneg _) ?_
      refine y_get (show ash 138 = (13, 38) from rfl) (Nat.lt_of_lt_of_le (show 138 < 154 by decide) hS.1.1) (v := ((146 : Nat) : Int)) (sM.at 138 24 146 (by decide +kernel)) rfl ?_
      refine wp_iload_n (v := v3) rfl ?_
      refine wp_iload_n (v := v2) rfl ?_
      obtain ⟨c3, h⟩ := d_ite h
      refine wp_iadd c3 ?_
      obtain ⟨c4, h⟩ := d_ite h
      refine y_iald (show ash 146 = (100, 288) from rfl) (Or.inl (Nat.lt_of_lt_of_le (show 146 < 154 by decide) hS.1.1)) (Nat.ne_of_lt (Nat.lt_of_lt_of_le (Nat.lt_of_lt_of_le (show 146 < 154 by decide) hS.1.1) hS.1.2)) c4 (v := M 146 ((v3 + v2)).toNat) rfl ?_
      refine wp_icmp_eq (fun c5 => ?_) (fun c5 => ?_)
      · rw [if_pos c5] at h
        refine y_blk (t := 28) rfl (show fnd bk_X13_comesAgain 28 = some _ from rfl) aB_X13_comesAgain ?_
        obtain ⟨c6, h⟩ := d_ite h
        refine y_iinc (L1 := [(2, ((138 : Nat) : Int)), u1, (0, v2), (0, (v3 + 1))]) rfl (Nat.le_of_ble_eq_true rfl) ⟨by decide, by decide⟩ c6 rfl ?_
        refine wp_goto ?_
        exact ih (v3 + 1) u1  sM h
      · rw [if_neg c5] at h
        refine wp_iconst ⟨by decide, by decide⟩ ?_
        cases h
        exact y_ret0 (Or.inr (Or.inl rfl)) ⟨rfl, rfl⟩
def f_X13_comesAgain (T : Nat) (v1 : Int) (v2 : Int) (M : aM) : Option Int :=
 l_X13_comesAgain_2 T v2 M (fun w7 =>
 some 1) FU v1
theorem t_X13_comesAgain {T : T3} {v1 : Int} {v2 : Int} {M : aM} {y : Int}  (hS : Sh T.1 M) (h : f_X13_comesAgain T.1 v1 v2 M = some y) : Mr 0 274 [(2, ((138 : Nat) : Int)), (0, v1), (0, v2)] M (some (0, y)) M T := by
  have key : ∀ d, 0 ≤ d → Wp d 274 0 [] [(2, ((138 : Nat) : Int)), (0, v1), (0, v2), (9, 0)] [] (M, T) (fun r2 σ2 => r2 = some (0, y) ∧ σ2 = (M, T)) := by
    intro d hd
    rw [f_X13_comesAgain] at h
    refine y_blk (t := 0) rfl (show fnd bk_X13_comesAgain 0 = some _ from rfl) aB_X13_comesAgain ?_
    refine wp_iload_n (v := v1) rfl ?_
    refine y_stn (L1 := [(2, ((138 : Nat) : Int)), (0, v1), (0, v2), (0, v1)]) (Nat.le_of_ble_eq_true rfl) rfl ?_
    refine tl_X13_comesAgain_2 (by omega) hS (fun w7 u8  s9 h => ?_) FU v1 (0, v1)  hS h
    refine y_blk (t := 34) rfl (show fnd bk_X13_comesAgain 34 = some _ from rfl) aB_X13_comesAgain ?_
    refine wp_iconst ⟨by decide, by decide⟩ ?_
    cases h
    exact y_ret0 (Or.inr (Or.inr rfl)) ⟨rfl, rfl⟩
  exact fun d hd => Ms.of (key d hd)

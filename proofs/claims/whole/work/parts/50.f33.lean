/-! ===== methods as functions ===== -/
theorem aB_X13_likeliest : ∀ pc, aB 290 pc = fnd bk_X13_likeliest pc := fun _ => rfl
def l_X13_likeliest_38 (T : Nat)  (M : aM) (k : Int → Int → Int → Option (Int × aM)) : Nat → Int → Int → Int → Option (Int × aM)
| 0, _, _, _ => none
| n + 1, v1, v2, v4 =>
 if okW T (M 138 3) then
 if (M (M 138 3).toNat 3) ≤ v4 then
 k v1 v2 v4 else
 (f_X13_weightOf T v4 M).bind fun x11 =>
 if 0 < (alcmp x11 v2) then
 (f_X13_weightOf T v4 M).bind fun x14 =>
 if aIn (v4 + 1) then
 l_X13_likeliest_38 T M k n v4 x14 (v4 + 1) else none else
 if aIn (v4 + 1) then
 l_X13_likeliest_38 T M k n v1 v2 (v4 + 1) else none else none
theorem tl_X13_likeliest_38 {d : Nat} (hd : 3 ≤ d) {T : T3}  {M : aM} {k : Int → Int → Int → Option (Int × aM)} {y : (Int × aM)}  (hS : Sh T.1 M)
    (hk : ∀ (v1 v2 v4 : Int), Sh T.1 M → k v1 v2 v4 = some y → Wp d 290 80 [] [(2, ((138 : Nat) : Int)), (0, v1), (1, v2), (9, 0), (0, v4)] [] (M, T) (fun r2 σ2 => r2 = some (0, y.1) ∧ σ2 = (y.2, T) ∧ Sh T.1 y.2)) :
    ∀ (n : Nat) (v1 v2 v4 : Int), Sh T.1 M → l_X13_likeliest_38 T.1 M k n v1 v2 v4 = some y → Wp d 290 38 [] [(2, ((138 : Nat) : Int)), (0, v1), (1, v2), (9, 0), (0, v4)] [] (M, T) (fun r2 σ2 => r2 = some (0, y.1) ∧ σ2 = (y.2, T) ∧ Sh T.1 y.2) := by
  intro n
  induction n with
  | zero =>
    intro v1 v2 v4 _ h
    exact nomatch (show (none : Option (Int × aM)) = some y from h)
  | succ n ih =>
    intro v1 v2 v4 sM h
    rw [l_X13_likeliest_38] at h
    refine y_blk (t := 38) rfl (show fnd bk_X13_likeliest 38 = some _ from rfl) aB_X13_likeliest ?_
    refine wp_iload (v := v4) rfl ?_
    refine wp_aload_n (v := ((138 : Nat) : Int)) rfl (Int.natCast_nonneg _) ?_
    obtain ⟨c9, h⟩ := d_ite h
    refine y_get (show ash 138 = (13, 38) from rfl) (Nat.lt_of_lt_of_le (show 138 < 154 by decide) hS.1.1) (v := (((M 138 3).toNat : Nat) : Int)) c9.eq rfl ?_
    refine y_get (aW0 hS.1.2 c9.is) (ltW c9.is 0 (by decide)) (v := M (M 138 3).toNat 3) rfl rfl ?_
    refine wp_icmp_ge (fun c10 => ?_) (fun c10 => ?_)
    · rw [if_pos c10] at h
      exact hk v1 v2 v4   sM h
    · rw [if_neg c10] at h
      refine wp_aload_n (v := ((138 : Nat) : Int)) rfl (Int.natCast_nonneg _) ?_
      refine wp_iload (v := v4) rfl ?_
      obtain ⟨x11, e12, h⟩ := d_bind h
      refine y_callV (as := [(0, v4)]) (S1 := []) (Nat.le_of_ble_eq_true rfl) (by omega) (t_X13_weightOf sM e12) (Nat.le_of_ble_eq_true rfl) rfl (show ash 138 = (13, 38) from rfl) (Nat.lt_of_lt_of_le (show 138 < 154 by decide) hS.1.1) (Nat.le_of_ble_eq_true rfl) (Nat.le_of_ble_eq_true rfl) rfl ?_
      refine wp_lload_n (v := v2) rfl ?_
      refine wp_lcmp ?_
      refine wp_if_gt (fun c13 => ?_) (fun c13 => ?_)
      · rw [if_pos c13] at h
        refine y_blk (t := 64) rfl (show fnd bk_X13_likeliest 64 = some _ from rfl) aB_X13_likeliest ?_
        refine wp_aload_n (v := ((138 : Nat) : Int)) rfl (Int.natCast_nonneg _) ?_
        refine wp_iload (v := v4) rfl ?_
        obtain ⟨x14, e15, h⟩ := d_bind h
        refine y_callV (as := [(0, v4)]) (S1 := []) (Nat.le_of_ble_eq_true rfl) (by omega) (t_X13_weightOf sM e15) (Nat.le_of_ble_eq_true rfl) rfl (show ash 138 = (13, 38) from rfl) (Nat.lt_of_lt_of_le (show 138 < 154 by decide) hS.1.1) (Nat.le_of_ble_eq_true rfl) (Nat.le_of_ble_eq_true rfl) rfl ?_
        refine y_lstn (L1 := [(2, ((138 : Nat) : Int)), (0, v1), (1, x14), (9, 0), (0, v4)]) (Nat.le_of_ble_eq_true rfl) rfl ?_
        refine wp_iload (v := v4) rfl ?_
        refine y_stn (L1 := [(2, ((138 : Nat) : Int)), (0, v4), (1, x14), (9, 0), (0, v4)]) (Nat.le_of_ble_eq_true rfl) rfl ?_
        refine y_blk (t := 74) rfl (show fnd bk_X13_likeliest 74 = some _ from rfl) aB_X13_likeliest ?_
        obtain ⟨c16, h⟩ := d_ite h
        refine y_iinc (L1 := [(2, ((138 : Nat) : Int)), (0, v4), (1, x14), (9, 0), (0, (v4 + 1))]) rfl (Nat.le_of_ble_eq_true rfl) ⟨by decide, by decide⟩ c16 rfl ?_
        refine wp_goto ?_
        exact ih v4 x14 (v4 + 1)   sM h
      · rw [if_neg c13] at h
        refine wp_goto ?_
        refine y_blk (t := 74) rfl (show fnd bk_X13_likeliest 74 = some _ from rfl) aB_X13_likeliest ?_
        obtain ⟨c17, h⟩ := d_ite h
        refine y_iinc (L1 := [(2, ((138 : Nat) : Int)), (0, v1), (1, v2), (9, 0), (0, (v4 + 1))]) rfl (Nat.le_of_ble_eq_true rfl) ⟨by decide, by decide⟩ c17 rfl ?_
        refine wp_goto ?_
        exact ih v1 v2 (v4 + 1)   sM h
def f_X13_likeliest (T : Nat)  (M : aM) : Option (Int × aM) :=
 (some (aup M 138 0 0)).bind fun m1 =>
 if m1 138 3 < 0 then
 (f_X13_refused T 1 m1).bind fun x26 =>
 some (x26.1, x26.2) else
 if okW T (m1 138 3) then
 (f_X13_lays T (m1 (m1 138 3).toNat 6) (-1) m1).bind fun x5 =>
 l_X13_likeliest_38 T x5.2 (fun w18 w19 w20 =>
 (f_X13_good T w18 x5.2).bind fun x22 =>
 some (x22.1, x22.2)) FU (-2) 0 0 else none
theorem t_X13_likeliest {T : T3}  {M : aM} {y : (Int × aM)}  (hS : Sh T.1 M) (h : f_X13_likeliest T.1  M = some y) : Mr 3 290 [(2, ((138 : Nat) : Int))] M (some (0, y.1)) y.2 T ∧ Sh T.1 y.2 := by
  have key : ∀ d, 3 ≤ d → Wp d 290 0 [] [(2, ((138 : Nat) : Int)), (9, 0), (9, 0), (9, 0), (9, 0)] [] (M, T) (fun r2 σ2 => r2 = some (0, y.1) ∧ σ2 = (y.2, T) ∧ Sh T.1 y.2) := by
    intro d hd
    rw [f_X13_likeliest] at h
    refine y_blk (t := 0) rfl (show fnd bk_X13_likeliest 0 = some _ from rfl) aB_X13_likeliest ?_
    refine wp_aload_n (v := ((138 : Nat) : Int)) rfl (Int.natCast_nonneg _) ?_
    refine wp_iconst ⟨by decide, by decide⟩ ?_
    refine y_put (show ash 138 = (13, 38) from rfl) (Nat.lt_of_lt_of_le (show 138 < 154 by decide) hS.1.1) rfl ?_
    obtain ⟨m1, em1, h⟩ := d_bind h
    have em1 := Option.some.inj em1
    have s2 : Sh T.1 m1 := em1 ▸ hS.up (Or.inr ⟨by rw [(show ash 138 = (13, 38) from rfl)]; decide, by rw [(show ash 138 = (13, 38) from rfl)]; decide⟩) (by have := (Nat.lt_of_lt_of_le (show 138 < 154 by decide) hS.1.1); have := hS.1.2; omega)
    rw [em1]
    refine wp_aload_n (v := ((138 : Nat) : Int)) rfl (Int.natCast_nonneg _) ?_
    refine y_get (show ash 138 = (13, 38) from rfl) (Nat.lt_of_lt_of_le (show 138 < 154 by decide) hS.1.1) (v := m1 138 3) rfl rfl ?_
    refine wp_ifnonnull (fun c3 => ?_) (fun c3 => ?_)
    · rw [if_neg c3] at h
      refine y_blk (t := 18) rfl (show fnd bk_X13_likeliest 18 = some _ from rfl) aB_X13_likeliest ?_
      refine wp_aload_n (v := ((138 : Nat) : Int)) rfl (Int.natCast_nonneg _) ?_
      refine wp_aload_n (v := ((138 : Nat) : Int)) rfl (Int.natCast_nonneg _) ?_
      obtain ⟨c4, h⟩ := d_ite h
      refine y_get (show ash 138 = (13, 38) from rfl) (Nat.lt_of_lt_of_le (show 138 < 154 by decide) hS.1.1) (v := (((m1 138 3).toNat : Nat) : Int)) c4.eq rfl ?_
      refine y_get (aW0 hS.1.2 c4.is) (ltW c4.is 0 (by decide)) (v := m1 (m1 138 3).toNat 6) rfl rfl ?_
      refine wp_iconst ⟨by decide, by decide⟩ ?_
      obtain ⟨x5, e6, h⟩ := d_bind h
      obtain ⟨r7, s8⟩ := t_X13_lays s2 e6
      refine y_callVv (as := [(0, (m1 (m1 138 3).toNat 6)), (0, (-1))]) (S1 := []) (Nat.le_of_ble_eq_true rfl) (by omega) r7 rfl (show ash 138 = (13, 38) from rfl) (Nat.lt_of_lt_of_le (show 138 < 154 by decide) hS.1.1) (Nat.le_of_ble_eq_true rfl) (Nat.le_of_ble_eq_true rfl) rfl ?_
      refine wp_bipush (by decide) ?_
      refine y_stn (L1 := [(2, ((138 : Nat) : Int)), (0, (-2)), (9, 0), (9, 0), (9, 0)]) (Nat.le_of_ble_eq_true rfl) rfl ?_
      refine y_lconst (v := 0) rfl ?_
      refine y_lstn (L1 := [(2, ((138 : Nat) : Int)), (0, (-2)), (1, 0), (9, 0), (9, 0)]) (Nat.le_of_ble_eq_true rfl) rfl ?_
      refine wp_iconst ⟨by decide, by decide⟩ ?_
      refine y_st (L1 := [(2, ((138 : Nat) : Int)), (0, (-2)), (1, 0), (9, 0), (0, 0)]) (Nat.le_of_ble_eq_true rfl) rfl ?_
      refine tl_X13_likeliest_38 (by omega) s8 (fun w18 w19 w20   s21 h => ?_) FU (-2) 0 0   s8 h
      refine y_blk (t := 80) rfl (show fnd bk_X13_likeliest 80 = some _ from rfl) aB_X13_likeliest ?_
      refine wp_aload_n (v := ((138 : Nat) : Int)) rfl (Int.natCast_nonneg _) ?_
      refine wp_iload_n (v := w18) rfl ?_
      obtain ⟨x22, e23, h⟩ := d_bind h
      obtain ⟨r24, s25⟩ := t_X13_good s21 e23
      refine y_callV (as := [(0, w18)]) (S1 := []) (Nat.le_of_ble_eq_true rfl) (by omega) r24 (Nat.le_of_ble_eq_true rfl) rfl (show ash 138 = (13, 38) from rfl) (Nat.lt_of_lt_of_le (show 138 < 154 by decide) hS.1.1) (Nat.le_of_ble_eq_true rfl) (Nat.le_of_ble_eq_true rfl) rfl ?_
      cases h
      exact y_ret0 (Or.inl rfl) ⟨rfl, rfl, s25⟩
    · rw [if_pos c3] at h
      refine wp_aload_n (v := ((138 : Nat) : Int)) rfl (Int.natCast_nonneg _) ?_
      refine wp_iconst ⟨by decide, by decide⟩ ?_
      obtain ⟨x26, e27, h⟩ := d_bind h
      obtain ⟨r28, s29⟩ := t_X13_refused s2 e27
      refine y_callV (as := [(0, 1)]) (S1 := []) (Nat.le_of_ble_eq_true rfl) (by omega) r28 (Nat.le_of_ble_eq_true rfl) rfl (show ash 138 = (13, 38) from rfl) (Nat.lt_of_lt_of_le (show 138 < 154 by decide) hS.1.1) (Nat.le_of_ble_eq_true rfl) (Nat.le_of_ble_eq_true rfl) rfl ?_
      cases h
      exact y_ret0 (Or.inl rfl) ⟨rfl, rfl, s29⟩
  exact ⟨fun d hd => Ms.of3 (key d hd), Ms.sh (key 3 (Nat.le_refl _))⟩
theorem aB_X13_throwsAt : ∀ pc, aB 291 pc = fnd bk_X13_throwsAt pc := fun _ => rfl
def l_X13_throwsAt_55 (T : Nat) (v1 : Int) (v2 : Int) (v3 : Int) (v4 : Int) (v5 : Int) (M : aM) (k : Int → Int → Option (Int × aM)) : Nat → Int → Int → Option (Int × aM)
| 0, _, _ => none
| n + 1, v6, v7 =>
 if okW T (M 138 3) then
 if (M (M 138 3).toNat 3) ≤ v7 then
 k v6 v7 else
 (f_X13_bit T v1 v5 M).bind fun x14 =>
 if x14 = 0 then
 if aIn (v6 + 0) then
 if aIn (v7 + 1) then
 l_X13_throwsAt_55 T v1 v2 v3 v4 v5 M k n (v6 + 0) (v7 + 1) else none else none else
 (f_X13_bit T v1 v7 M).bind fun x19 =>
 if x19 = 0 then
 if aIn (v6 + 0) then
 if aIn (v7 + 1) then
 l_X13_throwsAt_55 T v1 v2 v3 v4 v5 M k n (v6 + 0) (v7 + 1) else none else none else
 (f_X13_apart T v3 v5 M).bind fun x24 =>
 (f_X13_told T x24 M).bind fun x26 =>
 (f_X13_apart T v3 v7 M).bind fun x28 =>
 (f_X13_told T x28 M).bind fun x30 =>
 if x26 = x30 then
 if aIn (v6 + 1) then
 if aIn (v7 + 1) then
 l_X13_throwsAt_55 T v1 v2 v3 v4 v5 M k n (v6 + 1) (v7 + 1) else none else none else
 if aIn (v6 + 0) then
 if aIn (v7 + 1) then
 l_X13_throwsAt_55 T v1 v2 v3 v4 v5 M k n (v6 + 0) (v7 + 1) else none else none else none
theorem tl_X13_throwsAt_55 {d : Nat} (hd : 4 ≤ d) {T : T3} {v1 : Int} {v2 : Int} {v3 : Int} {v4 : Int} {v5 : Int} {M : aM} {k : Int → Int → Option (Int × aM)} {y : (Int × aM)}  (hS : Sh T.1 M)
    (hk : ∀ (v6 v7 : Int), Sh T.1 M → k v6 v7 = some y → Wp d 291 126 [] [(2, ((138 : Nat) : Int)), (0, v1), (0, v2), (0, v3), (0, v4), (0, v5), (0, v6), (0, v7)] [] (M, T) (fun r2 σ2 => r2 = some (0, y.1) ∧ σ2 = (y.2, T) ∧ Sh T.1 y.2)) :
    ∀ (n : Nat) (v6 v7 : Int), Sh T.1 M → l_X13_throwsAt_55 T.1 v1 v2 v3 v4 v5 M k n v6 v7 = some y → Wp d 291 55 [] [(2, ((138 : Nat) : Int)), (0, v1), (0, v2), (0, v3), (0, v4), (0, v5), (0, v6), (0, v7)] [] (M, T) (fun r2 σ2 => r2 = some (0, y.1) ∧ σ2 = (y.2, T) ∧ Sh T.1 y.2) := by
  intro n
  induction n with
  | zero =>
    intro v6 v7 _ h
    exact nomatch (show (none : Option (Int × aM)) = some y from h)
  | succ n ih =>
    intro v6 v7 sM h
    rw [l_X13_throwsAt_55] at h
    refine y_blk (t := 55) rfl (show fnd bk_X13_throwsAt 55 = some _ from rfl) aB_X13_throwsAt ?_
    refine wp_iload (v := v7) rfl ?_
    refine wp_aload_n (v := ((138 : Nat) : Int)) rfl (Int.natCast_nonneg _) ?_
    obtain ⟨c12, h⟩ := d_ite h
    refine y_get (show ash 138 = (13, 38) from rfl) (Nat.lt_of_lt_of_le (show 138 < 154 by decide) hS.1.1) (v := (((M 138 3).toNat : Nat) : Int)) c12.eq rfl ?_
    refine y_get (aW0 hS.1.2 c12.is) (ltW c12.is 0 (by decide)) (v := M (M 138 3).toNat 3) rfl rfl ?_
    refine wp_icmp_ge (fun c13 => ?_) (fun c13 => ?_)
    · rw [if_pos c13] at h
      exact hk v6 v7   sM h
    · rw [if_neg c13] at h
      refine wp_iload (v := v6) rfl ?_
      refine wp_iload_n (v := v1) rfl ?_
      refine wp_iload (v := v5) rfl ?_
      obtain ⟨x14, e15, h⟩ := d_bind h
      refine y_callS (as := [(0, v1), (0, v5)]) (S1 := [(0, v6)]) (Nat.le_of_ble_eq_true rfl) (by omega) (t_X13_bit sM e15) (Nat.le_of_ble_eq_true rfl) rfl (Nat.le_of_ble_eq_true rfl) (Nat.le_of_ble_eq_true rfl) rfl ?_
      refine wp_if_eq (fun c16 => ?_) (fun c16 => ?_)
      · rw [if_pos c16] at h
        refine y_blk (t := 116) rfl (show fnd bk_X13_throwsAt 116 = some _ from rfl) aB_X13_throwsAt ?_
        refine wp_iconst ⟨by decide, by decide⟩ ?_
        refine y_blk (t := 117) rfl (show fnd bk_X13_throwsAt 117 = some _ from rfl) aB_X13_throwsAt ?_
        obtain ⟨c17, h⟩ := d_ite h
        refine wp_iadd c17 ?_
        refine y_st (L1 := [(2, ((138 : Nat) : Int)), (0, v1), (0, v2), (0, v3), (0, v4), (0, v5), (0, (v6 + 0)), (0, v7)]) (Nat.le_of_ble_eq_true rfl) rfl ?_
        obtain ⟨c18, h⟩ := d_ite h
        refine y_iinc (L1 := [(2, ((138 : Nat) : Int)), (0, v1), (0, v2), (0, v3), (0, v4), (0, v5), (0, (v6 + 0)), (0, (v7 + 1))]) rfl (Nat.le_of_ble_eq_true rfl) ⟨by decide, by decide⟩ c18 rfl ?_
        refine wp_goto ?_
        exact ih (v6 + 0) (v7 + 1)   sM h
      · rw [if_neg c16] at h
        refine wp_iload_n (v := v1) rfl ?_
        refine wp_iload (v := v7) rfl ?_
        obtain ⟨x19, e20, h⟩ := d_bind h
        refine y_callS (as := [(0, v1), (0, v7)]) (S1 := [(0, v6)]) (Nat.le_of_ble_eq_true rfl) (by omega) (t_X13_bit sM e20) (Nat.le_of_ble_eq_true rfl) rfl (Nat.le_of_ble_eq_true rfl) (Nat.le_of_ble_eq_true rfl) rfl ?_
        refine wp_if_eq (fun c21 => ?_) (fun c21 => ?_)
        · rw [if_pos c21] at h
          refine y_blk (t := 116) rfl (show fnd bk_X13_throwsAt 116 = some _ from rfl) aB_X13_throwsAt ?_
          refine wp_iconst ⟨by decide, by decide⟩ ?_
          refine y_blk (t := 117) rfl (show fnd bk_X13_throwsAt 117 = some _ from rfl) aB_X13_throwsAt ?_
          obtain ⟨c22, h⟩ := d_ite h
          refine wp_iadd c22 ?_
          refine y_st (L1 := [(2, ((138 : Nat) : Int)), (0, v1), (0, v2), (0, v3), (0, v4), (0, v5), (0, (v6 + 0)), (0, v7)]) (Nat.le_of_ble_eq_true rfl) rfl ?_
          obtain ⟨c23, h⟩ := d_ite h
          refine y_iinc (L1 := [(2, ((138 : Nat) : Int)), (0, v1), (0, v2), (0, v3), (0, v4), (0, v5), (0, (v6 + 0)), (0, (v7 + 1))]) rfl (Nat.le_of_ble_eq_true rfl) ⟨by decide, by decide⟩ c23 rfl ?_
          refine wp_goto ?_
          exact ih (v6 + 0) (v7 + 1)   sM h
        · rw [if_neg c21] at h
          refine wp_aload_n (v := ((138 : Nat) : Int)) rfl (Int.natCast_nonneg _) ?_
          refine wp_aload_n (v := ((138 : Nat) : Int)) rfl (Int.natCast_nonneg _) ?_
          refine wp_iload_n (v := v3) rfl ?_
          refine wp_iload (v := v5) rfl ?_
          obtain ⟨x24, e25, h⟩ := d_bind h
          refine y_callV (as := [(0, v3), (0, v5)]) (S1 := [(2, ((138 : Nat) : Int)), (0, v6)]) (Nat.le_of_ble_eq_true rfl) (by omega) (t_X13_apart sM e25) (Nat.le_of_ble_eq_true rfl) rfl (show ash 138 = (13, 38) from rfl) (Nat.lt_of_lt_of_le (show 138 < 154 by decide) hS.1.1) (Nat.le_of_ble_eq_true rfl) (Nat.le_of_ble_eq_true rfl) rfl ?_
          obtain ⟨x26, e27, h⟩ := d_bind h
          refine y_callV (as := [(0, x24)]) (S1 := [(0, v6)]) (Nat.le_of_ble_eq_true rfl) (by omega) (t_X13_told sM e27) (Nat.le_of_ble_eq_true rfl) rfl (show ash 138 = (13, 38) from rfl) (Nat.lt_of_lt_of_le (show 138 < 154 by decide) hS.1.1) (Nat.le_of_ble_eq_true rfl) (Nat.le_of_ble_eq_true rfl) rfl ?_
          refine wp_aload_n (v := ((138 : Nat) : Int)) rfl (Int.natCast_nonneg _) ?_
          refine wp_aload_n (v := ((138 : Nat) : Int)) rfl (Int.natCast_nonneg _) ?_
          refine wp_iload_n (v := v3) rfl ?_
          refine wp_iload (v := v7) rfl ?_
          obtain ⟨x28, e29, h⟩ := d_bind h
          refine y_callV (as := [(0, v3), (0, v7)]) (S1 := [(2, ((138 : Nat) : Int)), (0, x26), (0, v6)]) (Nat.le_of_ble_eq_true rfl) (by omega) (t_X13_apart sM e29) (Nat.le_of_ble_eq_true rfl) rfl (show ash 138 = (13, 38) from rfl) (Nat.lt_of_lt_of_le (show 138 < 154 by decide) hS.1.1) (Nat.le_of_ble_eq_true rfl) (Nat.le_of_ble_eq_true rfl) rfl ?_
          obtain ⟨x30, e31, h⟩ := d_bind h
          refine y_callV (as := [(0, x28)]) (S1 := [(0, x26), (0, v6)]) (Nat.le_of_ble_eq_true rfl) (by omega) (t_X13_told sM e31) (Nat.le_of_ble_eq_true rfl) rfl (show ash 138 = (13, 38) from rfl) (Nat.lt_of_lt_of_le (show 138 < 154 by decide) hS.1.1) (Nat.le_of_ble_eq_true rfl) (Nat.le_of_ble_eq_true rfl) rfl ?_
          refine y_ne (fun c32 => ?_) (fun c32 => ?_)
          · rw [if_neg c32] at h
            refine y_blk (t := 116) rfl (show fnd bk_X13_throwsAt 116 = some _ from rfl) aB_X13_throwsAt ?_
            refine wp_iconst ⟨by decide, by decide⟩ ?_
            refine y_blk (t := 117) rfl (show fnd bk_X13_throwsAt 117 = some _ from rfl) aB_X13_throwsAt ?_
            obtain ⟨c33, h⟩ := d_ite h
            refine wp_iadd c33 ?_
            refine y_st (L1 := [(2, ((138 : Nat) : Int)), (0, v1), (0, v2), (0, v3), (0, v4), (0, v5), (0, (v6 + 0)), (0, v7)]) (Nat.le_of_ble_eq_true rfl) rfl ?_
            obtain ⟨c34, h⟩ := d_ite h
            refine y_iinc (L1 := [(2, ((138 : Nat) : Int)), (0, v1), (0, v2), (0, v3), (0, v4), (0, v5), (0, (v6 + 0)), (0, (v7 + 1))]) rfl (Nat.le_of_ble_eq_true rfl) ⟨by decide, by decide⟩ c34 rfl ?_
            refine wp_goto ?_
            exact ih (v6 + 0) (v7 + 1)   sM h
          · rw [if_pos c32] at h
            refine wp_iconst ⟨by decide, by decide⟩ ?_
            refine wp_goto ?_
            refine y_blk (t := 117) rfl (show fnd bk_X13_throwsAt 117 = some _ from rfl) aB_X13_throwsAt ?_
            obtain ⟨c35, h⟩ := d_ite h
            refine wp_iadd c35 ?_
            refine y_st (L1 := [(2, ((138 : Nat) : Int)), (0, v1), (0, v2), (0, v3), (0, v4), (0, v5), (0, (v6 + 1)), (0, v7)]) (Nat.le_of_ble_eq_true rfl) rfl ?_
            obtain ⟨c36, h⟩ := d_ite h
            refine y_iinc (L1 := [(2, ((138 : Nat) : Int)), (0, v1), (0, v2), (0, v3), (0, v4), (0, v5), (0, (v6 + 1)), (0, (v7 + 1))]) rfl (Nat.le_of_ble_eq_true rfl) ⟨by decide, by decide⟩ c36 rfl ?_
            refine wp_goto ?_
            exact ih (v6 + 1) (v7 + 1)   sM h
def l_X13_throwsAt_37 (T : Nat) (v1 : Int) (v2 : Int) (v3 : Int) (M : aM) (k : Int → Int → Option (Int × aM)) : Nat → Int → Int → Option (Int × aM)
| 0, _, _ => none
| n + 1, v4, v5 =>
 if okW T (M 138 3) then
 if (M (M 138 3).toNat 3) ≤ v5 then
 k v4 v5 else
 l_X13_throwsAt_55 T v1 v2 v3 v4 v5 M (fun w37 w38 =>
 if w37 ≤ v4 then
 if aIn (v5 + 1) then
 l_X13_throwsAt_37 T v1 v2 v3 M k n v4 (v5 + 1) else none else
 if aIn (v5 + 1) then
 l_X13_throwsAt_37 T v1 v2 v3 M k n w37 (v5 + 1) else none) FU 0 0 else none
theorem tl_X13_throwsAt_37 {d : Nat} (hd : 4 ≤ d) {T : T3} {v1 : Int} {v2 : Int} {v3 : Int} {M : aM} {k : Int → Int → Option (Int × aM)} {y : (Int × aM)}  (hS : Sh T.1 M)
    (hk : ∀ (v4 v5 : Int) (u6 u7 : aV), Sh T.1 M → k v4 v5 = some y → Wp d 291 143 [] [(2, ((138 : Nat) : Int)), (0, v1), (0, v2), (0, v3), (0, v4), (0, v5), u6, u7] [] (M, T) (fun r2 σ2 => r2 = some (0, y.1) ∧ σ2 = (y.2, T) ∧ Sh T.1 y.2)) :
    ∀ (n : Nat) (v4 v5 : Int) (u6 u7 : aV), Sh T.1 M → l_X13_throwsAt_37 T.1 v1 v2 v3 M k n v4 v5 = some y → Wp d 291 37 [] [(2, ((138 : Nat) : Int)), (0, v1), (0, v2), (0, v3), (0, v4), (0, v5), u6, u7] [] (M, T) (fun r2 σ2 => r2 = some (0, y.1) ∧ σ2 = (y.2, T) ∧ Sh T.1 y.2) := by
  intro n
  induction n with
  | zero =>
    intro v4 v5 u6 u7 _ h
    exact nomatch (show (none : Option (Int × aM)) = some y from h)
  | succ n ih =>
    intro v4 v5 u6 u7 sM h
    rw [l_X13_throwsAt_37] at h
    refine y_blk (t := 37) rfl (show fnd bk_X13_throwsAt 37 = some _ from rfl) aB_X13_throwsAt ?_
    refine wp_iload (v := v5) rfl ?_
    refine wp_aload_n (v := ((138 : Nat) : Int)) rfl (Int.natCast_nonneg _) ?_
    obtain ⟨c10, h⟩ := d_ite h
    refine y_get (show ash 138 = (13, 38) from rfl) (Nat.lt_of_lt_of_le (show 138 < 154 by decide) hS.1.1) (v := (((M 138 3).toNat : Nat) : Int)) c10.eq rfl ?_
    refine y_get (aW0 hS.1.2 c10.is) (ltW c10.is 0 (by decide)) (v := M (M 138 3).toNat 3) rfl rfl ?_
    refine wp_icmp_ge (fun c11 => ?_) (fun c11 => ?_)
    · rw [if_pos c11] at h
      exact hk v4 v5 u6 u7  sM h
    · rw [if_neg c11] at h
      refine wp_iconst ⟨by decide, by decide⟩ ?_
      refine y_st (L1 := [(2, ((138 : Nat) : Int)), (0, v1), (0, v2), (0, v3), (0, v4), (0, v5), (0, 0), u7]) (Nat.le_of_ble_eq_true rfl) rfl ?_
      refine wp_iconst ⟨by decide, by decide⟩ ?_
      refine y_st (L1 := [(2, ((138 : Nat) : Int)), (0, v1), (0, v2), (0, v3), (0, v4), (0, v5), (0, 0), (0, 0)]) (Nat.le_of_ble_eq_true rfl) rfl ?_
      refine tl_X13_throwsAt_55 (by omega) sM (fun w37 w38   s39 h => ?_) FU 0 0   sM h
      refine y_blk (t := 126) rfl (show fnd bk_X13_throwsAt 126 = some _ from rfl) aB_X13_throwsAt ?_
      refine wp_iload (v := w37) rfl ?_
      refine wp_iload (v := v4) rfl ?_
      refine wp_icmp_le (fun c40 => ?_) (fun c40 => ?_)
      · rw [if_pos c40] at h
        refine y_blk (t := 137) rfl (show fnd bk_X13_throwsAt 137 = some _ from rfl) aB_X13_throwsAt ?_
        obtain ⟨c41, h⟩ := d_ite h
        refine y_iinc (L1 := [(2, ((138 : Nat) : Int)), (0, v1), (0, v2), (0, v3), (0, v4), (0, (v5 + 1)), (0, w37), (0, w38)]) rfl (Nat.le_of_ble_eq_true rfl) ⟨by decide, by decide⟩ c41 rfl ?_
        refine wp_goto ?_
        exact ih v4 (v5 + 1) (0, w37) (0, w38)  s39 h
      · rw [if_neg c40] at h
        refine wp_iload (v := w37) rfl ?_
        refine y_st (L1 := [(2, ((138 : Nat) : Int)), (0, v1), (0, v2), (0, v3), (0, w37), (0, v5), (0, w37), (0, w38)]) (Nat.le_of_ble_eq_true rfl) rfl ?_
        refine y_blk (t := 137) rfl (show fnd bk_X13_throwsAt 137 = some _ from rfl) aB_X13_throwsAt ?_
        obtain ⟨c42, h⟩ := d_ite h
        refine y_iinc (L1 := [(2, ((138 : Nat) : Int)), (0, v1), (0, v2), (0, v3), (0, w37), (0, (v5 + 1)), (0, w37), (0, w38)]) rfl (Nat.le_of_ble_eq_true rfl) ⟨by decide, by decide⟩ c42 rfl ?_
        refine wp_goto ?_
        exact ih w37 (v5 + 1) (0, w37) (0, w38)  s39 h
def l_X13_throwsAt_16 (T : Nat) (v1 : Int) (k : Int → Int → aM → Option (Int × aM)) : Nat → Int → Int → aM → Option (Int × aM)
| 0, _, _, _ => none
| n + 1, v2, v3, M =>
 if okW T (M 138 3) then
 if (M (M 138 3).toNat 3) ≤ v3 then
 k v2 v3 M else
 if v1 = 0 then
 k v2 v3 M else
 l_X13_throwsAt_37 T v1 v2 v3 M (fun w43 w44 =>
 if v2 = (-2) then
 (some (aup M 138 32 w43)).bind fun m49 =>
 if aIn (v3 + 1) then
 l_X13_throwsAt_16 T v1 k n v3 (v3 + 1) m49 else none else
 if w43 < (M 138 32) then
 (some (aup M 138 32 w43)).bind fun m53 =>
 if aIn (v3 + 1) then
 l_X13_throwsAt_16 T v1 k n v3 (v3 + 1) m53 else none else
 if aIn (v3 + 1) then
 l_X13_throwsAt_16 T v1 k n v2 (v3 + 1) M else none) FU 0 0 else none
theorem tl_X13_throwsAt_16 {d : Nat} (hd : 4 ≤ d) {T : T3} {v1 : Int} {k : Int → Int → aM → Option (Int × aM)} {y : (Int × aM)}  {M0 : aM} (hS : Sh T.1 M0)
    (hk : ∀ (v2 v3 : Int) (u4 u5 u6 u7 : aV) (M : aM), Sh T.1 M → k v2 v3 M = some y → Wp d 291 175 [] [(2, ((138 : Nat) : Int)), (0, v1), (0, v2), (0, v3), u4, u5, u6, u7] [] (M, T) (fun r2 σ2 => r2 = some (0, y.1) ∧ σ2 = (y.2, T) ∧ Sh T.1 y.2)) :
    ∀ (n : Nat) (v2 v3 : Int) (u4 u5 u6 u7 : aV) (M : aM), Sh T.1 M → l_X13_throwsAt_16 T.1 v1 k n v2 v3 M = some y → Wp d 291 16 [] [(2, ((138 : Nat) : Int)), (0, v1), (0, v2), (0, v3), u4, u5, u6, u7] [] (M, T) (fun r2 σ2 => r2 = some (0, y.1) ∧ σ2 = (y.2, T) ∧ Sh T.1 y.2) := by
  intro n
  induction n with
  | zero =>
    intro v2 v3 u4 u5 u6 u7 M _ h
    exact nomatch (show (none : Option (Int × aM)) = some y from h)
  | succ n ih =>
    intro v2 v3 u4 u5 u6 u7 M sM h
    rw [l_X13_throwsAt_16] at h
    refine y_blk (t := 16) rfl (show fnd bk_X13_throwsAt 16 = some _ from rfl) aB_X13_throwsAt ?_
    refine wp_iload_n (v := v3) rfl ?_
    refine wp_aload_n (v := ((138 : Nat) : Int)) rfl (Int.natCast_nonneg _) ?_
    obtain ⟨c7, h⟩ := d_ite h
    refine y_get (show ash 138 = (13, 38) from rfl) (Nat.lt_of_lt_of_le (show 138 < 154 by decide) hS.1.1) (v := (((M 138 3).toNat : Nat) : Int)) c7.eq rfl ?_
    refine y_get (aW0 hS.1.2 c7.is) (ltW c7.is 0 (by decide)) (v := M (M 138 3).toNat 3) rfl rfl ?_
    refine wp_icmp_ge (fun c8 => ?_) (fun c8 => ?_)
    · rw [if_pos c8] at h
      exact hk v2 v3 u4 u5 u6 u7 M sM h
    · rw [if_neg c8] at h
      refine wp_iload_n (v := v1) rfl ?_
      refine wp_if_eq (fun c9 => ?_) (fun c9 => ?_)
      · rw [if_pos c9] at h
        exact hk v2 v3 u4 u5 u6 u7 M sM h
      · rw [if_neg c9] at h
        refine wp_iconst ⟨by decide, by decide⟩ ?_
        refine y_st (L1 := [(2, ((138 : Nat) : Int)), (0, v1), (0, v2), (0, v3), (0, 0), u5, u6, u7]) (Nat.le_of_ble_eq_true rfl) rfl ?_
        refine wp_iconst ⟨by decide, by decide⟩ ?_
        refine y_st (L1 := [(2, ((138 : Nat) : Int)), (0, v1), (0, v2), (0, v3), (0, 0), (0, 0), u6, u7]) (Nat.le_of_ble_eq_true rfl) rfl ?_
        refine tl_X13_throwsAt_37 (by omega) sM (fun w43 w44 u45 u46  s47 h => ?_) FU 0 0 u6 u7  sM h
        refine y_blk (t := 143) rfl (show fnd bk_X13_throwsAt 143 = some _ from rfl) aB_X13_throwsAt ?_
        refine wp_iload_n (v := v2) rfl ?_
        refine wp_bipush (by decide) ?_
        refine wp_icmp_eq (fun c48 => ?_) (fun c48 => ?_)
        · rw [if_pos c48] at h
          refine y_blk (t := 161) rfl (show fnd bk_X13_throwsAt 161 = some _ from rfl) aB_X13_throwsAt ?_
          refine wp_iload_n (v := v3) rfl ?_
          refine y_stn (L1 := [(2, ((138 : Nat) : Int)), (0, v1), (0, v3), (0, v3), (0, w43), (0, w44), u45, u46]) (Nat.le_of_ble_eq_true rfl) rfl ?_
          refine wp_aload_n (v := ((138 : Nat) : Int)) rfl (Int.natCast_nonneg _) ?_
          refine wp_iload (v := w43) rfl ?_
          refine y_put (show ash 138 = (13, 38) from rfl) (Nat.lt_of_lt_of_le (show 138 < 154 by decide) hS.1.1) rfl ?_
          obtain ⟨m49, em49, h⟩ := d_bind h
          have em49 := Option.some.inj em49
          have s50 : Sh T.1 m49 := em49 ▸ s47.up (Or.inr ⟨by rw [(show ash 138 = (13, 38) from rfl)]; decide, by rw [(show ash 138 = (13, 38) from rfl)]; decide⟩) (by have := (Nat.lt_of_lt_of_le (show 138 < 154 by decide) hS.1.1); have := hS.1.2; omega)
          rw [em49]
          refine y_blk (t := 169) rfl (show fnd bk_X13_throwsAt 169 = some _ from rfl) aB_X13_throwsAt ?_
          obtain ⟨c51, h⟩ := d_ite h
          refine y_iinc (L1 := [(2, ((138 : Nat) : Int)), (0, v1), (0, v3), (0, (v3 + 1)), (0, w43), (0, w44), u45, u46]) rfl (Nat.le_of_ble_eq_true rfl) ⟨by decide, by decide⟩ c51 rfl ?_
          refine wp_goto ?_
          exact ih v3 (v3 + 1) (0, w43) (0, w44) u45 u46 m49 s50 h
        · rw [if_neg c48] at h
          refine wp_iload (v := w43) rfl ?_
          refine wp_aload_n (v := ((138 : Nat) : Int)) rfl (Int.natCast_nonneg _) ?_
          refine y_get (show ash 138 = (13, 38) from rfl) (Nat.lt_of_lt_of_le (show 138 < 154 by decide) hS.1.1) (v := M 138 32) rfl rfl ?_
          refine wp_icmp_lt (fun c52 => ?_) (fun c52 => ?_)
          · rw [if_pos c52] at h
            refine y_blk (t := 161) rfl (show fnd bk_X13_throwsAt 161 = some _ from rfl) aB_X13_throwsAt ?_
            refine wp_iload_n (v := v3) rfl ?_
            refine y_stn (L1 := [(2, ((138 : Nat) : Int)), (0, v1), (0, v3), (0, v3), (0, w43), (0, w44), u45, u46]) (Nat.le_of_ble_eq_true rfl) rfl ?_
            refine wp_aload_n (v := ((138 : Nat) : Int)) rfl (Int.natCast_nonneg _) ?_
            refine wp_iload (v := w43) rfl ?_
            refine y_put (show ash 138 = (13, 38) from rfl) (Nat.lt_of_lt_of_le (show 138 < 154 by decide) hS.1.1) rfl ?_
            obtain ⟨m53, em53, h⟩ := d_bind h
            have em53 := Option.some.inj em53
            have s54 : Sh T.1 m53 := em53 ▸ s47.up (Or.inr ⟨by rw [(show ash 138 = (13, 38) from rfl)]; decide, by rw [(show ash 138 = (13, 38) from rfl)]; decide⟩) (by have := (Nat.lt_of_lt_of_le (show 138 < 154 by decide) hS.1.1); have := hS.1.2; omega)
            rw [em53]
            refine y_blk (t := 169) rfl (show fnd bk_X13_throwsAt 169 = some _ from rfl) aB_X13_throwsAt ?_
            obtain ⟨c55, h⟩ := d_ite h
            refine y_iinc (L1 := [(2, ((138 : Nat) : Int)), (0, v1), (0, v3), (0, (v3 + 1)), (0, w43), (0, w44), u45, u46]) rfl (Nat.le_of_ble_eq_true rfl) ⟨by decide, by decide⟩ c55 rfl ?_
            refine wp_goto ?_
            exact ih v3 (v3 + 1) (0, w43) (0, w44) u45 u46 m53 s54 h
          · rw [if_neg c52] at h
            refine wp_goto ?_
            refine y_blk (t := 169) rfl (show fnd bk_X13_throwsAt 169 = some _ from rfl) aB_X13_throwsAt ?_
            obtain ⟨c56, h⟩ := d_ite h
            refine y_iinc (L1 := [(2, ((138 : Nat) : Int)), (0, v1), (0, v2), (0, (v3 + 1)), (0, w43), (0, w44), u45, u46]) rfl (Nat.le_of_ble_eq_true rfl) ⟨by decide, by decide⟩ c56 rfl ?_
            refine wp_goto ?_
            exact ih v2 (v3 + 1) (0, w43) (0, w44) u45 u46 M s47 h
def f_X13_throwsAt (T : Nat)  (M : aM) : Option (Int × aM) :=
 (f_X13_fitting T M).bind fun x1 =>
 (some (aup x1.2 138 32 (-2))).bind fun m5 =>
 l_X13_throwsAt_16 T x1.1 (fun w57 w58 m63 =>
 some (w57, m63)) FU (-2) 0 m5
theorem t_X13_throwsAt {T : T3}  {M : aM} {y : (Int × aM)}  (hS : Sh T.1 M) (h : f_X13_throwsAt T.1  M = some y) : Mr 4 291 [(2, ((138 : Nat) : Int))] M (some (0, y.1)) y.2 T ∧ Sh T.1 y.2 := by
  have key : ∀ d, 4 ≤ d → Wp d 291 0 [] [(2, ((138 : Nat) : Int)), (9, 0), (9, 0), (9, 0), (9, 0), (9, 0), (9, 0), (9, 0)] [] (M, T) (fun r2 σ2 => r2 = some (0, y.1) ∧ σ2 = (y.2, T) ∧ Sh T.1 y.2) := by
    intro d hd
    rw [f_X13_throwsAt] at h
    refine y_blk (t := 0) rfl (show fnd bk_X13_throwsAt 0 = some _ from rfl) aB_X13_throwsAt ?_
    refine wp_aload_n (v := ((138 : Nat) : Int)) rfl (Int.natCast_nonneg _) ?_
    obtain ⟨x1, e2, h⟩ := d_bind h
    obtain ⟨r3, s4⟩ := t_X13_fitting hS e2
    refine y_callV (as := []) (S1 := []) (Nat.le_of_ble_eq_true rfl) (by omega) r3 (Nat.le_of_ble_eq_true rfl) rfl (show ash 138 = (13, 38) from rfl) (Nat.lt_of_lt_of_le (show 138 < 154 by decide) hS.1.1) (Nat.le_of_ble_eq_true rfl) (Nat.le_of_ble_eq_true rfl) rfl ?_
    refine y_stn (L1 := [(2, ((138 : Nat) : Int)), (0, x1.1), (9, 0), (9, 0), (9, 0), (9, 0), (9, 0), (9, 0)]) (Nat.le_of_ble_eq_true rfl) rfl ?_
    refine wp_bipush (by decide) ?_
    refine y_stn (L1 := [(2, ((138 : Nat) : Int)), (0, x1.1), (0, (-2)), (9, 0), (9, 0), (9, 0), (9, 0), (9, 0)]) (Nat.le_of_ble_eq_true rfl) rfl ?_
    refine wp_aload_n (v := ((138 : Nat) : Int)) rfl (Int.natCast_nonneg _) ?_
    refine wp_bipush (by decide) ?_
    refine y_put (show ash 138 = (13, 38) from rfl) (Nat.lt_of_lt_of_le (show 138 < 154 by decide) hS.1.1) rfl ?_
    obtain ⟨m5, em5, h⟩ := d_bind h
    have em5 := Option.some.inj em5
    have s6 : Sh T.1 m5 := em5 ▸ s4.up (Or.inr ⟨by rw [(show ash 138 = (13, 38) from rfl)]; decide, by rw [(show ash 138 = (13, 38) from rfl)]; decide⟩) (by have := (Nat.lt_of_lt_of_le (show 138 < 154 by decide) hS.1.1); have := hS.1.2; omega)
    rw [em5]
    refine wp_iconst ⟨by decide, by decide⟩ ?_
    refine y_stn (L1 := [(2, ((138 : Nat) : Int)), (0, x1.1), (0, (-2)), (0, 0), (9, 0), (9, 0), (9, 0), (9, 0)]) (Nat.le_of_ble_eq_true rfl) rfl ?_
    refine tl_X13_throwsAt_16 (by omega) hS (fun w57 w58 u59 u60 u61 u62 m63 s64 h => ?_) FU (-2) 0 (9, 0) (9, 0) (9, 0) (9, 0) m5 s6 h
    refine y_blk (t := 175) rfl (show fnd bk_X13_throwsAt 175 = some _ from rfl) aB_X13_throwsAt ?_
    refine wp_iload_n (v := w57) rfl ?_
    cases h
    exact y_ret0 (Or.inl rfl) ⟨rfl, rfl, s64⟩
  exact ⟨fun d hd => Ms.of3 (key d hd), Ms.sh (key 4 (Nat.le_refl _))⟩
theorem aB_X13_stone : ∀ pc, aB 292 pc = fnd bk_X13_stone pc := fun _ => rfl
def f_X13_stone (T : Nat)  (M : aM) : Option (Int × aM) :=
 (some (aup M 138 0 0)).bind fun m1 =>
 if m1 138 3 < 0 then
 (f_X13_refused T 1 m1).bind fun x12 =>
 some (x12.1, x12.2) else
 (f_X13_throwsAt T m1).bind fun x4 =>
 (f_X13_good T x4.1 x4.2).bind fun x8 =>
 some (x8.1, x8.2)
theorem t_X13_stone {T : T3}  {M : aM} {y : (Int × aM)}  (hS : Sh T.1 M) (h : f_X13_stone T.1  M = some y) : Mr 5 292 [(2, ((138 : Nat) : Int))] M (some (0, y.1)) y.2 T ∧ Sh T.1 y.2 := by
  have key : ∀ d, 5 ≤ d → Wp d 292 0 [] [(2, ((138 : Nat) : Int))] [] (M, T) (fun r2 σ2 => r2 = some (0, y.1) ∧ σ2 = (y.2, T) ∧ Sh T.1 y.2) := by
    intro d hd
    rw [f_X13_stone] at h
    refine y_blk (t := 0) rfl (show fnd bk_X13_stone 0 = some _ from rfl) aB_X13_stone ?_
    refine wp_aload_n (v := ((138 : Nat) : Int)) rfl (Int.natCast_nonneg _) ?_
    refine wp_iconst ⟨by decide, by decide⟩ ?_
    refine y_put (show ash 138 = (13, 38) from rfl) (Nat.lt_of_lt_of_le (show 138 < 154 by decide) hS.1.1) rfl ?_
    obtain ⟨m1, em1, h⟩ := d_bind h
    have em1 := Option.some.inj em1
    have s2 : Sh T.1 m1 := em1 ▸ hS.up (Or.inr ⟨by rw [(show ash 138 = (13, 38) from rfl)]; decide, by rw [(show ash 138 = (13, 38) from rfl)]; decide⟩) (by have := (Nat.lt_of_lt_of_le (show 138 < 154 by decide) hS.1.1); have := hS.1.2; omega)
    rw [em1]
    refine wp_aload_n (v := ((138 : Nat) : Int)) rfl (Int.natCast_nonneg _) ?_
    refine y_get (show ash 138 = (13, 38) from rfl) (Nat.lt_of_lt_of_le (show 138 < 154 by decide) hS.1.1) (v := m1 138 3) rfl rfl ?_
    refine wp_ifnonnull (fun c3 => ?_) (fun c3 => ?_)
    · rw [if_neg c3] at h
      refine y_blk (t := 20) rfl (show fnd bk_X13_stone 20 = some _ from rfl) aB_X13_stone ?_
      refine wp_aload_n (v := ((138 : Nat) : Int)) rfl (Int.natCast_nonneg _) ?_
      refine wp_aload_n (v := ((138 : Nat) : Int)) rfl (Int.natCast_nonneg _) ?_
      obtain ⟨x4, e5, h⟩ := d_bind h
      obtain ⟨r6, s7⟩ := t_X13_throwsAt s2 e5
      refine y_callV (as := []) (S1 := [(2, ((138 : Nat) : Int))]) (Nat.le_of_ble_eq_true rfl) (by omega) r6 (Nat.le_of_ble_eq_true rfl) rfl (show ash 138 = (13, 38) from rfl) (Nat.lt_of_lt_of_le (show 138 < 154 by decide) hS.1.1) (Nat.le_of_ble_eq_true rfl) (Nat.le_of_ble_eq_true rfl) rfl ?_
      obtain ⟨x8, e9, h⟩ := d_bind h
      obtain ⟨r10, s11⟩ := t_X13_good s7 e9
      refine y_callV (as := [(0, x4.1)]) (S1 := []) (Nat.le_of_ble_eq_true rfl) (by omega) r10 (Nat.le_of_ble_eq_true rfl) rfl (show ash 138 = (13, 38) from rfl) (Nat.lt_of_lt_of_le (show 138 < 154 by decide) hS.1.1) (Nat.le_of_ble_eq_true rfl) (Nat.le_of_ble_eq_true rfl) rfl ?_
      refine y_blk (t := 28) rfl (show fnd bk_X13_stone 28 = some _ from rfl) aB_X13_stone ?_
      cases h
      exact y_ret0 (Or.inl rfl) ⟨rfl, rfl, s11⟩
    · rw [if_pos c3] at h
      refine wp_aload_n (v := ((138 : Nat) : Int)) rfl (Int.natCast_nonneg _) ?_
      refine wp_iconst ⟨by decide, by decide⟩ ?_
      obtain ⟨x12, e13, h⟩ := d_bind h
      obtain ⟨r14, s15⟩ := t_X13_refused s2 e13
      refine y_callV (as := [(0, 1)]) (S1 := []) (Nat.le_of_ble_eq_true rfl) (by omega) r14 (Nat.le_of_ble_eq_true rfl) rfl (show ash 138 = (13, 38) from rfl) (Nat.lt_of_lt_of_le (show 138 < 154 by decide) hS.1.1) (Nat.le_of_ble_eq_true rfl) (Nat.le_of_ble_eq_true rfl) rfl ?_
      refine wp_goto ?_
      refine y_blk (t := 28) rfl (show fnd bk_X13_stone 28 = some _ from rfl) aB_X13_stone ?_
      cases h
      exact y_ret0 (Or.inl rfl) ⟨rfl, rfl, s15⟩
  exact ⟨fun d hd => Ms.of3 (key d hd), Ms.sh (key 5 (Nat.le_refl _))⟩
theorem aB_X13_stoneLeaves : ∀ pc, aB 293 pc = fnd bk_X13_stoneLeaves pc := fun _ => rfl
def f_X13_stoneLeaves (T : Nat)  (M : aM) : Option (Int × aM) :=
 (some (aup M 138 0 0)).bind fun m1 =>
 if m1 138 3 < 0 then
 (f_X13_refused T 1 m1).bind fun x12 =>
 some (x12.1, x12.2) else
 (f_X13_throwsAt T m1).bind fun x4 =>
 (f_X13_good T (x4.2 138 32) x4.2).bind fun x8 =>
 some (x8.1, x8.2)
theorem t_X13_stoneLeaves {T : T3}  {M : aM} {y : (Int × aM)}  (hS : Sh T.1 M) (h : f_X13_stoneLeaves T.1  M = some y) : Mr 5 293 [(2, ((138 : Nat) : Int))] M (some (0, y.1)) y.2 T ∧ Sh T.1 y.2 := by
  have key : ∀ d, 5 ≤ d → Wp d 293 0 [] [(2, ((138 : Nat) : Int))] [] (M, T) (fun r2 σ2 => r2 = some (0, y.1) ∧ σ2 = (y.2, T) ∧ Sh T.1 y.2) := by
    intro d hd
    rw [f_X13_stoneLeaves] at h
    refine y_blk (t := 0) rfl (show fnd bk_X13_stoneLeaves 0 = some _ from rfl) aB_X13_stoneLeaves ?_
    refine wp_aload_n (v := ((138 : Nat) : Int)) rfl (Int.natCast_nonneg _) ?_
    refine wp_iconst ⟨by decide, by decide⟩ ?_
    refine y_put (show ash 138 = (13, 38) from rfl) (Nat.lt_of_lt_of_le (show 138 < 154 by decide) hS.1.1) rfl ?_
    obtain ⟨m1, em1, h⟩ := d_bind h
    have em1 := Option.some.inj em1
    have s2 : Sh T.1 m1 := em1 ▸ hS.up (Or.inr ⟨by rw [(show ash 138 = (13, 38) from rfl)]; decide, by rw [(show ash 138 = (13, 38) from rfl)]; decide⟩) (by have := (Nat.lt_of_lt_of_le (show 138 < 154 by decide) hS.1.1); have := hS.1.2; omega)
    rw [em1]
    refine wp_aload_n (v := ((138 : Nat) : Int)) rfl (Int.natCast_nonneg _) ?_
    refine y_get (show ash 138 = (13, 38) from rfl) (Nat.lt_of_lt_of_le (show 138 < 154 by decide) hS.1.1) (v := m1 138 3) rfl rfl ?_
    refine wp_ifnonnull (fun c3 => ?_) (fun c3 => ?_)
    · rw [if_neg c3] at h
      refine y_blk (t := 18) rfl (show fnd bk_X13_stoneLeaves 18 = some _ from rfl) aB_X13_stoneLeaves ?_
      refine wp_aload_n (v := ((138 : Nat) : Int)) rfl (Int.natCast_nonneg _) ?_
      obtain ⟨x4, e5, h⟩ := d_bind h
      obtain ⟨r6, s7⟩ := t_X13_throwsAt s2 e5
      refine y_callV (as := []) (S1 := []) (Nat.le_of_ble_eq_true rfl) (by omega) r6 (Nat.le_of_ble_eq_true rfl) rfl (show ash 138 = (13, 38) from rfl) (Nat.lt_of_lt_of_le (show 138 < 154 by decide) hS.1.1) (Nat.le_of_ble_eq_true rfl) (Nat.le_of_ble_eq_true rfl) rfl ?_
      refine wp_pop (Or.inl rfl) ?_
      refine wp_aload_n (v := ((138 : Nat) : Int)) rfl (Int.natCast_nonneg _) ?_
      refine wp_aload_n (v := ((138 : Nat) : Int)) rfl (Int.natCast_nonneg _) ?_
      refine y_get (show ash 138 = (13, 38) from rfl) (Nat.lt_of_lt_of_le (show 138 < 154 by decide) hS.1.1) (v := x4.2 138 32) rfl rfl ?_
      obtain ⟨x8, e9, h⟩ := d_bind h
      obtain ⟨r10, s11⟩ := t_X13_good s7 e9
      refine y_callV (as := [(0, (x4.2 138 32))]) (S1 := []) (Nat.le_of_ble_eq_true rfl) (by omega) r10 (Nat.le_of_ble_eq_true rfl) rfl (show ash 138 = (13, 38) from rfl) (Nat.lt_of_lt_of_le (show 138 < 154 by decide) hS.1.1) (Nat.le_of_ble_eq_true rfl) (Nat.le_of_ble_eq_true rfl) rfl ?_
      cases h
      exact y_ret0 (Or.inl rfl) ⟨rfl, rfl, s11⟩
    · rw [if_pos c3] at h
      refine wp_aload_n (v := ((138 : Nat) : Int)) rfl (Int.natCast_nonneg _) ?_
      refine wp_iconst ⟨by decide, by decide⟩ ?_
      obtain ⟨x12, e13, h⟩ := d_bind h
      obtain ⟨r14, s15⟩ := t_X13_refused s2 e13
      refine y_callV (as := [(0, 1)]) (S1 := []) (Nat.le_of_ble_eq_true rfl) (by omega) r14 (Nat.le_of_ble_eq_true rfl) rfl (show ash 138 = (13, 38) from rfl) (Nat.lt_of_lt_of_le (show 138 < 154 by decide) hS.1.1) (Nat.le_of_ble_eq_true rfl) (Nat.le_of_ble_eq_true rfl) rfl ?_
      cases h
      exact y_ret0 (Or.inl rfl) ⟨rfl, rfl, s15⟩
  exact ⟨fun d hd => Ms.of3 (key d hd), Ms.sh (key 5 (Nat.le_refl _))⟩
theorem aB_X13_judge : ∀ pc, aB 294 pc = fnd bk_X13_judge pc := fun _ => rfl
def l_X13_judge_32 (T : Nat)  (M : aM) (k : Int → Option (Int × aM)) : Nat → Int → Option (Int × aM)
| 0, _ => none
| n + 1, v1 =>
 if okW T (M 138 3) then
 if (M (M 138 3).toNat 9) ≤ v1 then
 k v1 else
 if (M (M 138 3).toNat 7) ≤ 0 then
 k v1 else
 (f_X13_isRight T v1 (M ((M 138 3).toNat + 5) 0) M).bind fun x12 =>
 if x12 = 0 then
 (f_X13_good T v1 M).bind fun x16 =>
 some (x16.1, x16.2) else
 if aIn (v1 + 1) then
 l_X13_judge_32 T M k n (v1 + 1) else none else none
theorem tl_X13_judge_32 {d : Nat} (hd : 2 ≤ d) {T : T3}  {M : aM} {k : Int → Option (Int × aM)} {y : (Int × aM)}  (hS : Sh T.1 M)
    (hk : ∀ (v1 : Int), Sh T.1 M → k v1 = some y → Wp d 294 82 [] [(2, ((138 : Nat) : Int)), (0, v1)] [] (M, T) (fun r2 σ2 => r2 = some (0, y.1) ∧ σ2 = (y.2, T) ∧ Sh T.1 y.2)) :
    ∀ (n : Nat) (v1 : Int), Sh T.1 M → l_X13_judge_32 T.1 M k n v1 = some y → Wp d 294 32 [] [(2, ((138 : Nat) : Int)), (0, v1)] [] (M, T) (fun r2 σ2 => r2 = some (0, y.1) ∧ σ2 = (y.2, T) ∧ Sh T.1 y.2) := by
  intro n
  induction n with
  | zero =>
    intro v1 _ h
    exact nomatch (show (none : Option (Int × aM)) = some y from h)
  | succ n ih =>
    intro v1 sM h
    rw [l_X13_judge_32] at h
    refine y_blk (t := 32) rfl (show fnd bk_X13_judge 32 = some _ from rfl) aB_X13_judge ?_
    refine wp_iload_n (v := v1) rfl ?_
    refine wp_aload_n (v := ((138 : Nat) : Int)) rfl (Int.natCast_nonneg _) ?_
    obtain ⟨c9, h⟩ := d_ite h
    refine y_get (show ash 138 = (13, 38) from rfl) (Nat.lt_of_lt_of_le (show 138 < 154 by decide) hS.1.1) (v := (((M 138 3).toNat : Nat) : Int)) c9.eq rfl ?_
    refine y_get (aW0 hS.1.2 c9.is) (ltW c9.is 0 (by decide)) (v := M (M 138 3).toNat 9) rfl rfl ?_
    refine wp_icmp_ge (fun c10 => ?_) (fun c10 => ?_)
    · rw [if_pos c10] at h
      exact hk v1   sM h
    · rw [if_neg c10] at h
      refine wp_aload_n (v := ((138 : Nat) : Int)) rfl (Int.natCast_nonneg _) ?_
      refine y_get (show ash 138 = (13, 38) from rfl) (Nat.lt_of_lt_of_le (show 138 < 154 by decide) hS.1.1) (v := (((M 138 3).toNat : Nat) : Int)) c9.eq rfl ?_
      refine y_get (aW0 hS.1.2 c9.is) (ltW c9.is 0 (by decide)) (v := M (M 138 3).toNat 7) rfl rfl ?_
      refine wp_if_le (fun c11 => ?_) (fun c11 => ?_)
      · rw [if_pos c11] at h
        exact hk v1   sM h
      · rw [if_neg c11] at h
        refine wp_aload_n (v := ((138 : Nat) : Int)) rfl (Int.natCast_nonneg _) ?_
        refine wp_iload_n (v := v1) rfl ?_
        refine wp_aload_n (v := ((138 : Nat) : Int)) rfl (Int.natCast_nonneg _) ?_
        refine y_get (show ash 138 = (13, 38) from rfl) (Nat.lt_of_lt_of_le (show 138 < 154 by decide) hS.1.1) (v := (((M 138 3).toNat : Nat) : Int)) c9.eq rfl ?_
        refine y_get (aW0 hS.1.2 c9.is) (ltW c9.is 0 (by decide)) (v := ((((M 138 3).toNat + 5) : Nat) : Int)) (rW18 sM c9.is) rfl ?_
        refine wp_iconst ⟨by decide, by decide⟩ ?_
        refine y_iald (aW5 hS.1.2 c9.is) (Or.inl (ltW c9.is 5 (by decide))) (Nat.ne_of_lt (Nat.lt_of_lt_of_le (ltW c9.is 5 (by decide)) hS.1.2)) ⟨by decide, by decide⟩ (v := M ((M 138 3).toNat + 5) 0) rfl ?_
        obtain ⟨x12, e13, h⟩ := d_bind h
        refine y_callV (as := [(0, v1), (0, (M ((M 138 3).toNat + 5) 0))]) (S1 := []) (Nat.le_of_ble_eq_true rfl) (by omega) (t_X13_isRight sM e13) (Nat.le_of_ble_eq_true rfl) rfl (show ash 138 = (13, 38) from rfl) (Nat.lt_of_lt_of_le (show 138 < 154 by decide) hS.1.1) (Nat.le_of_ble_eq_true rfl) (Nat.le_of_ble_eq_true rfl) rfl ?_
        refine y_nez (fun c14 => ?_) (fun c14 => ?_)
        · rw [if_neg c14] at h
          refine y_blk (t := 76) rfl (show fnd bk_X13_judge 76 = some _ from rfl) aB_X13_judge ?_
          obtain ⟨c15, h⟩ := d_ite h
          refine y_iinc (L1 := [(2, ((138 : Nat) : Int)), (0, (v1 + 1))]) rfl (Nat.le_of_ble_eq_true rfl) ⟨by decide, by decide⟩ c15 rfl ?_
          refine wp_goto ?_
          exact ih (v1 + 1)   sM h
        · rw [if_pos c14] at h
          refine wp_aload_n (v := ((138 : Nat) : Int)) rfl (Int.natCast_nonneg _) ?_
          refine wp_iload_n (v := v1) rfl ?_
          obtain ⟨x16, e17, h⟩ := d_bind h
          obtain ⟨r18, s19⟩ := t_X13_good sM e17
          refine y_callV (as := [(0, v1)]) (S1 := []) (Nat.le_of_ble_eq_true rfl) (by omega) r18 (Nat.le_of_ble_eq_true rfl) rfl (show ash 138 = (13, 38) from rfl) (Nat.lt_of_lt_of_le (show 138 < 154 by decide) hS.1.1) (Nat.le_of_ble_eq_true rfl) (Nat.le_of_ble_eq_true rfl) rfl ?_
          cases h
          exact y_ret0 (Or.inl rfl) ⟨rfl, rfl, s19⟩
def f_X13_judge (T : Nat)  (M : aM) : Option (Int × aM) :=
 (some (aup M 138 0 0)).bind fun m1 =>
 if m1 138 3 < 0 then
 (f_X13_refused T 1 m1).bind fun x26 =>
 some (x26.1, x26.2) else
 if okW T (m1 138 3) then
 (f_X13_lays T (m1 (m1 138 3).toNat 6) (-1) m1).bind fun x5 =>
 l_X13_judge_32 T x5.2 (fun w20 =>
 (f_X13_good T (-2) x5.2).bind fun x22 =>
 some (x22.1, x22.2)) FU 0 else none
theorem t_X13_judge {T : T3}  {M : aM} {y : (Int × aM)}  (hS : Sh T.1 M) (h : f_X13_judge T.1  M = some y) : Mr 2 294 [(2, ((138 : Nat) : Int))] M (some (0, y.1)) y.2 T ∧ Sh T.1 y.2 := by
  have key : ∀ d, 2 ≤ d → Wp d 294 0 [] [(2, ((138 : Nat) : Int)), (9, 0)] [] (M, T) (fun r2 σ2 => r2 = some (0, y.1) ∧ σ2 = (y.2, T) ∧ Sh T.1 y.2) := by
    intro d hd
    rw [f_X13_judge] at h
    refine y_blk (t := 0) rfl (show fnd bk_X13_judge 0 = some _ from rfl) aB_X13_judge ?_
    refine wp_aload_n (v := ((138 : Nat) : Int)) rfl (Int.natCast_nonneg _) ?_
    refine wp_iconst ⟨by decide, by decide⟩ ?_
    refine y_put (show ash 138 = (13, 38) from rfl) (Nat.lt_of_lt_of_le (show 138 < 154 by decide) hS.1.1) rfl ?_
    obtain ⟨m1, em1, h⟩ := d_bind h
    have em1 := Option.some.inj em1
    have s2 : Sh T.1 m1 := em1 ▸ hS.up (Or.inr ⟨by rw [(show ash 138 = (13, 38) from rfl)]; decide, by rw [(show ash 138 = (13, 38) from rfl)]; decide⟩) (by have := (Nat.lt_of_lt_of_le (show 138 < 154 by decide) hS.1.1); have := hS.1.2; omega)
    rw [em1]
    refine wp_aload_n (v := ((138 : Nat) : Int)) rfl (Int.natCast_nonneg _) ?_
    refine y_get (show ash 138 = (13, 38) from rfl) (Nat.lt_of_lt_of_le (show 138 < 154 by decide) hS.1.1) (v := m1 138 3) rfl rfl ?_
    refine wp_ifnonnull (fun c3 => ?_) (fun c3 => ?_)
    · rw [if_neg c3] at h
      refine y_blk (t := 18) rfl (show fnd bk_X13_judge 18 = some _ from rfl) aB_X13_judge ?_
      refine wp_aload_n (v := ((138 : Nat) : Int)) rfl (Int.natCast_nonneg _) ?_
      refine wp_aload_n (v := ((138 : Nat) : Int)) rfl (Int.natCast_nonneg _) ?_
      obtain ⟨c4, h⟩ := d_ite h
      refine y_get (show ash 138 = (13, 38) from rfl) (Nat.lt_of_lt_of_le (show 138 < 154 by decide) hS.1.1) (v := (((m1 138 3).toNat : Nat) : Int)) c4.eq rfl ?_
      refine y_get (aW0 hS.1.2 c4.is) (ltW c4.is 0 (by decide)) (v := m1 (m1 138 3).toNat 6) rfl rfl ?_
      refine wp_iconst ⟨by decide, by decide⟩ ?_
      obtain ⟨x5, e6, h⟩ := d_bind h
      obtain ⟨r7, s8⟩ := t_X13_lays s2 e6
      refine y_callVv (as := [(0, (m1 (m1 138 3).toNat 6)), (0, (-1))]) (S1 := []) (Nat.le_of_ble_eq_true rfl) (by omega) r7 rfl (show ash 138 = (13, 38) from rfl) (Nat.lt_of_lt_of_le (show 138 < 154 by decide) hS.1.1) (Nat.le_of_ble_eq_true rfl) (Nat.le_of_ble_eq_true rfl) rfl ?_
      refine wp_iconst ⟨by decide, by decide⟩ ?_
      refine y_stn (L1 := [(2, ((138 : Nat) : Int)), (0, 0)]) (Nat.le_of_ble_eq_true rfl) rfl ?_
      refine tl_X13_judge_32 (by omega) s8 (fun w20   s21 h => ?_) FU 0   s8 h
      refine y_blk (t := 82) rfl (show fnd bk_X13_judge 82 = some _ from rfl) aB_X13_judge ?_
      refine wp_aload_n (v := ((138 : Nat) : Int)) rfl (Int.natCast_nonneg _) ?_
      refine wp_bipush (by decide) ?_
      obtain ⟨x22, e23, h⟩ := d_bind h
      obtain ⟨r24, s25⟩ := t_X13_good s21 e23
      refine y_callV (as := [(0, (-2))]) (S1 := []) (Nat.le_of_ble_eq_true rfl) (by omega) r24 (Nat.le_of_ble_eq_true rfl) rfl (show ash 138 = (13, 38) from rfl) (Nat.lt_of_lt_of_le (show 138 < 154 by decide) hS.1.1) (Nat.le_of_ble_eq_true rfl) (Nat.le_of_ble_eq_true rfl) rfl ?_
      cases h
      exact y_ret0 (Or.inl rfl) ⟨rfl, rfl, s25⟩
    · rw [if_pos c3] at h
      refine wp_aload_n (v := ((138 : Nat) : Int)) rfl (Int.natCast_nonneg _) ?_
      refine wp_iconst ⟨by decide, by decide⟩ ?_
      obtain ⟨x26, e27, h⟩ := d_bind h
      obtain ⟨r28, s29⟩ := t_X13_refused s2 e27
      refine y_callV (as := [(0, 1)]) (S1 := []) (Nat.le_of_ble_eq_true rfl) (by omega) r28 (Nat.le_of_ble_eq_true rfl) rfl (show ash 138 = (13, 38) from rfl) (Nat.lt_of_lt_of_le (show 138 < 154 by decide) hS.1.1) (Nat.le_of_ble_eq_true rfl) (Nat.le_of_ble_eq_true rfl) rfl ?_
      cases h
      exact y_ret0 (Or.inl rfl) ⟨rfl, rfl, s29⟩
  exact ⟨fun d hd => Ms.of3 (key d hd), Ms.sh (key 2 (Nat.le_refl _))⟩
theorem aB_X13_wetBy : ∀ pc, aB 295 pc = fnd bk_X13_wetBy pc := fun _ => rfl
def l_X13_wetBy_10 (T : Nat) (v1 : Int) (M : aM) (k : Int → Int → Option Int) : Nat → Int → Int → Option Int
| 0, _, _ => none
| n + 1, v2, v3 =>
 if okW T (M 138 3) then
 if (M (M 138 3).toNat 10) ≤ v3 then
 k v2 v3 else
 (f_X13_bit T v1 v3 M).bind fun x4 =>
 if x4 = 0 then
 if aIn (v3 + 1) then
 l_X13_wetBy_10 T v1 M k n v2 (v3 + 1) else none else
 if 0 ≤ v3 ∧ v3 < 4 then
 if aIn (v3 + 1) then
 l_X13_wetBy_10 T v1 M k n (axor v2 (ashl 1 (M ((M 138 3).toNat + 9) (v3).toNat))) (v3 + 1) else none else none else none
theorem tl_X13_wetBy_10 {d : Nat} (hd : 1 ≤ d) {T : T3} {v1 : Int} {M : aM} {k : Int → Int → Option Int} {y : Int}  (hS : Sh T.1 M)
    (hk : ∀ (v2 v3 : Int), Sh T.1 M → k v2 v3 = some y → Wp d 295 49 [] [(2, ((138 : Nat) : Int)), (0, v1), (0, v2), (0, v3)] [] (M, T) (fun r2 σ2 => r2 = some (0, y) ∧ σ2 = (M, T))) :
    ∀ (n : Nat) (v2 v3 : Int), Sh T.1 M → l_X13_wetBy_10 T.1 v1 M k n v2 v3 = some y → Wp d 295 10 [] [(2, ((138 : Nat) : Int)), (0, v1), (0, v2), (0, v3)] [] (M, T) (fun r2 σ2 => r2 = some (0, y) ∧ σ2 = (M, T)) := by
  intro n
  induction n with
  | zero =>
    intro v2 v3 _ h
    exact nomatch (show (none : Option Int) = some y from h)
  | succ n ih =>
    intro v2 v3 sM h
    rw [l_X13_wetBy_10] at h
    refine y_blk (t := 10) rfl (show fnd bk_X13_wetBy 10 = some _ from rfl) aB_X13_wetBy ?_
    refine wp_iload_n (v := v3) rfl ?_
    refine wp_aload_n (v := ((138 : Nat) : Int)) rfl (Int.natCast_nonneg _) ?_
    obtain ⟨c2, h⟩ := d_ite h
    refine y_get (show ash 138 = (13, 38) from rfl) (Nat.lt_of_lt_of_le (show 138 < 154 by decide) hS.1.1) (v := (((M 138 3).toNat : Nat) : Int)) c2.eq rfl ?_
    refine y_get (aW0 hS.1.2 c2.is) (ltW c2.is 0 (by decide)) (v := M (M 138 3).toNat 10) rfl rfl ?_
    refine wp_icmp_ge (fun c3 => ?_) (fun c3 => ?_)
    · rw [if_pos c3] at h
      exact hk v2 v3   sM h
    · rw [if_neg c3] at h
      refine wp_iload_n (v := v1) rfl ?_
      refine wp_iload_n (v := v3) rfl ?_
      obtain ⟨x4, e5, h⟩ := d_bind h
      refine y_callS (as := [(0, v1), (0, v3)]) (S1 := []) (Nat.le_of_ble_eq_true rfl) (by omega) (t_X13_bit sM e5) (Nat.le_of_ble_eq_true rfl) rfl (Nat.le_of_ble_eq_true rfl) (Nat.le_of_ble_eq_true rfl) rfl ?_
      refine wp_if_eq (fun c6 => ?_) (fun c6 => ?_)
      · rw [if_pos c6] at h
        refine y_blk (t := 43) rfl (show fnd bk_X13_wetBy 43 = some _ from rfl) aB_X13_wetBy ?_
        obtain ⟨c7, h⟩ := d_ite h
        refine y_iinc (L1 := [(2, ((138 : Nat) : Int)), (0, v1), (0, v2), (0, (v3 + 1))]) rfl (Nat.le_of_ble_eq_true rfl) ⟨by decide, by decide⟩ c7 rfl ?_
        refine wp_goto ?_
        exact ih v2 (v3 + 1)   sM h
      · rw [if_neg c6] at h
        refine wp_iload_n (v := v2) rfl ?_
        refine wp_iconst ⟨by decide, by decide⟩ ?_
        refine wp_aload_n (v := ((138 : Nat) : Int)) rfl (Int.natCast_nonneg _) ?_
        refine y_get (show ash 138 = (13, 38) from rfl) (Nat.lt_of_lt_of_le (show 138 < 154 by decide) hS.1.1) (v := (((M 138 3).toNat : Nat) : Int)) c2.eq rfl ?_
        refine y_get (aW0 hS.1.2 c2.is) (ltW c2.is 0 (by decide)) (v := ((((M 138 3).toNat + 9) : Nat) : Int)) (rW22 sM c2.is) rfl ?_
        refine wp_iload_n (v := v3) rfl ?_
        obtain ⟨c8, h⟩ := d_ite h
        refine y_iald (aW9 hS.1.2 c2.is) (Or.inl (ltW c2.is 9 (by decide))) (Nat.ne_of_lt (Nat.lt_of_lt_of_le (ltW c2.is 9 (by decide)) hS.1.2)) c8 (v := M ((M 138 3).toNat + 9) (v3).toNat) rfl ?_
        refine wp_ishl ?_
        refine wp_ixor ?_
        refine y_stn (L1 := [(2, ((138 : Nat) : Int)), (0, v1), (0, (axor v2 (ashl 1 (M ((M 138 3).toNat + 9) (v3).toNat)))), (0, v3)]) (Nat.le_of_ble_eq_true rfl) rfl ?_
        refine y_blk (t := 43) rfl (show fnd bk_X13_wetBy 43 = some _ from rfl) aB_X13_wetBy ?_
        obtain ⟨c9, h⟩ := d_ite h
        refine y_iinc (L1 := [(2, ((138 : Nat) : Int)), (0, v1), (0, (axor v2 (ashl 1 (M ((M 138 3).toNat + 9) (v3).toNat)))), (0, (v3 + 1))]) rfl (Nat.le_of_ble_eq_true rfl) ⟨by decide, by decide⟩ c9 rfl ?_
        refine wp_goto ?_
        exact ih (axor v2 (ashl 1 (M ((M 138 3).toNat + 9) (v3).toNat))) (v3 + 1)   sM h
def f_X13_wetBy (T : Nat) (v1 : Int) (M : aM) : Option Int :=
 if okW T (M 138 3) then
 l_X13_wetBy_10 T v1 M (fun w10 w11 =>
 some w10) FU (M (M 138 3).toNat 6) 0 else none
theorem t_X13_wetBy {T : T3} {v1 : Int} {M : aM} {y : Int}  (hS : Sh T.1 M) (h : f_X13_wetBy T.1 v1 M = some y) : Mr 1 295 [(2, ((138 : Nat) : Int)), (0, v1)] M (some (0, y)) M T := by
  have key : ∀ d, 1 ≤ d → Wp d 295 0 [] [(2, ((138 : Nat) : Int)), (0, v1), (9, 0), (9, 0)] [] (M, T) (fun r2 σ2 => r2 = some (0, y) ∧ σ2 = (M, T)) := by
    intro d hd
    rw [f_X13_wetBy] at h
    refine y_blk (t := 0) rfl (show fnd bk_X13_wetBy 0 = some _ from rfl) aB_X13_wetBy ?_
    refine wp_aload_n (v := ((138 : Nat) : Int)) rfl (Int.natCast_nonneg _) ?_
    obtain ⟨c1, h⟩ := d_ite h
    refine y_get (show ash 138 = (13, 38) from rfl) (Nat.lt_of_lt_of_le (show 138 < 154 by decide) hS.1.1) (v := (((M 138 3).toNat : Nat) : Int)) c1.eq rfl ?_
    refine y_get (aW0 hS.1.2 c1.is) (ltW c1.is 0 (by decide)) (v := M (M 138 3).toNat 6) rfl rfl ?_
    refine y_stn (L1 := [(2, ((138 : Nat) : Int)), (0, v1), (0, (M (M 138 3).toNat 6)), (9, 0)]) (Nat.le_of_ble_eq_true rfl) rfl ?_
    refine wp_iconst ⟨by decide, by decide⟩ ?_
    refine y_stn (L1 := [(2, ((138 : Nat) : Int)), (0, v1), (0, (M (M 138 3).toNat 6)), (0, 0)]) (Nat.le_of_ble_eq_true rfl) rfl ?_
    refine tl_X13_wetBy_10 (by omega) hS (fun w10 w11   s12 h => ?_) FU (M (M 138 3).toNat 6) 0   hS h
    refine y_blk (t := 49) rfl (show fnd bk_X13_wetBy 49 = some _ from rfl) aB_X13_wetBy ?_
    refine wp_iload_n (v := w10) rfl ?_
    cases h
    exact y_ret0 (Or.inl rfl) ⟨rfl, rfl⟩
  exact fun d hd => Ms.of (key d hd)

/-! ===== methods as functions ===== -/
theorem aB_X13_next : ∀ pc, aB 261 pc = fnd bk_X13_next pc := fun _ => rfl
def f_X13_next (T : Nat) (v1 : Int) (v2 : Int) (M : aM) : Option (Int × aM) :=
 (some (aup M 138 0 0)).bind fun m1 =>
 (f_X13_isCave T v1 m1).bind fun x3 =>
 if x3 = 0 then
 (f_X13_refused T 1 m1).bind fun x6 =>
 some (x6.1, x6.2) else
 (f_X13_isCave T v2 m1).bind fun x10 =>
 if x10 = 0 then
 (f_X13_refused T 1 m1).bind fun x23 =>
 some (x23.1, x23.2) else
 (f_X13_works T m1).bind fun x13 =>
 (f_X13_towards T v1 v2 x13.2).bind fun x17 =>
 (f_X13_good T x17 x13.2).bind fun x19 =>
 some (x19.1, x19.2)
theorem t_X13_next {T : T3} {v1 : Int} {v2 : Int} {M : aM} {y : (Int × aM)}  (hS : Sh T.1 M) (h : f_X13_next T.1 v1 v2 M = some y) : Mr 3 261 [(2, ((138 : Nat) : Int)), (0, v1), (0, v2)] M (some (0, y.1)) y.2 T ∧ Sh T.1 y.2 := by
  have key : ∀ d, 3 ≤ d → Wp d 261 0 [] [(2, ((138 : Nat) : Int)), (0, v1), (0, v2)] [] (M, T) (fun r2 σ2 => r2 = some (0, y.1) ∧ σ2 = (y.2, T) ∧ Sh T.1 y.2) := by
    intro d hd
    rw [f_X13_next] at h
    refine y_blk (t := 0) rfl (show fnd bk_X13_next 0 = some _ from rfl) aB_X13_next ?_
    refine wp_aload_n (v := ((138 : Nat) : Int)) rfl (Int.natCast_nonneg _) ?_
    refine wp_iconst ⟨by decide, by decide⟩ ?_
    refine y_put (show ash 138 = (13, 38) from rfl) (Nat.lt_of_lt_of_le (show 138 < 154 by decide) hS.1.1) rfl ?_
    obtain ⟨m1, em1, h⟩ := d_bind h
    have em1 := Option.some.inj em1
    have s2 : Sh T.1 m1 := em1 ▸ hS.up (Or.inr ⟨by rw [(show ash 138 = (13, 38) from rfl)]; decide, by rw [(show ash 138 = (13, 38) from rfl)]; decide⟩) (by have := (Nat.lt_of_lt_of_le (show 138 < 154 by decide) hS.1.1); have := hS.1.2; omega)
    rw [em1]
    refine wp_aload_n (v := ((138 : Nat) : Int)) rfl (Int.natCast_nonneg _) ?_
    refine wp_iload_n (v := v1) rfl ?_
    obtain ⟨x3, e4, h⟩ := d_bind h
    refine y_callV (as := [(0, v1)]) (S1 := []) (Nat.le_of_ble_eq_true rfl) (by omega) (t_X13_isCave s2 e4) (Nat.le_of_ble_eq_true rfl) rfl (show ash 138 = (13, 38) from rfl) (Nat.lt_of_lt_of_le (show 138 < 154 by decide) hS.1.1) (Nat.le_of_ble_eq_true rfl) (Nat.le_of_ble_eq_true rfl) rfl ?_
    refine wp_if_eq (fun c5 => ?_) (fun c5 => ?_)
    · rw [if_pos c5] at h
      refine y_blk (t := 21) rfl (show fnd bk_X13_next 21 = some _ from rfl) aB_X13_next ?_
      refine wp_aload_n (v := ((138 : Nat) : Int)) rfl (Int.natCast_nonneg _) ?_
      refine wp_iconst ⟨by decide, by decide⟩ ?_
      obtain ⟨x6, e7, h⟩ := d_bind h
      obtain ⟨r8, s9⟩ := t_X13_refused s2 e7
      refine y_callV (as := [(0, 1)]) (S1 := []) (Nat.le_of_ble_eq_true rfl) (by omega) r8 (Nat.le_of_ble_eq_true rfl) rfl (show ash 138 = (13, 38) from rfl) (Nat.lt_of_lt_of_le (show 138 < 154 by decide) hS.1.1) (Nat.le_of_ble_eq_true rfl) (Nat.le_of_ble_eq_true rfl) rfl ?_
      cases h
      exact y_ret0 (Or.inl rfl) ⟨rfl, rfl, s9⟩
    · rw [if_neg c5] at h
      refine wp_aload_n (v := ((138 : Nat) : Int)) rfl (Int.natCast_nonneg _) ?_
      refine wp_iload_n (v := v2) rfl ?_
      obtain ⟨x10, e11, h⟩ := d_bind h
      refine y_callV (as := [(0, v2)]) (S1 := []) (Nat.le_of_ble_eq_true rfl) (by omega) (t_X13_isCave s2 e11) (Nat.le_of_ble_eq_true rfl) rfl (show ash 138 = (13, 38) from rfl) (Nat.lt_of_lt_of_le (show 138 < 154 by decide) hS.1.1) (Nat.le_of_ble_eq_true rfl) (Nat.le_of_ble_eq_true rfl) rfl ?_
      refine y_nez (fun c12 => ?_) (fun c12 => ?_)
      · rw [if_neg c12] at h
        refine y_blk (t := 27) rfl (show fnd bk_X13_next 27 = some _ from rfl) aB_X13_next ?_
        refine wp_aload_n (v := ((138 : Nat) : Int)) rfl (Int.natCast_nonneg _) ?_
        obtain ⟨x13, e14, h⟩ := d_bind h
        obtain ⟨r15, s16⟩ := t_X13_works s2 e14
        refine y_callVv (as := []) (S1 := []) (Nat.le_of_ble_eq_true rfl) (by omega) r15 rfl (show ash 138 = (13, 38) from rfl) (Nat.lt_of_lt_of_le (show 138 < 154 by decide) hS.1.1) (Nat.le_of_ble_eq_true rfl) (Nat.le_of_ble_eq_true rfl) rfl ?_
        refine wp_aload_n (v := ((138 : Nat) : Int)) rfl (Int.natCast_nonneg _) ?_
        refine wp_aload_n (v := ((138 : Nat) : Int)) rfl (Int.natCast_nonneg _) ?_
        refine wp_iload_n (v := v1) rfl ?_
        refine wp_iload_n (v := v2) rfl ?_
        obtain ⟨x17, e18, h⟩ := d_bind h
        refine y_callV (as := [(0, v1), (0, v2)]) (S1 := [(2, ((138 : Nat) : Int))]) (Nat.le_of_ble_eq_true rfl) (by omega) (t_X13_towards s16 e18) (Nat.le_of_ble_eq_true rfl) rfl (show ash 138 = (13, 38) from rfl) (Nat.lt_of_lt_of_le (show 138 < 154 by decide) hS.1.1) (Nat.le_of_ble_eq_true rfl) (Nat.le_of_ble_eq_true rfl) rfl ?_
        obtain ⟨x19, e20, h⟩ := d_bind h
        obtain ⟨r21, s22⟩ := t_X13_good s16 e20
        refine y_callV (as := [(0, x17)]) (S1 := []) (Nat.le_of_ble_eq_true rfl) (by omega) r21 (Nat.le_of_ble_eq_true rfl) rfl (show ash 138 = (13, 38) from rfl) (Nat.lt_of_lt_of_le (show 138 < 154 by decide) hS.1.1) (Nat.le_of_ble_eq_true rfl) (Nat.le_of_ble_eq_true rfl) rfl ?_
        cases h
        exact y_ret0 (Or.inl rfl) ⟨rfl, rfl, s22⟩
      · rw [if_pos c12] at h
        refine y_blk (t := 21) rfl (show fnd bk_X13_next 21 = some _ from rfl) aB_X13_next ?_
        refine wp_aload_n (v := ((138 : Nat) : Int)) rfl (Int.natCast_nonneg _) ?_
        refine wp_iconst ⟨by decide, by decide⟩ ?_
        obtain ⟨x23, e24, h⟩ := d_bind h
        obtain ⟨r25, s26⟩ := t_X13_refused s2 e24
        refine y_callV (as := [(0, 1)]) (S1 := []) (Nat.le_of_ble_eq_true rfl) (by omega) r25 (Nat.le_of_ble_eq_true rfl) rfl (show ash 138 = (13, 38) from rfl) (Nat.lt_of_lt_of_le (show 138 < 154 by decide) hS.1.1) (Nat.le_of_ble_eq_true rfl) (Nat.le_of_ble_eq_true rfl) rfl ?_
        cases h
        exact y_ret0 (Or.inl rfl) ⟨rfl, rfl, s26⟩
  exact ⟨fun d hd => Ms.of3 (key d hd), Ms.sh (key 3 (Nat.le_refl _))⟩
theorem aB_X13_hearers : ∀ pc, aB 262 pc = fnd bk_X13_hearers pc := fun _ => rfl
def l_X13_hearers_27 (T : Nat) (v1 : Int) (M : aM) (k : Int → Int → Option (Int × aM)) : Nat → Int → Int → Option (Int × aM)
| 0, _, _ => none
| n + 1, v2, v3 =>
 if okW T (M 138 3) then
 if (M (M 138 3).toNat 8) ≤ v3 then
 k v2 v3 else
 if aIn (6 + v3) then
 if 0 ≤ (6 + v3) ∧ (6 + v3) < 12 then
 if 0 ≤ v1 ∧ v1 < 12 then
 (f_X13_apart T (M 141 ((6 + v3)).toNat) (M 141 (v1).toNat) M).bind fun x15 =>
 if (M (M 138 3).toNat 0) < x15 then
 if aIn (v3 + 1) then
 l_X13_hearers_27 T v1 M k n (aor v2 0) (v3 + 1) else none else
 if aIn (v3 + 1) then
 l_X13_hearers_27 T v1 M k n (aor v2 (ashl 1 v3)) (v3 + 1) else none else none else none else none else none
theorem tl_X13_hearers_27 {d : Nat} (hd : 3 ≤ d) {T : T3} {v1 : Int} {M : aM} {k : Int → Int → Option (Int × aM)} {y : (Int × aM)}  (hS : Sh T.1 M)
    (hk : ∀ (v2 v3 : Int), Sh T.1 M → k v2 v3 = some y → Wp d 262 83 [] [(2, ((138 : Nat) : Int)), (0, v1), (0, v2), (0, v3)] [] (M, T) (fun r2 σ2 => r2 = some (0, y.1) ∧ σ2 = (y.2, T) ∧ Sh T.1 y.2)) :
    ∀ (n : Nat) (v2 v3 : Int), Sh T.1 M → l_X13_hearers_27 T.1 v1 M k n v2 v3 = some y → Wp d 262 27 [] [(2, ((138 : Nat) : Int)), (0, v1), (0, v2), (0, v3)] [] (M, T) (fun r2 σ2 => r2 = some (0, y.1) ∧ σ2 = (y.2, T) ∧ Sh T.1 y.2) := by
  intro n
  induction n with
  | zero =>
    intro v2 v3 _ h
    exact nomatch (show (none : Option (Int × aM)) = some y from h)
  | succ n ih =>
    intro v2 v3 sM h
    rw [l_X13_hearers_27] at h
    refine y_blk (t := 27) rfl (show fnd bk_X13_hearers 27 = some _ from rfl) aB_X13_hearers ?_
    refine wp_iload_n (v := v3) rfl ?_
    refine wp_aload_n (v := ((138 : Nat) : Int)) rfl (Int.natCast_nonneg _) ?_
    obtain ⟨c10, h⟩ := d_ite h
    refine y_get (show ash 138 = (13, 38) from rfl) (Nat.lt_of_lt_of_le (show 138 < 154 by decide) hS.1.1) (v := (((M 138 3).toNat : Nat) : Int)) c10.eq rfl ?_
    refine y_get (aW0 hS.1.2 c10.is) (ltW c10.is 0 (by decide)) (v := M (M 138 3).toNat 8) rfl rfl ?_
    refine wp_icmp_ge (fun c11 => ?_) (fun c11 => ?_)
    · rw [if_pos c11] at h
      exact hk v2 v3   sM h
    · rw [if_neg c11] at h
      refine wp_iload_n (v := v2) rfl ?_
      refine wp_aload_n (v := ((138 : Nat) : Int)) rfl (Int.natCast_nonneg _) ?_
      refine wp_aload_n (v := ((138 : Nat) : Int)) rfl (Int.natCast_nonneg _) ?_
      refine y_get (show ash 138 = (13, 38) from rfl) (Nat.lt_of_lt_of_le (show 138 < 154 by decide) hS.1.1) (v := ((141 : Nat) : Int)) (sM.at 138 17 141 (by decide +kernel)) rfl ?_
      refine wp_bipush (by decide) ?_
      refine wp_iload_n (v := v3) rfl ?_
      obtain ⟨c12, h⟩ := d_ite h
      refine wp_iadd c12 ?_
      obtain ⟨c13, h⟩ := d_ite h
      refine y_iald (show ash 141 = (100, 12) from rfl) (Or.inl (Nat.lt_of_lt_of_le (show 141 < 154 by decide) hS.1.1)) (Nat.ne_of_lt (Nat.lt_of_lt_of_le (Nat.lt_of_lt_of_le (show 141 < 154 by decide) hS.1.1) hS.1.2)) c13 (v := M 141 ((6 + v3)).toNat) rfl ?_
      refine wp_aload_n (v := ((138 : Nat) : Int)) rfl (Int.natCast_nonneg _) ?_
      refine y_get (show ash 138 = (13, 38) from rfl) (Nat.lt_of_lt_of_le (show 138 < 154 by decide) hS.1.1) (v := ((141 : Nat) : Int)) (sM.at 138 17 141 (by decide +kernel)) rfl ?_
      refine wp_iload_n (v := v1) rfl ?_
      obtain ⟨c14, h⟩ := d_ite h
      refine y_iald (show ash 141 = (100, 12) from rfl) (Or.inl (Nat.lt_of_lt_of_le (show 141 < 154 by decide) hS.1.1)) (Nat.ne_of_lt (Nat.lt_of_lt_of_le (Nat.lt_of_lt_of_le (show 141 < 154 by decide) hS.1.1) hS.1.2)) c14 (v := M 141 (v1).toNat) rfl ?_
      obtain ⟨x15, e16, h⟩ := d_bind h
      refine y_callV (as := [(0, (M 141 ((6 + v3)).toNat)), (0, (M 141 (v1).toNat))]) (S1 := [(0, v2)]) (Nat.le_of_ble_eq_true rfl) (by omega) (t_X13_apart sM e16) (Nat.le_of_ble_eq_true rfl) rfl (show ash 138 = (13, 38) from rfl) (Nat.lt_of_lt_of_le (show 138 < 154 by decide) hS.1.1) (Nat.le_of_ble_eq_true rfl) (Nat.le_of_ble_eq_true rfl) rfl ?_
      refine wp_aload_n (v := ((138 : Nat) : Int)) rfl (Int.natCast_nonneg _) ?_
      refine y_get (show ash 138 = (13, 38) from rfl) (Nat.lt_of_lt_of_le (show 138 < 154 by decide) hS.1.1) (v := (((M 138 3).toNat : Nat) : Int)) c10.eq rfl ?_
      refine y_get (aW0 hS.1.2 c10.is) (ltW c10.is 0 (by decide)) (v := M (M 138 3).toNat 0) rfl rfl ?_
      refine wp_icmp_gt (fun c17 => ?_) (fun c17 => ?_)
      · rw [if_pos c17] at h
        refine y_blk (t := 74) rfl (show fnd bk_X13_hearers 74 = some _ from rfl) aB_X13_hearers ?_
        refine wp_iconst ⟨by decide, by decide⟩ ?_
        refine y_blk (t := 75) rfl (show fnd bk_X13_hearers 75 = some _ from rfl) aB_X13_hearers ?_
        refine wp_ior ?_
        refine y_stn (L1 := [(2, ((138 : Nat) : Int)), (0, v1), (0, (aor v2 0)), (0, v3)]) (Nat.le_of_ble_eq_true rfl) rfl ?_
        obtain ⟨c18, h⟩ := d_ite h
        refine y_iinc (L1 := [(2, ((138 : Nat) : Int)), (0, v1), (0, (aor v2 0)), (0, (v3 + 1))]) rfl (Nat.le_of_ble_eq_true rfl) ⟨by decide, by decide⟩ c18 rfl ?_
        refine wp_goto ?_
        exact ih (aor v2 0) (v3 + 1)   sM h
      · rw [if_neg c17] at h
        refine wp_iconst ⟨by decide, by decide⟩ ?_
        refine wp_iload_n (v := v3) rfl ?_
        refine wp_ishl ?_
        refine wp_goto ?_
        refine y_blk (t := 75) rfl (show fnd bk_X13_hearers 75 = some _ from rfl) aB_X13_hearers ?_
        refine wp_ior ?_
        refine y_stn (L1 := [(2, ((138 : Nat) : Int)), (0, v1), (0, (aor v2 (ashl 1 v3))), (0, v3)]) (Nat.le_of_ble_eq_true rfl) rfl ?_
        obtain ⟨c19, h⟩ := d_ite h
        refine y_iinc (L1 := [(2, ((138 : Nat) : Int)), (0, v1), (0, (aor v2 (ashl 1 v3))), (0, (v3 + 1))]) rfl (Nat.le_of_ble_eq_true rfl) ⟨by decide, by decide⟩ c19 rfl ?_
        refine wp_goto ?_
        exact ih (aor v2 (ashl 1 v3)) (v3 + 1)   sM h
def f_X13_hearers (T : Nat) (v1 : Int) (M : aM) : Option (Int × aM) :=
 (some (aup M 138 0 0)).bind fun m1 =>
 (f_X13_isVoice T v1 m1).bind fun x3 =>
 if x3 = 0 then
 (f_X13_refused T 1 m1).bind fun x27 =>
 some (x27.1, x27.2) else
 (f_X13_works T m1).bind fun x6 =>
 l_X13_hearers_27 T v1 x6.2 (fun w20 w21 =>
 (f_X13_good T w20 x6.2).bind fun x23 =>
 some (x23.1, x23.2)) FU 0 0
theorem t_X13_hearers {T : T3} {v1 : Int} {M : aM} {y : (Int × aM)}  (hS : Sh T.1 M) (h : f_X13_hearers T.1 v1 M = some y) : Mr 3 262 [(2, ((138 : Nat) : Int)), (0, v1)] M (some (0, y.1)) y.2 T ∧ Sh T.1 y.2 := by
  have key : ∀ d, 3 ≤ d → Wp d 262 0 [] [(2, ((138 : Nat) : Int)), (0, v1), (9, 0), (9, 0)] [] (M, T) (fun r2 σ2 => r2 = some (0, y.1) ∧ σ2 = (y.2, T) ∧ Sh T.1 y.2) := by
    intro d hd
    rw [f_X13_hearers] at h
    refine y_blk (t := 0) rfl (show fnd bk_X13_hearers 0 = some _ from rfl) aB_X13_hearers ?_
    refine wp_aload_n (v := ((138 : Nat) : Int)) rfl (Int.natCast_nonneg _) ?_
    refine wp_iconst ⟨by decide, by decide⟩ ?_
    refine y_put (show ash 138 = (13, 38) from rfl) (Nat.lt_of_lt_of_le (show 138 < 154 by decide) hS.1.1) rfl ?_
    obtain ⟨m1, em1, h⟩ := d_bind h
    have em1 := Option.some.inj em1
    have s2 : Sh T.1 m1 := em1 ▸ hS.up (Or.inr ⟨by rw [(show ash 138 = (13, 38) from rfl)]; decide, by rw [(show ash 138 = (13, 38) from rfl)]; decide⟩) (by have := (Nat.lt_of_lt_of_le (show 138 < 154 by decide) hS.1.1); have := hS.1.2; omega)
    rw [em1]
    refine wp_aload_n (v := ((138 : Nat) : Int)) rfl (Int.natCast_nonneg _) ?_
    refine wp_iload_n (v := v1) rfl ?_
    obtain ⟨x3, e4, h⟩ := d_bind h
    refine y_callV (as := [(0, v1)]) (S1 := []) (Nat.le_of_ble_eq_true rfl) (by omega) (t_X13_isVoice s2 e4) (Nat.le_of_ble_eq_true rfl) rfl (show ash 138 = (13, 38) from rfl) (Nat.lt_of_lt_of_le (show 138 < 154 by decide) hS.1.1) (Nat.le_of_ble_eq_true rfl) (Nat.le_of_ble_eq_true rfl) rfl ?_
    refine y_nez (fun c5 => ?_) (fun c5 => ?_)
    · rw [if_neg c5] at h
      refine y_blk (t := 19) rfl (show fnd bk_X13_hearers 19 = some _ from rfl) aB_X13_hearers ?_
      refine wp_aload_n (v := ((138 : Nat) : Int)) rfl (Int.natCast_nonneg _) ?_
      obtain ⟨x6, e7, h⟩ := d_bind h
      obtain ⟨r8, s9⟩ := t_X13_works s2 e7
      refine y_callVv (as := []) (S1 := []) (Nat.le_of_ble_eq_true rfl) (by omega) r8 rfl (show ash 138 = (13, 38) from rfl) (Nat.lt_of_lt_of_le (show 138 < 154 by decide) hS.1.1) (Nat.le_of_ble_eq_true rfl) (Nat.le_of_ble_eq_true rfl) rfl ?_
      refine wp_iconst ⟨by decide, by decide⟩ ?_
      refine y_stn (L1 := [(2, ((138 : Nat) : Int)), (0, v1), (0, 0), (9, 0)]) (Nat.le_of_ble_eq_true rfl) rfl ?_
      refine wp_iconst ⟨by decide, by decide⟩ ?_
      refine y_stn (L1 := [(2, ((138 : Nat) : Int)), (0, v1), (0, 0), (0, 0)]) (Nat.le_of_ble_eq_true rfl) rfl ?_
      refine tl_X13_hearers_27 (by omega) s9 (fun w20 w21   s22 h => ?_) FU 0 0   s9 h
      refine y_blk (t := 83) rfl (show fnd bk_X13_hearers 83 = some _ from rfl) aB_X13_hearers ?_
      refine wp_aload_n (v := ((138 : Nat) : Int)) rfl (Int.natCast_nonneg _) ?_
      refine wp_iload_n (v := w20) rfl ?_
      obtain ⟨x23, e24, h⟩ := d_bind h
      obtain ⟨r25, s26⟩ := t_X13_good s22 e24
      refine y_callV (as := [(0, w20)]) (S1 := []) (Nat.le_of_ble_eq_true rfl) (by omega) r25 (Nat.le_of_ble_eq_true rfl) rfl (show ash 138 = (13, 38) from rfl) (Nat.lt_of_lt_of_le (show 138 < 154 by decide) hS.1.1) (Nat.le_of_ble_eq_true rfl) (Nat.le_of_ble_eq_true rfl) rfl ?_
      cases h
      exact y_ret0 (Or.inl rfl) ⟨rfl, rfl, s26⟩
    · rw [if_pos c5] at h
      refine wp_aload_n (v := ((138 : Nat) : Int)) rfl (Int.natCast_nonneg _) ?_
      refine wp_iconst ⟨by decide, by decide⟩ ?_
      obtain ⟨x27, e28, h⟩ := d_bind h
      obtain ⟨r29, s30⟩ := t_X13_refused s2 e28
      refine y_callV (as := [(0, 1)]) (S1 := []) (Nat.le_of_ble_eq_true rfl) (by omega) r29 (Nat.le_of_ble_eq_true rfl) rfl (show ash 138 = (13, 38) from rfl) (Nat.lt_of_lt_of_le (show 138 < 154 by decide) hS.1.1) (Nat.le_of_ble_eq_true rfl) (Nat.le_of_ble_eq_true rfl) rfl ?_
      cases h
      exact y_ret0 (Or.inl rfl) ⟨rfl, rfl, s30⟩
  exact ⟨fun d hd => Ms.of3 (key d hd), Ms.sh (key 3 (Nat.le_refl _))⟩
theorem aB_X13_reached : ∀ pc, aB 263 pc = fnd bk_X13_reached pc := fun _ => rfl
def l_X13_reached_5 (T : Nat) (v1 : Int) (v2 : Int) (M : aM) (k : Int → Int → Option Int) : Nat → Int → Int → Option Int
| 0, _, _ => none
| n + 1, v3, v4 =>
 if okW T (M 138 3) then
 if (M (M 138 3).toNat 3) ≤ v4 then
 k v3 v4 else
 (f_X13_apart T v1 v4 M).bind fun x3 =>
 if v2 < x3 then
 if aIn (v4 + 1) then
 l_X13_reached_5 T v1 v2 M k n (aor v3 0) (v4 + 1) else none else
 if aIn (v4 + 1) then
 l_X13_reached_5 T v1 v2 M k n (aor v3 (ashl 1 v4)) (v4 + 1) else none else none
theorem tl_X13_reached_5 {d : Nat} (hd : 1 ≤ d) {T : T3} {v1 : Int} {v2 : Int} {M : aM} {k : Int → Int → Option Int} {y : Int}  (hS : Sh T.1 M)
    (hk : ∀ (v3 v4 : Int), Sh T.1 M → k v3 v4 = some y → Wp d 263 45 [] [(2, ((138 : Nat) : Int)), (0, v1), (0, v2), (0, v3), (0, v4)] [] (M, T) (fun r2 σ2 => r2 = some (0, y) ∧ σ2 = (M, T))) :
    ∀ (n : Nat) (v3 v4 : Int), Sh T.1 M → l_X13_reached_5 T.1 v1 v2 M k n v3 v4 = some y → Wp d 263 5 [] [(2, ((138 : Nat) : Int)), (0, v1), (0, v2), (0, v3), (0, v4)] [] (M, T) (fun r2 σ2 => r2 = some (0, y) ∧ σ2 = (M, T)) := by
  intro n
  induction n with
  | zero =>
    intro v3 v4 _ h
    exact nomatch (show (none : Option Int) = some y from h)
  | succ n ih =>
    intro v3 v4 sM h
    rw [l_X13_reached_5] at h
    refine y_blk (t := 5) rfl (show fnd bk_X13_reached 5 = some _ from rfl) aB_X13_reached ?_
    refine wp_iload (v := v4) rfl ?_
    refine wp_aload_n (v := ((138 : Nat) : Int)) rfl (Int.natCast_nonneg _) ?_
    obtain ⟨c1, h⟩ := d_ite h
    refine y_get (show ash 138 = (13, 38) from rfl) (Nat.lt_of_lt_of_le (show 138 < 154 by decide) hS.1.1) (v := (((M 138 3).toNat : Nat) : Int)) c1.eq rfl ?_
    refine y_get (aW0 hS.1.2 c1.is) (ltW c1.is 0 (by decide)) (v := M (M 138 3).toNat 3) rfl rfl ?_
    refine wp_icmp_ge (fun c2 => ?_) (fun c2 => ?_)
    · rw [if_pos c2] at h
      exact hk v3 v4   sM h
    · rw [if_neg c2] at h
      refine wp_iload_n (v := v3) rfl ?_
      refine wp_aload_n (v := ((138 : Nat) : Int)) rfl (Int.natCast_nonneg _) ?_
      refine wp_iload_n (v := v1) rfl ?_
      refine wp_iload (v := v4) rfl ?_
      obtain ⟨x3, e4, h⟩ := d_bind h
      refine y_callV (as := [(0, v1), (0, v4)]) (S1 := [(0, v3)]) (Nat.le_of_ble_eq_true rfl) (by omega) (t_X13_apart sM e4) (Nat.le_of_ble_eq_true rfl) rfl (show ash 138 = (13, 38) from rfl) (Nat.lt_of_lt_of_le (show 138 < 154 by decide) hS.1.1) (Nat.le_of_ble_eq_true rfl) (Nat.le_of_ble_eq_true rfl) rfl ?_
      refine wp_iload_n (v := v2) rfl ?_
      refine wp_icmp_gt (fun c5 => ?_) (fun c5 => ?_)
      · rw [if_pos c5] at h
        refine y_blk (t := 36) rfl (show fnd bk_X13_reached 36 = some _ from rfl) aB_X13_reached ?_
        refine wp_iconst ⟨by decide, by decide⟩ ?_
        refine y_blk (t := 37) rfl (show fnd bk_X13_reached 37 = some _ from rfl) aB_X13_reached ?_
        refine wp_ior ?_
        refine y_stn (L1 := [(2, ((138 : Nat) : Int)), (0, v1), (0, v2), (0, (aor v3 0)), (0, v4)]) (Nat.le_of_ble_eq_true rfl) rfl ?_
        obtain ⟨c6, h⟩ := d_ite h
        refine y_iinc (L1 := [(2, ((138 : Nat) : Int)), (0, v1), (0, v2), (0, (aor v3 0)), (0, (v4 + 1))]) rfl (Nat.le_of_ble_eq_true rfl) ⟨by decide, by decide⟩ c6 rfl ?_
        refine wp_goto ?_
        exact ih (aor v3 0) (v4 + 1)   sM h
      · rw [if_neg c5] at h
        refine wp_iconst ⟨by decide, by decide⟩ ?_
        refine wp_iload (v := v4) rfl ?_
        refine wp_ishl ?_
        refine wp_goto ?_
        refine y_blk (t := 37) rfl (show fnd bk_X13_reached 37 = some _ from rfl) aB_X13_reached ?_
        refine wp_ior ?_
        refine y_stn (L1 := [(2, ((138 : Nat) : Int)), (0, v1), (0, v2), (0, (aor v3 (ashl 1 v4))), (0, v4)]) (Nat.le_of_ble_eq_true rfl) rfl ?_
        obtain ⟨c7, h⟩ := d_ite h
        refine y_iinc (L1 := [(2, ((138 : Nat) : Int)), (0, v1), (0, v2), (0, (aor v3 (ashl 1 v4))), (0, (v4 + 1))]) rfl (Nat.le_of_ble_eq_true rfl) ⟨by decide, by decide⟩ c7 rfl ?_
        refine wp_goto ?_
        exact ih (aor v3 (ashl 1 v4)) (v4 + 1)   sM h
def f_X13_reached (T : Nat) (v1 : Int) (v2 : Int) (M : aM) : Option Int :=
 l_X13_reached_5 T v1 v2 M (fun w8 w9 =>
 some w8) FU 0 0
theorem t_X13_reached {T : T3} {v1 : Int} {v2 : Int} {M : aM} {y : Int}  (hS : Sh T.1 M) (h : f_X13_reached T.1 v1 v2 M = some y) : Mr 1 263 [(2, ((138 : Nat) : Int)), (0, v1), (0, v2)] M (some (0, y)) M T := by
  have key : ∀ d, 1 ≤ d → Wp d 263 0 [] [(2, ((138 : Nat) : Int)), (0, v1), (0, v2), (9, 0), (9, 0)] [] (M, T) (fun r2 σ2 => r2 = some (0, y) ∧ σ2 = (M, T)) := by
    intro d hd
    rw [f_X13_reached] at h
    refine y_blk (t := 0) rfl (show fnd bk_X13_reached 0 = some _ from rfl) aB_X13_reached ?_
    refine wp_iconst ⟨by decide, by decide⟩ ?_
    refine y_stn (L1 := [(2, ((138 : Nat) : Int)), (0, v1), (0, v2), (0, 0), (9, 0)]) (Nat.le_of_ble_eq_true rfl) rfl ?_
    refine wp_iconst ⟨by decide, by decide⟩ ?_
    refine y_st (L1 := [(2, ((138 : Nat) : Int)), (0, v1), (0, v2), (0, 0), (0, 0)]) (Nat.le_of_ble_eq_true rfl) rfl ?_
    refine tl_X13_reached_5 (by omega) hS (fun w8 w9   s10 h => ?_) FU 0 0   hS h
    refine y_blk (t := 45) rfl (show fnd bk_X13_reached 45 = some _ from rfl) aB_X13_reached ?_
    refine wp_iload_n (v := w8) rfl ?_
    cases h
    exact y_ret0 (Or.inl rfl) ⟨rfl, rfl⟩
  exact fun d hd => Ms.of (key d hd)
theorem aB_X13_heardFrom : ∀ pc, aB 264 pc = fnd bk_X13_heardFrom pc := fun _ => rfl
def f_X13_heardFrom (T : Nat) (v1 : Int) (M : aM) : Option (Int × aM) :=
 (some (aup M 138 0 0)).bind fun m1 =>
 (f_X13_isCave T v1 m1).bind fun x3 =>
 if x3 = 0 then
 (f_X13_refused T 1 m1).bind fun x17 =>
 some (x17.1, x17.2) else
 (f_X13_works T m1).bind fun x6 =>
 if okW T (x6.2 138 3) then
 (f_X13_reached T v1 (x6.2 (x6.2 138 3).toNat 0) x6.2).bind fun x11 =>
 (f_X13_good T x11 x6.2).bind fun x13 =>
 some (x13.1, x13.2) else none
theorem t_X13_heardFrom {T : T3} {v1 : Int} {M : aM} {y : (Int × aM)}  (hS : Sh T.1 M) (h : f_X13_heardFrom T.1 v1 M = some y) : Mr 3 264 [(2, ((138 : Nat) : Int)), (0, v1)] M (some (0, y.1)) y.2 T ∧ Sh T.1 y.2 := by
  have key : ∀ d, 3 ≤ d → Wp d 264 0 [] [(2, ((138 : Nat) : Int)), (0, v1)] [] (M, T) (fun r2 σ2 => r2 = some (0, y.1) ∧ σ2 = (y.2, T) ∧ Sh T.1 y.2) := by
    intro d hd
    rw [f_X13_heardFrom] at h
    refine y_blk (t := 0) rfl (show fnd bk_X13_heardFrom 0 = some _ from rfl) aB_X13_heardFrom ?_
    refine wp_aload_n (v := ((138 : Nat) : Int)) rfl (Int.natCast_nonneg _) ?_
    refine wp_iconst ⟨by decide, by decide⟩ ?_
    refine y_put (show ash 138 = (13, 38) from rfl) (Nat.lt_of_lt_of_le (show 138 < 154 by decide) hS.1.1) rfl ?_
    obtain ⟨m1, em1, h⟩ := d_bind h
    have em1 := Option.some.inj em1
    have s2 : Sh T.1 m1 := em1 ▸ hS.up (Or.inr ⟨by rw [(show ash 138 = (13, 38) from rfl)]; decide, by rw [(show ash 138 = (13, 38) from rfl)]; decide⟩) (by have := (Nat.lt_of_lt_of_le (show 138 < 154 by decide) hS.1.1); have := hS.1.2; omega)
    rw [em1]
    refine wp_aload_n (v := ((138 : Nat) : Int)) rfl (Int.natCast_nonneg _) ?_
    refine wp_iload_n (v := v1) rfl ?_
    obtain ⟨x3, e4, h⟩ := d_bind h
    refine y_callV (as := [(0, v1)]) (S1 := []) (Nat.le_of_ble_eq_true rfl) (by omega) (t_X13_isCave s2 e4) (Nat.le_of_ble_eq_true rfl) rfl (show ash 138 = (13, 38) from rfl) (Nat.lt_of_lt_of_le (show 138 < 154 by decide) hS.1.1) (Nat.le_of_ble_eq_true rfl) (Nat.le_of_ble_eq_true rfl) rfl ?_
    refine y_nez (fun c5 => ?_) (fun c5 => ?_)
    · rw [if_neg c5] at h
      refine y_blk (t := 19) rfl (show fnd bk_X13_heardFrom 19 = some _ from rfl) aB_X13_heardFrom ?_
      refine wp_aload_n (v := ((138 : Nat) : Int)) rfl (Int.natCast_nonneg _) ?_
      obtain ⟨x6, e7, h⟩ := d_bind h
      obtain ⟨r8, s9⟩ := t_X13_works s2 e7
      refine y_callVv (as := []) (S1 := []) (Nat.le_of_ble_eq_true rfl) (by omega) r8 rfl (show ash 138 = (13, 38) from rfl) (Nat.lt_of_lt_of_le (show 138 < 154 by decide) hS.1.1) (Nat.le_of_ble_eq_true rfl) (Nat.le_of_ble_eq_true rfl) rfl ?_
      refine wp_aload_n (v := ((138 : Nat) : Int)) rfl (Int.natCast_nonneg _) ?_
      refine wp_aload_n (v := ((138 : Nat) : Int)) rfl (Int.natCast_nonneg _) ?_
      refine wp_iload_n (v := v1) rfl ?_
      refine wp_aload_n (v := ((138 : Nat) : Int)) rfl (Int.natCast_nonneg _) ?_
      obtain ⟨c10, h⟩ := d_ite h
      refine y_get (show ash 138 = (13, 38) from rfl) (Nat.lt_of_lt_of_le (show 138 < 154 by decide) hS.1.1) (v := (((x6.2 138 3).toNat : Nat) : Int)) c10.eq rfl ?_
      refine y_get (aW0 hS.1.2 c10.is) (ltW c10.is 0 (by decide)) (v := x6.2 (x6.2 138 3).toNat 0) rfl rfl ?_
      obtain ⟨x11, e12, h⟩ := d_bind h
      refine y_callV (as := [(0, v1), (0, (x6.2 (x6.2 138 3).toNat 0))]) (S1 := [(2, ((138 : Nat) : Int))]) (Nat.le_of_ble_eq_true rfl) (by omega) (t_X13_reached s9 e12) (Nat.le_of_ble_eq_true rfl) rfl (show ash 138 = (13, 38) from rfl) (Nat.lt_of_lt_of_le (show 138 < 154 by decide) hS.1.1) (Nat.le_of_ble_eq_true rfl) (Nat.le_of_ble_eq_true rfl) rfl ?_
      obtain ⟨x13, e14, h⟩ := d_bind h
      obtain ⟨r15, s16⟩ := t_X13_good s9 e14
      refine y_callV (as := [(0, x11)]) (S1 := []) (Nat.le_of_ble_eq_true rfl) (by omega) r15 (Nat.le_of_ble_eq_true rfl) rfl (show ash 138 = (13, 38) from rfl) (Nat.lt_of_lt_of_le (show 138 < 154 by decide) hS.1.1) (Nat.le_of_ble_eq_true rfl) (Nat.le_of_ble_eq_true rfl) rfl ?_
      cases h
      exact y_ret0 (Or.inl rfl) ⟨rfl, rfl, s16⟩
    · rw [if_pos c5] at h
      refine wp_aload_n (v := ((138 : Nat) : Int)) rfl (Int.natCast_nonneg _) ?_
      refine wp_iconst ⟨by decide, by decide⟩ ?_
      obtain ⟨x17, e18, h⟩ := d_bind h
      obtain ⟨r19, s20⟩ := t_X13_refused s2 e18
      refine y_callV (as := [(0, 1)]) (S1 := []) (Nat.le_of_ble_eq_true rfl) (by omega) r19 (Nat.le_of_ble_eq_true rfl) rfl (show ash 138 = (13, 38) from rfl) (Nat.lt_of_lt_of_le (show 138 < 154 by decide) hS.1.1) (Nat.le_of_ble_eq_true rfl) (Nat.le_of_ble_eq_true rfl) rfl ?_
      cases h
      exact y_ret0 (Or.inl rfl) ⟨rfl, rfl, s20⟩
  exact ⟨fun d hd => Ms.of3 (key d hd), Ms.sh (key 3 (Nat.le_refl _))⟩
theorem aB_X13_parts : ∀ pc, aB 265 pc = fnd bk_X13_parts pc := fun _ => rfl
def l_X13_parts_28 (T : Nat)  (M : aM) (k : Int → Int → Int → Option (Int × aM)) : Nat → Int → Int → Int → Option (Int × aM)
| 0, _, _, _ => none
| n + 1, v1, v2, v3 =>
 if okW T (M 138 3) then
 if (M (M 138 3).toNat 3) ≤ v3 then
 k v1 v2 v3 else
 (f_X13_bit T v2 v3 M).bind fun x10 =>
 if x10 = 0 then
 if aIn (v1 + 1) then
 (f_X13_reached T v3 9998 M).bind fun x14 =>
 if aIn (v3 + 1) then
 l_X13_parts_28 T M k n (v1 + 1) (aor v2 x14) (v3 + 1) else none else none else
 if aIn (v1 + 0) then
 (f_X13_reached T v3 9998 M).bind fun x18 =>
 if aIn (v3 + 1) then
 l_X13_parts_28 T M k n (v1 + 0) (aor v2 x18) (v3 + 1) else none else none else none
theorem tl_X13_parts_28 {d : Nat} (hd : 3 ≤ d) {T : T3}  {M : aM} {k : Int → Int → Int → Option (Int × aM)} {y : (Int × aM)}  (hS : Sh T.1 M)
    (hk : ∀ (v1 v2 v3 : Int), Sh T.1 M → k v1 v2 v3 = some y → Wp d 265 72 [] [(2, ((138 : Nat) : Int)), (0, v1), (0, v2), (0, v3)] [] (M, T) (fun r2 σ2 => r2 = some (0, y.1) ∧ σ2 = (y.2, T) ∧ Sh T.1 y.2)) :
    ∀ (n : Nat) (v1 v2 v3 : Int), Sh T.1 M → l_X13_parts_28 T.1 M k n v1 v2 v3 = some y → Wp d 265 28 [] [(2, ((138 : Nat) : Int)), (0, v1), (0, v2), (0, v3)] [] (M, T) (fun r2 σ2 => r2 = some (0, y.1) ∧ σ2 = (y.2, T) ∧ Sh T.1 y.2) := by
  intro n
  induction n with
  | zero =>
    intro v1 v2 v3 _ h
    exact nomatch (show (none : Option (Int × aM)) = some y from h)
  | succ n ih =>
    intro v1 v2 v3 sM h
    rw [l_X13_parts_28] at h
    refine y_blk (t := 28) rfl (show fnd bk_X13_parts 28 = some _ from rfl) aB_X13_parts ?_
    refine wp_iload_n (v := v3) rfl ?_
    refine wp_aload_n (v := ((138 : Nat) : Int)) rfl (Int.natCast_nonneg _) ?_
    obtain ⟨c8, h⟩ := d_ite h
    refine y_get (show ash 138 = (13, 38) from rfl) (Nat.lt_of_lt_of_le (show 138 < 154 by decide) hS.1.1) (v := (((M 138 3).toNat : Nat) : Int)) c8.eq rfl ?_
    refine y_get (aW0 hS.1.2 c8.is) (ltW c8.is 0 (by decide)) (v := M (M 138 3).toNat 3) rfl rfl ?_
    refine wp_icmp_ge (fun c9 => ?_) (fun c9 => ?_)
    · rw [if_pos c9] at h
      exact hk v1 v2 v3   sM h
    · rw [if_neg c9] at h
      refine wp_iload_n (v := v1) rfl ?_
      refine wp_iload_n (v := v2) rfl ?_
      refine wp_iload_n (v := v3) rfl ?_
      obtain ⟨x10, e11, h⟩ := d_bind h
      refine y_callS (as := [(0, v2), (0, v3)]) (S1 := [(0, v1)]) (Nat.le_of_ble_eq_true rfl) (by omega) (t_X13_bit sM e11) (Nat.le_of_ble_eq_true rfl) rfl (Nat.le_of_ble_eq_true rfl) (Nat.le_of_ble_eq_true rfl) rfl ?_
      refine wp_if_eq (fun c12 => ?_) (fun c12 => ?_)
      · rw [if_pos c12] at h
        refine y_blk (t := 52) rfl (show fnd bk_X13_parts 52 = some _ from rfl) aB_X13_parts ?_
        refine wp_iconst ⟨by decide, by decide⟩ ?_
        refine y_blk (t := 53) rfl (show fnd bk_X13_parts 53 = some _ from rfl) aB_X13_parts ?_
        obtain ⟨c13, h⟩ := d_ite h
        refine wp_iadd c13 ?_
        refine y_stn (L1 := [(2, ((138 : Nat) : Int)), (0, (v1 + 1)), (0, v2), (0, v3)]) (Nat.le_of_ble_eq_true rfl) rfl ?_
        refine wp_iload_n (v := v2) rfl ?_
        refine wp_aload_n (v := ((138 : Nat) : Int)) rfl (Int.natCast_nonneg _) ?_
        refine wp_iload_n (v := v3) rfl ?_
        refine wp_sipush (by decide) ?_
        obtain ⟨x14, e15, h⟩ := d_bind h
        refine y_callV (as := [(0, v3), (0, 9998)]) (S1 := [(0, v2)]) (Nat.le_of_ble_eq_true rfl) (by omega) (t_X13_reached sM e15) (Nat.le_of_ble_eq_true rfl) rfl (show ash 138 = (13, 38) from rfl) (Nat.lt_of_lt_of_le (show 138 < 154 by decide) hS.1.1) (Nat.le_of_ble_eq_true rfl) (Nat.le_of_ble_eq_true rfl) rfl ?_
        refine wp_ior ?_
        refine y_stn (L1 := [(2, ((138 : Nat) : Int)), (0, (v1 + 1)), (0, (aor v2 x14)), (0, v3)]) (Nat.le_of_ble_eq_true rfl) rfl ?_
        obtain ⟨c16, h⟩ := d_ite h
        refine y_iinc (L1 := [(2, ((138 : Nat) : Int)), (0, (v1 + 1)), (0, (aor v2 x14)), (0, (v3 + 1))]) rfl (Nat.le_of_ble_eq_true rfl) ⟨by decide, by decide⟩ c16 rfl ?_
        refine wp_goto ?_
        exact ih (v1 + 1) (aor v2 x14) (v3 + 1)   sM h
      · rw [if_neg c12] at h
        refine wp_iconst ⟨by decide, by decide⟩ ?_
        refine wp_goto ?_
        refine y_blk (t := 53) rfl (show fnd bk_X13_parts 53 = some _ from rfl) aB_X13_parts ?_
        obtain ⟨c17, h⟩ := d_ite h
        refine wp_iadd c17 ?_
        refine y_stn (L1 := [(2, ((138 : Nat) : Int)), (0, (v1 + 0)), (0, v2), (0, v3)]) (Nat.le_of_ble_eq_true rfl) rfl ?_
        refine wp_iload_n (v := v2) rfl ?_
        refine wp_aload_n (v := ((138 : Nat) : Int)) rfl (Int.natCast_nonneg _) ?_
        refine wp_iload_n (v := v3) rfl ?_
        refine wp_sipush (by decide) ?_
        obtain ⟨x18, e19, h⟩ := d_bind h
        refine y_callV (as := [(0, v3), (0, 9998)]) (S1 := [(0, v2)]) (Nat.le_of_ble_eq_true rfl) (by omega) (t_X13_reached sM e19) (Nat.le_of_ble_eq_true rfl) rfl (show ash 138 = (13, 38) from rfl) (Nat.lt_of_lt_of_le (show 138 < 154 by decide) hS.1.1) (Nat.le_of_ble_eq_true rfl) (Nat.le_of_ble_eq_true rfl) rfl ?_
        refine wp_ior ?_
        refine y_stn (L1 := [(2, ((138 : Nat) : Int)), (0, (v1 + 0)), (0, (aor v2 x18)), (0, v3)]) (Nat.le_of_ble_eq_true rfl) rfl ?_
        obtain ⟨c20, h⟩ := d_ite h
        refine y_iinc (L1 := [(2, ((138 : Nat) : Int)), (0, (v1 + 0)), (0, (aor v2 x18)), (0, (v3 + 1))]) rfl (Nat.le_of_ble_eq_true rfl) ⟨by decide, by decide⟩ c20 rfl ?_
        refine wp_goto ?_
        exact ih (v1 + 0) (aor v2 x18) (v3 + 1)   sM h
def f_X13_parts (T : Nat)  (M : aM) : Option (Int × aM) :=
 (some (aup M 138 0 0)).bind fun m1 =>
 if m1 138 3 < 0 then
 (f_X13_refused T 1 m1).bind fun x29 =>
 some (x29.1, x29.2) else
 (f_X13_works T m1).bind fun x4 =>
 l_X13_parts_28 T x4.2 (fun w21 w22 w23 =>
 (f_X13_good T w21 x4.2).bind fun x25 =>
 some (x25.1, x25.2)) FU 0 0 0
theorem t_X13_parts {T : T3}  {M : aM} {y : (Int × aM)}  (hS : Sh T.1 M) (h : f_X13_parts T.1  M = some y) : Mr 3 265 [(2, ((138 : Nat) : Int))] M (some (0, y.1)) y.2 T ∧ Sh T.1 y.2 := by
  have key : ∀ d, 3 ≤ d → Wp d 265 0 [] [(2, ((138 : Nat) : Int)), (9, 0), (9, 0), (9, 0)] [] (M, T) (fun r2 σ2 => r2 = some (0, y.1) ∧ σ2 = (y.2, T) ∧ Sh T.1 y.2) := by
    intro d hd
    rw [f_X13_parts] at h
    refine y_blk (t := 0) rfl (show fnd bk_X13_parts 0 = some _ from rfl) aB_X13_parts ?_
    refine wp_aload_n (v := ((138 : Nat) : Int)) rfl (Int.natCast_nonneg _) ?_
    refine wp_iconst ⟨by decide, by decide⟩ ?_
    refine y_put (show ash 138 = (13, 38) from rfl) (Nat.lt_of_lt_of_le (show 138 < 154 by decide) hS.1.1) rfl ?_
    obtain ⟨m1, em1, h⟩ := d_bind h
    have em1 := Option.some.inj em1
    have s2 : Sh T.1 m1 := em1 ▸ hS.up (Or.inr ⟨by rw [(show ash 138 = (13, 38) from rfl)]; decide, by rw [(show ash 138 = (13, 38) from rfl)]; decide⟩) (by have := (Nat.lt_of_lt_of_le (show 138 < 154 by decide) hS.1.1); have := hS.1.2; omega)
    rw [em1]
    refine wp_aload_n (v := ((138 : Nat) : Int)) rfl (Int.natCast_nonneg _) ?_
    refine y_get (show ash 138 = (13, 38) from rfl) (Nat.lt_of_lt_of_le (show 138 < 154 by decide) hS.1.1) (v := m1 138 3) rfl rfl ?_
    refine wp_ifnonnull (fun c3 => ?_) (fun c3 => ?_)
    · rw [if_neg c3] at h
      refine y_blk (t := 18) rfl (show fnd bk_X13_parts 18 = some _ from rfl) aB_X13_parts ?_
      refine wp_aload_n (v := ((138 : Nat) : Int)) rfl (Int.natCast_nonneg _) ?_
      obtain ⟨x4, e5, h⟩ := d_bind h
      obtain ⟨r6, s7⟩ := t_X13_works s2 e5
      refine y_callVv (as := []) (S1 := []) (Nat.le_of_ble_eq_true rfl) (by omega) r6 rfl (show ash 138 = (13, 38) from rfl) (Nat.lt_of_lt_of_le (show 138 < 154 by decide) hS.1.1) (Nat.le_of_ble_eq_true rfl) (Nat.le_of_ble_eq_true rfl) rfl ?_
      refine wp_iconst ⟨by decide, by decide⟩ ?_
      refine y_stn (L1 := [(2, ((138 : Nat) : Int)), (0, 0), (9, 0), (9, 0)]) (Nat.le_of_ble_eq_true rfl) rfl ?_
      refine wp_iconst ⟨by decide, by decide⟩ ?_
      refine y_stn (L1 := [(2, ((138 : Nat) : Int)), (0, 0), (0, 0), (9, 0)]) (Nat.le_of_ble_eq_true rfl) rfl ?_
      refine wp_iconst ⟨by decide, by decide⟩ ?_
      refine y_stn (L1 := [(2, ((138 : Nat) : Int)), (0, 0), (0, 0), (0, 0)]) (Nat.le_of_ble_eq_true rfl) rfl ?_
      refine tl_X13_parts_28 (by omega) s7 (fun w21 w22 w23   s24 h => ?_) FU 0 0 0   s7 h
      refine y_blk (t := 72) rfl (show fnd bk_X13_parts 72 = some _ from rfl) aB_X13_parts ?_
      refine wp_aload_n (v := ((138 : Nat) : Int)) rfl (Int.natCast_nonneg _) ?_
      refine wp_iload_n (v := w21) rfl ?_
      obtain ⟨x25, e26, h⟩ := d_bind h
      obtain ⟨r27, s28⟩ := t_X13_good s24 e26
      refine y_callV (as := [(0, w21)]) (S1 := []) (Nat.le_of_ble_eq_true rfl) (by omega) r27 (Nat.le_of_ble_eq_true rfl) rfl (show ash 138 = (13, 38) from rfl) (Nat.lt_of_lt_of_le (show 138 < 154 by decide) hS.1.1) (Nat.le_of_ble_eq_true rfl) (Nat.le_of_ble_eq_true rfl) rfl ?_
      cases h
      exact y_ret0 (Or.inl rfl) ⟨rfl, rfl, s28⟩
    · rw [if_pos c3] at h
      refine wp_aload_n (v := ((138 : Nat) : Int)) rfl (Int.natCast_nonneg _) ?_
      refine wp_iconst ⟨by decide, by decide⟩ ?_
      obtain ⟨x29, e30, h⟩ := d_bind h
      obtain ⟨r31, s32⟩ := t_X13_refused s2 e30
      refine y_callV (as := [(0, 1)]) (S1 := []) (Nat.le_of_ble_eq_true rfl) (by omega) r31 (Nat.le_of_ble_eq_true rfl) rfl (show ash 138 = (13, 38) from rfl) (Nat.lt_of_lt_of_le (show 138 < 154 by decide) hS.1.1) (Nat.le_of_ble_eq_true rfl) (Nat.le_of_ble_eq_true rfl) rfl ?_
      cases h
      exact y_ret0 (Or.inl rfl) ⟨rfl, rfl, s32⟩
  exact ⟨fun d hd => Ms.of3 (key d hd), Ms.sh (key 3 (Nat.le_refl _))⟩
theorem aB_X13_farthest : ∀ pc, aB 266 pc = fnd bk_X13_farthest pc := fun _ => rfl
def l_X13_farthest_27 (T : Nat) (v1 : Int) (M : aM) (k : Int → Int → Option (Int × aM)) : Nat → Int → Int → Option (Int × aM)
| 0, _, _ => none
| n + 1, v2, v3 =>
 if okW T (M 138 3) then
 if (M (M 138 3).toNat 3) ≤ v3 then
 k v2 v3 else
 (f_X13_apart T v1 v3 M).bind fun x12 =>
 if 9999 ≤ x12 then
 if aIn (v3 + 1) then
 l_X13_farthest_27 T v1 M k n v2 (v3 + 1) else none else
 (f_X13_apart T v1 v2 M).bind fun x16 =>
 if x16 < x12 then
 if aIn (v3 + 1) then
 l_X13_farthest_27 T v1 M k n v3 (v3 + 1) else none else
 (f_X13_apart T v1 v2 M).bind fun x20 =>
 if x12 = x20 then
 if v2 ≤ v3 then
 if aIn (v3 + 1) then
 l_X13_farthest_27 T v1 M k n v2 (v3 + 1) else none else
 if aIn (v3 + 1) then
 l_X13_farthest_27 T v1 M k n v3 (v3 + 1) else none else
 if aIn (v3 + 1) then
 l_X13_farthest_27 T v1 M k n v2 (v3 + 1) else none else none
theorem tl_X13_farthest_27 {d : Nat} (hd : 3 ≤ d) {T : T3} {v1 : Int} {M : aM} {k : Int → Int → Option (Int × aM)} {y : (Int × aM)}  (hS : Sh T.1 M)
    (hk : ∀ (v2 v3 : Int) (u4 : aV), Sh T.1 M → k v2 v3 = some y → Wp d 266 89 [] [(2, ((138 : Nat) : Int)), (0, v1), (0, v2), (0, v3), u4] [] (M, T) (fun r2 σ2 => r2 = some (0, y.1) ∧ σ2 = (y.2, T) ∧ Sh T.1 y.2)) :
    ∀ (n : Nat) (v2 v3 : Int) (u4 : aV), Sh T.1 M → l_X13_farthest_27 T.1 v1 M k n v2 v3 = some y → Wp d 266 27 [] [(2, ((138 : Nat) : Int)), (0, v1), (0, v2), (0, v3), u4] [] (M, T) (fun r2 σ2 => r2 = some (0, y.1) ∧ σ2 = (y.2, T) ∧ Sh T.1 y.2) := by
  intro n
  induction n with
  | zero =>
    intro v2 v3 u4 _ h
    exact nomatch (show (none : Option (Int × aM)) = some y from h)
  | succ n ih =>
    intro v2 v3 u4 sM h
    rw [l_X13_farthest_27] at h
    refine y_blk (t := 27) rfl (show fnd bk_X13_farthest 27 = some _ from rfl) aB_X13_farthest ?_
    refine wp_iload_n (v := v3) rfl ?_
    refine wp_aload_n (v := ((138 : Nat) : Int)) rfl (Int.natCast_nonneg _) ?_
    obtain ⟨c10, h⟩ := d_ite h
    refine y_get (show ash 138 = (13, 38) from rfl) (Nat.lt_of_lt_of_le (show 138 < 154 by decide) hS.1.1) (v := (((M 138 3).toNat : Nat) : Int)) c10.eq rfl ?_
    refine y_get (aW0 hS.1.2 c10.is) (ltW c10.is 0 (by decide)) (v := M (M 138 3).toNat 3) rfl rfl ?_
    refine wp_icmp_ge (fun c11 => ?_) (fun c11 => ?_)
    · rw [if_pos c11] at h
      exact hk v2 v3 u4  sM h
    · rw [if_neg c11] at h
      refine wp_aload_n (v := ((138 : Nat) : Int)) rfl (Int.natCast_nonneg _) ?_
      refine wp_iload_n (v := v1) rfl ?_
      refine wp_iload_n (v := v3) rfl ?_
      obtain ⟨x12, e13, h⟩ := d_bind h
      refine y_callV (as := [(0, v1), (0, v3)]) (S1 := []) (Nat.le_of_ble_eq_true rfl) (by omega) (t_X13_apart sM e13) (Nat.le_of_ble_eq_true rfl) rfl (show ash 138 = (13, 38) from rfl) (Nat.lt_of_lt_of_le (show 138 < 154 by decide) hS.1.1) (Nat.le_of_ble_eq_true rfl) (Nat.le_of_ble_eq_true rfl) rfl ?_
      refine y_st (L1 := [(2, ((138 : Nat) : Int)), (0, v1), (0, v2), (0, v3), (0, x12)]) (Nat.le_of_ble_eq_true rfl) rfl ?_
      refine wp_iload (v := x12) rfl ?_
      refine wp_sipush (by decide) ?_
      refine wp_icmp_ge (fun c14 => ?_) (fun c14 => ?_)
      · rw [if_pos c14] at h
        refine y_blk (t := 83) rfl (show fnd bk_X13_farthest 83 = some _ from rfl) aB_X13_farthest ?_
        obtain ⟨c15, h⟩ := d_ite h
        refine y_iinc (L1 := [(2, ((138 : Nat) : Int)), (0, v1), (0, v2), (0, (v3 + 1)), (0, x12)]) rfl (Nat.le_of_ble_eq_true rfl) ⟨by decide, by decide⟩ c15 rfl ?_
        refine wp_goto ?_
        exact ih v2 (v3 + 1) (0, x12)  sM h
      · rw [if_neg c14] at h
        refine wp_iload (v := x12) rfl ?_
        refine wp_aload_n (v := ((138 : Nat) : Int)) rfl (Int.natCast_nonneg _) ?_
        refine wp_iload_n (v := v1) rfl ?_
        refine wp_iload_n (v := v2) rfl ?_
        obtain ⟨x16, e17, h⟩ := d_bind h
        refine y_callV (as := [(0, v1), (0, v2)]) (S1 := [(0, x12)]) (Nat.le_of_ble_eq_true rfl) (by omega) (t_X13_apart sM e17) (Nat.le_of_ble_eq_true rfl) rfl (show ash 138 = (13, 38) from rfl) (Nat.lt_of_lt_of_le (show 138 < 154 by decide) hS.1.1) (Nat.le_of_ble_eq_true rfl) (Nat.le_of_ble_eq_true rfl) rfl ?_
        refine wp_icmp_gt (fun c18 => ?_) (fun c18 => ?_)
        · rw [if_pos c18] at h
          refine y_blk (t := 81) rfl (show fnd bk_X13_farthest 81 = some _ from rfl) aB_X13_farthest ?_
          refine wp_iload_n (v := v3) rfl ?_
          refine y_stn (L1 := [(2, ((138 : Nat) : Int)), (0, v1), (0, v3), (0, v3), (0, x12)]) (Nat.le_of_ble_eq_true rfl) rfl ?_
          refine y_blk (t := 83) rfl (show fnd bk_X13_farthest 83 = some _ from rfl) aB_X13_farthest ?_
          obtain ⟨c19, h⟩ := d_ite h
          refine y_iinc (L1 := [(2, ((138 : Nat) : Int)), (0, v1), (0, v3), (0, (v3 + 1)), (0, x12)]) rfl (Nat.le_of_ble_eq_true rfl) ⟨by decide, by decide⟩ c19 rfl ?_
          refine wp_goto ?_
          exact ih v3 (v3 + 1) (0, x12)  sM h
        · rw [if_neg c18] at h
          refine wp_iload (v := x12) rfl ?_
          refine wp_aload_n (v := ((138 : Nat) : Int)) rfl (Int.natCast_nonneg _) ?_
          refine wp_iload_n (v := v1) rfl ?_
          refine wp_iload_n (v := v2) rfl ?_
          obtain ⟨x20, e21, h⟩ := d_bind h
          refine y_callV (as := [(0, v1), (0, v2)]) (S1 := [(0, x12)]) (Nat.le_of_ble_eq_true rfl) (by omega) (t_X13_apart sM e21) (Nat.le_of_ble_eq_true rfl) rfl (show ash 138 = (13, 38) from rfl) (Nat.lt_of_lt_of_le (show 138 < 154 by decide) hS.1.1) (Nat.le_of_ble_eq_true rfl) (Nat.le_of_ble_eq_true rfl) rfl ?_
          refine y_ne (fun c22 => ?_) (fun c22 => ?_)
          · rw [if_neg c22] at h
            refine y_blk (t := 83) rfl (show fnd bk_X13_farthest 83 = some _ from rfl) aB_X13_farthest ?_
            obtain ⟨c23, h⟩ := d_ite h
            refine y_iinc (L1 := [(2, ((138 : Nat) : Int)), (0, v1), (0, v2), (0, (v3 + 1)), (0, x12)]) rfl (Nat.le_of_ble_eq_true rfl) ⟨by decide, by decide⟩ c23 rfl ?_
            refine wp_goto ?_
            exact ih v2 (v3 + 1) (0, x12)  sM h
          · rw [if_pos c22] at h
            refine wp_iload_n (v := v3) rfl ?_
            refine wp_iload_n (v := v2) rfl ?_
            refine wp_icmp_ge (fun c24 => ?_) (fun c24 => ?_)
            · rw [if_pos c24] at h
              refine y_blk (t := 83) rfl (show fnd bk_X13_farthest 83 = some _ from rfl) aB_X13_farthest ?_
              obtain ⟨c25, h⟩ := d_ite h
              refine y_iinc (L1 := [(2, ((138 : Nat) : Int)), (0, v1), (0, v2), (0, (v3 + 1)), (0, x12)]) rfl (Nat.le_of_ble_eq_true rfl) ⟨by decide, by decide⟩ c25 rfl ?_
              refine wp_goto ?_
              exact ih v2 (v3 + 1) (0, x12)  sM h
            · rw [if_neg c24] at h
              refine y_blk (t := 81) rfl (show fnd bk_X13_farthest 81 = some _ from rfl) aB_X13_farthest ?_
              refine wp_iload_n (v := v3) rfl ?_
              refine y_stn (L1 := [(2, ((138 : Nat) : Int)), (0, v1), (0, v3), (0, v3), (0, x12)]) (Nat.le_of_ble_eq_true rfl) rfl ?_
              refine y_blk (t := 83) rfl (show fnd bk_X13_farthest 83 = some _ from rfl) aB_X13_farthest ?_
              obtain ⟨c26, h⟩ := d_ite h
              refine y_iinc (L1 := [(2, ((138 : Nat) : Int)), (0, v1), (0, v3), (0, (v3 + 1)), (0, x12)]) rfl (Nat.le_of_ble_eq_true rfl) ⟨by decide, by decide⟩ c26 rfl ?_
              refine wp_goto ?_
              exact ih v3 (v3 + 1) (0, x12)  sM h
def f_X13_farthest (T : Nat) (v1 : Int) (M : aM) : Option (Int × aM) :=
 (some (aup M 138 0 0)).bind fun m1 =>
 (f_X13_isCave T v1 m1).bind fun x3 =>
 if x3 = 0 then
 (f_X13_refused T 1 m1).bind fun x35 =>
 some (x35.1, x35.2) else
 (f_X13_works T m1).bind fun x6 =>
 l_X13_farthest_27 T v1 x6.2 (fun w27 w28 =>
 (f_X13_good T w27 x6.2).bind fun x31 =>
 some (x31.1, x31.2)) FU v1 0
theorem t_X13_farthest {T : T3} {v1 : Int} {M : aM} {y : (Int × aM)}  (hS : Sh T.1 M) (h : f_X13_farthest T.1 v1 M = some y) : Mr 3 266 [(2, ((138 : Nat) : Int)), (0, v1)] M (some (0, y.1)) y.2 T ∧ Sh T.1 y.2 := by
  have key : ∀ d, 3 ≤ d → Wp d 266 0 [] [(2, ((138 : Nat) : Int)), (0, v1), (9, 0), (9, 0), (9, 0)] [] (M, T) (fun r2 σ2 => r2 = some (0, y.1) ∧ σ2 = (y.2, T) ∧ Sh T.1 y.2) := by
    intro d hd
    rw [f_X13_farthest] at h
    refine y_blk (t := 0) rfl (show fnd bk_X13_farthest 0 = some _ from rfl) aB_X13_farthest ?_
    refine wp_aload_n (v := ((138 : Nat) : Int)) rfl (Int.natCast_nonneg _) ?_
    refine wp_iconst ⟨by decide, by decide⟩ ?_
    refine y_put (show ash 138 = (13, 38) from rfl) (Nat.lt_of_lt_of_le (show 138 < 154 by decide) hS.1.1) rfl ?_
    obtain ⟨m1, em1, h⟩ := d_bind h
    have em1 := Option.some.inj em1
    have s2 : Sh T.1 m1 := em1 ▸ hS.up (Or.inr ⟨by rw [(show ash 138 = (13, 38) from rfl)]; decide, by rw [(show ash 138 = (13, 38) from rfl)]; decide⟩) (by have := (Nat.lt_of_lt_of_le (show 138 < 154 by decide) hS.1.1); have := hS.1.2; omega)
    rw [em1]
    refine wp_aload_n (v := ((138 : Nat) : Int)) rfl (Int.natCast_nonneg _) ?_
    refine wp_iload_n (v := v1) rfl ?_
    obtain ⟨x3, e4, h⟩ := d_bind h
    refine y_callV (as := [(0, v1)]) (S1 := []) (Nat.le_of_ble_eq_true rfl) (by omega) (t_X13_isCave s2 e4) (Nat.le_of_ble_eq_true rfl) rfl (show ash 138 = (13, 38) from rfl) (Nat.lt_of_lt_of_le (show 138 < 154 by decide) hS.1.1) (Nat.le_of_ble_eq_true rfl) (Nat.le_of_ble_eq_true rfl) rfl ?_
    refine y_nez (fun c5 => ?_) (fun c5 => ?_)
    · rw [if_neg c5] at h
      refine y_blk (t := 19) rfl (show fnd bk_X13_farthest 19 = some _ from rfl) aB_X13_farthest ?_
      refine wp_aload_n (v := ((138 : Nat) : Int)) rfl (Int.natCast_nonneg _) ?_
      obtain ⟨x6, e7, h⟩ := d_bind h
      obtain ⟨r8, s9⟩ := t_X13_works s2 e7
      refine y_callVv (as := []) (S1 := []) (Nat.le_of_ble_eq_true rfl) (by omega) r8 rfl (show ash 138 = (13, 38) from rfl) (Nat.lt_of_lt_of_le (show 138 < 154 by decide) hS.1.1) (Nat.le_of_ble_eq_true rfl) (Nat.le_of_ble_eq_true rfl) rfl ?_
      refine wp_iload_n (v := v1) rfl ?_
      refine y_stn (L1 := [(2, ((138 : Nat) : Int)), (0, v1), (0, v1), (9, 0), (9, 0)]) (Nat.le_of_ble_eq_true rfl) rfl ?_
      refine wp_iconst ⟨by decide, by decide⟩ ?_
      refine y_stn (L1 := [(2, ((138 : Nat) : Int)), (0, v1), (0, v1), (0, 0), (9, 0)]) (Nat.le_of_ble_eq_true rfl) rfl ?_
      refine tl_X13_farthest_27 (by omega) s9 (fun w27 w28 u29  s30 h => ?_) FU v1 0 (9, 0)  s9 h
      refine y_blk (t := 89) rfl (show fnd bk_X13_farthest 89 = some _ from rfl) aB_X13_farthest ?_
      refine wp_aload_n (v := ((138 : Nat) : Int)) rfl (Int.natCast_nonneg _) ?_
      refine wp_iload_n (v := w27) rfl ?_
      obtain ⟨x31, e32, h⟩ := d_bind h
      obtain ⟨r33, s34⟩ := t_X13_good s30 e32
      refine y_callV (as := [(0, w27)]) (S1 := []) (Nat.le_of_ble_eq_true rfl) (by omega) r33 (Nat.le_of_ble_eq_true rfl) rfl (show ash 138 = (13, 38) from rfl) (Nat.lt_of_lt_of_le (show 138 < 154 by decide) hS.1.1) (Nat.le_of_ble_eq_true rfl) (Nat.le_of_ble_eq_true rfl) rfl ?_
      cases h
      exact y_ret0 (Or.inl rfl) ⟨rfl, rfl, s34⟩
    · rw [if_pos c5] at h
      refine wp_aload_n (v := ((138 : Nat) : Int)) rfl (Int.natCast_nonneg _) ?_
      refine wp_iconst ⟨by decide, by decide⟩ ?_
      obtain ⟨x35, e36, h⟩ := d_bind h
      obtain ⟨r37, s38⟩ := t_X13_refused s2 e36
      refine y_callV (as := [(0, 1)]) (S1 := []) (Nat.le_of_ble_eq_true rfl) (by omega) r37 (Nat.le_of_ble_eq_true rfl) rfl (show ash 138 = (13, 38) from rfl) (Nat.lt_of_lt_of_le (show 138 < 154 by decide) hS.1.1) (Nat.le_of_ble_eq_true rfl) (Nat.le_of_ble_eq_true rfl) rfl ?_
      cases h
      exact y_ret0 (Or.inl rfl) ⟨rfl, rfl, s38⟩
  exact ⟨fun d hd => Ms.of3 (key d hd), Ms.sh (key 3 (Nat.le_refl _))⟩
theorem aB_X13_pairsWithout : ∀ pc, aB 267 pc = fnd bk_X13_pairsWithout pc := fun _ => rfl
def l_X13_pairsWithout_18 (T : Nat) (v1 : Int) (v3 : Int) (M : aM) (k : Int → Int → Option Int) : Nat → Int → Int → Option Int
| 0, _, _ => none
| n + 1, v2, v4 =>
 if v3 ≤ v4 then
 k v2 v4 else
 if v3 = v1 then
 if aIn (v4 + 1) then
 l_X13_pairsWithout_18 T v1 v3 M k n v2 (v4 + 1) else none else
 if v4 = v1 then
 if aIn (v4 + 1) then
 l_X13_pairsWithout_18 T v1 v3 M k n v2 (v4 + 1) else none else
 (f_X13_apart T v3 v4 M).bind fun x8 =>
 if 9999 ≤ x8 then
 if aIn (v4 + 1) then
 l_X13_pairsWithout_18 T v1 v3 M k n v2 (v4 + 1) else none else
 if aIn (v2 + 1) then
 if aIn (v4 + 1) then
 l_X13_pairsWithout_18 T v1 v3 M k n (v2 + 1) (v4 + 1) else none else none
theorem tl_X13_pairsWithout_18 {d : Nat} (hd : 1 ≤ d) {T : T3} {v1 : Int} {v3 : Int} {M : aM} {k : Int → Int → Option Int} {y : Int}  (hS : Sh T.1 M)
    (hk : ∀ (v2 v4 : Int), Sh T.1 M → k v2 v4 = some y → Wp d 267 57 [] [(2, ((138 : Nat) : Int)), (0, v1), (0, v2), (0, v3), (0, v4)] [] (M, T) (fun r2 σ2 => r2 = some (0, y) ∧ σ2 = (M, T))) :
    ∀ (n : Nat) (v2 v4 : Int), Sh T.1 M → l_X13_pairsWithout_18 T.1 v1 v3 M k n v2 v4 = some y → Wp d 267 18 [] [(2, ((138 : Nat) : Int)), (0, v1), (0, v2), (0, v3), (0, v4)] [] (M, T) (fun r2 σ2 => r2 = some (0, y) ∧ σ2 = (M, T)) := by
  intro n
  induction n with
  | zero =>
    intro v2 v4 _ h
    exact nomatch (show (none : Option Int) = some y from h)
  | succ n ih =>
    intro v2 v4 sM h
    rw [l_X13_pairsWithout_18] at h
    refine y_blk (t := 18) rfl (show fnd bk_X13_pairsWithout 18 = some _ from rfl) aB_X13_pairsWithout ?_
    refine wp_iload (v := v4) rfl ?_
    refine wp_iload_n (v := v3) rfl ?_
    refine wp_icmp_ge (fun c3 => ?_) (fun c3 => ?_)
    · rw [if_pos c3] at h
      exact hk v2 v4   sM h
    · rw [if_neg c3] at h
      refine wp_iload_n (v := v3) rfl ?_
      refine wp_iload_n (v := v1) rfl ?_
      refine wp_icmp_eq (fun c4 => ?_) (fun c4 => ?_)
      · rw [if_pos c4] at h
        refine y_blk (t := 51) rfl (show fnd bk_X13_pairsWithout 51 = some _ from rfl) aB_X13_pairsWithout ?_
        obtain ⟨c5, h⟩ := d_ite h
        refine y_iinc (L1 := [(2, ((138 : Nat) : Int)), (0, v1), (0, v2), (0, v3), (0, (v4 + 1))]) rfl (Nat.le_of_ble_eq_true rfl) ⟨by decide, by decide⟩ c5 rfl ?_
        refine wp_goto ?_
        exact ih v2 (v4 + 1)   sM h
      · rw [if_neg c4] at h
        refine wp_iload (v := v4) rfl ?_
        refine wp_iload_n (v := v1) rfl ?_
        refine wp_icmp_eq (fun c6 => ?_) (fun c6 => ?_)
        · rw [if_pos c6] at h
          refine y_blk (t := 51) rfl (show fnd bk_X13_pairsWithout 51 = some _ from rfl) aB_X13_pairsWithout ?_
          obtain ⟨c7, h⟩ := d_ite h
          refine y_iinc (L1 := [(2, ((138 : Nat) : Int)), (0, v1), (0, v2), (0, v3), (0, (v4 + 1))]) rfl (Nat.le_of_ble_eq_true rfl) ⟨by decide, by decide⟩ c7 rfl ?_
          refine wp_goto ?_
          exact ih v2 (v4 + 1)   sM h
        · rw [if_neg c6] at h
          refine wp_aload_n (v := ((138 : Nat) : Int)) rfl (Int.natCast_nonneg _) ?_
          refine wp_iload_n (v := v3) rfl ?_
          refine wp_iload (v := v4) rfl ?_
          obtain ⟨x8, e9, h⟩ := d_bind h
          refine y_callV (as := [(0, v3), (0, v4)]) (S1 := []) (Nat.le_of_ble_eq_true rfl) (by omega) (t_X13_apart sM e9) (Nat.le_of_ble_eq_true rfl) rfl (show ash 138 = (13, 38) from rfl) (Nat.lt_of_lt_of_le (show 138 < 154 by decide) hS.1.1) (Nat.le_of_ble_eq_true rfl) (Nat.le_of_ble_eq_true rfl) rfl ?_
          refine wp_sipush (by decide) ?_
          refine wp_icmp_ge (fun c10 => ?_) (fun c10 => ?_)
          · rw [if_pos c10] at h
            refine y_blk (t := 51) rfl (show fnd bk_X13_pairsWithout 51 = some _ from rfl) aB_X13_pairsWithout ?_
            obtain ⟨c11, h⟩ := d_ite h
            refine y_iinc (L1 := [(2, ((138 : Nat) : Int)), (0, v1), (0, v2), (0, v3), (0, (v4 + 1))]) rfl (Nat.le_of_ble_eq_true rfl) ⟨by decide, by decide⟩ c11 rfl ?_
            refine wp_goto ?_
            exact ih v2 (v4 + 1)   sM h
          · rw [if_neg c10] at h
            obtain ⟨c12, h⟩ := d_ite h
            refine y_iinc (L1 := [(2, ((138 : Nat) : Int)), (0, v1), (0, (v2 + 1)), (0, v3), (0, v4)]) rfl (Nat.le_of_ble_eq_true rfl) ⟨by decide, by decide⟩ c12 rfl ?_
            refine y_blk (t := 51) rfl (show fnd bk_X13_pairsWithout 51 = some _ from rfl) aB_X13_pairsWithout ?_
            obtain ⟨c13, h⟩ := d_ite h
            refine y_iinc (L1 := [(2, ((138 : Nat) : Int)), (0, v1), (0, (v2 + 1)), (0, v3), (0, (v4 + 1))]) rfl (Nat.le_of_ble_eq_true rfl) ⟨by decide, by decide⟩ c13 rfl ?_
            refine wp_goto ?_
            exact ih (v2 + 1) (v4 + 1)   sM h
def l_X13_pairsWithout_4 (T : Nat) (v1 : Int) (M : aM) (k : Int → Int → Option Int) : Nat → Int → Int → Option Int
| 0, _, _ => none
| n + 1, v2, v3 =>
 if okW T (M 138 3) then
 if (M (M 138 3).toNat 3) ≤ v3 then
 k v2 v3 else
 l_X13_pairsWithout_18 T v1 v3 M (fun w14 w15 =>
 if aIn (v3 + 1) then
 l_X13_pairsWithout_4 T v1 M k n w14 (v3 + 1) else none) FU v2 0 else none
theorem tl_X13_pairsWithout_4 {d : Nat} (hd : 1 ≤ d) {T : T3} {v1 : Int} {M : aM} {k : Int → Int → Option Int} {y : Int}  (hS : Sh T.1 M)
    (hk : ∀ (v2 v3 : Int) (u4 : aV), Sh T.1 M → k v2 v3 = some y → Wp d 267 63 [] [(2, ((138 : Nat) : Int)), (0, v1), (0, v2), (0, v3), u4] [] (M, T) (fun r2 σ2 => r2 = some (0, y) ∧ σ2 = (M, T))) :
    ∀ (n : Nat) (v2 v3 : Int) (u4 : aV), Sh T.1 M → l_X13_pairsWithout_4 T.1 v1 M k n v2 v3 = some y → Wp d 267 4 [] [(2, ((138 : Nat) : Int)), (0, v1), (0, v2), (0, v3), u4] [] (M, T) (fun r2 σ2 => r2 = some (0, y) ∧ σ2 = (M, T)) := by
  intro n
  induction n with
  | zero =>
    intro v2 v3 u4 _ h
    exact nomatch (show (none : Option Int) = some y from h)
  | succ n ih =>
    intro v2 v3 u4 sM h
    rw [l_X13_pairsWithout_4] at h
    refine y_blk (t := 4) rfl (show fnd bk_X13_pairsWithout 4 = some _ from rfl) aB_X13_pairsWithout ?_
    refine wp_iload_n (v := v3) rfl ?_
    refine wp_aload_n (v := ((138 : Nat) : Int)) rfl (Int.natCast_nonneg _) ?_
    obtain ⟨c1, h⟩ := d_ite h
    refine y_get (show ash 138 = (13, 38) from rfl) (Nat.lt_of_lt_of_le (show 138 < 154 by decide) hS.1.1) (v := (((M 138 3).toNat : Nat) : Int)) c1.eq rfl ?_
    refine y_get (aW0 hS.1.2 c1.is) (ltW c1.is 0 (by decide)) (v := M (M 138 3).toNat 3) rfl rfl ?_
    refine wp_icmp_ge (fun c2 => ?_) (fun c2 => ?_)
    · rw [if_pos c2] at h
      exact hk v2 v3 u4  sM h
    · rw [if_neg c2] at h
      refine wp_iconst ⟨by decide, by decide⟩ ?_
      refine y_st (L1 := [(2, ((138 : Nat) : Int)), (0, v1), (0, v2), (0, v3), (0, 0)]) (Nat.le_of_ble_eq_true rfl) rfl ?_
      refine tl_X13_pairsWithout_18 (by omega) sM (fun w14 w15   s16 h => ?_) FU v2 0   sM h
      refine y_blk (t := 57) rfl (show fnd bk_X13_pairsWithout 57 = some _ from rfl) aB_X13_pairsWithout ?_
      obtain ⟨c17, h⟩ := d_ite h
      refine y_iinc (L1 := [(2, ((138 : Nat) : Int)), (0, v1), (0, w14), (0, (v3 + 1)), (0, w15)]) rfl (Nat.le_of_ble_eq_true rfl) ⟨by decide, by decide⟩ c17 rfl ?_
      refine wp_goto ?_
      exact ih w14 (v3 + 1) (0, w15)  s16 h
def f_X13_pairsWithout (T : Nat) (v1 : Int) (M : aM) : Option Int :=
 l_X13_pairsWithout_4 T v1 M (fun w18 w19 =>
 some w18) FU 0 0
theorem t_X13_pairsWithout {T : T3} {v1 : Int} {M : aM} {y : Int}  (hS : Sh T.1 M) (h : f_X13_pairsWithout T.1 v1 M = some y) : Mr 1 267 [(2, ((138 : Nat) : Int)), (0, v1)] M (some (0, y)) M T := by
  have key : ∀ d, 1 ≤ d → Wp d 267 0 [] [(2, ((138 : Nat) : Int)), (0, v1), (9, 0), (9, 0), (9, 0)] [] (M, T) (fun r2 σ2 => r2 = some (0, y) ∧ σ2 = (M, T)) := by
    intro d hd
    rw [f_X13_pairsWithout] at h
    refine y_blk (t := 0) rfl (show fnd bk_X13_pairsWithout 0 = some _ from rfl) aB_X13_pairsWithout ?_
    refine wp_iconst ⟨by decide, by decide⟩ ?_
    refine y_stn (L1 := [(2, ((138 : Nat) : Int)), (0, v1), (0, 0), (9, 0), (9, 0)]) (Nat.le_of_ble_eq_true rfl) rfl ?_
    refine wp_iconst ⟨by decide, by decide⟩ ?_
    refine y_stn (L1 := [(2, ((138 : Nat) : Int)), (0, v1), (0, 0), (0, 0), (9, 0)]) (Nat.le_of_ble_eq_true rfl) rfl ?_
    refine tl_X13_pairsWithout_4 (by omega) hS (fun w18 w19 u20  s21 h => ?_) FU 0 0 (9, 0)  hS h
    refine y_blk (t := 63) rfl (show fnd bk_X13_pairsWithout 63 = some _ from rfl) aB_X13_pairsWithout ?_
    refine wp_iload_n (v := w18) rfl ?_
    cases h
    exact y_ret0 (Or.inl rfl) ⟨rfl, rfl⟩
  exact fun d hd => Ms.of (key d hd)

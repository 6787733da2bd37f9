/-! ===== methods as functions ===== -/
theorem aB_X13_bringAt : ∀ pc, aB 282 pc = fnd bk_X13_bringAt pc := fun _ => rfl
def l_X13_bringAt_67 (T : Nat) (v3 : Int) (M : aM) (k : Int → Option (Int × aM)) : Nat → Int → Option (Int × aM)
| 0, _ => none
| n + 1, v4 =>
 if 0 ≤ v4 ∧ v4 < 8 then
 if aIn (v3 + 1) then
 if (M 147 (v4).toNat) ≤ (v3 + 1) then
 k v4 else
 l_X13_bringAt_67 T v3 M k n (M 148 (v4).toNat) else none else none
theorem tl_X13_bringAt_67 {d : Nat} (hd : 5 ≤ d) {T : T3} {v3 : Int} {M : aM} {k : Int → Option (Int × aM)} {y : (Int × aM)}  (hS : Sh T.1 M)
    (hk : ∀ (v4 : Int) (u1 u2 : aV), Sh T.1 M → k v4 = some y → Wp d 282 92 [] [(2, ((138 : Nat) : Int)), u1, u2, (0, v3), (0, v4)] [] (M, T) (fun r2 σ2 => r2 = some (0, y.1) ∧ σ2 = (y.2, T) ∧ Sh T.1 y.2)) :
    ∀ (n : Nat) (v4 : Int) (u1 u2 : aV), Sh T.1 M → l_X13_bringAt_67 T.1 v3 M k n v4 = some y → Wp d 282 67 [] [(2, ((138 : Nat) : Int)), u1, u2, (0, v3), (0, v4)] [] (M, T) (fun r2 σ2 => r2 = some (0, y.1) ∧ σ2 = (y.2, T) ∧ Sh T.1 y.2) := by
  intro n
  induction n with
  | zero =>
    intro v4 u1 u2 _ h
    exact nomatch (show (none : Option (Int × aM)) = some y from h)
  | succ n ih =>
    intro v4 u1 u2 sM h
    rw [l_X13_bringAt_67] at h
    refine y_blk (t := 67) rfl (show fnd bk_X13_bringAt 67 = some _ from rfl) aB_X13_bringAt ?_
    refine wp_aload_n (v := ((138 : Nat) : Int)) rfl (Int.natCast_nonneg _) ?_
    refine y_get (show ash 138 = (13, 38) from rfl) (Nat.lt_of_lt_of_le (show 138 < 154 by decide) hS.1.1) (v := ((147 : Nat) : Int)) (sM.at 138 27 147 (by decide +kernel)) rfl ?_
    refine wp_iload (v := v4) rfl ?_
    obtain ⟨c29, h⟩ := d_ite h
    refine y_iald (show ash 147 = (100, 8) from rfl) (Or.inl (Nat.lt_of_lt_of_le (show 147 < 154 by decide) hS.1.1)) (Nat.ne_of_lt (Nat.lt_of_lt_of_le (Nat.lt_of_lt_of_le (show 147 < 154 by decide) hS.1.1) hS.1.2)) c29 (v := M 147 (v4).toNat) rfl ?_
    refine wp_iload_n (v := v3) rfl ?_
    refine wp_iconst ⟨by decide, by decide⟩ ?_
    obtain ⟨c30, h⟩ := d_ite h
    refine wp_iadd c30 ?_
    refine wp_icmp_le (fun c31 => ?_) (fun c31 => ?_)
    · rw [if_pos c31] at h
      exact hk v4 u1 u2  sM h
    · rw [if_neg c31] at h
      refine wp_aload_n (v := ((138 : Nat) : Int)) rfl (Int.natCast_nonneg _) ?_
      refine y_get (show ash 138 = (13, 38) from rfl) (Nat.lt_of_lt_of_le (show 138 < 154 by decide) hS.1.1) (v := ((148 : Nat) : Int)) (sM.at 138 28 148 (by decide +kernel)) rfl ?_
      refine wp_iload (v := v4) rfl ?_
      refine y_iald (show ash 148 = (100, 8) from rfl) (Or.inl (Nat.lt_of_lt_of_le (show 148 < 154 by decide) hS.1.1)) (Nat.ne_of_lt (Nat.lt_of_lt_of_le (Nat.lt_of_lt_of_le (show 148 < 154 by decide) hS.1.1) hS.1.2)) c29 (v := M 148 (v4).toNat) rfl ?_
      refine y_st (L1 := [(2, ((138 : Nat) : Int)), u1, u2, (0, v3), (0, (M 148 (v4).toNat))]) (Nat.le_of_ble_eq_true rfl) rfl ?_
      refine wp_goto ?_
      exact ih (M 148 (v4).toNat) u1 u2  sM h
def f_X13_bringAt (T : Nat) (v1 : Int) (v2 : Int) (v3 : Int) (M : aM) : Option (Int × aM) :=
 (some (aup M 138 0 0)).bind fun m1 =>
 (f_X13_isVoice T v1 m1).bind fun x3 =>
 if x3 = 0 then
 (f_X13_refused T 1 m1).bind fun x6 =>
 some (x6.1, x6.2) else
 (f_X13_isCave T v2 m1).bind fun x10 =>
 if x10 = 0 then
 (f_X13_refused T 1 m1).bind fun x45 =>
 some (x45.1, x45.2) else
 (f_X13_brings T v1 m1).bind fun x13 =>
 if 0 ≤ v2 ∧ v2 < 8 then
 if (x13.2 147 (v2).toNat) = 9999 then
 (f_X13_refused T 1 x13.2).bind fun x19 =>
 some (x19.1, x19.2) else
 if v3 < 0 then
 (f_X13_refused T 1 x13.2).bind fun x24 =>
 some (x24.1, x24.2) else
 if v3 < (x13.2 147 (v2).toNat) then
 l_X13_bringAt_67 T v3 x13.2 (fun w32 =>
 if 0 ≤ w32 ∧ w32 < 8 then
 (f_X13_good T (x13.2 149 (w32).toNat) x13.2).bind fun x37 =>
 some (x37.1, x37.2) else none) FU v2 else
 (f_X13_refused T 1 x13.2).bind fun x41 =>
 some (x41.1, x41.2) else none
theorem t_X13_bringAt {T : T3} {v1 : Int} {v2 : Int} {v3 : Int} {M : aM} {y : (Int × aM)}  (hS : Sh T.1 M) (h : f_X13_bringAt T.1 v1 v2 v3 M = some y) : Mr 5 282 [(2, ((138 : Nat) : Int)), (0, v1), (0, v2), (0, v3)] M (some (0, y.1)) y.2 T ∧ Sh T.1 y.2 := by
  have key : ∀ d, 5 ≤ d → Wp d 282 0 [] [(2, ((138 : Nat) : Int)), (0, v1), (0, v2), (0, v3), (9, 0)] [] (M, T) (fun r2 σ2 => r2 = some (0, y.1) ∧ σ2 = (y.2, T) ∧ Sh T.1 y.2) := by
    intro d hd
    rw [f_X13_bringAt] at h
    refine y_blk (t := 0) rfl (show fnd bk_X13_bringAt 0 = some _ from rfl) aB_X13_bringAt ?_
    refine wp_aload_n (v := ((138 : Nat) : Int)) rfl (Int.natCast_nonneg _) ?_
    refine wp_iconst ⟨by decide, by decide⟩ ?_
    refine y_put (show ash 138 = (13, 38) from rfl) (Nat.lt_of_lt_of_le (show 138 < 154 by decide) hS.1.1) rfl ?_
    obtain ⟨m1, em1, h⟩ := d_bind h
    have em1 := Option.some.inj em1
    have s2 : Sh T.1 m1 := em1 ▸ hS.up (Or.inr ⟨by rw [(show ash 138 = (13, 38) from rfl)]; decide, by rw [(show ash 138 = (13, 38) from rfl)]; decide⟩) (by have := (Nat.lt_of_lt_of_le (show 138 < 154 by decide) hS.1.1); have := hS.1.2; omega)
    rw [em1]
    refine wp_aload_n (v := ((138 : Nat) : Int)) rfl (Int.natCast_nonneg _) ?_
    refine wp_iload_n (v := v1) rfl ?_
    obtain ⟨x3, e4, h⟩ := d_bind h
    refine y_callV (as := [(0, v1)]) (S1 := []) (Nat.le_of_ble_eq_true rfl) (by omega) (t_X13_isVoice s2 e4) (Nat.le_of_ble_eq_true rfl) rfl (show ash 138 = (13, 38) from rfl) (Nat.lt_of_lt_of_le (show 138 < 154 by decide) hS.1.1) (Nat.le_of_ble_eq_true rfl) (Nat.le_of_ble_eq_true rfl) rfl ?_
    refine wp_if_eq (fun c5 => ?_) (fun c5 => ?_)
    · rw [if_pos c5] at h
      refine y_blk (t := 21) rfl (show fnd bk_X13_bringAt 21 = some _ from rfl) aB_X13_bringAt ?_
      refine wp_aload_n (v := ((138 : Nat) : Int)) rfl (Int.natCast_nonneg _) ?_
      refine wp_iconst ⟨by decide, by decide⟩ ?_
      obtain ⟨x6, e7, h⟩ := d_bind h
      obtain ⟨r8, s9⟩ := t_X13_refused s2 e7
      refine y_callV (as := [(0, 1)]) (S1 := []) (Nat.le_of_ble_eq_true rfl) (by omega) r8 (Nat.le_of_ble_eq_true rfl) rfl (show ash 138 = (13, 38) from rfl) (Nat.lt_of_lt_of_le (show 138 < 154 by decide) hS.1.1) (Nat.le_of_ble_eq_true rfl) (Nat.le_of_ble_eq_true rfl) rfl ?_
      cases h
      exact y_ret0 (Or.inl rfl) ⟨rfl, rfl, s9⟩
    · rw [if_neg c5] at h
      refine wp_aload_n (v := ((138 : Nat) : Int)) rfl (Int.natCast_nonneg _) ?_
      refine wp_iload_n (v := v2) rfl ?_
      obtain ⟨x10, e11, h⟩ := d_bind h
      refine y_callV (as := [(0, v2)]) (S1 := []) (Nat.le_of_ble_eq_true rfl) (by omega) (t_X13_isCave s2 e11) (Nat.le_of_ble_eq_true rfl) rfl (show ash 138 = (13, 38) from rfl) (Nat.lt_of_lt_of_le (show 138 < 154 by decide) hS.1.1) (Nat.le_of_ble_eq_true rfl) (Nat.le_of_ble_eq_true rfl) rfl ?_
      refine y_nez (fun c12 => ?_) (fun c12 => ?_)
      · rw [if_neg c12] at h
        refine y_blk (t := 27) rfl (show fnd bk_X13_bringAt 27 = some _ from rfl) aB_X13_bringAt ?_
        refine wp_aload_n (v := ((138 : Nat) : Int)) rfl (Int.natCast_nonneg _) ?_
        refine wp_iload_n (v := v1) rfl ?_
        obtain ⟨x13, e14, h⟩ := d_bind h
        obtain ⟨r15, s16⟩ := t_X13_brings s2 e14
        refine y_callVv (as := [(0, v1)]) (S1 := []) (Nat.le_of_ble_eq_true rfl) (by omega) r15 rfl (show ash 138 = (13, 38) from rfl) (Nat.lt_of_lt_of_le (show 138 < 154 by decide) hS.1.1) (Nat.le_of_ble_eq_true rfl) (Nat.le_of_ble_eq_true rfl) rfl ?_
        refine wp_aload_n (v := ((138 : Nat) : Int)) rfl (Int.natCast_nonneg _) ?_
        refine y_get (show ash 138 = (13, 38) from rfl) (Nat.lt_of_lt_of_le (show 138 < 154 by decide) hS.1.1) (v := ((147 : Nat) : Int)) (s16.at 138 27 147 (by decide +kernel)) rfl ?_
        refine wp_iload_n (v := v2) rfl ?_
        obtain ⟨c17, h⟩ := d_ite h
        refine y_iald (show ash 147 = (100, 8) from rfl) (Or.inl (Nat.lt_of_lt_of_le (show 147 < 154 by decide) hS.1.1)) (Nat.ne_of_lt (Nat.lt_of_lt_of_le (Nat.lt_of_lt_of_le (show 147 < 154 by decide) hS.1.1) hS.1.2)) c17 (v := x13.2 147 (v2).toNat) rfl ?_
        refine wp_sipush (by decide) ?_
        refine wp_icmp_eq (fun c18 => ?_) (fun c18 => ?_)
        · rw [if_pos c18] at h
          refine y_blk (t := 58) rfl (show fnd bk_X13_bringAt 58 = some _ from rfl) aB_X13_bringAt ?_
          refine wp_aload_n (v := ((138 : Nat) : Int)) rfl (Int.natCast_nonneg _) ?_
          refine wp_iconst ⟨by decide, by decide⟩ ?_
          obtain ⟨x19, e20, h⟩ := d_bind h
          obtain ⟨r21, s22⟩ := t_X13_refused s16 e20
          refine y_callV (as := [(0, 1)]) (S1 := []) (Nat.le_of_ble_eq_true rfl) (by omega) r21 (Nat.le_of_ble_eq_true rfl) rfl (show ash 138 = (13, 38) from rfl) (Nat.lt_of_lt_of_le (show 138 < 154 by decide) hS.1.1) (Nat.le_of_ble_eq_true rfl) (Nat.le_of_ble_eq_true rfl) rfl ?_
          cases h
          exact y_ret0 (Or.inl rfl) ⟨rfl, rfl, s22⟩
        · rw [if_neg c18] at h
          refine wp_iload_n (v := v3) rfl ?_
          refine wp_if_lt (fun c23 => ?_) (fun c23 => ?_)
          · rw [if_pos c23] at h
            refine y_blk (t := 58) rfl (show fnd bk_X13_bringAt 58 = some _ from rfl) aB_X13_bringAt ?_
            refine wp_aload_n (v := ((138 : Nat) : Int)) rfl (Int.natCast_nonneg _) ?_
            refine wp_iconst ⟨by decide, by decide⟩ ?_
            obtain ⟨x24, e25, h⟩ := d_bind h
            obtain ⟨r26, s27⟩ := t_X13_refused s16 e25
            refine y_callV (as := [(0, 1)]) (S1 := []) (Nat.le_of_ble_eq_true rfl) (by omega) r26 (Nat.le_of_ble_eq_true rfl) rfl (show ash 138 = (13, 38) from rfl) (Nat.lt_of_lt_of_le (show 138 < 154 by decide) hS.1.1) (Nat.le_of_ble_eq_true rfl) (Nat.le_of_ble_eq_true rfl) rfl ?_
            cases h
            exact y_ret0 (Or.inl rfl) ⟨rfl, rfl, s27⟩
          · rw [if_neg c23] at h
            refine wp_iload_n (v := v3) rfl ?_
            refine wp_aload_n (v := ((138 : Nat) : Int)) rfl (Int.natCast_nonneg _) ?_
            refine y_get (show ash 138 = (13, 38) from rfl) (Nat.lt_of_lt_of_le (show 138 < 154 by decide) hS.1.1) (v := ((147 : Nat) : Int)) (s16.at 138 27 147 (by decide +kernel)) rfl ?_
            refine wp_iload_n (v := v2) rfl ?_
            refine y_iald (show ash 147 = (100, 8) from rfl) (Or.inl (Nat.lt_of_lt_of_le (show 147 < 154 by decide) hS.1.1)) (Nat.ne_of_lt (Nat.lt_of_lt_of_le (Nat.lt_of_lt_of_le (show 147 < 154 by decide) hS.1.1) hS.1.2)) c17 (v := x13.2 147 (v2).toNat) rfl ?_
            refine wp_icmp_lt (fun c28 => ?_) (fun c28 => ?_)
            · rw [if_pos c28] at h
              refine y_blk (t := 64) rfl (show fnd bk_X13_bringAt 64 = some _ from rfl) aB_X13_bringAt ?_
              refine wp_iload_n (v := v2) rfl ?_
              refine y_st (L1 := [(2, ((138 : Nat) : Int)), (0, v1), (0, v2), (0, v3), (0, v2)]) (Nat.le_of_ble_eq_true rfl) rfl ?_
              refine tl_X13_bringAt_67 (by omega) s16 (fun w32 u33 u34  s35 h => ?_) FU v2 (0, v1) (0, v2)  s16 h
              refine y_blk (t := 92) rfl (show fnd bk_X13_bringAt 92 = some _ from rfl) aB_X13_bringAt ?_
              refine wp_aload_n (v := ((138 : Nat) : Int)) rfl (Int.natCast_nonneg _) ?_
              refine wp_aload_n (v := ((138 : Nat) : Int)) rfl (Int.natCast_nonneg _) ?_
              refine y_get (show ash 138 = (13, 38) from rfl) (Nat.lt_of_lt_of_le (show 138 < 154 by decide) hS.1.1) (v := ((149 : Nat) : Int)) (s35.at 138 29 149 (by decide +kernel)) rfl ?_
              refine wp_iload (v := w32) rfl ?_
              obtain ⟨c36, h⟩ := d_ite h
              refine y_iald (show ash 149 = (100, 8) from rfl) (Or.inl (Nat.lt_of_lt_of_le (show 149 < 154 by decide) hS.1.1)) (Nat.ne_of_lt (Nat.lt_of_lt_of_le (Nat.lt_of_lt_of_le (show 149 < 154 by decide) hS.1.1) hS.1.2)) c36 (v := x13.2 149 (w32).toNat) rfl ?_
              obtain ⟨x37, e38, h⟩ := d_bind h
              obtain ⟨r39, s40⟩ := t_X13_good s35 e38
              refine y_callV (as := [(0, (x13.2 149 (w32).toNat))]) (S1 := []) (Nat.le_of_ble_eq_true rfl) (by omega) r39 (Nat.le_of_ble_eq_true rfl) rfl (show ash 138 = (13, 38) from rfl) (Nat.lt_of_lt_of_le (show 138 < 154 by decide) hS.1.1) (Nat.le_of_ble_eq_true rfl) (Nat.le_of_ble_eq_true rfl) rfl ?_
              cases h
              exact y_ret0 (Or.inl rfl) ⟨rfl, rfl, s40⟩
            · rw [if_neg c28] at h
              refine y_blk (t := 58) rfl (show fnd bk_X13_bringAt 58 = some _ from rfl) aB_X13_bringAt ?_
              refine wp_aload_n (v := ((138 : Nat) : Int)) rfl (Int.natCast_nonneg _) ?_
              refine wp_iconst ⟨by decide, by decide⟩ ?_
              obtain ⟨x41, e42, h⟩ := d_bind h
              obtain ⟨r43, s44⟩ := t_X13_refused s16 e42
              refine y_callV (as := [(0, 1)]) (S1 := []) (Nat.le_of_ble_eq_true rfl) (by omega) r43 (Nat.le_of_ble_eq_true rfl) rfl (show ash 138 = (13, 38) from rfl) (Nat.lt_of_lt_of_le (show 138 < 154 by decide) hS.1.1) (Nat.le_of_ble_eq_true rfl) (Nat.le_of_ble_eq_true rfl) rfl ?_
              cases h
              exact y_ret0 (Or.inl rfl) ⟨rfl, rfl, s44⟩
      · rw [if_pos c12] at h
        refine y_blk (t := 21) rfl (show fnd bk_X13_bringAt 21 = some _ from rfl) aB_X13_bringAt ?_
        refine wp_aload_n (v := ((138 : Nat) : Int)) rfl (Int.natCast_nonneg _) ?_
        refine wp_iconst ⟨by decide, by decide⟩ ?_
        obtain ⟨x45, e46, h⟩ := d_bind h
        obtain ⟨r47, s48⟩ := t_X13_refused s2 e46
        refine y_callV (as := [(0, 1)]) (S1 := []) (Nat.le_of_ble_eq_true rfl) (by omega) r47 (Nat.le_of_ble_eq_true rfl) rfl (show ash 138 = (13, 38) from rfl) (Nat.lt_of_lt_of_le (show 138 < 154 by decide) hS.1.1) (Nat.le_of_ble_eq_true rfl) (Nat.le_of_ble_eq_true rfl) rfl ?_
        cases h
        exact y_ret0 (Or.inl rfl) ⟨rfl, rfl, s48⟩
  exact ⟨fun d hd => Ms.of3 (key d hd), Ms.sh (key 5 (Nat.le_refl _))⟩
theorem aB_X13_reach : ∀ pc, aB 283 pc = fnd bk_X13_reach pc := fun _ => rfl
def l_X13_reach_28 (T : Nat)  (M : aM) (k : Int → Int → Option (Int × aM)) : Nat → Int → Int → Option (Int × aM)
| 0, _, _ => none
| n + 1, v2, v3 =>
 if (M 138 31) ≤ v3 then
 k v2 v3 else
 if 0 ≤ v3 ∧ v3 < 8 then
 if aIn (v3 + 1) then
 l_X13_reach_28 T M k n (aor v2 (ashl 1 (M 150 (v3).toNat))) (v3 + 1) else none else none
theorem tl_X13_reach_28 {d : Nat} (hd : 5 ≤ d) {T : T3}  {M : aM} {k : Int → Int → Option (Int × aM)} {y : (Int × aM)}  (hS : Sh T.1 M)
    (hk : ∀ (v2 v3 : Int) (u1 : aV), Sh T.1 M → k v2 v3 = some y → Wp d 283 53 [] [(2, ((138 : Nat) : Int)), u1, (0, v2), (0, v3)] [] (M, T) (fun r2 σ2 => r2 = some (0, y.1) ∧ σ2 = (y.2, T) ∧ Sh T.1 y.2)) :
    ∀ (n : Nat) (v2 v3 : Int) (u1 : aV), Sh T.1 M → l_X13_reach_28 T.1 M k n v2 v3 = some y → Wp d 283 28 [] [(2, ((138 : Nat) : Int)), u1, (0, v2), (0, v3)] [] (M, T) (fun r2 σ2 => r2 = some (0, y.1) ∧ σ2 = (y.2, T) ∧ Sh T.1 y.2) := by
  intro n
  induction n with
  | zero =>
    intro v2 v3 u1 _ h
    exact nomatch (show (none : Option (Int × aM)) = some y from h)
  | succ n ih =>
    intro v2 v3 u1 sM h
    rw [l_X13_reach_28] at h
    refine y_blk (t := 28) rfl (show fnd bk_X13_reach 28 = some _ from rfl) aB_X13_reach ?_
    refine wp_iload_n (v := v3) rfl ?_
    refine wp_aload_n (v := ((138 : Nat) : Int)) rfl (Int.natCast_nonneg _) ?_
    refine y_get (show ash 138 = (13, 38) from rfl) (Nat.lt_of_lt_of_le (show 138 < 154 by decide) hS.1.1) (v := M 138 31) rfl rfl ?_
    refine wp_icmp_ge (fun c10 => ?_) (fun c10 => ?_)
    · rw [if_pos c10] at h
      exact hk v2 v3 u1  sM h
    · rw [if_neg c10] at h
      refine wp_iload_n (v := v2) rfl ?_
      refine wp_iconst ⟨by decide, by decide⟩ ?_
      refine wp_aload_n (v := ((138 : Nat) : Int)) rfl (Int.natCast_nonneg _) ?_
      refine y_get (show ash 138 = (13, 38) from rfl) (Nat.lt_of_lt_of_le (show 138 < 154 by decide) hS.1.1) (v := ((150 : Nat) : Int)) (sM.at 138 30 150 (by decide +kernel)) rfl ?_
      refine wp_iload_n (v := v3) rfl ?_
      obtain ⟨c11, h⟩ := d_ite h
      refine y_iald (show ash 150 = (100, 8) from rfl) (Or.inl (Nat.lt_of_lt_of_le (show 150 < 154 by decide) hS.1.1)) (Nat.ne_of_lt (Nat.lt_of_lt_of_le (Nat.lt_of_lt_of_le (show 150 < 154 by decide) hS.1.1) hS.1.2)) c11 (v := M 150 (v3).toNat) rfl ?_
      refine wp_ishl ?_
      refine wp_ior ?_
      refine y_stn (L1 := [(2, ((138 : Nat) : Int)), (ajk u1), (0, (aor v2 (ashl 1 (M 150 (v3).toNat)))), (0, v3)]) (Nat.le_of_ble_eq_true rfl) (aset_jk (q := 1) (u := u1) rfl) ?_
      obtain ⟨c12, h⟩ := d_ite h
      refine y_iinc (L1 := [(2, ((138 : Nat) : Int)), (ajk u1), (0, (aor v2 (ashl 1 (M 150 (v3).toNat)))), (0, (v3 + 1))]) rfl (Nat.le_of_ble_eq_true rfl) ⟨by decide, by decide⟩ c12 rfl ?_
      refine wp_goto ?_
      exact ih (aor v2 (ashl 1 (M 150 (v3).toNat))) (v3 + 1) (ajk u1)  sM h
def f_X13_reach (T : Nat) (v1 : Int) (M : aM) : Option (Int × aM) :=
 (some (aup M 138 0 0)).bind fun m1 =>
 (f_X13_isVoice T v1 m1).bind fun x3 =>
 if x3 = 0 then
 (f_X13_refused T 1 m1).bind fun x21 =>
 some (x21.1, x21.2) else
 (f_X13_brings T v1 m1).bind fun x6 =>
 l_X13_reach_28 T x6.2 (fun w13 w14 =>
 (f_X13_good T w13 x6.2).bind fun x17 =>
 some (x17.1, x17.2)) FU 0 0
theorem t_X13_reach {T : T3} {v1 : Int} {M : aM} {y : (Int × aM)}  (hS : Sh T.1 M) (h : f_X13_reach T.1 v1 M = some y) : Mr 5 283 [(2, ((138 : Nat) : Int)), (0, v1)] M (some (0, y.1)) y.2 T ∧ Sh T.1 y.2 := by
  have key : ∀ d, 5 ≤ d → Wp d 283 0 [] [(2, ((138 : Nat) : Int)), (0, v1), (9, 0), (9, 0)] [] (M, T) (fun r2 σ2 => r2 = some (0, y.1) ∧ σ2 = (y.2, T) ∧ Sh T.1 y.2) := by
    intro d hd
    rw [f_X13_reach] at h
    refine y_blk (t := 0) rfl (show fnd bk_X13_reach 0 = some _ from rfl) aB_X13_reach ?_
    refine wp_aload_n (v := ((138 : Nat) : Int)) rfl (Int.natCast_nonneg _) ?_
    refine wp_iconst ⟨by decide, by decide⟩ ?_
    refine y_put (show ash 138 = (13, 38) from rfl) (Nat.lt_of_lt_of_le (show 138 < 154 by decide) hS.1.1) rfl ?_
    obtain ⟨m1, em1, h⟩ := d_bind h
    have em1 := Option.some.inj em1
    have s2 : Sh T.1 m1 := em1 ▸ hS.up (Or.inr ⟨by rw [(show ash 138 = (13, 38) from rfl)]; decide, by rw [(show ash 138 = (13, 38) from rfl)]; decide⟩) (by have := (Nat.lt_of_lt_of_le (show 138 < 154 by decide) hS.1.1); have := hS.1.2; omega)
    rw [em1]
    refine wp_aload_n (v := ((138 : Nat) : Int)) rfl (Int.natCast_nonneg _) ?_
    refine wp_iload_n (v := v1) rfl ?_
    obtain ⟨x3, e4, h⟩ := d_bind h
    refine y_callV (as := [(0, v1)]) (S1 := []) (Nat.le_of_ble_eq_true rfl) (by omega) (t_X13_isVoice s2 e4) (Nat.le_of_ble_eq_true rfl) rfl (show ash 138 = (13, 38) from rfl) (Nat.lt_of_lt_of_le (show 138 < 154 by decide) hS.1.1) (Nat.le_of_ble_eq_true rfl) (Nat.le_of_ble_eq_true rfl) rfl ?_
    refine y_nez (fun c5 => ?_) (fun c5 => ?_)
    · rw [if_neg c5] at h
      refine y_blk (t := 19) rfl (show fnd bk_X13_reach 19 = some _ from rfl) aB_X13_reach ?_
      refine wp_aload_n (v := ((138 : Nat) : Int)) rfl (Int.natCast_nonneg _) ?_
      refine wp_iload_n (v := v1) rfl ?_
      obtain ⟨x6, e7, h⟩ := d_bind h
      obtain ⟨r8, s9⟩ := t_X13_brings s2 e7
      refine y_callVv (as := [(0, v1)]) (S1 := []) (Nat.le_of_ble_eq_true rfl) (by omega) r8 rfl (show ash 138 = (13, 38) from rfl) (Nat.lt_of_lt_of_le (show 138 < 154 by decide) hS.1.1) (Nat.le_of_ble_eq_true rfl) (Nat.le_of_ble_eq_true rfl) rfl ?_
      refine wp_iconst ⟨by decide, by decide⟩ ?_
      refine y_stn (L1 := [(2, ((138 : Nat) : Int)), (0, v1), (0, 0), (9, 0)]) (Nat.le_of_ble_eq_true rfl) rfl ?_
      refine wp_iconst ⟨by decide, by decide⟩ ?_
      refine y_stn (L1 := [(2, ((138 : Nat) : Int)), (0, v1), (0, 0), (0, 0)]) (Nat.le_of_ble_eq_true rfl) rfl ?_
      refine tl_X13_reach_28 (by omega) s9 (fun w13 w14 u15  s16 h => ?_) FU 0 0 (0, v1)  s9 h
      refine y_blk (t := 53) rfl (show fnd bk_X13_reach 53 = some _ from rfl) aB_X13_reach ?_
      refine wp_aload_n (v := ((138 : Nat) : Int)) rfl (Int.natCast_nonneg _) ?_
      refine wp_iload_n (v := w13) rfl ?_
      obtain ⟨x17, e18, h⟩ := d_bind h
      obtain ⟨r19, s20⟩ := t_X13_good s16 e18
      refine y_callV (as := [(0, w13)]) (S1 := []) (Nat.le_of_ble_eq_true rfl) (by omega) r19 (Nat.le_of_ble_eq_true rfl) rfl (show ash 138 = (13, 38) from rfl) (Nat.lt_of_lt_of_le (show 138 < 154 by decide) hS.1.1) (Nat.le_of_ble_eq_true rfl) (Nat.le_of_ble_eq_true rfl) rfl ?_
      cases h
      exact y_ret0 (Or.inl rfl) ⟨rfl, rfl, s20⟩
    · rw [if_pos c5] at h
      refine wp_aload_n (v := ((138 : Nat) : Int)) rfl (Int.natCast_nonneg _) ?_
      refine wp_iconst ⟨by decide, by decide⟩ ?_
      obtain ⟨x21, e22, h⟩ := d_bind h
      obtain ⟨r23, s24⟩ := t_X13_refused s2 e22
      refine y_callV (as := [(0, 1)]) (S1 := []) (Nat.le_of_ble_eq_true rfl) (by omega) r23 (Nat.le_of_ble_eq_true rfl) rfl (show ash 138 = (13, 38) from rfl) (Nat.lt_of_lt_of_le (show 138 < 154 by decide) hS.1.1) (Nat.le_of_ble_eq_true rfl) (Nat.le_of_ble_eq_true rfl) rfl ?_
      cases h
      exact y_ret0 (Or.inl rfl) ⟨rfl, rfl, s24⟩
  exact ⟨fun d hd => Ms.of3 (key d hd), Ms.sh (key 5 (Nat.le_refl _))⟩
theorem aB_X13_echo : ∀ pc, aB 284 pc = fnd bk_X13_echo pc := fun _ => rfl
def f_X13_echo (T : Nat) (v1 : Int) (v2 : Int) (M : aM) : Option (Int × aM) :=
 (some (aup M 138 0 0)).bind fun m1 =>
 (f_X13_isVoice T v1 m1).bind fun x3 =>
 if x3 = 0 then
 (f_X13_refused T 1 m1).bind fun x6 =>
 some (x6.1, x6.2) else
 (f_X13_isCave T v2 m1).bind fun x10 =>
 if x10 = 0 then
 (f_X13_refused T 1 m1).bind fun x30 =>
 some (x30.1, x30.2) else
 (f_X13_works T m1).bind fun x13 =>
 if 0 ≤ v1 ∧ v1 < 12 then
 (f_X13_apart T v2 (x13.2 141 (v1).toNat) x13.2).bind fun x18 =>
 if x18 < 9999 then
 if aIn (2 * x18) then
 (f_X13_good T (2 * x18) x13.2).bind fun x22 =>
 some (x22.1, x22.2) else none else
 (f_X13_good T (-2) x13.2).bind fun x26 =>
 some (x26.1, x26.2) else none
theorem t_X13_echo {T : T3} {v1 : Int} {v2 : Int} {M : aM} {y : (Int × aM)}  (hS : Sh T.1 M) (h : f_X13_echo T.1 v1 v2 M = some y) : Mr 3 284 [(2, ((138 : Nat) : Int)), (0, v1), (0, v2)] M (some (0, y.1)) y.2 T ∧ Sh T.1 y.2 := by
  have key : ∀ d, 3 ≤ d → Wp d 284 0 [] [(2, ((138 : Nat) : Int)), (0, v1), (0, v2), (9, 0)] [] (M, T) (fun r2 σ2 => r2 = some (0, y.1) ∧ σ2 = (y.2, T) ∧ Sh T.1 y.2) := by
    intro d hd
    rw [f_X13_echo] at h
    refine y_blk (t := 0) rfl (show fnd bk_X13_echo 0 = some _ from rfl) aB_X13_echo ?_
    refine wp_aload_n (v := ((138 : Nat) : Int)) rfl (Int.natCast_nonneg _) ?_
    refine wp_iconst ⟨by decide, by decide⟩ ?_
    refine y_put (show ash 138 = (13, 38) from rfl) (Nat.lt_of_lt_of_le (show 138 < 154 by decide) hS.1.1) rfl ?_
    obtain ⟨m1, em1, h⟩ := d_bind h
    have em1 := Option.some.inj em1
    have s2 : Sh T.1 m1 := em1 ▸ hS.up (Or.inr ⟨by rw [(show ash 138 = (13, 38) from rfl)]; decide, by rw [(show ash 138 = (13, 38) from rfl)]; decide⟩) (by have := (Nat.lt_of_lt_of_le (show 138 < 154 by decide) hS.1.1); have := hS.1.2; omega)
    rw [em1]
    refine wp_aload_n (v := ((138 : Nat) : Int)) rfl (Int.natCast_nonneg _) ?_
    refine wp_iload_n (v := v1) rfl ?_
    obtain ⟨x3, e4, h⟩ := d_bind h
    refine y_callV (as := [(0, v1)]) (S1 := []) (Nat.le_of_ble_eq_true rfl) (by omega) (t_X13_isVoice s2 e4) (Nat.le_of_ble_eq_true rfl) rfl (show ash 138 = (13, 38) from rfl) (Nat.lt_of_lt_of_le (show 138 < 154 by decide) hS.1.1) (Nat.le_of_ble_eq_true rfl) (Nat.le_of_ble_eq_true rfl) rfl ?_
    refine wp_if_eq (fun c5 => ?_) (fun c5 => ?_)
    · rw [if_pos c5] at h
      refine y_blk (t := 21) rfl (show fnd bk_X13_echo 21 = some _ from rfl) aB_X13_echo ?_
      refine wp_aload_n (v := ((138 : Nat) : Int)) rfl (Int.natCast_nonneg _) ?_
      refine wp_iconst ⟨by decide, by decide⟩ ?_
      obtain ⟨x6, e7, h⟩ := d_bind h
      obtain ⟨r8, s9⟩ := t_X13_refused s2 e7
      refine y_callV (as := [(0, 1)]) (S1 := []) (Nat.le_of_ble_eq_true rfl) (by omega) r8 (Nat.le_of_ble_eq_true rfl) rfl (show ash 138 = (13, 38) from rfl) (Nat.lt_of_lt_of_le (show 138 < 154 by decide) hS.1.1) (Nat.le_of_ble_eq_true rfl) (Nat.le_of_ble_eq_true rfl) rfl ?_
      cases h
      exact y_ret0 (Or.inl rfl) ⟨rfl, rfl, s9⟩
    · rw [if_neg c5] at h
      refine wp_aload_n (v := ((138 : Nat) : Int)) rfl (Int.natCast_nonneg _) ?_
      refine wp_iload_n (v := v2) rfl ?_
      obtain ⟨x10, e11, h⟩ := d_bind h
      refine y_callV (as := [(0, v2)]) (S1 := []) (Nat.le_of_ble_eq_true rfl) (by omega) (t_X13_isCave s2 e11) (Nat.le_of_ble_eq_true rfl) rfl (show ash 138 = (13, 38) from rfl) (Nat.lt_of_lt_of_le (show 138 < 154 by decide) hS.1.1) (Nat.le_of_ble_eq_true rfl) (Nat.le_of_ble_eq_true rfl) rfl ?_
      refine y_nez (fun c12 => ?_) (fun c12 => ?_)
      · rw [if_neg c12] at h
        refine y_blk (t := 27) rfl (show fnd bk_X13_echo 27 = some _ from rfl) aB_X13_echo ?_
        refine wp_aload_n (v := ((138 : Nat) : Int)) rfl (Int.natCast_nonneg _) ?_
        obtain ⟨x13, e14, h⟩ := d_bind h
        obtain ⟨r15, s16⟩ := t_X13_works s2 e14
        refine y_callVv (as := []) (S1 := []) (Nat.le_of_ble_eq_true rfl) (by omega) r15 rfl (show ash 138 = (13, 38) from rfl) (Nat.lt_of_lt_of_le (show 138 < 154 by decide) hS.1.1) (Nat.le_of_ble_eq_true rfl) (Nat.le_of_ble_eq_true rfl) rfl ?_
        refine wp_aload_n (v := ((138 : Nat) : Int)) rfl (Int.natCast_nonneg _) ?_
        refine wp_iload_n (v := v2) rfl ?_
        refine wp_aload_n (v := ((138 : Nat) : Int)) rfl (Int.natCast_nonneg _) ?_
        refine y_get (show ash 138 = (13, 38) from rfl) (Nat.lt_of_lt_of_le (show 138 < 154 by decide) hS.1.1) (v := ((141 : Nat) : Int)) (s16.at 138 17 141 (by decide +kernel)) rfl ?_
        refine wp_iload_n (v := v1) rfl ?_
        obtain ⟨c17, h⟩ := d_ite h
        refine y_iald (show ash 141 = (100, 12) from rfl) (Or.inl (Nat.lt_of_lt_of_le (show 141 < 154 by decide) hS.1.1)) (Nat.ne_of_lt (Nat.lt_of_lt_of_le (Nat.lt_of_lt_of_le (show 141 < 154 by decide) hS.1.1) hS.1.2)) c17 (v := x13.2 141 (v1).toNat) rfl ?_
        obtain ⟨x18, e19, h⟩ := d_bind h
        refine y_callV (as := [(0, v2), (0, (x13.2 141 (v1).toNat))]) (S1 := []) (Nat.le_of_ble_eq_true rfl) (by omega) (t_X13_apart s16 e19) (Nat.le_of_ble_eq_true rfl) rfl (show ash 138 = (13, 38) from rfl) (Nat.lt_of_lt_of_le (show 138 < 154 by decide) hS.1.1) (Nat.le_of_ble_eq_true rfl) (Nat.le_of_ble_eq_true rfl) rfl ?_
        refine y_stn (L1 := [(2, ((138 : Nat) : Int)), (0, v1), (0, v2), (0, x18)]) (Nat.le_of_ble_eq_true rfl) rfl ?_
        refine wp_aload_n (v := ((138 : Nat) : Int)) rfl (Int.natCast_nonneg _) ?_
        refine wp_iload_n (v := x18) rfl ?_
        refine wp_sipush (by decide) ?_
        refine wp_icmp_lt (fun c20 => ?_) (fun c20 => ?_)
        · rw [if_pos c20] at h
          refine y_blk (t := 56) rfl (show fnd bk_X13_echo 56 = some _ from rfl) aB_X13_echo ?_
          refine wp_iconst ⟨by decide, by decide⟩ ?_
          refine wp_iload_n (v := x18) rfl ?_
          obtain ⟨c21, h⟩ := d_ite h
          refine wp_imul c21 ?_
          refine y_blk (t := 59) rfl (show fnd bk_X13_echo 59 = some _ from rfl) aB_X13_echo ?_
          obtain ⟨x22, e23, h⟩ := d_bind h
          obtain ⟨r24, s25⟩ := t_X13_good s16 e23
          refine y_callV (as := [(0, (2 * x18))]) (S1 := []) (Nat.le_of_ble_eq_true rfl) (by omega) r24 (Nat.le_of_ble_eq_true rfl) rfl (show ash 138 = (13, 38) from rfl) (Nat.lt_of_lt_of_le (show 138 < 154 by decide) hS.1.1) (Nat.le_of_ble_eq_true rfl) (Nat.le_of_ble_eq_true rfl) rfl ?_
          cases h
          exact y_ret0 (Or.inl rfl) ⟨rfl, rfl, s25⟩
        · rw [if_neg c20] at h
          refine wp_bipush (by decide) ?_
          refine wp_goto ?_
          refine y_blk (t := 59) rfl (show fnd bk_X13_echo 59 = some _ from rfl) aB_X13_echo ?_
          obtain ⟨x26, e27, h⟩ := d_bind h
          obtain ⟨r28, s29⟩ := t_X13_good s16 e27
          refine y_callV (as := [(0, (-2))]) (S1 := []) (Nat.le_of_ble_eq_true rfl) (by omega) r28 (Nat.le_of_ble_eq_true rfl) rfl (show ash 138 = (13, 38) from rfl) (Nat.lt_of_lt_of_le (show 138 < 154 by decide) hS.1.1) (Nat.le_of_ble_eq_true rfl) (Nat.le_of_ble_eq_true rfl) rfl ?_
          cases h
          exact y_ret0 (Or.inl rfl) ⟨rfl, rfl, s29⟩
      · rw [if_pos c12] at h
        refine y_blk (t := 21) rfl (show fnd bk_X13_echo 21 = some _ from rfl) aB_X13_echo ?_
        refine wp_aload_n (v := ((138 : Nat) : Int)) rfl (Int.natCast_nonneg _) ?_
        refine wp_iconst ⟨by decide, by decide⟩ ?_
        obtain ⟨x30, e31, h⟩ := d_bind h
        obtain ⟨r32, s33⟩ := t_X13_refused s2 e31
        refine y_callV (as := [(0, 1)]) (S1 := []) (Nat.le_of_ble_eq_true rfl) (by omega) r32 (Nat.le_of_ble_eq_true rfl) rfl (show ash 138 = (13, 38) from rfl) (Nat.lt_of_lt_of_le (show 138 < 154 by decide) hS.1.1) (Nat.le_of_ble_eq_true rfl) (Nat.le_of_ble_eq_true rfl) rfl ?_
        cases h
        exact y_ret0 (Or.inl rfl) ⟨rfl, rfl, s33⟩
  exact ⟨fun d hd => Ms.of3 (key d hd), Ms.sh (key 3 (Nat.le_refl _))⟩
theorem aB_X13_isRight : ∀ pc, aB 285 pc = fnd bk_X13_isRight pc := fun _ => rfl
def f_X13_isRight (T : Nat) (v1 : Int) (v2 : Int) (M : aM) : Option Int :=
 if okW T (M 138 3) then
 if 0 ≤ v1 ∧ v1 < 4 then
 (f_X13_apart T (M ((M 138 3).toNat + 7) (v1).toNat) v2 M).bind fun x3 =>
 if 9999 ≤ x3 then
 some 0 else
 if aIn (2 * x3) then
 if (2 * x3) = (M ((M 138 3).toNat + 8) (v1).toNat) then
 some 1 else
 some 0 else none else none else none
theorem t_X13_isRight {T : T3} {v1 : Int} {v2 : Int} {M : aM} {y : Int}  (hS : Sh T.1 M) (h : f_X13_isRight T.1 v1 v2 M = some y) : Mr 1 285 [(2, ((138 : Nat) : Int)), (0, v1), (0, v2)] M (some (0, y)) M T := by
  have key : ∀ d, 1 ≤ d → Wp d 285 0 [] [(2, ((138 : Nat) : Int)), (0, v1), (0, v2), (9, 0)] [] (M, T) (fun r2 σ2 => r2 = some (0, y) ∧ σ2 = (M, T)) := by
    intro d hd
    rw [f_X13_isRight] at h
    refine y_blk (t := 0) rfl (show fnd bk_X13_isRight 0 = some _ from rfl) aB_X13_isRight ?_
    refine wp_aload_n (v := ((138 : Nat) : Int)) rfl (Int.natCast_nonneg _) ?_
    refine wp_aload_n (v := ((138 : Nat) : Int)) rfl (Int.natCast_nonneg _) ?_
    obtain ⟨c1, h⟩ := d_ite h
    refine y_get (show ash 138 = (13, 38) from rfl) (Nat.lt_of_lt_of_le (show 138 < 154 by decide) hS.1.1) (v := (((M 138 3).toNat : Nat) : Int)) c1.eq rfl ?_
    refine y_get (aW0 hS.1.2 c1.is) (ltW c1.is 0 (by decide)) (v := ((((M 138 3).toNat + 7) : Nat) : Int)) (rW20 hS c1.is) rfl ?_
    refine wp_iload_n (v := v1) rfl ?_
    obtain ⟨c2, h⟩ := d_ite h
    refine y_iald (aW7 hS.1.2 c1.is) (Or.inl (ltW c1.is 7 (by decide))) (Nat.ne_of_lt (Nat.lt_of_lt_of_le (ltW c1.is 7 (by decide)) hS.1.2)) c2 (v := M ((M 138 3).toNat + 7) (v1).toNat) rfl ?_
    refine wp_iload_n (v := v2) rfl ?_
    obtain ⟨x3, e4, h⟩ := d_bind h
    refine y_callV (as := [(0, (M ((M 138 3).toNat + 7) (v1).toNat)), (0, v2)]) (S1 := []) (Nat.le_of_ble_eq_true rfl) (by omega) (t_X13_apart hS e4) (Nat.le_of_ble_eq_true rfl) rfl (show ash 138 = (13, 38) from rfl) (Nat.lt_of_lt_of_le (show 138 < 154 by decide) hS.1.1) (Nat.le_of_ble_eq_true rfl) (Nat.le_of_ble_eq_true rfl) rfl ?_
    refine y_stn (L1 := [(2, ((138 : Nat) : Int)), (0, v1), (0, v2), (0, x3)]) (Nat.le_of_ble_eq_true rfl) rfl ?_
    refine wp_iload_n (v := x3) rfl ?_
    refine wp_sipush (by decide) ?_
    refine wp_icmp_ge (fun c5 => ?_) (fun c5 => ?_)
    · rw [if_pos c5] at h
      refine y_blk (t := 41) rfl (show fnd bk_X13_isRight 41 = some _ from rfl) aB_X13_isRight ?_
      refine wp_iconst ⟨by decide, by decide⟩ ?_
      refine y_blk (t := 42) rfl (show fnd bk_X13_isRight 42 = some _ from rfl) aB_X13_isRight ?_
      cases h
      exact y_ret0 (Or.inr (Or.inl rfl)) ⟨rfl, rfl⟩
    · rw [if_neg c5] at h
      refine wp_iconst ⟨by decide, by decide⟩ ?_
      refine wp_iload_n (v := x3) rfl ?_
      obtain ⟨c6, h⟩ := d_ite h
      refine wp_imul c6 ?_
      refine wp_aload_n (v := ((138 : Nat) : Int)) rfl (Int.natCast_nonneg _) ?_
      refine y_get (show ash 138 = (13, 38) from rfl) (Nat.lt_of_lt_of_le (show 138 < 154 by decide) hS.1.1) (v := (((M 138 3).toNat : Nat) : Int)) c1.eq rfl ?_
      refine y_get (aW0 hS.1.2 c1.is) (ltW c1.is 0 (by decide)) (v := ((((M 138 3).toNat + 8) : Nat) : Int)) (rW21 hS c1.is) rfl ?_
      refine wp_iload_n (v := v1) rfl ?_
      refine y_iald (aW8 hS.1.2 c1.is) (Or.inl (ltW c1.is 8 (by decide))) (Nat.ne_of_lt (Nat.lt_of_lt_of_le (ltW c1.is 8 (by decide)) hS.1.2)) c2 (v := M ((M 138 3).toNat + 8) (v1).toNat) rfl ?_
      refine y_ne (fun c7 => ?_) (fun c7 => ?_)
      · rw [if_neg c7] at h
        refine y_blk (t := 41) rfl (show fnd bk_X13_isRight 41 = some _ from rfl) aB_X13_isRight ?_
        refine wp_iconst ⟨by decide, by decide⟩ ?_
        refine y_blk (t := 42) rfl (show fnd bk_X13_isRight 42 = some _ from rfl) aB_X13_isRight ?_
        cases h
        exact y_ret0 (Or.inr (Or.inl rfl)) ⟨rfl, rfl⟩
      · rw [if_pos c7] at h
        refine wp_iconst ⟨by decide, by decide⟩ ?_
        refine wp_goto ?_
        refine y_blk (t := 42) rfl (show fnd bk_X13_isRight 42 = some _ from rfl) aB_X13_isRight ?_
        cases h
        exact y_ret0 (Or.inr (Or.inr rfl)) ⟨rfl, rfl⟩
  exact fun d hd => Ms.of (key d hd)
theorem aB_X13_weightOf : ∀ pc, aB 286 pc = fnd bk_X13_weightOf pc := fun _ => rfl
def l_X13_weightOf_5 (T : Nat) (v1 : Int) (M : aM) (k : Int → Int → Option Int) : Nat → Int → Int → Option Int
| 0, _, _ => none
| n + 1, v2, v4 =>
 if okW T (M 138 3) then
 if (M (M 138 3).toNat 9) ≤ v4 then
 k v2 v4 else
 (f_X13_isRight T v4 v1 M).bind fun x3 =>
 if x3 = 0 then
 if aInL (v2 * (M (M 138 3).toNat 1)) then
 if aIn (v4 + 1) then
 l_X13_weightOf_5 T v1 M k n (v2 * (M (M 138 3).toNat 1)) (v4 + 1) else none else none else
 if aIn (100 - (M (M 138 3).toNat 1)) then
 if aInL (v2 * (100 - (M (M 138 3).toNat 1))) then
 if aIn (v4 + 1) then
 l_X13_weightOf_5 T v1 M k n (v2 * (100 - (M (M 138 3).toNat 1))) (v4 + 1) else none else none else none else none
theorem tl_X13_weightOf_5 {d : Nat} (hd : 2 ≤ d) {T : T3} {v1 : Int} {M : aM} {k : Int → Int → Option Int} {y : Int}  (hS : Sh T.1 M)
    (hk : ∀ (v2 v4 : Int), Sh T.1 M → k v2 v4 = some y → Wp d 286 58 [] [(2, ((138 : Nat) : Int)), (0, v1), (1, v2), (9, 0), (0, v4)] [] (M, T) (fun r2 σ2 => r2 = some (1, y) ∧ σ2 = (M, T))) :
    ∀ (n : Nat) (v2 v4 : Int), Sh T.1 M → l_X13_weightOf_5 T.1 v1 M k n v2 v4 = some y → Wp d 286 5 [] [(2, ((138 : Nat) : Int)), (0, v1), (1, v2), (9, 0), (0, v4)] [] (M, T) (fun r2 σ2 => r2 = some (1, y) ∧ σ2 = (M, T)) := by
  intro n
  induction n with
  | zero =>
    intro v2 v4 _ h
    exact nomatch (show (none : Option Int) = some y from h)
  | succ n ih =>
    intro v2 v4 sM h
    rw [l_X13_weightOf_5] at h
    refine y_blk (t := 5) rfl (show fnd bk_X13_weightOf 5 = some _ from rfl) aB_X13_weightOf ?_
    refine wp_iload (v := v4) rfl ?_
    refine wp_aload_n (v := ((138 : Nat) : Int)) rfl (Int.natCast_nonneg _) ?_
    obtain ⟨c1, h⟩ := d_ite h
    refine y_get (show ash 138 = (13, 38) from rfl) (Nat.lt_of_lt_of_le (show 138 < 154 by decide) hS.1.1) (v := (((M 138 3).toNat : Nat) : Int)) c1.eq rfl ?_
    refine y_get (aW0 hS.1.2 c1.is) (ltW c1.is 0 (by decide)) (v := M (M 138 3).toNat 9) rfl rfl ?_
    refine wp_icmp_ge (fun c2 => ?_) (fun c2 => ?_)
    · rw [if_pos c2] at h
      exact hk v2 v4   sM h
    · rw [if_neg c2] at h
      refine wp_lload_n (v := v2) rfl ?_
      refine wp_aload_n (v := ((138 : Nat) : Int)) rfl (Int.natCast_nonneg _) ?_
      refine wp_iload (v := v4) rfl ?_
      refine wp_iload_n (v := v1) rfl ?_
      obtain ⟨x3, e4, h⟩ := d_bind h
      refine y_callV (as := [(0, v4), (0, v1)]) (S1 := [(1, v2)]) (Nat.le_of_ble_eq_true rfl) (by omega) (t_X13_isRight sM e4) (Nat.le_of_ble_eq_true rfl) rfl (show ash 138 = (13, 38) from rfl) (Nat.lt_of_lt_of_le (show 138 < 154 by decide) hS.1.1) (Nat.le_of_ble_eq_true rfl) (Nat.le_of_ble_eq_true rfl) rfl ?_
      refine wp_if_eq (fun c5 => ?_) (fun c5 => ?_)
      · rw [if_pos c5] at h
        refine y_blk (t := 42) rfl (show fnd bk_X13_weightOf 42 = some _ from rfl) aB_X13_weightOf ?_
        refine wp_aload_n (v := ((138 : Nat) : Int)) rfl (Int.natCast_nonneg _) ?_
        refine y_get (show ash 138 = (13, 38) from rfl) (Nat.lt_of_lt_of_le (show 138 < 154 by decide) hS.1.1) (v := (((M 138 3).toNat : Nat) : Int)) c1.eq rfl ?_
        refine y_get (aW0 hS.1.2 c1.is) (ltW c1.is 0 (by decide)) (v := M (M 138 3).toNat 1) rfl rfl ?_
        refine wp_i2l ?_
        refine y_blk (t := 50) rfl (show fnd bk_X13_weightOf 50 = some _ from rfl) aB_X13_weightOf ?_
        obtain ⟨c6, h⟩ := d_ite h
        refine wp_lmul c6 ?_
        refine y_lstn (L1 := [(2, ((138 : Nat) : Int)), (0, v1), (1, (v2 * (M (M 138 3).toNat 1))), (9, 0), (0, v4)]) (Nat.le_of_ble_eq_true rfl) rfl ?_
        obtain ⟨c7, h⟩ := d_ite h
        refine y_iinc (L1 := [(2, ((138 : Nat) : Int)), (0, v1), (1, (v2 * (M (M 138 3).toNat 1))), (9, 0), (0, (v4 + 1))]) rfl (Nat.le_of_ble_eq_true rfl) ⟨by decide, by decide⟩ c7 rfl ?_
        refine wp_goto ?_
        exact ih (v2 * (M (M 138 3).toNat 1)) (v4 + 1)   sM h
      · rw [if_neg c5] at h
        refine wp_bipush (by decide) ?_
        refine wp_aload_n (v := ((138 : Nat) : Int)) rfl (Int.natCast_nonneg _) ?_
        refine y_get (show ash 138 = (13, 38) from rfl) (Nat.lt_of_lt_of_le (show 138 < 154 by decide) hS.1.1) (v := (((M 138 3).toNat : Nat) : Int)) c1.eq rfl ?_
        refine y_get (aW0 hS.1.2 c1.is) (ltW c1.is 0 (by decide)) (v := M (M 138 3).toNat 1) rfl rfl ?_
        obtain ⟨c8, h⟩ := d_ite h
        refine wp_isub c8 ?_
        refine wp_i2l ?_
        refine wp_goto ?_
        refine y_blk (t := 50) rfl (show fnd bk_X13_weightOf 50 = some _ from rfl) aB_X13_weightOf ?_
        obtain ⟨c9, h⟩ := d_ite h
        refine wp_lmul c9 ?_
        refine y_lstn (L1 := [(2, ((138 : Nat) : Int)), (0, v1), (1, (v2 * (100 - (M (M 138 3).toNat 1)))), (9, 0), (0, v4)]) (Nat.le_of_ble_eq_true rfl) rfl ?_
        obtain ⟨c10, h⟩ := d_ite h
        refine y_iinc (L1 := [(2, ((138 : Nat) : Int)), (0, v1), (1, (v2 * (100 - (M (M 138 3).toNat 1)))), (9, 0), (0, (v4 + 1))]) rfl (Nat.le_of_ble_eq_true rfl) ⟨by decide, by decide⟩ c10 rfl ?_
        refine wp_goto ?_
        exact ih (v2 * (100 - (M (M 138 3).toNat 1))) (v4 + 1)   sM h
def f_X13_weightOf (T : Nat) (v1 : Int) (M : aM) : Option Int :=
 l_X13_weightOf_5 T v1 M (fun w11 w12 =>
 some w11) FU 1 0
theorem t_X13_weightOf {T : T3} {v1 : Int} {M : aM} {y : Int}  (hS : Sh T.1 M) (h : f_X13_weightOf T.1 v1 M = some y) : Mr 2 286 [(2, ((138 : Nat) : Int)), (0, v1)] M (some (1, y)) M T := by
  have key : ∀ d, 2 ≤ d → Wp d 286 0 [] [(2, ((138 : Nat) : Int)), (0, v1), (9, 0), (9, 0), (9, 0)] [] (M, T) (fun r2 σ2 => r2 = some (1, y) ∧ σ2 = (M, T)) := by
    intro d hd
    rw [f_X13_weightOf] at h
    refine y_blk (t := 0) rfl (show fnd bk_X13_weightOf 0 = some _ from rfl) aB_X13_weightOf ?_
    refine y_lconst (v := 1) rfl ?_
    refine y_lstn (L1 := [(2, ((138 : Nat) : Int)), (0, v1), (1, 1), (9, 0), (9, 0)]) (Nat.le_of_ble_eq_true rfl) rfl ?_
    refine wp_iconst ⟨by decide, by decide⟩ ?_
    refine y_st (L1 := [(2, ((138 : Nat) : Int)), (0, v1), (1, 1), (9, 0), (0, 0)]) (Nat.le_of_ble_eq_true rfl) rfl ?_
    refine tl_X13_weightOf_5 (by omega) hS (fun w11 w12   s13 h => ?_) FU 1 0   hS h
    refine y_blk (t := 58) rfl (show fnd bk_X13_weightOf 58 = some _ from rfl) aB_X13_weightOf ?_
    refine wp_lload_n (v := w11) rfl ?_
    cases h
    exact wp_lreturn ⟨rfl, rfl⟩
  exact fun d hd => Ms.of (key d hd)
theorem aB_X13_fitting : ∀ pc, aB 287 pc = fnd bk_X13_fitting pc := fun _ => rfl
def l_X13_fitting_16 (T : Nat)  (M : aM) (k : Int → Int → Option (Int × aM)) : Nat → Int → Int → Option (Int × aM)
| 0, _, _ => none
| n + 1, v1, v2 =>
 if okW T (M 138 3) then
 if (M (M 138 3).toNat 3) ≤ v2 then
 k v1 v2 else
 (f_X13_weightOf T v2 M).bind fun x8 =>
 if (alcmp x8 0) ≤ 0 then
 if aIn (v2 + 1) then
 l_X13_fitting_16 T M k n (aor v1 0) (v2 + 1) else none else
 if aIn (v2 + 1) then
 l_X13_fitting_16 T M k n (aor v1 (ashl 1 v2)) (v2 + 1) else none else none
theorem tl_X13_fitting_16 {d : Nat} (hd : 3 ≤ d) {T : T3}  {M : aM} {k : Int → Int → Option (Int × aM)} {y : (Int × aM)}  (hS : Sh T.1 M)
    (hk : ∀ (v1 v2 : Int), Sh T.1 M → k v1 v2 = some y → Wp d 287 53 [] [(2, ((138 : Nat) : Int)), (0, v1), (0, v2)] [] (M, T) (fun r2 σ2 => r2 = some (0, y.1) ∧ σ2 = (y.2, T) ∧ Sh T.1 y.2)) :
    ∀ (n : Nat) (v1 v2 : Int), Sh T.1 M → l_X13_fitting_16 T.1 M k n v1 v2 = some y → Wp d 287 16 [] [(2, ((138 : Nat) : Int)), (0, v1), (0, v2)] [] (M, T) (fun r2 σ2 => r2 = some (0, y.1) ∧ σ2 = (y.2, T) ∧ Sh T.1 y.2) := by
  intro n
  induction n with
  | zero =>
    intro v1 v2 _ h
    exact nomatch (show (none : Option (Int × aM)) = some y from h)
  | succ n ih =>
    intro v1 v2 sM h
    rw [l_X13_fitting_16] at h
    refine y_blk (t := 16) rfl (show fnd bk_X13_fitting 16 = some _ from rfl) aB_X13_fitting ?_
    refine wp_iload_n (v := v2) rfl ?_
    refine wp_aload_n (v := ((138 : Nat) : Int)) rfl (Int.natCast_nonneg _) ?_
    obtain ⟨c6, h⟩ := d_ite h
    refine y_get (show ash 138 = (13, 38) from rfl) (Nat.lt_of_lt_of_le (show 138 < 154 by decide) hS.1.1) (v := (((M 138 3).toNat : Nat) : Int)) c6.eq rfl ?_
    refine y_get (aW0 hS.1.2 c6.is) (ltW c6.is 0 (by decide)) (v := M (M 138 3).toNat 3) rfl rfl ?_
    refine wp_icmp_ge (fun c7 => ?_) (fun c7 => ?_)
    · rw [if_pos c7] at h
      exact hk v1 v2   sM h
    · rw [if_neg c7] at h
      refine wp_iload_n (v := v1) rfl ?_
      refine wp_aload_n (v := ((138 : Nat) : Int)) rfl (Int.natCast_nonneg _) ?_
      refine wp_iload_n (v := v2) rfl ?_
      obtain ⟨x8, e9, h⟩ := d_bind h
      refine y_callV (as := [(0, v2)]) (S1 := [(0, v1)]) (Nat.le_of_ble_eq_true rfl) (by omega) (t_X13_weightOf sM e9) (Nat.le_of_ble_eq_true rfl) rfl (show ash 138 = (13, 38) from rfl) (Nat.lt_of_lt_of_le (show 138 < 154 by decide) hS.1.1) (Nat.le_of_ble_eq_true rfl) (Nat.le_of_ble_eq_true rfl) rfl ?_
      refine y_lconst (v := 0) rfl ?_
      refine wp_lcmp ?_
      refine wp_if_le (fun c10 => ?_) (fun c10 => ?_)
      · rw [if_pos c10] at h
        refine y_blk (t := 44) rfl (show fnd bk_X13_fitting 44 = some _ from rfl) aB_X13_fitting ?_
        refine wp_iconst ⟨by decide, by decide⟩ ?_
        refine y_blk (t := 45) rfl (show fnd bk_X13_fitting 45 = some _ from rfl) aB_X13_fitting ?_
        refine wp_ior ?_
        refine y_stn (L1 := [(2, ((138 : Nat) : Int)), (0, (aor v1 0)), (0, v2)]) (Nat.le_of_ble_eq_true rfl) rfl ?_
        obtain ⟨c11, h⟩ := d_ite h
        refine y_iinc (L1 := [(2, ((138 : Nat) : Int)), (0, (aor v1 0)), (0, (v2 + 1))]) rfl (Nat.le_of_ble_eq_true rfl) ⟨by decide, by decide⟩ c11 rfl ?_
        refine wp_goto ?_
        exact ih (aor v1 0) (v2 + 1)   sM h
      · rw [if_neg c10] at h
        refine wp_iconst ⟨by decide, by decide⟩ ?_
        refine wp_iload_n (v := v2) rfl ?_
        refine wp_ishl ?_
        refine wp_goto ?_
        refine y_blk (t := 45) rfl (show fnd bk_X13_fitting 45 = some _ from rfl) aB_X13_fitting ?_
        refine wp_ior ?_
        refine y_stn (L1 := [(2, ((138 : Nat) : Int)), (0, (aor v1 (ashl 1 v2))), (0, v2)]) (Nat.le_of_ble_eq_true rfl) rfl ?_
        obtain ⟨c12, h⟩ := d_ite h
        refine y_iinc (L1 := [(2, ((138 : Nat) : Int)), (0, (aor v1 (ashl 1 v2))), (0, (v2 + 1))]) rfl (Nat.le_of_ble_eq_true rfl) ⟨by decide, by decide⟩ c12 rfl ?_
        refine wp_goto ?_
        exact ih (aor v1 (ashl 1 v2)) (v2 + 1)   sM h
def f_X13_fitting (T : Nat)  (M : aM) : Option (Int × aM) :=
 if okW T (M 138 3) then
 (f_X13_lays T (M (M 138 3).toNat 6) (-1) M).bind fun x2 =>
 l_X13_fitting_16 T x2.2 (fun w13 w14 =>
 some (w13, x2.2)) FU 0 0 else none
theorem t_X13_fitting {T : T3}  {M : aM} {y : (Int × aM)}  (hS : Sh T.1 M) (h : f_X13_fitting T.1  M = some y) : Mr 3 287 [(2, ((138 : Nat) : Int))] M (some (0, y.1)) y.2 T ∧ Sh T.1 y.2 := by
  have key : ∀ d, 3 ≤ d → Wp d 287 0 [] [(2, ((138 : Nat) : Int)), (9, 0), (9, 0)] [] (M, T) (fun r2 σ2 => r2 = some (0, y.1) ∧ σ2 = (y.2, T) ∧ Sh T.1 y.2) := by
    intro d hd
    rw [f_X13_fitting] at h
    refine y_blk (t := 0) rfl (show fnd bk_X13_fitting 0 = some _ from rfl) aB_X13_fitting ?_
    refine wp_aload_n (v := ((138 : Nat) : Int)) rfl (Int.natCast_nonneg _) ?_
    refine wp_aload_n (v := ((138 : Nat) : Int)) rfl (Int.natCast_nonneg _) ?_
    obtain ⟨c1, h⟩ := d_ite h
    refine y_get (show ash 138 = (13, 38) from rfl) (Nat.lt_of_lt_of_le (show 138 < 154 by decide) hS.1.1) (v := (((M 138 3).toNat : Nat) : Int)) c1.eq rfl ?_
    refine y_get (aW0 hS.1.2 c1.is) (ltW c1.is 0 (by decide)) (v := M (M 138 3).toNat 6) rfl rfl ?_
    refine wp_iconst ⟨by decide, by decide⟩ ?_
    obtain ⟨x2, e3, h⟩ := d_bind h
    obtain ⟨r4, s5⟩ := t_X13_lays hS e3
    refine y_callVv (as := [(0, (M (M 138 3).toNat 6)), (0, (-1))]) (S1 := []) (Nat.le_of_ble_eq_true rfl) (by omega) r4 rfl (show ash 138 = (13, 38) from rfl) (Nat.lt_of_lt_of_le (show 138 < 154 by decide) hS.1.1) (Nat.le_of_ble_eq_true rfl) (Nat.le_of_ble_eq_true rfl) rfl ?_
    refine wp_iconst ⟨by decide, by decide⟩ ?_
    refine y_stn (L1 := [(2, ((138 : Nat) : Int)), (0, 0), (9, 0)]) (Nat.le_of_ble_eq_true rfl) rfl ?_
    refine wp_iconst ⟨by decide, by decide⟩ ?_
    refine y_stn (L1 := [(2, ((138 : Nat) : Int)), (0, 0), (0, 0)]) (Nat.le_of_ble_eq_true rfl) rfl ?_
    refine tl_X13_fitting_16 (by omega) s5 (fun w13 w14   s15 h => ?_) FU 0 0   s5 h
    refine y_blk (t := 53) rfl (show fnd bk_X13_fitting 53 = some _ from rfl) aB_X13_fitting ?_
    refine wp_iload_n (v := w13) rfl ?_
    cases h
    exact y_ret0 (Or.inl rfl) ⟨rfl, rfl, s15⟩
  exact ⟨fun d hd => Ms.of3 (key d hd), Ms.sh (key 3 (Nat.le_refl _))⟩
theorem aB_X13_fits : ∀ pc, aB 288 pc = fnd bk_X13_fits pc := fun _ => rfl
def f_X13_fits (T : Nat)  (M : aM) : Option (Int × aM) :=
 (some (aup M 138 0 0)).bind fun m1 =>
 if m1 138 3 < 0 then
 (f_X13_refused T 1 m1).bind fun x12 =>
 some (x12.1, x12.2) else
 (f_X13_fitting T m1).bind fun x4 =>
 (f_X13_good T x4.1 x4.2).bind fun x8 =>
 some (x8.1, x8.2)
theorem t_X13_fits {T : T3}  {M : aM} {y : (Int × aM)}  (hS : Sh T.1 M) (h : f_X13_fits T.1  M = some y) : Mr 4 288 [(2, ((138 : Nat) : Int))] M (some (0, y.1)) y.2 T ∧ Sh T.1 y.2 := by
  have key : ∀ d, 4 ≤ d → Wp d 288 0 [] [(2, ((138 : Nat) : Int))] [] (M, T) (fun r2 σ2 => r2 = some (0, y.1) ∧ σ2 = (y.2, T) ∧ Sh T.1 y.2) := by
    intro d hd
    rw [f_X13_fits] at h
    refine y_blk (t := 0) rfl (show fnd bk_X13_fits 0 = some _ from rfl) aB_X13_fits ?_
    refine wp_aload_n (v := ((138 : Nat) : Int)) rfl (Int.natCast_nonneg _) ?_
    refine wp_iconst ⟨by decide, by decide⟩ ?_
    refine y_put (show ash 138 = (13, 38) from rfl) (Nat.lt_of_lt_of_le (show 138 < 154 by decide) hS.1.1) rfl ?_
    obtain ⟨m1, em1, h⟩ := d_bind h
    have em1 := Option.some.inj em1
    have s2 : Sh T.1 m1 := em1 ▸ hS.up (Or.inr ⟨by rw [(show ash 138 = (13, 38) from rfl)]; decide, by rw [(show ash 138 = (13, 38) from rfl)]; decide⟩) (by have := (Nat.lt_of_lt_of_le (show 138 < 154 by decide) hS.1.1); have := hS.1.2; omega)
    rw [em1]
    refine wp_aload_n (v := ((138 : Nat) : Int)) rfl (Int.natCast_nonneg _) ?_
    refine y_get (show ash 138 = (13, 38) from rfl) (Nat.lt_of_lt_of_le (show 138 < 154 by decide) hS.1.1) (v := m1 138 3) rfl rfl ?_
    refine wp_ifnonnull (fun c3 => ?_) (fun c3 => ?_)
    · rw [if_neg c3] at h
      refine y_blk (t := 20) rfl (show fnd bk_X13_fits 20 = some _ from rfl) aB_X13_fits ?_
      refine wp_aload_n (v := ((138 : Nat) : Int)) rfl (Int.natCast_nonneg _) ?_
      refine wp_aload_n (v := ((138 : Nat) : Int)) rfl (Int.natCast_nonneg _) ?_
      obtain ⟨x4, e5, h⟩ := d_bind h
      obtain ⟨r6, s7⟩ := t_X13_fitting s2 e5
      refine y_callV (as := []) (S1 := [(2, ((138 : Nat) : Int))]) (Nat.le_of_ble_eq_true rfl) (by omega) r6 (Nat.le_of_ble_eq_true rfl) rfl (show ash 138 = (13, 38) from rfl) (Nat.lt_of_lt_of_le (show 138 < 154 by decide) hS.1.1) (Nat.le_of_ble_eq_true rfl) (Nat.le_of_ble_eq_true rfl) rfl ?_
      obtain ⟨x8, e9, h⟩ := d_bind h
      obtain ⟨r10, s11⟩ := t_X13_good s7 e9
      refine y_callV (as := [(0, x4.1)]) (S1 := []) (Nat.le_of_ble_eq_true rfl) (by omega) r10 (Nat.le_of_ble_eq_true rfl) rfl (show ash 138 = (13, 38) from rfl) (Nat.lt_of_lt_of_le (show 138 < 154 by decide) hS.1.1) (Nat.le_of_ble_eq_true rfl) (Nat.le_of_ble_eq_true rfl) rfl ?_
      refine y_blk (t := 28) rfl (show fnd bk_X13_fits 28 = some _ from rfl) aB_X13_fits ?_
      cases h
      exact y_ret0 (Or.inl rfl) ⟨rfl, rfl, s11⟩
    · rw [if_pos c3] at h
      refine wp_aload_n (v := ((138 : Nat) : Int)) rfl (Int.natCast_nonneg _) ?_
      refine wp_iconst ⟨by decide, by decide⟩ ?_
      obtain ⟨x12, e13, h⟩ := d_bind h
      obtain ⟨r14, s15⟩ := t_X13_refused s2 e13
      refine y_callV (as := [(0, 1)]) (S1 := []) (Nat.le_of_ble_eq_true rfl) (by omega) r14 (Nat.le_of_ble_eq_true rfl) rfl (show ash 138 = (13, 38) from rfl) (Nat.lt_of_lt_of_le (show 138 < 154 by decide) hS.1.1) (Nat.le_of_ble_eq_true rfl) (Nat.le_of_ble_eq_true rfl) rfl ?_
      refine wp_goto ?_
      refine y_blk (t := 28) rfl (show fnd bk_X13_fits 28 = some _ from rfl) aB_X13_fits ?_
      cases h
      exact y_ret0 (Or.inl rfl) ⟨rfl, rfl, s15⟩
  exact ⟨fun d hd => Ms.of3 (key d hd), Ms.sh (key 4 (Nat.le_refl _))⟩
theorem aB_X13_odds : ∀ pc, aB 289 pc = fnd bk_X13_odds pc := fun _ => rfl
def l_X13_odds_37 (T : Nat) (v1 : Int) (v2 : Int) (M : aM) (k : Int → Int → Option (Int × aM)) : Nat → Int → Int → Option (Int × aM)
| 0, _, _ => none
| n + 1, v3, v5 =>
 if okW T (M 138 3) then
 if (M (M 138 3).toNat 3) ≤ v5 then
 k v3 v5 else
 (f_X13_weightOf T v5 M).bind fun x13 =>
 if aInL (v3 + x13) then
 if aIn (v5 + 1) then
 l_X13_odds_37 T v1 v2 M k n (v3 + x13) (v5 + 1) else none else none else none
theorem tl_X13_odds_37 {d : Nat} (hd : 3 ≤ d) {T : T3} {v1 : Int} {v2 : Int} {M : aM} {k : Int → Int → Option (Int × aM)} {y : (Int × aM)}  (hS : Sh T.1 M)
    (hk : ∀ (v3 v5 : Int), Sh T.1 M → k v3 v5 = some y → Wp d 289 64 [] [(2, ((138 : Nat) : Int)), (0, v1), (0, v2), (1, v3), (9, 0), (0, v5)] [] (M, T) (fun r2 σ2 => r2 = some (1, y.1) ∧ σ2 = (y.2, T) ∧ Sh T.1 y.2)) :
    ∀ (n : Nat) (v3 v5 : Int), Sh T.1 M → l_X13_odds_37 T.1 v1 v2 M k n v3 v5 = some y → Wp d 289 37 [] [(2, ((138 : Nat) : Int)), (0, v1), (0, v2), (1, v3), (9, 0), (0, v5)] [] (M, T) (fun r2 σ2 => r2 = some (1, y.1) ∧ σ2 = (y.2, T) ∧ Sh T.1 y.2) := by
  intro n
  induction n with
  | zero =>
    intro v3 v5 _ h
    exact nomatch (show (none : Option (Int × aM)) = some y from h)
  | succ n ih =>
    intro v3 v5 sM h
    rw [l_X13_odds_37] at h
    refine y_blk (t := 37) rfl (show fnd bk_X13_odds 37 = some _ from rfl) aB_X13_odds ?_
    refine wp_iload (v := v5) rfl ?_
    refine wp_aload_n (v := ((138 : Nat) : Int)) rfl (Int.natCast_nonneg _) ?_
    obtain ⟨c11, h⟩ := d_ite h
    refine y_get (show ash 138 = (13, 38) from rfl) (Nat.lt_of_lt_of_le (show 138 < 154 by decide) hS.1.1) (v := (((M 138 3).toNat : Nat) : Int)) c11.eq rfl ?_
    refine y_get (aW0 hS.1.2 c11.is) (ltW c11.is 0 (by decide)) (v := M (M 138 3).toNat 3) rfl rfl ?_
    refine wp_icmp_ge (fun c12 => ?_) (fun c12 => ?_)
    · rw [if_pos c12] at h
      exact hk v3 v5   sM h
    · rw [if_neg c12] at h
      refine wp_lload_n (v := v3) rfl ?_
      refine wp_aload_n (v := ((138 : Nat) : Int)) rfl (Int.natCast_nonneg _) ?_
      refine wp_iload (v := v5) rfl ?_
      obtain ⟨x13, e14, h⟩ := d_bind h
      refine y_callV (as := [(0, v5)]) (S1 := [(1, v3)]) (Nat.le_of_ble_eq_true rfl) (by omega) (t_X13_weightOf sM e14) (Nat.le_of_ble_eq_true rfl) rfl (show ash 138 = (13, 38) from rfl) (Nat.lt_of_lt_of_le (show 138 < 154 by decide) hS.1.1) (Nat.le_of_ble_eq_true rfl) (Nat.le_of_ble_eq_true rfl) rfl ?_
      obtain ⟨c15, h⟩ := d_ite h
      refine wp_ladd c15 ?_
      refine y_lstn (L1 := [(2, ((138 : Nat) : Int)), (0, v1), (0, v2), (1, (v3 + x13)), (9, 0), (0, v5)]) (Nat.le_of_ble_eq_true rfl) rfl ?_
      obtain ⟨c16, h⟩ := d_ite h
      refine y_iinc (L1 := [(2, ((138 : Nat) : Int)), (0, v1), (0, v2), (1, (v3 + x13)), (9, 0), (0, (v5 + 1))]) rfl (Nat.le_of_ble_eq_true rfl) ⟨by decide, by decide⟩ c16 rfl ?_
      refine wp_goto ?_
      exact ih (v3 + x13) (v5 + 1)   sM h
def f_X13_odds (T : Nat) (v1 : Int) (v2 : Int) (M : aM) : Option (Int × aM) :=
 (some (aup M 138 0 0)).bind fun m1 =>
 (f_X13_isCave T v1 m1).bind fun x3 =>
 if x3 = 0 then
 (f_X13_refused T 1 m1).bind fun x26 =>
 some (x26.1, x26.2) else
 if okW T (m1 138 3) then
 (f_X13_lays T (m1 (m1 138 3).toNat 6) (-1) m1).bind fun x7 =>
 l_X13_odds_37 T v1 v2 x7.2 (fun w17 w18 =>
 (f_X13_weightOf T v1 x7.2).bind fun x20 =>
 (f_X13_fraction T x20 w17 v2 x7.2).bind fun x22 =>
 some (x22.1, x22.2)) FU 0 0 else none
theorem t_X13_odds {T : T3} {v1 : Int} {v2 : Int} {M : aM} {y : (Int × aM)}  (hS : Sh T.1 M) (h : f_X13_odds T.1 v1 v2 M = some y) : Mr 3 289 [(2, ((138 : Nat) : Int)), (0, v1), (0, v2)] M (some (1, y.1)) y.2 T ∧ Sh T.1 y.2 := by
  have key : ∀ d, 3 ≤ d → Wp d 289 0 [] [(2, ((138 : Nat) : Int)), (0, v1), (0, v2), (9, 0), (9, 0), (9, 0)] [] (M, T) (fun r2 σ2 => r2 = some (1, y.1) ∧ σ2 = (y.2, T) ∧ Sh T.1 y.2) := by
    intro d hd
    rw [f_X13_odds] at h
    refine y_blk (t := 0) rfl (show fnd bk_X13_odds 0 = some _ from rfl) aB_X13_odds ?_
    refine wp_aload_n (v := ((138 : Nat) : Int)) rfl (Int.natCast_nonneg _) ?_
    refine wp_iconst ⟨by decide, by decide⟩ ?_
    refine y_put (show ash 138 = (13, 38) from rfl) (Nat.lt_of_lt_of_le (show 138 < 154 by decide) hS.1.1) rfl ?_
    obtain ⟨m1, em1, h⟩ := d_bind h
    have em1 := Option.some.inj em1
    have s2 : Sh T.1 m1 := em1 ▸ hS.up (Or.inr ⟨by rw [(show ash 138 = (13, 38) from rfl)]; decide, by rw [(show ash 138 = (13, 38) from rfl)]; decide⟩) (by have := (Nat.lt_of_lt_of_le (show 138 < 154 by decide) hS.1.1); have := hS.1.2; omega)
    rw [em1]
    refine wp_aload_n (v := ((138 : Nat) : Int)) rfl (Int.natCast_nonneg _) ?_
    refine wp_iload_n (v := v1) rfl ?_
    obtain ⟨x3, e4, h⟩ := d_bind h
    refine y_callV (as := [(0, v1)]) (S1 := []) (Nat.le_of_ble_eq_true rfl) (by omega) (t_X13_isCave s2 e4) (Nat.le_of_ble_eq_true rfl) rfl (show ash 138 = (13, 38) from rfl) (Nat.lt_of_lt_of_le (show 138 < 154 by decide) hS.1.1) (Nat.le_of_ble_eq_true rfl) (Nat.le_of_ble_eq_true rfl) rfl ?_
    refine y_nez (fun c5 => ?_) (fun c5 => ?_)
    · rw [if_neg c5] at h
      refine y_blk (t := 20) rfl (show fnd bk_X13_odds 20 = some _ from rfl) aB_X13_odds ?_
      refine wp_aload_n (v := ((138 : Nat) : Int)) rfl (Int.natCast_nonneg _) ?_
      refine wp_aload_n (v := ((138 : Nat) : Int)) rfl (Int.natCast_nonneg _) ?_
      obtain ⟨c6, h⟩ := d_ite h
      refine y_get (show ash 138 = (13, 38) from rfl) (Nat.lt_of_lt_of_le (show 138 < 154 by decide) hS.1.1) (v := (((m1 138 3).toNat : Nat) : Int)) c6.eq rfl ?_
      refine y_get (aW0 hS.1.2 c6.is) (ltW c6.is 0 (by decide)) (v := m1 (m1 138 3).toNat 6) rfl rfl ?_
      refine wp_iconst ⟨by decide, by decide⟩ ?_
      obtain ⟨x7, e8, h⟩ := d_bind h
      obtain ⟨r9, s10⟩ := t_X13_lays s2 e8
      refine y_callVv (as := [(0, (m1 (m1 138 3).toNat 6)), (0, (-1))]) (S1 := []) (Nat.le_of_ble_eq_true rfl) (by omega) r9 rfl (show ash 138 = (13, 38) from rfl) (Nat.lt_of_lt_of_le (show 138 < 154 by decide) hS.1.1) (Nat.le_of_ble_eq_true rfl) (Nat.le_of_ble_eq_true rfl) rfl ?_
      refine y_lconst (v := 0) rfl ?_
      refine y_lstn (L1 := [(2, ((138 : Nat) : Int)), (0, v1), (0, v2), (1, 0), (9, 0), (9, 0)]) (Nat.le_of_ble_eq_true rfl) rfl ?_
      refine wp_iconst ⟨by decide, by decide⟩ ?_
      refine y_st (L1 := [(2, ((138 : Nat) : Int)), (0, v1), (0, v2), (1, 0), (9, 0), (0, 0)]) (Nat.le_of_ble_eq_true rfl) rfl ?_
      refine tl_X13_odds_37 (by omega) s10 (fun w17 w18   s19 h => ?_) FU 0 0   s10 h
      refine y_blk (t := 64) rfl (show fnd bk_X13_odds 64 = some _ from rfl) aB_X13_odds ?_
      refine wp_aload_n (v := ((138 : Nat) : Int)) rfl (Int.natCast_nonneg _) ?_
      refine wp_aload_n (v := ((138 : Nat) : Int)) rfl (Int.natCast_nonneg _) ?_
      refine wp_iload_n (v := v1) rfl ?_
      obtain ⟨x20, e21, h⟩ := d_bind h
      refine y_callV (as := [(0, v1)]) (S1 := [(2, ((138 : Nat) : Int))]) (Nat.le_of_ble_eq_true rfl) (by omega) (t_X13_weightOf s19 e21) (Nat.le_of_ble_eq_true rfl) rfl (show ash 138 = (13, 38) from rfl) (Nat.lt_of_lt_of_le (show 138 < 154 by decide) hS.1.1) (Nat.le_of_ble_eq_true rfl) (Nat.le_of_ble_eq_true rfl) rfl ?_
      refine wp_lload_n (v := w17) rfl ?_
      refine wp_iload_n (v := v2) rfl ?_
      obtain ⟨x22, e23, h⟩ := d_bind h
      obtain ⟨r24, s25⟩ := t_X13_fraction s19 e23
      refine y_callV (as := [(1, x20), (1, w17), (0, v2)]) (S1 := []) (Nat.le_of_ble_eq_true rfl) (by omega) r24 (Nat.le_of_ble_eq_true rfl) rfl (show ash 138 = (13, 38) from rfl) (Nat.lt_of_lt_of_le (show 138 < 154 by decide) hS.1.1) (Nat.le_of_ble_eq_true rfl) (Nat.le_of_ble_eq_true rfl) rfl ?_
      cases h
      exact wp_lreturn ⟨rfl, rfl, s25⟩
    · rw [if_pos c5] at h
      refine wp_aload_n (v := ((138 : Nat) : Int)) rfl (Int.natCast_nonneg _) ?_
      refine wp_iconst ⟨by decide, by decide⟩ ?_
      obtain ⟨x26, e27, h⟩ := d_bind h
      obtain ⟨r28, s29⟩ := t_X13_refused s2 e27
      refine y_callV (as := [(0, 1)]) (S1 := []) (Nat.le_of_ble_eq_true rfl) (by omega) r28 (Nat.le_of_ble_eq_true rfl) rfl (show ash 138 = (13, 38) from rfl) (Nat.lt_of_lt_of_le (show 138 < 154 by decide) hS.1.1) (Nat.le_of_ble_eq_true rfl) (Nat.le_of_ble_eq_true rfl) rfl ?_
      refine wp_i2l ?_
      cases h
      exact wp_lreturn ⟨rfl, rfl, s29⟩
  exact ⟨fun d hd => Ms.of3 (key d hd), Ms.sh (key 3 (Nat.le_refl _))⟩

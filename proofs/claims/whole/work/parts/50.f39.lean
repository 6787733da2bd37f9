/-! ===== methods as functions ===== -/
theorem aB_X13_back : ∀ pc, aB 329 pc = fnd bk_X13_back pc := fun _ => rfl
def l_X13_back_32 (T : Nat) (v1 : Int) (k : Int → aM → Option (Int × aM)) : Nat → Int → aM → Option (Int × aM)
| 0, _, _ => none
| n + 1, v2, M =>
 if 12 ≤ v2 then
 k v2 M else
 if aIn (12 * v1) then
 if aIn ((12 * v1) + v2) then
 if 0 ≤ ((12 * v1) + v2) ∧ ((12 * v1) + v2) < 36 then
 if 0 ≤ v2 ∧ v2 < 12 then
 (some (aup M 140 (v2).toNat (M 143 (((12 * v1) + v2)).toNat))).bind fun m21 =>
 if aIn (v2 + 1) then
 l_X13_back_32 T v1 k n (v2 + 1) m21 else none else none else none else none else none
theorem tl_X13_back_32 {d : Nat} (hd : 2 ≤ d) {T : T3} {v1 : Int} {k : Int → aM → Option (Int × aM)} {y : (Int × aM)}  {M0 : aM} (hS : Sh T.1 M0)
    (hk : ∀ (v2 : Int) (M : aM), Sh T.1 M → k v2 M = some y → Wp d 329 61 [] [(2, ((138 : Nat) : Int)), (0, v1), (0, v2)] [] (M, T) (fun r2 σ2 => r2 = some (0, y.1) ∧ σ2 = (y.2, T) ∧ Sh T.1 y.2)) :
    ∀ (n : Nat) (v2 : Int) (M : aM), Sh T.1 M → l_X13_back_32 T.1 v1 k n v2 M = some y → Wp d 329 32 [] [(2, ((138 : Nat) : Int)), (0, v1), (0, v2)] [] (M, T) (fun r2 σ2 => r2 = some (0, y.1) ∧ σ2 = (y.2, T) ∧ Sh T.1 y.2) := by
  intro n
  induction n with
  | zero =>
    intro v2 M _ h
    exact nomatch (show (none : Option (Int × aM)) = some y from h)
  | succ n ih =>
    intro v2 M sM h
    rw [l_X13_back_32] at h
    refine y_blk (t := 32) rfl (show fnd bk_X13_back 32 = some _ from rfl) aB_X13_back ?_
    refine wp_iload_n (v := v2) rfl ?_
    refine wp_bipush (by decide) ?_
    refine wp_icmp_ge (fun c16 => ?_) (fun c16 => ?_)
    · rw [if_pos c16] at h
      exact hk v2  M sM h
    · rw [if_neg c16] at h
      refine wp_aload_n (v := ((138 : Nat) : Int)) rfl (Int.natCast_nonneg _) ?_
      refine y_get (show ash 138 = (13, 38) from rfl) (Nat.lt_of_lt_of_le (show 138 < 154 by decide) hS.1.1) (v := ((140 : Nat) : Int)) (sM.at 138 16 140 (by decide +kernel)) rfl ?_
      refine wp_iload_n (v := v2) rfl ?_
      refine wp_aload_n (v := ((138 : Nat) : Int)) rfl (Int.natCast_nonneg _) ?_
      refine y_get (show ash 138 = (13, 38) from rfl) (Nat.lt_of_lt_of_le (show 138 < 154 by decide) hS.1.1) (v := ((143 : Nat) : Int)) (sM.at 138 19 143 (by decide +kernel)) rfl ?_
      refine wp_bipush (by decide) ?_
      refine wp_iload_n (v := v1) rfl ?_
      obtain ⟨c17, h⟩ := d_ite h
      refine wp_imul c17 ?_
      refine wp_iload_n (v := v2) rfl ?_
      obtain ⟨c18, h⟩ := d_ite h
      refine wp_iadd c18 ?_
      obtain ⟨c19, h⟩ := d_ite h
      refine y_iald (show ash 143 = (100, 36) from rfl) (Or.inl (Nat.lt_of_lt_of_le (show 143 < 154 by decide) hS.1.1)) (Nat.ne_of_lt (Nat.lt_of_lt_of_le (Nat.lt_of_lt_of_le (show 143 < 154 by decide) hS.1.1) hS.1.2)) c19 (v := M 143 (((12 * v1) + v2)).toNat) rfl ?_
      obtain ⟨c20, h⟩ := d_ite h
      refine y_iast (show ash 140 = (100, 12) from rfl) (Nat.lt_of_lt_of_le (show 140 < 154 by decide) hS.1.1) c20 ?_
      obtain ⟨m21, em21, h⟩ := d_bind h
      have em21 := Option.some.inj em21
      have s22 : Sh T.1 m21 := em21 ▸ sM.up (Or.inl ⟨by rw [(show ash 140 = (100, 12) from rfl)]; exact Nat.le_of_ble_eq_true rfl, by rw [(show ash 140 = (100, 12) from rfl)]; exact Nat.le_of_ble_eq_true rfl⟩) (by have := (Nat.lt_of_lt_of_le (show 140 < 154 by decide) hS.1.1); have := hS.1.2; omega)
      rw [em21]
      obtain ⟨c23, h⟩ := d_ite h
      refine y_iinc (L1 := [(2, ((138 : Nat) : Int)), (0, v1), (0, (v2 + 1))]) rfl (Nat.le_of_ble_eq_true rfl) ⟨by decide, by decide⟩ c23 rfl ?_
      refine wp_goto ?_
      exact ih (v2 + 1)  m21 s22 h
def f_X13_back (T : Nat) (v1 : Int) (M : aM) : Option (Int × aM) :=
 (some (aup M 138 0 0)).bind fun m1 =>
 if m1 138 3 < 0 then
 (f_X13_denied T 1 m1).bind fun x4 =>
 if x4.1 = 0 ∨ x4.1 = 1 then
 some (x4.1, x4.2) else none else
 if v1 < 0 then
 (f_X13_denied T 1 m1).bind fun x10 =>
 if x10.1 = 0 ∨ x10.1 = 1 then
 some (x10.1, x10.2) else none else
 if v1 < (m1 138 21) then
 l_X13_back_32 T v1 (fun w24 m25 =>
 (some (aup m25 138 20 0)).bind fun m27 =>
 (f_X13_granted T m27).bind fun x29 =>
 if x29.1 = 0 ∨ x29.1 = 1 then
 some (x29.1, x29.2) else none) FU 0 m1 else
 (f_X13_denied T 1 m1).bind fun x34 =>
 if x34.1 = 0 ∨ x34.1 = 1 then
 some (x34.1, x34.2) else none
theorem t_X13_back {T : T3} {v1 : Int} {M : aM} {y : (Int × aM)}  (hS : Sh T.1 M) (h : f_X13_back T.1 v1 M = some y) : Mr 2 329 [(2, ((138 : Nat) : Int)), (0, v1)] M (some (0, y.1)) y.2 T ∧ Sh T.1 y.2 := by
  have key : ∀ d, 2 ≤ d → Wp d 329 0 [] [(2, ((138 : Nat) : Int)), (0, v1), (9, 0)] [] (M, T) (fun r2 σ2 => r2 = some (0, y.1) ∧ σ2 = (y.2, T) ∧ Sh T.1 y.2) := by
    intro d hd
    rw [f_X13_back] at h
    refine y_blk (t := 0) rfl (show fnd bk_X13_back 0 = some _ from rfl) aB_X13_back ?_
    refine wp_aload_n (v := ((138 : Nat) : Int)) rfl (Int.natCast_nonneg _) ?_
    refine wp_iconst ⟨by decide, by decide⟩ ?_
    refine y_put (show ash 138 = (13, 38) from rfl) (Nat.lt_of_lt_of_le (show 138 < 154 by decide) hS.1.1) rfl ?_
    obtain ⟨m1, em1, h⟩ := d_bind h
    have em1 := Option.some.inj em1
    have s2 : Sh T.1 m1 := em1 ▸ hS.up (Or.inr ⟨by rw [(show ash 138 = (13, 38) from rfl)]; decide, by rw [(show ash 138 = (13, 38) from rfl)]; decide⟩) (by have := (Nat.lt_of_lt_of_le (show 138 < 154 by decide) hS.1.1); have := hS.1.2; omega)
    rw [em1]
    refine wp_aload_n (v := ((138 : Nat) : Int)) rfl (Int.natCast_nonneg _) ?_
    refine y_get (show ash 138 = (13, 38) from rfl) (Nat.lt_of_lt_of_le (show 138 < 154 by decide) hS.1.1) (v := m1 138 3) rfl rfl ?_
    refine wp_ifnull (fun c3 => ?_) (fun c3 => ?_)
    · rw [if_pos c3] at h
      refine y_blk (t := 24) rfl (show fnd bk_X13_back 24 = some _ from rfl) aB_X13_back ?_
      refine wp_aload_n (v := ((138 : Nat) : Int)) rfl (Int.natCast_nonneg _) ?_
      refine wp_iconst ⟨by decide, by decide⟩ ?_
      obtain ⟨x4, e5, h⟩ := d_bind h
      obtain ⟨r6, s7⟩ := t_X13_denied s2 e5
      refine y_callV (as := [(0, 1)]) (S1 := []) (Nat.le_of_ble_eq_true rfl) (by omega) r6 (Nat.le_of_ble_eq_true rfl) rfl (show ash 138 = (13, 38) from rfl) (Nat.lt_of_lt_of_le (show 138 < 154 by decide) hS.1.1) (Nat.le_of_ble_eq_true rfl) (Nat.le_of_ble_eq_true rfl) rfl ?_
      obtain ⟨c8, h⟩ := d_ite h
      cases h
      exact y_ret0 (Or.inr c8) ⟨rfl, rfl, s7⟩
    · rw [if_neg c3] at h
      refine wp_iload_n (v := v1) rfl ?_
      refine wp_if_lt (fun c9 => ?_) (fun c9 => ?_)
      · rw [if_pos c9] at h
        refine y_blk (t := 24) rfl (show fnd bk_X13_back 24 = some _ from rfl) aB_X13_back ?_
        refine wp_aload_n (v := ((138 : Nat) : Int)) rfl (Int.natCast_nonneg _) ?_
        refine wp_iconst ⟨by decide, by decide⟩ ?_
        obtain ⟨x10, e11, h⟩ := d_bind h
        obtain ⟨r12, s13⟩ := t_X13_denied s2 e11
        refine y_callV (as := [(0, 1)]) (S1 := []) (Nat.le_of_ble_eq_true rfl) (by omega) r12 (Nat.le_of_ble_eq_true rfl) rfl (show ash 138 = (13, 38) from rfl) (Nat.lt_of_lt_of_le (show 138 < 154 by decide) hS.1.1) (Nat.le_of_ble_eq_true rfl) (Nat.le_of_ble_eq_true rfl) rfl ?_
        obtain ⟨c14, h⟩ := d_ite h
        cases h
        exact y_ret0 (Or.inr c14) ⟨rfl, rfl, s13⟩
      · rw [if_neg c9] at h
        refine wp_iload_n (v := v1) rfl ?_
        refine wp_aload_n (v := ((138 : Nat) : Int)) rfl (Int.natCast_nonneg _) ?_
        refine y_get (show ash 138 = (13, 38) from rfl) (Nat.lt_of_lt_of_le (show 138 < 154 by decide) hS.1.1) (v := m1 138 21) rfl rfl ?_
        refine wp_icmp_lt (fun c15 => ?_) (fun c15 => ?_)
        · rw [if_pos c15] at h
          refine y_blk (t := 30) rfl (show fnd bk_X13_back 30 = some _ from rfl) aB_X13_back ?_
          refine wp_iconst ⟨by decide, by decide⟩ ?_
          refine y_stn (L1 := [(2, ((138 : Nat) : Int)), (0, v1), (0, 0)]) (Nat.le_of_ble_eq_true rfl) rfl ?_
          refine tl_X13_back_32 (by omega) hS (fun w24  m25 s26 h => ?_) FU 0  m1 s2 h
          refine y_blk (t := 61) rfl (show fnd bk_X13_back 61 = some _ from rfl) aB_X13_back ?_
          refine wp_aload_n (v := ((138 : Nat) : Int)) rfl (Int.natCast_nonneg _) ?_
          refine wp_iconst ⟨by decide, by decide⟩ ?_
          refine y_put (show ash 138 = (13, 38) from rfl) (Nat.lt_of_lt_of_le (show 138 < 154 by decide) hS.1.1) rfl ?_
          obtain ⟨m27, em27, h⟩ := d_bind h
          have em27 := Option.some.inj em27
          have s28 : Sh T.1 m27 := em27 ▸ s26.up (Or.inr ⟨by rw [(show ash 138 = (13, 38) from rfl)]; decide, by rw [(show ash 138 = (13, 38) from rfl)]; decide⟩) (by have := (Nat.lt_of_lt_of_le (show 138 < 154 by decide) hS.1.1); have := hS.1.2; omega)
          rw [em27]
          refine wp_aload_n (v := ((138 : Nat) : Int)) rfl (Int.natCast_nonneg _) ?_
          obtain ⟨x29, e30, h⟩ := d_bind h
          obtain ⟨r31, s32⟩ := t_X13_granted s28 e30
          refine y_callV (as := []) (S1 := []) (Nat.le_of_ble_eq_true rfl) (by omega) r31 (Nat.le_of_ble_eq_true rfl) rfl (show ash 138 = (13, 38) from rfl) (Nat.lt_of_lt_of_le (show 138 < 154 by decide) hS.1.1) (Nat.le_of_ble_eq_true rfl) (Nat.le_of_ble_eq_true rfl) rfl ?_
          obtain ⟨c33, h⟩ := d_ite h
          cases h
          exact y_ret0 (Or.inr c33) ⟨rfl, rfl, s32⟩
        · rw [if_neg c15] at h
          refine y_blk (t := 24) rfl (show fnd bk_X13_back 24 = some _ from rfl) aB_X13_back ?_
          refine wp_aload_n (v := ((138 : Nat) : Int)) rfl (Int.natCast_nonneg _) ?_
          refine wp_iconst ⟨by decide, by decide⟩ ?_
          obtain ⟨x34, e35, h⟩ := d_bind h
          obtain ⟨r36, s37⟩ := t_X13_denied s2 e35
          refine y_callV (as := [(0, 1)]) (S1 := []) (Nat.le_of_ble_eq_true rfl) (by omega) r36 (Nat.le_of_ble_eq_true rfl) rfl (show ash 138 = (13, 38) from rfl) (Nat.lt_of_lt_of_le (show 138 < 154 by decide) hS.1.1) (Nat.le_of_ble_eq_true rfl) (Nat.le_of_ble_eq_true rfl) rfl ?_
          obtain ⟨c38, h⟩ := d_ite h
          cases h
          exact y_ret0 (Or.inr c38) ⟨rfl, rfl, s37⟩
  exact ⟨fun d hd => Ms.of3 (key d hd), Ms.sh (key 2 (Nat.le_refl _))⟩
theorem aB_X13_led : ∀ pc, aB 330 pc = fnd bk_X13_led pc := fun _ => rfl
def l_X13_led_20 (T : Nat) (v1 : Int) (M : aM) (k : Int → Int → Option (Int × aM)) : Nat → Int → Int → Option (Int × aM)
| 0, _, _ => none
| n + 1, v2, v3 =>
 if M 138 3 < 0 then
 k v2 v3 else
 if okW T (M 138 3) then
 if (M (M 138 3).toNat 7) ≤ v3 then
 k v2 v3 else
 (f_X13_isSilent T v3 M).bind fun x7 =>
 if x7 = 0 then
 if aIn (v3 + 1) then
 l_X13_led_20 T v1 M k n v2 (v3 + 1) else none else
 if v2 = v1 then
 some (v3, M) else
 if aIn (v2 + 1) then
 if aIn (v3 + 1) then
 l_X13_led_20 T v1 M k n (v2 + 1) (v3 + 1) else none else none else none
theorem tl_X13_led_20 {d : Nat} (hd : 3 ≤ d) {T : T3} {v1 : Int} {M : aM} {k : Int → Int → Option (Int × aM)} {y : (Int × aM)}  (hS : Sh T.1 M)
    (hk : ∀ (v2 v3 : Int), Sh T.1 M → k v2 v3 = some y → Wp d 330 65 [] [(2, ((138 : Nat) : Int)), (0, v1), (0, v2), (0, v3)] [] (M, T) (fun r2 σ2 => r2 = some (0, y.1) ∧ σ2 = (y.2, T) ∧ Sh T.1 y.2)) :
    ∀ (n : Nat) (v2 v3 : Int), Sh T.1 M → l_X13_led_20 T.1 v1 M k n v2 v3 = some y → Wp d 330 20 [] [(2, ((138 : Nat) : Int)), (0, v1), (0, v2), (0, v3)] [] (M, T) (fun r2 σ2 => r2 = some (0, y.1) ∧ σ2 = (y.2, T) ∧ Sh T.1 y.2) := by
  intro n
  induction n with
  | zero =>
    intro v2 v3 _ h
    exact nomatch (show (none : Option (Int × aM)) = some y from h)
  | succ n ih =>
    intro v2 v3 sM h
    rw [l_X13_led_20] at h
    refine y_blk (t := 20) rfl (show fnd bk_X13_led 20 = some _ from rfl) aB_X13_led ?_
    refine wp_aload_n (v := ((138 : Nat) : Int)) rfl (Int.natCast_nonneg _) ?_
    refine y_get (show ash 138 = (13, 38) from rfl) (Nat.lt_of_lt_of_le (show 138 < 154 by decide) hS.1.1) (v := M 138 3) rfl rfl ?_
    refine wp_ifnull (fun c4 => ?_) (fun c4 => ?_)
    · rw [if_pos c4] at h
      exact hk v2 v3   sM h
    · rw [if_neg c4] at h
      refine wp_iload_n (v := v3) rfl ?_
      refine wp_aload_n (v := ((138 : Nat) : Int)) rfl (Int.natCast_nonneg _) ?_
      obtain ⟨c5, h⟩ := d_ite h
      refine y_get (show ash 138 = (13, 38) from rfl) (Nat.lt_of_lt_of_le (show 138 < 154 by decide) hS.1.1) (v := (((M 138 3).toNat : Nat) : Int)) c5.eq rfl ?_
      refine y_get (aW0 hS.1.2 c5.is) (ltW c5.is 0 (by decide)) (v := M (M 138 3).toNat 7) rfl rfl ?_
      refine wp_icmp_ge (fun c6 => ?_) (fun c6 => ?_)
      · rw [if_pos c6] at h
        exact hk v2 v3   sM h
      · rw [if_neg c6] at h
        refine wp_aload_n (v := ((138 : Nat) : Int)) rfl (Int.natCast_nonneg _) ?_
        refine wp_iload_n (v := v3) rfl ?_
        obtain ⟨x7, e8, h⟩ := d_bind h
        refine y_callV (as := [(0, v3)]) (S1 := []) (Nat.le_of_ble_eq_true rfl) (by omega) (t_X13_isSilent sM e8) (Nat.le_of_ble_eq_true rfl) rfl (show ash 138 = (13, 38) from rfl) (Nat.lt_of_lt_of_le (show 138 < 154 by decide) hS.1.1) (Nat.le_of_ble_eq_true rfl) (Nat.le_of_ble_eq_true rfl) rfl ?_
        refine y_nez (fun c9 => ?_) (fun c9 => ?_)
        · rw [if_neg c9] at h
          refine y_blk (t := 49) rfl (show fnd bk_X13_led 49 = some _ from rfl) aB_X13_led ?_
          refine wp_iload_n (v := v2) rfl ?_
          refine wp_iload_n (v := v1) rfl ?_
          refine y_ne (fun c10 => ?_) (fun c10 => ?_)
          · rw [if_neg c10] at h
            refine y_blk (t := 56) rfl (show fnd bk_X13_led 56 = some _ from rfl) aB_X13_led ?_
            obtain ⟨c11, h⟩ := d_ite h
            refine y_iinc (L1 := [(2, ((138 : Nat) : Int)), (0, v1), (0, (v2 + 1)), (0, v3)]) rfl (Nat.le_of_ble_eq_true rfl) ⟨by decide, by decide⟩ c11 rfl ?_
            refine y_blk (t := 59) rfl (show fnd bk_X13_led 59 = some _ from rfl) aB_X13_led ?_
            obtain ⟨c12, h⟩ := d_ite h
            refine y_iinc (L1 := [(2, ((138 : Nat) : Int)), (0, v1), (0, (v2 + 1)), (0, (v3 + 1))]) rfl (Nat.le_of_ble_eq_true rfl) ⟨by decide, by decide⟩ c12 rfl ?_
            refine wp_goto ?_
            exact ih (v2 + 1) (v3 + 1)   sM h
          · rw [if_pos c10] at h
            refine wp_iload_n (v := v3) rfl ?_
            cases h
            exact y_ret0 (Or.inl rfl) ⟨rfl, rfl, sM⟩
        · rw [if_pos c9] at h
          refine wp_goto ?_
          refine y_blk (t := 59) rfl (show fnd bk_X13_led 59 = some _ from rfl) aB_X13_led ?_
          obtain ⟨c13, h⟩ := d_ite h
          refine y_iinc (L1 := [(2, ((138 : Nat) : Int)), (0, v1), (0, v2), (0, (v3 + 1))]) rfl (Nat.le_of_ble_eq_true rfl) ⟨by decide, by decide⟩ c13 rfl ?_
          refine wp_goto ?_
          exact ih v2 (v3 + 1)   sM h
def f_X13_led (T : Nat) (v1 : Int) (M : aM) : Option (Int × aM) :=
 (some (aup M 138 0 0)).bind fun m1 =>
 if m1 138 3 < 0 then
 l_X13_led_20 T v1 m1 (fun w14 w15 =>
 (some (aup m1 138 0 1)).bind fun m17 =>
 some (0, m17)) FU 0 0 else
 (f_X13_works T m1).bind fun x19 =>
 l_X13_led_20 T v1 x19.2 (fun w23 w24 =>
 (some (aup x19.2 138 0 1)).bind fun m26 =>
 some (0, m26)) FU 0 0
theorem t_X13_led {T : T3} {v1 : Int} {M : aM} {y : (Int × aM)}  (hS : Sh T.1 M) (h : f_X13_led T.1 v1 M = some y) : Mr 3 330 [(2, ((138 : Nat) : Int)), (0, v1)] M (some (0, y.1)) y.2 T ∧ Sh T.1 y.2 := by
  have key : ∀ d, 3 ≤ d → Wp d 330 0 [] [(2, ((138 : Nat) : Int)), (0, v1), (9, 0), (9, 0)] [] (M, T) (fun r2 σ2 => r2 = some (0, y.1) ∧ σ2 = (y.2, T) ∧ Sh T.1 y.2) := by
    intro d hd
    rw [f_X13_led] at h
    refine y_blk (t := 0) rfl (show fnd bk_X13_led 0 = some _ from rfl) aB_X13_led ?_
    refine wp_aload_n (v := ((138 : Nat) : Int)) rfl (Int.natCast_nonneg _) ?_
    refine wp_iconst ⟨by decide, by decide⟩ ?_
    refine y_put (show ash 138 = (13, 38) from rfl) (Nat.lt_of_lt_of_le (show 138 < 154 by decide) hS.1.1) rfl ?_
    obtain ⟨m1, em1, h⟩ := d_bind h
    have em1 := Option.some.inj em1
    have s2 : Sh T.1 m1 := em1 ▸ hS.up (Or.inr ⟨by rw [(show ash 138 = (13, 38) from rfl)]; decide, by rw [(show ash 138 = (13, 38) from rfl)]; decide⟩) (by have := (Nat.lt_of_lt_of_le (show 138 < 154 by decide) hS.1.1); have := hS.1.2; omega)
    rw [em1]
    refine wp_iconst ⟨by decide, by decide⟩ ?_
    refine y_stn (L1 := [(2, ((138 : Nat) : Int)), (0, v1), (0, 0), (9, 0)]) (Nat.le_of_ble_eq_true rfl) rfl ?_
    refine wp_aload_n (v := ((138 : Nat) : Int)) rfl (Int.natCast_nonneg _) ?_
    refine y_get (show ash 138 = (13, 38) from rfl) (Nat.lt_of_lt_of_le (show 138 < 154 by decide) hS.1.1) (v := m1 138 3) rfl rfl ?_
    refine wp_ifnull (fun c3 => ?_) (fun c3 => ?_)
    · rw [if_pos c3] at h
      refine y_blk (t := 18) rfl (show fnd bk_X13_led 18 = some _ from rfl) aB_X13_led ?_
      refine wp_iconst ⟨by decide, by decide⟩ ?_
      refine y_stn (L1 := [(2, ((138 : Nat) : Int)), (0, v1), (0, 0), (0, 0)]) (Nat.le_of_ble_eq_true rfl) rfl ?_
      refine tl_X13_led_20 (by omega) s2 (fun w14 w15   s16 h => ?_) FU 0 0   s2 h
      refine y_blk (t := 65) rfl (show fnd bk_X13_led 65 = some _ from rfl) aB_X13_led ?_
      refine wp_aload_n (v := ((138 : Nat) : Int)) rfl (Int.natCast_nonneg _) ?_
      refine wp_iconst ⟨by decide, by decide⟩ ?_
      refine y_put (show ash 138 = (13, 38) from rfl) (Nat.lt_of_lt_of_le (show 138 < 154 by decide) hS.1.1) rfl ?_
      obtain ⟨m17, em17, h⟩ := d_bind h
      have em17 := Option.some.inj em17
      have s18 : Sh T.1 m17 := em17 ▸ s16.up (Or.inr ⟨by rw [(show ash 138 = (13, 38) from rfl)]; decide, by rw [(show ash 138 = (13, 38) from rfl)]; decide⟩) (by have := (Nat.lt_of_lt_of_le (show 138 < 154 by decide) hS.1.1); have := hS.1.2; omega)
      rw [em17]
      refine wp_iconst ⟨by decide, by decide⟩ ?_
      cases h
      exact y_ret0 (Or.inl rfl) ⟨rfl, rfl, s18⟩
    · rw [if_neg c3] at h
      refine wp_aload_n (v := ((138 : Nat) : Int)) rfl (Int.natCast_nonneg _) ?_
      obtain ⟨x19, e20, h⟩ := d_bind h
      obtain ⟨r21, s22⟩ := t_X13_works s2 e20
      refine y_callVv (as := []) (S1 := []) (Nat.le_of_ble_eq_true rfl) (by omega) r21 rfl (show ash 138 = (13, 38) from rfl) (Nat.lt_of_lt_of_le (show 138 < 154 by decide) hS.1.1) (Nat.le_of_ble_eq_true rfl) (Nat.le_of_ble_eq_true rfl) rfl ?_
      refine y_blk (t := 18) rfl (show fnd bk_X13_led 18 = some _ from rfl) aB_X13_led ?_
      refine wp_iconst ⟨by decide, by decide⟩ ?_
      refine y_stn (L1 := [(2, ((138 : Nat) : Int)), (0, v1), (0, 0), (0, 0)]) (Nat.le_of_ble_eq_true rfl) rfl ?_
      refine tl_X13_led_20 (by omega) s22 (fun w23 w24   s25 h => ?_) FU 0 0   s22 h
      refine y_blk (t := 65) rfl (show fnd bk_X13_led 65 = some _ from rfl) aB_X13_led ?_
      refine wp_aload_n (v := ((138 : Nat) : Int)) rfl (Int.natCast_nonneg _) ?_
      refine wp_iconst ⟨by decide, by decide⟩ ?_
      refine y_put (show ash 138 = (13, 38) from rfl) (Nat.lt_of_lt_of_le (show 138 < 154 by decide) hS.1.1) rfl ?_
      obtain ⟨m26, em26, h⟩ := d_bind h
      have em26 := Option.some.inj em26
      have s27 : Sh T.1 m26 := em26 ▸ s25.up (Or.inr ⟨by rw [(show ash 138 = (13, 38) from rfl)]; decide, by rw [(show ash 138 = (13, 38) from rfl)]; decide⟩) (by have := (Nat.lt_of_lt_of_le (show 138 < 154 by decide) hS.1.1); have := hS.1.2; omega)
      rw [em26]
      refine wp_iconst ⟨by decide, by decide⟩ ?_
      cases h
      exact y_ret0 (Or.inl rfl) ⟨rfl, rfl, s27⟩
  exact ⟨fun d hd => Ms.of3 (key d hd), Ms.sh (key 3 (Nat.le_refl _))⟩
theorem aB_X13_size : ∀ pc, aB 331 pc = fnd bk_X13_size pc := fun _ => rfl
def f_X13_size (T : Nat) (v1 : Int) (M : aM) : Option (Int × aM) :=
 (some (aup M 138 0 0)).bind fun m1 =>
 if v1 = 13 then
 some ((m1 138 6), m1) else
 (f_X13_in T v1 0 12 m1).bind fun x4 =>
 if x4 = 0 then
 some ((-1), m1) else
 if m1 138 3 < 0 then
 some (0, m1) else
 if v1 = 0 then
 if okW T (m1 138 3) then
 some ((m1 (m1 138 3).toNat 0), m1) else none else
 if v1 = 1 then
 if okW T (m1 138 3) then
 some ((m1 (m1 138 3).toNat 1), m1) else none else
 if v1 = 2 then
 if okW T (m1 138 3) then
 some ((m1 (m1 138 3).toNat 2), m1) else none else
 if v1 = 3 then
 if okW T (m1 138 3) then
 some ((m1 (m1 138 3).toNat 3), m1) else none else
 if v1 = 4 then
 if okW T (m1 138 3) then
 some ((m1 (m1 138 3).toNat 5), m1) else none else
 if v1 = 5 then
 if okW T (m1 138 3) then
 some ((m1 (m1 138 3).toNat 7), m1) else none else
 if v1 = 6 then
 if okW T (m1 138 3) then
 some ((m1 (m1 138 3).toNat 8), m1) else none else
 if v1 = 7 then
 if okW T (m1 138 3) then
 some ((m1 (m1 138 3).toNat 9), m1) else none else
 if v1 = 8 then
 if okW T (m1 138 3) then
 some ((m1 (m1 138 3).toNat 10), m1) else none else
 if v1 = 9 then
 if okW T (m1 138 3) then
 some ((m1 (m1 138 3).toNat 11), m1) else none else
 if v1 = 10 then
 some ((m1 140 11), m1) else
 if v1 = 11 then
 some ((m1 138 20), m1) else
 some ((m1 138 21), m1)
theorem t_X13_size {T : T3} {v1 : Int} {M : aM} {y : (Int × aM)}  (hS : Sh T.1 M) (h : f_X13_size T.1 v1 M = some y) : Mr 1 331 [(2, ((138 : Nat) : Int)), (0, v1)] M (some (0, y.1)) y.2 T ∧ Sh T.1 y.2 := by
  have key : ∀ d, 1 ≤ d → Wp d 331 0 [] [(2, ((138 : Nat) : Int)), (0, v1)] [] (M, T) (fun r2 σ2 => r2 = some (0, y.1) ∧ σ2 = (y.2, T) ∧ Sh T.1 y.2) := by
    intro d hd
    rw [f_X13_size] at h
    refine y_blk (t := 0) rfl (show fnd bk_X13_size 0 = some _ from rfl) aB_X13_size ?_
    refine wp_aload_n (v := ((138 : Nat) : Int)) rfl (Int.natCast_nonneg _) ?_
    refine wp_iconst ⟨by decide, by decide⟩ ?_
    refine y_put (show ash 138 = (13, 38) from rfl) (Nat.lt_of_lt_of_le (show 138 < 154 by decide) hS.1.1) rfl ?_
    obtain ⟨m1, em1, h⟩ := d_bind h
    have em1 := Option.some.inj em1
    have s2 : Sh T.1 m1 := em1 ▸ hS.up (Or.inr ⟨by rw [(show ash 138 = (13, 38) from rfl)]; decide, by rw [(show ash 138 = (13, 38) from rfl)]; decide⟩) (by have := (Nat.lt_of_lt_of_le (show 138 < 154 by decide) hS.1.1); have := hS.1.2; omega)
    rw [em1]
    refine wp_iload_n (v := v1) rfl ?_
    refine wp_bipush (by decide) ?_
    refine y_ne (fun c3 => ?_) (fun c3 => ?_)
    · rw [if_neg c3] at h
      refine y_blk (t := 16) rfl (show fnd bk_X13_size 16 = some _ from rfl) aB_X13_size ?_
      refine wp_iload_n (v := v1) rfl ?_
      refine wp_iconst ⟨by decide, by decide⟩ ?_
      refine wp_bipush (by decide) ?_
      obtain ⟨x4, e5, h⟩ := d_bind h
      refine y_callS (as := [(0, v1), (0, 0), (0, 12)]) (S1 := []) (Nat.le_of_ble_eq_true rfl) (by omega) (t_X13_in s2 e5) (Nat.le_of_ble_eq_true rfl) rfl (Nat.le_of_ble_eq_true rfl) (Nat.le_of_ble_eq_true rfl) rfl ?_
      refine y_nez (fun c6 => ?_) (fun c6 => ?_)
      · rw [if_neg c6] at h
        refine y_blk (t := 28) rfl (show fnd bk_X13_size 28 = some _ from rfl) aB_X13_size ?_
        refine wp_aload_n (v := ((138 : Nat) : Int)) rfl (Int.natCast_nonneg _) ?_
        refine y_get (show ash 138 = (13, 38) from rfl) (Nat.lt_of_lt_of_le (show 138 < 154 by decide) hS.1.1) (v := m1 138 3) rfl rfl ?_
        refine wp_ifnonnull (fun c7 => ?_) (fun c7 => ?_)
        · rw [if_neg c7] at h
          refine y_blk (t := 37) rfl (show fnd bk_X13_size 37 = some _ from rfl) aB_X13_size ?_
          refine wp_iload_n (v := v1) rfl ?_
          by_cases c8 : v1 = 0
          · rw [if_pos c8] at h
            refine y_ts (off := 62) (t := 100) (by omega) (by rw [c8]; rfl) rfl ?_
            refine y_blk (t := 100) rfl (show fnd bk_X13_size 100 = some _ from rfl) aB_X13_size ?_
            refine wp_aload_n (v := ((138 : Nat) : Int)) rfl (Int.natCast_nonneg _) ?_
            obtain ⟨c29, h⟩ := d_ite h
            refine y_get (show ash 138 = (13, 38) from rfl) (Nat.lt_of_lt_of_le (show 138 < 154 by decide) hS.1.1) (v := (((m1 138 3).toNat : Nat) : Int)) c29.eq rfl ?_
            refine y_get (aW0 hS.1.2 c29.is) (ltW c29.is 0 (by decide)) (v := m1 (m1 138 3).toNat 0) rfl rfl ?_
            cases h
            exact y_ret0 (Or.inl rfl) ⟨rfl, rfl, s2⟩
          · rw [if_neg c8] at h
            by_cases c9 : v1 = 1
            · rw [if_pos c9] at h
              refine y_ts (off := 70) (t := 108) (by omega) (by rw [c9]; rfl) rfl ?_
              refine y_blk (t := 108) rfl (show fnd bk_X13_size 108 = some _ from rfl) aB_X13_size ?_
              refine wp_aload_n (v := ((138 : Nat) : Int)) rfl (Int.natCast_nonneg _) ?_
              obtain ⟨c28, h⟩ := d_ite h
              refine y_get (show ash 138 = (13, 38) from rfl) (Nat.lt_of_lt_of_le (show 138 < 154 by decide) hS.1.1) (v := (((m1 138 3).toNat : Nat) : Int)) c28.eq rfl ?_
              refine y_get (aW0 hS.1.2 c28.is) (ltW c28.is 0 (by decide)) (v := m1 (m1 138 3).toNat 1) rfl rfl ?_
              cases h
              exact y_ret0 (Or.inl rfl) ⟨rfl, rfl, s2⟩
            · rw [if_neg c9] at h
              by_cases c10 : v1 = 2
              · rw [if_pos c10] at h
                refine y_ts (off := 78) (t := 116) (by omega) (by rw [c10]; rfl) rfl ?_
                refine y_blk (t := 116) rfl (show fnd bk_X13_size 116 = some _ from rfl) aB_X13_size ?_
                refine wp_aload_n (v := ((138 : Nat) : Int)) rfl (Int.natCast_nonneg _) ?_
                obtain ⟨c27, h⟩ := d_ite h
                refine y_get (show ash 138 = (13, 38) from rfl) (Nat.lt_of_lt_of_le (show 138 < 154 by decide) hS.1.1) (v := (((m1 138 3).toNat : Nat) : Int)) c27.eq rfl ?_
                refine y_get (aW0 hS.1.2 c27.is) (ltW c27.is 0 (by decide)) (v := m1 (m1 138 3).toNat 2) rfl rfl ?_
                cases h
                exact y_ret0 (Or.inl rfl) ⟨rfl, rfl, s2⟩
              · rw [if_neg c10] at h
                by_cases c11 : v1 = 3
                · rw [if_pos c11] at h
                  refine y_ts (off := 86) (t := 124) (by omega) (by rw [c11]; rfl) rfl ?_
                  refine y_blk (t := 124) rfl (show fnd bk_X13_size 124 = some _ from rfl) aB_X13_size ?_
                  refine wp_aload_n (v := ((138 : Nat) : Int)) rfl (Int.natCast_nonneg _) ?_
                  obtain ⟨c26, h⟩ := d_ite h
                  refine y_get (show ash 138 = (13, 38) from rfl) (Nat.lt_of_lt_of_le (show 138 < 154 by decide) hS.1.1) (v := (((m1 138 3).toNat : Nat) : Int)) c26.eq rfl ?_
                  refine y_get (aW0 hS.1.2 c26.is) (ltW c26.is 0 (by decide)) (v := m1 (m1 138 3).toNat 3) rfl rfl ?_
                  cases h
                  exact y_ret0 (Or.inl rfl) ⟨rfl, rfl, s2⟩
                · rw [if_neg c11] at h
                  by_cases c12 : v1 = 4
                  · rw [if_pos c12] at h
                    refine y_ts (off := 94) (t := 132) (by omega) (by rw [c12]; rfl) rfl ?_
                    refine y_blk (t := 132) rfl (show fnd bk_X13_size 132 = some _ from rfl) aB_X13_size ?_
                    refine wp_aload_n (v := ((138 : Nat) : Int)) rfl (Int.natCast_nonneg _) ?_
                    obtain ⟨c25, h⟩ := d_ite h
                    refine y_get (show ash 138 = (13, 38) from rfl) (Nat.lt_of_lt_of_le (show 138 < 154 by decide) hS.1.1) (v := (((m1 138 3).toNat : Nat) : Int)) c25.eq rfl ?_
                    refine y_get (aW0 hS.1.2 c25.is) (ltW c25.is 0 (by decide)) (v := m1 (m1 138 3).toNat 5) rfl rfl ?_
                    cases h
                    exact y_ret0 (Or.inl rfl) ⟨rfl, rfl, s2⟩
                  · rw [if_neg c12] at h
                    by_cases c13 : v1 = 5
                    · rw [if_pos c13] at h
                      refine y_ts (off := 102) (t := 140) (by omega) (by rw [c13]; rfl) rfl ?_
                      refine y_blk (t := 140) rfl (show fnd bk_X13_size 140 = some _ from rfl) aB_X13_size ?_
                      refine wp_aload_n (v := ((138 : Nat) : Int)) rfl (Int.natCast_nonneg _) ?_
                      obtain ⟨c24, h⟩ := d_ite h
                      refine y_get (show ash 138 = (13, 38) from rfl) (Nat.lt_of_lt_of_le (show 138 < 154 by decide) hS.1.1) (v := (((m1 138 3).toNat : Nat) : Int)) c24.eq rfl ?_
                      refine y_get (aW0 hS.1.2 c24.is) (ltW c24.is 0 (by decide)) (v := m1 (m1 138 3).toNat 7) rfl rfl ?_
                      cases h
                      exact y_ret0 (Or.inl rfl) ⟨rfl, rfl, s2⟩
                    · rw [if_neg c13] at h
                      by_cases c14 : v1 = 6
                      · rw [if_pos c14] at h
                        refine y_ts (off := 110) (t := 148) (by omega) (by rw [c14]; rfl) rfl ?_
                        refine y_blk (t := 148) rfl (show fnd bk_X13_size 148 = some _ from rfl) aB_X13_size ?_
                        refine wp_aload_n (v := ((138 : Nat) : Int)) rfl (Int.natCast_nonneg _) ?_
                        obtain ⟨c23, h⟩ := d_ite h
                        refine y_get (show ash 138 = (13, 38) from rfl) (Nat.lt_of_lt_of_le (show 138 < 154 by decide) hS.1.1) (v := (((m1 138 3).toNat : Nat) : Int)) c23.eq rfl ?_
                        refine y_get (aW0 hS.1.2 c23.is) (ltW c23.is 0 (by decide)) (v := m1 (m1 138 3).toNat 8) rfl rfl ?_
                        cases h
                        exact y_ret0 (Or.inl rfl) ⟨rfl, rfl, s2⟩
                      · rw [if_neg c14] at h
                        by_cases c15 : v1 = 7
                        · rw [if_pos c15] at h
                          refine y_ts (off := 118) (t := 156) (by omega) (by rw [c15]; rfl) rfl ?_
                          refine y_blk (t := 156) rfl (show fnd bk_X13_size 156 = some _ from rfl) aB_X13_size ?_
                          refine wp_aload_n (v := ((138 : Nat) : Int)) rfl (Int.natCast_nonneg _) ?_
                          obtain ⟨c22, h⟩ := d_ite h
                          refine y_get (show ash 138 = (13, 38) from rfl) (Nat.lt_of_lt_of_le (show 138 < 154 by decide) hS.1.1) (v := (((m1 138 3).toNat : Nat) : Int)) c22.eq rfl ?_
                          refine y_get (aW0 hS.1.2 c22.is) (ltW c22.is 0 (by decide)) (v := m1 (m1 138 3).toNat 9) rfl rfl ?_
                          cases h
                          exact y_ret0 (Or.inl rfl) ⟨rfl, rfl, s2⟩
                        · rw [if_neg c15] at h
                          by_cases c16 : v1 = 8
                          · rw [if_pos c16] at h
                            refine y_ts (off := 126) (t := 164) (by omega) (by rw [c16]; rfl) rfl ?_
                            refine y_blk (t := 164) rfl (show fnd bk_X13_size 164 = some _ from rfl) aB_X13_size ?_
                            refine wp_aload_n (v := ((138 : Nat) : Int)) rfl (Int.natCast_nonneg _) ?_
                            obtain ⟨c21, h⟩ := d_ite h
                            refine y_get (show ash 138 = (13, 38) from rfl) (Nat.lt_of_lt_of_le (show 138 < 154 by decide) hS.1.1) (v := (((m1 138 3).toNat : Nat) : Int)) c21.eq rfl ?_
                            refine y_get (aW0 hS.1.2 c21.is) (ltW c21.is 0 (by decide)) (v := m1 (m1 138 3).toNat 10) rfl rfl ?_
                            cases h
                            exact y_ret0 (Or.inl rfl) ⟨rfl, rfl, s2⟩
                          · rw [if_neg c16] at h
                            by_cases c17 : v1 = 9
                            · rw [if_pos c17] at h
                              refine y_ts (off := 134) (t := 172) (by omega) (by rw [c17]; rfl) rfl ?_
                              refine y_blk (t := 172) rfl (show fnd bk_X13_size 172 = some _ from rfl) aB_X13_size ?_
                              refine wp_aload_n (v := ((138 : Nat) : Int)) rfl (Int.natCast_nonneg _) ?_
                              obtain ⟨c20, h⟩ := d_ite h
                              refine y_get (show ash 138 = (13, 38) from rfl) (Nat.lt_of_lt_of_le (show 138 < 154 by decide) hS.1.1) (v := (((m1 138 3).toNat : Nat) : Int)) c20.eq rfl ?_
                              refine y_get (aW0 hS.1.2 c20.is) (ltW c20.is 0 (by decide)) (v := m1 (m1 138 3).toNat 11) rfl rfl ?_
                              cases h
                              exact y_ret0 (Or.inl rfl) ⟨rfl, rfl, s2⟩
                            · rw [if_neg c17] at h
                              by_cases c18 : v1 = 10
                              · rw [if_pos c18] at h
                                refine y_ts (off := 142) (t := 180) (by omega) (by rw [c18]; rfl) rfl ?_
                                refine y_blk (t := 180) rfl (show fnd bk_X13_size 180 = some _ from rfl) aB_X13_size ?_
                                refine wp_aload_n (v := ((138 : Nat) : Int)) rfl (Int.natCast_nonneg _) ?_
                                refine y_get (show ash 138 = (13, 38) from rfl) (Nat.lt_of_lt_of_le (show 138 < 154 by decide) hS.1.1) (v := ((140 : Nat) : Int)) (s2.at 138 16 140 (by decide +kernel)) rfl ?_
                                refine wp_bipush (by decide) ?_
                                refine y_iald (show ash 140 = (100, 12) from rfl) (Or.inl (Nat.lt_of_lt_of_le (show 140 < 154 by decide) hS.1.1)) (Nat.ne_of_lt (Nat.lt_of_lt_of_le (Nat.lt_of_lt_of_le (show 140 < 154 by decide) hS.1.1) hS.1.2)) ⟨by decide, by decide⟩ (v := m1 140 11) rfl ?_
                                cases h
                                exact y_ret0 (Or.inl rfl) ⟨rfl, rfl, s2⟩
                              · rw [if_neg c18] at h
                                by_cases c19 : v1 = 11
                                · rw [if_pos c19] at h
                                  refine y_ts (off := 150) (t := 188) (by omega) (by rw [c19]; rfl) rfl ?_
                                  refine y_blk (t := 188) rfl (show fnd bk_X13_size 188 = some _ from rfl) aB_X13_size ?_
                                  refine wp_aload_n (v := ((138 : Nat) : Int)) rfl (Int.natCast_nonneg _) ?_
                                  refine y_get (show ash 138 = (13, 38) from rfl) (Nat.lt_of_lt_of_le (show 138 < 154 by decide) hS.1.1) (v := m1 138 20) rfl rfl ?_
                                  cases h
                                  exact y_ret0 (Or.inl rfl) ⟨rfl, rfl, s2⟩
                                · rw [if_neg c19] at h
                                  refine y_td (t := 193) (by omega) rfl ?_
                                  refine y_blk (t := 193) rfl (show fnd bk_X13_size 193 = some _ from rfl) aB_X13_size ?_
                                  refine wp_aload_n (v := ((138 : Nat) : Int)) rfl (Int.natCast_nonneg _) ?_
                                  refine y_get (show ash 138 = (13, 38) from rfl) (Nat.lt_of_lt_of_le (show 138 < 154 by decide) hS.1.1) (v := m1 138 21) rfl rfl ?_
                                  cases h
                                  exact y_ret0 (Or.inl rfl) ⟨rfl, rfl, s2⟩
        · rw [if_pos c7] at h
          refine wp_iconst ⟨by decide, by decide⟩ ?_
          cases h
          exact y_ret0 (Or.inl rfl) ⟨rfl, rfl, s2⟩
      · rw [if_pos c6] at h
        refine wp_iconst ⟨by decide, by decide⟩ ?_
        cases h
        exact y_ret0 (Or.inl rfl) ⟨rfl, rfl, s2⟩
    · rw [if_pos c3] at h
      refine wp_aload_n (v := ((138 : Nat) : Int)) rfl (Int.natCast_nonneg _) ?_
      refine y_get (show ash 138 = (13, 38) from rfl) (Nat.lt_of_lt_of_le (show 138 < 154 by decide) hS.1.1) (v := m1 138 6) rfl rfl ?_
      cases h
      exact y_ret0 (Or.inl rfl) ⟨rfl, rfl, s2⟩
  exact ⟨fun d hd => Ms.of3 (key d hd), Ms.sh (key 1 (Nat.le_refl _))⟩
theorem aB_X13_trouble : ∀ pc, aB 332 pc = fnd bk_X13_trouble pc := fun _ => rfl
def f_X13_trouble (T : Nat)  (M : aM) : Option (Int × aM) :=
 (some (aup M 138 0 0)).bind fun m1 =>
 some ((m1 138 1), m1)
theorem t_X13_trouble {T : T3}  {M : aM} {y : (Int × aM)}  (hS : Sh T.1 M) (h : f_X13_trouble T.1  M = some y) : Mr 0 332 [(2, ((138 : Nat) : Int))] M (some (0, y.1)) y.2 T ∧ Sh T.1 y.2 := by
  have key : ∀ d, 0 ≤ d → Wp d 332 0 [] [(2, ((138 : Nat) : Int))] [] (M, T) (fun r2 σ2 => r2 = some (0, y.1) ∧ σ2 = (y.2, T) ∧ Sh T.1 y.2) := by
    intro d hd
    rw [f_X13_trouble] at h
    refine y_blk (t := 0) rfl (show fnd bk_X13_trouble 0 = some _ from rfl) aB_X13_trouble ?_
    refine wp_aload_n (v := ((138 : Nat) : Int)) rfl (Int.natCast_nonneg _) ?_
    refine wp_iconst ⟨by decide, by decide⟩ ?_
    refine y_put (show ash 138 = (13, 38) from rfl) (Nat.lt_of_lt_of_le (show 138 < 154 by decide) hS.1.1) rfl ?_
    obtain ⟨m1, em1, h⟩ := d_bind h
    have em1 := Option.some.inj em1
    have s2 : Sh T.1 m1 := em1 ▸ hS.up (Or.inr ⟨by rw [(show ash 138 = (13, 38) from rfl)]; decide, by rw [(show ash 138 = (13, 38) from rfl)]; decide⟩) (by have := (Nat.lt_of_lt_of_le (show 138 < 154 by decide) hS.1.1); have := hS.1.2; omega)
    rw [em1]
    refine wp_aload_n (v := ((138 : Nat) : Int)) rfl (Int.natCast_nonneg _) ?_
    refine y_get (show ash 138 = (13, 38) from rfl) (Nat.lt_of_lt_of_le (show 138 < 154 by decide) hS.1.1) (v := m1 138 1) rfl rfl ?_
    cases h
    exact y_ret0 (Or.inl rfl) ⟨rfl, rfl, s2⟩
  exact ⟨fun d hd => Ms.of3 (key d hd), Ms.sh (key 0 (Nat.le_refl _))⟩

/-! ===== methods as functions ===== -/
theorem aB_X13_goesOn : ∀ pc, aB 211 pc = fnd bk_X13_goesOn pc := fun _ => rfl
def l_X13_goesOn_9 (T : Nat)  (k : aM → Option (Int × aM)) : Nat → aM → Option (Int × aM)
| 0, _ => none
| n + 1, M =>
 (f_X13_byteAt T (M 138 8) M).bind fun x2 =>
 if x2 = 32 then
 if aIn ((M 138 8) + 1) then
 (some (aup M 138 8 ((M 138 8) + 1))).bind fun m6 =>
 l_X13_goesOn_9 T k n  m6 else none else
 k  M
theorem tl_X13_goesOn_9 {d : Nat} (hd : 1 ≤ d) {T : T3}  {k : aM → Option (Int × aM)} {y : (Int × aM)}  {M0 : aM} (hS : Sh T.1 M0)
    (hk : ∀  (u1 u2 : aV) (M : aM), Sh T.1 M → k  M = some y → Wp d 211 35 [] [(2, ((138 : Nat) : Int)), u1, u2] [] (M, T) (fun r2 σ2 => r2 = none ∧ σ2 = (y.2, T) ∧ Sh T.1 y.2)) :
    ∀ (n : Nat)  (u1 u2 : aV) (M : aM), Sh T.1 M → l_X13_goesOn_9 T.1 k n  M = some y → Wp d 211 9 [] [(2, ((138 : Nat) : Int)), u1, u2] [] (M, T) (fun r2 σ2 => r2 = none ∧ σ2 = (y.2, T) ∧ Sh T.1 y.2) := by
  intro n
  induction n with
  | zero =>
    intro  u1 u2 M _ h
    exact nomatch (show (none : Option (Int × aM)) = some y from h)
  | succ n ih =>
    intro  u1 u2 M sM h
    rw [l_X13_goesOn_9] at h
    refine y_blk (t := 9) rfl (show fnd bk_X13_goesOn 9 = some _ from rfl) aB_X13_goesOn ?_
    refine wp_aload_n (v := ((138 : Nat) : Int)) rfl (Int.natCast_nonneg _) ?_
    refine wp_aload_n (v := ((138 : Nat) : Int)) rfl (Int.natCast_nonneg _) ?_
    refine y_get (show ash 138 = (13, 38) from rfl) (Nat.lt_of_lt_of_le (show 138 < 154 by decide) hS.1.1) (v := M 138 8) rfl rfl ?_
    obtain ⟨x2, e3, h⟩ := d_bind h
    refine y_callV (as := [(0, (M 138 8))]) (S1 := []) (Nat.le_of_ble_eq_true rfl) (by omega) (t_X13_byteAt sM e3) (Nat.le_of_ble_eq_true rfl) rfl (show ash 138 = (13, 38) from rfl) (Nat.lt_of_lt_of_le (show 138 < 154 by decide) hS.1.1) (Nat.le_of_ble_eq_true rfl) (Nat.le_of_ble_eq_true rfl) rfl ?_
    refine wp_bipush (by decide) ?_
    refine y_ne (fun c4 => ?_) (fun c4 => ?_)
    · rw [if_neg c4] at h
      exact hk  u1 u2 M sM h
    · rw [if_pos c4] at h
      refine wp_aload_n (v := ((138 : Nat) : Int)) rfl (Int.natCast_nonneg _) ?_
      refine wp_dup (Or.inr rfl) ?_
      refine y_get (show ash 138 = (13, 38) from rfl) (Nat.lt_of_lt_of_le (show 138 < 154 by decide) hS.1.1) (v := M 138 8) rfl rfl ?_
      refine wp_iconst ⟨by decide, by decide⟩ ?_
      obtain ⟨c5, h⟩ := d_ite h
      refine wp_iadd c5 ?_
      refine y_put (show ash 138 = (13, 38) from rfl) (Nat.lt_of_lt_of_le (show 138 < 154 by decide) hS.1.1) rfl ?_
      obtain ⟨m6, em6, h⟩ := d_bind h
      have em6 := Option.some.inj em6
      have s7 : Sh T.1 m6 := em6 ▸ sM.up (Or.inr ⟨by rw [(show ash 138 = (13, 38) from rfl)]; decide, by rw [(show ash 138 = (13, 38) from rfl)]; decide⟩) (by have := (Nat.lt_of_lt_of_le (show 138 < 154 by decide) hS.1.1); have := hS.1.2; omega)
      rw [em6]
      refine wp_goto ?_
      exact ih  u1 u2 m6 s7 h
def l_X13_goesOn_173 (T : Nat)  (k : Int → aM → Option (Int × aM)) : Nat → Int → aM → Option (Int × aM)
| 0, _, _ => none
| n + 1, v2, M =>
 (f_X13_byteAt T (M 138 8) M).bind fun x33 =>
 (f_X13_isDigit T x33 M).bind fun x35 =>
 if x35 = 0 then
 k v2 M else
 if 3 ≤ v2 then
 if aIn (v2 + 1) then
 if aIn ((M 138 8) + 1) then
 (some (aup M 138 8 ((M 138 8) + 1))).bind fun m41 =>
 l_X13_goesOn_173 T k n (v2 + 1) m41 else none else none else
 if aIn (10 * (M 138 11)) then
 (f_X13_byteAt T (M 138 8) M).bind fun x44 =>
 if aIn ((10 * (M 138 11)) + x44) then
 if aIn (((10 * (M 138 11)) + x44) - 48) then
 (some (aup M 138 11 (((10 * (M 138 11)) + x44) - 48))).bind fun m48 =>
 if aIn (v2 + 1) then
 if aIn ((m48 138 8) + 1) then
 (some (aup m48 138 8 ((m48 138 8) + 1))).bind fun m52 =>
 l_X13_goesOn_173 T k n (v2 + 1) m52 else none else none else none else none else none
theorem tl_X13_goesOn_173 {d : Nat} (hd : 1 ≤ d) {T : T3}  {k : Int → aM → Option (Int × aM)} {y : (Int × aM)}  {M0 : aM} (hS : Sh T.1 M0)
    (hk : ∀ (v2 : Int) (u1 : aV) (M : aM), Sh T.1 M → k v2 M = some y → Wp d 211 231 [] [(2, ((138 : Nat) : Int)), u1, (0, v2)] [] (M, T) (fun r2 σ2 => r2 = none ∧ σ2 = (y.2, T) ∧ Sh T.1 y.2)) :
    ∀ (n : Nat) (v2 : Int) (u1 : aV) (M : aM), Sh T.1 M → l_X13_goesOn_173 T.1 k n v2 M = some y → Wp d 211 173 [] [(2, ((138 : Nat) : Int)), u1, (0, v2)] [] (M, T) (fun r2 σ2 => r2 = none ∧ σ2 = (y.2, T) ∧ Sh T.1 y.2) := by
  intro n
  induction n with
  | zero =>
    intro v2 u1 M _ h
    exact nomatch (show (none : Option (Int × aM)) = some y from h)
  | succ n ih =>
    intro v2 u1 M sM h
    rw [l_X13_goesOn_173] at h
    refine y_blk (t := 173) rfl (show fnd bk_X13_goesOn 173 = some _ from rfl) aB_X13_goesOn ?_
    refine wp_aload_n (v := ((138 : Nat) : Int)) rfl (Int.natCast_nonneg _) ?_
    refine wp_aload_n (v := ((138 : Nat) : Int)) rfl (Int.natCast_nonneg _) ?_
    refine y_get (show ash 138 = (13, 38) from rfl) (Nat.lt_of_lt_of_le (show 138 < 154 by decide) hS.1.1) (v := M 138 8) rfl rfl ?_
    obtain ⟨x33, e34, h⟩ := d_bind h
    refine y_callV (as := [(0, (M 138 8))]) (S1 := []) (Nat.le_of_ble_eq_true rfl) (by omega) (t_X13_byteAt sM e34) (Nat.le_of_ble_eq_true rfl) rfl (show ash 138 = (13, 38) from rfl) (Nat.lt_of_lt_of_le (show 138 < 154 by decide) hS.1.1) (Nat.le_of_ble_eq_true rfl) (Nat.le_of_ble_eq_true rfl) rfl ?_
    obtain ⟨x35, e36, h⟩ := d_bind h
    refine y_callS (as := [(0, x33)]) (S1 := []) (Nat.le_of_ble_eq_true rfl) (by omega) (t_X13_isDigit sM e36) (Nat.le_of_ble_eq_true rfl) rfl (Nat.le_of_ble_eq_true rfl) (Nat.le_of_ble_eq_true rfl) rfl ?_
    refine wp_if_eq (fun c37 => ?_) (fun c37 => ?_)
    · rw [if_pos c37] at h
      exact hk v2 u1 M sM h
    · rw [if_neg c37] at h
      refine wp_iload_n (v := v2) rfl ?_
      refine wp_iconst ⟨by decide, by decide⟩ ?_
      refine wp_icmp_ge (fun c38 => ?_) (fun c38 => ?_)
      · rw [if_pos c38] at h
        refine y_blk (t := 215) rfl (show fnd bk_X13_goesOn 215 = some _ from rfl) aB_X13_goesOn ?_
        obtain ⟨c39, h⟩ := d_ite h
        refine y_iinc (L1 := [(2, ((138 : Nat) : Int)), (ajk u1), (0, (v2 + 1))]) rfl (Nat.le_of_ble_eq_true rfl) ⟨by decide, by decide⟩ c39 (aset_jk (q := 1) (u := u1) rfl) ?_
        refine wp_aload_n (v := ((138 : Nat) : Int)) rfl (Int.natCast_nonneg _) ?_
        refine wp_dup (Or.inr rfl) ?_
        refine y_get (show ash 138 = (13, 38) from rfl) (Nat.lt_of_lt_of_le (show 138 < 154 by decide) hS.1.1) (v := M 138 8) rfl rfl ?_
        refine wp_iconst ⟨by decide, by decide⟩ ?_
        obtain ⟨c40, h⟩ := d_ite h
        refine wp_iadd c40 ?_
        refine y_put (show ash 138 = (13, 38) from rfl) (Nat.lt_of_lt_of_le (show 138 < 154 by decide) hS.1.1) rfl ?_
        obtain ⟨m41, em41, h⟩ := d_bind h
        have em41 := Option.some.inj em41
        have s42 : Sh T.1 m41 := em41 ▸ sM.up (Or.inr ⟨by rw [(show ash 138 = (13, 38) from rfl)]; decide, by rw [(show ash 138 = (13, 38) from rfl)]; decide⟩) (by have := (Nat.lt_of_lt_of_le (show 138 < 154 by decide) hS.1.1); have := hS.1.2; omega)
        rw [em41]
        refine wp_goto ?_
        exact ih (v2 + 1) (ajk u1) m41 s42 h
      · rw [if_neg c38] at h
        refine wp_aload_n (v := ((138 : Nat) : Int)) rfl (Int.natCast_nonneg _) ?_
        refine wp_bipush (by decide) ?_
        refine wp_aload_n (v := ((138 : Nat) : Int)) rfl (Int.natCast_nonneg _) ?_
        refine y_get (show ash 138 = (13, 38) from rfl) (Nat.lt_of_lt_of_le (show 138 < 154 by decide) hS.1.1) (v := M 138 11) rfl rfl ?_
        obtain ⟨c43, h⟩ := d_ite h
        refine wp_imul c43 ?_
        refine wp_aload_n (v := ((138 : Nat) : Int)) rfl (Int.natCast_nonneg _) ?_
        refine wp_aload_n (v := ((138 : Nat) : Int)) rfl (Int.natCast_nonneg _) ?_
        refine y_get (show ash 138 = (13, 38) from rfl) (Nat.lt_of_lt_of_le (show 138 < 154 by decide) hS.1.1) (v := M 138 8) rfl rfl ?_
        obtain ⟨x44, e45, h⟩ := d_bind h
        refine y_callV (as := [(0, (M 138 8))]) (S1 := [(0, (10 * (M 138 11))), (2, ((138 : Nat) : Int))]) (Nat.le_of_ble_eq_true rfl) (by omega) (t_X13_byteAt sM e45) (Nat.le_of_ble_eq_true rfl) rfl (show ash 138 = (13, 38) from rfl) (Nat.lt_of_lt_of_le (show 138 < 154 by decide) hS.1.1) (Nat.le_of_ble_eq_true rfl) (Nat.le_of_ble_eq_true rfl) rfl ?_
        obtain ⟨c46, h⟩ := d_ite h
        refine wp_iadd c46 ?_
        refine wp_bipush (by decide) ?_
        obtain ⟨c47, h⟩ := d_ite h
        refine wp_isub c47 ?_
        refine y_put (show ash 138 = (13, 38) from rfl) (Nat.lt_of_lt_of_le (show 138 < 154 by decide) hS.1.1) rfl ?_
        obtain ⟨m48, em48, h⟩ := d_bind h
        have em48 := Option.some.inj em48
        have s49 : Sh T.1 m48 := em48 ▸ sM.up (Or.inr ⟨by rw [(show ash 138 = (13, 38) from rfl)]; decide, by rw [(show ash 138 = (13, 38) from rfl)]; decide⟩) (by have := (Nat.lt_of_lt_of_le (show 138 < 154 by decide) hS.1.1); have := hS.1.2; omega)
        rw [em48]
        refine y_blk (t := 215) rfl (show fnd bk_X13_goesOn 215 = some _ from rfl) aB_X13_goesOn ?_
        obtain ⟨c50, h⟩ := d_ite h
        refine y_iinc (L1 := [(2, ((138 : Nat) : Int)), (ajk u1), (0, (v2 + 1))]) rfl (Nat.le_of_ble_eq_true rfl) ⟨by decide, by decide⟩ c50 (aset_jk (q := 1) (u := u1) rfl) ?_
        refine wp_aload_n (v := ((138 : Nat) : Int)) rfl (Int.natCast_nonneg _) ?_
        refine wp_dup (Or.inr rfl) ?_
        refine y_get (show ash 138 = (13, 38) from rfl) (Nat.lt_of_lt_of_le (show 138 < 154 by decide) hS.1.1) (v := m48 138 8) rfl rfl ?_
        refine wp_iconst ⟨by decide, by decide⟩ ?_
        obtain ⟨c51, h⟩ := d_ite h
        refine wp_iadd c51 ?_
        refine y_put (show ash 138 = (13, 38) from rfl) (Nat.lt_of_lt_of_le (show 138 < 154 by decide) hS.1.1) rfl ?_
        obtain ⟨m52, em52, h⟩ := d_bind h
        have em52 := Option.some.inj em52
        have s53 : Sh T.1 m52 := em52 ▸ s49.up (Or.inr ⟨by rw [(show ash 138 = (13, 38) from rfl)]; decide, by rw [(show ash 138 = (13, 38) from rfl)]; decide⟩) (by have := (Nat.lt_of_lt_of_le (show 138 < 154 by decide) hS.1.1); have := hS.1.2; omega)
        rw [em52]
        refine wp_goto ?_
        exact ih (v2 + 1) (ajk u1) m52 s53 h
def l_X13_goesOn_84 (T : Nat)  (k : Int → aM → Option (Int × aM)) : Nat → Int → aM → Option (Int × aM)
| 0, _, _ => none
| n + 1, v2, M =>
 (f_X13_byteAt T (M 138 8) M).bind fun x63 =>
 (f_X13_isLetter T x63 M).bind fun x65 =>
 if x65 = 0 then
 k v2 M else
 if 8 ≤ v2 then
 if aIn (v2 + 1) then
 if aIn ((M 138 8) + 1) then
 (some (aup M 138 8 ((M 138 8) + 1))).bind fun m71 =>
 l_X13_goesOn_84 T k n (v2 + 1) m71 else none else none else
 if aInL (32 * (M 138 14)) then
 (f_X13_byteAt T (M 138 8) M).bind fun x74 =>
 if aIn (x74 - 97) then
 if aIn ((x74 - 97) + 1) then
 if aInL ((32 * (M 138 14)) + ((x74 - 97) + 1)) then
 (some (aup M 138 14 ((32 * (M 138 14)) + ((x74 - 97) + 1)))).bind fun m79 =>
 if aIn (v2 + 1) then
 if aIn ((m79 138 8) + 1) then
 (some (aup m79 138 8 ((m79 138 8) + 1))).bind fun m83 =>
 l_X13_goesOn_84 T k n (v2 + 1) m83 else none else none else none else none else none else none
theorem tl_X13_goesOn_84 {d : Nat} (hd : 1 ≤ d) {T : T3}  {k : Int → aM → Option (Int × aM)} {y : (Int × aM)}  {M0 : aM} (hS : Sh T.1 M0)
    (hk : ∀ (v2 : Int) (u1 : aV) (M : aM), Sh T.1 M → k v2 M = some y → Wp d 211 147 [] [(2, ((138 : Nat) : Int)), u1, (0, v2)] [] (M, T) (fun r2 σ2 => r2 = none ∧ σ2 = (y.2, T) ∧ Sh T.1 y.2)) :
    ∀ (n : Nat) (v2 : Int) (u1 : aV) (M : aM), Sh T.1 M → l_X13_goesOn_84 T.1 k n v2 M = some y → Wp d 211 84 [] [(2, ((138 : Nat) : Int)), u1, (0, v2)] [] (M, T) (fun r2 σ2 => r2 = none ∧ σ2 = (y.2, T) ∧ Sh T.1 y.2) := by
  intro n
  induction n with
  | zero =>
    intro v2 u1 M _ h
    exact nomatch (show (none : Option (Int × aM)) = some y from h)
  | succ n ih =>
    intro v2 u1 M sM h
    rw [l_X13_goesOn_84] at h
    refine y_blk (t := 84) rfl (show fnd bk_X13_goesOn 84 = some _ from rfl) aB_X13_goesOn ?_
    refine wp_aload_n (v := ((138 : Nat) : Int)) rfl (Int.natCast_nonneg _) ?_
    refine wp_aload_n (v := ((138 : Nat) : Int)) rfl (Int.natCast_nonneg _) ?_
    refine y_get (show ash 138 = (13, 38) from rfl) (Nat.lt_of_lt_of_le (show 138 < 154 by decide) hS.1.1) (v := M 138 8) rfl rfl ?_
    obtain ⟨x63, e64, h⟩ := d_bind h
    refine y_callV (as := [(0, (M 138 8))]) (S1 := []) (Nat.le_of_ble_eq_true rfl) (by omega) (t_X13_byteAt sM e64) (Nat.le_of_ble_eq_true rfl) rfl (show ash 138 = (13, 38) from rfl) (Nat.lt_of_lt_of_le (show 138 < 154 by decide) hS.1.1) (Nat.le_of_ble_eq_true rfl) (Nat.le_of_ble_eq_true rfl) rfl ?_
    obtain ⟨x65, e66, h⟩ := d_bind h
    refine y_callS (as := [(0, x63)]) (S1 := []) (Nat.le_of_ble_eq_true rfl) (by omega) (t_X13_isLetter sM e66) (Nat.le_of_ble_eq_true rfl) rfl (Nat.le_of_ble_eq_true rfl) (Nat.le_of_ble_eq_true rfl) rfl ?_
    refine wp_if_eq (fun c67 => ?_) (fun c67 => ?_)
    · rw [if_pos c67] at h
      exact hk v2 u1 M sM h
    · rw [if_neg c67] at h
      refine wp_iload_n (v := v2) rfl ?_
      refine wp_bipush (by decide) ?_
      refine wp_icmp_ge (fun c68 => ?_) (fun c68 => ?_)
      · rw [if_pos c68] at h
        refine y_blk (t := 131) rfl (show fnd bk_X13_goesOn 131 = some _ from rfl) aB_X13_goesOn ?_
        obtain ⟨c69, h⟩ := d_ite h
        refine y_iinc (L1 := [(2, ((138 : Nat) : Int)), (ajk u1), (0, (v2 + 1))]) rfl (Nat.le_of_ble_eq_true rfl) ⟨by decide, by decide⟩ c69 (aset_jk (q := 1) (u := u1) rfl) ?_
        refine wp_aload_n (v := ((138 : Nat) : Int)) rfl (Int.natCast_nonneg _) ?_
        refine wp_dup (Or.inr rfl) ?_
        refine y_get (show ash 138 = (13, 38) from rfl) (Nat.lt_of_lt_of_le (show 138 < 154 by decide) hS.1.1) (v := M 138 8) rfl rfl ?_
        refine wp_iconst ⟨by decide, by decide⟩ ?_
        obtain ⟨c70, h⟩ := d_ite h
        refine wp_iadd c70 ?_
        refine y_put (show ash 138 = (13, 38) from rfl) (Nat.lt_of_lt_of_le (show 138 < 154 by decide) hS.1.1) rfl ?_
        obtain ⟨m71, em71, h⟩ := d_bind h
        have em71 := Option.some.inj em71
        have s72 : Sh T.1 m71 := em71 ▸ sM.up (Or.inr ⟨by rw [(show ash 138 = (13, 38) from rfl)]; decide, by rw [(show ash 138 = (13, 38) from rfl)]; decide⟩) (by have := (Nat.lt_of_lt_of_le (show 138 < 154 by decide) hS.1.1); have := hS.1.2; omega)
        rw [em71]
        refine wp_goto ?_
        exact ih (v2 + 1) (ajk u1) m71 s72 h
      · rw [if_neg c68] at h
        refine wp_aload_n (v := ((138 : Nat) : Int)) rfl (Int.natCast_nonneg _) ?_
        refine y_ldc2 (v := 32) (by decide) rfl ?_
        refine wp_aload_n (v := ((138 : Nat) : Int)) rfl (Int.natCast_nonneg _) ?_
        refine y_get (show ash 138 = (13, 38) from rfl) (Nat.lt_of_lt_of_le (show 138 < 154 by decide) hS.1.1) (v := M 138 14) rfl rfl ?_
        obtain ⟨c73, h⟩ := d_ite h
        refine wp_lmul c73 ?_
        refine wp_aload_n (v := ((138 : Nat) : Int)) rfl (Int.natCast_nonneg _) ?_
        refine wp_aload_n (v := ((138 : Nat) : Int)) rfl (Int.natCast_nonneg _) ?_
        refine y_get (show ash 138 = (13, 38) from rfl) (Nat.lt_of_lt_of_le (show 138 < 154 by decide) hS.1.1) (v := M 138 8) rfl rfl ?_
        obtain ⟨x74, e75, h⟩ := d_bind h
        refine y_callV (as := [(0, (M 138 8))]) (S1 := [(1, (32 * (M 138 14))), (2, ((138 : Nat) : Int))]) (Nat.le_of_ble_eq_true rfl) (by omega) (t_X13_byteAt sM e75) (Nat.le_of_ble_eq_true rfl) rfl (show ash 138 = (13, 38) from rfl) (Nat.lt_of_lt_of_le (show 138 < 154 by decide) hS.1.1) (Nat.le_of_ble_eq_true rfl) (Nat.le_of_ble_eq_true rfl) rfl ?_
        refine wp_bipush (by decide) ?_
        obtain ⟨c76, h⟩ := d_ite h
        refine wp_isub c76 ?_
        refine wp_iconst ⟨by decide, by decide⟩ ?_
        obtain ⟨c77, h⟩ := d_ite h
        refine wp_iadd c77 ?_
        refine wp_i2l ?_
        obtain ⟨c78, h⟩ := d_ite h
        refine wp_ladd c78 ?_
        refine y_put (show ash 138 = (13, 38) from rfl) (Nat.lt_of_lt_of_le (show 138 < 154 by decide) hS.1.1) rfl ?_
        obtain ⟨m79, em79, h⟩ := d_bind h
        have em79 := Option.some.inj em79
        have s80 : Sh T.1 m79 := em79 ▸ sM.up (Or.inr ⟨by rw [(show ash 138 = (13, 38) from rfl)]; decide, by rw [(show ash 138 = (13, 38) from rfl)]; decide⟩) (by have := (Nat.lt_of_lt_of_le (show 138 < 154 by decide) hS.1.1); have := hS.1.2; omega)
        rw [em79]
        refine y_blk (t := 131) rfl (show fnd bk_X13_goesOn 131 = some _ from rfl) aB_X13_goesOn ?_
        obtain ⟨c81, h⟩ := d_ite h
        refine y_iinc (L1 := [(2, ((138 : Nat) : Int)), (ajk u1), (0, (v2 + 1))]) rfl (Nat.le_of_ble_eq_true rfl) ⟨by decide, by decide⟩ c81 (aset_jk (q := 1) (u := u1) rfl) ?_
        refine wp_aload_n (v := ((138 : Nat) : Int)) rfl (Int.natCast_nonneg _) ?_
        refine wp_dup (Or.inr rfl) ?_
        refine y_get (show ash 138 = (13, 38) from rfl) (Nat.lt_of_lt_of_le (show 138 < 154 by decide) hS.1.1) (v := m79 138 8) rfl rfl ?_
        refine wp_iconst ⟨by decide, by decide⟩ ?_
        obtain ⟨c82, h⟩ := d_ite h
        refine wp_iadd c82 ?_
        refine y_put (show ash 138 = (13, 38) from rfl) (Nat.lt_of_lt_of_le (show 138 < 154 by decide) hS.1.1) rfl ?_
        obtain ⟨m83, em83, h⟩ := d_bind h
        have em83 := Option.some.inj em83
        have s84 : Sh T.1 m83 := em83 ▸ s80.up (Or.inr ⟨by rw [(show ash 138 = (13, 38) from rfl)]; decide, by rw [(show ash 138 = (13, 38) from rfl)]; decide⟩) (by have := (Nat.lt_of_lt_of_le (show 138 < 154 by decide) hS.1.1); have := hS.1.2; omega)
        rw [em83]
        refine wp_goto ?_
        exact ih (v2 + 1) (ajk u1) m83 s84 h
def f_X13_goesOn (T : Nat)  (M : aM) : Option (Int × aM) :=
 if (M 138 9) = 5 then
 some (0, M) else
 l_X13_goesOn_9 T (fun  m10 =>
 (some (aup m10 138 10 (m10 138 8))).bind fun m12 =>
 (some (aup m12 138 9 0)).bind fun m14 =>
 (f_X13_byteAt T (m14 138 8) m14).bind fun x16 =>
 if x16 = (-1) then
 (some (aup m14 138 9 1)).bind fun m92 =>
 some (0, m92) else
 (f_X13_isLetter T x16 m14).bind fun x19 =>
 if x19 = 0 then
 (f_X13_isDigit T x16 m14).bind fun x22 =>
 if x22 = 0 then
 if x16 = 59 then
 (some (aup m14 138 9 4)).bind fun m26 =>
 if aIn ((m26 138 8) + 1) then
 (some (aup m26 138 8 ((m26 138 8) + 1))).bind fun m29 =>
 some (0, m29) else none else
 some (0, m14) else
 (some (aup m14 138 11 0)).bind fun m31 =>
 l_X13_goesOn_173 T (fun w54 m56 =>
 if 3 < w54 then
 some (0, m56) else
 (some (aup m56 138 9 3)).bind fun m59 =>
 some (0, m59)) FU 0 m31 else
 (some (aup m14 138 14 0)).bind fun m61 =>
 l_X13_goesOn_84 T (fun w85 m87 =>
 if 8 < w85 then
 some (0, m87) else
 (some (aup m87 138 9 2)).bind fun m90 =>
 some (0, m90)) FU 0 m61) FU  M
theorem t_X13_goesOn {T : T3}  {M : aM} {y : (Int × aM)}  (hS : Sh T.1 M) (h : f_X13_goesOn T.1  M = some y) : Mr 1 211 [(2, ((138 : Nat) : Int))] M (none) y.2 T ∧ Sh T.1 y.2 := by
  have key : ∀ d, 1 ≤ d → Wp d 211 0 [] [(2, ((138 : Nat) : Int)), (9, 0), (9, 0)] [] (M, T) (fun r2 σ2 => r2 = none ∧ σ2 = (y.2, T) ∧ Sh T.1 y.2) := by
    intro d hd
    rw [f_X13_goesOn] at h
    refine y_blk (t := 0) rfl (show fnd bk_X13_goesOn 0 = some _ from rfl) aB_X13_goesOn ?_
    refine wp_aload_n (v := ((138 : Nat) : Int)) rfl (Int.natCast_nonneg _) ?_
    refine y_get (show ash 138 = (13, 38) from rfl) (Nat.lt_of_lt_of_le (show 138 < 154 by decide) hS.1.1) (v := M 138 9) rfl rfl ?_
    refine wp_iconst ⟨by decide, by decide⟩ ?_
    refine y_ne (fun c1 => ?_) (fun c1 => ?_)
    · rw [if_neg c1] at h
      refine tl_X13_goesOn_9 (by omega) hS (fun  u8 u9 m10 s11 h => ?_) FU  (9, 0) (9, 0) M hS h
      refine y_blk (t := 35) rfl (show fnd bk_X13_goesOn 35 = some _ from rfl) aB_X13_goesOn ?_
      refine wp_aload_n (v := ((138 : Nat) : Int)) rfl (Int.natCast_nonneg _) ?_
      refine wp_aload_n (v := ((138 : Nat) : Int)) rfl (Int.natCast_nonneg _) ?_
      refine y_get (show ash 138 = (13, 38) from rfl) (Nat.lt_of_lt_of_le (show 138 < 154 by decide) hS.1.1) (v := m10 138 8) rfl rfl ?_
      refine y_put (show ash 138 = (13, 38) from rfl) (Nat.lt_of_lt_of_le (show 138 < 154 by decide) hS.1.1) rfl ?_
      obtain ⟨m12, em12, h⟩ := d_bind h
      have em12 := Option.some.inj em12
      have s13 : Sh T.1 m12 := em12 ▸ s11.up (Or.inr ⟨by rw [(show ash 138 = (13, 38) from rfl)]; decide, by rw [(show ash 138 = (13, 38) from rfl)]; decide⟩) (by have := (Nat.lt_of_lt_of_le (show 138 < 154 by decide) hS.1.1); have := hS.1.2; omega)
      rw [em12]
      refine wp_aload_n (v := ((138 : Nat) : Int)) rfl (Int.natCast_nonneg _) ?_
      refine wp_iconst ⟨by decide, by decide⟩ ?_
      refine y_put (show ash 138 = (13, 38) from rfl) (Nat.lt_of_lt_of_le (show 138 < 154 by decide) hS.1.1) rfl ?_
      obtain ⟨m14, em14, h⟩ := d_bind h
      have em14 := Option.some.inj em14
      have s15 : Sh T.1 m14 := em14 ▸ s13.up (Or.inr ⟨by rw [(show ash 138 = (13, 38) from rfl)]; decide, by rw [(show ash 138 = (13, 38) from rfl)]; decide⟩) (by have := (Nat.lt_of_lt_of_le (show 138 < 154 by decide) hS.1.1); have := hS.1.2; omega)
      rw [em14]
      refine wp_aload_n (v := ((138 : Nat) : Int)) rfl (Int.natCast_nonneg _) ?_
      refine wp_aload_n (v := ((138 : Nat) : Int)) rfl (Int.natCast_nonneg _) ?_
      refine y_get (show ash 138 = (13, 38) from rfl) (Nat.lt_of_lt_of_le (show 138 < 154 by decide) hS.1.1) (v := m14 138 8) rfl rfl ?_
      obtain ⟨x16, e17, h⟩ := d_bind h
      refine y_callV (as := [(0, (m14 138 8))]) (S1 := []) (Nat.le_of_ble_eq_true rfl) (by omega) (t_X13_byteAt s15 e17) (Nat.le_of_ble_eq_true rfl) rfl (show ash 138 = (13, 38) from rfl) (Nat.lt_of_lt_of_le (show 138 < 154 by decide) hS.1.1) (Nat.le_of_ble_eq_true rfl) (Nat.le_of_ble_eq_true rfl) rfl ?_
      refine y_stn (L1 := [(2, ((138 : Nat) : Int)), (0, x16), u9]) (Nat.le_of_ble_eq_true rfl) rfl ?_
      refine wp_iconst ⟨by decide, by decide⟩ ?_
      refine y_stn (L1 := [(2, ((138 : Nat) : Int)), (0, x16), (0, 0)]) (Nat.le_of_ble_eq_true rfl) rfl ?_
      refine wp_iload_n (v := x16) rfl ?_
      refine wp_iconst ⟨by decide, by decide⟩ ?_
      refine y_ne (fun c18 => ?_) (fun c18 => ?_)
      · rw [if_neg c18] at h
        refine y_blk (t := 72) rfl (show fnd bk_X13_goesOn 72 = some _ from rfl) aB_X13_goesOn ?_
        refine wp_iload_n (v := x16) rfl ?_
        obtain ⟨x19, e20, h⟩ := d_bind h
        refine y_callS (as := [(0, x16)]) (S1 := []) (Nat.le_of_ble_eq_true rfl) (by omega) (t_X13_isLetter s15 e20) (Nat.le_of_ble_eq_true rfl) rfl (Nat.le_of_ble_eq_true rfl) (Nat.le_of_ble_eq_true rfl) rfl ?_
        refine wp_if_eq (fun c21 => ?_) (fun c21 => ?_)
        · rw [if_pos c21] at h
          refine y_blk (t := 161) rfl (show fnd bk_X13_goesOn 161 = some _ from rfl) aB_X13_goesOn ?_
          refine wp_iload_n (v := x16) rfl ?_
          obtain ⟨x22, e23, h⟩ := d_bind h
          refine y_callS (as := [(0, x16)]) (S1 := []) (Nat.le_of_ble_eq_true rfl) (by omega) (t_X13_isDigit s15 e23) (Nat.le_of_ble_eq_true rfl) rfl (Nat.le_of_ble_eq_true rfl) (Nat.le_of_ble_eq_true rfl) rfl ?_
          refine wp_if_eq (fun c24 => ?_) (fun c24 => ?_)
          · rw [if_pos c24] at h
            refine y_blk (t := 244) rfl (show fnd bk_X13_goesOn 244 = some _ from rfl) aB_X13_goesOn ?_
            refine wp_iload_n (v := x16) rfl ?_
            refine wp_bipush (by decide) ?_
            refine y_ne (fun c25 => ?_) (fun c25 => ?_)
            · rw [if_neg c25] at h
              refine y_blk (t := 265) rfl (show fnd bk_X13_goesOn 265 = some _ from rfl) aB_X13_goesOn ?_
              cases h
              exact wp_return ⟨rfl, rfl, s15⟩
            · rw [if_pos c25] at h
              refine wp_aload_n (v := ((138 : Nat) : Int)) rfl (Int.natCast_nonneg _) ?_
              refine wp_iconst ⟨by decide, by decide⟩ ?_
              refine y_put (show ash 138 = (13, 38) from rfl) (Nat.lt_of_lt_of_le (show 138 < 154 by decide) hS.1.1) rfl ?_
              obtain ⟨m26, em26, h⟩ := d_bind h
              have em26 := Option.some.inj em26
              have s27 : Sh T.1 m26 := em26 ▸ s15.up (Or.inr ⟨by rw [(show ash 138 = (13, 38) from rfl)]; decide, by rw [(show ash 138 = (13, 38) from rfl)]; decide⟩) (by have := (Nat.lt_of_lt_of_le (show 138 < 154 by decide) hS.1.1); have := hS.1.2; omega)
              rw [em26]
              refine wp_aload_n (v := ((138 : Nat) : Int)) rfl (Int.natCast_nonneg _) ?_
              refine wp_dup (Or.inr rfl) ?_
              refine y_get (show ash 138 = (13, 38) from rfl) (Nat.lt_of_lt_of_le (show 138 < 154 by decide) hS.1.1) (v := m26 138 8) rfl rfl ?_
              refine wp_iconst ⟨by decide, by decide⟩ ?_
              obtain ⟨c28, h⟩ := d_ite h
              refine wp_iadd c28 ?_
              refine y_put (show ash 138 = (13, 38) from rfl) (Nat.lt_of_lt_of_le (show 138 < 154 by decide) hS.1.1) rfl ?_
              obtain ⟨m29, em29, h⟩ := d_bind h
              have em29 := Option.some.inj em29
              have s30 : Sh T.1 m29 := em29 ▸ s27.up (Or.inr ⟨by rw [(show ash 138 = (13, 38) from rfl)]; decide, by rw [(show ash 138 = (13, 38) from rfl)]; decide⟩) (by have := (Nat.lt_of_lt_of_le (show 138 < 154 by decide) hS.1.1); have := hS.1.2; omega)
              rw [em29]
              refine y_blk (t := 265) rfl (show fnd bk_X13_goesOn 265 = some _ from rfl) aB_X13_goesOn ?_
              cases h
              exact wp_return ⟨rfl, rfl, s30⟩
          · rw [if_neg c24] at h
            refine wp_aload_n (v := ((138 : Nat) : Int)) rfl (Int.natCast_nonneg _) ?_
            refine wp_iconst ⟨by decide, by decide⟩ ?_
            refine y_put (show ash 138 = (13, 38) from rfl) (Nat.lt_of_lt_of_le (show 138 < 154 by decide) hS.1.1) rfl ?_
            obtain ⟨m31, em31, h⟩ := d_bind h
            have em31 := Option.some.inj em31
            have s32 : Sh T.1 m31 := em31 ▸ s15.up (Or.inr ⟨by rw [(show ash 138 = (13, 38) from rfl)]; decide, by rw [(show ash 138 = (13, 38) from rfl)]; decide⟩) (by have := (Nat.lt_of_lt_of_le (show 138 < 154 by decide) hS.1.1); have := hS.1.2; omega)
            rw [em31]
            refine tl_X13_goesOn_173 (by omega) hS (fun w54 u55 m56 s57 h => ?_) FU 0 (0, x16) m31 s32 h
            refine y_blk (t := 231) rfl (show fnd bk_X13_goesOn 231 = some _ from rfl) aB_X13_goesOn ?_
            refine wp_iload_n (v := w54) rfl ?_
            refine wp_iconst ⟨by decide, by decide⟩ ?_
            refine wp_icmp_gt (fun c58 => ?_) (fun c58 => ?_)
            · rw [if_pos c58] at h
              refine y_blk (t := 265) rfl (show fnd bk_X13_goesOn 265 = some _ from rfl) aB_X13_goesOn ?_
              cases h
              exact wp_return ⟨rfl, rfl, s57⟩
            · rw [if_neg c58] at h
              refine wp_aload_n (v := ((138 : Nat) : Int)) rfl (Int.natCast_nonneg _) ?_
              refine wp_iconst ⟨by decide, by decide⟩ ?_
              refine y_put (show ash 138 = (13, 38) from rfl) (Nat.lt_of_lt_of_le (show 138 < 154 by decide) hS.1.1) rfl ?_
              obtain ⟨m59, em59, h⟩ := d_bind h
              have em59 := Option.some.inj em59
              have s60 : Sh T.1 m59 := em59 ▸ s57.up (Or.inr ⟨by rw [(show ash 138 = (13, 38) from rfl)]; decide, by rw [(show ash 138 = (13, 38) from rfl)]; decide⟩) (by have := (Nat.lt_of_lt_of_le (show 138 < 154 by decide) hS.1.1); have := hS.1.2; omega)
              rw [em59]
              refine wp_goto ?_
              refine y_blk (t := 265) rfl (show fnd bk_X13_goesOn 265 = some _ from rfl) aB_X13_goesOn ?_
              cases h
              exact wp_return ⟨rfl, rfl, s60⟩
        · rw [if_neg c21] at h
          refine wp_aload_n (v := ((138 : Nat) : Int)) rfl (Int.natCast_nonneg _) ?_
          refine y_lconst (v := 0) rfl ?_
          refine y_put (show ash 138 = (13, 38) from rfl) (Nat.lt_of_lt_of_le (show 138 < 154 by decide) hS.1.1) rfl ?_
          obtain ⟨m61, em61, h⟩ := d_bind h
          have em61 := Option.some.inj em61
          have s62 : Sh T.1 m61 := em61 ▸ s15.up (Or.inr ⟨by rw [(show ash 138 = (13, 38) from rfl)]; decide, by rw [(show ash 138 = (13, 38) from rfl)]; decide⟩) (by have := (Nat.lt_of_lt_of_le (show 138 < 154 by decide) hS.1.1); have := hS.1.2; omega)
          rw [em61]
          refine tl_X13_goesOn_84 (by omega) hS (fun w85 u86 m87 s88 h => ?_) FU 0 (0, x16) m61 s62 h
          refine y_blk (t := 147) rfl (show fnd bk_X13_goesOn 147 = some _ from rfl) aB_X13_goesOn ?_
          refine wp_iload_n (v := w85) rfl ?_
          refine wp_bipush (by decide) ?_
          refine wp_icmp_gt (fun c89 => ?_) (fun c89 => ?_)
          · rw [if_pos c89] at h
            refine y_blk (t := 265) rfl (show fnd bk_X13_goesOn 265 = some _ from rfl) aB_X13_goesOn ?_
            cases h
            exact wp_return ⟨rfl, rfl, s88⟩
          · rw [if_neg c89] at h
            refine wp_aload_n (v := ((138 : Nat) : Int)) rfl (Int.natCast_nonneg _) ?_
            refine wp_iconst ⟨by decide, by decide⟩ ?_
            refine y_put (show ash 138 = (13, 38) from rfl) (Nat.lt_of_lt_of_le (show 138 < 154 by decide) hS.1.1) rfl ?_
            obtain ⟨m90, em90, h⟩ := d_bind h
            have em90 := Option.some.inj em90
            have s91 : Sh T.1 m90 := em90 ▸ s88.up (Or.inr ⟨by rw [(show ash 138 = (13, 38) from rfl)]; decide, by rw [(show ash 138 = (13, 38) from rfl)]; decide⟩) (by have := (Nat.lt_of_lt_of_le (show 138 < 154 by decide) hS.1.1); have := hS.1.2; omega)
            rw [em90]
            refine wp_goto ?_
            refine y_blk (t := 265) rfl (show fnd bk_X13_goesOn 265 = some _ from rfl) aB_X13_goesOn ?_
            cases h
            exact wp_return ⟨rfl, rfl, s91⟩
      · rw [if_pos c18] at h
        refine wp_aload_n (v := ((138 : Nat) : Int)) rfl (Int.natCast_nonneg _) ?_
        refine wp_iconst ⟨by decide, by decide⟩ ?_
        refine y_put (show ash 138 = (13, 38) from rfl) (Nat.lt_of_lt_of_le (show 138 < 154 by decide) hS.1.1) rfl ?_
        obtain ⟨m92, em92, h⟩ := d_bind h
        have em92 := Option.some.inj em92
        have s93 : Sh T.1 m92 := em92 ▸ s15.up (Or.inr ⟨by rw [(show ash 138 = (13, 38) from rfl)]; decide, by rw [(show ash 138 = (13, 38) from rfl)]; decide⟩) (by have := (Nat.lt_of_lt_of_le (show 138 < 154 by decide) hS.1.1); have := hS.1.2; omega)
        rw [em92]
        refine wp_goto ?_
        refine y_blk (t := 265) rfl (show fnd bk_X13_goesOn 265 = some _ from rfl) aB_X13_goesOn ?_
        cases h
        exact wp_return ⟨rfl, rfl, s93⟩
    · rw [if_pos c1] at h
      cases h
      exact wp_return ⟨rfl, rfl, hS⟩
  exact ⟨fun d hd => Ms.of3 (key d hd), Ms.sh (key 1 (Nat.le_refl _))⟩
theorem aB_X13_flaw : ∀ pc, aB 212 pc = fnd bk_X13_flaw pc := fun _ => rfl
def f_X13_flaw (T : Nat) (v1 : Int) (M : aM) : Option (Int × aM) :=
 if (M 138 9) = 5 then
 some (0, M) else
 (some (aup M 138 12 v1)).bind fun m2 =>
 (some (aup m2 138 13 (m2 138 10))).bind fun m4 =>
 (some (aup m4 138 9 5)).bind fun m6 =>
 some (0, m6)
theorem t_X13_flaw {T : T3} {v1 : Int} {M : aM} {y : (Int × aM)}  (hS : Sh T.1 M) (h : f_X13_flaw T.1 v1 M = some y) : Mr 0 212 [(2, ((138 : Nat) : Int)), (0, v1)] M (none) y.2 T ∧ Sh T.1 y.2 := by
  have key : ∀ d, 0 ≤ d → Wp d 212 0 [] [(2, ((138 : Nat) : Int)), (0, v1)] [] (M, T) (fun r2 σ2 => r2 = none ∧ σ2 = (y.2, T) ∧ Sh T.1 y.2) := by
    intro d hd
    rw [f_X13_flaw] at h
    refine y_blk (t := 0) rfl (show fnd bk_X13_flaw 0 = some _ from rfl) aB_X13_flaw ?_
    refine wp_aload_n (v := ((138 : Nat) : Int)) rfl (Int.natCast_nonneg _) ?_
    refine y_get (show ash 138 = (13, 38) from rfl) (Nat.lt_of_lt_of_le (show 138 < 154 by decide) hS.1.1) (v := M 138 9) rfl rfl ?_
    refine wp_iconst ⟨by decide, by decide⟩ ?_
    refine y_ne (fun c1 => ?_) (fun c1 => ?_)
    · rw [if_neg c1] at h
      refine y_blk (t := 9) rfl (show fnd bk_X13_flaw 9 = some _ from rfl) aB_X13_flaw ?_
      refine wp_aload_n (v := ((138 : Nat) : Int)) rfl (Int.natCast_nonneg _) ?_
      refine wp_iload_n (v := v1) rfl ?_
      refine y_put (show ash 138 = (13, 38) from rfl) (Nat.lt_of_lt_of_le (show 138 < 154 by decide) hS.1.1) rfl ?_
      obtain ⟨m2, em2, h⟩ := d_bind h
      have em2 := Option.some.inj em2
      have s3 : Sh T.1 m2 := em2 ▸ hS.up (Or.inr ⟨by rw [(show ash 138 = (13, 38) from rfl)]; decide, by rw [(show ash 138 = (13, 38) from rfl)]; decide⟩) (by have := (Nat.lt_of_lt_of_le (show 138 < 154 by decide) hS.1.1); have := hS.1.2; omega)
      rw [em2]
      refine wp_aload_n (v := ((138 : Nat) : Int)) rfl (Int.natCast_nonneg _) ?_
      refine wp_aload_n (v := ((138 : Nat) : Int)) rfl (Int.natCast_nonneg _) ?_
      refine y_get (show ash 138 = (13, 38) from rfl) (Nat.lt_of_lt_of_le (show 138 < 154 by decide) hS.1.1) (v := m2 138 10) rfl rfl ?_
      refine y_put (show ash 138 = (13, 38) from rfl) (Nat.lt_of_lt_of_le (show 138 < 154 by decide) hS.1.1) rfl ?_
      obtain ⟨m4, em4, h⟩ := d_bind h
      have em4 := Option.some.inj em4
      have s5 : Sh T.1 m4 := em4 ▸ s3.up (Or.inr ⟨by rw [(show ash 138 = (13, 38) from rfl)]; decide, by rw [(show ash 138 = (13, 38) from rfl)]; decide⟩) (by have := (Nat.lt_of_lt_of_le (show 138 < 154 by decide) hS.1.1); have := hS.1.2; omega)
      rw [em4]
      refine wp_aload_n (v := ((138 : Nat) : Int)) rfl (Int.natCast_nonneg _) ?_
      refine wp_iconst ⟨by decide, by decide⟩ ?_
      refine y_put (show ash 138 = (13, 38) from rfl) (Nat.lt_of_lt_of_le (show 138 < 154 by decide) hS.1.1) rfl ?_
      obtain ⟨m6, em6, h⟩ := d_bind h
      have em6 := Option.some.inj em6
      have s7 : Sh T.1 m6 := em6 ▸ s5.up (Or.inr ⟨by rw [(show ash 138 = (13, 38) from rfl)]; decide, by rw [(show ash 138 = (13, 38) from rfl)]; decide⟩) (by have := (Nat.lt_of_lt_of_le (show 138 < 154 by decide) hS.1.1); have := hS.1.2; omega)
      rw [em6]
      cases h
      exact wp_return ⟨rfl, rfl, s7⟩
    · rw [if_pos c1] at h
      cases h
      exact wp_return ⟨rfl, rfl, hS⟩
  exact ⟨fun d hd => Ms.of3 (key d hd), Ms.sh (key 0 (Nat.le_refl _))⟩
theorem aB_X13_isWord : ∀ pc, aB 213 pc = fnd bk_X13_isWord pc := fun _ => rfl
def f_X13_isWord (T : Nat) (v1 : Int) (M : aM) : Option Int :=
 if 0 ≤ v1 then
 if (M 138 9) = 2 then
 (f_X13_packed T v1 M).bind fun x2 =>
 if (alcmp (M 138 14) x2) = 0 then
 some 1 else
 some 0 else
 some 0 else none
theorem t_X13_isWord {T : T3} {v1 : Int} {M : aM} {y : Int}  (hS : Sh T.1 M) (h : f_X13_isWord T.1 v1 M = some y) : Mr 5 213 [(2, ((138 : Nat) : Int)), (2, v1)] M (some (0, y)) M T := by
  have key : ∀ d, 5 ≤ d → Wp d 213 0 [] [(2, ((138 : Nat) : Int)), (2, v1)] [] (M, T) (fun r2 σ2 => r2 = some (0, y) ∧ σ2 = (M, T)) := by
    intro d hd
    rw [f_X13_isWord] at h
    obtain ⟨hsv1, h⟩ := d_ite h
    refine y_blk (t := 0) rfl (show fnd bk_X13_isWord 0 = some _ from rfl) aB_X13_isWord ?_
    refine wp_aload_n (v := ((138 : Nat) : Int)) rfl (Int.natCast_nonneg _) ?_
    refine y_get (show ash 138 = (13, 38) from rfl) (Nat.lt_of_lt_of_le (show 138 < 154 by decide) hS.1.1) (v := M 138 9) rfl rfl ?_
    refine wp_iconst ⟨by decide, by decide⟩ ?_
    refine y_ne (fun c1 => ?_) (fun c1 => ?_)
    · rw [if_neg c1] at h
      refine y_blk (t := 24) rfl (show fnd bk_X13_isWord 24 = some _ from rfl) aB_X13_isWord ?_
      refine wp_iconst ⟨by decide, by decide⟩ ?_
      refine y_blk (t := 25) rfl (show fnd bk_X13_isWord 25 = some _ from rfl) aB_X13_isWord ?_
      cases h
      exact y_ret0 (Or.inr (Or.inl rfl)) ⟨rfl, rfl⟩
    · rw [if_pos c1] at h
      refine wp_aload_n (v := ((138 : Nat) : Int)) rfl (Int.natCast_nonneg _) ?_
      refine y_get (show ash 138 = (13, 38) from rfl) (Nat.lt_of_lt_of_le (show 138 < 154 by decide) hS.1.1) (v := M 138 14) rfl rfl ?_
      refine wp_aload_n (v := v1) rfl (by omega) ?_
      obtain ⟨x2, e3, h⟩ := d_bind h
      refine y_callS (as := [(2, v1)]) (S1 := [(1, (M 138 14))]) (Nat.le_of_ble_eq_true rfl) (by omega) (t_X13_packed hS e3) (Nat.le_of_ble_eq_true rfl) rfl (Nat.le_of_ble_eq_true rfl) (Nat.le_of_ble_eq_true rfl) rfl ?_
      refine wp_lcmp ?_
      refine y_nez (fun c4 => ?_) (fun c4 => ?_)
      · rw [if_neg c4] at h
        refine y_blk (t := 24) rfl (show fnd bk_X13_isWord 24 = some _ from rfl) aB_X13_isWord ?_
        refine wp_iconst ⟨by decide, by decide⟩ ?_
        refine y_blk (t := 25) rfl (show fnd bk_X13_isWord 25 = some _ from rfl) aB_X13_isWord ?_
        cases h
        exact y_ret0 (Or.inr (Or.inl rfl)) ⟨rfl, rfl⟩
      · rw [if_pos c4] at h
        refine wp_iconst ⟨by decide, by decide⟩ ?_
        refine wp_goto ?_
        refine y_blk (t := 25) rfl (show fnd bk_X13_isWord 25 = some _ from rfl) aB_X13_isWord ?_
        cases h
        exact y_ret0 (Or.inr (Or.inr rfl)) ⟨rfl, rfl⟩
  exact fun d hd => Ms.of (key d hd)
theorem aB_X13_eatsSemicolon : ∀ pc, aB 214 pc = fnd bk_X13_eatsSemicolon pc := fun _ => rfl
def f_X13_eatsSemicolon (T : Nat)  (M : aM) : Option (Int × aM) :=
 if (M 138 9) = 4 then
 (f_X13_goesOn T M).bind fun x4 =>
 some (1, x4.2) else
 some (0, M)
theorem t_X13_eatsSemicolon {T : T3}  {M : aM} {y : (Int × aM)}  (hS : Sh T.1 M) (h : f_X13_eatsSemicolon T.1  M = some y) : Mr 2 214 [(2, ((138 : Nat) : Int))] M (some (0, y.1)) y.2 T ∧ Sh T.1 y.2 := by
  have key : ∀ d, 2 ≤ d → Wp d 214 0 [] [(2, ((138 : Nat) : Int)), (9, 0)] [] (M, T) (fun r2 σ2 => r2 = some (0, y.1) ∧ σ2 = (y.2, T) ∧ Sh T.1 y.2) := by
    intro d hd
    rw [f_X13_eatsSemicolon] at h
    refine y_blk (t := 0) rfl (show fnd bk_X13_eatsSemicolon 0 = some _ from rfl) aB_X13_eatsSemicolon ?_
    refine wp_aload_n (v := ((138 : Nat) : Int)) rfl (Int.natCast_nonneg _) ?_
    refine y_get (show ash 138 = (13, 38) from rfl) (Nat.lt_of_lt_of_le (show 138 < 154 by decide) hS.1.1) (v := M 138 9) rfl rfl ?_
    refine wp_iconst ⟨by decide, by decide⟩ ?_
    refine y_ne (fun c1 => ?_) (fun c1 => ?_)
    · rw [if_neg c1] at h
      refine y_blk (t := 12) rfl (show fnd bk_X13_eatsSemicolon 12 = some _ from rfl) aB_X13_eatsSemicolon ?_
      refine wp_iconst ⟨by decide, by decide⟩ ?_
      refine y_blk (t := 13) rfl (show fnd bk_X13_eatsSemicolon 13 = some _ from rfl) aB_X13_eatsSemicolon ?_
      refine y_stn (L1 := [(2, ((138 : Nat) : Int)), (0, 0)]) (Nat.le_of_ble_eq_true rfl) rfl ?_
      refine wp_iload_n (v := 0) rfl ?_
      refine wp_if_eq (fun c2 => ?_) (fun c2 => ?_)
      · refine y_blk (t := 22) rfl (show fnd bk_X13_eatsSemicolon 22 = some _ from rfl) aB_X13_eatsSemicolon ?_
        refine wp_iload_n (v := 0) rfl ?_
        cases h
        exact y_ret0 (Or.inr (Or.inl rfl)) ⟨rfl, rfl, hS⟩
      · exact absurd (by decide) c2
    · rw [if_pos c1] at h
      refine wp_iconst ⟨by decide, by decide⟩ ?_
      refine wp_goto ?_
      refine y_blk (t := 13) rfl (show fnd bk_X13_eatsSemicolon 13 = some _ from rfl) aB_X13_eatsSemicolon ?_
      refine y_stn (L1 := [(2, ((138 : Nat) : Int)), (0, 1)]) (Nat.le_of_ble_eq_true rfl) rfl ?_
      refine wp_iload_n (v := 1) rfl ?_
      refine wp_if_eq (fun c3 => ?_) (fun c3 => ?_)
      · exact absurd c3 (by decide)
      · refine wp_aload_n (v := ((138 : Nat) : Int)) rfl (Int.natCast_nonneg _) ?_
        obtain ⟨x4, e5, h⟩ := d_bind h
        obtain ⟨r6, s7⟩ := t_X13_goesOn hS e5
        refine y_callVv (as := []) (S1 := []) (Nat.le_of_ble_eq_true rfl) (by omega) r6 rfl (show ash 138 = (13, 38) from rfl) (Nat.lt_of_lt_of_le (show 138 < 154 by decide) hS.1.1) (Nat.le_of_ble_eq_true rfl) (Nat.le_of_ble_eq_true rfl) rfl ?_
        refine y_blk (t := 22) rfl (show fnd bk_X13_eatsSemicolon 22 = some _ from rfl) aB_X13_eatsSemicolon ?_
        refine wp_iload_n (v := 1) rfl ?_
        cases h
        exact y_ret0 (Or.inr (Or.inr rfl)) ⟨rfl, rfl, s7⟩
  exact ⟨fun d hd => Ms.of3 (key d hd), Ms.sh (key 2 (Nat.le_refl _))⟩
theorem aB_X13_needs : ∀ pc, aB 215 pc = fnd bk_X13_needs pc := fun _ => rfl
def f_X13_needs (T : Nat) (v1 : Int) (M : aM) : Option (Int × aM) :=
 if 0 ≤ v1 then
 (f_X13_isWord T v1 M).bind fun x1 =>
 if x1 = 0 then
 (f_X13_flaw T 1 M).bind fun x8 =>
 (f_X13_goesOn T x8.2).bind fun x12 =>
 some (0, x12.2) else
 (f_X13_goesOn T M).bind fun x4 =>
 some (0, x4.2) else none
theorem t_X13_needs {T : T3} {v1 : Int} {M : aM} {y : (Int × aM)}  (hS : Sh T.1 M) (h : f_X13_needs T.1 v1 M = some y) : Mr 6 215 [(2, ((138 : Nat) : Int)), (2, v1)] M (none) y.2 T ∧ Sh T.1 y.2 := by
  have key : ∀ d, 6 ≤ d → Wp d 215 0 [] [(2, ((138 : Nat) : Int)), (2, v1)] [] (M, T) (fun r2 σ2 => r2 = none ∧ σ2 = (y.2, T) ∧ Sh T.1 y.2) := by
    intro d hd
    rw [f_X13_needs] at h
    obtain ⟨hsv1, h⟩ := d_ite h
    refine y_blk (t := 0) rfl (show fnd bk_X13_needs 0 = some _ from rfl) aB_X13_needs ?_
    refine wp_aload_n (v := ((138 : Nat) : Int)) rfl (Int.natCast_nonneg _) ?_
    refine wp_aload_n (v := v1) rfl (by omega) ?_
    obtain ⟨x1, e2, h⟩ := d_bind h
    refine y_callV (as := [(2, v1)]) (S1 := []) (Nat.le_of_ble_eq_true rfl) (by omega) (t_X13_isWord hS e2) (Nat.le_of_ble_eq_true rfl) rfl (show ash 138 = (13, 38) from rfl) (Nat.lt_of_lt_of_le (show 138 < 154 by decide) hS.1.1) (Nat.le_of_ble_eq_true rfl) (Nat.le_of_ble_eq_true rfl) rfl ?_
    refine y_nez (fun c3 => ?_) (fun c3 => ?_)
    · rw [if_neg c3] at h
      refine y_blk (t := 13) rfl (show fnd bk_X13_needs 13 = some _ from rfl) aB_X13_needs ?_
      refine wp_aload_n (v := ((138 : Nat) : Int)) rfl (Int.natCast_nonneg _) ?_
      obtain ⟨x4, e5, h⟩ := d_bind h
      obtain ⟨r6, s7⟩ := t_X13_goesOn hS e5
      refine y_callVv (as := []) (S1 := []) (Nat.le_of_ble_eq_true rfl) (by omega) r6 rfl (show ash 138 = (13, 38) from rfl) (Nat.lt_of_lt_of_le (show 138 < 154 by decide) hS.1.1) (Nat.le_of_ble_eq_true rfl) (Nat.le_of_ble_eq_true rfl) rfl ?_
      cases h
      exact wp_return ⟨rfl, rfl, s7⟩
    · rw [if_pos c3] at h
      refine wp_aload_n (v := ((138 : Nat) : Int)) rfl (Int.natCast_nonneg _) ?_
      refine wp_iconst ⟨by decide, by decide⟩ ?_
      obtain ⟨x8, e9, h⟩ := d_bind h
      obtain ⟨r10, s11⟩ := t_X13_flaw hS e9
      refine y_callVv (as := [(0, 1)]) (S1 := []) (Nat.le_of_ble_eq_true rfl) (by omega) r10 rfl (show ash 138 = (13, 38) from rfl) (Nat.lt_of_lt_of_le (show 138 < 154 by decide) hS.1.1) (Nat.le_of_ble_eq_true rfl) (Nat.le_of_ble_eq_true rfl) rfl ?_
      refine y_blk (t := 13) rfl (show fnd bk_X13_needs 13 = some _ from rfl) aB_X13_needs ?_
      refine wp_aload_n (v := ((138 : Nat) : Int)) rfl (Int.natCast_nonneg _) ?_
      obtain ⟨x12, e13, h⟩ := d_bind h
      obtain ⟨r14, s15⟩ := t_X13_goesOn s11 e13
      refine y_callVv (as := []) (S1 := []) (Nat.le_of_ble_eq_true rfl) (by omega) r14 rfl (show ash 138 = (13, 38) from rfl) (Nat.lt_of_lt_of_le (show 138 < 154 by decide) hS.1.1) (Nat.le_of_ble_eq_true rfl) (Nat.le_of_ble_eq_true rfl) rfl ?_
      cases h
      exact wp_return ⟨rfl, rfl, s15⟩
  exact ⟨fun d hd => Ms.of3 (key d hd), Ms.sh (key 6 (Nat.le_refl _))⟩
theorem aB_X13_readPart : ∀ pc, aB 216 pc = fnd bk_X13_readPart pc := fun _ => rfl
def b_X13_readPart_38 (T : Nat) (v2 : Int) (M : aM) : Option (Int × aM) :=
 if (M 138 9) = 5 then
 (f_X13_goesOn T M).bind fun x14 =>
 some (v2, x14.2) else
 (f_X13_goesOn T M).bind fun x10 =>
 some ((M 138 11), x10.2)
theorem tb_X13_readPart_38 {d : Nat} (hd : 7 ≤ d) {T : T3} {v2 : Int} {u1 u3 u4 : aV} {M : aM} {y : (Int × aM)}  (hS : Sh T.1 M) (h : b_X13_readPart_38 T.1 v2 M = some y) : Wp d 216 38 [] [(2, ((138 : Nat) : Int)), u1, (0, v2), u3, u4] [] (M, T) (fun r2 σ2 => r2 = some (0, y.1) ∧ σ2 = (y.2, T) ∧ Sh T.1 y.2) := by
  rw [b_X13_readPart_38] at h
  refine y_blk (t := 38) rfl (show fnd bk_X13_readPart 38 = some _ from rfl) aB_X13_readPart ?_
  refine wp_aload_n (v := ((138 : Nat) : Int)) rfl (Int.natCast_nonneg _) ?_
  refine y_get (show ash 138 = (13, 38) from rfl) (Nat.lt_of_lt_of_le (show 138 < 154 by decide) hS.1.1) (v := M 138 9) rfl rfl ?_
  refine wp_iconst ⟨by decide, by decide⟩ ?_
  refine y_ne (fun c9 => ?_) (fun c9 => ?_)
  · rw [if_neg c9] at h
    refine y_blk (t := 50) rfl (show fnd bk_X13_readPart 50 = some _ from rfl) aB_X13_readPart ?_
    refine wp_aload_n (v := ((138 : Nat) : Int)) rfl (Int.natCast_nonneg _) ?_
    refine y_get (show ash 138 = (13, 38) from rfl) (Nat.lt_of_lt_of_le (show 138 < 154 by decide) hS.1.1) (v := M 138 11) rfl rfl ?_
    refine y_blk (t := 54) rfl (show fnd bk_X13_readPart 54 = some _ from rfl) aB_X13_readPart ?_
    refine y_st (L1 := [(2, ((138 : Nat) : Int)), u1, (0, v2), (ajk u3), (0, (M 138 11))]) (Nat.le_of_ble_eq_true rfl) (aset_jk (q := 3) (u := u3) rfl) ?_
    refine wp_aload_n (v := ((138 : Nat) : Int)) rfl (Int.natCast_nonneg _) ?_
    obtain ⟨x10, e11, h⟩ := d_bind h
    obtain ⟨r12, s13⟩ := t_X13_goesOn hS e11
    refine y_callVv (as := []) (S1 := []) (Nat.le_of_ble_eq_true rfl) (by omega) r12 rfl (show ash 138 = (13, 38) from rfl) (Nat.lt_of_lt_of_le (show 138 < 154 by decide) hS.1.1) (Nat.le_of_ble_eq_true rfl) (Nat.le_of_ble_eq_true rfl) rfl ?_
    refine wp_iload (v := (M 138 11)) rfl ?_
    cases h
    exact y_ret0 (Or.inl rfl) ⟨rfl, rfl, s13⟩
  · rw [if_pos c9] at h
    refine wp_iload_n (v := v2) rfl ?_
    refine wp_goto ?_
    refine y_blk (t := 54) rfl (show fnd bk_X13_readPart 54 = some _ from rfl) aB_X13_readPart ?_
    refine y_st (L1 := [(2, ((138 : Nat) : Int)), u1, (0, v2), (ajk u3), (0, v2)]) (Nat.le_of_ble_eq_true rfl) (aset_jk (q := 3) (u := u3) rfl) ?_
    refine wp_aload_n (v := ((138 : Nat) : Int)) rfl (Int.natCast_nonneg _) ?_
    obtain ⟨x14, e15, h⟩ := d_bind h
    obtain ⟨r16, s17⟩ := t_X13_goesOn hS e15
    refine y_callVv (as := []) (S1 := []) (Nat.le_of_ble_eq_true rfl) (by omega) r16 rfl (show ash 138 = (13, 38) from rfl) (Nat.lt_of_lt_of_le (show 138 < 154 by decide) hS.1.1) (Nat.le_of_ble_eq_true rfl) (Nat.le_of_ble_eq_true rfl) rfl ?_
    refine wp_iload (v := v2) rfl ?_
    cases h
    exact y_ret0 (Or.inl rfl) ⟨rfl, rfl, s17⟩
def f_X13_readPart (T : Nat) (v1 : Int) (v2 : Int) (v3 : Int) (M : aM) : Option (Int × aM) :=
 if 0 ≤ v1 then
 (f_X13_needs T v1 M).bind fun x1 =>
 if (x1.2 138 9) = 3 then
 (f_X13_in T (x1.2 138 11) v2 v3 x1.2).bind fun x6 =>
 if x6 = 0 then
 (f_X13_flaw T 4 x1.2).bind fun x18 =>
 b_X13_readPart_38 T v2 x18.2 else
 b_X13_readPart_38 T v2 x1.2 else
 (f_X13_flaw T 1 x1.2).bind fun x22 =>
 b_X13_readPart_38 T v2 x22.2 else none
theorem t_X13_readPart {T : T3} {v1 : Int} {v2 : Int} {v3 : Int} {M : aM} {y : (Int × aM)}  (hS : Sh T.1 M) (h : f_X13_readPart T.1 v1 v2 v3 M = some y) : Mr 7 216 [(2, ((138 : Nat) : Int)), (2, v1), (0, v2), (0, v3)] M (some (0, y.1)) y.2 T ∧ Sh T.1 y.2 := by
  have key : ∀ d, 7 ≤ d → Wp d 216 0 [] [(2, ((138 : Nat) : Int)), (2, v1), (0, v2), (0, v3), (9, 0)] [] (M, T) (fun r2 σ2 => r2 = some (0, y.1) ∧ σ2 = (y.2, T) ∧ Sh T.1 y.2) := by
    intro d hd
    rw [f_X13_readPart] at h
    obtain ⟨hsv1, h⟩ := d_ite h
    refine y_blk (t := 0) rfl (show fnd bk_X13_readPart 0 = some _ from rfl) aB_X13_readPart ?_
    refine wp_aload_n (v := ((138 : Nat) : Int)) rfl (Int.natCast_nonneg _) ?_
    refine wp_aload_n (v := v1) rfl (by omega) ?_
    obtain ⟨x1, e2, h⟩ := d_bind h
    obtain ⟨r3, s4⟩ := t_X13_needs hS e2
    refine y_callVv (as := [(2, v1)]) (S1 := []) (Nat.le_of_ble_eq_true rfl) (by omega) r3 rfl (show ash 138 = (13, 38) from rfl) (Nat.lt_of_lt_of_le (show 138 < 154 by decide) hS.1.1) (Nat.le_of_ble_eq_true rfl) (Nat.le_of_ble_eq_true rfl) rfl ?_
    refine wp_aload_n (v := ((138 : Nat) : Int)) rfl (Int.natCast_nonneg _) ?_
    refine y_get (show ash 138 = (13, 38) from rfl) (Nat.lt_of_lt_of_le (show 138 < 154 by decide) hS.1.1) (v := x1.2 138 9) rfl rfl ?_
    refine wp_iconst ⟨by decide, by decide⟩ ?_
    refine wp_icmp_eq (fun c5 => ?_) (fun c5 => ?_)
    · rw [if_pos c5] at h
      refine y_blk (t := 21) rfl (show fnd bk_X13_readPart 21 = some _ from rfl) aB_X13_readPart ?_
      refine wp_aload_n (v := ((138 : Nat) : Int)) rfl (Int.natCast_nonneg _) ?_
      refine y_get (show ash 138 = (13, 38) from rfl) (Nat.lt_of_lt_of_le (show 138 < 154 by decide) hS.1.1) (v := x1.2 138 11) rfl rfl ?_
      refine wp_iload_n (v := v2) rfl ?_
      refine wp_iload_n (v := v3) rfl ?_
      obtain ⟨x6, e7, h⟩ := d_bind h
      refine y_callS (as := [(0, (x1.2 138 11)), (0, v2), (0, v3)]) (S1 := []) (Nat.le_of_ble_eq_true rfl) (by omega) (t_X13_in s4 e7) (Nat.le_of_ble_eq_true rfl) rfl (Nat.le_of_ble_eq_true rfl) (Nat.le_of_ble_eq_true rfl) rfl ?_
      refine y_nez (fun c8 => ?_) (fun c8 => ?_)
      · rw [if_neg c8] at h
        exact tb_X13_readPart_38 hd s4 h
      · rw [if_pos c8] at h
        refine wp_aload_n (v := ((138 : Nat) : Int)) rfl (Int.natCast_nonneg _) ?_
        refine wp_iconst ⟨by decide, by decide⟩ ?_
        obtain ⟨x18, e19, h⟩ := d_bind h
        obtain ⟨r20, s21⟩ := t_X13_flaw s4 e19
        refine y_callVv (as := [(0, 4)]) (S1 := []) (Nat.le_of_ble_eq_true rfl) (by omega) r20 rfl (show ash 138 = (13, 38) from rfl) (Nat.lt_of_lt_of_le (show 138 < 154 by decide) hS.1.1) (Nat.le_of_ble_eq_true rfl) (Nat.le_of_ble_eq_true rfl) rfl ?_
        exact tb_X13_readPart_38 hd s21 h
    · rw [if_neg c5] at h
      refine wp_aload_n (v := ((138 : Nat) : Int)) rfl (Int.natCast_nonneg _) ?_
      refine wp_iconst ⟨by decide, by decide⟩ ?_
      obtain ⟨x22, e23, h⟩ := d_bind h
      obtain ⟨r24, s25⟩ := t_X13_flaw s4 e23
      refine y_callVv (as := [(0, 1)]) (S1 := []) (Nat.le_of_ble_eq_true rfl) (by omega) r24 rfl (show ash 138 = (13, 38) from rfl) (Nat.lt_of_lt_of_le (show 138 < 154 by decide) hS.1.1) (Nat.le_of_ble_eq_true rfl) (Nat.le_of_ble_eq_true rfl) rfl ?_
      refine wp_goto ?_
      exact tb_X13_readPart_38 hd s25 h
  exact ⟨fun d hd => Ms.of3 (key d hd), Ms.sh (key 7 (Nat.le_refl _))⟩
theorem aB_X13_isName : ∀ pc, aB 217 pc = fnd bk_X13_isName pc := fun _ => rfl
def f_X13_isName (T : Nat)  (M : aM) : Option Int :=
 if (M 138 9) = 2 then
 (f_X13_isWord T 2000024 M).bind fun x2 =>
 if x2 = 0 then
 (f_X13_isWord T 2000025 M).bind fun x5 =>
 if x5 = 0 then
 (f_X13_isWord T 2000026 M).bind fun x8 =>
 if x8 = 0 then
 (f_X13_isWord T 2000027 M).bind fun x11 =>
 if x11 = 0 then
 (f_X13_isWord T 2000028 M).bind fun x14 =>
 if x14 = 0 then
 (f_X13_isWord T 2000029 M).bind fun x17 =>
 if x17 = 0 then
 (f_X13_isWord T 2000030 M).bind fun x20 =>
 if x20 = 0 then
 (f_X13_isWord T 2000031 M).bind fun x23 =>
 if x23 = 0 then
 some 1 else
 some 0 else
 some 0 else
 some 0 else
 some 0 else
 some 0 else
 some 0 else
 some 0 else
 some 0 else
 some 0
theorem t_X13_isName {T : T3}  {M : aM} {y : Int}  (hS : Sh T.1 M) (h : f_X13_isName T.1  M = some y) : Mr 6 217 [(2, ((138 : Nat) : Int))] M (some (0, y)) M T := by
  have key : ∀ d, 6 ≤ d → Wp d 217 0 [] [(2, ((138 : Nat) : Int))] [] (M, T) (fun r2 σ2 => r2 = some (0, y) ∧ σ2 = (M, T)) := by
    intro d hd
    rw [f_X13_isName] at h
    refine y_blk (t := 0) rfl (show fnd bk_X13_isName 0 = some _ from rfl) aB_X13_isName ?_
    refine wp_aload_n (v := ((138 : Nat) : Int)) rfl (Int.natCast_nonneg _) ?_
    refine y_get (show ash 138 = (13, 38) from rfl) (Nat.lt_of_lt_of_le (show 138 < 154 by decide) hS.1.1) (v := M 138 9) rfl rfl ?_
    refine wp_iconst ⟨by decide, by decide⟩ ?_
    refine y_ne (fun c1 => ?_) (fun c1 => ?_)
    · rw [if_neg c1] at h
      refine y_blk (t := 44) rfl (show fnd bk_X13_isName 44 = some _ from rfl) aB_X13_isName ?_
      refine wp_iconst ⟨by decide, by decide⟩ ?_
      cases h
      exact y_ret0 (Or.inr (Or.inl rfl)) ⟨rfl, rfl⟩
    · rw [if_pos c1] at h
      refine wp_aload_n (v := ((138 : Nat) : Int)) rfl (Int.natCast_nonneg _) ?_
      refine y_ldcS (v := 2000024) rfl ?_
      obtain ⟨x2, e3, h⟩ := d_bind h
      refine y_callV (as := [(2, 2000024)]) (S1 := []) (Nat.le_of_ble_eq_true rfl) (by omega) (t_X13_isWord hS e3) (Nat.le_of_ble_eq_true rfl) rfl (show ash 138 = (13, 38) from rfl) (Nat.lt_of_lt_of_le (show 138 < 154 by decide) hS.1.1) (Nat.le_of_ble_eq_true rfl) (Nat.le_of_ble_eq_true rfl) rfl ?_
      refine y_nez (fun c4 => ?_) (fun c4 => ?_)
      · rw [if_neg c4] at h
        refine y_blk (t := 44) rfl (show fnd bk_X13_isName 44 = some _ from rfl) aB_X13_isName ?_
        refine wp_iconst ⟨by decide, by decide⟩ ?_
        cases h
        exact y_ret0 (Or.inr (Or.inl rfl)) ⟨rfl, rfl⟩
      · rw [if_pos c4] at h
        refine wp_aload_n (v := ((138 : Nat) : Int)) rfl (Int.natCast_nonneg _) ?_
        refine y_ldcS (v := 2000025) rfl ?_
        obtain ⟨x5, e6, h⟩ := d_bind h
        refine y_callV (as := [(2, 2000025)]) (S1 := []) (Nat.le_of_ble_eq_true rfl) (by omega) (t_X13_isWord hS e6) (Nat.le_of_ble_eq_true rfl) rfl (show ash 138 = (13, 38) from rfl) (Nat.lt_of_lt_of_le (show 138 < 154 by decide) hS.1.1) (Nat.le_of_ble_eq_true rfl) (Nat.le_of_ble_eq_true rfl) rfl ?_
        refine y_nez (fun c7 => ?_) (fun c7 => ?_)
        · rw [if_neg c7] at h
          refine y_blk (t := 44) rfl (show fnd bk_X13_isName 44 = some _ from rfl) aB_X13_isName ?_
          refine wp_iconst ⟨by decide, by decide⟩ ?_
          cases h
          exact y_ret0 (Or.inr (Or.inl rfl)) ⟨rfl, rfl⟩
        · rw [if_pos c7] at h
          refine wp_aload_n (v := ((138 : Nat) : Int)) rfl (Int.natCast_nonneg _) ?_
          refine y_ldcS (v := 2000026) rfl ?_
          obtain ⟨x8, e9, h⟩ := d_bind h
          refine y_callV (as := [(2, 2000026)]) (S1 := []) (Nat.le_of_ble_eq_true rfl) (by omega) (t_X13_isWord hS e9) (Nat.le_of_ble_eq_true rfl) rfl (show ash 138 = (13, 38) from rfl) (Nat.lt_of_lt_of_le (show 138 < 154 by decide) hS.1.1) (Nat.le_of_ble_eq_true rfl) (Nat.le_of_ble_eq_true rfl) rfl ?_
          refine y_nez (fun c10 => ?_) (fun c10 => ?_)
          · rw [if_neg c10] at h
            refine y_blk (t := 44) rfl (show fnd bk_X13_isName 44 = some _ from rfl) aB_X13_isName ?_
            refine wp_iconst ⟨by decide, by decide⟩ ?_
            cases h
            exact y_ret0 (Or.inr (Or.inl rfl)) ⟨rfl, rfl⟩
          · rw [if_pos c10] at h
            refine wp_aload_n (v := ((138 : Nat) : Int)) rfl (Int.natCast_nonneg _) ?_
            refine y_ldcS (v := 2000027) rfl ?_
            obtain ⟨x11, e12, h⟩ := d_bind h
            refine y_callV (as := [(2, 2000027)]) (S1 := []) (Nat.le_of_ble_eq_true rfl) (by omega) (t_X13_isWord hS e12) (Nat.le_of_ble_eq_true rfl) rfl (show ash 138 = (13, 38) from rfl) (Nat.lt_of_lt_of_le (show 138 < 154 by decide) hS.1.1) (Nat.le_of_ble_eq_true rfl) (Nat.le_of_ble_eq_true rfl) rfl ?_
            refine wp_if_eq (fun c13 => ?_) (fun c13 => ?_)
            · rw [if_pos c13] at h
              refine y_blk (t := 46) rfl (show fnd bk_X13_isName 46 = some _ from rfl) aB_X13_isName ?_
              refine wp_aload_n (v := ((138 : Nat) : Int)) rfl (Int.natCast_nonneg _) ?_
              refine y_ldcS (v := 2000028) rfl ?_
              obtain ⟨x14, e15, h⟩ := d_bind h
              refine y_callV (as := [(2, 2000028)]) (S1 := []) (Nat.le_of_ble_eq_true rfl) (by omega) (t_X13_isWord hS e15) (Nat.le_of_ble_eq_true rfl) rfl (show ash 138 = (13, 38) from rfl) (Nat.lt_of_lt_of_le (show 138 < 154 by decide) hS.1.1) (Nat.le_of_ble_eq_true rfl) (Nat.le_of_ble_eq_true rfl) rfl ?_
              refine y_nez (fun c16 => ?_) (fun c16 => ?_)
              · rw [if_neg c16] at h
                refine y_blk (t := 86) rfl (show fnd bk_X13_isName 86 = some _ from rfl) aB_X13_isName ?_
                refine wp_iconst ⟨by decide, by decide⟩ ?_
                refine y_blk (t := 87) rfl (show fnd bk_X13_isName 87 = some _ from rfl) aB_X13_isName ?_
                cases h
                exact y_ret0 (Or.inr (Or.inl rfl)) ⟨rfl, rfl⟩
              · rw [if_pos c16] at h
                refine wp_aload_n (v := ((138 : Nat) : Int)) rfl (Int.natCast_nonneg _) ?_
                refine y_ldcS (v := 2000029) rfl ?_
                obtain ⟨x17, e18, h⟩ := d_bind h
                refine y_callV (as := [(2, 2000029)]) (S1 := []) (Nat.le_of_ble_eq_true rfl) (by omega) (t_X13_isWord hS e18) (Nat.le_of_ble_eq_true rfl) rfl (show ash 138 = (13, 38) from rfl) (Nat.lt_of_lt_of_le (show 138 < 154 by decide) hS.1.1) (Nat.le_of_ble_eq_true rfl) (Nat.le_of_ble_eq_true rfl) rfl ?_
                refine y_nez (fun c19 => ?_) (fun c19 => ?_)
                · rw [if_neg c19] at h
                  refine y_blk (t := 86) rfl (show fnd bk_X13_isName 86 = some _ from rfl) aB_X13_isName ?_
                  refine wp_iconst ⟨by decide, by decide⟩ ?_
                  refine y_blk (t := 87) rfl (show fnd bk_X13_isName 87 = some _ from rfl) aB_X13_isName ?_
                  cases h
                  exact y_ret0 (Or.inr (Or.inl rfl)) ⟨rfl, rfl⟩
                · rw [if_pos c19] at h
                  refine wp_aload_n (v := ((138 : Nat) : Int)) rfl (Int.natCast_nonneg _) ?_
                  refine y_ldcS (v := 2000030) rfl ?_
                  obtain ⟨x20, e21, h⟩ := d_bind h
                  refine y_callV (as := [(2, 2000030)]) (S1 := []) (Nat.le_of_ble_eq_true rfl) (by omega) (t_X13_isWord hS e21) (Nat.le_of_ble_eq_true rfl) rfl (show ash 138 = (13, 38) from rfl) (Nat.lt_of_lt_of_le (show 138 < 154 by decide) hS.1.1) (Nat.le_of_ble_eq_true rfl) (Nat.le_of_ble_eq_true rfl) rfl ?_
                  refine y_nez (fun c22 => ?_) (fun c22 => ?_)
                  · rw [if_neg c22] at h
                    refine y_blk (t := 86) rfl (show fnd bk_X13_isName 86 = some _ from rfl) aB_X13_isName ?_
                    refine wp_iconst ⟨by decide, by decide⟩ ?_
                    refine y_blk (t := 87) rfl (show fnd bk_X13_isName 87 = some _ from rfl) aB_X13_isName ?_
                    cases h
                    exact y_ret0 (Or.inr (Or.inl rfl)) ⟨rfl, rfl⟩
                  · rw [if_pos c22] at h
                    refine wp_aload_n (v := ((138 : Nat) : Int)) rfl (Int.natCast_nonneg _) ?_
                    refine y_ldcS (v := 2000031) rfl ?_
                    obtain ⟨x23, e24, h⟩ := d_bind h
                    refine y_callV (as := [(2, 2000031)]) (S1 := []) (Nat.le_of_ble_eq_true rfl) (by omega) (t_X13_isWord hS e24) (Nat.le_of_ble_eq_true rfl) rfl (show ash 138 = (13, 38) from rfl) (Nat.lt_of_lt_of_le (show 138 < 154 by decide) hS.1.1) (Nat.le_of_ble_eq_true rfl) (Nat.le_of_ble_eq_true rfl) rfl ?_
                    refine y_nez (fun c25 => ?_) (fun c25 => ?_)
                    · rw [if_neg c25] at h
                      refine y_blk (t := 86) rfl (show fnd bk_X13_isName 86 = some _ from rfl) aB_X13_isName ?_
                      refine wp_iconst ⟨by decide, by decide⟩ ?_
                      refine y_blk (t := 87) rfl (show fnd bk_X13_isName 87 = some _ from rfl) aB_X13_isName ?_
                      cases h
                      exact y_ret0 (Or.inr (Or.inl rfl)) ⟨rfl, rfl⟩
                    · rw [if_pos c25] at h
                      refine wp_iconst ⟨by decide, by decide⟩ ?_
                      refine wp_goto ?_
                      refine y_blk (t := 87) rfl (show fnd bk_X13_isName 87 = some _ from rfl) aB_X13_isName ?_
                      cases h
                      exact y_ret0 (Or.inr (Or.inr rfl)) ⟨rfl, rfl⟩
            · rw [if_neg c13] at h
              refine y_blk (t := 44) rfl (show fnd bk_X13_isName 44 = some _ from rfl) aB_X13_isName ?_
              refine wp_iconst ⟨by decide, by decide⟩ ?_
              cases h
              exact y_ret0 (Or.inr (Or.inl rfl)) ⟨rfl, rfl⟩
  exact fun d hd => Ms.of (key d hd)

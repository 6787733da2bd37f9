/-! ===== methods as functions ===== -/
theorem aB_X13_chases : ∀ pc, aB 304 pc = fnd bk_X13_chases pc := fun _ => rfl
def l_X13_chases_6 (T : Nat)  (k : Int → aM → Option (Int × aM)) : Nat → Int → aM → Option (Int × aM)
| 0, _, _ => none
| n + 1, v1, M =>
 if 64 ≤ v1 then
 k v1 M else
 if (adiv v1 8) = (arem v1 8) then
 if 0 ≤ v1 ∧ v1 < 64 then
 (some (aup M 152 (v1).toNat 0)).bind fun m12 =>
 if aIn (v1 + 1) then
 l_X13_chases_6 T k n (v1 + 1) m12 else none else none else
 if 0 ≤ v1 ∧ v1 < 64 then
 (some (aup M 152 (v1).toNat 9999)).bind fun m8 =>
 if aIn (v1 + 1) then
 l_X13_chases_6 T k n (v1 + 1) m8 else none else none
theorem tl_X13_chases_6 {d : Nat} (hd : 3 ≤ d) {T : T3}  {k : Int → aM → Option (Int × aM)} {y : (Int × aM)}  {M0 : aM} (hS : Sh T.1 M0)
    (hk : ∀ (v1 : Int) (u2 u3 u4 : aV) (M : aM), Sh T.1 M → k v1 M = some y → Wp d 304 42 [] [(2, ((138 : Nat) : Int)), (0, v1), u2, u3, u4] [] (M, T) (fun r2 σ2 => r2 = none ∧ σ2 = (y.2, T) ∧ Sh T.1 y.2)) :
    ∀ (n : Nat) (v1 : Int) (u2 u3 u4 : aV) (M : aM), Sh T.1 M → l_X13_chases_6 T.1 k n v1 M = some y → Wp d 304 6 [] [(2, ((138 : Nat) : Int)), (0, v1), u2, u3, u4] [] (M, T) (fun r2 σ2 => r2 = none ∧ σ2 = (y.2, T) ∧ Sh T.1 y.2) := by
  intro n
  induction n with
  | zero =>
    intro v1 u2 u3 u4 M _ h
    exact nomatch (show (none : Option (Int × aM)) = some y from h)
  | succ n ih =>
    intro v1 u2 u3 u4 M sM h
    rw [l_X13_chases_6] at h
    refine y_blk (t := 6) rfl (show fnd bk_X13_chases 6 = some _ from rfl) aB_X13_chases ?_
    refine wp_iload_n (v := v1) rfl ?_
    refine wp_bipush (by decide) ?_
    refine wp_icmp_ge (fun c5 => ?_) (fun c5 => ?_)
    · rw [if_pos c5] at h
      exact hk v1 u2 u3 u4 M sM h
    · rw [if_neg c5] at h
      refine wp_aload_n (v := ((138 : Nat) : Int)) rfl (Int.natCast_nonneg _) ?_
      refine y_get (show ash 138 = (13, 38) from rfl) (Nat.lt_of_lt_of_le (show 138 < 154 by decide) hS.1.1) (v := ((152 : Nat) : Int)) (sM.at 138 35 152 (by decide +kernel)) rfl ?_
      refine wp_iload_n (v := v1) rfl ?_
      refine wp_iload_n (v := v1) rfl ?_
      refine wp_bipush (by decide) ?_
      refine wp_idiv (by decide) ?_
      refine wp_iload_n (v := v1) rfl ?_
      refine wp_bipush (by decide) ?_
      refine wp_irem (by decide) ?_
      refine y_ne (fun c6 => ?_) (fun c6 => ?_)
      · rw [if_neg c6] at h
        refine y_blk (t := 32) rfl (show fnd bk_X13_chases 32 = some _ from rfl) aB_X13_chases ?_
        refine wp_sipush (by decide) ?_
        refine y_blk (t := 35) rfl (show fnd bk_X13_chases 35 = some _ from rfl) aB_X13_chases ?_
        obtain ⟨c7, h⟩ := d_ite h
        refine y_iast (show ash 152 = (100, 64) from rfl) (Nat.lt_of_lt_of_le (show 152 < 154 by decide) hS.1.1) c7 ?_
        obtain ⟨m8, em8, h⟩ := d_bind h
        have em8 := Option.some.inj em8
        have s9 : Sh T.1 m8 := em8 ▸ sM.up (Or.inl ⟨by rw [(show ash 152 = (100, 64) from rfl)]; exact Nat.le_of_ble_eq_true rfl, by rw [(show ash 152 = (100, 64) from rfl)]; exact Nat.le_of_ble_eq_true rfl⟩) (by have := (Nat.lt_of_lt_of_le (show 152 < 154 by decide) hS.1.1); have := hS.1.2; omega)
        rw [em8]
        obtain ⟨c10, h⟩ := d_ite h
        refine y_iinc (L1 := [(2, ((138 : Nat) : Int)), (0, (v1 + 1)), u2, u3, u4]) rfl (Nat.le_of_ble_eq_true rfl) ⟨by decide, by decide⟩ c10 rfl ?_
        refine wp_goto ?_
        exact ih (v1 + 1) u2 u3 u4 m8 s9 h
      · rw [if_pos c6] at h
        refine wp_iconst ⟨by decide, by decide⟩ ?_
        refine wp_goto ?_
        refine y_blk (t := 35) rfl (show fnd bk_X13_chases 35 = some _ from rfl) aB_X13_chases ?_
        obtain ⟨c11, h⟩ := d_ite h
        refine y_iast (show ash 152 = (100, 64) from rfl) (Nat.lt_of_lt_of_le (show 152 < 154 by decide) hS.1.1) c11 ?_
        obtain ⟨m12, em12, h⟩ := d_bind h
        have em12 := Option.some.inj em12
        have s13 : Sh T.1 m12 := em12 ▸ sM.up (Or.inl ⟨by rw [(show ash 152 = (100, 64) from rfl)]; exact Nat.le_of_ble_eq_true rfl, by rw [(show ash 152 = (100, 64) from rfl)]; exact Nat.le_of_ble_eq_true rfl⟩) (by have := (Nat.lt_of_lt_of_le (show 152 < 154 by decide) hS.1.1); have := hS.1.2; omega)
        rw [em12]
        obtain ⟨c14, h⟩ := d_ite h
        refine y_iinc (L1 := [(2, ((138 : Nat) : Int)), (0, (v1 + 1)), u2, u3, u4]) rfl (Nat.le_of_ble_eq_true rfl) ⟨by decide, by decide⟩ c14 rfl ?_
        refine wp_goto ?_
        exact ih (v1 + 1) u2 u3 u4 m12 s13 h
def l_X13_chases_79 (T : Nat) (v2 : Int) (v3 : Int) (k : Int → Int → aM → Option (Int × aM)) : Nat → Int → Int → aM → Option (Int × aM)
| 0, _, _, _ => none
| n + 1, v1, v4, M =>
 if okW T (M 138 3) then
 if (M (M 138 3).toNat 3) ≤ v4 then
 k v1 v4 M else
 if v2 = v3 then
 k v1 v4 M else
 (f_X13_mayGo T v2 v4 M).bind fun x29 =>
 if x29 = 0 then
 if aIn (v4 + 1) then
 l_X13_chases_79 T v2 v3 k n v1 (v4 + 1) M else none else
 (f_X13_worst T v4 v3 M).bind fun x33 =>
 if 9999 ≤ x33 then
 if aIn (v4 + 1) then
 l_X13_chases_79 T v2 v3 k n v1 (v4 + 1) M else none else
 (f_X13_worst T v4 v3 M).bind fun x37 =>
 if aIn (x37 + 1) then
 if aIn (8 * v2) then
 if aIn ((8 * v2) + v3) then
 if 0 ≤ ((8 * v2) + v3) ∧ ((8 * v2) + v3) < 64 then
 if (x37 + 1) < (M 152 (((8 * v2) + v3)).toNat) then
 (f_X13_worst T v4 v3 M).bind fun x44 =>
 if aIn (x44 + 1) then
 (some (aup M 152 (((8 * v2) + v3)).toNat (x44 + 1))).bind fun m47 =>
 if aIn (v4 + 1) then
 l_X13_chases_79 T v2 v3 k n 1 (v4 + 1) m47 else none else none else
 if aIn (v4 + 1) then
 l_X13_chases_79 T v2 v3 k n v1 (v4 + 1) M else none else none else none else none else none else none
theorem tl_X13_chases_79 {d : Nat} (hd : 3 ≤ d) {T : T3} {v2 : Int} {v3 : Int} {k : Int → Int → aM → Option (Int × aM)} {y : (Int × aM)}  {M0 : aM} (hS : Sh T.1 M0)
    (hk : ∀ (v1 v4 : Int) (M : aM), Sh T.1 M → k v1 v4 M = some y → Wp d 304 173 [] [(2, ((138 : Nat) : Int)), (0, v1), (0, v2), (0, v3), (0, v4)] [] (M, T) (fun r2 σ2 => r2 = none ∧ σ2 = (y.2, T) ∧ Sh T.1 y.2)) :
    ∀ (n : Nat) (v1 v4 : Int) (M : aM), Sh T.1 M → l_X13_chases_79 T.1 v2 v3 k n v1 v4 M = some y → Wp d 304 79 [] [(2, ((138 : Nat) : Int)), (0, v1), (0, v2), (0, v3), (0, v4)] [] (M, T) (fun r2 σ2 => r2 = none ∧ σ2 = (y.2, T) ∧ Sh T.1 y.2) := by
  intro n
  induction n with
  | zero =>
    intro v1 v4 M _ h
    exact nomatch (show (none : Option (Int × aM)) = some y from h)
  | succ n ih =>
    intro v1 v4 M sM h
    rw [l_X13_chases_79] at h
    refine y_blk (t := 79) rfl (show fnd bk_X13_chases 79 = some _ from rfl) aB_X13_chases ?_
    refine wp_iload (v := v4) rfl ?_
    refine wp_aload_n (v := ((138 : Nat) : Int)) rfl (Int.natCast_nonneg _) ?_
    obtain ⟨c26, h⟩ := d_ite h
    refine y_get (show ash 138 = (13, 38) from rfl) (Nat.lt_of_lt_of_le (show 138 < 154 by decide) hS.1.1) (v := (((M 138 3).toNat : Nat) : Int)) c26.eq rfl ?_
    refine y_get (aW0 hS.1.2 c26.is) (ltW c26.is 0 (by decide)) (v := M (M 138 3).toNat 3) rfl rfl ?_
    refine wp_icmp_ge (fun c27 => ?_) (fun c27 => ?_)
    · rw [if_pos c27] at h
      exact hk v1 v4  M sM h
    · rw [if_neg c27] at h
      refine wp_iload_n (v := v2) rfl ?_
      refine wp_iload_n (v := v3) rfl ?_
      refine wp_icmp_eq (fun c28 => ?_) (fun c28 => ?_)
      · rw [if_pos c28] at h
        exact hk v1 v4  M sM h
      · rw [if_neg c28] at h
        refine wp_aload_n (v := ((138 : Nat) : Int)) rfl (Int.natCast_nonneg _) ?_
        refine wp_iload_n (v := v2) rfl ?_
        refine wp_iload (v := v4) rfl ?_
        obtain ⟨x29, e30, h⟩ := d_bind h
        refine y_callV (as := [(0, v2), (0, v4)]) (S1 := []) (Nat.le_of_ble_eq_true rfl) (by omega) (t_X13_mayGo sM e30) (Nat.le_of_ble_eq_true rfl) rfl (show ash 138 = (13, 38) from rfl) (Nat.lt_of_lt_of_le (show 138 < 154 by decide) hS.1.1) (Nat.le_of_ble_eq_true rfl) (Nat.le_of_ble_eq_true rfl) rfl ?_
        refine wp_if_eq (fun c31 => ?_) (fun c31 => ?_)
        · rw [if_pos c31] at h
          refine y_blk (t := 167) rfl (show fnd bk_X13_chases 167 = some _ from rfl) aB_X13_chases ?_
          obtain ⟨c32, h⟩ := d_ite h
          refine y_iinc (L1 := [(2, ((138 : Nat) : Int)), (0, v1), (0, v2), (0, v3), (0, (v4 + 1))]) rfl (Nat.le_of_ble_eq_true rfl) ⟨by decide, by decide⟩ c32 rfl ?_
          refine wp_goto ?_
          exact ih v1 (v4 + 1)  M sM h
        · rw [if_neg c31] at h
          refine wp_aload_n (v := ((138 : Nat) : Int)) rfl (Int.natCast_nonneg _) ?_
          refine wp_iload (v := v4) rfl ?_
          refine wp_iload_n (v := v3) rfl ?_
          obtain ⟨x33, e34, h⟩ := d_bind h
          refine y_callV (as := [(0, v4), (0, v3)]) (S1 := []) (Nat.le_of_ble_eq_true rfl) (by omega) (t_X13_worst sM e34) (Nat.le_of_ble_eq_true rfl) rfl (show ash 138 = (13, 38) from rfl) (Nat.lt_of_lt_of_le (show 138 < 154 by decide) hS.1.1) (Nat.le_of_ble_eq_true rfl) (Nat.le_of_ble_eq_true rfl) rfl ?_
          refine wp_sipush (by decide) ?_
          refine wp_icmp_ge (fun c35 => ?_) (fun c35 => ?_)
          · rw [if_pos c35] at h
            refine y_blk (t := 167) rfl (show fnd bk_X13_chases 167 = some _ from rfl) aB_X13_chases ?_
            obtain ⟨c36, h⟩ := d_ite h
            refine y_iinc (L1 := [(2, ((138 : Nat) : Int)), (0, v1), (0, v2), (0, v3), (0, (v4 + 1))]) rfl (Nat.le_of_ble_eq_true rfl) ⟨by decide, by decide⟩ c36 rfl ?_
            refine wp_goto ?_
            exact ih v1 (v4 + 1)  M sM h
          · rw [if_neg c35] at h
            refine wp_aload_n (v := ((138 : Nat) : Int)) rfl (Int.natCast_nonneg _) ?_
            refine wp_iload (v := v4) rfl ?_
            refine wp_iload_n (v := v3) rfl ?_
            obtain ⟨x37, e38, h⟩ := d_bind h
            refine y_callV (as := [(0, v4), (0, v3)]) (S1 := []) (Nat.le_of_ble_eq_true rfl) (by omega) (t_X13_worst sM e38) (Nat.le_of_ble_eq_true rfl) rfl (show ash 138 = (13, 38) from rfl) (Nat.lt_of_lt_of_le (show 138 < 154 by decide) hS.1.1) (Nat.le_of_ble_eq_true rfl) (Nat.le_of_ble_eq_true rfl) rfl ?_
            refine wp_iconst ⟨by decide, by decide⟩ ?_
            obtain ⟨c39, h⟩ := d_ite h
            refine wp_iadd c39 ?_
            refine wp_aload_n (v := ((138 : Nat) : Int)) rfl (Int.natCast_nonneg _) ?_
            refine y_get (show ash 138 = (13, 38) from rfl) (Nat.lt_of_lt_of_le (show 138 < 154 by decide) hS.1.1) (v := ((152 : Nat) : Int)) (sM.at 138 35 152 (by decide +kernel)) rfl ?_
            refine wp_bipush (by decide) ?_
            refine wp_iload_n (v := v2) rfl ?_
            obtain ⟨c40, h⟩ := d_ite h
            refine wp_imul c40 ?_
            refine wp_iload_n (v := v3) rfl ?_
            obtain ⟨c41, h⟩ := d_ite h
            refine wp_iadd c41 ?_
            obtain ⟨c42, h⟩ := d_ite h
            refine y_iald (show ash 152 = (100, 64) from rfl) (Or.inl (Nat.lt_of_lt_of_le (show 152 < 154 by decide) hS.1.1)) (Nat.ne_of_lt (Nat.lt_of_lt_of_le (Nat.lt_of_lt_of_le (show 152 < 154 by decide) hS.1.1) hS.1.2)) c42 (v := M 152 (((8 * v2) + v3)).toNat) rfl ?_
            refine wp_icmp_lt (fun c43 => ?_) (fun c43 => ?_)
            · rw [if_pos c43] at h
              refine y_blk (t := 145) rfl (show fnd bk_X13_chases 145 = some _ from rfl) aB_X13_chases ?_
              refine wp_aload_n (v := ((138 : Nat) : Int)) rfl (Int.natCast_nonneg _) ?_
              refine y_get (show ash 138 = (13, 38) from rfl) (Nat.lt_of_lt_of_le (show 138 < 154 by decide) hS.1.1) (v := ((152 : Nat) : Int)) (sM.at 138 35 152 (by decide +kernel)) rfl ?_
              refine wp_bipush (by decide) ?_
              refine wp_iload_n (v := v2) rfl ?_
              refine wp_imul c40 ?_
              refine wp_iload_n (v := v3) rfl ?_
              refine wp_iadd c41 ?_
              refine wp_aload_n (v := ((138 : Nat) : Int)) rfl (Int.natCast_nonneg _) ?_
              refine wp_iload (v := v4) rfl ?_
              refine wp_iload_n (v := v3) rfl ?_
              obtain ⟨x44, e45, h⟩ := d_bind h
              refine y_callV (as := [(0, v4), (0, v3)]) (S1 := [(0, ((8 * v2) + v3)), (2, ((152 : Nat) : Int))]) (Nat.le_of_ble_eq_true rfl) (by omega) (t_X13_worst sM e45) (Nat.le_of_ble_eq_true rfl) rfl (show ash 138 = (13, 38) from rfl) (Nat.lt_of_lt_of_le (show 138 < 154 by decide) hS.1.1) (Nat.le_of_ble_eq_true rfl) (Nat.le_of_ble_eq_true rfl) rfl ?_
              refine wp_iconst ⟨by decide, by decide⟩ ?_
              obtain ⟨c46, h⟩ := d_ite h
              refine wp_iadd c46 ?_
              refine y_iast (show ash 152 = (100, 64) from rfl) (Nat.lt_of_lt_of_le (show 152 < 154 by decide) hS.1.1) c42 ?_
              obtain ⟨m47, em47, h⟩ := d_bind h
              have em47 := Option.some.inj em47
              have s48 : Sh T.1 m47 := em47 ▸ sM.up (Or.inl ⟨by rw [(show ash 152 = (100, 64) from rfl)]; exact Nat.le_of_ble_eq_true rfl, by rw [(show ash 152 = (100, 64) from rfl)]; exact Nat.le_of_ble_eq_true rfl⟩) (by have := (Nat.lt_of_lt_of_le (show 152 < 154 by decide) hS.1.1); have := hS.1.2; omega)
              rw [em47]
              refine wp_iconst ⟨by decide, by decide⟩ ?_
              refine y_stn (L1 := [(2, ((138 : Nat) : Int)), (0, 1), (0, v2), (0, v3), (0, v4)]) (Nat.le_of_ble_eq_true rfl) rfl ?_
              refine y_blk (t := 167) rfl (show fnd bk_X13_chases 167 = some _ from rfl) aB_X13_chases ?_
              obtain ⟨c49, h⟩ := d_ite h
              refine y_iinc (L1 := [(2, ((138 : Nat) : Int)), (0, 1), (0, v2), (0, v3), (0, (v4 + 1))]) rfl (Nat.le_of_ble_eq_true rfl) ⟨by decide, by decide⟩ c49 rfl ?_
              refine wp_goto ?_
              exact ih 1 (v4 + 1)  m47 s48 h
            · rw [if_neg c43] at h
              refine wp_goto ?_
              refine y_blk (t := 167) rfl (show fnd bk_X13_chases 167 = some _ from rfl) aB_X13_chases ?_
              obtain ⟨c50, h⟩ := d_ite h
              refine y_iinc (L1 := [(2, ((138 : Nat) : Int)), (0, v1), (0, v2), (0, v3), (0, (v4 + 1))]) rfl (Nat.le_of_ble_eq_true rfl) ⟨by decide, by decide⟩ c50 rfl ?_
              refine wp_goto ?_
              exact ih v1 (v4 + 1)  M sM h
def l_X13_chases_65 (T : Nat) (v2 : Int) (k : Int → Int → aM → Option (Int × aM)) : Nat → Int → Int → aM → Option (Int × aM)
| 0, _, _, _ => none
| n + 1, v1, v3, M =>
 if okW T (M 138 3) then
 if (M (M 138 3).toNat 3) ≤ v3 then
 k v1 v3 M else
 l_X13_chases_79 T v2 v3 (fun w51 w52 m53 =>
 if aIn (v3 + 1) then
 l_X13_chases_65 T v2 k n w51 (v3 + 1) m53 else none) FU v1 0 M else none
theorem tl_X13_chases_65 {d : Nat} (hd : 3 ≤ d) {T : T3} {v2 : Int} {k : Int → Int → aM → Option (Int × aM)} {y : (Int × aM)}  {M0 : aM} (hS : Sh T.1 M0)
    (hk : ∀ (v1 v3 : Int) (u4 : aV) (M : aM), Sh T.1 M → k v1 v3 M = some y → Wp d 304 179 [] [(2, ((138 : Nat) : Int)), (0, v1), (0, v2), (0, v3), u4] [] (M, T) (fun r2 σ2 => r2 = none ∧ σ2 = (y.2, T) ∧ Sh T.1 y.2)) :
    ∀ (n : Nat) (v1 v3 : Int) (u4 : aV) (M : aM), Sh T.1 M → l_X13_chases_65 T.1 v2 k n v1 v3 M = some y → Wp d 304 65 [] [(2, ((138 : Nat) : Int)), (0, v1), (0, v2), (0, v3), u4] [] (M, T) (fun r2 σ2 => r2 = none ∧ σ2 = (y.2, T) ∧ Sh T.1 y.2) := by
  intro n
  induction n with
  | zero =>
    intro v1 v3 u4 M _ h
    exact nomatch (show (none : Option (Int × aM)) = some y from h)
  | succ n ih =>
    intro v1 v3 u4 M sM h
    rw [l_X13_chases_65] at h
    refine y_blk (t := 65) rfl (show fnd bk_X13_chases 65 = some _ from rfl) aB_X13_chases ?_
    refine wp_iload_n (v := v3) rfl ?_
    refine wp_aload_n (v := ((138 : Nat) : Int)) rfl (Int.natCast_nonneg _) ?_
    obtain ⟨c24, h⟩ := d_ite h
    refine y_get (show ash 138 = (13, 38) from rfl) (Nat.lt_of_lt_of_le (show 138 < 154 by decide) hS.1.1) (v := (((M 138 3).toNat : Nat) : Int)) c24.eq rfl ?_
    refine y_get (aW0 hS.1.2 c24.is) (ltW c24.is 0 (by decide)) (v := M (M 138 3).toNat 3) rfl rfl ?_
    refine wp_icmp_ge (fun c25 => ?_) (fun c25 => ?_)
    · rw [if_pos c25] at h
      exact hk v1 v3 u4 M sM h
    · rw [if_neg c25] at h
      refine wp_iconst ⟨by decide, by decide⟩ ?_
      refine y_st (L1 := [(2, ((138 : Nat) : Int)), (0, v1), (0, v2), (0, v3), (0, 0)]) (Nat.le_of_ble_eq_true rfl) rfl ?_
      refine tl_X13_chases_79 (by omega) hS (fun w51 w52  m53 s54 h => ?_) FU v1 0  M sM h
      refine y_blk (t := 173) rfl (show fnd bk_X13_chases 173 = some _ from rfl) aB_X13_chases ?_
      obtain ⟨c55, h⟩ := d_ite h
      refine y_iinc (L1 := [(2, ((138 : Nat) : Int)), (0, w51), (0, v2), (0, (v3 + 1)), (0, w52)]) rfl (Nat.le_of_ble_eq_true rfl) ⟨by decide, by decide⟩ c55 rfl ?_
      refine wp_goto ?_
      exact ih w51 (v3 + 1) (0, w52) m53 s54 h
def l_X13_chases_52 (T : Nat)  (k : Int → Int → aM → Option (Int × aM)) : Nat → Int → Int → aM → Option (Int × aM)
| 0, _, _, _ => none
| n + 1, v1, v2, M =>
 if okW T (M 138 3) then
 if (M (M 138 3).toNat 3) ≤ v2 then
 k v1 v2 M else
 l_X13_chases_65 T v2 (fun w56 w57 m59 =>
 if aIn (v2 + 1) then
 l_X13_chases_52 T k n w56 (v2 + 1) m59 else none) FU v1 0 M else none
theorem tl_X13_chases_52 {d : Nat} (hd : 3 ≤ d) {T : T3}  {k : Int → Int → aM → Option (Int × aM)} {y : (Int × aM)}  {M0 : aM} (hS : Sh T.1 M0)
    (hk : ∀ (v1 v2 : Int) (u3 u4 : aV) (M : aM), Sh T.1 M → k v1 v2 M = some y → Wp d 304 185 [] [(2, ((138 : Nat) : Int)), (0, v1), (0, v2), u3, u4] [] (M, T) (fun r2 σ2 => r2 = none ∧ σ2 = (y.2, T) ∧ Sh T.1 y.2)) :
    ∀ (n : Nat) (v1 v2 : Int) (u3 u4 : aV) (M : aM), Sh T.1 M → l_X13_chases_52 T.1 k n v1 v2 M = some y → Wp d 304 52 [] [(2, ((138 : Nat) : Int)), (0, v1), (0, v2), u3, u4] [] (M, T) (fun r2 σ2 => r2 = none ∧ σ2 = (y.2, T) ∧ Sh T.1 y.2) := by
  intro n
  induction n with
  | zero =>
    intro v1 v2 u3 u4 M _ h
    exact nomatch (show (none : Option (Int × aM)) = some y from h)
  | succ n ih =>
    intro v1 v2 u3 u4 M sM h
    rw [l_X13_chases_52] at h
    refine y_blk (t := 52) rfl (show fnd bk_X13_chases 52 = some _ from rfl) aB_X13_chases ?_
    refine wp_iload_n (v := v2) rfl ?_
    refine wp_aload_n (v := ((138 : Nat) : Int)) rfl (Int.natCast_nonneg _) ?_
    obtain ⟨c22, h⟩ := d_ite h
    refine y_get (show ash 138 = (13, 38) from rfl) (Nat.lt_of_lt_of_le (show 138 < 154 by decide) hS.1.1) (v := (((M 138 3).toNat : Nat) : Int)) c22.eq rfl ?_
    refine y_get (aW0 hS.1.2 c22.is) (ltW c22.is 0 (by decide)) (v := M (M 138 3).toNat 3) rfl rfl ?_
    refine wp_icmp_ge (fun c23 => ?_) (fun c23 => ?_)
    · rw [if_pos c23] at h
      exact hk v1 v2 u3 u4 M sM h
    · rw [if_neg c23] at h
      refine wp_iconst ⟨by decide, by decide⟩ ?_
      refine y_stn (L1 := [(2, ((138 : Nat) : Int)), (0, v1), (0, v2), (0, 0), u4]) (Nat.le_of_ble_eq_true rfl) rfl ?_
      refine tl_X13_chases_65 (by omega) hS (fun w56 w57 u58 m59 s60 h => ?_) FU v1 0 u4 M sM h
      refine y_blk (t := 179) rfl (show fnd bk_X13_chases 179 = some _ from rfl) aB_X13_chases ?_
      obtain ⟨c61, h⟩ := d_ite h
      refine y_iinc (L1 := [(2, ((138 : Nat) : Int)), (0, w56), (0, (v2 + 1)), (0, w57), u58]) rfl (Nat.le_of_ble_eq_true rfl) ⟨by decide, by decide⟩ c61 rfl ?_
      refine wp_goto ?_
      exact ih w56 (v2 + 1) (0, w57) u58 m59 s60 h
def l_X13_chases_44 (T : Nat)  (k : Int → aM → Option (Int × aM)) : Nat → Int → aM → Option (Int × aM)
| 0, _, _ => none
| n + 1, v1, M =>
 if v1 = 0 then
 k v1 M else
 l_X13_chases_52 T (fun w62 w63 m66 =>
 l_X13_chases_44 T k n w62 m66) FU 0 0 M
theorem tl_X13_chases_44 {d : Nat} (hd : 3 ≤ d) {T : T3}  {k : Int → aM → Option (Int × aM)} {y : (Int × aM)}  {M0 : aM} (hS : Sh T.1 M0)
    (hk : ∀ (v1 : Int) (u2 u3 u4 : aV) (M : aM), Sh T.1 M → k v1 M = some y → Wp d 304 188 [] [(2, ((138 : Nat) : Int)), (0, v1), u2, u3, u4] [] (M, T) (fun r2 σ2 => r2 = none ∧ σ2 = (y.2, T) ∧ Sh T.1 y.2)) :
    ∀ (n : Nat) (v1 : Int) (u2 u3 u4 : aV) (M : aM), Sh T.1 M → l_X13_chases_44 T.1 k n v1 M = some y → Wp d 304 44 [] [(2, ((138 : Nat) : Int)), (0, v1), u2, u3, u4] [] (M, T) (fun r2 σ2 => r2 = none ∧ σ2 = (y.2, T) ∧ Sh T.1 y.2) := by
  intro n
  induction n with
  | zero =>
    intro v1 u2 u3 u4 M _ h
    exact nomatch (show (none : Option (Int × aM)) = some y from h)
  | succ n ih =>
    intro v1 u2 u3 u4 M sM h
    rw [l_X13_chases_44] at h
    refine y_blk (t := 44) rfl (show fnd bk_X13_chases 44 = some _ from rfl) aB_X13_chases ?_
    refine wp_iload_n (v := v1) rfl ?_
    refine wp_if_eq (fun c21 => ?_) (fun c21 => ?_)
    · rw [if_pos c21] at h
      exact hk v1 u2 u3 u4 M sM h
    · rw [if_neg c21] at h
      refine wp_iconst ⟨by decide, by decide⟩ ?_
      refine y_stn (L1 := [(2, ((138 : Nat) : Int)), (0, 0), u2, u3, u4]) (Nat.le_of_ble_eq_true rfl) rfl ?_
      refine wp_iconst ⟨by decide, by decide⟩ ?_
      refine y_stn (L1 := [(2, ((138 : Nat) : Int)), (0, 0), (0, 0), u3, u4]) (Nat.le_of_ble_eq_true rfl) rfl ?_
      refine tl_X13_chases_52 (by omega) hS (fun w62 w63 u64 u65 m66 s67 h => ?_) FU 0 0 u3 u4 M sM h
      refine y_blk (t := 185) rfl (show fnd bk_X13_chases 185 = some _ from rfl) aB_X13_chases ?_
      refine wp_goto ?_
      exact ih w62 (0, w63) u64 u65 m66 s67 h
def f_X13_chases (T : Nat)  (M : aM) : Option (Int × aM) :=
 (f_X13_works T M).bind fun x1 =>
 l_X13_chases_6 T (fun w15 m19 =>
 l_X13_chases_44 T (fun w68 m72 =>
 some (0, m72)) FU 1 m19) FU 0 x1.2
theorem t_X13_chases {T : T3}  {M : aM} {y : (Int × aM)}  (hS : Sh T.1 M) (h : f_X13_chases T.1  M = some y) : Mr 3 304 [(2, ((138 : Nat) : Int))] M (none) y.2 T ∧ Sh T.1 y.2 := by
  have key : ∀ d, 3 ≤ d → Wp d 304 0 [] [(2, ((138 : Nat) : Int)), (9, 0), (9, 0), (9, 0), (9, 0)] [] (M, T) (fun r2 σ2 => r2 = none ∧ σ2 = (y.2, T) ∧ Sh T.1 y.2) := by
    intro d hd
    rw [f_X13_chases] at h
    refine y_blk (t := 0) rfl (show fnd bk_X13_chases 0 = some _ from rfl) aB_X13_chases ?_
    refine wp_aload_n (v := ((138 : Nat) : Int)) rfl (Int.natCast_nonneg _) ?_
    obtain ⟨x1, e2, h⟩ := d_bind h
    obtain ⟨r3, s4⟩ := t_X13_works hS e2
    refine y_callVv (as := []) (S1 := []) (Nat.le_of_ble_eq_true rfl) (by omega) r3 rfl (show ash 138 = (13, 38) from rfl) (Nat.lt_of_lt_of_le (show 138 < 154 by decide) hS.1.1) (Nat.le_of_ble_eq_true rfl) (Nat.le_of_ble_eq_true rfl) rfl ?_
    refine wp_iconst ⟨by decide, by decide⟩ ?_
    refine y_stn (L1 := [(2, ((138 : Nat) : Int)), (0, 0), (9, 0), (9, 0), (9, 0)]) (Nat.le_of_ble_eq_true rfl) rfl ?_
    refine tl_X13_chases_6 (by omega) hS (fun w15 u16 u17 u18 m19 s20 h => ?_) FU 0 (9, 0) (9, 0) (9, 0) x1.2 s4 h
    refine y_blk (t := 42) rfl (show fnd bk_X13_chases 42 = some _ from rfl) aB_X13_chases ?_
    refine wp_iconst ⟨by decide, by decide⟩ ?_
    refine y_stn (L1 := [(2, ((138 : Nat) : Int)), (0, 1), u16, u17, u18]) (Nat.le_of_ble_eq_true rfl) rfl ?_
    refine tl_X13_chases_44 (by omega) hS (fun w68 u69 u70 u71 m72 s73 h => ?_) FU 1 u16 u17 u18 m19 s20 h
    refine y_blk (t := 188) rfl (show fnd bk_X13_chases 188 = some _ from rfl) aB_X13_chases ?_
    cases h
    exact wp_return ⟨rfl, rfl, s73⟩
  exact ⟨fun d hd => Ms.of3 (key d hd), Ms.sh (key 3 (Nat.le_refl _))⟩
theorem aB_X13_chase : ∀ pc, aB 305 pc = fnd bk_X13_chase pc := fun _ => rfl
def f_X13_chase (T : Nat) (v1 : Int) (v2 : Int) (M : aM) : Option (Int × aM) :=
 (some (aup M 138 0 0)).bind fun m1 =>
 (f_X13_isCave T v1 m1).bind fun x3 =>
 if x3 = 0 then
 (f_X13_refused T 1 m1).bind fun x6 =>
 some (x6.1, x6.2) else
 (f_X13_isCave T v2 m1).bind fun x10 =>
 if x10 = 0 then
 (f_X13_refused T 1 m1).bind fun x26 =>
 some (x26.1, x26.2) else
 (f_X13_chases T m1).bind fun x13 =>
 if aIn (8 * v1) then
 if aIn ((8 * v1) + v2) then
 if 0 ≤ ((8 * v1) + v2) ∧ ((8 * v1) + v2) < 64 then
 (f_X13_told T (x13.2 152 (((8 * v1) + v2)).toNat) x13.2).bind fun x20 =>
 (f_X13_good T x20 x13.2).bind fun x22 =>
 some (x22.1, x22.2) else none else none else none
theorem t_X13_chase {T : T3} {v1 : Int} {v2 : Int} {M : aM} {y : (Int × aM)}  (hS : Sh T.1 M) (h : f_X13_chase T.1 v1 v2 M = some y) : Mr 4 305 [(2, ((138 : Nat) : Int)), (0, v1), (0, v2)] M (some (0, y.1)) y.2 T ∧ Sh T.1 y.2 := by
  have key : ∀ d, 4 ≤ d → Wp d 305 0 [] [(2, ((138 : Nat) : Int)), (0, v1), (0, v2)] [] (M, T) (fun r2 σ2 => r2 = some (0, y.1) ∧ σ2 = (y.2, T) ∧ Sh T.1 y.2) := by
    intro d hd
    rw [f_X13_chase] at h
    refine y_blk (t := 0) rfl (show fnd bk_X13_chase 0 = some _ from rfl) aB_X13_chase ?_
    refine wp_aload_n (v := ((138 : Nat) : Int)) rfl (Int.natCast_nonneg _) ?_
    refine wp_iconst ⟨by decide, by decide⟩ ?_
    refine y_put (show ash 138 = (13, 38) from rfl) (Nat.lt_of_lt_of_le (show 138 < 154 by decide) hS.1.1) rfl ?_
    obtain ⟨m1, em1, h⟩ := d_bind h
    have em1 := Option.some.inj em1
    have s2 : Sh T.1 m1 := em1 ▸ hS.up (Or.inr ⟨by rw [(show ash 138 = (13, 38) from rfl)]; decide, by rw [(show ash 138 = (13, 38) from rfl)]; decide⟩) (by have := (Nat.lt_of_lt_of_le (show 138 < 154 by decide) hS.1.1); have := hS.1.2; omega)
    rw [em1]
    refine wp_aload_n (v := ((138 : Nat) : Int)) rfl (Int.natCast_nonneg _) ?_
    refine wp_iload_n (v := v1) rfl ?_
    obtain ⟨x3, e4, h⟩ := d_bind h
    refine y_callV (as := [(0, v1)]) (S1 := []) (Nat.le_of_ble_eq_true rfl) (by omega) (t_X13_isCave s2 e4) (Nat.le_of_ble_eq_true rfl) rfl (show ash 138 = (13, 38) from rfl) (Nat.lt_of_lt_of_le (show 138 < 154 by decide) hS.1.1) (Nat.le_of_ble_eq_true rfl) (Nat.le_of_ble_eq_true rfl) rfl ?_
    refine wp_if_eq (fun c5 => ?_) (fun c5 => ?_)
    · rw [if_pos c5] at h
      refine y_blk (t := 21) rfl (show fnd bk_X13_chase 21 = some _ from rfl) aB_X13_chase ?_
      refine wp_aload_n (v := ((138 : Nat) : Int)) rfl (Int.natCast_nonneg _) ?_
      refine wp_iconst ⟨by decide, by decide⟩ ?_
      obtain ⟨x6, e7, h⟩ := d_bind h
      obtain ⟨r8, s9⟩ := t_X13_refused s2 e7
      refine y_callV (as := [(0, 1)]) (S1 := []) (Nat.le_of_ble_eq_true rfl) (by omega) r8 (Nat.le_of_ble_eq_true rfl) rfl (show ash 138 = (13, 38) from rfl) (Nat.lt_of_lt_of_le (show 138 < 154 by decide) hS.1.1) (Nat.le_of_ble_eq_true rfl) (Nat.le_of_ble_eq_true rfl) rfl ?_
      cases h
      exact y_ret0 (Or.inl rfl) ⟨rfl, rfl, s9⟩
    · rw [if_neg c5] at h
      refine wp_aload_n (v := ((138 : Nat) : Int)) rfl (Int.natCast_nonneg _) ?_
      refine wp_iload_n (v := v2) rfl ?_
      obtain ⟨x10, e11, h⟩ := d_bind h
      refine y_callV (as := [(0, v2)]) (S1 := []) (Nat.le_of_ble_eq_true rfl) (by omega) (t_X13_isCave s2 e11) (Nat.le_of_ble_eq_true rfl) rfl (show ash 138 = (13, 38) from rfl) (Nat.lt_of_lt_of_le (show 138 < 154 by decide) hS.1.1) (Nat.le_of_ble_eq_true rfl) (Nat.le_of_ble_eq_true rfl) rfl ?_
      refine y_nez (fun c12 => ?_) (fun c12 => ?_)
      · rw [if_neg c12] at h
        refine y_blk (t := 27) rfl (show fnd bk_X13_chase 27 = some _ from rfl) aB_X13_chase ?_
        refine wp_aload_n (v := ((138 : Nat) : Int)) rfl (Int.natCast_nonneg _) ?_
        obtain ⟨x13, e14, h⟩ := d_bind h
        obtain ⟨r15, s16⟩ := t_X13_chases s2 e14
        refine y_callVv (as := []) (S1 := []) (Nat.le_of_ble_eq_true rfl) (by omega) r15 rfl (show ash 138 = (13, 38) from rfl) (Nat.lt_of_lt_of_le (show 138 < 154 by decide) hS.1.1) (Nat.le_of_ble_eq_true rfl) (Nat.le_of_ble_eq_true rfl) rfl ?_
        refine wp_aload_n (v := ((138 : Nat) : Int)) rfl (Int.natCast_nonneg _) ?_
        refine wp_aload_n (v := ((138 : Nat) : Int)) rfl (Int.natCast_nonneg _) ?_
        refine wp_aload_n (v := ((138 : Nat) : Int)) rfl (Int.natCast_nonneg _) ?_
        refine y_get (show ash 138 = (13, 38) from rfl) (Nat.lt_of_lt_of_le (show 138 < 154 by decide) hS.1.1) (v := ((152 : Nat) : Int)) (s16.at 138 35 152 (by decide +kernel)) rfl ?_
        refine wp_bipush (by decide) ?_
        refine wp_iload_n (v := v1) rfl ?_
        obtain ⟨c17, h⟩ := d_ite h
        refine wp_imul c17 ?_
        refine wp_iload_n (v := v2) rfl ?_
        obtain ⟨c18, h⟩ := d_ite h
        refine wp_iadd c18 ?_
        obtain ⟨c19, h⟩ := d_ite h
        refine y_iald (show ash 152 = (100, 64) from rfl) (Or.inl (Nat.lt_of_lt_of_le (show 152 < 154 by decide) hS.1.1)) (Nat.ne_of_lt (Nat.lt_of_lt_of_le (Nat.lt_of_lt_of_le (show 152 < 154 by decide) hS.1.1) hS.1.2)) c19 (v := x13.2 152 (((8 * v1) + v2)).toNat) rfl ?_
        obtain ⟨x20, e21, h⟩ := d_bind h
        refine y_callV (as := [(0, (x13.2 152 (((8 * v1) + v2)).toNat))]) (S1 := [(2, ((138 : Nat) : Int))]) (Nat.le_of_ble_eq_true rfl) (by omega) (t_X13_told s16 e21) (Nat.le_of_ble_eq_true rfl) rfl (show ash 138 = (13, 38) from rfl) (Nat.lt_of_lt_of_le (show 138 < 154 by decide) hS.1.1) (Nat.le_of_ble_eq_true rfl) (Nat.le_of_ble_eq_true rfl) rfl ?_
        obtain ⟨x22, e23, h⟩ := d_bind h
        obtain ⟨r24, s25⟩ := t_X13_good s16 e23
        refine y_callV (as := [(0, x20)]) (S1 := []) (Nat.le_of_ble_eq_true rfl) (by omega) r24 (Nat.le_of_ble_eq_true rfl) rfl (show ash 138 = (13, 38) from rfl) (Nat.lt_of_lt_of_le (show 138 < 154 by decide) hS.1.1) (Nat.le_of_ble_eq_true rfl) (Nat.le_of_ble_eq_true rfl) rfl ?_
        cases h
        exact y_ret0 (Or.inl rfl) ⟨rfl, rfl, s25⟩
      · rw [if_pos c12] at h
        refine y_blk (t := 21) rfl (show fnd bk_X13_chase 21 = some _ from rfl) aB_X13_chase ?_
        refine wp_aload_n (v := ((138 : Nat) : Int)) rfl (Int.natCast_nonneg _) ?_
        refine wp_iconst ⟨by decide, by decide⟩ ?_
        obtain ⟨x26, e27, h⟩ := d_bind h
        obtain ⟨r28, s29⟩ := t_X13_refused s2 e27
        refine y_callV (as := [(0, 1)]) (S1 := []) (Nat.le_of_ble_eq_true rfl) (by omega) r28 (Nat.le_of_ble_eq_true rfl) rfl (show ash 138 = (13, 38) from rfl) (Nat.lt_of_lt_of_le (show 138 < 154 by decide) hS.1.1) (Nat.le_of_ble_eq_true rfl) (Nat.le_of_ble_eq_true rfl) rfl ?_
        cases h
        exact y_ret0 (Or.inl rfl) ⟨rfl, rfl, s29⟩
  exact ⟨fun d hd => Ms.of3 (key d hd), Ms.sh (key 4 (Nat.le_refl _))⟩
theorem aB_X13_chaseBy : ∀ pc, aB 306 pc = fnd bk_X13_chaseBy pc := fun _ => rfl
def l_X13_chaseBy_82 (T : Nat) (v1 : Int) (v2 : Int) (v3 : Int) (M : aM) (k : Int → Option (Int × aM)) : Nat → Int → Option (Int × aM)
| 0, _ => none
| n + 1, v4 =>
 if 0 ≤ v1 ∧ v1 < 8 then
 (f_X13_bit T (M 145 (v1).toNat) v4 M).bind fun x31 =>
 if x31 = 0 then
 if aIn (v4 + 1) then
 l_X13_chaseBy_82 T v1 v2 v3 M k n (v4 + 1) else none else
 (f_X13_worst T v4 v2 M).bind fun x35 =>
 if aIn (x35 + 1) then
 if (x35 + 1) = v3 then
 k v4 else
 if aIn (v4 + 1) then
 l_X13_chaseBy_82 T v1 v2 v3 M k n (v4 + 1) else none else none else none
theorem tl_X13_chaseBy_82 {d : Nat} (hd : 4 ≤ d) {T : T3} {v1 : Int} {v2 : Int} {v3 : Int} {M : aM} {k : Int → Option (Int × aM)} {y : (Int × aM)}  (hS : Sh T.1 M)
    (hk : ∀ (v4 : Int), Sh T.1 M → k v4 = some y → Wp d 306 115 [] [(2, ((138 : Nat) : Int)), (0, v1), (0, v2), (0, v3), (0, v4)] [] (M, T) (fun r2 σ2 => r2 = some (0, y.1) ∧ σ2 = (y.2, T) ∧ Sh T.1 y.2)) :
    ∀ (n : Nat) (v4 : Int), Sh T.1 M → l_X13_chaseBy_82 T.1 v1 v2 v3 M k n v4 = some y → Wp d 306 82 [] [(2, ((138 : Nat) : Int)), (0, v1), (0, v2), (0, v3), (0, v4)] [] (M, T) (fun r2 σ2 => r2 = some (0, y.1) ∧ σ2 = (y.2, T) ∧ Sh T.1 y.2) := by
  intro n
  induction n with
  | zero =>
    intro v4 _ h
    exact nomatch (show (none : Option (Int × aM)) = some y from h)
  | succ n ih =>
    intro v4 sM h
    rw [l_X13_chaseBy_82] at h
    refine y_blk (t := 82) rfl (show fnd bk_X13_chaseBy 82 = some _ from rfl) aB_X13_chaseBy ?_
    refine wp_aload_n (v := ((138 : Nat) : Int)) rfl (Int.natCast_nonneg _) ?_
    refine y_get (show ash 138 = (13, 38) from rfl) (Nat.lt_of_lt_of_le (show 138 < 154 by decide) hS.1.1) (v := ((145 : Nat) : Int)) (sM.at 138 23 145 (by decide +kernel)) rfl ?_
    refine wp_iload_n (v := v1) rfl ?_
    obtain ⟨c30, h⟩ := d_ite h
    refine y_iald (show ash 145 = (100, 8) from rfl) (Or.inl (Nat.lt_of_lt_of_le (show 145 < 154 by decide) hS.1.1)) (Nat.ne_of_lt (Nat.lt_of_lt_of_le (Nat.lt_of_lt_of_le (show 145 < 154 by decide) hS.1.1) hS.1.2)) c30 (v := M 145 (v1).toNat) rfl ?_
    refine wp_iload (v := v4) rfl ?_
    obtain ⟨x31, e32, h⟩ := d_bind h
    refine y_callS (as := [(0, (M 145 (v1).toNat)), (0, v4)]) (S1 := []) (Nat.le_of_ble_eq_true rfl) (by omega) (t_X13_bit sM e32) (Nat.le_of_ble_eq_true rfl) rfl (Nat.le_of_ble_eq_true rfl) (Nat.le_of_ble_eq_true rfl) rfl ?_
    refine wp_if_eq (fun c33 => ?_) (fun c33 => ?_)
    · rw [if_pos c33] at h
      refine y_blk (t := 109) rfl (show fnd bk_X13_chaseBy 109 = some _ from rfl) aB_X13_chaseBy ?_
      obtain ⟨c34, h⟩ := d_ite h
      refine y_iinc (L1 := [(2, ((138 : Nat) : Int)), (0, v1), (0, v2), (0, v3), (0, (v4 + 1))]) rfl (Nat.le_of_ble_eq_true rfl) ⟨by decide, by decide⟩ c34 rfl ?_
      refine wp_goto ?_
      exact ih (v4 + 1)   sM h
    · rw [if_neg c33] at h
      refine wp_aload_n (v := ((138 : Nat) : Int)) rfl (Int.natCast_nonneg _) ?_
      refine wp_iload (v := v4) rfl ?_
      refine wp_iload_n (v := v2) rfl ?_
      obtain ⟨x35, e36, h⟩ := d_bind h
      refine y_callV (as := [(0, v4), (0, v2)]) (S1 := []) (Nat.le_of_ble_eq_true rfl) (by omega) (t_X13_worst sM e36) (Nat.le_of_ble_eq_true rfl) rfl (show ash 138 = (13, 38) from rfl) (Nat.lt_of_lt_of_le (show 138 < 154 by decide) hS.1.1) (Nat.le_of_ble_eq_true rfl) (Nat.le_of_ble_eq_true rfl) rfl ?_
      refine wp_iconst ⟨by decide, by decide⟩ ?_
      obtain ⟨c37, h⟩ := d_ite h
      refine wp_iadd c37 ?_
      refine wp_iload_n (v := v3) rfl ?_
      refine wp_icmp_eq (fun c38 => ?_) (fun c38 => ?_)
      · rw [if_pos c38] at h
        exact hk v4   sM h
      · rw [if_neg c38] at h
        refine y_blk (t := 109) rfl (show fnd bk_X13_chaseBy 109 = some _ from rfl) aB_X13_chaseBy ?_
        obtain ⟨c39, h⟩ := d_ite h
        refine y_iinc (L1 := [(2, ((138 : Nat) : Int)), (0, v1), (0, v2), (0, v3), (0, (v4 + 1))]) rfl (Nat.le_of_ble_eq_true rfl) ⟨by decide, by decide⟩ c39 rfl ?_
        refine wp_goto ?_
        exact ih (v4 + 1)   sM h
def f_X13_chaseBy (T : Nat) (v1 : Int) (v2 : Int) (M : aM) : Option (Int × aM) :=
 (some (aup M 138 0 0)).bind fun m1 =>
 (f_X13_isCave T v1 m1).bind fun x3 =>
 if x3 = 0 then
 (f_X13_refused T 1 m1).bind fun x6 =>
 some (x6.1, x6.2) else
 (f_X13_isCave T v2 m1).bind fun x10 =>
 if x10 = 0 then
 (f_X13_refused T 1 m1).bind fun x54 =>
 some (x54.1, x54.2) else
 (f_X13_chases T m1).bind fun x13 =>
 if aIn (8 * v1) then
 if aIn ((8 * v1) + v2) then
 if 0 ≤ ((8 * v1) + v2) ∧ ((8 * v1) + v2) < 64 then
 if (x13.2 152 (((8 * v1) + v2)).toNat) = 0 then
 (f_X13_good T (-2) x13.2).bind fun x21 =>
 some (x21.1, x21.2) else
 if (x13.2 152 (((8 * v1) + v2)).toNat) < 9999 then
 (f_X13_worst T v1 v2 x13.2).bind fun x26 =>
 if aIn (x26 + 1) then
 if (x26 + 1) = (x13.2 152 (((8 * v1) + v2)).toNat) then
 (f_X13_good T v1 x13.2).bind fun x46 =>
 some (x46.1, x46.2) else
 l_X13_chaseBy_82 T v1 v2 (x13.2 152 (((8 * v1) + v2)).toNat) x13.2 (fun w40 =>
 (f_X13_good T w40 x13.2).bind fun x42 =>
 some (x42.1, x42.2)) FU 0 else none else
 (f_X13_good T (-2) x13.2).bind fun x50 =>
 some (x50.1, x50.2) else none else none else none
theorem t_X13_chaseBy {T : T3} {v1 : Int} {v2 : Int} {M : aM} {y : (Int × aM)}  (hS : Sh T.1 M) (h : f_X13_chaseBy T.1 v1 v2 M = some y) : Mr 4 306 [(2, ((138 : Nat) : Int)), (0, v1), (0, v2)] M (some (0, y.1)) y.2 T ∧ Sh T.1 y.2 := by
  have key : ∀ d, 4 ≤ d → Wp d 306 0 [] [(2, ((138 : Nat) : Int)), (0, v1), (0, v2), (9, 0), (9, 0)] [] (M, T) (fun r2 σ2 => r2 = some (0, y.1) ∧ σ2 = (y.2, T) ∧ Sh T.1 y.2) := by
    intro d hd
    rw [f_X13_chaseBy] at h
    refine y_blk (t := 0) rfl (show fnd bk_X13_chaseBy 0 = some _ from rfl) aB_X13_chaseBy ?_
    refine wp_aload_n (v := ((138 : Nat) : Int)) rfl (Int.natCast_nonneg _) ?_
    refine wp_iconst ⟨by decide, by decide⟩ ?_
    refine y_put (show ash 138 = (13, 38) from rfl) (Nat.lt_of_lt_of_le (show 138 < 154 by decide) hS.1.1) rfl ?_
    obtain ⟨m1, em1, h⟩ := d_bind h
    have em1 := Option.some.inj em1
    have s2 : Sh T.1 m1 := em1 ▸ hS.up (Or.inr ⟨by rw [(show ash 138 = (13, 38) from rfl)]; decide, by rw [(show ash 138 = (13, 38) from rfl)]; decide⟩) (by have := (Nat.lt_of_lt_of_le (show 138 < 154 by decide) hS.1.1); have := hS.1.2; omega)
    rw [em1]
    refine wp_aload_n (v := ((138 : Nat) : Int)) rfl (Int.natCast_nonneg _) ?_
    refine wp_iload_n (v := v1) rfl ?_
    obtain ⟨x3, e4, h⟩ := d_bind h
    refine y_callV (as := [(0, v1)]) (S1 := []) (Nat.le_of_ble_eq_true rfl) (by omega) (t_X13_isCave s2 e4) (Nat.le_of_ble_eq_true rfl) rfl (show ash 138 = (13, 38) from rfl) (Nat.lt_of_lt_of_le (show 138 < 154 by decide) hS.1.1) (Nat.le_of_ble_eq_true rfl) (Nat.le_of_ble_eq_true rfl) rfl ?_
    refine wp_if_eq (fun c5 => ?_) (fun c5 => ?_)
    · rw [if_pos c5] at h
      refine y_blk (t := 21) rfl (show fnd bk_X13_chaseBy 21 = some _ from rfl) aB_X13_chaseBy ?_
      refine wp_aload_n (v := ((138 : Nat) : Int)) rfl (Int.natCast_nonneg _) ?_
      refine wp_iconst ⟨by decide, by decide⟩ ?_
      obtain ⟨x6, e7, h⟩ := d_bind h
      obtain ⟨r8, s9⟩ := t_X13_refused s2 e7
      refine y_callV (as := [(0, 1)]) (S1 := []) (Nat.le_of_ble_eq_true rfl) (by omega) r8 (Nat.le_of_ble_eq_true rfl) rfl (show ash 138 = (13, 38) from rfl) (Nat.lt_of_lt_of_le (show 138 < 154 by decide) hS.1.1) (Nat.le_of_ble_eq_true rfl) (Nat.le_of_ble_eq_true rfl) rfl ?_
      cases h
      exact y_ret0 (Or.inl rfl) ⟨rfl, rfl, s9⟩
    · rw [if_neg c5] at h
      refine wp_aload_n (v := ((138 : Nat) : Int)) rfl (Int.natCast_nonneg _) ?_
      refine wp_iload_n (v := v2) rfl ?_
      obtain ⟨x10, e11, h⟩ := d_bind h
      refine y_callV (as := [(0, v2)]) (S1 := []) (Nat.le_of_ble_eq_true rfl) (by omega) (t_X13_isCave s2 e11) (Nat.le_of_ble_eq_true rfl) rfl (show ash 138 = (13, 38) from rfl) (Nat.lt_of_lt_of_le (show 138 < 154 by decide) hS.1.1) (Nat.le_of_ble_eq_true rfl) (Nat.le_of_ble_eq_true rfl) rfl ?_
      refine y_nez (fun c12 => ?_) (fun c12 => ?_)
      · rw [if_neg c12] at h
        refine y_blk (t := 27) rfl (show fnd bk_X13_chaseBy 27 = some _ from rfl) aB_X13_chaseBy ?_
        refine wp_aload_n (v := ((138 : Nat) : Int)) rfl (Int.natCast_nonneg _) ?_
        obtain ⟨x13, e14, h⟩ := d_bind h
        obtain ⟨r15, s16⟩ := t_X13_chases s2 e14
        refine y_callVv (as := []) (S1 := []) (Nat.le_of_ble_eq_true rfl) (by omega) r15 rfl (show ash 138 = (13, 38) from rfl) (Nat.lt_of_lt_of_le (show 138 < 154 by decide) hS.1.1) (Nat.le_of_ble_eq_true rfl) (Nat.le_of_ble_eq_true rfl) rfl ?_
        refine wp_aload_n (v := ((138 : Nat) : Int)) rfl (Int.natCast_nonneg _) ?_
        refine y_get (show ash 138 = (13, 38) from rfl) (Nat.lt_of_lt_of_le (show 138 < 154 by decide) hS.1.1) (v := ((152 : Nat) : Int)) (s16.at 138 35 152 (by decide +kernel)) rfl ?_
        refine wp_bipush (by decide) ?_
        refine wp_iload_n (v := v1) rfl ?_
        obtain ⟨c17, h⟩ := d_ite h
        refine wp_imul c17 ?_
        refine wp_iload_n (v := v2) rfl ?_
        obtain ⟨c18, h⟩ := d_ite h
        refine wp_iadd c18 ?_
        obtain ⟨c19, h⟩ := d_ite h
        refine y_iald (show ash 152 = (100, 64) from rfl) (Or.inl (Nat.lt_of_lt_of_le (show 152 < 154 by decide) hS.1.1)) (Nat.ne_of_lt (Nat.lt_of_lt_of_le (Nat.lt_of_lt_of_le (show 152 < 154 by decide) hS.1.1) hS.1.2)) c19 (v := x13.2 152 (((8 * v1) + v2)).toNat) rfl ?_
        refine y_stn (L1 := [(2, ((138 : Nat) : Int)), (0, v1), (0, v2), (0, (x13.2 152 (((8 * v1) + v2)).toNat)), (9, 0)]) (Nat.le_of_ble_eq_true rfl) rfl ?_
        refine wp_iload_n (v := (x13.2 152 (((8 * v1) + v2)).toNat)) rfl ?_
        refine wp_if_eq (fun c20 => ?_) (fun c20 => ?_)
        · rw [if_pos c20] at h
          refine y_blk (t := 54) rfl (show fnd bk_X13_chaseBy 54 = some _ from rfl) aB_X13_chaseBy ?_
          refine wp_aload_n (v := ((138 : Nat) : Int)) rfl (Int.natCast_nonneg _) ?_
          refine wp_bipush (by decide) ?_
          obtain ⟨x21, e22, h⟩ := d_bind h
          obtain ⟨r23, s24⟩ := t_X13_good s16 e22
          refine y_callV (as := [(0, (-2))]) (S1 := []) (Nat.le_of_ble_eq_true rfl) (by omega) r23 (Nat.le_of_ble_eq_true rfl) rfl (show ash 138 = (13, 38) from rfl) (Nat.lt_of_lt_of_le (show 138 < 154 by decide) hS.1.1) (Nat.le_of_ble_eq_true rfl) (Nat.le_of_ble_eq_true rfl) rfl ?_
          cases h
          exact y_ret0 (Or.inl rfl) ⟨rfl, rfl, s24⟩
        · rw [if_neg c20] at h
          refine wp_iload_n (v := (x13.2 152 (((8 * v1) + v2)).toNat)) rfl ?_
          refine wp_sipush (by decide) ?_
          refine wp_icmp_lt (fun c25 => ?_) (fun c25 => ?_)
          · rw [if_pos c25] at h
            refine y_blk (t := 61) rfl (show fnd bk_X13_chaseBy 61 = some _ from rfl) aB_X13_chaseBy ?_
            refine wp_aload_n (v := ((138 : Nat) : Int)) rfl (Int.natCast_nonneg _) ?_
            refine wp_iload_n (v := v1) rfl ?_
            refine wp_iload_n (v := v2) rfl ?_
            obtain ⟨x26, e27, h⟩ := d_bind h
            refine y_callV (as := [(0, v1), (0, v2)]) (S1 := []) (Nat.le_of_ble_eq_true rfl) (by omega) (t_X13_worst s16 e27) (Nat.le_of_ble_eq_true rfl) rfl (show ash 138 = (13, 38) from rfl) (Nat.lt_of_lt_of_le (show 138 < 154 by decide) hS.1.1) (Nat.le_of_ble_eq_true rfl) (Nat.le_of_ble_eq_true rfl) rfl ?_
            refine wp_iconst ⟨by decide, by decide⟩ ?_
            obtain ⟨c28, h⟩ := d_ite h
            refine wp_iadd c28 ?_
            refine wp_iload_n (v := (x13.2 152 (((8 * v1) + v2)).toNat)) rfl ?_
            refine y_ne (fun c29 => ?_) (fun c29 => ?_)
            · rw [if_neg c29] at h
              refine y_blk (t := 79) rfl (show fnd bk_X13_chaseBy 79 = some _ from rfl) aB_X13_chaseBy ?_
              refine wp_iconst ⟨by decide, by decide⟩ ?_
              refine y_st (L1 := [(2, ((138 : Nat) : Int)), (0, v1), (0, v2), (0, (x13.2 152 (((8 * v1) + v2)).toNat)), (0, 0)]) (Nat.le_of_ble_eq_true rfl) rfl ?_
              refine tl_X13_chaseBy_82 (by omega) s16 (fun w40   s41 h => ?_) FU 0   s16 h
              refine y_blk (t := 115) rfl (show fnd bk_X13_chaseBy 115 = some _ from rfl) aB_X13_chaseBy ?_
              refine wp_aload_n (v := ((138 : Nat) : Int)) rfl (Int.natCast_nonneg _) ?_
              refine wp_iload (v := w40) rfl ?_
              obtain ⟨x42, e43, h⟩ := d_bind h
              obtain ⟨r44, s45⟩ := t_X13_good s41 e43
              refine y_callV (as := [(0, w40)]) (S1 := []) (Nat.le_of_ble_eq_true rfl) (by omega) r44 (Nat.le_of_ble_eq_true rfl) rfl (show ash 138 = (13, 38) from rfl) (Nat.lt_of_lt_of_le (show 138 < 154 by decide) hS.1.1) (Nat.le_of_ble_eq_true rfl) (Nat.le_of_ble_eq_true rfl) rfl ?_
              cases h
              exact y_ret0 (Or.inl rfl) ⟨rfl, rfl, s45⟩
            · rw [if_pos c29] at h
              refine wp_aload_n (v := ((138 : Nat) : Int)) rfl (Int.natCast_nonneg _) ?_
              refine wp_iload_n (v := v1) rfl ?_
              obtain ⟨x46, e47, h⟩ := d_bind h
              obtain ⟨r48, s49⟩ := t_X13_good s16 e47
              refine y_callV (as := [(0, v1)]) (S1 := []) (Nat.le_of_ble_eq_true rfl) (by omega) r48 (Nat.le_of_ble_eq_true rfl) rfl (show ash 138 = (13, 38) from rfl) (Nat.lt_of_lt_of_le (show 138 < 154 by decide) hS.1.1) (Nat.le_of_ble_eq_true rfl) (Nat.le_of_ble_eq_true rfl) rfl ?_
              cases h
              exact y_ret0 (Or.inl rfl) ⟨rfl, rfl, s49⟩
          · rw [if_neg c25] at h
            refine y_blk (t := 54) rfl (show fnd bk_X13_chaseBy 54 = some _ from rfl) aB_X13_chaseBy ?_
            refine wp_aload_n (v := ((138 : Nat) : Int)) rfl (Int.natCast_nonneg _) ?_
            refine wp_bipush (by decide) ?_
            obtain ⟨x50, e51, h⟩ := d_bind h
            obtain ⟨r52, s53⟩ := t_X13_good s16 e51
            refine y_callV (as := [(0, (-2))]) (S1 := []) (Nat.le_of_ble_eq_true rfl) (by omega) r52 (Nat.le_of_ble_eq_true rfl) rfl (show ash 138 = (13, 38) from rfl) (Nat.lt_of_lt_of_le (show 138 < 154 by decide) hS.1.1) (Nat.le_of_ble_eq_true rfl) (Nat.le_of_ble_eq_true rfl) rfl ?_
            cases h
            exact y_ret0 (Or.inl rfl) ⟨rfl, rfl, s53⟩
      · rw [if_pos c12] at h
        refine y_blk (t := 21) rfl (show fnd bk_X13_chaseBy 21 = some _ from rfl) aB_X13_chaseBy ?_
        refine wp_aload_n (v := ((138 : Nat) : Int)) rfl (Int.natCast_nonneg _) ?_
        refine wp_iconst ⟨by decide, by decide⟩ ?_
        obtain ⟨x54, e55, h⟩ := d_bind h
        obtain ⟨r56, s57⟩ := t_X13_refused s2 e55
        refine y_callV (as := [(0, 1)]) (S1 := []) (Nat.le_of_ble_eq_true rfl) (by omega) r56 (Nat.le_of_ble_eq_true rfl) rfl (show ash 138 = (13, 38) from rfl) (Nat.lt_of_lt_of_le (show 138 < 154 by decide) hS.1.1) (Nat.le_of_ble_eq_true rfl) (Nat.le_of_ble_eq_true rfl) rfl ?_
        cases h
        exact y_ret0 (Or.inl rfl) ⟨rfl, rfl, s57⟩
  exact ⟨fun d hd => Ms.of3 (key d hd), Ms.sh (key 4 (Nat.le_refl _))⟩
theorem aB_X13_answered : ∀ pc, aB 307 pc = fnd bk_X13_answered pc := fun _ => rfl
def f_X13_answered (T : Nat) (v0 : Int) (v1 : Int) (v2 : Int) (M : aM) : Option Int :=
 if v1 = 0 then
 if v2 = 0 then
 some 1 else
 if aIn (-v0) then
 some (-v0) else none else
 if v2 = 0 then
 some 3 else
 some 2
theorem t_X13_answered {T : T3} {v0 : Int} {v1 : Int} {v2 : Int} {M : aM} {y : Int}  (hS : Sh T.1 M) (h : f_X13_answered T.1 v0 v1 v2 M = some y) : Mr 0 307 [(0, v0), (0, v1), (0, v2)] M (some (0, y)) M T := by
  have key : ∀ d, 0 ≤ d → Wp d 307 0 [] [(0, v0), (0, v1), (0, v2)] [] (M, T) (fun r2 σ2 => r2 = some (0, y) ∧ σ2 = (M, T)) := by
    intro d hd
    rw [f_X13_answered] at h
    refine y_blk (t := 0) rfl (show fnd bk_X13_answered 0 = some _ from rfl) aB_X13_answered ?_
    refine wp_iload_n (v := v1) rfl ?_
    refine wp_if_eq (fun c1 => ?_) (fun c1 => ?_)
    · rw [if_pos c1] at h
      refine y_blk (t := 16) rfl (show fnd bk_X13_answered 16 = some _ from rfl) aB_X13_answered ?_
      refine wp_iload_n (v := v2) rfl ?_
      refine wp_if_eq (fun c2 => ?_) (fun c2 => ?_)
      · rw [if_pos c2] at h
        refine y_blk (t := 25) rfl (show fnd bk_X13_answered 25 = some _ from rfl) aB_X13_answered ?_
        refine wp_iconst ⟨by decide, by decide⟩ ?_
        refine y_blk (t := 26) rfl (show fnd bk_X13_answered 26 = some _ from rfl) aB_X13_answered ?_
        cases h
        exact y_ret0 (Or.inl rfl) ⟨rfl, rfl⟩
      · rw [if_neg c2] at h
        refine wp_iload_n (v := v0) rfl ?_
        obtain ⟨c3, h⟩ := d_ite h
        refine wp_ineg c3 ?_
        refine wp_goto ?_
        refine y_blk (t := 26) rfl (show fnd bk_X13_answered 26 = some _ from rfl) aB_X13_answered ?_
        cases h
        exact y_ret0 (Or.inl rfl) ⟨rfl, rfl⟩
    · rw [if_neg c1] at h
      refine wp_iload_n (v := v2) rfl ?_
      refine wp_if_eq (fun c4 => ?_) (fun c4 => ?_)
      · rw [if_pos c4] at h
        refine y_blk (t := 12) rfl (show fnd bk_X13_answered 12 = some _ from rfl) aB_X13_answered ?_
        refine wp_iconst ⟨by decide, by decide⟩ ?_
        refine wp_goto ?_
        refine y_blk (t := 26) rfl (show fnd bk_X13_answered 26 = some _ from rfl) aB_X13_answered ?_
        cases h
        exact y_ret0 (Or.inl rfl) ⟨rfl, rfl⟩
      · rw [if_neg c4] at h
        refine wp_iconst ⟨by decide, by decide⟩ ?_
        refine wp_goto ?_
        refine y_blk (t := 26) rfl (show fnd bk_X13_answered 26 = some _ from rfl) aB_X13_answered ?_
        cases h
        exact y_ret0 (Or.inl rfl) ⟨rfl, rfl⟩
  exact fun d hd => Ms.of (key d hd)
theorem aB_X13_refusesFear : ∀ pc, aB 308 pc = fnd bk_X13_refusesFear pc := fun _ => rfl
def f_X13_refusesFear (T : Nat) (v1 : Int) (M : aM) : Option Int :=
 if M 138 3 < 0 then
 some 1 else
 (f_X13_in T v1 0 9 M).bind fun x2 =>
 if x2 = 0 then
 some 2 else
 some 0
theorem t_X13_refusesFear {T : T3} {v1 : Int} {M : aM} {y : Int}  (hS : Sh T.1 M) (h : f_X13_refusesFear T.1 v1 M = some y) : Mr 1 308 [(2, ((138 : Nat) : Int)), (0, v1)] M (some (0, y)) M T := by
  have key : ∀ d, 1 ≤ d → Wp d 308 0 [] [(2, ((138 : Nat) : Int)), (0, v1)] [] (M, T) (fun r2 σ2 => r2 = some (0, y) ∧ σ2 = (M, T)) := by
    intro d hd
    rw [f_X13_refusesFear] at h
    refine y_blk (t := 0) rfl (show fnd bk_X13_refusesFear 0 = some _ from rfl) aB_X13_refusesFear ?_
    refine wp_aload_n (v := ((138 : Nat) : Int)) rfl (Int.natCast_nonneg _) ?_
    refine y_get (show ash 138 = (13, 38) from rfl) (Nat.lt_of_lt_of_le (show 138 < 154 by decide) hS.1.1) (v := M 138 3) rfl rfl ?_
    refine wp_ifnonnull (fun c1 => ?_) (fun c1 => ?_)
    · rw [if_neg c1] at h
      refine y_blk (t := 11) rfl (show fnd bk_X13_refusesFear 11 = some _ from rfl) aB_X13_refusesFear ?_
      refine wp_iload_n (v := v1) rfl ?_
      refine wp_iconst ⟨by decide, by decide⟩ ?_
      refine wp_bipush (by decide) ?_
      obtain ⟨x2, e3, h⟩ := d_bind h
      refine y_callS (as := [(0, v1), (0, 0), (0, 9)]) (S1 := []) (Nat.le_of_ble_eq_true rfl) (by omega) (t_X13_in hS e3) (Nat.le_of_ble_eq_true rfl) rfl (Nat.le_of_ble_eq_true rfl) (Nat.le_of_ble_eq_true rfl) rfl ?_
      refine wp_if_eq (fun c4 => ?_) (fun c4 => ?_)
      · rw [if_pos c4] at h
        refine y_blk (t := 25) rfl (show fnd bk_X13_refusesFear 25 = some _ from rfl) aB_X13_refusesFear ?_
        refine wp_iconst ⟨by decide, by decide⟩ ?_
        refine y_blk (t := 26) rfl (show fnd bk_X13_refusesFear 26 = some _ from rfl) aB_X13_refusesFear ?_
        cases h
        exact y_ret0 (Or.inl rfl) ⟨rfl, rfl⟩
      · rw [if_neg c4] at h
        refine wp_iconst ⟨by decide, by decide⟩ ?_
        refine wp_goto ?_
        refine y_blk (t := 26) rfl (show fnd bk_X13_refusesFear 26 = some _ from rfl) aB_X13_refusesFear ?_
        cases h
        exact y_ret0 (Or.inl rfl) ⟨rfl, rfl⟩
    · rw [if_pos c1] at h
      refine wp_iconst ⟨by decide, by decide⟩ ?_
      refine wp_goto ?_
      refine y_blk (t := 26) rfl (show fnd bk_X13_refusesFear 26 = some _ from rfl) aB_X13_refusesFear ?_
      cases h
      exact y_ret0 (Or.inl rfl) ⟨rfl, rfl⟩
  exact fun d hd => Ms.of (key d hd)
theorem aB_X13_answers : ∀ pc, aB 309 pc = fnd bk_X13_answers pc := fun _ => rfl
def f_X13_answers (T : Nat) (v1 : Int) (v2 : Int) (v3 : Int) (v4 : Int) (M : aM) : Option (Int × aM) :=
 (some (aup M 138 0 0)).bind fun m1 =>
 (f_X13_refusesFear T v1 m1).bind fun x3 =>
 if x3 ≤ 0 then
 if v4 = 0 then
 (f_X13_answered T v1 v2 v3 m1).bind fun x7 =>
 (f_X13_good T x7 m1).bind fun x9 =>
 some (x9.1, x9.2) else
 (f_X13_answered T v1 v3 v2 m1).bind fun x13 =>
 (f_X13_good T x13 m1).bind fun x15 =>
 some (x15.1, x15.2) else
 (f_X13_lost T x3 m1).bind fun x19 =>
 some (x19.1, x19.2)
theorem t_X13_answers {T : T3} {v1 : Int} {v2 : Int} {v3 : Int} {v4 : Int} {M : aM} {y : (Int × aM)}  (hS : Sh T.1 M) (h : f_X13_answers T.1 v1 v2 v3 v4 M = some y) : Mr 2 309 [(2, ((138 : Nat) : Int)), (0, v1), (0, v2), (0, v3), (0, v4)] M (some (0, y.1)) y.2 T ∧ Sh T.1 y.2 := by
  have key : ∀ d, 2 ≤ d → Wp d 309 0 [] [(2, ((138 : Nat) : Int)), (0, v1), (0, v2), (0, v3), (0, v4), (9, 0)] [] (M, T) (fun r2 σ2 => r2 = some (0, y.1) ∧ σ2 = (y.2, T) ∧ Sh T.1 y.2) := by
    intro d hd
    rw [f_X13_answers] at h
    refine y_blk (t := 0) rfl (show fnd bk_X13_answers 0 = some _ from rfl) aB_X13_answers ?_
    refine wp_aload_n (v := ((138 : Nat) : Int)) rfl (Int.natCast_nonneg _) ?_
    refine wp_iconst ⟨by decide, by decide⟩ ?_
    refine y_put (show ash 138 = (13, 38) from rfl) (Nat.lt_of_lt_of_le (show 138 < 154 by decide) hS.1.1) rfl ?_
    obtain ⟨m1, em1, h⟩ := d_bind h
    have em1 := Option.some.inj em1
    have s2 : Sh T.1 m1 := em1 ▸ hS.up (Or.inr ⟨by rw [(show ash 138 = (13, 38) from rfl)]; decide, by rw [(show ash 138 = (13, 38) from rfl)]; decide⟩) (by have := (Nat.lt_of_lt_of_le (show 138 < 154 by decide) hS.1.1); have := hS.1.2; omega)
    rw [em1]
    refine wp_aload_n (v := ((138 : Nat) : Int)) rfl (Int.natCast_nonneg _) ?_
    refine wp_iload_n (v := v1) rfl ?_
    obtain ⟨x3, e4, h⟩ := d_bind h
    refine y_callV (as := [(0, v1)]) (S1 := []) (Nat.le_of_ble_eq_true rfl) (by omega) (t_X13_refusesFear s2 e4) (Nat.le_of_ble_eq_true rfl) rfl (show ash 138 = (13, 38) from rfl) (Nat.lt_of_lt_of_le (show 138 < 154 by decide) hS.1.1) (Nat.le_of_ble_eq_true rfl) (Nat.le_of_ble_eq_true rfl) rfl ?_
    refine y_st (L1 := [(2, ((138 : Nat) : Int)), (0, v1), (0, v2), (0, v3), (0, v4), (0, x3)]) (Nat.le_of_ble_eq_true rfl) rfl ?_
    refine wp_iload (v := x3) rfl ?_
    refine wp_if_le (fun c5 => ?_) (fun c5 => ?_)
    · rw [if_pos c5] at h
      refine y_blk (t := 26) rfl (show fnd bk_X13_answers 26 = some _ from rfl) aB_X13_answers ?_
      refine wp_aload_n (v := ((138 : Nat) : Int)) rfl (Int.natCast_nonneg _) ?_
      refine wp_iload (v := v4) rfl ?_
      refine wp_if_eq (fun c6 => ?_) (fun c6 => ?_)
      · rw [if_pos c6] at h
        refine y_blk (t := 41) rfl (show fnd bk_X13_answers 41 = some _ from rfl) aB_X13_answers ?_
        refine wp_iload_n (v := v1) rfl ?_
        refine wp_iload_n (v := v2) rfl ?_
        refine wp_iload_n (v := v3) rfl ?_
        obtain ⟨x7, e8, h⟩ := d_bind h
        refine y_callS (as := [(0, v1), (0, v2), (0, v3)]) (S1 := [(2, ((138 : Nat) : Int))]) (Nat.le_of_ble_eq_true rfl) (by omega) (t_X13_answered s2 e8) (Nat.le_of_ble_eq_true rfl) rfl (Nat.le_of_ble_eq_true rfl) (Nat.le_of_ble_eq_true rfl) rfl ?_
        refine y_blk (t := 47) rfl (show fnd bk_X13_answers 47 = some _ from rfl) aB_X13_answers ?_
        obtain ⟨x9, e10, h⟩ := d_bind h
        obtain ⟨r11, s12⟩ := t_X13_good s2 e10
        refine y_callV (as := [(0, x7)]) (S1 := []) (Nat.le_of_ble_eq_true rfl) (by omega) r11 (Nat.le_of_ble_eq_true rfl) rfl (show ash 138 = (13, 38) from rfl) (Nat.lt_of_lt_of_le (show 138 < 154 by decide) hS.1.1) (Nat.le_of_ble_eq_true rfl) (Nat.le_of_ble_eq_true rfl) rfl ?_
        refine y_blk (t := 50) rfl (show fnd bk_X13_answers 50 = some _ from rfl) aB_X13_answers ?_
        cases h
        exact y_ret0 (Or.inl rfl) ⟨rfl, rfl, s12⟩
      · rw [if_neg c6] at h
        refine wp_iload_n (v := v1) rfl ?_
        refine wp_iload_n (v := v3) rfl ?_
        refine wp_iload_n (v := v2) rfl ?_
        obtain ⟨x13, e14, h⟩ := d_bind h
        refine y_callS (as := [(0, v1), (0, v3), (0, v2)]) (S1 := [(2, ((138 : Nat) : Int))]) (Nat.le_of_ble_eq_true rfl) (by omega) (t_X13_answered s2 e14) (Nat.le_of_ble_eq_true rfl) rfl (Nat.le_of_ble_eq_true rfl) (Nat.le_of_ble_eq_true rfl) rfl ?_
        refine wp_goto ?_
        refine y_blk (t := 47) rfl (show fnd bk_X13_answers 47 = some _ from rfl) aB_X13_answers ?_
        obtain ⟨x15, e16, h⟩ := d_bind h
        obtain ⟨r17, s18⟩ := t_X13_good s2 e16
        refine y_callV (as := [(0, x13)]) (S1 := []) (Nat.le_of_ble_eq_true rfl) (by omega) r17 (Nat.le_of_ble_eq_true rfl) rfl (show ash 138 = (13, 38) from rfl) (Nat.lt_of_lt_of_le (show 138 < 154 by decide) hS.1.1) (Nat.le_of_ble_eq_true rfl) (Nat.le_of_ble_eq_true rfl) rfl ?_
        refine y_blk (t := 50) rfl (show fnd bk_X13_answers 50 = some _ from rfl) aB_X13_answers ?_
        cases h
        exact y_ret0 (Or.inl rfl) ⟨rfl, rfl, s18⟩
    · rw [if_neg c5] at h
      refine wp_aload_n (v := ((138 : Nat) : Int)) rfl (Int.natCast_nonneg _) ?_
      refine wp_iload (v := x3) rfl ?_
      obtain ⟨x19, e20, h⟩ := d_bind h
      obtain ⟨r21, s22⟩ := t_X13_lost s2 e20
      refine y_callV (as := [(0, x3)]) (S1 := []) (Nat.le_of_ble_eq_true rfl) (by omega) r21 (Nat.le_of_ble_eq_true rfl) rfl (show ash 138 = (13, 38) from rfl) (Nat.lt_of_lt_of_le (show 138 < 154 by decide) hS.1.1) (Nat.le_of_ble_eq_true rfl) (Nat.le_of_ble_eq_true rfl) rfl ?_
      refine wp_goto ?_
      refine y_blk (t := 50) rfl (show fnd bk_X13_answers 50 = some _ from rfl) aB_X13_answers ?_
      cases h
      exact y_ret0 (Or.inl rfl) ⟨rfl, rfl, s22⟩
  exact ⟨fun d hd => Ms.of3 (key d hd), Ms.sh (key 2 (Nat.le_refl _))⟩

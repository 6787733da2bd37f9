/-! ===== methods as functions ===== -/
theorem aB_X1_callsNeeded : ∀ pc, aB 17 pc = fnd bk_X1_callsNeeded pc := fun _ => rfl
def l_X1_callsNeeded_2 (T : Nat) (v1 : Int) (v2 : Int) (k : Int → aM → Option (Int × aM)) : Nat → Int → aM → Option (Int × aM)
| 0, _, _ => none
| n + 1, v3, M =>
 if 8 ≤ v3 then
 k v3 M else
 if 0 ≤ v3 ∧ v3 < 8 then
 (some (aup M 51 (v3).toNat 1000000)).bind fun m3 =>
 if aIn (v3 + 1) then
 l_X1_callsNeeded_2 T v1 v2 k n (v3 + 1) m3 else none else none
theorem tl_X1_callsNeeded_2 {d : Nat} (hd : 4 ≤ d) {T : T3} {v1 : Int} {v2 : Int} {k : Int → aM → Option (Int × aM)} {y : (Int × aM)}  {M0 : aM} (hS : Sh T.1 M0)
    (hk : ∀ (v3 : Int) (u4 u5 : aV) (M : aM), Sh T.1 M → k v3 M = some y → Wp d 17 22 [] [(2, ((48 : Nat) : Int)), (0, v1), (0, v2), (0, v3), u4, u5] [] (M, T) (fun r2 σ2 => r2 = some (0, y.1) ∧ σ2 = (y.2, T) ∧ Sh T.1 y.2)) :
    ∀ (n : Nat) (v3 : Int) (u4 u5 : aV) (M : aM), Sh T.1 M → l_X1_callsNeeded_2 T.1 v1 v2 k n v3 M = some y → Wp d 17 2 [] [(2, ((48 : Nat) : Int)), (0, v1), (0, v2), (0, v3), u4, u5] [] (M, T) (fun r2 σ2 => r2 = some (0, y.1) ∧ σ2 = (y.2, T) ∧ Sh T.1 y.2) := by
  intro n
  induction n with
  | zero =>
    intro v3 u4 u5 M _ h
    exact nomatch (show (none : Option (Int × aM)) = some y from h)
  | succ n ih =>
    intro v3 u4 u5 M sM h
    rw [l_X1_callsNeeded_2] at h
    refine y_blk (t := 2) rfl (show fnd bk_X1_callsNeeded 2 = some _ from rfl) aB_X1_callsNeeded ?_
    refine wp_iload_n (v := v3) rfl ?_
    refine wp_bipush (by decide) ?_
    refine wp_icmp_ge (fun c1 => ?_) (fun c1 => ?_)
    · rw [if_pos c1] at h
      exact hk v3 u4 u5 M sM h
    · rw [if_neg c1] at h
      refine wp_aload_n (v := ((48 : Nat) : Int)) rfl (Int.natCast_nonneg _) ?_
      refine y_get (show ash 48 = (1, 6) from rfl) (Nat.lt_of_lt_of_le (show 48 < 154 by decide) hS.1.1) (v := ((51 : Nat) : Int)) (sM.at 48 5 51 (by decide +kernel)) rfl ?_
      refine wp_iload_n (v := v3) rfl ?_
      refine y_ldc (v := 1000000) (by decide) rfl ?_
      obtain ⟨c2, h⟩ := d_ite h
      refine y_iast (show ash 51 = (100, 8) from rfl) (Nat.lt_of_lt_of_le (show 51 < 154 by decide) hS.1.1) c2 ?_
      obtain ⟨m3, em3, h⟩ := d_bind h
      have em3 := Option.some.inj em3
      have s4 : Sh T.1 m3 := em3 ▸ sM.up (Or.inl ⟨by rw [(show ash 51 = (100, 8) from rfl)]; exact Nat.le_of_ble_eq_true rfl, by rw [(show ash 51 = (100, 8) from rfl)]; exact Nat.le_of_ble_eq_true rfl⟩) (by have := (Nat.lt_of_lt_of_le (show 51 < 154 by decide) hS.1.1); have := hS.1.2; omega)
      rw [em3]
      obtain ⟨c5, h⟩ := d_ite h
      refine y_iinc (L1 := [(2, ((48 : Nat) : Int)), (0, v1), (0, v2), (0, (v3 + 1)), u4, u5]) rfl (Nat.le_of_ble_eq_true rfl) ⟨by decide, by decide⟩ c5 rfl ?_
      refine wp_goto ?_
      exact ih (v3 + 1) u4 u5 m3 s4 h
def l_X1_callsNeeded_50 (T : Nat) (v1 : Int) (v4 : Int) (k : Int → Int → aM → Option (Int × aM)) : Nat → Int → Int → aM → Option (Int × aM)
| 0, _, _, _ => none
| n + 1, v3, v5, M =>
 if (M 3 1) ≤ v5 then
 k v3 v5 M else
 if 0 ≤ v1 ∧ v1 < 3 then
 (f_X1_lessensCalls T (M 8 (v1).toNat) v5 M).bind fun x18 =>
 if x18.1 = 0 then
 if aIn (v5 + 1) then
 l_X1_callsNeeded_50 T v1 v4 k n v3 (v5 + 1) x18.2 else none else
 if aIn (v5 + 1) then
 l_X1_callsNeeded_50 T v1 v4 k n 1 (v5 + 1) x18.2 else none else none
theorem tl_X1_callsNeeded_50 {d : Nat} (hd : 4 ≤ d) {T : T3} {v1 : Int} {v4 : Int} {k : Int → Int → aM → Option (Int × aM)} {y : (Int × aM)}  {M0 : aM} (hS : Sh T.1 M0)
    (hk : ∀ (v3 v5 : Int) (u2 : aV) (M : aM), Sh T.1 M → k v3 v5 M = some y → Wp d 17 90 [] [(2, ((48 : Nat) : Int)), (0, v1), u2, (0, v3), (0, v4), (0, v5)] [] (M, T) (fun r2 σ2 => r2 = some (0, y.1) ∧ σ2 = (y.2, T) ∧ Sh T.1 y.2)) :
    ∀ (n : Nat) (v3 v5 : Int) (u2 : aV) (M : aM), Sh T.1 M → l_X1_callsNeeded_50 T.1 v1 v4 k n v3 v5 M = some y → Wp d 17 50 [] [(2, ((48 : Nat) : Int)), (0, v1), u2, (0, v3), (0, v4), (0, v5)] [] (M, T) (fun r2 σ2 => r2 = some (0, y.1) ∧ σ2 = (y.2, T) ∧ Sh T.1 y.2) := by
  intro n
  induction n with
  | zero =>
    intro v3 v5 u2 M _ h
    exact nomatch (show (none : Option (Int × aM)) = some y from h)
  | succ n ih =>
    intro v3 v5 u2 M sM h
    rw [l_X1_callsNeeded_50] at h
    refine y_blk (t := 50) rfl (show fnd bk_X1_callsNeeded 50 = some _ from rfl) aB_X1_callsNeeded ?_
    refine wp_iload (v := v5) rfl ?_
    refine wp_aload_n (v := ((48 : Nat) : Int)) rfl (Int.natCast_nonneg _) ?_
    refine y_get (show ash 48 = (1, 6) from rfl) (Nat.lt_of_lt_of_le (show 48 < 154 by decide) hS.1.1) (v := ((2 : Nat) : Int)) (sM.at 48 0 2 (by decide +kernel)) rfl ?_
    refine y_get (show ash 2 = (10, 19) from rfl) (Nat.lt_of_lt_of_le (show 2 < 154 by decide) hS.1.1) (v := ((3 : Nat) : Int)) (sM.at 2 3 3 (by decide +kernel)) rfl ?_
    refine wp_iconst ⟨by decide, by decide⟩ ?_
    refine y_iald (show ash 3 = (100, 8) from rfl) (Or.inl (Nat.lt_of_lt_of_le (show 3 < 154 by decide) hS.1.1)) (Nat.ne_of_lt (Nat.lt_of_lt_of_le (Nat.lt_of_lt_of_le (show 3 < 154 by decide) hS.1.1) hS.1.2)) ⟨by decide, by decide⟩ (v := M 3 1) rfl ?_
    refine wp_icmp_ge (fun c16 => ?_) (fun c16 => ?_)
    · rw [if_pos c16] at h
      exact hk v3 v5 u2 M sM h
    · rw [if_neg c16] at h
      refine wp_aload_n (v := ((48 : Nat) : Int)) rfl (Int.natCast_nonneg _) ?_
      refine wp_aload_n (v := ((48 : Nat) : Int)) rfl (Int.natCast_nonneg _) ?_
      refine y_get (show ash 48 = (1, 6) from rfl) (Nat.lt_of_lt_of_le (show 48 < 154 by decide) hS.1.1) (v := ((2 : Nat) : Int)) (sM.at 48 0 2 (by decide +kernel)) rfl ?_
      refine y_get (show ash 2 = (10, 19) from rfl) (Nat.lt_of_lt_of_le (show 2 < 154 by decide) hS.1.1) (v := ((8 : Nat) : Int)) (sM.at 2 10 8 (by decide +kernel)) rfl ?_
      refine wp_iload_n (v := v1) rfl ?_
      obtain ⟨c17, h⟩ := d_ite h
      refine y_iald (show ash 8 = (100, 3) from rfl) (Or.inl (Nat.lt_of_lt_of_le (show 8 < 154 by decide) hS.1.1)) (Nat.ne_of_lt (Nat.lt_of_lt_of_le (Nat.lt_of_lt_of_le (show 8 < 154 by decide) hS.1.1) hS.1.2)) c17 (v := M 8 (v1).toNat) rfl ?_
      refine wp_iload (v := v5) rfl ?_
      obtain ⟨x18, e19, h⟩ := d_bind h
      obtain ⟨r20, s21⟩ := t_X1_lessensCalls sM e19
      refine y_callV (as := [(0, (M 8 (v1).toNat)), (0, v5)]) (S1 := []) (Nat.le_of_ble_eq_true rfl) (by omega) r20 (Nat.le_of_ble_eq_true rfl) rfl (show ash 48 = (1, 6) from rfl) (Nat.lt_of_lt_of_le (show 48 < 154 by decide) hS.1.1) (Nat.le_of_ble_eq_true rfl) (Nat.le_of_ble_eq_true rfl) rfl ?_
      refine wp_if_eq (fun c22 => ?_) (fun c22 => ?_)
      · rw [if_pos c22] at h
        refine y_blk (t := 84) rfl (show fnd bk_X1_callsNeeded 84 = some _ from rfl) aB_X1_callsNeeded ?_
        obtain ⟨c23, h⟩ := d_ite h
        refine y_iinc (L1 := [(2, ((48 : Nat) : Int)), (0, v1), u2, (0, v3), (0, v4), (0, (v5 + 1))]) rfl (Nat.le_of_ble_eq_true rfl) ⟨by decide, by decide⟩ c23 rfl ?_
        refine wp_goto ?_
        exact ih v3 (v5 + 1) u2 x18.2 s21 h
      · rw [if_neg c22] at h
        refine wp_iconst ⟨by decide, by decide⟩ ?_
        refine y_stn (L1 := [(2, ((48 : Nat) : Int)), (0, v1), (ajk u2), (0, 1), (0, v4), (0, v5)]) (Nat.le_of_ble_eq_true rfl) (aset_jk (q := 2) (u := u2) rfl) ?_
        refine y_blk (t := 84) rfl (show fnd bk_X1_callsNeeded 84 = some _ from rfl) aB_X1_callsNeeded ?_
        obtain ⟨c24, h⟩ := d_ite h
        refine y_iinc (L1 := [(2, ((48 : Nat) : Int)), (0, v1), (ajk u2), (0, 1), (0, v4), (0, (v5 + 1))]) rfl (Nat.le_of_ble_eq_true rfl) ⟨by decide, by decide⟩ c24 rfl ?_
        refine wp_goto ?_
        exact ih 1 (v5 + 1) (ajk u2) x18.2 s21 h
def l_X1_callsNeeded_34 (T : Nat) (v1 : Int) (k : Int → Int → aM → Option (Int × aM)) : Nat → Int → Int → aM → Option (Int × aM)
| 0, _, _, _ => none
| n + 1, v3, v4, M =>
 if 8 ≤ v4 then
 k v3 v4 M else
 if v3 = 0 then
 k v3 v4 M else
 l_X1_callsNeeded_50 T v1 v4 (fun w25 w26 m28 =>
 if aIn (v4 + 1) then
 l_X1_callsNeeded_34 T v1 k n w25 (v4 + 1) m28 else none) FU 0 0 M
theorem tl_X1_callsNeeded_34 {d : Nat} (hd : 4 ≤ d) {T : T3} {v1 : Int} {k : Int → Int → aM → Option (Int × aM)} {y : (Int × aM)}  {M0 : aM} (hS : Sh T.1 M0)
    (hk : ∀ (v3 v4 : Int) (u2 u5 : aV) (M : aM), Sh T.1 M → k v3 v4 M = some y → Wp d 17 96 [] [(2, ((48 : Nat) : Int)), (0, v1), u2, (0, v3), (0, v4), u5] [] (M, T) (fun r2 σ2 => r2 = some (0, y.1) ∧ σ2 = (y.2, T) ∧ Sh T.1 y.2)) :
    ∀ (n : Nat) (v3 v4 : Int) (u2 u5 : aV) (M : aM), Sh T.1 M → l_X1_callsNeeded_34 T.1 v1 k n v3 v4 M = some y → Wp d 17 34 [] [(2, ((48 : Nat) : Int)), (0, v1), u2, (0, v3), (0, v4), u5] [] (M, T) (fun r2 σ2 => r2 = some (0, y.1) ∧ σ2 = (y.2, T) ∧ Sh T.1 y.2) := by
  intro n
  induction n with
  | zero =>
    intro v3 v4 u2 u5 M _ h
    exact nomatch (show (none : Option (Int × aM)) = some y from h)
  | succ n ih =>
    intro v3 v4 u2 u5 M sM h
    rw [l_X1_callsNeeded_34] at h
    refine y_blk (t := 34) rfl (show fnd bk_X1_callsNeeded 34 = some _ from rfl) aB_X1_callsNeeded ?_
    refine wp_iload (v := v4) rfl ?_
    refine wp_bipush (by decide) ?_
    refine wp_icmp_ge (fun c14 => ?_) (fun c14 => ?_)
    · rw [if_pos c14] at h
      exact hk v3 v4 u2 u5 M sM h
    · rw [if_neg c14] at h
      refine wp_iload_n (v := v3) rfl ?_
      refine wp_if_eq (fun c15 => ?_) (fun c15 => ?_)
      · rw [if_pos c15] at h
        exact hk v3 v4 u2 u5 M sM h
      · rw [if_neg c15] at h
        refine wp_iconst ⟨by decide, by decide⟩ ?_
        refine y_stn (L1 := [(2, ((48 : Nat) : Int)), (0, v1), (ajk u2), (0, 0), (0, v4), u5]) (Nat.le_of_ble_eq_true rfl) (aset_jk (q := 2) (u := u2) rfl) ?_
        refine wp_iconst ⟨by decide, by decide⟩ ?_
        refine y_st (L1 := [(2, ((48 : Nat) : Int)), (0, v1), (ajk u2), (0, 0), (0, v4), (0, 0)]) (Nat.le_of_ble_eq_true rfl) rfl ?_
        refine tl_X1_callsNeeded_50 (by omega) hS (fun w25 w26 u27 m28 s29 h => ?_) FU 0 0 (ajk u2) M sM h
        refine y_blk (t := 90) rfl (show fnd bk_X1_callsNeeded 90 = some _ from rfl) aB_X1_callsNeeded ?_
        obtain ⟨c30, h⟩ := d_ite h
        refine y_iinc (L1 := [(2, ((48 : Nat) : Int)), (0, v1), u27, (0, w25), (0, (v4 + 1)), (0, w26)]) rfl (Nat.le_of_ble_eq_true rfl) ⟨by decide, by decide⟩ c30 rfl ?_
        refine wp_goto ?_
        exact ih w25 (v4 + 1) u27 (0, w26) m28 s29 h
def f_X1_callsNeeded (T : Nat) (v1 : Int) (v2 : Int) (M : aM) : Option (Int × aM) :=
 l_X1_callsNeeded_2 T v1 v2 (fun w6 m9 =>
 if 0 ≤ v2 ∧ v2 < 8 then
 (some (aup m9 51 (v2).toNat 0)).bind fun m12 =>
 l_X1_callsNeeded_34 T v1 (fun w31 w32 m35 =>
 if 0 ≤ v1 ∧ v1 < 3 then
 if 0 ≤ (m35 36 (v1).toNat) ∧ (m35 36 (v1).toNat) < 8 then
 some ((m35 51 ((m35 36 (v1).toNat)).toNat), m35) else none else none) FU 1 0 m12 else none) FU 0 M
theorem t_X1_callsNeeded {T : T3} {v1 : Int} {v2 : Int} {M : aM} {y : (Int × aM)}  (hS : Sh T.1 M) (h : f_X1_callsNeeded T.1 v1 v2 M = some y) : Mr 4 17 [(2, ((48 : Nat) : Int)), (0, v1), (0, v2)] M (some (0, y.1)) y.2 T ∧ Sh T.1 y.2 := by
  have key : ∀ d, 4 ≤ d → Wp d 17 0 [] [(2, ((48 : Nat) : Int)), (0, v1), (0, v2), (9, 0), (9, 0), (9, 0)] [] (M, T) (fun r2 σ2 => r2 = some (0, y.1) ∧ σ2 = (y.2, T) ∧ Sh T.1 y.2) := by
    intro d hd
    rw [f_X1_callsNeeded] at h
    refine y_blk (t := 0) rfl (show fnd bk_X1_callsNeeded 0 = some _ from rfl) aB_X1_callsNeeded ?_
    refine wp_iconst ⟨by decide, by decide⟩ ?_
    refine y_stn (L1 := [(2, ((48 : Nat) : Int)), (0, v1), (0, v2), (0, 0), (9, 0), (9, 0)]) (Nat.le_of_ble_eq_true rfl) rfl ?_
    refine tl_X1_callsNeeded_2 (by omega) hS (fun w6 u7 u8 m9 s10 h => ?_) FU 0 (9, 0) (9, 0) M hS h
    refine y_blk (t := 22) rfl (show fnd bk_X1_callsNeeded 22 = some _ from rfl) aB_X1_callsNeeded ?_
    refine wp_aload_n (v := ((48 : Nat) : Int)) rfl (Int.natCast_nonneg _) ?_
    refine y_get (show ash 48 = (1, 6) from rfl) (Nat.lt_of_lt_of_le (show 48 < 154 by decide) hS.1.1) (v := ((51 : Nat) : Int)) (s10.at 48 5 51 (by decide +kernel)) rfl ?_
    refine wp_iload_n (v := v2) rfl ?_
    refine wp_iconst ⟨by decide, by decide⟩ ?_
    obtain ⟨c11, h⟩ := d_ite h
    refine y_iast (show ash 51 = (100, 8) from rfl) (Nat.lt_of_lt_of_le (show 51 < 154 by decide) hS.1.1) c11 ?_
    obtain ⟨m12, em12, h⟩ := d_bind h
    have em12 := Option.some.inj em12
    have s13 : Sh T.1 m12 := em12 ▸ s10.up (Or.inl ⟨by rw [(show ash 51 = (100, 8) from rfl)]; exact Nat.le_of_ble_eq_true rfl, by rw [(show ash 51 = (100, 8) from rfl)]; exact Nat.le_of_ble_eq_true rfl⟩) (by have := (Nat.lt_of_lt_of_le (show 51 < 154 by decide) hS.1.1); have := hS.1.2; omega)
    rw [em12]
    refine wp_iconst ⟨by decide, by decide⟩ ?_
    refine y_stn (L1 := [(2, ((48 : Nat) : Int)), (0, v1), (0, v2), (0, 1), u7, u8]) (Nat.le_of_ble_eq_true rfl) rfl ?_
    refine wp_iconst ⟨by decide, by decide⟩ ?_
    refine y_st (L1 := [(2, ((48 : Nat) : Int)), (0, v1), (0, v2), (0, 1), (0, 0), u8]) (Nat.le_of_ble_eq_true rfl) rfl ?_
    refine tl_X1_callsNeeded_34 (by omega) hS (fun w31 w32 u33 u34 m35 s36 h => ?_) FU 1 0 (0, v2) u8 m12 s13 h
    refine y_blk (t := 96) rfl (show fnd bk_X1_callsNeeded 96 = some _ from rfl) aB_X1_callsNeeded ?_
    refine wp_aload_n (v := ((48 : Nat) : Int)) rfl (Int.natCast_nonneg _) ?_
    refine y_get (show ash 48 = (1, 6) from rfl) (Nat.lt_of_lt_of_le (show 48 < 154 by decide) hS.1.1) (v := ((51 : Nat) : Int)) (s36.at 48 5 51 (by decide +kernel)) rfl ?_
    refine wp_aload_n (v := ((48 : Nat) : Int)) rfl (Int.natCast_nonneg _) ?_
    refine y_get (show ash 48 = (1, 6) from rfl) (Nat.lt_of_lt_of_le (show 48 < 154 by decide) hS.1.1) (v := ((35 : Nat) : Int)) (s36.at 48 1 35 (by decide +kernel)) rfl ?_
    refine y_get (show ash 35 = (8, 5) from rfl) (Nat.lt_of_lt_of_le (show 35 < 154 by decide) hS.1.1) (v := ((36 : Nat) : Int)) (s36.at 35 0 36 (by decide +kernel)) rfl ?_
    refine wp_iload_n (v := v1) rfl ?_
    obtain ⟨c37, h⟩ := d_ite h
    refine y_iald (show ash 36 = (100, 3) from rfl) (Or.inl (Nat.lt_of_lt_of_le (show 36 < 154 by decide) hS.1.1)) (Nat.ne_of_lt (Nat.lt_of_lt_of_le (Nat.lt_of_lt_of_le (show 36 < 154 by decide) hS.1.1) hS.1.2)) c37 (v := m35 36 (v1).toNat) rfl ?_
    obtain ⟨c38, h⟩ := d_ite h
    refine y_iald (show ash 51 = (100, 8) from rfl) (Or.inl (Nat.lt_of_lt_of_le (show 51 < 154 by decide) hS.1.1)) (Nat.ne_of_lt (Nat.lt_of_lt_of_le (Nat.lt_of_lt_of_le (show 51 < 154 by decide) hS.1.1) hS.1.2)) c38 (v := m35 51 ((m35 36 (v1).toNat)).toNat) rfl ?_
    cases h
    exact y_ret0 (Or.inl rfl) ⟨rfl, rfl, s36⟩
  exact ⟨fun d hd => Ms.of3 (key d hd), Ms.sh (key 4 (Nat.le_refl _))⟩
theorem aB_X1_firstCall : ∀ pc, aB 21 pc = fnd bk_X1_firstCall pc := fun _ => rfl
def l_X1_firstCall_2 (T : Nat) (v1 : Int) (v2 : Int) (M : aM) (k : Int → Option Int) : Nat → Int → Option Int
| 0, _ => none
| n + 1, v3 =>
 if (M 3 1) ≤ v3 then
 k v3 else
 (f_X1_isMouth T v3 M).bind fun x2 =>
 if x2 = 0 then
 if aIn (v3 + 1) then
 l_X1_firstCall_2 T v1 v2 M k n (v3 + 1) else none else
 (f_X1_callStep T v1 v2 v3 M).bind fun x6 =>
 if 0 ≤ x6 ∧ x6 < 8 then
 if 0 ≤ v2 ∧ v2 < 8 then
 if aIn ((M 51 (v2).toNat) - 1) then
 if (M 51 (x6).toNat) = ((M 51 (v2).toNat) - 1) then
 some v3 else
 if aIn (v3 + 1) then
 l_X1_firstCall_2 T v1 v2 M k n (v3 + 1) else none else none else none else none
theorem tl_X1_firstCall_2 {d : Nat} (hd : 3 ≤ d) {T : T3} {v1 : Int} {v2 : Int} {M : aM} {k : Int → Option Int} {y : Int}  (hS : Sh T.1 M)
    (hk : ∀ (v3 : Int), Sh T.1 M → k v3 = some y → Wp d 21 54 [] [(2, ((48 : Nat) : Int)), (0, v1), (0, v2), (0, v3)] [] (M, T) (fun r2 σ2 => r2 = some (0, y) ∧ σ2 = (M, T))) :
    ∀ (n : Nat) (v3 : Int), Sh T.1 M → l_X1_firstCall_2 T.1 v1 v2 M k n v3 = some y → Wp d 21 2 [] [(2, ((48 : Nat) : Int)), (0, v1), (0, v2), (0, v3)] [] (M, T) (fun r2 σ2 => r2 = some (0, y) ∧ σ2 = (M, T)) := by
  intro n
  induction n with
  | zero =>
    intro v3 _ h
    exact nomatch (show (none : Option Int) = some y from h)
  | succ n ih =>
    intro v3 sM h
    rw [l_X1_firstCall_2] at h
    refine y_blk (t := 2) rfl (show fnd bk_X1_firstCall 2 = some _ from rfl) aB_X1_firstCall ?_
    refine wp_iload_n (v := v3) rfl ?_
    refine wp_aload_n (v := ((48 : Nat) : Int)) rfl (Int.natCast_nonneg _) ?_
    refine y_get (show ash 48 = (1, 6) from rfl) (Nat.lt_of_lt_of_le (show 48 < 154 by decide) hS.1.1) (v := ((2 : Nat) : Int)) (sM.at 48 0 2 (by decide +kernel)) rfl ?_
    refine y_get (show ash 2 = (10, 19) from rfl) (Nat.lt_of_lt_of_le (show 2 < 154 by decide) hS.1.1) (v := ((3 : Nat) : Int)) (sM.at 2 3 3 (by decide +kernel)) rfl ?_
    refine wp_iconst ⟨by decide, by decide⟩ ?_
    refine y_iald (show ash 3 = (100, 8) from rfl) (Or.inl (Nat.lt_of_lt_of_le (show 3 < 154 by decide) hS.1.1)) (Nat.ne_of_lt (Nat.lt_of_lt_of_le (Nat.lt_of_lt_of_le (show 3 < 154 by decide) hS.1.1) hS.1.2)) ⟨by decide, by decide⟩ (v := M 3 1) rfl ?_
    refine wp_icmp_ge (fun c1 => ?_) (fun c1 => ?_)
    · rw [if_pos c1] at h
      exact hk v3   sM h
    · rw [if_neg c1] at h
      refine wp_aload_n (v := ((48 : Nat) : Int)) rfl (Int.natCast_nonneg _) ?_
      refine wp_iload_n (v := v3) rfl ?_
      obtain ⟨x2, e3, h⟩ := d_bind h
      refine y_callV (as := [(0, v3)]) (S1 := []) (Nat.le_of_ble_eq_true rfl) (by omega) (t_X1_isMouth sM e3) (Nat.le_of_ble_eq_true rfl) rfl (show ash 48 = (1, 6) from rfl) (Nat.lt_of_lt_of_le (show 48 < 154 by decide) hS.1.1) (Nat.le_of_ble_eq_true rfl) (Nat.le_of_ble_eq_true rfl) rfl ?_
      refine wp_if_eq (fun c4 => ?_) (fun c4 => ?_)
      · rw [if_pos c4] at h
        refine y_blk (t := 48) rfl (show fnd bk_X1_firstCall 48 = some _ from rfl) aB_X1_firstCall ?_
        obtain ⟨c5, h⟩ := d_ite h
        refine y_iinc (L1 := [(2, ((48 : Nat) : Int)), (0, v1), (0, v2), (0, (v3 + 1))]) rfl (Nat.le_of_ble_eq_true rfl) ⟨by decide, by decide⟩ c5 rfl ?_
        refine wp_goto ?_
        exact ih (v3 + 1)   sM h
      · rw [if_neg c4] at h
        refine wp_aload_n (v := ((48 : Nat) : Int)) rfl (Int.natCast_nonneg _) ?_
        refine y_get (show ash 48 = (1, 6) from rfl) (Nat.lt_of_lt_of_le (show 48 < 154 by decide) hS.1.1) (v := ((51 : Nat) : Int)) (sM.at 48 5 51 (by decide +kernel)) rfl ?_
        refine wp_aload_n (v := ((48 : Nat) : Int)) rfl (Int.natCast_nonneg _) ?_
        refine wp_iload_n (v := v1) rfl ?_
        refine wp_iload_n (v := v2) rfl ?_
        refine wp_iload_n (v := v3) rfl ?_
        obtain ⟨x6, e7, h⟩ := d_bind h
        refine y_callV (as := [(0, v1), (0, v2), (0, v3)]) (S1 := [(2, ((51 : Nat) : Int))]) (Nat.le_of_ble_eq_true rfl) (by omega) (t_X1_callStep sM e7) (Nat.le_of_ble_eq_true rfl) rfl (show ash 48 = (1, 6) from rfl) (Nat.lt_of_lt_of_le (show 48 < 154 by decide) hS.1.1) (Nat.le_of_ble_eq_true rfl) (Nat.le_of_ble_eq_true rfl) rfl ?_
        obtain ⟨c8, h⟩ := d_ite h
        refine y_iald (show ash 51 = (100, 8) from rfl) (Or.inl (Nat.lt_of_lt_of_le (show 51 < 154 by decide) hS.1.1)) (Nat.ne_of_lt (Nat.lt_of_lt_of_le (Nat.lt_of_lt_of_le (show 51 < 154 by decide) hS.1.1) hS.1.2)) c8 (v := M 51 (x6).toNat) rfl ?_
        refine wp_aload_n (v := ((48 : Nat) : Int)) rfl (Int.natCast_nonneg _) ?_
        refine y_get (show ash 48 = (1, 6) from rfl) (Nat.lt_of_lt_of_le (show 48 < 154 by decide) hS.1.1) (v := ((51 : Nat) : Int)) (sM.at 48 5 51 (by decide +kernel)) rfl ?_
        refine wp_iload_n (v := v2) rfl ?_
        obtain ⟨c9, h⟩ := d_ite h
        refine y_iald (show ash 51 = (100, 8) from rfl) (Or.inl (Nat.lt_of_lt_of_le (show 51 < 154 by decide) hS.1.1)) (Nat.ne_of_lt (Nat.lt_of_lt_of_le (Nat.lt_of_lt_of_le (show 51 < 154 by decide) hS.1.1) hS.1.2)) c9 (v := M 51 (v2).toNat) rfl ?_
        refine wp_iconst ⟨by decide, by decide⟩ ?_
        obtain ⟨c10, h⟩ := d_ite h
        refine wp_isub c10 ?_
        refine y_ne (fun c11 => ?_) (fun c11 => ?_)
        · rw [if_neg c11] at h
          refine y_blk (t := 48) rfl (show fnd bk_X1_firstCall 48 = some _ from rfl) aB_X1_firstCall ?_
          obtain ⟨c12, h⟩ := d_ite h
          refine y_iinc (L1 := [(2, ((48 : Nat) : Int)), (0, v1), (0, v2), (0, (v3 + 1))]) rfl (Nat.le_of_ble_eq_true rfl) ⟨by decide, by decide⟩ c12 rfl ?_
          refine wp_goto ?_
          exact ih (v3 + 1)   sM h
        · rw [if_pos c11] at h
          refine wp_iload_n (v := v3) rfl ?_
          cases h
          exact y_ret0 (Or.inl rfl) ⟨rfl, rfl⟩
def f_X1_firstCall (T : Nat) (v1 : Int) (v2 : Int) (M : aM) : Option Int :=
 l_X1_firstCall_2 T v1 v2 M (fun w13 =>
 some v2) FU 0
theorem t_X1_firstCall {T : T3} {v1 : Int} {v2 : Int} {M : aM} {y : Int}  (hS : Sh T.1 M) (h : f_X1_firstCall T.1 v1 v2 M = some y) : Mr 3 21 [(2, ((48 : Nat) : Int)), (0, v1), (0, v2)] M (some (0, y)) M T := by
  have key : ∀ d, 3 ≤ d → Wp d 21 0 [] [(2, ((48 : Nat) : Int)), (0, v1), (0, v2), (9, 0)] [] (M, T) (fun r2 σ2 => r2 = some (0, y) ∧ σ2 = (M, T)) := by
    intro d hd
    rw [f_X1_firstCall] at h
    refine y_blk (t := 0) rfl (show fnd bk_X1_firstCall 0 = some _ from rfl) aB_X1_firstCall ?_
    refine wp_iconst ⟨by decide, by decide⟩ ?_
    refine y_stn (L1 := [(2, ((48 : Nat) : Int)), (0, v1), (0, v2), (0, 0)]) (Nat.le_of_ble_eq_true rfl) rfl ?_
    refine tl_X1_firstCall_2 (by omega) hS (fun w13   s14 h => ?_) FU 0   hS h
    refine y_blk (t := 54) rfl (show fnd bk_X1_firstCall 54 = some _ from rfl) aB_X1_firstCall ?_
    refine wp_iload_n (v := v2) rfl ?_
    cases h
    exact y_ret0 (Or.inl rfl) ⟨rfl, rfl⟩
  exact fun d hd => Ms.of (key d hd)
theorem aB_X1_callAt : ∀ pc, aB 20 pc = fnd bk_X1_callAt pc := fun _ => rfl
def l_X1_callAt_13 (T : Nat) (v1 : Int) (v2 : Int) (M : aM) (k : Int → Int → Option Int) : Nat → Int → Int → Option Int
| 0, _, _ => none
| n + 1, v3, v4 =>
 if v2 ≤ v4 then
 k v3 v4 else
 if 8 ≤ v4 then
 k v3 v4 else
 if 0 ≤ v1 ∧ v1 < 3 then
 (f_X1_firstCall T (M 8 (v1).toNat) v3 M).bind fun x5 =>
 (f_X1_callStep T (M 8 (v1).toNat) v3 x5 M).bind fun x7 =>
 if aIn (v4 + 1) then
 l_X1_callAt_13 T v1 v2 M k n x7 (v4 + 1) else none else none
theorem tl_X1_callAt_13 {d : Nat} (hd : 4 ≤ d) {T : T3} {v1 : Int} {v2 : Int} {M : aM} {k : Int → Int → Option Int} {y : Int}  (hS : Sh T.1 M)
    (hk : ∀ (v3 v4 : Int), Sh T.1 M → k v3 v4 = some y → Wp d 20 61 [] [(2, ((48 : Nat) : Int)), (0, v1), (0, v2), (0, v3), (0, v4)] [] (M, T) (fun r2 σ2 => r2 = some (0, y) ∧ σ2 = (M, T))) :
    ∀ (n : Nat) (v3 v4 : Int), Sh T.1 M → l_X1_callAt_13 T.1 v1 v2 M k n v3 v4 = some y → Wp d 20 13 [] [(2, ((48 : Nat) : Int)), (0, v1), (0, v2), (0, v3), (0, v4)] [] (M, T) (fun r2 σ2 => r2 = some (0, y) ∧ σ2 = (M, T)) := by
  intro n
  induction n with
  | zero =>
    intro v3 v4 _ h
    exact nomatch (show (none : Option Int) = some y from h)
  | succ n ih =>
    intro v3 v4 sM h
    rw [l_X1_callAt_13] at h
    refine y_blk (t := 13) rfl (show fnd bk_X1_callAt 13 = some _ from rfl) aB_X1_callAt ?_
    refine wp_iload (v := v4) rfl ?_
    refine wp_iload_n (v := v2) rfl ?_
    refine wp_icmp_ge (fun c2 => ?_) (fun c2 => ?_)
    · rw [if_pos c2] at h
      exact hk v3 v4   sM h
    · rw [if_neg c2] at h
      refine wp_iload (v := v4) rfl ?_
      refine wp_bipush (by decide) ?_
      refine wp_icmp_ge (fun c3 => ?_) (fun c3 => ?_)
      · rw [if_pos c3] at h
        exact hk v3 v4   sM h
      · rw [if_neg c3] at h
        refine wp_aload_n (v := ((48 : Nat) : Int)) rfl (Int.natCast_nonneg _) ?_
        refine wp_aload_n (v := ((48 : Nat) : Int)) rfl (Int.natCast_nonneg _) ?_
        refine y_get (show ash 48 = (1, 6) from rfl) (Nat.lt_of_lt_of_le (show 48 < 154 by decide) hS.1.1) (v := ((2 : Nat) : Int)) (sM.at 48 0 2 (by decide +kernel)) rfl ?_
        refine y_get (show ash 2 = (10, 19) from rfl) (Nat.lt_of_lt_of_le (show 2 < 154 by decide) hS.1.1) (v := ((8 : Nat) : Int)) (sM.at 2 10 8 (by decide +kernel)) rfl ?_
        refine wp_iload_n (v := v1) rfl ?_
        obtain ⟨c4, h⟩ := d_ite h
        refine y_iald (show ash 8 = (100, 3) from rfl) (Or.inl (Nat.lt_of_lt_of_le (show 8 < 154 by decide) hS.1.1)) (Nat.ne_of_lt (Nat.lt_of_lt_of_le (Nat.lt_of_lt_of_le (show 8 < 154 by decide) hS.1.1) hS.1.2)) c4 (v := M 8 (v1).toNat) rfl ?_
        refine wp_iload_n (v := v3) rfl ?_
        refine wp_aload_n (v := ((48 : Nat) : Int)) rfl (Int.natCast_nonneg _) ?_
        refine wp_aload_n (v := ((48 : Nat) : Int)) rfl (Int.natCast_nonneg _) ?_
        refine y_get (show ash 48 = (1, 6) from rfl) (Nat.lt_of_lt_of_le (show 48 < 154 by decide) hS.1.1) (v := ((2 : Nat) : Int)) (sM.at 48 0 2 (by decide +kernel)) rfl ?_
        refine y_get (show ash 2 = (10, 19) from rfl) (Nat.lt_of_lt_of_le (show 2 < 154 by decide) hS.1.1) (v := ((8 : Nat) : Int)) (sM.at 2 10 8 (by decide +kernel)) rfl ?_
        refine wp_iload_n (v := v1) rfl ?_
        refine y_iald (show ash 8 = (100, 3) from rfl) (Or.inl (Nat.lt_of_lt_of_le (show 8 < 154 by decide) hS.1.1)) (Nat.ne_of_lt (Nat.lt_of_lt_of_le (Nat.lt_of_lt_of_le (show 8 < 154 by decide) hS.1.1) hS.1.2)) c4 (v := M 8 (v1).toNat) rfl ?_
        refine wp_iload_n (v := v3) rfl ?_
        obtain ⟨x5, e6, h⟩ := d_bind h
        refine y_callV (as := [(0, (M 8 (v1).toNat)), (0, v3)]) (S1 := [(0, v3), (0, (M 8 (v1).toNat)), (2, ((48 : Nat) : Int))]) (Nat.le_of_ble_eq_true rfl) (by omega) (t_X1_firstCall sM e6) (Nat.le_of_ble_eq_true rfl) rfl (show ash 48 = (1, 6) from rfl) (Nat.lt_of_lt_of_le (show 48 < 154 by decide) hS.1.1) (Nat.le_of_ble_eq_true rfl) (Nat.le_of_ble_eq_true rfl) rfl ?_
        obtain ⟨x7, e8, h⟩ := d_bind h
        refine y_callV (as := [(0, (M 8 (v1).toNat)), (0, v3), (0, x5)]) (S1 := []) (Nat.le_of_ble_eq_true rfl) (by omega) (t_X1_callStep sM e8) (Nat.le_of_ble_eq_true rfl) rfl (show ash 48 = (1, 6) from rfl) (Nat.lt_of_lt_of_le (show 48 < 154 by decide) hS.1.1) (Nat.le_of_ble_eq_true rfl) (Nat.le_of_ble_eq_true rfl) rfl ?_
        refine y_stn (L1 := [(2, ((48 : Nat) : Int)), (0, v1), (0, v2), (0, x7), (0, v4)]) (Nat.le_of_ble_eq_true rfl) rfl ?_
        obtain ⟨c9, h⟩ := d_ite h
        refine y_iinc (L1 := [(2, ((48 : Nat) : Int)), (0, v1), (0, v2), (0, x7), (0, (v4 + 1))]) rfl (Nat.le_of_ble_eq_true rfl) ⟨by decide, by decide⟩ c9 rfl ?_
        refine wp_goto ?_
        exact ih x7 (v4 + 1)   sM h
def f_X1_callAt (T : Nat) (v1 : Int) (v2 : Int) (M : aM) : Option Int :=
 if 0 ≤ v1 ∧ v1 < 3 then
 l_X1_callAt_13 T v1 v2 M (fun w10 w11 =>
 (f_X1_firstCall T (M 8 (v1).toNat) w10 M).bind fun x13 =>
 some x13) FU (M 36 (v1).toNat) 0 else none
theorem t_X1_callAt {T : T3} {v1 : Int} {v2 : Int} {M : aM} {y : Int}  (hS : Sh T.1 M) (h : f_X1_callAt T.1 v1 v2 M = some y) : Mr 4 20 [(2, ((48 : Nat) : Int)), (0, v1), (0, v2)] M (some (0, y)) M T := by
  have key : ∀ d, 4 ≤ d → Wp d 20 0 [] [(2, ((48 : Nat) : Int)), (0, v1), (0, v2), (9, 0), (9, 0)] [] (M, T) (fun r2 σ2 => r2 = some (0, y) ∧ σ2 = (M, T)) := by
    intro d hd
    rw [f_X1_callAt] at h
    refine y_blk (t := 0) rfl (show fnd bk_X1_callAt 0 = some _ from rfl) aB_X1_callAt ?_
    refine wp_aload_n (v := ((48 : Nat) : Int)) rfl (Int.natCast_nonneg _) ?_
    refine y_get (show ash 48 = (1, 6) from rfl) (Nat.lt_of_lt_of_le (show 48 < 154 by decide) hS.1.1) (v := ((35 : Nat) : Int)) (hS.at 48 1 35 (by decide +kernel)) rfl ?_
    refine y_get (show ash 35 = (8, 5) from rfl) (Nat.lt_of_lt_of_le (show 35 < 154 by decide) hS.1.1) (v := ((36 : Nat) : Int)) (hS.at 35 0 36 (by decide +kernel)) rfl ?_
    refine wp_iload_n (v := v1) rfl ?_
    obtain ⟨c1, h⟩ := d_ite h
    refine y_iald (show ash 36 = (100, 3) from rfl) (Or.inl (Nat.lt_of_lt_of_le (show 36 < 154 by decide) hS.1.1)) (Nat.ne_of_lt (Nat.lt_of_lt_of_le (Nat.lt_of_lt_of_le (show 36 < 154 by decide) hS.1.1) hS.1.2)) c1 (v := M 36 (v1).toNat) rfl ?_
    refine y_stn (L1 := [(2, ((48 : Nat) : Int)), (0, v1), (0, v2), (0, (M 36 (v1).toNat)), (9, 0)]) (Nat.le_of_ble_eq_true rfl) rfl ?_
    refine wp_iconst ⟨by decide, by decide⟩ ?_
    refine y_st (L1 := [(2, ((48 : Nat) : Int)), (0, v1), (0, v2), (0, (M 36 (v1).toNat)), (0, 0)]) (Nat.le_of_ble_eq_true rfl) rfl ?_
    refine tl_X1_callAt_13 (by omega) hS (fun w10 w11   s12 h => ?_) FU (M 36 (v1).toNat) 0   hS h
    refine y_blk (t := 61) rfl (show fnd bk_X1_callAt 61 = some _ from rfl) aB_X1_callAt ?_
    refine wp_aload_n (v := ((48 : Nat) : Int)) rfl (Int.natCast_nonneg _) ?_
    refine wp_aload_n (v := ((48 : Nat) : Int)) rfl (Int.natCast_nonneg _) ?_
    refine y_get (show ash 48 = (1, 6) from rfl) (Nat.lt_of_lt_of_le (show 48 < 154 by decide) hS.1.1) (v := ((2 : Nat) : Int)) (s12.at 48 0 2 (by decide +kernel)) rfl ?_
    refine y_get (show ash 2 = (10, 19) from rfl) (Nat.lt_of_lt_of_le (show 2 < 154 by decide) hS.1.1) (v := ((8 : Nat) : Int)) (s12.at 2 10 8 (by decide +kernel)) rfl ?_
    refine wp_iload_n (v := v1) rfl ?_
    refine y_iald (show ash 8 = (100, 3) from rfl) (Or.inl (Nat.lt_of_lt_of_le (show 8 < 154 by decide) hS.1.1)) (Nat.ne_of_lt (Nat.lt_of_lt_of_le (Nat.lt_of_lt_of_le (show 8 < 154 by decide) hS.1.1) hS.1.2)) c1 (v := M 8 (v1).toNat) rfl ?_
    refine wp_iload_n (v := w10) rfl ?_
    obtain ⟨x13, e14, h⟩ := d_bind h
    refine y_callV (as := [(0, (M 8 (v1).toNat)), (0, w10)]) (S1 := []) (Nat.le_of_ble_eq_true rfl) (by omega) (t_X1_firstCall s12 e14) (Nat.le_of_ble_eq_true rfl) rfl (show ash 48 = (1, 6) from rfl) (Nat.lt_of_lt_of_le (show 48 < 154 by decide) hS.1.1) (Nat.le_of_ble_eq_true rfl) (Nat.le_of_ble_eq_true rfl) rfl ?_
    cases h
    exact y_ret0 (Or.inl rfl) ⟨rfl, rfl⟩
  exact fun d hd => Ms.of (key d hd)
theorem aB_X1_oneCallFrom : ∀ pc, aB 23 pc = fnd bk_X1_oneCallFrom pc := fun _ => rfl
def l_X1_oneCallFrom_5 (T : Nat) (v1 : Int) (v2 : Int) (M : aM) (k : Int → Int → Option Int) : Nat → Int → Int → Option Int
| 0, _, _ => none
| n + 1, v3, v4 =>
 if (M 3 1) ≤ v4 then
 k v3 v4 else
 (f_X1_isMouth T v4 M).bind fun x2 =>
 if x2 = 0 then
 if aIn (v4 + 1) then
 l_X1_oneCallFrom_5 T v1 v2 M k n v3 (v4 + 1) else none else
 (f_X1_callStep T v1 v2 v4 M).bind fun x6 =>
 if aIn (v4 + 1) then
 l_X1_oneCallFrom_5 T v1 v2 M k n (aor v3 (ashl 1 x6)) (v4 + 1) else none
theorem tl_X1_oneCallFrom_5 {d : Nat} (hd : 3 ≤ d) {T : T3} {v1 : Int} {v2 : Int} {M : aM} {k : Int → Int → Option Int} {y : Int}  (hS : Sh T.1 M)
    (hk : ∀ (v3 v4 : Int), Sh T.1 M → k v3 v4 = some y → Wp d 23 47 [] [(2, ((48 : Nat) : Int)), (0, v1), (0, v2), (0, v3), (0, v4)] [] (M, T) (fun r2 σ2 => r2 = some (0, y) ∧ σ2 = (M, T))) :
    ∀ (n : Nat) (v3 v4 : Int), Sh T.1 M → l_X1_oneCallFrom_5 T.1 v1 v2 M k n v3 v4 = some y → Wp d 23 5 [] [(2, ((48 : Nat) : Int)), (0, v1), (0, v2), (0, v3), (0, v4)] [] (M, T) (fun r2 σ2 => r2 = some (0, y) ∧ σ2 = (M, T)) := by
  intro n
  induction n with
  | zero =>
    intro v3 v4 _ h
    exact nomatch (show (none : Option Int) = some y from h)
  | succ n ih =>
    intro v3 v4 sM h
    rw [l_X1_oneCallFrom_5] at h
    refine y_blk (t := 5) rfl (show fnd bk_X1_oneCallFrom 5 = some _ from rfl) aB_X1_oneCallFrom ?_
    refine wp_iload (v := v4) rfl ?_
    refine wp_aload_n (v := ((48 : Nat) : Int)) rfl (Int.natCast_nonneg _) ?_
    refine y_get (show ash 48 = (1, 6) from rfl) (Nat.lt_of_lt_of_le (show 48 < 154 by decide) hS.1.1) (v := ((2 : Nat) : Int)) (sM.at 48 0 2 (by decide +kernel)) rfl ?_
    refine y_get (show ash 2 = (10, 19) from rfl) (Nat.lt_of_lt_of_le (show 2 < 154 by decide) hS.1.1) (v := ((3 : Nat) : Int)) (sM.at 2 3 3 (by decide +kernel)) rfl ?_
    refine wp_iconst ⟨by decide, by decide⟩ ?_
    refine y_iald (show ash 3 = (100, 8) from rfl) (Or.inl (Nat.lt_of_lt_of_le (show 3 < 154 by decide) hS.1.1)) (Nat.ne_of_lt (Nat.lt_of_lt_of_le (Nat.lt_of_lt_of_le (show 3 < 154 by decide) hS.1.1) hS.1.2)) ⟨by decide, by decide⟩ (v := M 3 1) rfl ?_
    refine wp_icmp_ge (fun c1 => ?_) (fun c1 => ?_)
    · rw [if_pos c1] at h
      exact hk v3 v4   sM h
    · rw [if_neg c1] at h
      refine wp_aload_n (v := ((48 : Nat) : Int)) rfl (Int.natCast_nonneg _) ?_
      refine wp_iload (v := v4) rfl ?_
      obtain ⟨x2, e3, h⟩ := d_bind h
      refine y_callV (as := [(0, v4)]) (S1 := []) (Nat.le_of_ble_eq_true rfl) (by omega) (t_X1_isMouth sM e3) (Nat.le_of_ble_eq_true rfl) rfl (show ash 48 = (1, 6) from rfl) (Nat.lt_of_lt_of_le (show 48 < 154 by decide) hS.1.1) (Nat.le_of_ble_eq_true rfl) (Nat.le_of_ble_eq_true rfl) rfl ?_
      refine wp_if_eq (fun c4 => ?_) (fun c4 => ?_)
      · rw [if_pos c4] at h
        refine y_blk (t := 41) rfl (show fnd bk_X1_oneCallFrom 41 = some _ from rfl) aB_X1_oneCallFrom ?_
        obtain ⟨c5, h⟩ := d_ite h
        refine y_iinc (L1 := [(2, ((48 : Nat) : Int)), (0, v1), (0, v2), (0, v3), (0, (v4 + 1))]) rfl (Nat.le_of_ble_eq_true rfl) ⟨by decide, by decide⟩ c5 rfl ?_
        refine wp_goto ?_
        exact ih v3 (v4 + 1)   sM h
      · rw [if_neg c4] at h
        refine wp_iload_n (v := v3) rfl ?_
        refine wp_iconst ⟨by decide, by decide⟩ ?_
        refine wp_aload_n (v := ((48 : Nat) : Int)) rfl (Int.natCast_nonneg _) ?_
        refine wp_iload_n (v := v1) rfl ?_
        refine wp_iload_n (v := v2) rfl ?_
        refine wp_iload (v := v4) rfl ?_
        obtain ⟨x6, e7, h⟩ := d_bind h
        refine y_callV (as := [(0, v1), (0, v2), (0, v4)]) (S1 := [(0, 1), (0, v3)]) (Nat.le_of_ble_eq_true rfl) (by omega) (t_X1_callStep sM e7) (Nat.le_of_ble_eq_true rfl) rfl (show ash 48 = (1, 6) from rfl) (Nat.lt_of_lt_of_le (show 48 < 154 by decide) hS.1.1) (Nat.le_of_ble_eq_true rfl) (Nat.le_of_ble_eq_true rfl) rfl ?_
        refine wp_ishl ?_
        refine wp_ior ?_
        refine y_stn (L1 := [(2, ((48 : Nat) : Int)), (0, v1), (0, v2), (0, (aor v3 (ashl 1 x6))), (0, v4)]) (Nat.le_of_ble_eq_true rfl) rfl ?_
        refine y_blk (t := 41) rfl (show fnd bk_X1_oneCallFrom 41 = some _ from rfl) aB_X1_oneCallFrom ?_
        obtain ⟨c8, h⟩ := d_ite h
        refine y_iinc (L1 := [(2, ((48 : Nat) : Int)), (0, v1), (0, v2), (0, (aor v3 (ashl 1 x6))), (0, (v4 + 1))]) rfl (Nat.le_of_ble_eq_true rfl) ⟨by decide, by decide⟩ c8 rfl ?_
        refine wp_goto ?_
        exact ih (aor v3 (ashl 1 x6)) (v4 + 1)   sM h
def f_X1_oneCallFrom (T : Nat) (v1 : Int) (v2 : Int) (M : aM) : Option Int :=
 l_X1_oneCallFrom_5 T v1 v2 M (fun w9 w10 =>
 some w9) FU 0 0
theorem t_X1_oneCallFrom {T : T3} {v1 : Int} {v2 : Int} {M : aM} {y : Int}  (hS : Sh T.1 M) (h : f_X1_oneCallFrom T.1 v1 v2 M = some y) : Mr 3 23 [(2, ((48 : Nat) : Int)), (0, v1), (0, v2)] M (some (0, y)) M T := by
  have key : ∀ d, 3 ≤ d → Wp d 23 0 [] [(2, ((48 : Nat) : Int)), (0, v1), (0, v2), (9, 0), (9, 0)] [] (M, T) (fun r2 σ2 => r2 = some (0, y) ∧ σ2 = (M, T)) := by
    intro d hd
    rw [f_X1_oneCallFrom] at h
    refine y_blk (t := 0) rfl (show fnd bk_X1_oneCallFrom 0 = some _ from rfl) aB_X1_oneCallFrom ?_
    refine wp_iconst ⟨by decide, by decide⟩ ?_
    refine y_stn (L1 := [(2, ((48 : Nat) : Int)), (0, v1), (0, v2), (0, 0), (9, 0)]) (Nat.le_of_ble_eq_true rfl) rfl ?_
    refine wp_iconst ⟨by decide, by decide⟩ ?_
    refine y_st (L1 := [(2, ((48 : Nat) : Int)), (0, v1), (0, v2), (0, 0), (0, 0)]) (Nat.le_of_ble_eq_true rfl) rfl ?_
    refine tl_X1_oneCallFrom_5 (by omega) hS (fun w9 w10   s11 h => ?_) FU 0 0   hS h
    refine y_blk (t := 47) rfl (show fnd bk_X1_oneCallFrom 47 = some _ from rfl) aB_X1_oneCallFrom ?_
    refine wp_iload_n (v := w9) rfl ?_
    cases h
    exact y_ret0 (Or.inl rfl) ⟨rfl, rfl⟩
  exact fun d hd => Ms.of (key d hd)
theorem aB_X1_broughtTo : ∀ pc, aB 22 pc = fnd bk_X1_broughtTo pc := fun _ => rfl
def l_X1_broughtTo_35 (T : Nat) (v1 : Int) (v3 : Int) (v4 : Int) (v5 : Int) (M : aM) (k : Int → Int → Option Int) : Nat → Int → Int → Option Int
| 0, _, _ => none
| n + 1, v2, v6 =>
 if (M 3 1) ≤ v6 then
 k v2 v6 else
 (f_X11_hasBit T (aand v5 (axor v3 (-1))) v6 M).bind fun x5 =>
 if x5 = 0 then
 if aIn (v6 + 1) then
 l_X1_broughtTo_35 T v1 v3 v4 v5 M k n v2 (v6 + 1) else none else
 if 0 ≤ v1 ∧ v1 < 3 then
 (f_X1_oneCallFrom T (M 8 (v1).toNat) v6 M).bind fun x10 =>
 if aIn (v6 + 1) then
 l_X1_broughtTo_35 T v1 v3 v4 v5 M k n (aor v2 x10) (v6 + 1) else none else none
theorem tl_X1_broughtTo_35 {d : Nat} (hd : 4 ≤ d) {T : T3} {v1 : Int} {v3 : Int} {v4 : Int} {v5 : Int} {M : aM} {k : Int → Int → Option Int} {y : Int}  (hS : Sh T.1 M)
    (hk : ∀ (v2 v6 : Int), Sh T.1 M → k v2 v6 = some y → Wp d 22 87 [] [(2, ((48 : Nat) : Int)), (0, v1), (0, v2), (0, v3), (0, v4), (0, v5), (0, v6)] [] (M, T) (fun r2 σ2 => r2 = some (0, y) ∧ σ2 = (M, T))) :
    ∀ (n : Nat) (v2 v6 : Int), Sh T.1 M → l_X1_broughtTo_35 T.1 v1 v3 v4 v5 M k n v2 v6 = some y → Wp d 22 35 [] [(2, ((48 : Nat) : Int)), (0, v1), (0, v2), (0, v3), (0, v4), (0, v5), (0, v6)] [] (M, T) (fun r2 σ2 => r2 = some (0, y) ∧ σ2 = (M, T)) := by
  intro n
  induction n with
  | zero =>
    intro v2 v6 _ h
    exact nomatch (show (none : Option Int) = some y from h)
  | succ n ih =>
    intro v2 v6 sM h
    rw [l_X1_broughtTo_35] at h
    refine y_blk (t := 35) rfl (show fnd bk_X1_broughtTo 35 = some _ from rfl) aB_X1_broughtTo ?_
    refine wp_iload (v := v6) rfl ?_
    refine wp_aload_n (v := ((48 : Nat) : Int)) rfl (Int.natCast_nonneg _) ?_
    refine y_get (show ash 48 = (1, 6) from rfl) (Nat.lt_of_lt_of_le (show 48 < 154 by decide) hS.1.1) (v := ((2 : Nat) : Int)) (sM.at 48 0 2 (by decide +kernel)) rfl ?_
    refine y_get (show ash 2 = (10, 19) from rfl) (Nat.lt_of_lt_of_le (show 2 < 154 by decide) hS.1.1) (v := ((3 : Nat) : Int)) (sM.at 2 3 3 (by decide +kernel)) rfl ?_
    refine wp_iconst ⟨by decide, by decide⟩ ?_
    refine y_iald (show ash 3 = (100, 8) from rfl) (Or.inl (Nat.lt_of_lt_of_le (show 3 < 154 by decide) hS.1.1)) (Nat.ne_of_lt (Nat.lt_of_lt_of_le (Nat.lt_of_lt_of_le (show 3 < 154 by decide) hS.1.1) hS.1.2)) ⟨by decide, by decide⟩ (v := M 3 1) rfl ?_
    refine wp_icmp_ge (fun c4 => ?_) (fun c4 => ?_)
    · rw [if_pos c4] at h
      exact hk v2 v6   sM h
    · rw [if_neg c4] at h
      refine wp_iload (v := v5) rfl ?_
      refine wp_iload_n (v := v3) rfl ?_
      refine wp_iconst ⟨by decide, by decide⟩ ?_
      refine wp_ixor ?_
      refine wp_iand ?_
      refine wp_iload (v := v6) rfl ?_
      obtain ⟨x5, e6, h⟩ := d_bind h
      refine y_callS (as := [(0, (aand v5 (axor v3 (-1)))), (0, v6)]) (S1 := []) (Nat.le_of_ble_eq_true rfl) (by omega) (t_X11_hasBit sM e6) (Nat.le_of_ble_eq_true rfl) rfl (Nat.le_of_ble_eq_true rfl) (Nat.le_of_ble_eq_true rfl) rfl ?_
      refine wp_if_eq (fun c7 => ?_) (fun c7 => ?_)
      · rw [if_pos c7] at h
        refine y_blk (t := 81) rfl (show fnd bk_X1_broughtTo 81 = some _ from rfl) aB_X1_broughtTo ?_
        obtain ⟨c8, h⟩ := d_ite h
        refine y_iinc (L1 := [(2, ((48 : Nat) : Int)), (0, v1), (0, v2), (0, v3), (0, v4), (0, v5), (0, (v6 + 1))]) rfl (Nat.le_of_ble_eq_true rfl) ⟨by decide, by decide⟩ c8 rfl ?_
        refine wp_goto ?_
        exact ih v2 (v6 + 1)   sM h
      · rw [if_neg c7] at h
        refine wp_iload_n (v := v2) rfl ?_
        refine wp_aload_n (v := ((48 : Nat) : Int)) rfl (Int.natCast_nonneg _) ?_
        refine wp_aload_n (v := ((48 : Nat) : Int)) rfl (Int.natCast_nonneg _) ?_
        refine y_get (show ash 48 = (1, 6) from rfl) (Nat.lt_of_lt_of_le (show 48 < 154 by decide) hS.1.1) (v := ((2 : Nat) : Int)) (sM.at 48 0 2 (by decide +kernel)) rfl ?_
        refine y_get (show ash 2 = (10, 19) from rfl) (Nat.lt_of_lt_of_le (show 2 < 154 by decide) hS.1.1) (v := ((8 : Nat) : Int)) (sM.at 2 10 8 (by decide +kernel)) rfl ?_
        refine wp_iload_n (v := v1) rfl ?_
        obtain ⟨c9, h⟩ := d_ite h
        refine y_iald (show ash 8 = (100, 3) from rfl) (Or.inl (Nat.lt_of_lt_of_le (show 8 < 154 by decide) hS.1.1)) (Nat.ne_of_lt (Nat.lt_of_lt_of_le (Nat.lt_of_lt_of_le (show 8 < 154 by decide) hS.1.1) hS.1.2)) c9 (v := M 8 (v1).toNat) rfl ?_
        refine wp_iload (v := v6) rfl ?_
        obtain ⟨x10, e11, h⟩ := d_bind h
        refine y_callV (as := [(0, (M 8 (v1).toNat)), (0, v6)]) (S1 := [(0, v2)]) (Nat.le_of_ble_eq_true rfl) (by omega) (t_X1_oneCallFrom sM e11) (Nat.le_of_ble_eq_true rfl) rfl (show ash 48 = (1, 6) from rfl) (Nat.lt_of_lt_of_le (show 48 < 154 by decide) hS.1.1) (Nat.le_of_ble_eq_true rfl) (Nat.le_of_ble_eq_true rfl) rfl ?_
        refine wp_ior ?_
        refine y_stn (L1 := [(2, ((48 : Nat) : Int)), (0, v1), (0, (aor v2 x10)), (0, v3), (0, v4), (0, v5), (0, v6)]) (Nat.le_of_ble_eq_true rfl) rfl ?_
        refine y_blk (t := 81) rfl (show fnd bk_X1_broughtTo 81 = some _ from rfl) aB_X1_broughtTo ?_
        obtain ⟨c12, h⟩ := d_ite h
        refine y_iinc (L1 := [(2, ((48 : Nat) : Int)), (0, v1), (0, (aor v2 x10)), (0, v3), (0, v4), (0, v5), (0, (v6 + 1))]) rfl (Nat.le_of_ble_eq_true rfl) ⟨by decide, by decide⟩ c12 rfl ?_
        refine wp_goto ?_
        exact ih (aor v2 x10) (v6 + 1)   sM h
def l_X1_broughtTo_17 (T : Nat) (v1 : Int) (M : aM) (k : Int → Int → Int → Option Int) : Nat → Int → Int → Int → Option Int
| 0, _, _, _ => none
| n + 1, v2, v3, v4 =>
 if 8 ≤ v4 then
 k v2 v3 v4 else
 if v3 = v2 then
 k v2 v3 v4 else
 l_X1_broughtTo_35 T v1 v3 v4 v2 M (fun w13 w14 =>
 if aIn (v4 + 1) then
 l_X1_broughtTo_17 T v1 M k n w13 v2 (v4 + 1) else none) FU v2 0
theorem tl_X1_broughtTo_17 {d : Nat} (hd : 4 ≤ d) {T : T3} {v1 : Int} {M : aM} {k : Int → Int → Int → Option Int} {y : Int}  (hS : Sh T.1 M)
    (hk : ∀ (v2 v3 v4 : Int) (u5 u6 : aV), Sh T.1 M → k v2 v3 v4 = some y → Wp d 22 96 [] [(2, ((48 : Nat) : Int)), (0, v1), (0, v2), (0, v3), (0, v4), u5, u6] [] (M, T) (fun r2 σ2 => r2 = some (0, y) ∧ σ2 = (M, T))) :
    ∀ (n : Nat) (v2 v3 v4 : Int) (u5 u6 : aV), Sh T.1 M → l_X1_broughtTo_17 T.1 v1 M k n v2 v3 v4 = some y → Wp d 22 17 [] [(2, ((48 : Nat) : Int)), (0, v1), (0, v2), (0, v3), (0, v4), u5, u6] [] (M, T) (fun r2 σ2 => r2 = some (0, y) ∧ σ2 = (M, T)) := by
  intro n
  induction n with
  | zero =>
    intro v2 v3 v4 u5 u6 _ h
    exact nomatch (show (none : Option Int) = some y from h)
  | succ n ih =>
    intro v2 v3 v4 u5 u6 sM h
    rw [l_X1_broughtTo_17] at h
    refine y_blk (t := 17) rfl (show fnd bk_X1_broughtTo 17 = some _ from rfl) aB_X1_broughtTo ?_
    refine wp_iload (v := v4) rfl ?_
    refine wp_bipush (by decide) ?_
    refine wp_icmp_ge (fun c2 => ?_) (fun c2 => ?_)
    · rw [if_pos c2] at h
      exact hk v2 v3 v4 u5 u6  sM h
    · rw [if_neg c2] at h
      refine wp_iload_n (v := v3) rfl ?_
      refine wp_iload_n (v := v2) rfl ?_
      refine wp_icmp_eq (fun c3 => ?_) (fun c3 => ?_)
      · rw [if_pos c3] at h
        exact hk v2 v3 v4 u5 u6  sM h
      · rw [if_neg c3] at h
        refine wp_iload_n (v := v2) rfl ?_
        refine y_st (L1 := [(2, ((48 : Nat) : Int)), (0, v1), (0, v2), (0, v3), (0, v4), (0, v2), u6]) (Nat.le_of_ble_eq_true rfl) rfl ?_
        refine wp_iconst ⟨by decide, by decide⟩ ?_
        refine y_st (L1 := [(2, ((48 : Nat) : Int)), (0, v1), (0, v2), (0, v3), (0, v4), (0, v2), (0, 0)]) (Nat.le_of_ble_eq_true rfl) rfl ?_
        refine tl_X1_broughtTo_35 (by omega) sM (fun w13 w14   s15 h => ?_) FU v2 0   sM h
        refine y_blk (t := 87) rfl (show fnd bk_X1_broughtTo 87 = some _ from rfl) aB_X1_broughtTo ?_
        refine wp_iload (v := v2) rfl ?_
        refine y_stn (L1 := [(2, ((48 : Nat) : Int)), (0, v1), (0, w13), (0, v2), (0, v4), (0, v2), (0, w14)]) (Nat.le_of_ble_eq_true rfl) rfl ?_
        obtain ⟨c16, h⟩ := d_ite h
        refine y_iinc (L1 := [(2, ((48 : Nat) : Int)), (0, v1), (0, w13), (0, v2), (0, (v4 + 1)), (0, v2), (0, w14)]) rfl (Nat.le_of_ble_eq_true rfl) ⟨by decide, by decide⟩ c16 rfl ?_
        refine wp_goto ?_
        exact ih w13 v2 (v4 + 1) (0, v2) (0, w14)  s15 h
def f_X1_broughtTo (T : Nat) (v1 : Int) (M : aM) : Option Int :=
 if 0 ≤ v1 ∧ v1 < 3 then
 l_X1_broughtTo_17 T v1 M (fun w17 w18 w19 =>
 some w17) FU (ashl 1 (M 36 (v1).toNat)) 0 0 else none
theorem t_X1_broughtTo {T : T3} {v1 : Int} {M : aM} {y : Int}  (hS : Sh T.1 M) (h : f_X1_broughtTo T.1 v1 M = some y) : Mr 4 22 [(2, ((48 : Nat) : Int)), (0, v1)] M (some (0, y)) M T := by
  have key : ∀ d, 4 ≤ d → Wp d 22 0 [] [(2, ((48 : Nat) : Int)), (0, v1), (9, 0), (9, 0), (9, 0), (9, 0), (9, 0)] [] (M, T) (fun r2 σ2 => r2 = some (0, y) ∧ σ2 = (M, T)) := by
    intro d hd
    rw [f_X1_broughtTo] at h
    refine y_blk (t := 0) rfl (show fnd bk_X1_broughtTo 0 = some _ from rfl) aB_X1_broughtTo ?_
    refine wp_iconst ⟨by decide, by decide⟩ ?_
    refine wp_aload_n (v := ((48 : Nat) : Int)) rfl (Int.natCast_nonneg _) ?_
    refine y_get (show ash 48 = (1, 6) from rfl) (Nat.lt_of_lt_of_le (show 48 < 154 by decide) hS.1.1) (v := ((35 : Nat) : Int)) (hS.at 48 1 35 (by decide +kernel)) rfl ?_
    refine y_get (show ash 35 = (8, 5) from rfl) (Nat.lt_of_lt_of_le (show 35 < 154 by decide) hS.1.1) (v := ((36 : Nat) : Int)) (hS.at 35 0 36 (by decide +kernel)) rfl ?_
    refine wp_iload_n (v := v1) rfl ?_
    obtain ⟨c1, h⟩ := d_ite h
    refine y_iald (show ash 36 = (100, 3) from rfl) (Or.inl (Nat.lt_of_lt_of_le (show 36 < 154 by decide) hS.1.1)) (Nat.ne_of_lt (Nat.lt_of_lt_of_le (Nat.lt_of_lt_of_le (show 36 < 154 by decide) hS.1.1) hS.1.2)) c1 (v := M 36 (v1).toNat) rfl ?_
    refine wp_ishl ?_
    refine y_stn (L1 := [(2, ((48 : Nat) : Int)), (0, v1), (0, (ashl 1 (M 36 (v1).toNat))), (9, 0), (9, 0), (9, 0), (9, 0)]) (Nat.le_of_ble_eq_true rfl) rfl ?_
    refine wp_iconst ⟨by decide, by decide⟩ ?_
    refine y_stn (L1 := [(2, ((48 : Nat) : Int)), (0, v1), (0, (ashl 1 (M 36 (v1).toNat))), (0, 0), (9, 0), (9, 0), (9, 0)]) (Nat.le_of_ble_eq_true rfl) rfl ?_
    refine wp_iconst ⟨by decide, by decide⟩ ?_
    refine y_st (L1 := [(2, ((48 : Nat) : Int)), (0, v1), (0, (ashl 1 (M 36 (v1).toNat))), (0, 0), (0, 0), (9, 0), (9, 0)]) (Nat.le_of_ble_eq_true rfl) rfl ?_
    refine tl_X1_broughtTo_17 (by omega) hS (fun w17 w18 w19 u20 u21  s22 h => ?_) FU (ashl 1 (M 36 (v1).toNat)) 0 0 (9, 0) (9, 0)  hS h
    refine y_blk (t := 96) rfl (show fnd bk_X1_broughtTo 96 = some _ from rfl) aB_X1_broughtTo ?_
    refine wp_iload_n (v := w17) rfl ?_
    cases h
    exact y_ret0 (Or.inl rfl) ⟨rfl, rfl⟩
  exact fun d hd => Ms.of (key d hd)
theorem aB_X2_isRight : ∀ pc, aB 26 pc = fnd bk_X2_isRight pc := fun _ => rfl
def f_X2_isRight (T : Nat) (v1 : Int) (v2 : Int) (M : aM) : Option Int :=
 if 0 ≤ v1 ∧ v1 < 4 then
 (f_X5_span T 42 (M 11 (v1).toNat) v2 M).bind fun x2 =>
 if aIn (2 * x2) then
 if (2 * x2) = (M 12 (v1).toNat) then
 some 1 else
 some 0 else none else none
theorem t_X2_isRight {T : T3} {v1 : Int} {v2 : Int} {M : aM} {y : Int}  (hS : Sh T.1 M) (h : f_X2_isRight T.1 v1 v2 M = some y) : Mr 1 26 [(2, ((52 : Nat) : Int)), (0, v1), (0, v2)] M (some (0, y)) M T := by
  have key : ∀ d, 1 ≤ d → Wp d 26 0 [] [(2, ((52 : Nat) : Int)), (0, v1), (0, v2)] [] (M, T) (fun r2 σ2 => r2 = some (0, y) ∧ σ2 = (M, T)) := by
    intro d hd
    rw [f_X2_isRight] at h
    refine y_blk (t := 0) rfl (show fnd bk_X2_isRight 0 = some _ from rfl) aB_X2_isRight ?_
    refine wp_iconst ⟨by decide, by decide⟩ ?_
    refine wp_aload_n (v := ((52 : Nat) : Int)) rfl (Int.natCast_nonneg _) ?_
    refine y_get (show ash 52 = (2, 2) from rfl) (Nat.lt_of_lt_of_le (show 52 < 154 by decide) hS.1.1) (v := ((42 : Nat) : Int)) (hS.at 52 1 42 (by decide +kernel)) rfl ?_
    refine wp_aload_n (v := ((52 : Nat) : Int)) rfl (Int.natCast_nonneg _) ?_
    refine y_get (show ash 52 = (2, 2) from rfl) (Nat.lt_of_lt_of_le (show 52 < 154 by decide) hS.1.1) (v := ((2 : Nat) : Int)) (hS.at 52 0 2 (by decide +kernel)) rfl ?_
    refine y_get (show ash 2 = (10, 19) from rfl) (Nat.lt_of_lt_of_le (show 2 < 154 by decide) hS.1.1) (v := ((11 : Nat) : Int)) (hS.at 2 13 11 (by decide +kernel)) rfl ?_
    refine wp_iload_n (v := v1) rfl ?_
    obtain ⟨c1, h⟩ := d_ite h
    refine y_iald (show ash 11 = (100, 4) from rfl) (Or.inl (Nat.lt_of_lt_of_le (show 11 < 154 by decide) hS.1.1)) (Nat.ne_of_lt (Nat.lt_of_lt_of_le (Nat.lt_of_lt_of_le (show 11 < 154 by decide) hS.1.1) hS.1.2)) c1 (v := M 11 (v1).toNat) rfl ?_
    refine wp_iload_n (v := v2) rfl ?_
    obtain ⟨x2, e3, h⟩ := d_bind h
    refine y_callV (as := [(0, (M 11 (v1).toNat)), (0, v2)]) (S1 := [(0, 2)]) (Nat.le_of_ble_eq_true rfl) (by omega) (t_X5_span (show isLand 42 by decide) hS e3) (Nat.le_of_ble_eq_true rfl) rfl (show ash 42 = (5, 4) from rfl) (Nat.lt_of_lt_of_le (show 42 < 154 by decide) hS.1.1) (Nat.le_of_ble_eq_true rfl) (Nat.le_of_ble_eq_true rfl) rfl ?_
    obtain ⟨c4, h⟩ := d_ite h
    refine wp_imul c4 ?_
    refine wp_aload_n (v := ((52 : Nat) : Int)) rfl (Int.natCast_nonneg _) ?_
    refine y_get (show ash 52 = (2, 2) from rfl) (Nat.lt_of_lt_of_le (show 52 < 154 by decide) hS.1.1) (v := ((2 : Nat) : Int)) (hS.at 52 0 2 (by decide +kernel)) rfl ?_
    refine y_get (show ash 2 = (10, 19) from rfl) (Nat.lt_of_lt_of_le (show 2 < 154 by decide) hS.1.1) (v := ((12 : Nat) : Int)) (hS.at 2 14 12 (by decide +kernel)) rfl ?_
    refine wp_iload_n (v := v1) rfl ?_
    refine y_iald (show ash 12 = (100, 4) from rfl) (Or.inl (Nat.lt_of_lt_of_le (show 12 < 154 by decide) hS.1.1)) (Nat.ne_of_lt (Nat.lt_of_lt_of_le (Nat.lt_of_lt_of_le (show 12 < 154 by decide) hS.1.1) hS.1.2)) c1 (v := M 12 (v1).toNat) rfl ?_
    refine y_ne (fun c5 => ?_) (fun c5 => ?_)
    · rw [if_neg c5] at h
      refine y_blk (t := 35) rfl (show fnd bk_X2_isRight 35 = some _ from rfl) aB_X2_isRight ?_
      refine wp_iconst ⟨by decide, by decide⟩ ?_
      refine y_blk (t := 36) rfl (show fnd bk_X2_isRight 36 = some _ from rfl) aB_X2_isRight ?_
      cases h
      exact y_ret0 (Or.inr (Or.inl rfl)) ⟨rfl, rfl⟩
    · rw [if_pos c5] at h
      refine wp_iconst ⟨by decide, by decide⟩ ?_
      refine wp_goto ?_
      refine y_blk (t := 36) rfl (show fnd bk_X2_isRight 36 = some _ from rfl) aB_X2_isRight ?_
      cases h
      exact y_ret0 (Or.inr (Or.inr rfl)) ⟨rfl, rfl⟩
  exact fun d hd => Ms.of (key d hd)
theorem aB_X2_weightOf : ∀ pc, aB 25 pc = fnd bk_X2_weightOf pc := fun _ => rfl
def l_X2_weightOf_5 (T : Nat) (v1 : Int) (M : aM) (k : Int → Int → Option Int) : Nat → Int → Int → Option Int
| 0, _, _ => none
| n + 1, v2, v4 =>
 if (M 3 5) ≤ v4 then
 k v2 v4 else
 (f_X2_isRight T v4 v1 M).bind fun x2 =>
 if x2 = 0 then
 if aInL (v2 * (M 2 1)) then
 if aIn (v4 + 1) then
 l_X2_weightOf_5 T v1 M k n (v2 * (M 2 1)) (v4 + 1) else none else none else
 if aIn (100 - (M 2 1)) then
 if aInL (v2 * (100 - (M 2 1))) then
 if aIn (v4 + 1) then
 l_X2_weightOf_5 T v1 M k n (v2 * (100 - (M 2 1))) (v4 + 1) else none else none else none
theorem tl_X2_weightOf_5 {d : Nat} (hd : 2 ≤ d) {T : T3} {v1 : Int} {M : aM} {k : Int → Int → Option Int} {y : Int}  (hS : Sh T.1 M)
    (hk : ∀ (v2 v4 : Int), Sh T.1 M → k v2 v4 = some y → Wp d 25 60 [] [(2, ((52 : Nat) : Int)), (0, v1), (1, v2), (9, 0), (0, v4)] [] (M, T) (fun r2 σ2 => r2 = some (1, y) ∧ σ2 = (M, T))) :
    ∀ (n : Nat) (v2 v4 : Int), Sh T.1 M → l_X2_weightOf_5 T.1 v1 M k n v2 v4 = some y → Wp d 25 5 [] [(2, ((52 : Nat) : Int)), (0, v1), (1, v2), (9, 0), (0, v4)] [] (M, T) (fun r2 σ2 => r2 = some (1, y) ∧ σ2 = (M, T)) := by
  intro n
  induction n with
  | zero =>
    intro v2 v4 _ h
    exact nomatch (show (none : Option Int) = some y from h)
  | succ n ih =>
    intro v2 v4 sM h
    rw [l_X2_weightOf_5] at h
    refine y_blk (t := 5) rfl (show fnd bk_X2_weightOf 5 = some _ from rfl) aB_X2_weightOf ?_
    refine wp_iload (v := v4) rfl ?_
    refine wp_aload_n (v := ((52 : Nat) : Int)) rfl (Int.natCast_nonneg _) ?_
    refine y_get (show ash 52 = (2, 2) from rfl) (Nat.lt_of_lt_of_le (show 52 < 154 by decide) hS.1.1) (v := ((2 : Nat) : Int)) (sM.at 52 0 2 (by decide +kernel)) rfl ?_
    refine y_get (show ash 2 = (10, 19) from rfl) (Nat.lt_of_lt_of_le (show 2 < 154 by decide) hS.1.1) (v := ((3 : Nat) : Int)) (sM.at 2 3 3 (by decide +kernel)) rfl ?_
    refine wp_iconst ⟨by decide, by decide⟩ ?_
    refine y_iald (show ash 3 = (100, 8) from rfl) (Or.inl (Nat.lt_of_lt_of_le (show 3 < 154 by decide) hS.1.1)) (Nat.ne_of_lt (Nat.lt_of_lt_of_le (Nat.lt_of_lt_of_le (show 3 < 154 by decide) hS.1.1) hS.1.2)) ⟨by decide, by decide⟩ (v := M 3 5) rfl ?_
    refine wp_icmp_ge (fun c1 => ?_) (fun c1 => ?_)
    · rw [if_pos c1] at h
      exact hk v2 v4   sM h
    · rw [if_neg c1] at h
      refine wp_lload_n (v := v2) rfl ?_
      refine wp_aload_n (v := ((52 : Nat) : Int)) rfl (Int.natCast_nonneg _) ?_
      refine wp_iload (v := v4) rfl ?_
      refine wp_iload_n (v := v1) rfl ?_
      obtain ⟨x2, e3, h⟩ := d_bind h
      refine y_callV (as := [(0, v4), (0, v1)]) (S1 := [(1, v2)]) (Nat.le_of_ble_eq_true rfl) (by omega) (t_X2_isRight sM e3) (Nat.le_of_ble_eq_true rfl) rfl (show ash 52 = (2, 2) from rfl) (Nat.lt_of_lt_of_le (show 52 < 154 by decide) hS.1.1) (Nat.le_of_ble_eq_true rfl) (Nat.le_of_ble_eq_true rfl) rfl ?_
      refine wp_if_eq (fun c4 => ?_) (fun c4 => ?_)
      · rw [if_pos c4] at h
        refine y_blk (t := 44) rfl (show fnd bk_X2_weightOf 44 = some _ from rfl) aB_X2_weightOf ?_
        refine wp_aload_n (v := ((52 : Nat) : Int)) rfl (Int.natCast_nonneg _) ?_
        refine y_get (show ash 52 = (2, 2) from rfl) (Nat.lt_of_lt_of_le (show 52 < 154 by decide) hS.1.1) (v := ((2 : Nat) : Int)) (sM.at 52 0 2 (by decide +kernel)) rfl ?_
        refine y_get (show ash 2 = (10, 19) from rfl) (Nat.lt_of_lt_of_le (show 2 < 154 by decide) hS.1.1) (v := M 2 1) rfl rfl ?_
        refine wp_i2l ?_
        refine y_blk (t := 52) rfl (show fnd bk_X2_weightOf 52 = some _ from rfl) aB_X2_weightOf ?_
        obtain ⟨c5, h⟩ := d_ite h
        refine wp_lmul c5 ?_
        refine y_lstn (L1 := [(2, ((52 : Nat) : Int)), (0, v1), (1, (v2 * (M 2 1))), (9, 0), (0, v4)]) (Nat.le_of_ble_eq_true rfl) rfl ?_
        obtain ⟨c6, h⟩ := d_ite h
        refine y_iinc (L1 := [(2, ((52 : Nat) : Int)), (0, v1), (1, (v2 * (M 2 1))), (9, 0), (0, (v4 + 1))]) rfl (Nat.le_of_ble_eq_true rfl) ⟨by decide, by decide⟩ c6 rfl ?_
        refine wp_goto ?_
        exact ih (v2 * (M 2 1)) (v4 + 1)   sM h
      · rw [if_neg c4] at h
        refine wp_bipush (by decide) ?_
        refine wp_aload_n (v := ((52 : Nat) : Int)) rfl (Int.natCast_nonneg _) ?_
        refine y_get (show ash 52 = (2, 2) from rfl) (Nat.lt_of_lt_of_le (show 52 < 154 by decide) hS.1.1) (v := ((2 : Nat) : Int)) (sM.at 52 0 2 (by decide +kernel)) rfl ?_
        refine y_get (show ash 2 = (10, 19) from rfl) (Nat.lt_of_lt_of_le (show 2 < 154 by decide) hS.1.1) (v := M 2 1) rfl rfl ?_
        obtain ⟨c7, h⟩ := d_ite h
        refine wp_isub c7 ?_
        refine wp_i2l ?_
        refine wp_goto ?_
        refine y_blk (t := 52) rfl (show fnd bk_X2_weightOf 52 = some _ from rfl) aB_X2_weightOf ?_
        obtain ⟨c8, h⟩ := d_ite h
        refine wp_lmul c8 ?_
        refine y_lstn (L1 := [(2, ((52 : Nat) : Int)), (0, v1), (1, (v2 * (100 - (M 2 1)))), (9, 0), (0, v4)]) (Nat.le_of_ble_eq_true rfl) rfl ?_
        obtain ⟨c9, h⟩ := d_ite h
        refine y_iinc (L1 := [(2, ((52 : Nat) : Int)), (0, v1), (1, (v2 * (100 - (M 2 1)))), (9, 0), (0, (v4 + 1))]) rfl (Nat.le_of_ble_eq_true rfl) ⟨by decide, by decide⟩ c9 rfl ?_
        refine wp_goto ?_
        exact ih (v2 * (100 - (M 2 1))) (v4 + 1)   sM h
def f_X2_weightOf (T : Nat) (v1 : Int) (M : aM) : Option Int :=
 l_X2_weightOf_5 T v1 M (fun w10 w11 =>
 some w10) FU 1 0
theorem t_X2_weightOf {T : T3} {v1 : Int} {M : aM} {y : Int}  (hS : Sh T.1 M) (h : f_X2_weightOf T.1 v1 M = some y) : Mr 2 25 [(2, ((52 : Nat) : Int)), (0, v1)] M (some (1, y)) M T := by
  have key : ∀ d, 2 ≤ d → Wp d 25 0 [] [(2, ((52 : Nat) : Int)), (0, v1), (9, 0), (9, 0), (9, 0)] [] (M, T) (fun r2 σ2 => r2 = some (1, y) ∧ σ2 = (M, T)) := by
    intro d hd
    rw [f_X2_weightOf] at h
    refine y_blk (t := 0) rfl (show fnd bk_X2_weightOf 0 = some _ from rfl) aB_X2_weightOf ?_
    refine y_lconst (v := 1) rfl ?_
    refine y_lstn (L1 := [(2, ((52 : Nat) : Int)), (0, v1), (1, 1), (9, 0), (9, 0)]) (Nat.le_of_ble_eq_true rfl) rfl ?_
    refine wp_iconst ⟨by decide, by decide⟩ ?_
    refine y_st (L1 := [(2, ((52 : Nat) : Int)), (0, v1), (1, 1), (9, 0), (0, 0)]) (Nat.le_of_ble_eq_true rfl) rfl ?_
    refine tl_X2_weightOf_5 (by omega) hS (fun w10 w11   s12 h => ?_) FU 1 0   hS h
    refine y_blk (t := 60) rfl (show fnd bk_X2_weightOf 60 = some _ from rfl) aB_X2_weightOf ?_
    refine wp_lload_n (v := w10) rfl ?_
    cases h
    exact wp_lreturn ⟨rfl, rfl⟩
  exact fun d hd => Ms.of (key d hd)
theorem aB_X2_allWeights : ∀ pc, aB 27 pc = fnd bk_X2_allWeights pc := fun _ => rfl
def l_X2_allWeights_4 (T : Nat)  (M : aM) (k : Int → Int → Option Int) : Nat → Int → Int → Option Int
| 0, _, _ => none
| n + 1, v1, v3 =>
 if (M 3 1) ≤ v3 then
 k v1 v3 else
 (f_X2_weightOf T v3 M).bind fun x2 =>
 if aInL (v1 + x2) then
 if aIn (v3 + 1) then
 l_X2_allWeights_4 T M k n (v1 + x2) (v3 + 1) else none else none
theorem tl_X2_allWeights_4 {d : Nat} (hd : 3 ≤ d) {T : T3}  {M : aM} {k : Int → Int → Option Int} {y : Int}  (hS : Sh T.1 M)
    (hk : ∀ (v1 v3 : Int), Sh T.1 M → k v1 v3 = some y → Wp d 27 31 [] [(2, ((52 : Nat) : Int)), (1, v1), (9, 0), (0, v3)] [] (M, T) (fun r2 σ2 => r2 = some (1, y) ∧ σ2 = (M, T))) :
    ∀ (n : Nat) (v1 v3 : Int), Sh T.1 M → l_X2_allWeights_4 T.1 M k n v1 v3 = some y → Wp d 27 4 [] [(2, ((52 : Nat) : Int)), (1, v1), (9, 0), (0, v3)] [] (M, T) (fun r2 σ2 => r2 = some (1, y) ∧ σ2 = (M, T)) := by
  intro n
  induction n with
  | zero =>
    intro v1 v3 _ h
    exact nomatch (show (none : Option Int) = some y from h)
  | succ n ih =>
    intro v1 v3 sM h
    rw [l_X2_allWeights_4] at h
    refine y_blk (t := 4) rfl (show fnd bk_X2_allWeights 4 = some _ from rfl) aB_X2_allWeights ?_
    refine wp_iload_n (v := v3) rfl ?_
    refine wp_aload_n (v := ((52 : Nat) : Int)) rfl (Int.natCast_nonneg _) ?_
    refine y_get (show ash 52 = (2, 2) from rfl) (Nat.lt_of_lt_of_le (show 52 < 154 by decide) hS.1.1) (v := ((2 : Nat) : Int)) (sM.at 52 0 2 (by decide +kernel)) rfl ?_
    refine y_get (show ash 2 = (10, 19) from rfl) (Nat.lt_of_lt_of_le (show 2 < 154 by decide) hS.1.1) (v := ((3 : Nat) : Int)) (sM.at 2 3 3 (by decide +kernel)) rfl ?_
    refine wp_iconst ⟨by decide, by decide⟩ ?_
    refine y_iald (show ash 3 = (100, 8) from rfl) (Or.inl (Nat.lt_of_lt_of_le (show 3 < 154 by decide) hS.1.1)) (Nat.ne_of_lt (Nat.lt_of_lt_of_le (Nat.lt_of_lt_of_le (show 3 < 154 by decide) hS.1.1) hS.1.2)) ⟨by decide, by decide⟩ (v := M 3 1) rfl ?_
    refine wp_icmp_ge (fun c1 => ?_) (fun c1 => ?_)
    · rw [if_pos c1] at h
      exact hk v1 v3   sM h
    · rw [if_neg c1] at h
      refine wp_lload_n (v := v1) rfl ?_
      refine wp_aload_n (v := ((52 : Nat) : Int)) rfl (Int.natCast_nonneg _) ?_
      refine wp_iload_n (v := v3) rfl ?_
      obtain ⟨x2, e3, h⟩ := d_bind h
      refine y_callV (as := [(0, v3)]) (S1 := [(1, v1)]) (Nat.le_of_ble_eq_true rfl) (by omega) (t_X2_weightOf sM e3) (Nat.le_of_ble_eq_true rfl) rfl (show ash 52 = (2, 2) from rfl) (Nat.lt_of_lt_of_le (show 52 < 154 by decide) hS.1.1) (Nat.le_of_ble_eq_true rfl) (Nat.le_of_ble_eq_true rfl) rfl ?_
      obtain ⟨c4, h⟩ := d_ite h
      refine wp_ladd c4 ?_
      refine y_lstn (L1 := [(2, ((52 : Nat) : Int)), (1, (v1 + x2)), (9, 0), (0, v3)]) (Nat.le_of_ble_eq_true rfl) rfl ?_
      obtain ⟨c5, h⟩ := d_ite h
      refine y_iinc (L1 := [(2, ((52 : Nat) : Int)), (1, (v1 + x2)), (9, 0), (0, (v3 + 1))]) rfl (Nat.le_of_ble_eq_true rfl) ⟨by decide, by decide⟩ c5 rfl ?_
      refine wp_goto ?_
      exact ih (v1 + x2) (v3 + 1)   sM h
def f_X2_allWeights (T : Nat)  (M : aM) : Option Int :=
 l_X2_allWeights_4 T M (fun w6 w7 =>
 some w6) FU 0 0
theorem t_X2_allWeights {T : T3}  {M : aM} {y : Int}  (hS : Sh T.1 M) (h : f_X2_allWeights T.1  M = some y) : Mr 3 27 [(2, ((52 : Nat) : Int))] M (some (1, y)) M T := by
  have key : ∀ d, 3 ≤ d → Wp d 27 0 [] [(2, ((52 : Nat) : Int)), (9, 0), (9, 0), (9, 0)] [] (M, T) (fun r2 σ2 => r2 = some (1, y) ∧ σ2 = (M, T)) := by
    intro d hd
    rw [f_X2_allWeights] at h
    refine y_blk (t := 0) rfl (show fnd bk_X2_allWeights 0 = some _ from rfl) aB_X2_allWeights ?_
    refine y_lconst (v := 0) rfl ?_
    refine y_lstn (L1 := [(2, ((52 : Nat) : Int)), (1, 0), (9, 0), (9, 0)]) (Nat.le_of_ble_eq_true rfl) rfl ?_
    refine wp_iconst ⟨by decide, by decide⟩ ?_
    refine y_stn (L1 := [(2, ((52 : Nat) : Int)), (1, 0), (9, 0), (0, 0)]) (Nat.le_of_ble_eq_true rfl) rfl ?_
    refine tl_X2_allWeights_4 (by omega) hS (fun w6 w7   s8 h => ?_) FU 0 0   hS h
    refine y_blk (t := 31) rfl (show fnd bk_X2_allWeights 31 = some _ from rfl) aB_X2_allWeights ?_
    refine wp_lload_n (v := w6) rfl ?_
    cases h
    exact wp_lreturn ⟨rfl, rfl⟩
  exact fun d hd => Ms.of (key d hd)

/-! ===== methods as functions ===== -/
theorem aB_X9_isWord : ∀ pc, aB 99 pc = fnd bk_X9_isWord pc := fun _ => rfl
def l_X9_isWord_28 (T : Nat) (v1 : Int) (M : aM) (k : Int → Option Int) : Nat → Int → Option Int
| 0, _ => none
| n + 1, v2 =>
 if 2000000 ≤ v1 ∧ v1 < 2000048 then
 if ((atx.getD ((v1 - 2000000).toNat) []).length : Int) ≤ v2 then
 k v2 else
 if aIn ((M 34 3) + v2) then
 if 0 ≤ ((M 34 3) + v2) ∧ ((M 34 3) + v2) < 900 then
 if 2000000 ≤ v1 ∧ v1 < 2000048 ∧ 0 ≤ v2 ∧ (v2).toNat < (atx.getD ((v1 - 2000000).toNat) []).length then
 if (M 1 (((M 34 3) + v2)).toNat) = ((atx.getD ((v1 - 2000000).toNat) []).getD (v2).toNat 0 : Int) then
 if aIn (v2 + 1) then
 l_X9_isWord_28 T v1 M k n (v2 + 1) else none else
 some 0 else none else none else none else none
theorem tl_X9_isWord_28 {d : Nat} (hd : 4 ≤ d) {T : T3} {v1 : Int} {M : aM} {k : Int → Option Int} {y : Int} (hsv1 : 0 ≤ v1) (hS : Sh T.1 M)
    (hk : ∀ (v2 : Int), Sh T.1 M → k v2 = some y → Wp d 99 63 [] [(2, ((34 : Nat) : Int)), (2, v1), (0, v2)] [] (M, T) (fun r2 σ2 => r2 = some (0, y) ∧ σ2 = (M, T))) :
    ∀ (n : Nat) (v2 : Int), Sh T.1 M → l_X9_isWord_28 T.1 v1 M k n v2 = some y → Wp d 99 28 [] [(2, ((34 : Nat) : Int)), (2, v1), (0, v2)] [] (M, T) (fun r2 σ2 => r2 = some (0, y) ∧ σ2 = (M, T)) := by
  intro n
  induction n with
  | zero =>
    intro v2 _ h
    exact nomatch (show (none : Option Int) = some y from h)
  | succ n ih =>
    intro v2 sM h
    rw [l_X9_isWord_28] at h
    refine y_blk (t := 28) rfl (show fnd bk_X9_isWord 28 = some _ from rfl) aB_X9_isWord ?_
    refine wp_iload_n (v := v2) rfl ?_
    refine wp_aload_n (v := v1) rfl hsv1 ?_
    obtain ⟨c5, h⟩ := d_ite h
    refine y_slen ⟨by omega, Nat.le_of_ble_eq_true rfl, rfl, c5.1, c5.2⟩ ?_
    refine wp_icmp_ge (fun c6 => ?_) (fun c6 => ?_)
    · rw [if_pos c6] at h
      exact hk v2   sM h
    · rw [if_neg c6] at h
      refine wp_aload_n (v := ((34 : Nat) : Int)) rfl (Int.natCast_nonneg _) ?_
      refine y_get (show ash 34 = (9, 5) from rfl) (Nat.lt_of_lt_of_le (show 34 < 154 by decide) hS.1.1) (v := ((1 : Nat) : Int)) (sM.at 34 0 1 (by decide +kernel)) rfl ?_
      refine wp_aload_n (v := ((34 : Nat) : Int)) rfl (Int.natCast_nonneg _) ?_
      refine y_get (show ash 34 = (9, 5) from rfl) (Nat.lt_of_lt_of_le (show 34 < 154 by decide) hS.1.1) (v := M 34 3) rfl rfl ?_
      refine wp_iload_n (v := v2) rfl ?_
      obtain ⟨c7, h⟩ := d_ite h
      refine wp_iadd c7 ?_
      obtain ⟨c8, h⟩ := d_ite h
      refine y_bald (show ash 1 = (101, 900) from rfl) (Nat.lt_of_lt_of_le (show 1 < 154 by decide) hS.1.1) (Nat.ne_of_lt (Nat.lt_of_lt_of_le (Nat.lt_of_lt_of_le (show 1 < 154 by decide) hS.1.1) hS.1.2)) c8 (v := M 1 (((M 34 3) + v2)).toNat) rfl ?_
      refine wp_aload_n (v := v1) rfl hsv1 ?_
      refine wp_iload_n (v := v2) rfl ?_
      obtain ⟨c9, h⟩ := d_ite h
      refine y_schar ⟨by omega, Nat.le_of_ble_eq_true rfl, rfl, c9⟩ ?_
      refine wp_icmp_eq (fun c10 => ?_) (fun c10 => ?_)
      · rw [if_pos c10] at h
        refine y_blk (t := 57) rfl (show fnd bk_X9_isWord 57 = some _ from rfl) aB_X9_isWord ?_
        obtain ⟨c11, h⟩ := d_ite h
        refine y_iinc (L1 := [(2, ((34 : Nat) : Int)), (2, v1), (0, (v2 + 1))]) rfl (Nat.le_of_ble_eq_true rfl) ⟨by decide, by decide⟩ c11 rfl ?_
        refine wp_goto ?_
        exact ih (v2 + 1)   sM h
      · rw [if_neg c10] at h
        refine wp_iconst ⟨by decide, by decide⟩ ?_
        cases h
        exact y_ret0 (Or.inr (Or.inl rfl)) ⟨rfl, rfl⟩
def f_X9_isWord (T : Nat) (v1 : Int) (M : aM) : Option Int :=
 if 0 ≤ v1 then
 if (M 34 4) = 1 then
 if aIn ((M 34 2) - (M 34 3)) then
 if 2000000 ≤ v1 ∧ v1 < 2000048 then
 if ((M 34 2) - (M 34 3)) = ((atx.getD ((v1 - 2000000).toNat) []).length : Int) then
 l_X9_isWord_28 T v1 M (fun w12 =>
 some 1) FU 0 else
 some 0 else none else none else
 some 0 else none
theorem t_X9_isWord {T : T3} {v1 : Int} {M : aM} {y : Int}  (hS : Sh T.1 M) (h : f_X9_isWord T.1 v1 M = some y) : Mr 4 99 [(2, ((34 : Nat) : Int)), (2, v1)] M (some (0, y)) M T := by
  have key : ∀ d, 4 ≤ d → Wp d 99 0 [] [(2, ((34 : Nat) : Int)), (2, v1), (9, 0)] [] (M, T) (fun r2 σ2 => r2 = some (0, y) ∧ σ2 = (M, T)) := by
    intro d hd
    rw [f_X9_isWord] at h
    obtain ⟨hsv1, h⟩ := d_ite h
    refine y_blk (t := 0) rfl (show fnd bk_X9_isWord 0 = some _ from rfl) aB_X9_isWord ?_
    refine wp_aload_n (v := ((34 : Nat) : Int)) rfl (Int.natCast_nonneg _) ?_
    refine y_get (show ash 34 = (9, 5) from rfl) (Nat.lt_of_lt_of_le (show 34 < 154 by decide) hS.1.1) (v := M 34 4) rfl rfl ?_
    refine wp_iconst ⟨by decide, by decide⟩ ?_
    refine y_ne (fun c1 => ?_) (fun c1 => ?_)
    · rw [if_neg c1] at h
      refine y_blk (t := 24) rfl (show fnd bk_X9_isWord 24 = some _ from rfl) aB_X9_isWord ?_
      refine wp_iconst ⟨by decide, by decide⟩ ?_
      cases h
      exact y_ret0 (Or.inr (Or.inl rfl)) ⟨rfl, rfl⟩
    · rw [if_pos c1] at h
      refine wp_aload_n (v := ((34 : Nat) : Int)) rfl (Int.natCast_nonneg _) ?_
      refine y_get (show ash 34 = (9, 5) from rfl) (Nat.lt_of_lt_of_le (show 34 < 154 by decide) hS.1.1) (v := M 34 2) rfl rfl ?_
      refine wp_aload_n (v := ((34 : Nat) : Int)) rfl (Int.natCast_nonneg _) ?_
      refine y_get (show ash 34 = (9, 5) from rfl) (Nat.lt_of_lt_of_le (show 34 < 154 by decide) hS.1.1) (v := M 34 3) rfl rfl ?_
      obtain ⟨c2, h⟩ := d_ite h
      refine wp_isub c2 ?_
      refine wp_aload_n (v := v1) rfl (by omega) ?_
      obtain ⟨c3, h⟩ := d_ite h
      refine y_slen ⟨by omega, Nat.le_of_ble_eq_true rfl, rfl, c3.1, c3.2⟩ ?_
      refine wp_icmp_eq (fun c4 => ?_) (fun c4 => ?_)
      · rw [if_pos c4] at h
        refine y_blk (t := 26) rfl (show fnd bk_X9_isWord 26 = some _ from rfl) aB_X9_isWord ?_
        refine wp_iconst ⟨by decide, by decide⟩ ?_
        refine y_stn (L1 := [(2, ((34 : Nat) : Int)), (2, v1), (0, 0)]) (Nat.le_of_ble_eq_true rfl) rfl ?_
        refine tl_X9_isWord_28 (by omega) (by omega) hS (fun w12   s13 h => ?_) FU 0   hS h
        refine y_blk (t := 63) rfl (show fnd bk_X9_isWord 63 = some _ from rfl) aB_X9_isWord ?_
        refine wp_iconst ⟨by decide, by decide⟩ ?_
        cases h
        exact y_ret0 (Or.inr (Or.inr rfl)) ⟨rfl, rfl⟩
      · rw [if_neg c4] at h
        refine y_blk (t := 24) rfl (show fnd bk_X9_isWord 24 = some _ from rfl) aB_X9_isWord ?_
        refine wp_iconst ⟨by decide, by decide⟩ ?_
        cases h
        exact y_ret0 (Or.inr (Or.inl rfl)) ⟨rfl, rfl⟩
  exact fun d hd => Ms.of (key d hd)
theorem aB_X7_readWord : ∀ pc, aB 83 pc = fnd bk_X7_readWord pc := fun _ => rfl
def f_X7_readWord (T : Nat) (v1 : Int) (M : aM) : Option (Int × aM) :=
 if 0 ≤ v1 then
 (f_X9_isWord T v1 M).bind fun x1 =>
 if x1 = 0 then
 (f_X7_fails T 1 M).bind fun x8 =>
 if x8.1 = 0 ∨ x8.1 = 1 then
 some (x8.1, x8.2) else none else
 (f_X9_advance T M).bind fun x4 =>
 some (1, x4.2) else none
theorem t_X7_readWord {T : T3} {v1 : Int} {M : aM} {y : (Int × aM)}  (hS : Sh T.1 M) (h : f_X7_readWord T.1 v1 M = some y) : Mr 5 83 [(2, ((16 : Nat) : Int)), (2, v1)] M (some (0, y.1)) y.2 T ∧ Sh T.1 y.2 := by
  have key : ∀ d, 5 ≤ d → Wp d 83 0 [] [(2, ((16 : Nat) : Int)), (2, v1)] [] (M, T) (fun r2 σ2 => r2 = some (0, y.1) ∧ σ2 = (y.2, T) ∧ Sh T.1 y.2) := by
    intro d hd
    rw [f_X7_readWord] at h
    obtain ⟨hsv1, h⟩ := d_ite h
    refine y_blk (t := 0) rfl (show fnd bk_X7_readWord 0 = some _ from rfl) aB_X7_readWord ?_
    refine wp_aload_n (v := ((16 : Nat) : Int)) rfl (Int.natCast_nonneg _) ?_
    refine y_get (show ash 16 = (7, 8) from rfl) (Nat.lt_of_lt_of_le (show 16 < 154 by decide) hS.1.1) (v := ((34 : Nat) : Int)) (hS.at 16 3 34 (by decide +kernel)) rfl ?_
    refine wp_aload_n (v := v1) rfl (by omega) ?_
    obtain ⟨x1, e2, h⟩ := d_bind h
    refine y_callV (as := [(2, v1)]) (S1 := []) (Nat.le_of_ble_eq_true rfl) (by omega) (t_X9_isWord hS e2) (Nat.le_of_ble_eq_true rfl) rfl (show ash 34 = (9, 5) from rfl) (Nat.lt_of_lt_of_le (show 34 < 154 by decide) hS.1.1) (Nat.le_of_ble_eq_true rfl) (Nat.le_of_ble_eq_true rfl) rfl ?_
    refine y_nez (fun c3 => ?_) (fun c3 => ?_)
    · rw [if_neg c3] at h
      refine y_blk (t := 17) rfl (show fnd bk_X7_readWord 17 = some _ from rfl) aB_X7_readWord ?_
      refine wp_aload_n (v := ((16 : Nat) : Int)) rfl (Int.natCast_nonneg _) ?_
      refine y_get (show ash 16 = (7, 8) from rfl) (Nat.lt_of_lt_of_le (show 16 < 154 by decide) hS.1.1) (v := ((34 : Nat) : Int)) (hS.at 16 3 34 (by decide +kernel)) rfl ?_
      obtain ⟨x4, e5, h⟩ := d_bind h
      obtain ⟨r6, s7⟩ := t_X9_advance hS e5
      refine y_callVv (as := []) (S1 := []) (Nat.le_of_ble_eq_true rfl) (by omega) r6 rfl (show ash 34 = (9, 5) from rfl) (Nat.lt_of_lt_of_le (show 34 < 154 by decide) hS.1.1) (Nat.le_of_ble_eq_true rfl) (Nat.le_of_ble_eq_true rfl) rfl ?_
      refine wp_iconst ⟨by decide, by decide⟩ ?_
      cases h
      exact y_ret0 (Or.inr (Or.inr rfl)) ⟨rfl, rfl, s7⟩
    · rw [if_pos c3] at h
      refine wp_aload_n (v := ((16 : Nat) : Int)) rfl (Int.natCast_nonneg _) ?_
      refine wp_iconst ⟨by decide, by decide⟩ ?_
      obtain ⟨x8, e9, h⟩ := d_bind h
      obtain ⟨r10, s11⟩ := t_X7_fails hS e9
      refine y_callV (as := [(0, 1)]) (S1 := []) (Nat.le_of_ble_eq_true rfl) (by omega) r10 (Nat.le_of_ble_eq_true rfl) rfl (show ash 16 = (7, 8) from rfl) (Nat.lt_of_lt_of_le (show 16 < 154 by decide) hS.1.1) (Nat.le_of_ble_eq_true rfl) (Nat.le_of_ble_eq_true rfl) rfl ?_
      obtain ⟨c12, h⟩ := d_ite h
      cases h
      exact y_ret0 (Or.inr c12) ⟨rfl, rfl, s11⟩
  exact ⟨fun d hd => Ms.of3 (key d hd), Ms.sh (key 5 (Nat.le_refl _))⟩
theorem aB_X7_failsWhole : ∀ pc, aB 91 pc = fnd bk_X7_failsWhole pc := fun _ => rfl
def f_X7_failsWhole (T : Nat) (v1 : Int) (M : aM) : Option (Int × aM) :=
 (some (aup M 16 1 v1)).bind fun m1 =>
 (some (aup m1 16 2 (m1 34 3))).bind fun m3 =>
 some ((-1), m3)
theorem t_X7_failsWhole {T : T3} {v1 : Int} {M : aM} {y : (Int × aM)}  (hS : Sh T.1 M) (h : f_X7_failsWhole T.1 v1 M = some y) : Mr 0 91 [(2, ((16 : Nat) : Int)), (0, v1)] M (some (0, y.1)) y.2 T ∧ Sh T.1 y.2 := by
  have key : ∀ d, 0 ≤ d → Wp d 91 0 [] [(2, ((16 : Nat) : Int)), (0, v1)] [] (M, T) (fun r2 σ2 => r2 = some (0, y.1) ∧ σ2 = (y.2, T) ∧ Sh T.1 y.2) := by
    intro d hd
    rw [f_X7_failsWhole] at h
    refine y_blk (t := 0) rfl (show fnd bk_X7_failsWhole 0 = some _ from rfl) aB_X7_failsWhole ?_
    refine wp_aload_n (v := ((16 : Nat) : Int)) rfl (Int.natCast_nonneg _) ?_
    refine wp_iload_n (v := v1) rfl ?_
    refine y_put (show ash 16 = (7, 8) from rfl) (Nat.lt_of_lt_of_le (show 16 < 154 by decide) hS.1.1) rfl ?_
    obtain ⟨m1, em1, h⟩ := d_bind h
    have em1 := Option.some.inj em1
    have s2 : Sh T.1 m1 := em1 ▸ hS.up (Or.inr ⟨by rw [(show ash 16 = (7, 8) from rfl)]; decide, by rw [(show ash 16 = (7, 8) from rfl)]; decide⟩) (by have := (Nat.lt_of_lt_of_le (show 16 < 154 by decide) hS.1.1); have := hS.1.2; omega)
    rw [em1]
    refine wp_aload_n (v := ((16 : Nat) : Int)) rfl (Int.natCast_nonneg _) ?_
    refine wp_aload_n (v := ((16 : Nat) : Int)) rfl (Int.natCast_nonneg _) ?_
    refine y_get (show ash 16 = (7, 8) from rfl) (Nat.lt_of_lt_of_le (show 16 < 154 by decide) hS.1.1) (v := ((34 : Nat) : Int)) (s2.at 16 3 34 (by decide +kernel)) rfl ?_
    refine y_get (show ash 34 = (9, 5) from rfl) (Nat.lt_of_lt_of_le (show 34 < 154 by decide) hS.1.1) (v := m1 34 3) rfl rfl ?_
    refine y_put (show ash 16 = (7, 8) from rfl) (Nat.lt_of_lt_of_le (show 16 < 154 by decide) hS.1.1) rfl ?_
    obtain ⟨m3, em3, h⟩ := d_bind h
    have em3 := Option.some.inj em3
    have s4 : Sh T.1 m3 := em3 ▸ s2.up (Or.inr ⟨by rw [(show ash 16 = (7, 8) from rfl)]; decide, by rw [(show ash 16 = (7, 8) from rfl)]; decide⟩) (by have := (Nat.lt_of_lt_of_le (show 16 < 154 by decide) hS.1.1); have := hS.1.2; omega)
    rw [em3]
    refine wp_iconst ⟨by decide, by decide⟩ ?_
    cases h
    exact y_ret0 (Or.inl rfl) ⟨rfl, rfl, s4⟩
  exact ⟨fun d hd => Ms.of3 (key d hd), Ms.sh (key 0 (Nat.le_refl _))⟩
theorem aB_X9_wholeNumber : ∀ pc, aB 102 pc = fnd bk_X9_wholeNumber pc := fun _ => rfl
def l_X9_wholeNumber_7 (T : Nat)  (M : aM) (k : Int → Int → Option Int) : Nat → Int → Int → Option Int
| 0, _, _ => none
| n + 1, v1, v2 =>
 if (M 34 2) ≤ v2 then
 k v1 v2 else
 if aIn (v1 * 10) then
 if 0 ≤ v2 ∧ v2 < 900 then
 if aIn ((M 1 (v2).toNat) - 48) then
 if aIn ((v1 * 10) + ((M 1 (v2).toNat) - 48)) then
 if aIn (v2 + 1) then
 l_X9_wholeNumber_7 T M k n ((v1 * 10) + ((M 1 (v2).toNat) - 48)) (v2 + 1) else none else none else none else none else none
theorem tl_X9_wholeNumber_7 {d : Nat} (hd : 0 ≤ d) {T : T3}  {M : aM} {k : Int → Int → Option Int} {y : Int}  (hS : Sh T.1 M)
    (hk : ∀ (v1 v2 : Int), Sh T.1 M → k v1 v2 = some y → Wp d 102 36 [] [(2, ((34 : Nat) : Int)), (0, v1), (0, v2)] [] (M, T) (fun r2 σ2 => r2 = some (0, y) ∧ σ2 = (M, T))) :
    ∀ (n : Nat) (v1 v2 : Int), Sh T.1 M → l_X9_wholeNumber_7 T.1 M k n v1 v2 = some y → Wp d 102 7 [] [(2, ((34 : Nat) : Int)), (0, v1), (0, v2)] [] (M, T) (fun r2 σ2 => r2 = some (0, y) ∧ σ2 = (M, T)) := by
  intro n
  induction n with
  | zero =>
    intro v1 v2 _ h
    exact nomatch (show (none : Option Int) = some y from h)
  | succ n ih =>
    intro v1 v2 sM h
    rw [l_X9_wholeNumber_7] at h
    refine y_blk (t := 7) rfl (show fnd bk_X9_wholeNumber 7 = some _ from rfl) aB_X9_wholeNumber ?_
    refine wp_iload_n (v := v2) rfl ?_
    refine wp_aload_n (v := ((34 : Nat) : Int)) rfl (Int.natCast_nonneg _) ?_
    refine y_get (show ash 34 = (9, 5) from rfl) (Nat.lt_of_lt_of_le (show 34 < 154 by decide) hS.1.1) (v := M 34 2) rfl rfl ?_
    refine wp_icmp_ge (fun c1 => ?_) (fun c1 => ?_)
    · rw [if_pos c1] at h
      exact hk v1 v2   sM h
    · rw [if_neg c1] at h
      refine wp_iload_n (v := v1) rfl ?_
      refine wp_bipush (by decide) ?_
      obtain ⟨c2, h⟩ := d_ite h
      refine wp_imul c2 ?_
      refine wp_aload_n (v := ((34 : Nat) : Int)) rfl (Int.natCast_nonneg _) ?_
      refine y_get (show ash 34 = (9, 5) from rfl) (Nat.lt_of_lt_of_le (show 34 < 154 by decide) hS.1.1) (v := ((1 : Nat) : Int)) (sM.at 34 0 1 (by decide +kernel)) rfl ?_
      refine wp_iload_n (v := v2) rfl ?_
      obtain ⟨c3, h⟩ := d_ite h
      refine y_bald (show ash 1 = (101, 900) from rfl) (Nat.lt_of_lt_of_le (show 1 < 154 by decide) hS.1.1) (Nat.ne_of_lt (Nat.lt_of_lt_of_le (Nat.lt_of_lt_of_le (show 1 < 154 by decide) hS.1.1) hS.1.2)) c3 (v := M 1 (v2).toNat) rfl ?_
      refine wp_bipush (by decide) ?_
      obtain ⟨c4, h⟩ := d_ite h
      refine wp_isub c4 ?_
      obtain ⟨c5, h⟩ := d_ite h
      refine wp_iadd c5 ?_
      refine y_stn (L1 := [(2, ((34 : Nat) : Int)), (0, ((v1 * 10) + ((M 1 (v2).toNat) - 48))), (0, v2)]) (Nat.le_of_ble_eq_true rfl) rfl ?_
      obtain ⟨c6, h⟩ := d_ite h
      refine y_iinc (L1 := [(2, ((34 : Nat) : Int)), (0, ((v1 * 10) + ((M 1 (v2).toNat) - 48))), (0, (v2 + 1))]) rfl (Nat.le_of_ble_eq_true rfl) ⟨by decide, by decide⟩ c6 rfl ?_
      refine wp_goto ?_
      exact ih ((v1 * 10) + ((M 1 (v2).toNat) - 48)) (v2 + 1)   sM h
def f_X9_wholeNumber (T : Nat)  (M : aM) : Option Int :=
 l_X9_wholeNumber_7 T M (fun w7 w8 =>
 some w7) FU 0 (M 34 3)
theorem t_X9_wholeNumber {T : T3}  {M : aM} {y : Int}  (hS : Sh T.1 M) (h : f_X9_wholeNumber T.1  M = some y) : Mr 0 102 [(2, ((34 : Nat) : Int))] M (some (0, y)) M T := by
  have key : ∀ d, 0 ≤ d → Wp d 102 0 [] [(2, ((34 : Nat) : Int)), (9, 0), (9, 0)] [] (M, T) (fun r2 σ2 => r2 = some (0, y) ∧ σ2 = (M, T)) := by
    intro d hd
    rw [f_X9_wholeNumber] at h
    refine y_blk (t := 0) rfl (show fnd bk_X9_wholeNumber 0 = some _ from rfl) aB_X9_wholeNumber ?_
    refine wp_iconst ⟨by decide, by decide⟩ ?_
    refine y_stn (L1 := [(2, ((34 : Nat) : Int)), (0, 0), (9, 0)]) (Nat.le_of_ble_eq_true rfl) rfl ?_
    refine wp_aload_n (v := ((34 : Nat) : Int)) rfl (Int.natCast_nonneg _) ?_
    refine y_get (show ash 34 = (9, 5) from rfl) (Nat.lt_of_lt_of_le (show 34 < 154 by decide) hS.1.1) (v := M 34 3) rfl rfl ?_
    refine y_stn (L1 := [(2, ((34 : Nat) : Int)), (0, 0), (0, (M 34 3))]) (Nat.le_of_ble_eq_true rfl) rfl ?_
    refine tl_X9_wholeNumber_7 (by omega) hS (fun w7 w8   s9 h => ?_) FU 0 (M 34 3)   hS h
    refine y_blk (t := 36) rfl (show fnd bk_X9_wholeNumber 36 = some _ from rfl) aB_X9_wholeNumber ?_
    refine wp_iload_n (v := w7) rfl ?_
    cases h
    exact y_ret0 (Or.inl rfl) ⟨rfl, rfl⟩
  exact fun d hd => Ms.of (key d hd)
theorem aB_X7_readNumber : ∀ pc, aB 84 pc = fnd bk_X7_readNumber pc := fun _ => rfl
def f_X7_readNumber (T : Nat) (v1 : Int) (v2 : Int) (v3 : Int) (M : aM) : Option (Int × aM) :=
 if 0 ≤ v1 then
 (f_X7_readWord T v1 M).bind fun x1 =>
 if x1.1 = 0 then
 some ((-1), x1.2) else
 if (x1.2 34 4) = 2 then
 (f_X9_wholeNumber T x1.2).bind fun x7 =>
 if x7 < v2 then
 (f_X7_failsWhole T 4 x1.2).bind fun x10 =>
 some (x10.1, x10.2) else
 if x7 ≤ v3 then
 (f_X9_advance T x1.2).bind fun x15 =>
 some (x7, x15.2) else
 (f_X7_failsWhole T 4 x1.2).bind fun x19 =>
 some (x19.1, x19.2) else
 (f_X7_failsWhole T 1 x1.2).bind fun x23 =>
 some (x23.1, x23.2) else none
theorem t_X7_readNumber {T : T3} {v1 : Int} {v2 : Int} {v3 : Int} {M : aM} {y : (Int × aM)}  (hS : Sh T.1 M) (h : f_X7_readNumber T.1 v1 v2 v3 M = some y) : Mr 6 84 [(2, ((16 : Nat) : Int)), (2, v1), (0, v2), (0, v3)] M (some (0, y.1)) y.2 T ∧ Sh T.1 y.2 := by
  have key : ∀ d, 6 ≤ d → Wp d 84 0 [] [(2, ((16 : Nat) : Int)), (2, v1), (0, v2), (0, v3), (9, 0)] [] (M, T) (fun r2 σ2 => r2 = some (0, y.1) ∧ σ2 = (y.2, T) ∧ Sh T.1 y.2) := by
    intro d hd
    rw [f_X7_readNumber] at h
    obtain ⟨hsv1, h⟩ := d_ite h
    refine y_blk (t := 0) rfl (show fnd bk_X7_readNumber 0 = some _ from rfl) aB_X7_readNumber ?_
    refine wp_aload_n (v := ((16 : Nat) : Int)) rfl (Int.natCast_nonneg _) ?_
    refine wp_aload_n (v := v1) rfl (by omega) ?_
    obtain ⟨x1, e2, h⟩ := d_bind h
    obtain ⟨r3, s4⟩ := t_X7_readWord hS e2
    refine y_callV (as := [(2, v1)]) (S1 := []) (Nat.le_of_ble_eq_true rfl) (by omega) r3 (Nat.le_of_ble_eq_true rfl) rfl (show ash 16 = (7, 8) from rfl) (Nat.lt_of_lt_of_le (show 16 < 154 by decide) hS.1.1) (Nat.le_of_ble_eq_true rfl) (Nat.le_of_ble_eq_true rfl) rfl ?_
    refine y_nez (fun c5 => ?_) (fun c5 => ?_)
    · rw [if_neg c5] at h
      refine y_blk (t := 10) rfl (show fnd bk_X7_readNumber 10 = some _ from rfl) aB_X7_readNumber ?_
      refine wp_aload_n (v := ((16 : Nat) : Int)) rfl (Int.natCast_nonneg _) ?_
      refine y_get (show ash 16 = (7, 8) from rfl) (Nat.lt_of_lt_of_le (show 16 < 154 by decide) hS.1.1) (v := ((34 : Nat) : Int)) (s4.at 16 3 34 (by decide +kernel)) rfl ?_
      refine y_get (show ash 34 = (9, 5) from rfl) (Nat.lt_of_lt_of_le (show 34 < 154 by decide) hS.1.1) (v := x1.2 34 4) rfl rfl ?_
      refine wp_iconst ⟨by decide, by decide⟩ ?_
      refine wp_icmp_eq (fun c6 => ?_) (fun c6 => ?_)
      · rw [if_pos c6] at h
        refine y_blk (t := 27) rfl (show fnd bk_X7_readNumber 27 = some _ from rfl) aB_X7_readNumber ?_
        refine wp_aload_n (v := ((16 : Nat) : Int)) rfl (Int.natCast_nonneg _) ?_
        refine y_get (show ash 16 = (7, 8) from rfl) (Nat.lt_of_lt_of_le (show 16 < 154 by decide) hS.1.1) (v := ((34 : Nat) : Int)) (s4.at 16 3 34 (by decide +kernel)) rfl ?_
        obtain ⟨x7, e8, h⟩ := d_bind h
        refine y_callV (as := []) (S1 := []) (Nat.le_of_ble_eq_true rfl) (by omega) (t_X9_wholeNumber s4 e8) (Nat.le_of_ble_eq_true rfl) rfl (show ash 34 = (9, 5) from rfl) (Nat.lt_of_lt_of_le (show 34 < 154 by decide) hS.1.1) (Nat.le_of_ble_eq_true rfl) (Nat.le_of_ble_eq_true rfl) rfl ?_
        refine y_st (L1 := [(2, ((16 : Nat) : Int)), (2, v1), (0, v2), (0, v3), (0, x7)]) (Nat.le_of_ble_eq_true rfl) rfl ?_
        refine wp_iload (v := x7) rfl ?_
        refine wp_iload_n (v := v2) rfl ?_
        refine wp_icmp_lt (fun c9 => ?_) (fun c9 => ?_)
        · rw [if_pos c9] at h
          refine y_blk (t := 48) rfl (show fnd bk_X7_readNumber 48 = some _ from rfl) aB_X7_readNumber ?_
          refine wp_aload_n (v := ((16 : Nat) : Int)) rfl (Int.natCast_nonneg _) ?_
          refine wp_iconst ⟨by decide, by decide⟩ ?_
          obtain ⟨x10, e11, h⟩ := d_bind h
          obtain ⟨r12, s13⟩ := t_X7_failsWhole s4 e11
          refine y_callV (as := [(0, 4)]) (S1 := []) (Nat.le_of_ble_eq_true rfl) (by omega) r12 (Nat.le_of_ble_eq_true rfl) rfl (show ash 16 = (7, 8) from rfl) (Nat.lt_of_lt_of_le (show 16 < 154 by decide) hS.1.1) (Nat.le_of_ble_eq_true rfl) (Nat.le_of_ble_eq_true rfl) rfl ?_
          cases h
          exact y_ret0 (Or.inl rfl) ⟨rfl, rfl, s13⟩
        · rw [if_neg c9] at h
          refine wp_iload (v := x7) rfl ?_
          refine wp_iload_n (v := v3) rfl ?_
          refine wp_icmp_le (fun c14 => ?_) (fun c14 => ?_)
          · rw [if_pos c14] at h
            refine y_blk (t := 54) rfl (show fnd bk_X7_readNumber 54 = some _ from rfl) aB_X7_readNumber ?_
            refine wp_aload_n (v := ((16 : Nat) : Int)) rfl (Int.natCast_nonneg _) ?_
            refine y_get (show ash 16 = (7, 8) from rfl) (Nat.lt_of_lt_of_le (show 16 < 154 by decide) hS.1.1) (v := ((34 : Nat) : Int)) (s4.at 16 3 34 (by decide +kernel)) rfl ?_
            obtain ⟨x15, e16, h⟩ := d_bind h
            obtain ⟨r17, s18⟩ := t_X9_advance s4 e16
            refine y_callVv (as := []) (S1 := []) (Nat.le_of_ble_eq_true rfl) (by omega) r17 rfl (show ash 34 = (9, 5) from rfl) (Nat.lt_of_lt_of_le (show 34 < 154 by decide) hS.1.1) (Nat.le_of_ble_eq_true rfl) (Nat.le_of_ble_eq_true rfl) rfl ?_
            refine wp_iload (v := x7) rfl ?_
            cases h
            exact y_ret0 (Or.inl rfl) ⟨rfl, rfl, s18⟩
          · rw [if_neg c14] at h
            refine y_blk (t := 48) rfl (show fnd bk_X7_readNumber 48 = some _ from rfl) aB_X7_readNumber ?_
            refine wp_aload_n (v := ((16 : Nat) : Int)) rfl (Int.natCast_nonneg _) ?_
            refine wp_iconst ⟨by decide, by decide⟩ ?_
            obtain ⟨x19, e20, h⟩ := d_bind h
            obtain ⟨r21, s22⟩ := t_X7_failsWhole s4 e20
            refine y_callV (as := [(0, 4)]) (S1 := []) (Nat.le_of_ble_eq_true rfl) (by omega) r21 (Nat.le_of_ble_eq_true rfl) rfl (show ash 16 = (7, 8) from rfl) (Nat.lt_of_lt_of_le (show 16 < 154 by decide) hS.1.1) (Nat.le_of_ble_eq_true rfl) (Nat.le_of_ble_eq_true rfl) rfl ?_
            cases h
            exact y_ret0 (Or.inl rfl) ⟨rfl, rfl, s22⟩
      · rw [if_neg c6] at h
        refine wp_aload_n (v := ((16 : Nat) : Int)) rfl (Int.natCast_nonneg _) ?_
        refine wp_iconst ⟨by decide, by decide⟩ ?_
        obtain ⟨x23, e24, h⟩ := d_bind h
        obtain ⟨r25, s26⟩ := t_X7_failsWhole s4 e24
        refine y_callV (as := [(0, 1)]) (S1 := []) (Nat.le_of_ble_eq_true rfl) (by omega) r25 (Nat.le_of_ble_eq_true rfl) rfl (show ash 16 = (7, 8) from rfl) (Nat.lt_of_lt_of_le (show 16 < 154 by decide) hS.1.1) (Nat.le_of_ble_eq_true rfl) (Nat.le_of_ble_eq_true rfl) rfl ?_
        cases h
        exact y_ret0 (Or.inl rfl) ⟨rfl, rfl, s26⟩
    · rw [if_pos c5] at h
      refine wp_iconst ⟨by decide, by decide⟩ ?_
      cases h
      exact y_ret0 (Or.inl rfl) ⟨rfl, rfl, s4⟩
  exact ⟨fun d hd => Ms.of3 (key d hd), Ms.sh (key 6 (Nat.le_refl _))⟩
theorem aB_X7_readWell : ∀ pc, aB 72 pc = fnd bk_X7_readWell pc := fun _ => rfl
def f_X7_readWell (T : Nat)  (M : aM) : Option (Int × aM) :=
 (f_X7_readNumber T 2000000 0 99 M).bind fun x1 =>
 (some (aup x1.2 17 0 x1.1)).bind fun m5 =>
 if (m5 17 0) = (-1) then
 some (0, m5) else
 (f_X7_readNumber T 2000001 0 100 m5).bind fun x8 =>
 (some (aup x8.2 17 1 x8.1)).bind fun m12 =>
 if (m12 17 1) = (-1) then
 some (0, m12) else
 (f_X7_readNumber T 2000002 0 100 m12).bind fun x15 =>
 (some (aup x15.2 17 2 x15.1)).bind fun m19 =>
 if (m19 17 2) = (-1) then
 some (0, m19) else
 some (1, m19)
theorem t_X7_readWell {T : T3}  {M : aM} {y : (Int × aM)}  (hS : Sh T.1 M) (h : f_X7_readWell T.1  M = some y) : Mr 7 72 [(2, ((16 : Nat) : Int))] M (some (0, y.1)) y.2 T ∧ Sh T.1 y.2 := by
  have key : ∀ d, 7 ≤ d → Wp d 72 0 [] [(2, ((16 : Nat) : Int))] [] (M, T) (fun r2 σ2 => r2 = some (0, y.1) ∧ σ2 = (y.2, T) ∧ Sh T.1 y.2) := by
    intro d hd
    rw [f_X7_readWell] at h
    refine y_blk (t := 0) rfl (show fnd bk_X7_readWell 0 = some _ from rfl) aB_X7_readWell ?_
    refine wp_aload_n (v := ((16 : Nat) : Int)) rfl (Int.natCast_nonneg _) ?_
    refine y_get (show ash 16 = (7, 8) from rfl) (Nat.lt_of_lt_of_le (show 16 < 154 by decide) hS.1.1) (v := ((17 : Nat) : Int)) (hS.at 16 0 17 (by decide +kernel)) rfl ?_
    refine wp_aload_n (v := ((16 : Nat) : Int)) rfl (Int.natCast_nonneg _) ?_
    refine y_ldcS (v := 2000000) rfl ?_
    refine wp_iconst ⟨by decide, by decide⟩ ?_
    refine wp_bipush (by decide) ?_
    obtain ⟨x1, e2, h⟩ := d_bind h
    obtain ⟨r3, s4⟩ := t_X7_readNumber hS e2
    refine y_callV (as := [(2, 2000000), (0, 0), (0, 99)]) (S1 := [(2, ((17 : Nat) : Int))]) (Nat.le_of_ble_eq_true rfl) (by omega) r3 (Nat.le_of_ble_eq_true rfl) rfl (show ash 16 = (7, 8) from rfl) (Nat.lt_of_lt_of_le (show 16 < 154 by decide) hS.1.1) (Nat.le_of_ble_eq_true rfl) (Nat.le_of_ble_eq_true rfl) rfl ?_
    refine y_put (show ash 17 = (10, 19) from rfl) (Nat.lt_of_lt_of_le (show 17 < 154 by decide) hS.1.1) rfl ?_
    obtain ⟨m5, em5, h⟩ := d_bind h
    have em5 := Option.some.inj em5
    have s6 : Sh T.1 m5 := em5 ▸ s4.up (Or.inr ⟨by rw [(show ash 17 = (10, 19) from rfl)]; decide, by rw [(show ash 17 = (10, 19) from rfl)]; decide⟩) (by have := (Nat.lt_of_lt_of_le (show 17 < 154 by decide) hS.1.1); have := hS.1.2; omega)
    rw [em5]
    refine wp_aload_n (v := ((16 : Nat) : Int)) rfl (Int.natCast_nonneg _) ?_
    refine y_get (show ash 16 = (7, 8) from rfl) (Nat.lt_of_lt_of_le (show 16 < 154 by decide) hS.1.1) (v := ((17 : Nat) : Int)) (s6.at 16 0 17 (by decide +kernel)) rfl ?_
    refine y_get (show ash 17 = (10, 19) from rfl) (Nat.lt_of_lt_of_le (show 17 < 154 by decide) hS.1.1) (v := m5 17 0) rfl rfl ?_
    refine wp_iconst ⟨by decide, by decide⟩ ?_
    refine y_ne (fun c7 => ?_) (fun c7 => ?_)
    · rw [if_neg c7] at h
      refine y_blk (t := 29) rfl (show fnd bk_X7_readWell 29 = some _ from rfl) aB_X7_readWell ?_
      refine wp_aload_n (v := ((16 : Nat) : Int)) rfl (Int.natCast_nonneg _) ?_
      refine y_get (show ash 16 = (7, 8) from rfl) (Nat.lt_of_lt_of_le (show 16 < 154 by decide) hS.1.1) (v := ((17 : Nat) : Int)) (s6.at 16 0 17 (by decide +kernel)) rfl ?_
      refine wp_aload_n (v := ((16 : Nat) : Int)) rfl (Int.natCast_nonneg _) ?_
      refine y_ldcS (v := 2000001) rfl ?_
      refine wp_iconst ⟨by decide, by decide⟩ ?_
      refine wp_bipush (by decide) ?_
      obtain ⟨x8, e9, h⟩ := d_bind h
      obtain ⟨r10, s11⟩ := t_X7_readNumber s6 e9
      refine y_callV (as := [(2, 2000001), (0, 0), (0, 100)]) (S1 := [(2, ((17 : Nat) : Int))]) (Nat.le_of_ble_eq_true rfl) (by omega) r10 (Nat.le_of_ble_eq_true rfl) rfl (show ash 16 = (7, 8) from rfl) (Nat.lt_of_lt_of_le (show 16 < 154 by decide) hS.1.1) (Nat.le_of_ble_eq_true rfl) (Nat.le_of_ble_eq_true rfl) rfl ?_
      refine y_put (show ash 17 = (10, 19) from rfl) (Nat.lt_of_lt_of_le (show 17 < 154 by decide) hS.1.1) rfl ?_
      obtain ⟨m12, em12, h⟩ := d_bind h
      have em12 := Option.some.inj em12
      have s13 : Sh T.1 m12 := em12 ▸ s11.up (Or.inr ⟨by rw [(show ash 17 = (10, 19) from rfl)]; decide, by rw [(show ash 17 = (10, 19) from rfl)]; decide⟩) (by have := (Nat.lt_of_lt_of_le (show 17 < 154 by decide) hS.1.1); have := hS.1.2; omega)
      rw [em12]
      refine wp_aload_n (v := ((16 : Nat) : Int)) rfl (Int.natCast_nonneg _) ?_
      refine y_get (show ash 16 = (7, 8) from rfl) (Nat.lt_of_lt_of_le (show 16 < 154 by decide) hS.1.1) (v := ((17 : Nat) : Int)) (s13.at 16 0 17 (by decide +kernel)) rfl ?_
      refine y_get (show ash 17 = (10, 19) from rfl) (Nat.lt_of_lt_of_le (show 17 < 154 by decide) hS.1.1) (v := m12 17 1) rfl rfl ?_
      refine wp_iconst ⟨by decide, by decide⟩ ?_
      refine y_ne (fun c14 => ?_) (fun c14 => ?_)
      · rw [if_neg c14] at h
        refine y_blk (t := 58) rfl (show fnd bk_X7_readWell 58 = some _ from rfl) aB_X7_readWell ?_
        refine wp_aload_n (v := ((16 : Nat) : Int)) rfl (Int.natCast_nonneg _) ?_
        refine y_get (show ash 16 = (7, 8) from rfl) (Nat.lt_of_lt_of_le (show 16 < 154 by decide) hS.1.1) (v := ((17 : Nat) : Int)) (s13.at 16 0 17 (by decide +kernel)) rfl ?_
        refine wp_aload_n (v := ((16 : Nat) : Int)) rfl (Int.natCast_nonneg _) ?_
        refine y_ldcS (v := 2000002) rfl ?_
        refine wp_iconst ⟨by decide, by decide⟩ ?_
        refine wp_bipush (by decide) ?_
        obtain ⟨x15, e16, h⟩ := d_bind h
        obtain ⟨r17, s18⟩ := t_X7_readNumber s13 e16
        refine y_callV (as := [(2, 2000002), (0, 0), (0, 100)]) (S1 := [(2, ((17 : Nat) : Int))]) (Nat.le_of_ble_eq_true rfl) (by omega) r17 (Nat.le_of_ble_eq_true rfl) rfl (show ash 16 = (7, 8) from rfl) (Nat.lt_of_lt_of_le (show 16 < 154 by decide) hS.1.1) (Nat.le_of_ble_eq_true rfl) (Nat.le_of_ble_eq_true rfl) rfl ?_
        refine y_put (show ash 17 = (10, 19) from rfl) (Nat.lt_of_lt_of_le (show 17 < 154 by decide) hS.1.1) rfl ?_
        obtain ⟨m19, em19, h⟩ := d_bind h
        have em19 := Option.some.inj em19
        have s20 : Sh T.1 m19 := em19 ▸ s18.up (Or.inr ⟨by rw [(show ash 17 = (10, 19) from rfl)]; decide, by rw [(show ash 17 = (10, 19) from rfl)]; decide⟩) (by have := (Nat.lt_of_lt_of_le (show 17 < 154 by decide) hS.1.1); have := hS.1.2; omega)
        rw [em19]
        refine wp_aload_n (v := ((16 : Nat) : Int)) rfl (Int.natCast_nonneg _) ?_
        refine y_get (show ash 16 = (7, 8) from rfl) (Nat.lt_of_lt_of_le (show 16 < 154 by decide) hS.1.1) (v := ((17 : Nat) : Int)) (s20.at 16 0 17 (by decide +kernel)) rfl ?_
        refine y_get (show ash 17 = (10, 19) from rfl) (Nat.lt_of_lt_of_le (show 17 < 154 by decide) hS.1.1) (v := m19 17 2) rfl rfl ?_
        refine wp_iconst ⟨by decide, by decide⟩ ?_
        refine wp_icmp_eq (fun c21 => ?_) (fun c21 => ?_)
        · rw [if_pos c21] at h
          refine y_blk (t := 89) rfl (show fnd bk_X7_readWell 89 = some _ from rfl) aB_X7_readWell ?_
          refine wp_iconst ⟨by decide, by decide⟩ ?_
          refine y_blk (t := 90) rfl (show fnd bk_X7_readWell 90 = some _ from rfl) aB_X7_readWell ?_
          cases h
          exact y_ret0 (Or.inr (Or.inl rfl)) ⟨rfl, rfl, s20⟩
        · rw [if_neg c21] at h
          refine wp_iconst ⟨by decide, by decide⟩ ?_
          refine wp_goto ?_
          refine y_blk (t := 90) rfl (show fnd bk_X7_readWell 90 = some _ from rfl) aB_X7_readWell ?_
          cases h
          exact y_ret0 (Or.inr (Or.inr rfl)) ⟨rfl, rfl, s20⟩
      · rw [if_pos c14] at h
        refine wp_iconst ⟨by decide, by decide⟩ ?_
        cases h
        exact y_ret0 (Or.inr (Or.inl rfl)) ⟨rfl, rfl, s13⟩
    · rw [if_pos c7] at h
      refine wp_iconst ⟨by decide, by decide⟩ ?_
      cases h
      exact y_ret0 (Or.inr (Or.inl rfl)) ⟨rfl, rfl, s6⟩
  exact ⟨fun d hd => Ms.of3 (key d hd), Ms.sh (key 7 (Nat.le_refl _))⟩
theorem aB_X7_isName : ∀ pc, aB 88 pc = fnd bk_X7_isName pc := fun _ => rfl
def f_X7_isName (T : Nat) (v1 : Int) (M : aM) : Option Int :=
 if (M 34 4) = 1 then
 if v1 = (-1) then
 some 1 else
 if v1 < 8 then
 some 0 else
 some 1 else
 some 0
theorem t_X7_isName {T : T3} {v1 : Int} {M : aM} {y : Int}  (hS : Sh T.1 M) (h : f_X7_isName T.1 v1 M = some y) : Mr 0 88 [(2, ((16 : Nat) : Int)), (0, v1)] M (some (0, y)) M T := by
  have key : ∀ d, 0 ≤ d → Wp d 88 0 [] [(2, ((16 : Nat) : Int)), (0, v1)] [] (M, T) (fun r2 σ2 => r2 = some (0, y) ∧ σ2 = (M, T)) := by
    intro d hd
    rw [f_X7_isName] at h
    refine y_blk (t := 0) rfl (show fnd bk_X7_isName 0 = some _ from rfl) aB_X7_isName ?_
    refine wp_aload_n (v := ((16 : Nat) : Int)) rfl (Int.natCast_nonneg _) ?_
    refine y_get (show ash 16 = (7, 8) from rfl) (Nat.lt_of_lt_of_le (show 16 < 154 by decide) hS.1.1) (v := ((34 : Nat) : Int)) (hS.at 16 3 34 (by decide +kernel)) rfl ?_
    refine y_get (show ash 34 = (9, 5) from rfl) (Nat.lt_of_lt_of_le (show 34 < 154 by decide) hS.1.1) (v := M 34 4) rfl rfl ?_
    refine wp_iconst ⟨by decide, by decide⟩ ?_
    refine y_ne (fun c1 => ?_) (fun c1 => ?_)
    · rw [if_neg c1] at h
      refine y_blk (t := 26) rfl (show fnd bk_X7_isName 26 = some _ from rfl) aB_X7_isName ?_
      refine wp_iconst ⟨by decide, by decide⟩ ?_
      refine y_blk (t := 27) rfl (show fnd bk_X7_isName 27 = some _ from rfl) aB_X7_isName ?_
      cases h
      exact y_ret0 (Or.inr (Or.inl rfl)) ⟨rfl, rfl⟩
    · rw [if_pos c1] at h
      refine wp_iload_n (v := v1) rfl ?_
      refine wp_iconst ⟨by decide, by decide⟩ ?_
      refine wp_icmp_eq (fun c2 => ?_) (fun c2 => ?_)
      · rw [if_pos c2] at h
        refine y_blk (t := 22) rfl (show fnd bk_X7_isName 22 = some _ from rfl) aB_X7_isName ?_
        refine wp_iconst ⟨by decide, by decide⟩ ?_
        refine wp_goto ?_
        refine y_blk (t := 27) rfl (show fnd bk_X7_isName 27 = some _ from rfl) aB_X7_isName ?_
        cases h
        exact y_ret0 (Or.inr (Or.inr rfl)) ⟨rfl, rfl⟩
      · rw [if_neg c2] at h
        refine wp_iload_n (v := v1) rfl ?_
        refine wp_bipush (by decide) ?_
        refine wp_icmp_lt (fun c3 => ?_) (fun c3 => ?_)
        · rw [if_pos c3] at h
          refine y_blk (t := 26) rfl (show fnd bk_X7_isName 26 = some _ from rfl) aB_X7_isName ?_
          refine wp_iconst ⟨by decide, by decide⟩ ?_
          refine y_blk (t := 27) rfl (show fnd bk_X7_isName 27 = some _ from rfl) aB_X7_isName ?_
          cases h
          exact y_ret0 (Or.inr (Or.inl rfl)) ⟨rfl, rfl⟩
        · rw [if_neg c3] at h
          refine y_blk (t := 22) rfl (show fnd bk_X7_isName 22 = some _ from rfl) aB_X7_isName ?_
          refine wp_iconst ⟨by decide, by decide⟩ ?_
          refine wp_goto ?_
          refine y_blk (t := 27) rfl (show fnd bk_X7_isName 27 = some _ from rfl) aB_X7_isName ?_
          cases h
          exact y_ret0 (Or.inr (Or.inr rfl)) ⟨rfl, rfl⟩
  exact fun d hd => Ms.of (key d hd)
theorem aB_X7_readNewName : ∀ pc, aB 87 pc = fnd bk_X7_readNewName pc := fun _ => rfl
def f_X7_readNewName (T : Nat) (v1 : Int) (M : aM) : Option (Int × aM) :=
 (f_X7_nameHere T M).bind fun x1 =>
 (f_X7_isName T x1 M).bind fun x3 =>
 if x3 = 0 then
 (f_X7_fails T 1 M).bind fun x37 =>
 if x37.1 = 0 ∨ x37.1 = 1 then
 some (x37.1, x37.2) else none else
 if x1 = (-1) then
 if (M 16 7) < 23 then
 (f_X9_wordNumber T M).bind fun x8 =>
 if 0 ≤ (M 16 7) ∧ (M 16 7) < 23 then
 (some (aup M 31 ((M 16 7)).toNat x8)).bind fun m11 =>
 if 0 ≤ (m11 16 7) ∧ (m11 16 7) < 23 then
 (some (aup m11 32 ((m11 16 7)).toNat v1)).bind fun m14 =>
 if 0 ≤ v1 ∧ v1 < 8 then
 if 0 ≤ (m14 16 7) ∧ (m14 16 7) < 23 then
 (some (aup m14 33 ((m14 16 7)).toNat (m14 18 (v1).toNat))).bind fun m18 =>
 if aIn ((m18 16 7) + 1) then
 (some (aup m18 16 7 ((m18 16 7) + 1))).bind fun m21 =>
 (f_X9_advance T m21).bind fun x23 =>
 some (1, x23.2) else none else none else none else none else none else
 (f_X7_fails T 5 M).bind fun x27 =>
 if x27.1 = 0 ∨ x27.1 = 1 then
 some (x27.1, x27.2) else none else
 (f_X7_fails T 3 M).bind fun x32 =>
 if x32.1 = 0 ∨ x32.1 = 1 then
 some (x32.1, x32.2) else none
theorem t_X7_readNewName {T : T3} {v1 : Int} {M : aM} {y : (Int × aM)}  (hS : Sh T.1 M) (h : f_X7_readNewName T.1 v1 M = some y) : Mr 2 87 [(2, ((16 : Nat) : Int)), (0, v1)] M (some (0, y.1)) y.2 T ∧ Sh T.1 y.2 := by
  have key : ∀ d, 2 ≤ d → Wp d 87 0 [] [(2, ((16 : Nat) : Int)), (0, v1), (9, 0)] [] (M, T) (fun r2 σ2 => r2 = some (0, y.1) ∧ σ2 = (y.2, T) ∧ Sh T.1 y.2) := by
    intro d hd
    rw [f_X7_readNewName] at h
    refine y_blk (t := 0) rfl (show fnd bk_X7_readNewName 0 = some _ from rfl) aB_X7_readNewName ?_
    refine wp_aload_n (v := ((16 : Nat) : Int)) rfl (Int.natCast_nonneg _) ?_
    obtain ⟨x1, e2, h⟩ := d_bind h
    refine y_callV (as := []) (S1 := []) (Nat.le_of_ble_eq_true rfl) (by omega) (t_X7_nameHere hS e2) (Nat.le_of_ble_eq_true rfl) rfl (show ash 16 = (7, 8) from rfl) (Nat.lt_of_lt_of_le (show 16 < 154 by decide) hS.1.1) (Nat.le_of_ble_eq_true rfl) (Nat.le_of_ble_eq_true rfl) rfl ?_
    refine y_stn (L1 := [(2, ((16 : Nat) : Int)), (0, v1), (0, x1)]) (Nat.le_of_ble_eq_true rfl) rfl ?_
    refine wp_aload_n (v := ((16 : Nat) : Int)) rfl (Int.natCast_nonneg _) ?_
    refine wp_iload_n (v := x1) rfl ?_
    obtain ⟨x3, e4, h⟩ := d_bind h
    refine y_callV (as := [(0, x1)]) (S1 := []) (Nat.le_of_ble_eq_true rfl) (by omega) (t_X7_isName hS e4) (Nat.le_of_ble_eq_true rfl) rfl (show ash 16 = (7, 8) from rfl) (Nat.lt_of_lt_of_le (show 16 < 154 by decide) hS.1.1) (Nat.le_of_ble_eq_true rfl) (Nat.le_of_ble_eq_true rfl) rfl ?_
    refine y_nez (fun c5 => ?_) (fun c5 => ?_)
    · rw [if_neg c5] at h
      refine y_blk (t := 19) rfl (show fnd bk_X7_readNewName 19 = some _ from rfl) aB_X7_readNewName ?_
      refine wp_iload_n (v := x1) rfl ?_
      refine wp_iconst ⟨by decide, by decide⟩ ?_
      refine wp_icmp_eq (fun c6 => ?_) (fun c6 => ?_)
      · rw [if_pos c6] at h
        refine y_blk (t := 30) rfl (show fnd bk_X7_readNewName 30 = some _ from rfl) aB_X7_readNewName ?_
        refine wp_aload_n (v := ((16 : Nat) : Int)) rfl (Int.natCast_nonneg _) ?_
        refine y_get (show ash 16 = (7, 8) from rfl) (Nat.lt_of_lt_of_le (show 16 < 154 by decide) hS.1.1) (v := M 16 7) rfl rfl ?_
        refine wp_bipush (by decide) ?_
        refine wp_icmp_lt (fun c7 => ?_) (fun c7 => ?_)
        · rw [if_pos c7] at h
          refine y_blk (t := 45) rfl (show fnd bk_X7_readNewName 45 = some _ from rfl) aB_X7_readNewName ?_
          refine wp_aload_n (v := ((16 : Nat) : Int)) rfl (Int.natCast_nonneg _) ?_
          refine y_get (show ash 16 = (7, 8) from rfl) (Nat.lt_of_lt_of_le (show 16 < 154 by decide) hS.1.1) (v := ((31 : Nat) : Int)) (hS.at 16 4 31 (by decide +kernel)) rfl ?_
          refine wp_aload_n (v := ((16 : Nat) : Int)) rfl (Int.natCast_nonneg _) ?_
          refine y_get (show ash 16 = (7, 8) from rfl) (Nat.lt_of_lt_of_le (show 16 < 154 by decide) hS.1.1) (v := M 16 7) rfl rfl ?_
          refine wp_aload_n (v := ((16 : Nat) : Int)) rfl (Int.natCast_nonneg _) ?_
          refine y_get (show ash 16 = (7, 8) from rfl) (Nat.lt_of_lt_of_le (show 16 < 154 by decide) hS.1.1) (v := ((34 : Nat) : Int)) (hS.at 16 3 34 (by decide +kernel)) rfl ?_
          obtain ⟨x8, e9, h⟩ := d_bind h
          refine y_callV (as := []) (S1 := [(0, (M 16 7)), (2, ((31 : Nat) : Int))]) (Nat.le_of_ble_eq_true rfl) (by omega) (t_X9_wordNumber hS e9) (Nat.le_of_ble_eq_true rfl) rfl (show ash 34 = (9, 5) from rfl) (Nat.lt_of_lt_of_le (show 34 < 154 by decide) hS.1.1) (Nat.le_of_ble_eq_true rfl) (Nat.le_of_ble_eq_true rfl) rfl ?_
          obtain ⟨c10, h⟩ := d_ite h
          refine y_last (show ash 31 = (102, 23) from rfl) (Nat.lt_of_lt_of_le (show 31 < 154 by decide) hS.1.1) c10 ?_
          obtain ⟨m11, em11, h⟩ := d_bind h
          have em11 := Option.some.inj em11
          have s12 : Sh T.1 m11 := em11 ▸ hS.up (Or.inl ⟨by rw [(show ash 31 = (102, 23) from rfl)]; exact Nat.le_of_ble_eq_true rfl, by rw [(show ash 31 = (102, 23) from rfl)]; exact Nat.le_of_ble_eq_true rfl⟩) (by have := (Nat.lt_of_lt_of_le (show 31 < 154 by decide) hS.1.1); have := hS.1.2; omega)
          rw [em11]
          refine wp_aload_n (v := ((16 : Nat) : Int)) rfl (Int.natCast_nonneg _) ?_
          refine y_get (show ash 16 = (7, 8) from rfl) (Nat.lt_of_lt_of_le (show 16 < 154 by decide) hS.1.1) (v := ((32 : Nat) : Int)) (s12.at 16 5 32 (by decide +kernel)) rfl ?_
          refine wp_aload_n (v := ((16 : Nat) : Int)) rfl (Int.natCast_nonneg _) ?_
          refine y_get (show ash 16 = (7, 8) from rfl) (Nat.lt_of_lt_of_le (show 16 < 154 by decide) hS.1.1) (v := m11 16 7) rfl rfl ?_
          refine wp_iload_n (v := v1) rfl ?_
          obtain ⟨c13, h⟩ := d_ite h
          refine y_iast (show ash 32 = (100, 23) from rfl) (Nat.lt_of_lt_of_le (show 32 < 154 by decide) hS.1.1) c13 ?_
          obtain ⟨m14, em14, h⟩ := d_bind h
          have em14 := Option.some.inj em14
          have s15 : Sh T.1 m14 := em14 ▸ s12.up (Or.inl ⟨by rw [(show ash 32 = (100, 23) from rfl)]; exact Nat.le_of_ble_eq_true rfl, by rw [(show ash 32 = (100, 23) from rfl)]; exact Nat.le_of_ble_eq_true rfl⟩) (by have := (Nat.lt_of_lt_of_le (show 32 < 154 by decide) hS.1.1); have := hS.1.2; omega)
          rw [em14]
          refine wp_aload_n (v := ((16 : Nat) : Int)) rfl (Int.natCast_nonneg _) ?_
          refine y_get (show ash 16 = (7, 8) from rfl) (Nat.lt_of_lt_of_le (show 16 < 154 by decide) hS.1.1) (v := ((33 : Nat) : Int)) (s15.at 16 6 33 (by decide +kernel)) rfl ?_
          refine wp_aload_n (v := ((16 : Nat) : Int)) rfl (Int.natCast_nonneg _) ?_
          refine y_get (show ash 16 = (7, 8) from rfl) (Nat.lt_of_lt_of_le (show 16 < 154 by decide) hS.1.1) (v := m14 16 7) rfl rfl ?_
          refine wp_aload_n (v := ((16 : Nat) : Int)) rfl (Int.natCast_nonneg _) ?_
          refine y_get (show ash 16 = (7, 8) from rfl) (Nat.lt_of_lt_of_le (show 16 < 154 by decide) hS.1.1) (v := ((17 : Nat) : Int)) (s15.at 16 0 17 (by decide +kernel)) rfl ?_
          refine y_get (show ash 17 = (10, 19) from rfl) (Nat.lt_of_lt_of_le (show 17 < 154 by decide) hS.1.1) (v := ((18 : Nat) : Int)) (s15.at 17 3 18 (by decide +kernel)) rfl ?_
          refine wp_iload_n (v := v1) rfl ?_
          obtain ⟨c16, h⟩ := d_ite h
          refine y_iald (show ash 18 = (100, 8) from rfl) (Or.inl (Nat.lt_of_lt_of_le (show 18 < 154 by decide) hS.1.1)) (Nat.ne_of_lt (Nat.lt_of_lt_of_le (Nat.lt_of_lt_of_le (show 18 < 154 by decide) hS.1.1) hS.1.2)) c16 (v := m14 18 (v1).toNat) rfl ?_
          obtain ⟨c17, h⟩ := d_ite h
          refine y_iast (show ash 33 = (100, 23) from rfl) (Nat.lt_of_lt_of_le (show 33 < 154 by decide) hS.1.1) c17 ?_
          obtain ⟨m18, em18, h⟩ := d_bind h
          have em18 := Option.some.inj em18
          have s19 : Sh T.1 m18 := em18 ▸ s15.up (Or.inl ⟨by rw [(show ash 33 = (100, 23) from rfl)]; exact Nat.le_of_ble_eq_true rfl, by rw [(show ash 33 = (100, 23) from rfl)]; exact Nat.le_of_ble_eq_true rfl⟩) (by have := (Nat.lt_of_lt_of_le (show 33 < 154 by decide) hS.1.1); have := hS.1.2; omega)
          rw [em18]
          refine wp_aload_n (v := ((16 : Nat) : Int)) rfl (Int.natCast_nonneg _) ?_
          refine wp_dup (Or.inr rfl) ?_
          refine y_get (show ash 16 = (7, 8) from rfl) (Nat.lt_of_lt_of_le (show 16 < 154 by decide) hS.1.1) (v := m18 16 7) rfl rfl ?_
          refine wp_iconst ⟨by decide, by decide⟩ ?_
          obtain ⟨c20, h⟩ := d_ite h
          refine wp_iadd c20 ?_
          refine y_put (show ash 16 = (7, 8) from rfl) (Nat.lt_of_lt_of_le (show 16 < 154 by decide) hS.1.1) rfl ?_
          obtain ⟨m21, em21, h⟩ := d_bind h
          have em21 := Option.some.inj em21
          have s22 : Sh T.1 m21 := em21 ▸ s19.up (Or.inr ⟨by rw [(show ash 16 = (7, 8) from rfl)]; decide, by rw [(show ash 16 = (7, 8) from rfl)]; decide⟩) (by have := (Nat.lt_of_lt_of_le (show 16 < 154 by decide) hS.1.1); have := hS.1.2; omega)
          rw [em21]
          refine wp_aload_n (v := ((16 : Nat) : Int)) rfl (Int.natCast_nonneg _) ?_
          refine y_get (show ash 16 = (7, 8) from rfl) (Nat.lt_of_lt_of_le (show 16 < 154 by decide) hS.1.1) (v := ((34 : Nat) : Int)) (s22.at 16 3 34 (by decide +kernel)) rfl ?_
          obtain ⟨x23, e24, h⟩ := d_bind h
          obtain ⟨r25, s26⟩ := t_X9_advance s22 e24
          refine y_callVv (as := []) (S1 := []) (Nat.le_of_ble_eq_true rfl) (by omega) r25 rfl (show ash 34 = (9, 5) from rfl) (Nat.lt_of_lt_of_le (show 34 < 154 by decide) hS.1.1) (Nat.le_of_ble_eq_true rfl) (Nat.le_of_ble_eq_true rfl) rfl ?_
          refine wp_iconst ⟨by decide, by decide⟩ ?_
          cases h
          exact y_ret0 (Or.inr (Or.inr rfl)) ⟨rfl, rfl, s26⟩
        · rw [if_neg c7] at h
          refine wp_aload_n (v := ((16 : Nat) : Int)) rfl (Int.natCast_nonneg _) ?_
          refine wp_iconst ⟨by decide, by decide⟩ ?_
          obtain ⟨x27, e28, h⟩ := d_bind h
          obtain ⟨r29, s30⟩ := t_X7_fails hS e28
          refine y_callV (as := [(0, 5)]) (S1 := []) (Nat.le_of_ble_eq_true rfl) (by omega) r29 (Nat.le_of_ble_eq_true rfl) rfl (show ash 16 = (7, 8) from rfl) (Nat.lt_of_lt_of_le (show 16 < 154 by decide) hS.1.1) (Nat.le_of_ble_eq_true rfl) (Nat.le_of_ble_eq_true rfl) rfl ?_
          obtain ⟨c31, h⟩ := d_ite h
          cases h
          exact y_ret0 (Or.inr c31) ⟨rfl, rfl, s30⟩
      · rw [if_neg c6] at h
        refine wp_aload_n (v := ((16 : Nat) : Int)) rfl (Int.natCast_nonneg _) ?_
        refine wp_iconst ⟨by decide, by decide⟩ ?_
        obtain ⟨x32, e33, h⟩ := d_bind h
        obtain ⟨r34, s35⟩ := t_X7_fails hS e33
        refine y_callV (as := [(0, 3)]) (S1 := []) (Nat.le_of_ble_eq_true rfl) (by omega) r34 (Nat.le_of_ble_eq_true rfl) rfl (show ash 16 = (7, 8) from rfl) (Nat.lt_of_lt_of_le (show 16 < 154 by decide) hS.1.1) (Nat.le_of_ble_eq_true rfl) (Nat.le_of_ble_eq_true rfl) rfl ?_
        obtain ⟨c36, h⟩ := d_ite h
        cases h
        exact y_ret0 (Or.inr c36) ⟨rfl, rfl, s35⟩
    · rw [if_pos c5] at h
      refine wp_aload_n (v := ((16 : Nat) : Int)) rfl (Int.natCast_nonneg _) ?_
      refine wp_iconst ⟨by decide, by decide⟩ ?_
      obtain ⟨x37, e38, h⟩ := d_bind h
      obtain ⟨r39, s40⟩ := t_X7_fails hS e38
      refine y_callV (as := [(0, 1)]) (S1 := []) (Nat.le_of_ble_eq_true rfl) (by omega) r39 (Nat.le_of_ble_eq_true rfl) rfl (show ash 16 = (7, 8) from rfl) (Nat.lt_of_lt_of_le (show 16 < 154 by decide) hS.1.1) (Nat.le_of_ble_eq_true rfl) (Nat.le_of_ble_eq_true rfl) rfl ?_
      obtain ⟨c41, h⟩ := d_ite h
      cases h
      exact y_ret0 (Or.inr c41) ⟨rfl, rfl, s40⟩
  exact ⟨fun d hd => Ms.of3 (key d hd), Ms.sh (key 2 (Nat.le_refl _))⟩
theorem aB_X7_readCave : ∀ pc, aB 73 pc = fnd bk_X7_readCave pc := fun _ => rfl
def f_X7_readCave (T : Nat)  (M : aM) : Option (Int × aM) :=
 (f_X7_readNewName T 1 M).bind fun x1 =>
 if x1.1 = 0 then
 some (0, x1.2) else
 (f_X9_isWord T 2000003 x1.2).bind fun x6 =>
 if x6 = 0 then
 (f_X7_readWord T 2000004 x1.2).bind fun x9 =>
 if x9.1 = 0 ∨ x9.1 = 1 then
 some (x9.1, x9.2) else none else
 (some (aup x1.2 17 4 (aor (x1.2 17 4) (ashl 1 (x1.2 18 1))))).bind fun m14 =>
 (f_X7_readWord T 2000003 m14).bind fun x16 =>
 if x16.1 = 0 ∨ x16.1 = 1 then
 some (x16.1, x16.2) else none
theorem t_X7_readCave {T : T3}  {M : aM} {y : (Int × aM)}  (hS : Sh T.1 M) (h : f_X7_readCave T.1  M = some y) : Mr 6 73 [(2, ((16 : Nat) : Int))] M (some (0, y.1)) y.2 T ∧ Sh T.1 y.2 := by
  have key : ∀ d, 6 ≤ d → Wp d 73 0 [] [(2, ((16 : Nat) : Int))] [] (M, T) (fun r2 σ2 => r2 = some (0, y.1) ∧ σ2 = (y.2, T) ∧ Sh T.1 y.2) := by
    intro d hd
    rw [f_X7_readCave] at h
    refine y_blk (t := 0) rfl (show fnd bk_X7_readCave 0 = some _ from rfl) aB_X7_readCave ?_
    refine wp_aload_n (v := ((16 : Nat) : Int)) rfl (Int.natCast_nonneg _) ?_
    refine wp_iconst ⟨by decide, by decide⟩ ?_
    obtain ⟨x1, e2, h⟩ := d_bind h
    obtain ⟨r3, s4⟩ := t_X7_readNewName hS e2
    refine y_callV (as := [(0, 1)]) (S1 := []) (Nat.le_of_ble_eq_true rfl) (by omega) r3 (Nat.le_of_ble_eq_true rfl) rfl (show ash 16 = (7, 8) from rfl) (Nat.lt_of_lt_of_le (show 16 < 154 by decide) hS.1.1) (Nat.le_of_ble_eq_true rfl) (Nat.le_of_ble_eq_true rfl) rfl ?_
    refine y_nez (fun c5 => ?_) (fun c5 => ?_)
    · rw [if_neg c5] at h
      refine y_blk (t := 10) rfl (show fnd bk_X7_readCave 10 = some _ from rfl) aB_X7_readCave ?_
      refine wp_aload_n (v := ((16 : Nat) : Int)) rfl (Int.natCast_nonneg _) ?_
      refine y_get (show ash 16 = (7, 8) from rfl) (Nat.lt_of_lt_of_le (show 16 < 154 by decide) hS.1.1) (v := ((34 : Nat) : Int)) (s4.at 16 3 34 (by decide +kernel)) rfl ?_
      refine y_ldcS (v := 2000003) rfl ?_
      obtain ⟨x6, e7, h⟩ := d_bind h
      refine y_callV (as := [(2, 2000003)]) (S1 := []) (Nat.le_of_ble_eq_true rfl) (by omega) (t_X9_isWord s4 e7) (Nat.le_of_ble_eq_true rfl) rfl (show ash 34 = (9, 5) from rfl) (Nat.lt_of_lt_of_le (show 34 < 154 by decide) hS.1.1) (Nat.le_of_ble_eq_true rfl) (Nat.le_of_ble_eq_true rfl) rfl ?_
      refine wp_if_eq (fun c8 => ?_) (fun c8 => ?_)
      · rw [if_pos c8] at h
        refine y_blk (t := 52) rfl (show fnd bk_X7_readCave 52 = some _ from rfl) aB_X7_readCave ?_
        refine wp_aload_n (v := ((16 : Nat) : Int)) rfl (Int.natCast_nonneg _) ?_
        refine y_ldcS (v := 2000004) rfl ?_
        obtain ⟨x9, e10, h⟩ := d_bind h
        obtain ⟨r11, s12⟩ := t_X7_readWord s4 e10
        refine y_callV (as := [(2, 2000004)]) (S1 := []) (Nat.le_of_ble_eq_true rfl) (by omega) r11 (Nat.le_of_ble_eq_true rfl) rfl (show ash 16 = (7, 8) from rfl) (Nat.lt_of_lt_of_le (show 16 < 154 by decide) hS.1.1) (Nat.le_of_ble_eq_true rfl) (Nat.le_of_ble_eq_true rfl) rfl ?_
        obtain ⟨c13, h⟩ := d_ite h
        cases h
        exact y_ret0 (Or.inr c13) ⟨rfl, rfl, s12⟩
      · rw [if_neg c8] at h
        refine wp_aload_n (v := ((16 : Nat) : Int)) rfl (Int.natCast_nonneg _) ?_
        refine y_get (show ash 16 = (7, 8) from rfl) (Nat.lt_of_lt_of_le (show 16 < 154 by decide) hS.1.1) (v := ((17 : Nat) : Int)) (s4.at 16 0 17 (by decide +kernel)) rfl ?_
        refine wp_dup (Or.inr rfl) ?_
        refine y_get (show ash 17 = (10, 19) from rfl) (Nat.lt_of_lt_of_le (show 17 < 154 by decide) hS.1.1) (v := x1.2 17 4) rfl rfl ?_
        refine wp_iconst ⟨by decide, by decide⟩ ?_
        refine wp_aload_n (v := ((16 : Nat) : Int)) rfl (Int.natCast_nonneg _) ?_
        refine y_get (show ash 16 = (7, 8) from rfl) (Nat.lt_of_lt_of_le (show 16 < 154 by decide) hS.1.1) (v := ((17 : Nat) : Int)) (s4.at 16 0 17 (by decide +kernel)) rfl ?_
        refine y_get (show ash 17 = (10, 19) from rfl) (Nat.lt_of_lt_of_le (show 17 < 154 by decide) hS.1.1) (v := ((18 : Nat) : Int)) (s4.at 17 3 18 (by decide +kernel)) rfl ?_
        refine wp_iconst ⟨by decide, by decide⟩ ?_
        refine y_iald (show ash 18 = (100, 8) from rfl) (Or.inl (Nat.lt_of_lt_of_le (show 18 < 154 by decide) hS.1.1)) (Nat.ne_of_lt (Nat.lt_of_lt_of_le (Nat.lt_of_lt_of_le (show 18 < 154 by decide) hS.1.1) hS.1.2)) ⟨by decide, by decide⟩ (v := x1.2 18 1) rfl ?_
        refine wp_ishl ?_
        refine wp_ior ?_
        refine y_put (show ash 17 = (10, 19) from rfl) (Nat.lt_of_lt_of_le (show 17 < 154 by decide) hS.1.1) rfl ?_
        obtain ⟨m14, em14, h⟩ := d_bind h
        have em14 := Option.some.inj em14
        have s15 : Sh T.1 m14 := em14 ▸ s4.up (Or.inr ⟨by rw [(show ash 17 = (10, 19) from rfl)]; decide, by rw [(show ash 17 = (10, 19) from rfl)]; decide⟩) (by have := (Nat.lt_of_lt_of_le (show 17 < 154 by decide) hS.1.1); have := hS.1.2; omega)
        rw [em14]
        refine wp_aload_n (v := ((16 : Nat) : Int)) rfl (Int.natCast_nonneg _) ?_
        refine y_ldcS (v := 2000003) rfl ?_
        obtain ⟨x16, e17, h⟩ := d_bind h
        obtain ⟨r18, s19⟩ := t_X7_readWord s15 e17
        refine y_callV (as := [(2, 2000003)]) (S1 := []) (Nat.le_of_ble_eq_true rfl) (by omega) r18 (Nat.le_of_ble_eq_true rfl) rfl (show ash 16 = (7, 8) from rfl) (Nat.lt_of_lt_of_le (show 16 < 154 by decide) hS.1.1) (Nat.le_of_ble_eq_true rfl) (Nat.le_of_ble_eq_true rfl) rfl ?_
        obtain ⟨c20, h⟩ := d_ite h
        cases h
        exact y_ret0 (Or.inr c20) ⟨rfl, rfl, s19⟩
    · rw [if_pos c5] at h
      refine wp_iconst ⟨by decide, by decide⟩ ?_
      cases h
      exact y_ret0 (Or.inr (Or.inl rfl)) ⟨rfl, rfl, s4⟩
  exact ⟨fun d hd => Ms.of3 (key d hd), Ms.sh (key 6 (Nat.le_refl _))⟩
theorem aB_X7_caveHere : ∀ pc, aB 86 pc = fnd bk_X7_caveHere pc := fun _ => rfl
def f_X7_caveHere (T : Nat)  (M : aM) : Option (Int × aM) :=
 (f_X7_nameHere T M).bind fun x1 =>
 (f_X7_isName T x1 M).bind fun x3 =>
 if x3 = 0 then
 (f_X7_failsWhole T 1 M).bind fun x17 =>
 some (x17.1, x17.2) else
 if x1 = (-1) then
 (f_X7_failsWhole T 2 M).bind fun x7 =>
 some (x7.1, x7.2) else
 if 0 ≤ x1 ∧ x1 < 23 then
 if (M 32 (x1).toNat) = 1 then
 some ((M 33 (x1).toNat), M) else
 (f_X7_failsWhole T 2 M).bind fun x13 =>
 some (x13.1, x13.2) else none
theorem t_X7_caveHere {T : T3}  {M : aM} {y : (Int × aM)}  (hS : Sh T.1 M) (h : f_X7_caveHere T.1  M = some y) : Mr 2 86 [(2, ((16 : Nat) : Int))] M (some (0, y.1)) y.2 T ∧ Sh T.1 y.2 := by
  have key : ∀ d, 2 ≤ d → Wp d 86 0 [] [(2, ((16 : Nat) : Int)), (9, 0)] [] (M, T) (fun r2 σ2 => r2 = some (0, y.1) ∧ σ2 = (y.2, T) ∧ Sh T.1 y.2) := by
    intro d hd
    rw [f_X7_caveHere] at h
    refine y_blk (t := 0) rfl (show fnd bk_X7_caveHere 0 = some _ from rfl) aB_X7_caveHere ?_
    refine wp_aload_n (v := ((16 : Nat) : Int)) rfl (Int.natCast_nonneg _) ?_
    obtain ⟨x1, e2, h⟩ := d_bind h
    refine y_callV (as := []) (S1 := []) (Nat.le_of_ble_eq_true rfl) (by omega) (t_X7_nameHere hS e2) (Nat.le_of_ble_eq_true rfl) rfl (show ash 16 = (7, 8) from rfl) (Nat.lt_of_lt_of_le (show 16 < 154 by decide) hS.1.1) (Nat.le_of_ble_eq_true rfl) (Nat.le_of_ble_eq_true rfl) rfl ?_
    refine y_stn (L1 := [(2, ((16 : Nat) : Int)), (0, x1)]) (Nat.le_of_ble_eq_true rfl) rfl ?_
    refine wp_aload_n (v := ((16 : Nat) : Int)) rfl (Int.natCast_nonneg _) ?_
    refine wp_iload_n (v := x1) rfl ?_
    obtain ⟨x3, e4, h⟩ := d_bind h
    refine y_callV (as := [(0, x1)]) (S1 := []) (Nat.le_of_ble_eq_true rfl) (by omega) (t_X7_isName hS e4) (Nat.le_of_ble_eq_true rfl) rfl (show ash 16 = (7, 8) from rfl) (Nat.lt_of_lt_of_le (show 16 < 154 by decide) hS.1.1) (Nat.le_of_ble_eq_true rfl) (Nat.le_of_ble_eq_true rfl) rfl ?_
    refine y_nez (fun c5 => ?_) (fun c5 => ?_)
    · rw [if_neg c5] at h
      refine y_blk (t := 19) rfl (show fnd bk_X7_caveHere 19 = some _ from rfl) aB_X7_caveHere ?_
      refine wp_iload_n (v := x1) rfl ?_
      refine wp_iconst ⟨by decide, by decide⟩ ?_
      refine wp_icmp_eq (fun c6 => ?_) (fun c6 => ?_)
      · rw [if_pos c6] at h
        refine y_blk (t := 34) rfl (show fnd bk_X7_caveHere 34 = some _ from rfl) aB_X7_caveHere ?_
        refine wp_aload_n (v := ((16 : Nat) : Int)) rfl (Int.natCast_nonneg _) ?_
        refine wp_iconst ⟨by decide, by decide⟩ ?_
        obtain ⟨x7, e8, h⟩ := d_bind h
        obtain ⟨r9, s10⟩ := t_X7_failsWhole hS e8
        refine y_callV (as := [(0, 2)]) (S1 := []) (Nat.le_of_ble_eq_true rfl) (by omega) r9 (Nat.le_of_ble_eq_true rfl) rfl (show ash 16 = (7, 8) from rfl) (Nat.lt_of_lt_of_le (show 16 < 154 by decide) hS.1.1) (Nat.le_of_ble_eq_true rfl) (Nat.le_of_ble_eq_true rfl) rfl ?_
        cases h
        exact y_ret0 (Or.inl rfl) ⟨rfl, rfl, s10⟩
      · rw [if_neg c6] at h
        refine wp_aload_n (v := ((16 : Nat) : Int)) rfl (Int.natCast_nonneg _) ?_
        refine y_get (show ash 16 = (7, 8) from rfl) (Nat.lt_of_lt_of_le (show 16 < 154 by decide) hS.1.1) (v := ((32 : Nat) : Int)) (hS.at 16 5 32 (by decide +kernel)) rfl ?_
        refine wp_iload_n (v := x1) rfl ?_
        obtain ⟨c11, h⟩ := d_ite h
        refine y_iald (show ash 32 = (100, 23) from rfl) (Or.inl (Nat.lt_of_lt_of_le (show 32 < 154 by decide) hS.1.1)) (Nat.ne_of_lt (Nat.lt_of_lt_of_le (Nat.lt_of_lt_of_le (show 32 < 154 by decide) hS.1.1) hS.1.2)) c11 (v := M 32 (x1).toNat) rfl ?_
        refine wp_iconst ⟨by decide, by decide⟩ ?_
        refine wp_icmp_eq (fun c12 => ?_) (fun c12 => ?_)
        · rw [if_pos c12] at h
          refine y_blk (t := 40) rfl (show fnd bk_X7_caveHere 40 = some _ from rfl) aB_X7_caveHere ?_
          refine wp_aload_n (v := ((16 : Nat) : Int)) rfl (Int.natCast_nonneg _) ?_
          refine y_get (show ash 16 = (7, 8) from rfl) (Nat.lt_of_lt_of_le (show 16 < 154 by decide) hS.1.1) (v := ((33 : Nat) : Int)) (hS.at 16 6 33 (by decide +kernel)) rfl ?_
          refine wp_iload_n (v := x1) rfl ?_
          refine y_iald (show ash 33 = (100, 23) from rfl) (Or.inl (Nat.lt_of_lt_of_le (show 33 < 154 by decide) hS.1.1)) (Nat.ne_of_lt (Nat.lt_of_lt_of_le (Nat.lt_of_lt_of_le (show 33 < 154 by decide) hS.1.1) hS.1.2)) c11 (v := M 33 (x1).toNat) rfl ?_
          cases h
          exact y_ret0 (Or.inl rfl) ⟨rfl, rfl, hS⟩
        · rw [if_neg c12] at h
          refine y_blk (t := 34) rfl (show fnd bk_X7_caveHere 34 = some _ from rfl) aB_X7_caveHere ?_
          refine wp_aload_n (v := ((16 : Nat) : Int)) rfl (Int.natCast_nonneg _) ?_
          refine wp_iconst ⟨by decide, by decide⟩ ?_
          obtain ⟨x13, e14, h⟩ := d_bind h
          obtain ⟨r15, s16⟩ := t_X7_failsWhole hS e14
          refine y_callV (as := [(0, 2)]) (S1 := []) (Nat.le_of_ble_eq_true rfl) (by omega) r15 (Nat.le_of_ble_eq_true rfl) rfl (show ash 16 = (7, 8) from rfl) (Nat.lt_of_lt_of_le (show 16 < 154 by decide) hS.1.1) (Nat.le_of_ble_eq_true rfl) (Nat.le_of_ble_eq_true rfl) rfl ?_
          cases h
          exact y_ret0 (Or.inl rfl) ⟨rfl, rfl, s16⟩
    · rw [if_pos c5] at h
      refine wp_aload_n (v := ((16 : Nat) : Int)) rfl (Int.natCast_nonneg _) ?_
      refine wp_iconst ⟨by decide, by decide⟩ ?_
      obtain ⟨x17, e18, h⟩ := d_bind h
      obtain ⟨r19, s20⟩ := t_X7_failsWhole hS e18
      refine y_callV (as := [(0, 1)]) (S1 := []) (Nat.le_of_ble_eq_true rfl) (by omega) r19 (Nat.le_of_ble_eq_true rfl) rfl (show ash 16 = (7, 8) from rfl) (Nat.lt_of_lt_of_le (show 16 < 154 by decide) hS.1.1) (Nat.le_of_ble_eq_true rfl) (Nat.le_of_ble_eq_true rfl) rfl ?_
      cases h
      exact y_ret0 (Or.inl rfl) ⟨rfl, rfl, s20⟩
  exact ⟨fun d hd => Ms.of3 (key d hd), Ms.sh (key 2 (Nat.le_refl _))⟩
theorem aB_X7_readFirstCave : ∀ pc, aB 85 pc = fnd bk_X7_readFirstCave pc := fun _ => rfl
def f_X7_readFirstCave (T : Nat)  (M : aM) : Option (Int × aM) :=
 (f_X7_caveHere T M).bind fun x1 =>
 if x1.1 = (-1) then
 some (x1.1, x1.2) else
 (f_X9_advance T x1.2).bind fun x6 =>
 some (x1.1, x6.2)
theorem t_X7_readFirstCave {T : T3}  {M : aM} {y : (Int × aM)}  (hS : Sh T.1 M) (h : f_X7_readFirstCave T.1  M = some y) : Mr 3 85 [(2, ((16 : Nat) : Int))] M (some (0, y.1)) y.2 T ∧ Sh T.1 y.2 := by
  have key : ∀ d, 3 ≤ d → Wp d 85 0 [] [(2, ((16 : Nat) : Int)), (9, 0)] [] (M, T) (fun r2 σ2 => r2 = some (0, y.1) ∧ σ2 = (y.2, T) ∧ Sh T.1 y.2) := by
    intro d hd
    rw [f_X7_readFirstCave] at h
    refine y_blk (t := 0) rfl (show fnd bk_X7_readFirstCave 0 = some _ from rfl) aB_X7_readFirstCave ?_
    refine wp_aload_n (v := ((16 : Nat) : Int)) rfl (Int.natCast_nonneg _) ?_
    obtain ⟨x1, e2, h⟩ := d_bind h
    obtain ⟨r3, s4⟩ := t_X7_caveHere hS e2
    refine y_callV (as := []) (S1 := []) (Nat.le_of_ble_eq_true rfl) (by omega) r3 (Nat.le_of_ble_eq_true rfl) rfl (show ash 16 = (7, 8) from rfl) (Nat.lt_of_lt_of_le (show 16 < 154 by decide) hS.1.1) (Nat.le_of_ble_eq_true rfl) (Nat.le_of_ble_eq_true rfl) rfl ?_
    refine y_stn (L1 := [(2, ((16 : Nat) : Int)), (0, x1.1)]) (Nat.le_of_ble_eq_true rfl) rfl ?_
    refine wp_iload_n (v := x1.1) rfl ?_
    refine wp_iconst ⟨by decide, by decide⟩ ?_
    refine wp_icmp_eq (fun c5 => ?_) (fun c5 => ?_)
    · rw [if_pos c5] at h
      refine y_blk (t := 17) rfl (show fnd bk_X7_readFirstCave 17 = some _ from rfl) aB_X7_readFirstCave ?_
      refine wp_iload_n (v := x1.1) rfl ?_
      cases h
      exact y_ret0 (Or.inl rfl) ⟨rfl, rfl, s4⟩
    · rw [if_neg c5] at h
      refine wp_aload_n (v := ((16 : Nat) : Int)) rfl (Int.natCast_nonneg _) ?_
      refine y_get (show ash 16 = (7, 8) from rfl) (Nat.lt_of_lt_of_le (show 16 < 154 by decide) hS.1.1) (v := ((34 : Nat) : Int)) (s4.at 16 3 34 (by decide +kernel)) rfl ?_
      obtain ⟨x6, e7, h⟩ := d_bind h
      obtain ⟨r8, s9⟩ := t_X9_advance s4 e7
      refine y_callVv (as := []) (S1 := []) (Nat.le_of_ble_eq_true rfl) (by omega) r8 rfl (show ash 34 = (9, 5) from rfl) (Nat.lt_of_lt_of_le (show 34 < 154 by decide) hS.1.1) (Nat.le_of_ble_eq_true rfl) (Nat.le_of_ble_eq_true rfl) rfl ?_
      refine y_blk (t := 17) rfl (show fnd bk_X7_readFirstCave 17 = some _ from rfl) aB_X7_readFirstCave ?_
      refine wp_iload_n (v := x1.1) rfl ?_
      cases h
      exact y_ret0 (Or.inl rfl) ⟨rfl, rfl, s9⟩
  exact ⟨fun d hd => Ms.of3 (key d hd), Ms.sh (key 3 (Nat.le_refl _))⟩

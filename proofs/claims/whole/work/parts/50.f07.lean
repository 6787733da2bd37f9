/-! ===== methods as functions ===== -/
theorem aB_X6_firstUntrueTalk : ∀ pc, aB 65 pc = fnd bk_X6_firstUntrueTalk pc := fun _ => rfl
def l_X6_firstUntrueTalk_8 (T : Nat) (v2 : Int) (k : Int → aM → Option (Int × aM)) : Nat → Int → aM → Option (Int × aM)
| 0, _, _ => none
| n + 1, v3, M =>
 if (M 3 7) ≤ v3 then
 k v3 M else
 if 0 ≤ v3 ∧ v3 < 5 then
 (f_X5_layFrom T 45 v2 (M 14 (v3).toNat) M).bind fun x5 =>
 (f_X5_span T 45 (x5.2 14 (v3).toNat) (x5.2 15 (v3).toNat) x5.2).bind fun x9 =>
 if (x5.2 2 0) < x9 then
 (f_X11_hasBit T (x5.2 2 18) v3 x5.2).bind fun x12 =>
 if 0 = x12 then
 if aIn (v3 + 1) then
 l_X6_firstUntrueTalk_8 T v2 k n (v3 + 1) x5.2 else none else
 some (v3, x5.2) else
 (f_X11_hasBit T (x5.2 2 18) v3 x5.2).bind fun x16 =>
 if 1 = x16 then
 if aIn (v3 + 1) then
 l_X6_firstUntrueTalk_8 T v2 k n (v3 + 1) x5.2 else none else
 some (v3, x5.2) else none
theorem tl_X6_firstUntrueTalk_8 {d : Nat} (hd : 3 ≤ d) {T : T3} {v2 : Int} {k : Int → aM → Option (Int × aM)} {y : (Int × aM)}  {M0 : aM} (hS : Sh T.1 M0)
    (hk : ∀ (v3 : Int) (u1 u4 : aV) (M : aM), Sh T.1 M → k v3 M = some y → Wp d 65 105 [] [(2, ((53 : Nat) : Int)), u1, (0, v2), (0, v3), u4] [] (M, T) (fun r2 σ2 => r2 = some (0, y.1) ∧ σ2 = (y.2, T) ∧ Sh T.1 y.2)) :
    ∀ (n : Nat) (v3 : Int) (u1 u4 : aV) (M : aM), Sh T.1 M → l_X6_firstUntrueTalk_8 T.1 v2 k n v3 M = some y → Wp d 65 8 [] [(2, ((53 : Nat) : Int)), u1, (0, v2), (0, v3), u4] [] (M, T) (fun r2 σ2 => r2 = some (0, y.1) ∧ σ2 = (y.2, T) ∧ Sh T.1 y.2) := by
  intro n
  induction n with
  | zero =>
    intro v3 u1 u4 M _ h
    exact nomatch (show (none : Option (Int × aM)) = some y from h)
  | succ n ih =>
    intro v3 u1 u4 M sM h
    rw [l_X6_firstUntrueTalk_8] at h
    refine y_blk (t := 8) rfl (show fnd bk_X6_firstUntrueTalk 8 = some _ from rfl) aB_X6_firstUntrueTalk ?_
    refine wp_iload_n (v := v3) rfl ?_
    refine wp_aload_n (v := ((53 : Nat) : Int)) rfl (Int.natCast_nonneg _) ?_
    refine y_get (show ash 53 = (6, 2) from rfl) (Nat.lt_of_lt_of_le (show 53 < 154 by decide) hS.1.1) (v := ((2 : Nat) : Int)) (sM.at 53 0 2 (by decide +kernel)) rfl ?_
    refine y_get (show ash 2 = (10, 19) from rfl) (Nat.lt_of_lt_of_le (show 2 < 154 by decide) hS.1.1) (v := ((3 : Nat) : Int)) (sM.at 2 3 3 (by decide +kernel)) rfl ?_
    refine wp_bipush (by decide) ?_
    refine y_iald (show ash 3 = (100, 8) from rfl) (Or.inl (Nat.lt_of_lt_of_le (show 3 < 154 by decide) hS.1.1)) (Nat.ne_of_lt (Nat.lt_of_lt_of_le (Nat.lt_of_lt_of_le (show 3 < 154 by decide) hS.1.1) hS.1.2)) ⟨by decide, by decide⟩ (v := M 3 7) rfl ?_
    refine wp_icmp_ge (fun c3 => ?_) (fun c3 => ?_)
    · rw [if_pos c3] at h
      exact hk v3 u1 u4 M sM h
    · rw [if_neg c3] at h
      refine wp_aload_n (v := ((53 : Nat) : Int)) rfl (Int.natCast_nonneg _) ?_
      refine y_get (show ash 53 = (6, 2) from rfl) (Nat.lt_of_lt_of_le (show 53 < 154 by decide) hS.1.1) (v := ((45 : Nat) : Int)) (sM.at 53 1 45 (by decide +kernel)) rfl ?_
      refine wp_iload_n (v := v2) rfl ?_
      refine wp_aload_n (v := ((53 : Nat) : Int)) rfl (Int.natCast_nonneg _) ?_
      refine y_get (show ash 53 = (6, 2) from rfl) (Nat.lt_of_lt_of_le (show 53 < 154 by decide) hS.1.1) (v := ((2 : Nat) : Int)) (sM.at 53 0 2 (by decide +kernel)) rfl ?_
      refine y_get (show ash 2 = (10, 19) from rfl) (Nat.lt_of_lt_of_le (show 2 < 154 by decide) hS.1.1) (v := ((14 : Nat) : Int)) (sM.at 2 16 14 (by decide +kernel)) rfl ?_
      refine wp_iload_n (v := v3) rfl ?_
      obtain ⟨c4, h⟩ := d_ite h
      refine y_iald (show ash 14 = (100, 5) from rfl) (Or.inl (Nat.lt_of_lt_of_le (show 14 < 154 by decide) hS.1.1)) (Nat.ne_of_lt (Nat.lt_of_lt_of_le (Nat.lt_of_lt_of_le (show 14 < 154 by decide) hS.1.1) hS.1.2)) c4 (v := M 14 (v3).toNat) rfl ?_
      obtain ⟨x5, e6, h⟩ := d_bind h
      obtain ⟨r7, s8⟩ := t_X5_layFrom (show isLand 45 by decide) sM e6
      refine y_callVv (as := [(0, v2), (0, (M 14 (v3).toNat))]) (S1 := []) (Nat.le_of_ble_eq_true rfl) (by omega) r7 rfl (show ash 45 = (5, 4) from rfl) (Nat.lt_of_lt_of_le (show 45 < 154 by decide) hS.1.1) (Nat.le_of_ble_eq_true rfl) (Nat.le_of_ble_eq_true rfl) rfl ?_
      refine wp_aload_n (v := ((53 : Nat) : Int)) rfl (Int.natCast_nonneg _) ?_
      refine y_get (show ash 53 = (6, 2) from rfl) (Nat.lt_of_lt_of_le (show 53 < 154 by decide) hS.1.1) (v := ((45 : Nat) : Int)) (s8.at 53 1 45 (by decide +kernel)) rfl ?_
      refine wp_aload_n (v := ((53 : Nat) : Int)) rfl (Int.natCast_nonneg _) ?_
      refine y_get (show ash 53 = (6, 2) from rfl) (Nat.lt_of_lt_of_le (show 53 < 154 by decide) hS.1.1) (v := ((2 : Nat) : Int)) (s8.at 53 0 2 (by decide +kernel)) rfl ?_
      refine y_get (show ash 2 = (10, 19) from rfl) (Nat.lt_of_lt_of_le (show 2 < 154 by decide) hS.1.1) (v := ((14 : Nat) : Int)) (s8.at 2 16 14 (by decide +kernel)) rfl ?_
      refine wp_iload_n (v := v3) rfl ?_
      refine y_iald (show ash 14 = (100, 5) from rfl) (Or.inl (Nat.lt_of_lt_of_le (show 14 < 154 by decide) hS.1.1)) (Nat.ne_of_lt (Nat.lt_of_lt_of_le (Nat.lt_of_lt_of_le (show 14 < 154 by decide) hS.1.1) hS.1.2)) c4 (v := x5.2 14 (v3).toNat) rfl ?_
      refine wp_aload_n (v := ((53 : Nat) : Int)) rfl (Int.natCast_nonneg _) ?_
      refine y_get (show ash 53 = (6, 2) from rfl) (Nat.lt_of_lt_of_le (show 53 < 154 by decide) hS.1.1) (v := ((2 : Nat) : Int)) (s8.at 53 0 2 (by decide +kernel)) rfl ?_
      refine y_get (show ash 2 = (10, 19) from rfl) (Nat.lt_of_lt_of_le (show 2 < 154 by decide) hS.1.1) (v := ((15 : Nat) : Int)) (s8.at 2 17 15 (by decide +kernel)) rfl ?_
      refine wp_iload_n (v := v3) rfl ?_
      refine y_iald (show ash 15 = (100, 5) from rfl) (Or.inl (Nat.lt_of_lt_of_le (show 15 < 154 by decide) hS.1.1)) (Nat.ne_of_lt (Nat.lt_of_lt_of_le (Nat.lt_of_lt_of_le (show 15 < 154 by decide) hS.1.1) hS.1.2)) c4 (v := x5.2 15 (v3).toNat) rfl ?_
      obtain ⟨x9, e10, h⟩ := d_bind h
      refine y_callV (as := [(0, (x5.2 14 (v3).toNat)), (0, (x5.2 15 (v3).toNat))]) (S1 := []) (Nat.le_of_ble_eq_true rfl) (by omega) (t_X5_span (show isLand 45 by decide) s8 e10) (Nat.le_of_ble_eq_true rfl) rfl (show ash 45 = (5, 4) from rfl) (Nat.lt_of_lt_of_le (show 45 < 154 by decide) hS.1.1) (Nat.le_of_ble_eq_true rfl) (Nat.le_of_ble_eq_true rfl) rfl ?_
      refine wp_aload_n (v := ((53 : Nat) : Int)) rfl (Int.natCast_nonneg _) ?_
      refine y_get (show ash 53 = (6, 2) from rfl) (Nat.lt_of_lt_of_le (show 53 < 154 by decide) hS.1.1) (v := ((2 : Nat) : Int)) (s8.at 53 0 2 (by decide +kernel)) rfl ?_
      refine y_get (show ash 2 = (10, 19) from rfl) (Nat.lt_of_lt_of_le (show 2 < 154 by decide) hS.1.1) (v := x5.2 2 0) rfl rfl ?_
      refine wp_icmp_gt (fun c11 => ?_) (fun c11 => ?_)
      · rw [if_pos c11] at h
        refine y_blk (t := 78) rfl (show fnd bk_X6_firstUntrueTalk 78 = some _ from rfl) aB_X6_firstUntrueTalk ?_
        refine wp_iconst ⟨by decide, by decide⟩ ?_
        refine y_blk (t := 79) rfl (show fnd bk_X6_firstUntrueTalk 79 = some _ from rfl) aB_X6_firstUntrueTalk ?_
        refine y_st (L1 := [(2, ((53 : Nat) : Int)), u1, (0, v2), (0, v3), (0, 0)]) (Nat.le_of_ble_eq_true rfl) rfl ?_
        refine wp_iload (v := 0) rfl ?_
        refine wp_aload_n (v := ((53 : Nat) : Int)) rfl (Int.natCast_nonneg _) ?_
        refine y_get (show ash 53 = (6, 2) from rfl) (Nat.lt_of_lt_of_le (show 53 < 154 by decide) hS.1.1) (v := ((2 : Nat) : Int)) (s8.at 53 0 2 (by decide +kernel)) rfl ?_
        refine y_get (show ash 2 = (10, 19) from rfl) (Nat.lt_of_lt_of_le (show 2 < 154 by decide) hS.1.1) (v := x5.2 2 18) rfl rfl ?_
        refine wp_iload_n (v := v3) rfl ?_
        obtain ⟨x12, e13, h⟩ := d_bind h
        refine y_callS (as := [(0, (x5.2 2 18)), (0, v3)]) (S1 := [(0, 0)]) (Nat.le_of_ble_eq_true rfl) (by omega) (t_X11_hasBit s8 e13) (Nat.le_of_ble_eq_true rfl) rfl (Nat.le_of_ble_eq_true rfl) (Nat.le_of_ble_eq_true rfl) rfl ?_
        refine wp_icmp_eq (fun c14 => ?_) (fun c14 => ?_)
        · rw [if_pos c14] at h
          refine y_blk (t := 99) rfl (show fnd bk_X6_firstUntrueTalk 99 = some _ from rfl) aB_X6_firstUntrueTalk ?_
          obtain ⟨c15, h⟩ := d_ite h
          refine y_iinc (L1 := [(2, ((53 : Nat) : Int)), u1, (0, v2), (0, (v3 + 1)), (0, 0)]) rfl (Nat.le_of_ble_eq_true rfl) ⟨by decide, by decide⟩ c15 rfl ?_
          refine wp_goto ?_
          exact ih (v3 + 1) u1 (0, 0) x5.2 s8 h
        · rw [if_neg c14] at h
          refine wp_iload_n (v := v3) rfl ?_
          cases h
          exact y_ret0 (Or.inl rfl) ⟨rfl, rfl, s8⟩
      · rw [if_neg c11] at h
        refine wp_iconst ⟨by decide, by decide⟩ ?_
        refine wp_goto ?_
        refine y_blk (t := 79) rfl (show fnd bk_X6_firstUntrueTalk 79 = some _ from rfl) aB_X6_firstUntrueTalk ?_
        refine y_st (L1 := [(2, ((53 : Nat) : Int)), u1, (0, v2), (0, v3), (0, 1)]) (Nat.le_of_ble_eq_true rfl) rfl ?_
        refine wp_iload (v := 1) rfl ?_
        refine wp_aload_n (v := ((53 : Nat) : Int)) rfl (Int.natCast_nonneg _) ?_
        refine y_get (show ash 53 = (6, 2) from rfl) (Nat.lt_of_lt_of_le (show 53 < 154 by decide) hS.1.1) (v := ((2 : Nat) : Int)) (s8.at 53 0 2 (by decide +kernel)) rfl ?_
        refine y_get (show ash 2 = (10, 19) from rfl) (Nat.lt_of_lt_of_le (show 2 < 154 by decide) hS.1.1) (v := x5.2 2 18) rfl rfl ?_
        refine wp_iload_n (v := v3) rfl ?_
        obtain ⟨x16, e17, h⟩ := d_bind h
        refine y_callS (as := [(0, (x5.2 2 18)), (0, v3)]) (S1 := [(0, 1)]) (Nat.le_of_ble_eq_true rfl) (by omega) (t_X11_hasBit s8 e17) (Nat.le_of_ble_eq_true rfl) rfl (Nat.le_of_ble_eq_true rfl) (Nat.le_of_ble_eq_true rfl) rfl ?_
        refine wp_icmp_eq (fun c18 => ?_) (fun c18 => ?_)
        · rw [if_pos c18] at h
          refine y_blk (t := 99) rfl (show fnd bk_X6_firstUntrueTalk 99 = some _ from rfl) aB_X6_firstUntrueTalk ?_
          obtain ⟨c19, h⟩ := d_ite h
          refine y_iinc (L1 := [(2, ((53 : Nat) : Int)), u1, (0, v2), (0, (v3 + 1)), (0, 1)]) rfl (Nat.le_of_ble_eq_true rfl) ⟨by decide, by decide⟩ c19 rfl ?_
          refine wp_goto ?_
          exact ih (v3 + 1) u1 (0, 1) x5.2 s8 h
        · rw [if_neg c18] at h
          refine wp_iload_n (v := v3) rfl ?_
          cases h
          exact y_ret0 (Or.inl rfl) ⟨rfl, rfl, s8⟩
def f_X6_firstUntrueTalk (T : Nat) (v1 : Int) (M : aM) : Option (Int × aM) :=
 (f_X6_wetBy T v1 M).bind fun x1 =>
 l_X6_firstUntrueTalk_8 T x1 (fun w20 m23 =>
 some ((-2), m23)) FU 0 M
theorem t_X6_firstUntrueTalk {T : T3} {v1 : Int} {M : aM} {y : (Int × aM)}  (hS : Sh T.1 M) (h : f_X6_firstUntrueTalk T.1 v1 M = some y) : Mr 3 65 [(2, ((53 : Nat) : Int)), (0, v1)] M (some (0, y.1)) y.2 T ∧ Sh T.1 y.2 := by
  have key : ∀ d, 3 ≤ d → Wp d 65 0 [] [(2, ((53 : Nat) : Int)), (0, v1), (9, 0), (9, 0), (9, 0)] [] (M, T) (fun r2 σ2 => r2 = some (0, y.1) ∧ σ2 = (y.2, T) ∧ Sh T.1 y.2) := by
    intro d hd
    rw [f_X6_firstUntrueTalk] at h
    refine y_blk (t := 0) rfl (show fnd bk_X6_firstUntrueTalk 0 = some _ from rfl) aB_X6_firstUntrueTalk ?_
    refine wp_aload_n (v := ((53 : Nat) : Int)) rfl (Int.natCast_nonneg _) ?_
    refine wp_iload_n (v := v1) rfl ?_
    obtain ⟨x1, e2, h⟩ := d_bind h
    refine y_callV (as := [(0, v1)]) (S1 := []) (Nat.le_of_ble_eq_true rfl) (by omega) (t_X6_wetBy hS e2) (Nat.le_of_ble_eq_true rfl) rfl (show ash 53 = (6, 2) from rfl) (Nat.lt_of_lt_of_le (show 53 < 154 by decide) hS.1.1) (Nat.le_of_ble_eq_true rfl) (Nat.le_of_ble_eq_true rfl) rfl ?_
    refine y_stn (L1 := [(2, ((53 : Nat) : Int)), (0, v1), (0, x1), (9, 0), (9, 0)]) (Nat.le_of_ble_eq_true rfl) rfl ?_
    refine wp_iconst ⟨by decide, by decide⟩ ?_
    refine y_stn (L1 := [(2, ((53 : Nat) : Int)), (0, v1), (0, x1), (0, 0), (9, 0)]) (Nat.le_of_ble_eq_true rfl) rfl ?_
    refine tl_X6_firstUntrueTalk_8 (by omega) hS (fun w20 u21 u22 m23 s24 h => ?_) FU 0 (0, v1) (9, 0) M hS h
    refine y_blk (t := 105) rfl (show fnd bk_X6_firstUntrueTalk 105 = some _ from rfl) aB_X6_firstUntrueTalk ?_
    refine wp_bipush (by decide) ?_
    cases h
    exact y_ret0 (Or.inl rfl) ⟨rfl, rfl, s24⟩
  exact ⟨fun d hd => Ms.of3 (key d hd), Ms.sh (key 3 (Nat.le_refl _))⟩
theorem aB_X6_fittingSets : ∀ pc, aB 62 pc = fnd bk_X6_fittingSets pc := fun _ => rfl
def l_X6_fittingSets_4 (T : Nat)  (k : Int → Int → aM → Option (Int × aM)) : Nat → Int → Int → aM → Option (Int × aM)
| 0, _, _, _ => none
| n + 1, v1, v2, M =>
 if (ashl 1 (M 3 6)) ≤ v2 then
 k v1 v2 M else
 (f_X6_firstUntrueTalk T v2 M).bind fun x2 =>
 if x2.1 = (-2) then
 if aIn (v2 + 1) then
 l_X6_fittingSets_4 T k n (aor v1 (ashl 1 v2)) (v2 + 1) x2.2 else none else
 if aIn (v2 + 1) then
 l_X6_fittingSets_4 T k n v1 (v2 + 1) x2.2 else none
theorem tl_X6_fittingSets_4 {d : Nat} (hd : 4 ≤ d) {T : T3}  {k : Int → Int → aM → Option (Int × aM)} {y : (Int × aM)}  {M0 : aM} (hS : Sh T.1 M0)
    (hk : ∀ (v1 v2 : Int) (M : aM), Sh T.1 M → k v1 v2 M = some y → Wp d 62 42 [] [(2, ((53 : Nat) : Int)), (0, v1), (0, v2)] [] (M, T) (fun r2 σ2 => r2 = some (0, y.1) ∧ σ2 = (y.2, T) ∧ Sh T.1 y.2)) :
    ∀ (n : Nat) (v1 v2 : Int) (M : aM), Sh T.1 M → l_X6_fittingSets_4 T.1 k n v1 v2 M = some y → Wp d 62 4 [] [(2, ((53 : Nat) : Int)), (0, v1), (0, v2)] [] (M, T) (fun r2 σ2 => r2 = some (0, y.1) ∧ σ2 = (y.2, T) ∧ Sh T.1 y.2) := by
  intro n
  induction n with
  | zero =>
    intro v1 v2 M _ h
    exact nomatch (show (none : Option (Int × aM)) = some y from h)
  | succ n ih =>
    intro v1 v2 M sM h
    rw [l_X6_fittingSets_4] at h
    refine y_blk (t := 4) rfl (show fnd bk_X6_fittingSets 4 = some _ from rfl) aB_X6_fittingSets ?_
    refine wp_iload_n (v := v2) rfl ?_
    refine wp_iconst ⟨by decide, by decide⟩ ?_
    refine wp_aload_n (v := ((53 : Nat) : Int)) rfl (Int.natCast_nonneg _) ?_
    refine y_get (show ash 53 = (6, 2) from rfl) (Nat.lt_of_lt_of_le (show 53 < 154 by decide) hS.1.1) (v := ((2 : Nat) : Int)) (sM.at 53 0 2 (by decide +kernel)) rfl ?_
    refine y_get (show ash 2 = (10, 19) from rfl) (Nat.lt_of_lt_of_le (show 2 < 154 by decide) hS.1.1) (v := ((3 : Nat) : Int)) (sM.at 2 3 3 (by decide +kernel)) rfl ?_
    refine wp_bipush (by decide) ?_
    refine y_iald (show ash 3 = (100, 8) from rfl) (Or.inl (Nat.lt_of_lt_of_le (show 3 < 154 by decide) hS.1.1)) (Nat.ne_of_lt (Nat.lt_of_lt_of_le (Nat.lt_of_lt_of_le (show 3 < 154 by decide) hS.1.1) hS.1.2)) ⟨by decide, by decide⟩ (v := M 3 6) rfl ?_
    refine wp_ishl ?_
    refine wp_icmp_ge (fun c1 => ?_) (fun c1 => ?_)
    · rw [if_pos c1] at h
      exact hk v1 v2  M sM h
    · rw [if_neg c1] at h
      refine wp_aload_n (v := ((53 : Nat) : Int)) rfl (Int.natCast_nonneg _) ?_
      refine wp_iload_n (v := v2) rfl ?_
      obtain ⟨x2, e3, h⟩ := d_bind h
      obtain ⟨r4, s5⟩ := t_X6_firstUntrueTalk sM e3
      refine y_callV (as := [(0, v2)]) (S1 := []) (Nat.le_of_ble_eq_true rfl) (by omega) r4 (Nat.le_of_ble_eq_true rfl) rfl (show ash 53 = (6, 2) from rfl) (Nat.lt_of_lt_of_le (show 53 < 154 by decide) hS.1.1) (Nat.le_of_ble_eq_true rfl) (Nat.le_of_ble_eq_true rfl) rfl ?_
      refine wp_bipush (by decide) ?_
      refine y_ne (fun c6 => ?_) (fun c6 => ?_)
      · rw [if_neg c6] at h
        refine y_blk (t := 36) rfl (show fnd bk_X6_fittingSets 36 = some _ from rfl) aB_X6_fittingSets ?_
        obtain ⟨c7, h⟩ := d_ite h
        refine y_iinc (L1 := [(2, ((53 : Nat) : Int)), (0, v1), (0, (v2 + 1))]) rfl (Nat.le_of_ble_eq_true rfl) ⟨by decide, by decide⟩ c7 rfl ?_
        refine wp_goto ?_
        exact ih v1 (v2 + 1)  x2.2 s5 h
      · rw [if_pos c6] at h
        refine wp_iload_n (v := v1) rfl ?_
        refine wp_iconst ⟨by decide, by decide⟩ ?_
        refine wp_iload_n (v := v2) rfl ?_
        refine wp_ishl ?_
        refine wp_ior ?_
        refine y_stn (L1 := [(2, ((53 : Nat) : Int)), (0, (aor v1 (ashl 1 v2))), (0, v2)]) (Nat.le_of_ble_eq_true rfl) rfl ?_
        refine y_blk (t := 36) rfl (show fnd bk_X6_fittingSets 36 = some _ from rfl) aB_X6_fittingSets ?_
        obtain ⟨c8, h⟩ := d_ite h
        refine y_iinc (L1 := [(2, ((53 : Nat) : Int)), (0, (aor v1 (ashl 1 v2))), (0, (v2 + 1))]) rfl (Nat.le_of_ble_eq_true rfl) ⟨by decide, by decide⟩ c8 rfl ?_
        refine wp_goto ?_
        exact ih (aor v1 (ashl 1 v2)) (v2 + 1)  x2.2 s5 h
def f_X6_fittingSets (T : Nat)  (M : aM) : Option (Int × aM) :=
 l_X6_fittingSets_4 T (fun w9 w10 m11 =>
 some (w9, m11)) FU 0 0 M
theorem t_X6_fittingSets {T : T3}  {M : aM} {y : (Int × aM)}  (hS : Sh T.1 M) (h : f_X6_fittingSets T.1  M = some y) : Mr 4 62 [(2, ((53 : Nat) : Int))] M (some (0, y.1)) y.2 T ∧ Sh T.1 y.2 := by
  have key : ∀ d, 4 ≤ d → Wp d 62 0 [] [(2, ((53 : Nat) : Int)), (9, 0), (9, 0)] [] (M, T) (fun r2 σ2 => r2 = some (0, y.1) ∧ σ2 = (y.2, T) ∧ Sh T.1 y.2) := by
    intro d hd
    rw [f_X6_fittingSets] at h
    refine y_blk (t := 0) rfl (show fnd bk_X6_fittingSets 0 = some _ from rfl) aB_X6_fittingSets ?_
    refine wp_iconst ⟨by decide, by decide⟩ ?_
    refine y_stn (L1 := [(2, ((53 : Nat) : Int)), (0, 0), (9, 0)]) (Nat.le_of_ble_eq_true rfl) rfl ?_
    refine wp_iconst ⟨by decide, by decide⟩ ?_
    refine y_stn (L1 := [(2, ((53 : Nat) : Int)), (0, 0), (0, 0)]) (Nat.le_of_ble_eq_true rfl) rfl ?_
    refine tl_X6_fittingSets_4 (by omega) hS (fun w9 w10  m11 s12 h => ?_) FU 0 0  M hS h
    refine y_blk (t := 42) rfl (show fnd bk_X6_fittingSets 42 = some _ from rfl) aB_X6_fittingSets ?_
    refine wp_iload_n (v := w9) rfl ?_
    cases h
    exact y_ret0 (Or.inl rfl) ⟨rfl, rfl, s12⟩
  exact ⟨fun d hd => Ms.of3 (key d hd), Ms.sh (key 4 (Nat.le_refl _))⟩
theorem aB_X6_setAt : ∀ pc, aB 63 pc = fnd bk_X6_setAt pc := fun _ => rfl
def l_X6_setAt_10 (T : Nat) (v1 : Int) (v2 : Int) (M : aM) (k : Int → Int → Option (Int × aM)) : Nat → Int → Int → Option (Int × aM)
| 0, _, _ => none
| n + 1, v3, v4 =>
 if 16 ≤ v4 then
 k v3 v4 else
 (f_X11_hasBit T v2 v4 M).bind fun x6 =>
 if x6 = 0 then
 if aIn (v4 + 1) then
 l_X6_setAt_10 T v1 v2 M k n v3 (v4 + 1) else none else
 if v3 = v1 then
 some (v4, M) else
 if aIn (v3 + 1) then
 if aIn (v4 + 1) then
 l_X6_setAt_10 T v1 v2 M k n (v3 + 1) (v4 + 1) else none else none
theorem tl_X6_setAt_10 {d : Nat} (hd : 5 ≤ d) {T : T3} {v1 : Int} {v2 : Int} {M : aM} {k : Int → Int → Option (Int × aM)} {y : (Int × aM)}  (hS : Sh T.1 M)
    (hk : ∀ (v3 v4 : Int) (u0 : aV), Sh T.1 M → k v3 v4 = some y → Wp d 63 43 [] [u0, (0, v1), (0, v2), (0, v3), (0, v4)] [] (M, T) (fun r2 σ2 => r2 = some (0, y.1) ∧ σ2 = (y.2, T) ∧ Sh T.1 y.2)) :
    ∀ (n : Nat) (v3 v4 : Int) (u0 : aV), Sh T.1 M → l_X6_setAt_10 T.1 v1 v2 M k n v3 v4 = some y → Wp d 63 10 [] [u0, (0, v1), (0, v2), (0, v3), (0, v4)] [] (M, T) (fun r2 σ2 => r2 = some (0, y.1) ∧ σ2 = (y.2, T) ∧ Sh T.1 y.2) := by
  intro n
  induction n with
  | zero =>
    intro v3 v4 u0 _ h
    exact nomatch (show (none : Option (Int × aM)) = some y from h)
  | succ n ih =>
    intro v3 v4 u0 sM h
    rw [l_X6_setAt_10] at h
    refine y_blk (t := 10) rfl (show fnd bk_X6_setAt 10 = some _ from rfl) aB_X6_setAt ?_
    refine wp_iload (v := v4) rfl ?_
    refine wp_bipush (by decide) ?_
    refine wp_icmp_ge (fun c5 => ?_) (fun c5 => ?_)
    · rw [if_pos c5] at h
      exact hk v3 v4 u0  sM h
    · rw [if_neg c5] at h
      refine wp_iload_n (v := v2) rfl ?_
      refine wp_iload (v := v4) rfl ?_
      obtain ⟨x6, e7, h⟩ := d_bind h
      refine y_callS (as := [(0, v2), (0, v4)]) (S1 := []) (Nat.le_of_ble_eq_true rfl) (by omega) (t_X11_hasBit sM e7) (Nat.le_of_ble_eq_true rfl) rfl (Nat.le_of_ble_eq_true rfl) (Nat.le_of_ble_eq_true rfl) rfl ?_
      refine wp_if_eq (fun c8 => ?_) (fun c8 => ?_)
      · rw [if_pos c8] at h
        refine y_blk (t := 37) rfl (show fnd bk_X6_setAt 37 = some _ from rfl) aB_X6_setAt ?_
        obtain ⟨c9, h⟩ := d_ite h
        refine y_iinc (L1 := [u0, (0, v1), (0, v2), (0, v3), (0, (v4 + 1))]) rfl (Nat.le_of_ble_eq_true rfl) ⟨by decide, by decide⟩ c9 rfl ?_
        refine wp_goto ?_
        exact ih v3 (v4 + 1) u0  sM h
      · rw [if_neg c8] at h
        refine wp_iload_n (v := v3) rfl ?_
        refine wp_iload_n (v := v1) rfl ?_
        refine y_ne (fun c10 => ?_) (fun c10 => ?_)
        · rw [if_neg c10] at h
          refine y_blk (t := 34) rfl (show fnd bk_X6_setAt 34 = some _ from rfl) aB_X6_setAt ?_
          obtain ⟨c11, h⟩ := d_ite h
          refine y_iinc (L1 := [u0, (0, v1), (0, v2), (0, (v3 + 1)), (0, v4)]) rfl (Nat.le_of_ble_eq_true rfl) ⟨by decide, by decide⟩ c11 rfl ?_
          refine y_blk (t := 37) rfl (show fnd bk_X6_setAt 37 = some _ from rfl) aB_X6_setAt ?_
          obtain ⟨c12, h⟩ := d_ite h
          refine y_iinc (L1 := [u0, (0, v1), (0, v2), (0, (v3 + 1)), (0, (v4 + 1))]) rfl (Nat.le_of_ble_eq_true rfl) ⟨by decide, by decide⟩ c12 rfl ?_
          refine wp_goto ?_
          exact ih (v3 + 1) (v4 + 1) u0  sM h
        · rw [if_pos c10] at h
          refine wp_iload (v := v4) rfl ?_
          cases h
          exact y_ret0 (Or.inl rfl) ⟨rfl, rfl, sM⟩
def f_X6_setAt (T : Nat) (v1 : Int) (M : aM) : Option (Int × aM) :=
 (f_X6_fittingSets T M).bind fun x1 =>
 l_X6_setAt_10 T v1 x1.1 x1.2 (fun w13 w14 =>
 some ((-1), x1.2)) FU 0 0
theorem t_X6_setAt {T : T3} {v1 : Int} {M : aM} {y : (Int × aM)}  (hS : Sh T.1 M) (h : f_X6_setAt T.1 v1 M = some y) : Mr 5 63 [(2, ((53 : Nat) : Int)), (0, v1)] M (some (0, y.1)) y.2 T ∧ Sh T.1 y.2 := by
  have key : ∀ d, 5 ≤ d → Wp d 63 0 [] [(2, ((53 : Nat) : Int)), (0, v1), (9, 0), (9, 0), (9, 0)] [] (M, T) (fun r2 σ2 => r2 = some (0, y.1) ∧ σ2 = (y.2, T) ∧ Sh T.1 y.2) := by
    intro d hd
    rw [f_X6_setAt] at h
    refine y_blk (t := 0) rfl (show fnd bk_X6_setAt 0 = some _ from rfl) aB_X6_setAt ?_
    refine wp_aload_n (v := ((53 : Nat) : Int)) rfl (Int.natCast_nonneg _) ?_
    obtain ⟨x1, e2, h⟩ := d_bind h
    obtain ⟨r3, s4⟩ := t_X6_fittingSets hS e2
    refine y_callV (as := []) (S1 := []) (Nat.le_of_ble_eq_true rfl) (by omega) r3 (Nat.le_of_ble_eq_true rfl) rfl (show ash 53 = (6, 2) from rfl) (Nat.lt_of_lt_of_le (show 53 < 154 by decide) hS.1.1) (Nat.le_of_ble_eq_true rfl) (Nat.le_of_ble_eq_true rfl) rfl ?_
    refine y_stn (L1 := [(2, ((53 : Nat) : Int)), (0, v1), (0, x1.1), (9, 0), (9, 0)]) (Nat.le_of_ble_eq_true rfl) rfl ?_
    refine wp_iconst ⟨by decide, by decide⟩ ?_
    refine y_stn (L1 := [(2, ((53 : Nat) : Int)), (0, v1), (0, x1.1), (0, 0), (9, 0)]) (Nat.le_of_ble_eq_true rfl) rfl ?_
    refine wp_iconst ⟨by decide, by decide⟩ ?_
    refine y_st (L1 := [(2, ((53 : Nat) : Int)), (0, v1), (0, x1.1), (0, 0), (0, 0)]) (Nat.le_of_ble_eq_true rfl) rfl ?_
    refine tl_X6_setAt_10 (by omega) s4 (fun w13 w14 u15  s16 h => ?_) FU 0 0 (2, ((53 : Nat) : Int))  s4 h
    refine y_blk (t := 43) rfl (show fnd bk_X6_setAt 43 = some _ from rfl) aB_X6_setAt ?_
    refine wp_iconst ⟨by decide, by decide⟩ ?_
    cases h
    exact y_ret0 (Or.inl rfl) ⟨rfl, rfl, s16⟩
  exact ⟨fun d hd => Ms.of3 (key d hd), Ms.sh (key 5 (Nat.le_refl _))⟩
theorem aB_X6_setsWithDry : ∀ pc, aB 64 pc = fnd bk_X6_setsWithDry pc := fun _ => rfl
def l_X6_setsWithDry_31 (T : Nat) (v1 : Int) (v2 : Int) (v3 : Int) (M : aM) (k : Int → Int → Option (Int × aM)) : Nat → Int → Int → Option (Int × aM)
| 0, _, _ => none
| n + 1, v4, v5 =>
 if 16 ≤ v5 then
 k v4 v5 else
 (f_X11_hasBit T v2 v5 M).bind fun x9 =>
 if x9 = 0 then
 if aIn (v5 + 1) then
 l_X6_setsWithDry_31 T v1 v2 v3 M k n v4 (v5 + 1) else none else
 (f_X11_hasBit T v5 v1 M).bind fun x13 =>
 if x13 = v3 then
 if aIn (v4 + 1) then
 if aIn (v5 + 1) then
 l_X6_setsWithDry_31 T v1 v2 v3 M k n (v4 + 1) (v5 + 1) else none else none else
 if aIn (v5 + 1) then
 l_X6_setsWithDry_31 T v1 v2 v3 M k n v4 (v5 + 1) else none
theorem tl_X6_setsWithDry_31 {d : Nat} (hd : 5 ≤ d) {T : T3} {v1 : Int} {v2 : Int} {v3 : Int} {M : aM} {k : Int → Int → Option (Int × aM)} {y : (Int × aM)}  (hS : Sh T.1 M)
    (hk : ∀ (v4 v5 : Int) (u0 : aV), Sh T.1 M → k v4 v5 = some y → Wp d 64 66 [] [u0, (0, v1), (0, v2), (0, v3), (0, v4), (0, v5)] [] (M, T) (fun r2 σ2 => r2 = some (0, y.1) ∧ σ2 = (y.2, T) ∧ Sh T.1 y.2)) :
    ∀ (n : Nat) (v4 v5 : Int) (u0 : aV), Sh T.1 M → l_X6_setsWithDry_31 T.1 v1 v2 v3 M k n v4 v5 = some y → Wp d 64 31 [] [u0, (0, v1), (0, v2), (0, v3), (0, v4), (0, v5)] [] (M, T) (fun r2 σ2 => r2 = some (0, y.1) ∧ σ2 = (y.2, T) ∧ Sh T.1 y.2) := by
  intro n
  induction n with
  | zero =>
    intro v4 v5 u0 _ h
    exact nomatch (show (none : Option (Int × aM)) = some y from h)
  | succ n ih =>
    intro v4 v5 u0 sM h
    rw [l_X6_setsWithDry_31] at h
    refine y_blk (t := 31) rfl (show fnd bk_X6_setsWithDry 31 = some _ from rfl) aB_X6_setsWithDry ?_
    refine wp_iload (v := v5) rfl ?_
    refine wp_bipush (by decide) ?_
    refine wp_icmp_ge (fun c8 => ?_) (fun c8 => ?_)
    · rw [if_pos c8] at h
      exact hk v4 v5 u0  sM h
    · rw [if_neg c8] at h
      refine wp_iload_n (v := v2) rfl ?_
      refine wp_iload (v := v5) rfl ?_
      obtain ⟨x9, e10, h⟩ := d_bind h
      refine y_callS (as := [(0, v2), (0, v5)]) (S1 := []) (Nat.le_of_ble_eq_true rfl) (by omega) (t_X11_hasBit sM e10) (Nat.le_of_ble_eq_true rfl) rfl (Nat.le_of_ble_eq_true rfl) (Nat.le_of_ble_eq_true rfl) rfl ?_
      refine wp_if_eq (fun c11 => ?_) (fun c11 => ?_)
      · rw [if_pos c11] at h
        refine y_blk (t := 60) rfl (show fnd bk_X6_setsWithDry 60 = some _ from rfl) aB_X6_setsWithDry ?_
        obtain ⟨c12, h⟩ := d_ite h
        refine y_iinc (L1 := [u0, (0, v1), (0, v2), (0, v3), (0, v4), (0, (v5 + 1))]) rfl (Nat.le_of_ble_eq_true rfl) ⟨by decide, by decide⟩ c12 rfl ?_
        refine wp_goto ?_
        exact ih v4 (v5 + 1) u0  sM h
      · rw [if_neg c11] at h
        refine wp_iload (v := v5) rfl ?_
        refine wp_iload_n (v := v1) rfl ?_
        obtain ⟨x13, e14, h⟩ := d_bind h
        refine y_callS (as := [(0, v5), (0, v1)]) (S1 := []) (Nat.le_of_ble_eq_true rfl) (by omega) (t_X11_hasBit sM e14) (Nat.le_of_ble_eq_true rfl) rfl (Nat.le_of_ble_eq_true rfl) (Nat.le_of_ble_eq_true rfl) rfl ?_
        refine wp_iload_n (v := v3) rfl ?_
        refine y_ne (fun c15 => ?_) (fun c15 => ?_)
        · rw [if_neg c15] at h
          refine y_blk (t := 60) rfl (show fnd bk_X6_setsWithDry 60 = some _ from rfl) aB_X6_setsWithDry ?_
          obtain ⟨c16, h⟩ := d_ite h
          refine y_iinc (L1 := [u0, (0, v1), (0, v2), (0, v3), (0, v4), (0, (v5 + 1))]) rfl (Nat.le_of_ble_eq_true rfl) ⟨by decide, by decide⟩ c16 rfl ?_
          refine wp_goto ?_
          exact ih v4 (v5 + 1) u0  sM h
        · rw [if_pos c15] at h
          obtain ⟨c17, h⟩ := d_ite h
          refine y_iinc (L1 := [u0, (0, v1), (0, v2), (0, v3), (0, (v4 + 1)), (0, v5)]) rfl (Nat.le_of_ble_eq_true rfl) ⟨by decide, by decide⟩ c17 rfl ?_
          refine y_blk (t := 60) rfl (show fnd bk_X6_setsWithDry 60 = some _ from rfl) aB_X6_setsWithDry ?_
          obtain ⟨c18, h⟩ := d_ite h
          refine y_iinc (L1 := [u0, (0, v1), (0, v2), (0, v3), (0, (v4 + 1)), (0, (v5 + 1))]) rfl (Nat.le_of_ble_eq_true rfl) ⟨by decide, by decide⟩ c18 rfl ?_
          refine wp_goto ?_
          exact ih (v4 + 1) (v5 + 1) u0  sM h
def f_X6_setsWithDry (T : Nat) (v1 : Int) (M : aM) : Option (Int × aM) :=
 (f_X6_fittingSets T M).bind fun x1 =>
 if 0 ≤ v1 ∧ v1 < 4 then
 (f_X11_hasBit T (x1.2 2 9) (x1.2 13 (v1).toNat) x1.2).bind fun x6 =>
 l_X6_setsWithDry_31 T v1 x1.1 x6 x1.2 (fun w19 w20 =>
 some (w19, x1.2)) FU 0 0 else none
theorem t_X6_setsWithDry {T : T3} {v1 : Int} {M : aM} {y : (Int × aM)}  (hS : Sh T.1 M) (h : f_X6_setsWithDry T.1 v1 M = some y) : Mr 5 64 [(2, ((53 : Nat) : Int)), (0, v1)] M (some (0, y.1)) y.2 T ∧ Sh T.1 y.2 := by
  have key : ∀ d, 5 ≤ d → Wp d 64 0 [] [(2, ((53 : Nat) : Int)), (0, v1), (9, 0), (9, 0), (9, 0), (9, 0)] [] (M, T) (fun r2 σ2 => r2 = some (0, y.1) ∧ σ2 = (y.2, T) ∧ Sh T.1 y.2) := by
    intro d hd
    rw [f_X6_setsWithDry] at h
    refine y_blk (t := 0) rfl (show fnd bk_X6_setsWithDry 0 = some _ from rfl) aB_X6_setsWithDry ?_
    refine wp_aload_n (v := ((53 : Nat) : Int)) rfl (Int.natCast_nonneg _) ?_
    obtain ⟨x1, e2, h⟩ := d_bind h
    obtain ⟨r3, s4⟩ := t_X6_fittingSets hS e2
    refine y_callV (as := []) (S1 := []) (Nat.le_of_ble_eq_true rfl) (by omega) r3 (Nat.le_of_ble_eq_true rfl) rfl (show ash 53 = (6, 2) from rfl) (Nat.lt_of_lt_of_le (show 53 < 154 by decide) hS.1.1) (Nat.le_of_ble_eq_true rfl) (Nat.le_of_ble_eq_true rfl) rfl ?_
    refine y_stn (L1 := [(2, ((53 : Nat) : Int)), (0, v1), (0, x1.1), (9, 0), (9, 0), (9, 0)]) (Nat.le_of_ble_eq_true rfl) rfl ?_
    refine wp_aload_n (v := ((53 : Nat) : Int)) rfl (Int.natCast_nonneg _) ?_
    refine y_get (show ash 53 = (6, 2) from rfl) (Nat.lt_of_lt_of_le (show 53 < 154 by decide) hS.1.1) (v := ((2 : Nat) : Int)) (s4.at 53 0 2 (by decide +kernel)) rfl ?_
    refine y_get (show ash 2 = (10, 19) from rfl) (Nat.lt_of_lt_of_le (show 2 < 154 by decide) hS.1.1) (v := x1.2 2 9) rfl rfl ?_
    refine wp_aload_n (v := ((53 : Nat) : Int)) rfl (Int.natCast_nonneg _) ?_
    refine y_get (show ash 53 = (6, 2) from rfl) (Nat.lt_of_lt_of_le (show 53 < 154 by decide) hS.1.1) (v := ((2 : Nat) : Int)) (s4.at 53 0 2 (by decide +kernel)) rfl ?_
    refine y_get (show ash 2 = (10, 19) from rfl) (Nat.lt_of_lt_of_le (show 2 < 154 by decide) hS.1.1) (v := ((13 : Nat) : Int)) (s4.at 2 15 13 (by decide +kernel)) rfl ?_
    refine wp_iload_n (v := v1) rfl ?_
    obtain ⟨c5, h⟩ := d_ite h
    refine y_iald (show ash 13 = (100, 4) from rfl) (Or.inl (Nat.lt_of_lt_of_le (show 13 < 154 by decide) hS.1.1)) (Nat.ne_of_lt (Nat.lt_of_lt_of_le (Nat.lt_of_lt_of_le (show 13 < 154 by decide) hS.1.1) hS.1.2)) c5 (v := x1.2 13 (v1).toNat) rfl ?_
    obtain ⟨x6, e7, h⟩ := d_bind h
    refine y_callS (as := [(0, (x1.2 2 9)), (0, (x1.2 13 (v1).toNat))]) (S1 := []) (Nat.le_of_ble_eq_true rfl) (by omega) (t_X11_hasBit s4 e7) (Nat.le_of_ble_eq_true rfl) rfl (Nat.le_of_ble_eq_true rfl) (Nat.le_of_ble_eq_true rfl) rfl ?_
    refine y_stn (L1 := [(2, ((53 : Nat) : Int)), (0, v1), (0, x1.1), (0, x6), (9, 0), (9, 0)]) (Nat.le_of_ble_eq_true rfl) rfl ?_
    refine wp_iconst ⟨by decide, by decide⟩ ?_
    refine y_st (L1 := [(2, ((53 : Nat) : Int)), (0, v1), (0, x1.1), (0, x6), (0, 0), (9, 0)]) (Nat.le_of_ble_eq_true rfl) rfl ?_
    refine wp_iconst ⟨by decide, by decide⟩ ?_
    refine y_st (L1 := [(2, ((53 : Nat) : Int)), (0, v1), (0, x1.1), (0, x6), (0, 0), (0, 0)]) (Nat.le_of_ble_eq_true rfl) rfl ?_
    refine tl_X6_setsWithDry_31 (by omega) s4 (fun w19 w20 u21  s22 h => ?_) FU 0 0 (2, ((53 : Nat) : Int))  s4 h
    refine y_blk (t := 66) rfl (show fnd bk_X6_setsWithDry 66 = some _ from rfl) aB_X6_setsWithDry ?_
    refine wp_iload (v := w19) rfl ?_
    cases h
    exact y_ret0 (Or.inl rfl) ⟨rfl, rfl, s22⟩
  exact ⟨fun d hd => Ms.of3 (key d hd), Ms.sh (key 5 (Nat.le_refl _))⟩
theorem aB_X7_lineWord : ∀ pc, aB 81 pc = fnd bk_X7_lineWord pc := fun _ => rfl
def f_X7_lineWord (T : Nat) (v0 : Int) (M : aM) : Option Int :=
 if v0 = 0 then
 some 2000012 else
 if v0 = 1 then
 some 2000013 else
 if v0 = 2 then
 some 2000014 else
 if v0 = 3 then
 some 2000015 else
 if v0 = 4 then
 some 2000016 else
 if v0 = 5 then
 some 2000017 else
 if v0 = 6 then
 some 2000018 else
 some 2000019
theorem t_X7_lineWord {T : T3} {v0 : Int} {M : aM} {y : Int}  (hS : Sh T.1 M) (h : f_X7_lineWord T.1 v0 M = some y) : Mr 0 81 [(0, v0)] M (some (2, y)) M T := by
  have key : ∀ d, 0 ≤ d → Wp d 81 0 [] [(0, v0)] [] (M, T) (fun r2 σ2 => r2 = some (2, y) ∧ σ2 = (M, T)) := by
    intro d hd
    rw [f_X7_lineWord] at h
    refine y_blk (t := 0) rfl (show fnd bk_X7_lineWord 0 = some _ from rfl) aB_X7_lineWord ?_
    refine wp_iload_n (v := v0) rfl ?_
    by_cases c1 : v0 = 0
    · rw [if_pos c1] at h
      refine y_ts (off := 43) (t := 44) (by omega) (by rw [c1]; rfl) rfl ?_
      refine y_blk (t := 44) rfl (show fnd bk_X7_lineWord 44 = some _ from rfl) aB_X7_lineWord ?_
      refine y_ldcS (v := 2000012) rfl ?_
      cases h
      exact wp_areturn (by omega) ⟨rfl, rfl⟩
    · rw [if_neg c1] at h
      by_cases c2 : v0 = 1
      · rw [if_pos c2] at h
        refine y_ts (off := 46) (t := 47) (by omega) (by rw [c2]; rfl) rfl ?_
        refine y_blk (t := 47) rfl (show fnd bk_X7_lineWord 47 = some _ from rfl) aB_X7_lineWord ?_
        refine y_ldcS (v := 2000013) rfl ?_
        cases h
        exact wp_areturn (by omega) ⟨rfl, rfl⟩
      · rw [if_neg c2] at h
        by_cases c3 : v0 = 2
        · rw [if_pos c3] at h
          refine y_ts (off := 49) (t := 50) (by omega) (by rw [c3]; rfl) rfl ?_
          refine y_blk (t := 50) rfl (show fnd bk_X7_lineWord 50 = some _ from rfl) aB_X7_lineWord ?_
          refine y_ldcS (v := 2000014) rfl ?_
          cases h
          exact wp_areturn (by omega) ⟨rfl, rfl⟩
        · rw [if_neg c3] at h
          by_cases c4 : v0 = 3
          · rw [if_pos c4] at h
            refine y_ts (off := 52) (t := 53) (by omega) (by rw [c4]; rfl) rfl ?_
            refine y_blk (t := 53) rfl (show fnd bk_X7_lineWord 53 = some _ from rfl) aB_X7_lineWord ?_
            refine y_ldcS (v := 2000015) rfl ?_
            cases h
            exact wp_areturn (by omega) ⟨rfl, rfl⟩
          · rw [if_neg c4] at h
            by_cases c5 : v0 = 4
            · rw [if_pos c5] at h
              refine y_ts (off := 55) (t := 56) (by omega) (by rw [c5]; rfl) rfl ?_
              refine y_blk (t := 56) rfl (show fnd bk_X7_lineWord 56 = some _ from rfl) aB_X7_lineWord ?_
              refine y_ldcS (v := 2000016) rfl ?_
              cases h
              exact wp_areturn (by omega) ⟨rfl, rfl⟩
            · rw [if_neg c5] at h
              by_cases c6 : v0 = 5
              · rw [if_pos c6] at h
                refine y_ts (off := 58) (t := 59) (by omega) (by rw [c6]; rfl) rfl ?_
                refine y_blk (t := 59) rfl (show fnd bk_X7_lineWord 59 = some _ from rfl) aB_X7_lineWord ?_
                refine y_ldcS (v := 2000017) rfl ?_
                cases h
                exact wp_areturn (by omega) ⟨rfl, rfl⟩
              · rw [if_neg c6] at h
                by_cases c7 : v0 = 6
                · rw [if_pos c7] at h
                  refine y_ts (off := 61) (t := 62) (by omega) (by rw [c7]; rfl) rfl ?_
                  refine y_blk (t := 62) rfl (show fnd bk_X7_lineWord 62 = some _ from rfl) aB_X7_lineWord ?_
                  refine y_ldcS (v := 2000018) rfl ?_
                  cases h
                  exact wp_areturn (by omega) ⟨rfl, rfl⟩
                · rw [if_neg c7] at h
                  refine y_td (t := 65) (by omega) rfl ?_
                  refine y_blk (t := 65) rfl (show fnd bk_X7_lineWord 65 = some _ from rfl) aB_X7_lineWord ?_
                  refine y_ldcS (v := 2000019) rfl ?_
                  cases h
                  exact wp_areturn (by omega) ⟨rfl, rfl⟩
  exact fun d hd => Ms.of (key d hd)
theorem aB_X9_numberOf : ∀ pc, aB 101 pc = fnd bk_X9_numberOf pc := fun _ => rfl
def l_X9_numberOf_4 (T : Nat) (v0 : Int) (M : aM) (k : Int → Int → Option Int) : Nat → Int → Int → Option Int
| 0, _, _ => none
| n + 1, v1, v3 =>
 if 2000000 ≤ v0 ∧ v0 < 2000048 then
 if ((atx.getD ((v0 - 2000000).toNat) []).length : Int) ≤ v3 then
 k v1 v3 else
 if aInL (v1 * 32) then
 if 2000000 ≤ v0 ∧ v0 < 2000048 ∧ 0 ≤ v3 ∧ (v3).toNat < (atx.getD ((v0 - 2000000).toNat) []).length then
 if aIn (((atx.getD ((v0 - 2000000).toNat) []).getD (v3).toNat 0 : Int) - 97) then
 if aIn ((((atx.getD ((v0 - 2000000).toNat) []).getD (v3).toNat 0 : Int) - 97) + 1) then
 if aInL ((v1 * 32) + ((((atx.getD ((v0 - 2000000).toNat) []).getD (v3).toNat 0 : Int) - 97) + 1)) then
 if aIn (v3 + 1) then
 l_X9_numberOf_4 T v0 M k n ((v1 * 32) + ((((atx.getD ((v0 - 2000000).toNat) []).getD (v3).toNat 0 : Int) - 97) + 1)) (v3 + 1) else none else none else none else none else none else none else none
theorem tl_X9_numberOf_4 {d : Nat} (hd : 4 ≤ d) {T : T3} {v0 : Int} {M : aM} {k : Int → Int → Option Int} {y : Int} (hsv0 : 0 ≤ v0) (hS : Sh T.1 M)
    (hk : ∀ (v1 v3 : Int), Sh T.1 M → k v1 v3 = some y → Wp d 101 36 [] [(2, v0), (1, v1), (9, 0), (0, v3)] [] (M, T) (fun r2 σ2 => r2 = some (1, y) ∧ σ2 = (M, T))) :
    ∀ (n : Nat) (v1 v3 : Int), Sh T.1 M → l_X9_numberOf_4 T.1 v0 M k n v1 v3 = some y → Wp d 101 4 [] [(2, v0), (1, v1), (9, 0), (0, v3)] [] (M, T) (fun r2 σ2 => r2 = some (1, y) ∧ σ2 = (M, T)) := by
  intro n
  induction n with
  | zero =>
    intro v1 v3 _ h
    exact nomatch (show (none : Option Int) = some y from h)
  | succ n ih =>
    intro v1 v3 sM h
    rw [l_X9_numberOf_4] at h
    refine y_blk (t := 4) rfl (show fnd bk_X9_numberOf 4 = some _ from rfl) aB_X9_numberOf ?_
    refine wp_iload_n (v := v3) rfl ?_
    refine wp_aload_n (v := v0) rfl hsv0 ?_
    obtain ⟨c1, h⟩ := d_ite h
    refine y_slen ⟨by omega, Nat.le_of_ble_eq_true rfl, rfl, c1.1, c1.2⟩ ?_
    refine wp_icmp_ge (fun c2 => ?_) (fun c2 => ?_)
    · rw [if_pos c2] at h
      exact hk v1 v3   sM h
    · rw [if_neg c2] at h
      refine wp_lload_n (v := v1) rfl ?_
      refine y_ldc2 (v := 32) (by decide) rfl ?_
      obtain ⟨c3, h⟩ := d_ite h
      refine wp_lmul c3 ?_
      refine wp_aload_n (v := v0) rfl hsv0 ?_
      refine wp_iload_n (v := v3) rfl ?_
      obtain ⟨c4, h⟩ := d_ite h
      refine y_schar ⟨by omega, Nat.le_of_ble_eq_true rfl, rfl, c4⟩ ?_
      refine wp_bipush (by decide) ?_
      obtain ⟨c5, h⟩ := d_ite h
      refine wp_isub c5 ?_
      refine wp_iconst ⟨by decide, by decide⟩ ?_
      obtain ⟨c6, h⟩ := d_ite h
      refine wp_iadd c6 ?_
      refine wp_i2l ?_
      obtain ⟨c7, h⟩ := d_ite h
      refine wp_ladd c7 ?_
      refine y_lstn (L1 := [(2, v0), (1, ((v1 * 32) + ((((atx.getD ((v0 - 2000000).toNat) []).getD (v3).toNat 0 : Int) - 97) + 1))), (9, 0), (0, v3)]) (Nat.le_of_ble_eq_true rfl) rfl ?_
      obtain ⟨c8, h⟩ := d_ite h
      refine y_iinc (L1 := [(2, v0), (1, ((v1 * 32) + ((((atx.getD ((v0 - 2000000).toNat) []).getD (v3).toNat 0 : Int) - 97) + 1))), (9, 0), (0, (v3 + 1))]) rfl (Nat.le_of_ble_eq_true rfl) ⟨by decide, by decide⟩ c8 rfl ?_
      refine wp_goto ?_
      exact ih ((v1 * 32) + ((((atx.getD ((v0 - 2000000).toNat) []).getD (v3).toNat 0 : Int) - 97) + 1)) (v3 + 1)   sM h
def f_X9_numberOf (T : Nat) (v0 : Int) (M : aM) : Option Int :=
 if 0 ≤ v0 then
 l_X9_numberOf_4 T v0 M (fun w9 w10 =>
 some w9) FU 0 0 else none
theorem t_X9_numberOf {T : T3} {v0 : Int} {M : aM} {y : Int}  (hS : Sh T.1 M) (h : f_X9_numberOf T.1 v0 M = some y) : Mr 4 101 [(2, v0)] M (some (1, y)) M T := by
  have key : ∀ d, 4 ≤ d → Wp d 101 0 [] [(2, v0), (9, 0), (9, 0), (9, 0)] [] (M, T) (fun r2 σ2 => r2 = some (1, y) ∧ σ2 = (M, T)) := by
    intro d hd
    rw [f_X9_numberOf] at h
    obtain ⟨hsv0, h⟩ := d_ite h
    refine y_blk (t := 0) rfl (show fnd bk_X9_numberOf 0 = some _ from rfl) aB_X9_numberOf ?_
    refine y_lconst (v := 0) rfl ?_
    refine y_lstn (L1 := [(2, v0), (1, 0), (9, 0), (9, 0)]) (Nat.le_of_ble_eq_true rfl) rfl ?_
    refine wp_iconst ⟨by decide, by decide⟩ ?_
    refine y_stn (L1 := [(2, v0), (1, 0), (9, 0), (0, 0)]) (Nat.le_of_ble_eq_true rfl) rfl ?_
    refine tl_X9_numberOf_4 (by omega) (by omega) hS (fun w9 w10   s11 h => ?_) FU 0 0   hS h
    refine y_blk (t := 36) rfl (show fnd bk_X9_numberOf 36 = some _ from rfl) aB_X9_numberOf ?_
    refine wp_lload_n (v := w9) rfl ?_
    cases h
    exact wp_lreturn ⟨rfl, rfl⟩
  exact fun d hd => Ms.of (key d hd)
theorem aB_X10_empty : ∀ pc, aB 106 pc = fnd bk_X10_empty pc := fun _ => rfl
def l_X10_empty_2 (T : Nat) (e0 : Nat) (k : Int → aM → Option (Int × aM)) : Nat → Int → aM → Option (Int × aM)
| 0, _, _ => none
| n + 1, v1, M =>
 if 8 ≤ v1 then
 k v1 M else
 if 0 ≤ v1 ∧ v1 < 8 then
 (some (aup M (e0 + 1) (v1).toNat 0)).bind fun m3 =>
 if aIn (v1 + 1) then
 l_X10_empty_2 T e0 k n (v1 + 1) m3 else none else none
theorem tl_X10_empty_2 {d : Nat} (hd : 0 ≤ d) {T : T3} {e0 : Nat} {k : Int → aM → Option (Int × aM)} {y : (Int × aM)} (he0 : isTold e0) {M0 : aM} (hS : Sh T.1 M0)
    (hk : ∀ (v1 : Int) (M : aM), Sh T.1 M → k v1 M = some y → Wp d 106 21 [] [(2, ((e0 : Nat) : Int)), (0, v1)] [] (M, T) (fun r2 σ2 => r2 = none ∧ σ2 = (y.2, T) ∧ Sh T.1 y.2)) :
    ∀ (n : Nat) (v1 : Int) (M : aM), Sh T.1 M → l_X10_empty_2 T.1 e0 k n v1 M = some y → Wp d 106 2 [] [(2, ((e0 : Nat) : Int)), (0, v1)] [] (M, T) (fun r2 σ2 => r2 = none ∧ σ2 = (y.2, T) ∧ Sh T.1 y.2) := by
  intro n
  induction n with
  | zero =>
    intro v1 M _ h
    exact nomatch (show (none : Option (Int × aM)) = some y from h)
  | succ n ih =>
    intro v1 M sM h
    rw [l_X10_empty_2] at h
    refine y_blk (t := 2) rfl (show fnd bk_X10_empty 2 = some _ from rfl) aB_X10_empty ?_
    refine wp_iload_n (v := v1) rfl ?_
    refine wp_bipush (by decide) ?_
    refine wp_icmp_ge (fun c1 => ?_) (fun c1 => ?_)
    · rw [if_pos c1] at h
      exact hk v1  M sM h
    · rw [if_neg c1] at h
      refine wp_aload_n (v := ((e0 : Nat) : Int)) rfl (Int.natCast_nonneg _) ?_
      refine y_get (aTold0 he0) (ltTold hS.1.1 he0 0 (by decide)) (v := (((e0 + 1) : Nat) : Int)) (rTold3 sM he0) rfl ?_
      refine wp_iload_n (v := v1) rfl ?_
      refine wp_iconst ⟨by decide, by decide⟩ ?_
      obtain ⟨c2, h⟩ := d_ite h
      refine y_iast (aTold1 he0) (ltTold hS.1.1 he0 1 (by decide)) c2 ?_
      obtain ⟨m3, em3, h⟩ := d_bind h
      have em3 := Option.some.inj em3
      have s4 : Sh T.1 m3 := em3 ▸ sM.up (Or.inl ⟨by rw [(aTold1 he0)]; exact Nat.le_of_ble_eq_true rfl, by rw [(aTold1 he0)]; exact Nat.le_of_ble_eq_true rfl⟩) (by have := (ltTold hS.1.1 he0 1 (by decide)); have := hS.1.2; omega)
      rw [em3]
      obtain ⟨c5, h⟩ := d_ite h
      refine y_iinc (L1 := [(2, ((e0 : Nat) : Int)), (0, (v1 + 1))]) rfl (Nat.le_of_ble_eq_true rfl) ⟨by decide, by decide⟩ c5 rfl ?_
      refine wp_goto ?_
      exact ih (v1 + 1)  m3 s4 h
def l_X10_empty_23 (T : Nat) (e0 : Nat) (k : Int → aM → Option (Int × aM)) : Nat → Int → aM → Option (Int × aM)
| 0, _, _ => none
| n + 1, v1, M =>
 if 64 ≤ v1 then
 k v1 M else
 if 0 ≤ v1 ∧ v1 < 64 then
 (some (aup M (e0 + 5) (v1).toNat 0)).bind fun m11 =>
 if aIn (v1 + 1) then
 l_X10_empty_23 T e0 k n (v1 + 1) m11 else none else none
theorem tl_X10_empty_23 {d : Nat} (hd : 0 ≤ d) {T : T3} {e0 : Nat} {k : Int → aM → Option (Int × aM)} {y : (Int × aM)} (he0 : isTold e0) {M0 : aM} (hS : Sh T.1 M0)
    (hk : ∀ (v1 : Int) (M : aM), Sh T.1 M → k v1 M = some y → Wp d 106 42 [] [(2, ((e0 : Nat) : Int)), (0, v1)] [] (M, T) (fun r2 σ2 => r2 = none ∧ σ2 = (y.2, T) ∧ Sh T.1 y.2)) :
    ∀ (n : Nat) (v1 : Int) (M : aM), Sh T.1 M → l_X10_empty_23 T.1 e0 k n v1 M = some y → Wp d 106 23 [] [(2, ((e0 : Nat) : Int)), (0, v1)] [] (M, T) (fun r2 σ2 => r2 = none ∧ σ2 = (y.2, T) ∧ Sh T.1 y.2) := by
  intro n
  induction n with
  | zero =>
    intro v1 M _ h
    exact nomatch (show (none : Option (Int × aM)) = some y from h)
  | succ n ih =>
    intro v1 M sM h
    rw [l_X10_empty_23] at h
    refine y_blk (t := 23) rfl (show fnd bk_X10_empty 23 = some _ from rfl) aB_X10_empty ?_
    refine wp_iload_n (v := v1) rfl ?_
    refine wp_bipush (by decide) ?_
    refine wp_icmp_ge (fun c9 => ?_) (fun c9 => ?_)
    · rw [if_pos c9] at h
      exact hk v1  M sM h
    · rw [if_neg c9] at h
      refine wp_aload_n (v := ((e0 : Nat) : Int)) rfl (Int.natCast_nonneg _) ?_
      refine y_get (aTold0 he0) (ltTold hS.1.1 he0 0 (by decide)) (v := (((e0 + 5) : Nat) : Int)) (rTold8 sM he0) rfl ?_
      refine wp_iload_n (v := v1) rfl ?_
      refine wp_iconst ⟨by decide, by decide⟩ ?_
      obtain ⟨c10, h⟩ := d_ite h
      refine y_iast (aTold5 he0) (ltTold hS.1.1 he0 5 (by decide)) c10 ?_
      obtain ⟨m11, em11, h⟩ := d_bind h
      have em11 := Option.some.inj em11
      have s12 : Sh T.1 m11 := em11 ▸ sM.up (Or.inl ⟨by rw [(aTold5 he0)]; exact Nat.le_of_ble_eq_true rfl, by rw [(aTold5 he0)]; exact Nat.le_of_ble_eq_true rfl⟩) (by have := (ltTold hS.1.1 he0 5 (by decide)); have := hS.1.2; omega)
      rw [em11]
      obtain ⟨c13, h⟩ := d_ite h
      refine y_iinc (L1 := [(2, ((e0 : Nat) : Int)), (0, (v1 + 1))]) rfl (Nat.le_of_ble_eq_true rfl) ⟨by decide, by decide⟩ c13 rfl ?_
      refine wp_goto ?_
      exact ih (v1 + 1)  m11 s12 h
def f_X10_empty (T : Nat) (e0 : Nat) (M : aM) : Option (Int × aM) :=
 l_X10_empty_2 T e0 (fun w6 m7 =>
 l_X10_empty_23 T e0 (fun w14 m15 =>
 (some (aup m15 e0 4 0)).bind fun m17 =>
 (some (aup m17 e0 9 0)).bind fun m19 =>
 (some (aup m19 e0 18 0)).bind fun m21 =>
 some (0, m21)) FU 0 m7) FU 0 M
theorem t_X10_empty {T : T3} {e0 : Nat} {M : aM} {y : (Int × aM)} (he0 : isTold e0) (hS : Sh T.1 M) (h : f_X10_empty T.1 e0 M = some y) : Mr 0 106 [(2, ((e0 : Nat) : Int))] M (none) y.2 T ∧ Sh T.1 y.2 := by
  have key : ∀ d, 0 ≤ d → Wp d 106 0 [] [(2, ((e0 : Nat) : Int)), (9, 0)] [] (M, T) (fun r2 σ2 => r2 = none ∧ σ2 = (y.2, T) ∧ Sh T.1 y.2) := by
    intro d hd
    rw [f_X10_empty] at h
    refine y_blk (t := 0) rfl (show fnd bk_X10_empty 0 = some _ from rfl) aB_X10_empty ?_
    refine wp_iconst ⟨by decide, by decide⟩ ?_
    refine y_stn (L1 := [(2, ((e0 : Nat) : Int)), (0, 0)]) (Nat.le_of_ble_eq_true rfl) rfl ?_
    refine tl_X10_empty_2 (by omega) he0 hS (fun w6  m7 s8 h => ?_) FU 0  M hS h
    refine y_blk (t := 21) rfl (show fnd bk_X10_empty 21 = some _ from rfl) aB_X10_empty ?_
    refine wp_iconst ⟨by decide, by decide⟩ ?_
    refine y_stn (L1 := [(2, ((e0 : Nat) : Int)), (0, 0)]) (Nat.le_of_ble_eq_true rfl) rfl ?_
    refine tl_X10_empty_23 (by omega) he0 hS (fun w14  m15 s16 h => ?_) FU 0  m7 s8 h
    refine y_blk (t := 42) rfl (show fnd bk_X10_empty 42 = some _ from rfl) aB_X10_empty ?_
    refine wp_aload_n (v := ((e0 : Nat) : Int)) rfl (Int.natCast_nonneg _) ?_
    refine wp_iconst ⟨by decide, by decide⟩ ?_
    refine y_put (aTold0 he0) (ltTold hS.1.1 he0 0 (by decide)) rfl ?_
    obtain ⟨m17, em17, h⟩ := d_bind h
    have em17 := Option.some.inj em17
    have s18 : Sh T.1 m17 := em17 ▸ s16.up (Or.inr ⟨by rw [(aTold0 he0)]; decide, by rw [(aTold0 he0)]; decide⟩) (by have := (ltTold hS.1.1 he0 0 (by decide)); have := hS.1.2; omega)
    rw [em17]
    refine wp_aload_n (v := ((e0 : Nat) : Int)) rfl (Int.natCast_nonneg _) ?_
    refine wp_iconst ⟨by decide, by decide⟩ ?_
    refine y_put (aTold0 he0) (ltTold hS.1.1 he0 0 (by decide)) rfl ?_
    obtain ⟨m19, em19, h⟩ := d_bind h
    have em19 := Option.some.inj em19
    have s20 : Sh T.1 m19 := em19 ▸ s18.up (Or.inr ⟨by rw [(aTold0 he0)]; decide, by rw [(aTold0 he0)]; decide⟩) (by have := (ltTold hS.1.1 he0 0 (by decide)); have := hS.1.2; omega)
    rw [em19]
    refine wp_aload_n (v := ((e0 : Nat) : Int)) rfl (Int.natCast_nonneg _) ?_
    refine wp_iconst ⟨by decide, by decide⟩ ?_
    refine y_put (aTold0 he0) (ltTold hS.1.1 he0 0 (by decide)) rfl ?_
    obtain ⟨m21, em21, h⟩ := d_bind h
    have em21 := Option.some.inj em21
    have s22 : Sh T.1 m21 := em21 ▸ s20.up (Or.inr ⟨by rw [(aTold0 he0)]; decide, by rw [(aTold0 he0)]; decide⟩) (by have := (ltTold hS.1.1 he0 0 (by decide)); have := hS.1.2; omega)
    rw [em21]
    cases h
    exact wp_return ⟨rfl, rfl, s22⟩
  exact ⟨fun d hd => Ms.of3 (key d hd), Ms.sh (key 0 (Nat.le_refl _))⟩
theorem aB_X9_isLetter : ∀ pc, aB 103 pc = fnd bk_X9_isLetter pc := fun _ => rfl
def f_X9_isLetter (T : Nat) (v0 : Int) (M : aM) : Option Int :=
 if v0 < 97 then
 some 0 else
 if 122 < v0 then
 some 0 else
 some 1
theorem t_X9_isLetter {T : T3} {v0 : Int} {M : aM} {y : Int}  (hS : Sh T.1 M) (h : f_X9_isLetter T.1 v0 M = some y) : Mr 0 103 [(0, v0)] M (some (0, y)) M T := by
  have key : ∀ d, 0 ≤ d → Wp d 103 0 [] [(0, v0)] [] (M, T) (fun r2 σ2 => r2 = some (0, y) ∧ σ2 = (M, T)) := by
    intro d hd
    rw [f_X9_isLetter] at h
    refine y_blk (t := 0) rfl (show fnd bk_X9_isLetter 0 = some _ from rfl) aB_X9_isLetter ?_
    refine wp_iload_n (v := v0) rfl ?_
    refine wp_bipush (by decide) ?_
    refine wp_icmp_lt (fun c1 => ?_) (fun c1 => ?_)
    · rw [if_pos c1] at h
      refine y_blk (t := 16) rfl (show fnd bk_X9_isLetter 16 = some _ from rfl) aB_X9_isLetter ?_
      refine wp_iconst ⟨by decide, by decide⟩ ?_
      refine y_blk (t := 17) rfl (show fnd bk_X9_isLetter 17 = some _ from rfl) aB_X9_isLetter ?_
      cases h
      exact y_ret0 (Or.inr (Or.inl rfl)) ⟨rfl, rfl⟩
    · rw [if_neg c1] at h
      refine wp_iload_n (v := v0) rfl ?_
      refine wp_bipush (by decide) ?_
      refine wp_icmp_gt (fun c2 => ?_) (fun c2 => ?_)
      · rw [if_pos c2] at h
        refine y_blk (t := 16) rfl (show fnd bk_X9_isLetter 16 = some _ from rfl) aB_X9_isLetter ?_
        refine wp_iconst ⟨by decide, by decide⟩ ?_
        refine y_blk (t := 17) rfl (show fnd bk_X9_isLetter 17 = some _ from rfl) aB_X9_isLetter ?_
        cases h
        exact y_ret0 (Or.inr (Or.inl rfl)) ⟨rfl, rfl⟩
      · rw [if_neg c2] at h
        refine wp_iconst ⟨by decide, by decide⟩ ?_
        refine wp_goto ?_
        refine y_blk (t := 17) rfl (show fnd bk_X9_isLetter 17 = some _ from rfl) aB_X9_isLetter ?_
        cases h
        exact y_ret0 (Or.inr (Or.inr rfl)) ⟨rfl, rfl⟩
  exact fun d hd => Ms.of (key d hd)
theorem aB_X9_isDigit : ∀ pc, aB 104 pc = fnd bk_X9_isDigit pc := fun _ => rfl
def f_X9_isDigit (T : Nat) (v0 : Int) (M : aM) : Option Int :=
 if v0 < 48 then
 some 0 else
 if 57 < v0 then
 some 0 else
 some 1
theorem t_X9_isDigit {T : T3} {v0 : Int} {M : aM} {y : Int}  (hS : Sh T.1 M) (h : f_X9_isDigit T.1 v0 M = some y) : Mr 0 104 [(0, v0)] M (some (0, y)) M T := by
  have key : ∀ d, 0 ≤ d → Wp d 104 0 [] [(0, v0)] [] (M, T) (fun r2 σ2 => r2 = some (0, y) ∧ σ2 = (M, T)) := by
    intro d hd
    rw [f_X9_isDigit] at h
    refine y_blk (t := 0) rfl (show fnd bk_X9_isDigit 0 = some _ from rfl) aB_X9_isDigit ?_
    refine wp_iload_n (v := v0) rfl ?_
    refine wp_bipush (by decide) ?_
    refine wp_icmp_lt (fun c1 => ?_) (fun c1 => ?_)
    · rw [if_pos c1] at h
      refine y_blk (t := 16) rfl (show fnd bk_X9_isDigit 16 = some _ from rfl) aB_X9_isDigit ?_
      refine wp_iconst ⟨by decide, by decide⟩ ?_
      refine y_blk (t := 17) rfl (show fnd bk_X9_isDigit 17 = some _ from rfl) aB_X9_isDigit ?_
      cases h
      exact y_ret0 (Or.inr (Or.inl rfl)) ⟨rfl, rfl⟩
    · rw [if_neg c1] at h
      refine wp_iload_n (v := v0) rfl ?_
      refine wp_bipush (by decide) ?_
      refine wp_icmp_gt (fun c2 => ?_) (fun c2 => ?_)
      · rw [if_pos c2] at h
        refine y_blk (t := 16) rfl (show fnd bk_X9_isDigit 16 = some _ from rfl) aB_X9_isDigit ?_
        refine wp_iconst ⟨by decide, by decide⟩ ?_
        refine y_blk (t := 17) rfl (show fnd bk_X9_isDigit 17 = some _ from rfl) aB_X9_isDigit ?_
        cases h
        exact y_ret0 (Or.inr (Or.inl rfl)) ⟨rfl, rfl⟩
      · rw [if_neg c2] at h
        refine wp_iconst ⟨by decide, by decide⟩ ?_
        refine wp_goto ?_
        refine y_blk (t := 17) rfl (show fnd bk_X9_isDigit 17 = some _ from rfl) aB_X9_isDigit ?_
        cases h
        exact y_ret0 (Or.inr (Or.inr rfl)) ⟨rfl, rfl⟩
  exact fun d hd => Ms.of (key d hd)

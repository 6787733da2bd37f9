/-! ===== methods as functions ===== -/
theorem aB_X13_call : ∀ pc, aB 322 pc = fnd bk_X13_call pc := fun _ => rfl
def l_X13_call_31 (T : Nat) (v1 : Int) (k : Int → Int → aM → Option (Int × aM)) : Nat → Int → Int → aM → Option (Int × aM)
| 0, _, _, _ => none
| n + 1, v2, v3, M =>
 if okW T (M 138 3) then
 if (M (M 138 3).toNat 7) ≤ v3 then
 k v2 v3 M else
 if 0 ≤ v3 ∧ v3 < 3 then
 if 0 ≤ v3 ∧ v3 < 12 then
 (f_X13_calledTo T (M ((M 138 3).toNat + 4) (v3).toNat) (M 141 (v3).toNat) v1 M).bind fun x18 =>
 (f_X13_comesTo T v3 x18 M).bind fun x20 =>
 if x20.1 = 0 then
 if aIn (v3 + 1) then
 l_X13_call_31 T v1 k n (aor v2 0) (v3 + 1) x20.2 else none else
 if aIn (v3 + 1) then
 l_X13_call_31 T v1 k n (aor v2 (ashl 1 v3)) (v3 + 1) x20.2 else none else none else none else none
theorem tl_X13_call_31 {d : Nat} (hd : 4 ≤ d) {T : T3} {v1 : Int} {k : Int → Int → aM → Option (Int × aM)} {y : (Int × aM)}  {M0 : aM} (hS : Sh T.1 M0)
    (hk : ∀ (v2 v3 : Int) (M : aM), Sh T.1 M → k v2 v3 M = some y → Wp d 322 86 [] [(2, ((138 : Nat) : Int)), (0, v1), (0, v2), (0, v3)] [] (M, T) (fun r2 σ2 => r2 = some (0, y.1) ∧ σ2 = (y.2, T) ∧ Sh T.1 y.2)) :
    ∀ (n : Nat) (v2 v3 : Int) (M : aM), Sh T.1 M → l_X13_call_31 T.1 v1 k n v2 v3 M = some y → Wp d 322 31 [] [(2, ((138 : Nat) : Int)), (0, v1), (0, v2), (0, v3)] [] (M, T) (fun r2 σ2 => r2 = some (0, y.1) ∧ σ2 = (y.2, T) ∧ Sh T.1 y.2) := by
  intro n
  induction n with
  | zero =>
    intro v2 v3 M _ h
    exact nomatch (show (none : Option (Int × aM)) = some y from h)
  | succ n ih =>
    intro v2 v3 M sM h
    rw [l_X13_call_31] at h
    refine y_blk (t := 31) rfl (show fnd bk_X13_call 31 = some _ from rfl) aB_X13_call ?_
    refine wp_iload_n (v := v3) rfl ?_
    refine wp_aload_n (v := ((138 : Nat) : Int)) rfl (Int.natCast_nonneg _) ?_
    obtain ⟨c14, h⟩ := d_ite h
    refine y_get (show ash 138 = (13, 38) from rfl) (Nat.lt_of_lt_of_le (show 138 < 154 by decide) hS.1.1) (v := (((M 138 3).toNat : Nat) : Int)) c14.eq rfl ?_
    refine y_get (aW0 hS.1.2 c14.is) (ltW c14.is 0 (by decide)) (v := M (M 138 3).toNat 7) rfl rfl ?_
    refine wp_icmp_ge (fun c15 => ?_) (fun c15 => ?_)
    · rw [if_pos c15] at h
      exact hk v2 v3  M sM h
    · rw [if_neg c15] at h
      refine wp_iload_n (v := v2) rfl ?_
      refine wp_aload_n (v := ((138 : Nat) : Int)) rfl (Int.natCast_nonneg _) ?_
      refine wp_iload_n (v := v3) rfl ?_
      refine wp_aload_n (v := ((138 : Nat) : Int)) rfl (Int.natCast_nonneg _) ?_
      refine wp_aload_n (v := ((138 : Nat) : Int)) rfl (Int.natCast_nonneg _) ?_
      refine y_get (show ash 138 = (13, 38) from rfl) (Nat.lt_of_lt_of_le (show 138 < 154 by decide) hS.1.1) (v := (((M 138 3).toNat : Nat) : Int)) c14.eq rfl ?_
      refine y_get (aW0 hS.1.2 c14.is) (ltW c14.is 0 (by decide)) (v := ((((M 138 3).toNat + 4) : Nat) : Int)) (rW17 sM c14.is) rfl ?_
      refine wp_iload_n (v := v3) rfl ?_
      obtain ⟨c16, h⟩ := d_ite h
      refine y_iald (aW4 hS.1.2 c14.is) (Or.inl (ltW c14.is 4 (by decide))) (Nat.ne_of_lt (Nat.lt_of_lt_of_le (ltW c14.is 4 (by decide)) hS.1.2)) c16 (v := M ((M 138 3).toNat + 4) (v3).toNat) rfl ?_
      refine wp_aload_n (v := ((138 : Nat) : Int)) rfl (Int.natCast_nonneg _) ?_
      refine y_get (show ash 138 = (13, 38) from rfl) (Nat.lt_of_lt_of_le (show 138 < 154 by decide) hS.1.1) (v := ((141 : Nat) : Int)) (sM.at 138 17 141 (by decide +kernel)) rfl ?_
      refine wp_iload_n (v := v3) rfl ?_
      obtain ⟨c17, h⟩ := d_ite h
      refine y_iald (show ash 141 = (100, 12) from rfl) (Or.inl (Nat.lt_of_lt_of_le (show 141 < 154 by decide) hS.1.1)) (Nat.ne_of_lt (Nat.lt_of_lt_of_le (Nat.lt_of_lt_of_le (show 141 < 154 by decide) hS.1.1) hS.1.2)) c17 (v := M 141 (v3).toNat) rfl ?_
      refine wp_iload_n (v := v1) rfl ?_
      obtain ⟨x18, e19, h⟩ := d_bind h
      refine y_callV (as := [(0, (M ((M 138 3).toNat + 4) (v3).toNat)), (0, (M 141 (v3).toNat)), (0, v1)]) (S1 := [(0, v3), (2, ((138 : Nat) : Int)), (0, v2)]) (Nat.le_of_ble_eq_true rfl) (by omega) (t_X13_calledTo sM e19) (Nat.le_of_ble_eq_true rfl) rfl (show ash 138 = (13, 38) from rfl) (Nat.lt_of_lt_of_le (show 138 < 154 by decide) hS.1.1) (Nat.le_of_ble_eq_true rfl) (Nat.le_of_ble_eq_true rfl) rfl ?_
      obtain ⟨x20, e21, h⟩ := d_bind h
      obtain ⟨r22, s23⟩ := t_X13_comesTo sM e21
      refine y_callV (as := [(0, v3), (0, x18)]) (S1 := [(0, v2)]) (Nat.le_of_ble_eq_true rfl) (by omega) r22 (Nat.le_of_ble_eq_true rfl) rfl (show ash 138 = (13, 38) from rfl) (Nat.lt_of_lt_of_le (show 138 < 154 by decide) hS.1.1) (Nat.le_of_ble_eq_true rfl) (Nat.le_of_ble_eq_true rfl) rfl ?_
      refine wp_if_eq (fun c24 => ?_) (fun c24 => ?_)
      · rw [if_pos c24] at h
        refine y_blk (t := 77) rfl (show fnd bk_X13_call 77 = some _ from rfl) aB_X13_call ?_
        refine wp_iconst ⟨by decide, by decide⟩ ?_
        refine y_blk (t := 78) rfl (show fnd bk_X13_call 78 = some _ from rfl) aB_X13_call ?_
        refine wp_ior ?_
        refine y_stn (L1 := [(2, ((138 : Nat) : Int)), (0, v1), (0, (aor v2 0)), (0, v3)]) (Nat.le_of_ble_eq_true rfl) rfl ?_
        obtain ⟨c25, h⟩ := d_ite h
        refine y_iinc (L1 := [(2, ((138 : Nat) : Int)), (0, v1), (0, (aor v2 0)), (0, (v3 + 1))]) rfl (Nat.le_of_ble_eq_true rfl) ⟨by decide, by decide⟩ c25 rfl ?_
        refine wp_goto ?_
        exact ih (aor v2 0) (v3 + 1)  x20.2 s23 h
      · rw [if_neg c24] at h
        refine wp_iconst ⟨by decide, by decide⟩ ?_
        refine wp_iload_n (v := v3) rfl ?_
        refine wp_ishl ?_
        refine wp_goto ?_
        refine y_blk (t := 78) rfl (show fnd bk_X13_call 78 = some _ from rfl) aB_X13_call ?_
        refine wp_ior ?_
        refine y_stn (L1 := [(2, ((138 : Nat) : Int)), (0, v1), (0, (aor v2 (ashl 1 v3))), (0, v3)]) (Nat.le_of_ble_eq_true rfl) rfl ?_
        obtain ⟨c26, h⟩ := d_ite h
        refine y_iinc (L1 := [(2, ((138 : Nat) : Int)), (0, v1), (0, (aor v2 (ashl 1 v3))), (0, (v3 + 1))]) rfl (Nat.le_of_ble_eq_true rfl) ⟨by decide, by decide⟩ c26 rfl ?_
        refine wp_goto ?_
        exact ih (aor v2 (ashl 1 v3)) (v3 + 1)  x20.2 s23 h
def f_X13_call (T : Nat) (v1 : Int) (M : aM) : Option (Int × aM) :=
 (some (aup M 138 0 0)).bind fun m1 =>
 (f_X13_isCave T v1 m1).bind fun x3 =>
 if x3 = 0 then
 (f_X13_refused T 1 m1).bind fun x39 =>
 some (x39.1, x39.2) else
 (f_X13_remembers T m1).bind fun x6 =>
 (f_X13_works T x6.2).bind fun x10 =>
 l_X13_call_31 T v1 (fun w27 w28 m29 =>
 (f_X13_remains T m29).bind fun x31 =>
 (f_X13_good T w27 x31.2).bind fun x35 =>
 some (x35.1, x35.2)) FU 0 0 x10.2
theorem t_X13_call {T : T3} {v1 : Int} {M : aM} {y : (Int × aM)}  (hS : Sh T.1 M) (h : f_X13_call T.1 v1 M = some y) : Mr 4 322 [(2, ((138 : Nat) : Int)), (0, v1)] M (some (0, y.1)) y.2 T ∧ Sh T.1 y.2 := by
  have key : ∀ d, 4 ≤ d → Wp d 322 0 [] [(2, ((138 : Nat) : Int)), (0, v1), (9, 0), (9, 0)] [] (M, T) (fun r2 σ2 => r2 = some (0, y.1) ∧ σ2 = (y.2, T) ∧ Sh T.1 y.2) := by
    intro d hd
    rw [f_X13_call] at h
    refine y_blk (t := 0) rfl (show fnd bk_X13_call 0 = some _ from rfl) aB_X13_call ?_
    refine wp_aload_n (v := ((138 : Nat) : Int)) rfl (Int.natCast_nonneg _) ?_
    refine wp_iconst ⟨by decide, by decide⟩ ?_
    refine y_put (show ash 138 = (13, 38) from rfl) (Nat.lt_of_lt_of_le (show 138 < 154 by decide) hS.1.1) rfl ?_
    obtain ⟨m1, em1, h⟩ := d_bind h
    have em1 := Option.some.inj em1
    have s2 : Sh T.1 m1 := em1 ▸ hS.up (Or.inr ⟨by rw [(show ash 138 = (13, 38) from rfl)]; decide, by rw [(show ash 138 = (13, 38) from rfl)]; decide⟩) (by have := (Nat.lt_of_lt_of_le (show 138 < 154 by decide) hS.1.1); have := hS.1.2; omega)
    rw [em1]
    refine wp_aload_n (v := ((138 : Nat) : Int)) rfl (Int.natCast_nonneg _) ?_
    refine wp_iload_n (v := v1) rfl ?_
    obtain ⟨x3, e4, h⟩ := d_bind h
    refine y_callV (as := [(0, v1)]) (S1 := []) (Nat.le_of_ble_eq_true rfl) (by omega) (t_X13_isCave s2 e4) (Nat.le_of_ble_eq_true rfl) rfl (show ash 138 = (13, 38) from rfl) (Nat.lt_of_lt_of_le (show 138 < 154 by decide) hS.1.1) (Nat.le_of_ble_eq_true rfl) (Nat.le_of_ble_eq_true rfl) rfl ?_
    refine y_nez (fun c5 => ?_) (fun c5 => ?_)
    · rw [if_neg c5] at h
      refine y_blk (t := 19) rfl (show fnd bk_X13_call 19 = some _ from rfl) aB_X13_call ?_
      refine wp_aload_n (v := ((138 : Nat) : Int)) rfl (Int.natCast_nonneg _) ?_
      obtain ⟨x6, e7, h⟩ := d_bind h
      obtain ⟨r8, s9⟩ := t_X13_remembers s2 e7
      refine y_callVv (as := []) (S1 := []) (Nat.le_of_ble_eq_true rfl) (by omega) r8 rfl (show ash 138 = (13, 38) from rfl) (Nat.lt_of_lt_of_le (show 138 < 154 by decide) hS.1.1) (Nat.le_of_ble_eq_true rfl) (Nat.le_of_ble_eq_true rfl) rfl ?_
      refine wp_aload_n (v := ((138 : Nat) : Int)) rfl (Int.natCast_nonneg _) ?_
      obtain ⟨x10, e11, h⟩ := d_bind h
      obtain ⟨r12, s13⟩ := t_X13_works s9 e11
      refine y_callVv (as := []) (S1 := []) (Nat.le_of_ble_eq_true rfl) (by omega) r12 rfl (show ash 138 = (13, 38) from rfl) (Nat.lt_of_lt_of_le (show 138 < 154 by decide) hS.1.1) (Nat.le_of_ble_eq_true rfl) (Nat.le_of_ble_eq_true rfl) rfl ?_
      refine wp_iconst ⟨by decide, by decide⟩ ?_
      refine y_stn (L1 := [(2, ((138 : Nat) : Int)), (0, v1), (0, 0), (9, 0)]) (Nat.le_of_ble_eq_true rfl) rfl ?_
      refine wp_iconst ⟨by decide, by decide⟩ ?_
      refine y_stn (L1 := [(2, ((138 : Nat) : Int)), (0, v1), (0, 0), (0, 0)]) (Nat.le_of_ble_eq_true rfl) rfl ?_
      refine tl_X13_call_31 (by omega) hS (fun w27 w28  m29 s30 h => ?_) FU 0 0  x10.2 s13 h
      refine y_blk (t := 86) rfl (show fnd bk_X13_call 86 = some _ from rfl) aB_X13_call ?_
      refine wp_aload_n (v := ((138 : Nat) : Int)) rfl (Int.natCast_nonneg _) ?_
      obtain ⟨x31, e32, h⟩ := d_bind h
      obtain ⟨r33, s34⟩ := t_X13_remains s30 e32
      refine y_callVv (as := []) (S1 := []) (Nat.le_of_ble_eq_true rfl) (by omega) r33 rfl (show ash 138 = (13, 38) from rfl) (Nat.lt_of_lt_of_le (show 138 < 154 by decide) hS.1.1) (Nat.le_of_ble_eq_true rfl) (Nat.le_of_ble_eq_true rfl) rfl ?_
      refine wp_aload_n (v := ((138 : Nat) : Int)) rfl (Int.natCast_nonneg _) ?_
      refine wp_iload_n (v := w27) rfl ?_
      obtain ⟨x35, e36, h⟩ := d_bind h
      obtain ⟨r37, s38⟩ := t_X13_good s34 e36
      refine y_callV (as := [(0, w27)]) (S1 := []) (Nat.le_of_ble_eq_true rfl) (by omega) r37 (Nat.le_of_ble_eq_true rfl) rfl (show ash 138 = (13, 38) from rfl) (Nat.lt_of_lt_of_le (show 138 < 154 by decide) hS.1.1) (Nat.le_of_ble_eq_true rfl) (Nat.le_of_ble_eq_true rfl) rfl ?_
      cases h
      exact y_ret0 (Or.inl rfl) ⟨rfl, rfl, s38⟩
    · rw [if_pos c5] at h
      refine wp_aload_n (v := ((138 : Nat) : Int)) rfl (Int.natCast_nonneg _) ?_
      refine wp_iconst ⟨by decide, by decide⟩ ?_
      obtain ⟨x39, e40, h⟩ := d_bind h
      obtain ⟨r41, s42⟩ := t_X13_refused s2 e40
      refine y_callV (as := [(0, 1)]) (S1 := []) (Nat.le_of_ble_eq_true rfl) (by omega) r41 (Nat.le_of_ble_eq_true rfl) rfl (show ash 138 = (13, 38) from rfl) (Nat.lt_of_lt_of_le (show 138 < 154 by decide) hS.1.1) (Nat.le_of_ble_eq_true rfl) (Nat.le_of_ble_eq_true rfl) rfl ?_
      cases h
      exact y_ret0 (Or.inl rfl) ⟨rfl, rfl, s42⟩
  exact ⟨fun d hd => Ms.of3 (key d hd), Ms.sh (key 4 (Nat.le_refl _))⟩
theorem aB_X13_walk : ∀ pc, aB 323 pc = fnd bk_X13_walk pc := fun _ => rfl
def f_X13_walk (T : Nat) (v1 : Int) (v2 : Int) (M : aM) : Option (Int × aM) :=
 (some (aup M 138 0 0)).bind fun m1 =>
 (f_X13_isFolk T v1 m1).bind fun x3 =>
 if x3 = 0 then
 (f_X13_denied T 1 m1).bind fun x6 =>
 if x6.1 = 0 ∨ x6.1 = 1 then
 some (x6.1, x6.2) else none else
 (f_X13_isCave T v2 m1).bind fun x11 =>
 if x11 = 0 then
 (f_X13_denied T 1 m1).bind fun x40 =>
 if x40.1 = 0 ∨ x40.1 = 1 then
 some (x40.1, x40.2) else none else
 (f_X13_works T m1).bind fun x14 =>
 if aIn (6 + v1) then
 if 0 ≤ (6 + v1) ∧ (6 + v1) < 12 then
 if 0 ≤ (x14.2 140 ((6 + v1)).toNat) ∧ (x14.2 140 ((6 + v1)).toNat) < 8 then
 (f_X13_bit T (x14.2 145 ((x14.2 140 ((6 + v1)).toNat)).toNat) v2 x14.2).bind fun x21 =>
 if x21 = 0 then
 (f_X13_denied T 5 x14.2).bind fun x35 =>
 if x35.1 = 0 ∨ x35.1 = 1 then
 some (x35.1, x35.2) else none else
 (f_X13_remembers T x14.2).bind fun x24 =>
 (some (aup x24.2 140 ((6 + v1)).toNat v2)).bind fun m28 =>
 (f_X13_granted T m28).bind fun x30 =>
 if x30.1 = 0 ∨ x30.1 = 1 then
 some (x30.1, x30.2) else none else none else none else none
theorem t_X13_walk {T : T3} {v1 : Int} {v2 : Int} {M : aM} {y : (Int × aM)}  (hS : Sh T.1 M) (h : f_X13_walk T.1 v1 v2 M = some y) : Mr 3 323 [(2, ((138 : Nat) : Int)), (0, v1), (0, v2)] M (some (0, y.1)) y.2 T ∧ Sh T.1 y.2 := by
  have key : ∀ d, 3 ≤ d → Wp d 323 0 [] [(2, ((138 : Nat) : Int)), (0, v1), (0, v2)] [] (M, T) (fun r2 σ2 => r2 = some (0, y.1) ∧ σ2 = (y.2, T) ∧ Sh T.1 y.2) := by
    intro d hd
    rw [f_X13_walk] at h
    refine y_blk (t := 0) rfl (show fnd bk_X13_walk 0 = some _ from rfl) aB_X13_walk ?_
    refine wp_aload_n (v := ((138 : Nat) : Int)) rfl (Int.natCast_nonneg _) ?_
    refine wp_iconst ⟨by decide, by decide⟩ ?_
    refine y_put (show ash 138 = (13, 38) from rfl) (Nat.lt_of_lt_of_le (show 138 < 154 by decide) hS.1.1) rfl ?_
    obtain ⟨m1, em1, h⟩ := d_bind h
    have em1 := Option.some.inj em1
    have s2 : Sh T.1 m1 := em1 ▸ hS.up (Or.inr ⟨by rw [(show ash 138 = (13, 38) from rfl)]; decide, by rw [(show ash 138 = (13, 38) from rfl)]; decide⟩) (by have := (Nat.lt_of_lt_of_le (show 138 < 154 by decide) hS.1.1); have := hS.1.2; omega)
    rw [em1]
    refine wp_aload_n (v := ((138 : Nat) : Int)) rfl (Int.natCast_nonneg _) ?_
    refine wp_iload_n (v := v1) rfl ?_
    obtain ⟨x3, e4, h⟩ := d_bind h
    refine y_callV (as := [(0, v1)]) (S1 := []) (Nat.le_of_ble_eq_true rfl) (by omega) (t_X13_isFolk s2 e4) (Nat.le_of_ble_eq_true rfl) rfl (show ash 138 = (13, 38) from rfl) (Nat.lt_of_lt_of_le (show 138 < 154 by decide) hS.1.1) (Nat.le_of_ble_eq_true rfl) (Nat.le_of_ble_eq_true rfl) rfl ?_
    refine wp_if_eq (fun c5 => ?_) (fun c5 => ?_)
    · rw [if_pos c5] at h
      refine y_blk (t := 21) rfl (show fnd bk_X13_walk 21 = some _ from rfl) aB_X13_walk ?_
      refine wp_aload_n (v := ((138 : Nat) : Int)) rfl (Int.natCast_nonneg _) ?_
      refine wp_iconst ⟨by decide, by decide⟩ ?_
      obtain ⟨x6, e7, h⟩ := d_bind h
      obtain ⟨r8, s9⟩ := t_X13_denied s2 e7
      refine y_callV (as := [(0, 1)]) (S1 := []) (Nat.le_of_ble_eq_true rfl) (by omega) r8 (Nat.le_of_ble_eq_true rfl) rfl (show ash 138 = (13, 38) from rfl) (Nat.lt_of_lt_of_le (show 138 < 154 by decide) hS.1.1) (Nat.le_of_ble_eq_true rfl) (Nat.le_of_ble_eq_true rfl) rfl ?_
      obtain ⟨c10, h⟩ := d_ite h
      cases h
      exact y_ret0 (Or.inr c10) ⟨rfl, rfl, s9⟩
    · rw [if_neg c5] at h
      refine wp_aload_n (v := ((138 : Nat) : Int)) rfl (Int.natCast_nonneg _) ?_
      refine wp_iload_n (v := v2) rfl ?_
      obtain ⟨x11, e12, h⟩ := d_bind h
      refine y_callV (as := [(0, v2)]) (S1 := []) (Nat.le_of_ble_eq_true rfl) (by omega) (t_X13_isCave s2 e12) (Nat.le_of_ble_eq_true rfl) rfl (show ash 138 = (13, 38) from rfl) (Nat.lt_of_lt_of_le (show 138 < 154 by decide) hS.1.1) (Nat.le_of_ble_eq_true rfl) (Nat.le_of_ble_eq_true rfl) rfl ?_
      refine y_nez (fun c13 => ?_) (fun c13 => ?_)
      · rw [if_neg c13] at h
        refine y_blk (t := 27) rfl (show fnd bk_X13_walk 27 = some _ from rfl) aB_X13_walk ?_
        refine wp_aload_n (v := ((138 : Nat) : Int)) rfl (Int.natCast_nonneg _) ?_
        obtain ⟨x14, e15, h⟩ := d_bind h
        obtain ⟨r16, s17⟩ := t_X13_works s2 e15
        refine y_callVv (as := []) (S1 := []) (Nat.le_of_ble_eq_true rfl) (by omega) r16 rfl (show ash 138 = (13, 38) from rfl) (Nat.lt_of_lt_of_le (show 138 < 154 by decide) hS.1.1) (Nat.le_of_ble_eq_true rfl) (Nat.le_of_ble_eq_true rfl) rfl ?_
        refine wp_aload_n (v := ((138 : Nat) : Int)) rfl (Int.natCast_nonneg _) ?_
        refine y_get (show ash 138 = (13, 38) from rfl) (Nat.lt_of_lt_of_le (show 138 < 154 by decide) hS.1.1) (v := ((145 : Nat) : Int)) (s17.at 138 23 145 (by decide +kernel)) rfl ?_
        refine wp_aload_n (v := ((138 : Nat) : Int)) rfl (Int.natCast_nonneg _) ?_
        refine y_get (show ash 138 = (13, 38) from rfl) (Nat.lt_of_lt_of_le (show 138 < 154 by decide) hS.1.1) (v := ((140 : Nat) : Int)) (s17.at 138 16 140 (by decide +kernel)) rfl ?_
        refine wp_bipush (by decide) ?_
        refine wp_iload_n (v := v1) rfl ?_
        obtain ⟨c18, h⟩ := d_ite h
        refine wp_iadd c18 ?_
        obtain ⟨c19, h⟩ := d_ite h
        refine y_iald (show ash 140 = (100, 12) from rfl) (Or.inl (Nat.lt_of_lt_of_le (show 140 < 154 by decide) hS.1.1)) (Nat.ne_of_lt (Nat.lt_of_lt_of_le (Nat.lt_of_lt_of_le (show 140 < 154 by decide) hS.1.1) hS.1.2)) c19 (v := x14.2 140 ((6 + v1)).toNat) rfl ?_
        obtain ⟨c20, h⟩ := d_ite h
        refine y_iald (show ash 145 = (100, 8) from rfl) (Or.inl (Nat.lt_of_lt_of_le (show 145 < 154 by decide) hS.1.1)) (Nat.ne_of_lt (Nat.lt_of_lt_of_le (Nat.lt_of_lt_of_le (show 145 < 154 by decide) hS.1.1) hS.1.2)) c20 (v := x14.2 145 ((x14.2 140 ((6 + v1)).toNat)).toNat) rfl ?_
        refine wp_iload_n (v := v2) rfl ?_
        obtain ⟨x21, e22, h⟩ := d_bind h
        refine y_callS (as := [(0, (x14.2 145 ((x14.2 140 ((6 + v1)).toNat)).toNat)), (0, v2)]) (S1 := []) (Nat.le_of_ble_eq_true rfl) (by omega) (t_X13_bit s17 e22) (Nat.le_of_ble_eq_true rfl) rfl (Nat.le_of_ble_eq_true rfl) (Nat.le_of_ble_eq_true rfl) rfl ?_
        refine y_nez (fun c23 => ?_) (fun c23 => ?_)
        · rw [if_neg c23] at h
          refine y_blk (t := 58) rfl (show fnd bk_X13_walk 58 = some _ from rfl) aB_X13_walk ?_
          refine wp_aload_n (v := ((138 : Nat) : Int)) rfl (Int.natCast_nonneg _) ?_
          obtain ⟨x24, e25, h⟩ := d_bind h
          obtain ⟨r26, s27⟩ := t_X13_remembers s17 e25
          refine y_callVv (as := []) (S1 := []) (Nat.le_of_ble_eq_true rfl) (by omega) r26 rfl (show ash 138 = (13, 38) from rfl) (Nat.lt_of_lt_of_le (show 138 < 154 by decide) hS.1.1) (Nat.le_of_ble_eq_true rfl) (Nat.le_of_ble_eq_true rfl) rfl ?_
          refine wp_aload_n (v := ((138 : Nat) : Int)) rfl (Int.natCast_nonneg _) ?_
          refine y_get (show ash 138 = (13, 38) from rfl) (Nat.lt_of_lt_of_le (show 138 < 154 by decide) hS.1.1) (v := ((140 : Nat) : Int)) (s27.at 138 16 140 (by decide +kernel)) rfl ?_
          refine wp_bipush (by decide) ?_
          refine wp_iload_n (v := v1) rfl ?_
          refine wp_iadd c18 ?_
          refine wp_iload_n (v := v2) rfl ?_
          refine y_iast (show ash 140 = (100, 12) from rfl) (Nat.lt_of_lt_of_le (show 140 < 154 by decide) hS.1.1) c19 ?_
          obtain ⟨m28, em28, h⟩ := d_bind h
          have em28 := Option.some.inj em28
          have s29 : Sh T.1 m28 := em28 ▸ s27.up (Or.inl ⟨by rw [(show ash 140 = (100, 12) from rfl)]; exact Nat.le_of_ble_eq_true rfl, by rw [(show ash 140 = (100, 12) from rfl)]; exact Nat.le_of_ble_eq_true rfl⟩) (by have := (Nat.lt_of_lt_of_le (show 140 < 154 by decide) hS.1.1); have := hS.1.2; omega)
          rw [em28]
          refine wp_aload_n (v := ((138 : Nat) : Int)) rfl (Int.natCast_nonneg _) ?_
          obtain ⟨x30, e31, h⟩ := d_bind h
          obtain ⟨r32, s33⟩ := t_X13_granted s29 e31
          refine y_callV (as := []) (S1 := []) (Nat.le_of_ble_eq_true rfl) (by omega) r32 (Nat.le_of_ble_eq_true rfl) rfl (show ash 138 = (13, 38) from rfl) (Nat.lt_of_lt_of_le (show 138 < 154 by decide) hS.1.1) (Nat.le_of_ble_eq_true rfl) (Nat.le_of_ble_eq_true rfl) rfl ?_
          obtain ⟨c34, h⟩ := d_ite h
          cases h
          exact y_ret0 (Or.inr c34) ⟨rfl, rfl, s33⟩
        · rw [if_pos c23] at h
          refine wp_aload_n (v := ((138 : Nat) : Int)) rfl (Int.natCast_nonneg _) ?_
          refine wp_iconst ⟨by decide, by decide⟩ ?_
          obtain ⟨x35, e36, h⟩ := d_bind h
          obtain ⟨r37, s38⟩ := t_X13_denied s17 e36
          refine y_callV (as := [(0, 5)]) (S1 := []) (Nat.le_of_ble_eq_true rfl) (by omega) r37 (Nat.le_of_ble_eq_true rfl) rfl (show ash 138 = (13, 38) from rfl) (Nat.lt_of_lt_of_le (show 138 < 154 by decide) hS.1.1) (Nat.le_of_ble_eq_true rfl) (Nat.le_of_ble_eq_true rfl) rfl ?_
          obtain ⟨c39, h⟩ := d_ite h
          cases h
          exact y_ret0 (Or.inr c39) ⟨rfl, rfl, s38⟩
      · rw [if_pos c13] at h
        refine y_blk (t := 21) rfl (show fnd bk_X13_walk 21 = some _ from rfl) aB_X13_walk ?_
        refine wp_aload_n (v := ((138 : Nat) : Int)) rfl (Int.natCast_nonneg _) ?_
        refine wp_iconst ⟨by decide, by decide⟩ ?_
        obtain ⟨x40, e41, h⟩ := d_bind h
        obtain ⟨r42, s43⟩ := t_X13_denied s2 e41
        refine y_callV (as := [(0, 1)]) (S1 := []) (Nat.le_of_ble_eq_true rfl) (by omega) r42 (Nat.le_of_ble_eq_true rfl) rfl (show ash 138 = (13, 38) from rfl) (Nat.lt_of_lt_of_le (show 138 < 154 by decide) hS.1.1) (Nat.le_of_ble_eq_true rfl) (Nat.le_of_ble_eq_true rfl) rfl ?_
        obtain ⟨c44, h⟩ := d_ite h
        cases h
        exact y_ret0 (Or.inr c44) ⟨rfl, rfl, s43⟩
  exact ⟨fun d hd => Ms.of3 (key d hd), Ms.sh (key 3 (Nat.le_refl _))⟩
theorem aB_X13_turnsOver : ∀ pc, aB 324 pc = fnd bk_X13_turnsOver pc := fun _ => rfl
def f_X13_turnsOver (T : Nat) (v1 : Int) (M : aM) : Option (Int × aM) :=
 (f_X13_remembers T M).bind fun x1 =>
 (some (aup x1.2 140 10 (axor (x1.2 140 10) (ashl 1 v1)))).bind fun m5 =>
 some (0, m5)
theorem t_X13_turnsOver {T : T3} {v1 : Int} {M : aM} {y : (Int × aM)}  (hS : Sh T.1 M) (h : f_X13_turnsOver T.1 v1 M = some y) : Mr 1 324 [(2, ((138 : Nat) : Int)), (0, v1)] M (none) y.2 T ∧ Sh T.1 y.2 := by
  have key : ∀ d, 1 ≤ d → Wp d 324 0 [] [(2, ((138 : Nat) : Int)), (0, v1)] [] (M, T) (fun r2 σ2 => r2 = none ∧ σ2 = (y.2, T) ∧ Sh T.1 y.2) := by
    intro d hd
    rw [f_X13_turnsOver] at h
    refine y_blk (t := 0) rfl (show fnd bk_X13_turnsOver 0 = some _ from rfl) aB_X13_turnsOver ?_
    refine wp_aload_n (v := ((138 : Nat) : Int)) rfl (Int.natCast_nonneg _) ?_
    obtain ⟨x1, e2, h⟩ := d_bind h
    obtain ⟨r3, s4⟩ := t_X13_remembers hS e2
    refine y_callVv (as := []) (S1 := []) (Nat.le_of_ble_eq_true rfl) (by omega) r3 rfl (show ash 138 = (13, 38) from rfl) (Nat.lt_of_lt_of_le (show 138 < 154 by decide) hS.1.1) (Nat.le_of_ble_eq_true rfl) (Nat.le_of_ble_eq_true rfl) rfl ?_
    refine wp_aload_n (v := ((138 : Nat) : Int)) rfl (Int.natCast_nonneg _) ?_
    refine y_get (show ash 138 = (13, 38) from rfl) (Nat.lt_of_lt_of_le (show 138 < 154 by decide) hS.1.1) (v := ((140 : Nat) : Int)) (s4.at 138 16 140 (by decide +kernel)) rfl ?_
    refine wp_bipush (by decide) ?_
    refine wp_dup2 ⟨Or.inl rfl, Or.inr rfl⟩ ?_
    refine y_iald (show ash 140 = (100, 12) from rfl) (Or.inl (Nat.lt_of_lt_of_le (show 140 < 154 by decide) hS.1.1)) (Nat.ne_of_lt (Nat.lt_of_lt_of_le (Nat.lt_of_lt_of_le (show 140 < 154 by decide) hS.1.1) hS.1.2)) ⟨by decide, by decide⟩ (v := x1.2 140 10) rfl ?_
    refine wp_iconst ⟨by decide, by decide⟩ ?_
    refine wp_iload_n (v := v1) rfl ?_
    refine wp_ishl ?_
    refine wp_ixor ?_
    refine y_iast (show ash 140 = (100, 12) from rfl) (Nat.lt_of_lt_of_le (show 140 < 154 by decide) hS.1.1) ⟨by decide, by decide⟩ ?_
    obtain ⟨m5, em5, h⟩ := d_bind h
    have em5 := Option.some.inj em5
    have s6 : Sh T.1 m5 := em5 ▸ s4.up (Or.inl ⟨by rw [(show ash 140 = (100, 12) from rfl)]; exact Nat.le_of_ble_eq_true rfl, by rw [(show ash 140 = (100, 12) from rfl)]; exact Nat.le_of_ble_eq_true rfl⟩) (by have := (Nat.lt_of_lt_of_le (show 140 < 154 by decide) hS.1.1); have := hS.1.2; omega)
    rw [show ((10 : Int)).toNat = 10 from rfl, em5]
    cases h
    exact wp_return ⟨rfl, rfl, s6⟩
  exact ⟨fun d hd => Ms.of3 (key d hd), Ms.sh (key 1 (Nat.le_refl _))⟩
theorem aB_X13_dig : ∀ pc, aB 325 pc = fnd bk_X13_dig pc := fun _ => rfl
def f_X13_dig (T : Nat) (v1 : Int) (M : aM) : Option (Int × aM) :=
 (some (aup M 138 0 0)).bind fun m1 =>
 (f_X13_isWay T v1 m1).bind fun x3 =>
 if x3 = 0 then
 (f_X13_denied T 1 m1).bind fun x23 =>
 if x23.1 = 0 ∨ x23.1 = 1 then
 some (x23.1, x23.2) else none else
 (f_X13_bit T (m1 140 10) v1 m1).bind fun x6 =>
 if x6 = 0 then
 (f_X13_denied T 5 m1).bind fun x18 =>
 if x18.1 = 0 ∨ x18.1 = 1 then
 some (x18.1, x18.2) else none else
 (f_X13_turnsOver T v1 m1).bind fun x9 =>
 (f_X13_granted T x9.2).bind fun x13 =>
 if x13.1 = 0 ∨ x13.1 = 1 then
 some (x13.1, x13.2) else none
theorem t_X13_dig {T : T3} {v1 : Int} {M : aM} {y : (Int × aM)}  (hS : Sh T.1 M) (h : f_X13_dig T.1 v1 M = some y) : Mr 2 325 [(2, ((138 : Nat) : Int)), (0, v1)] M (some (0, y.1)) y.2 T ∧ Sh T.1 y.2 := by
  have key : ∀ d, 2 ≤ d → Wp d 325 0 [] [(2, ((138 : Nat) : Int)), (0, v1)] [] (M, T) (fun r2 σ2 => r2 = some (0, y.1) ∧ σ2 = (y.2, T) ∧ Sh T.1 y.2) := by
    intro d hd
    rw [f_X13_dig] at h
    refine y_blk (t := 0) rfl (show fnd bk_X13_dig 0 = some _ from rfl) aB_X13_dig ?_
    refine wp_aload_n (v := ((138 : Nat) : Int)) rfl (Int.natCast_nonneg _) ?_
    refine wp_iconst ⟨by decide, by decide⟩ ?_
    refine y_put (show ash 138 = (13, 38) from rfl) (Nat.lt_of_lt_of_le (show 138 < 154 by decide) hS.1.1) rfl ?_
    obtain ⟨m1, em1, h⟩ := d_bind h
    have em1 := Option.some.inj em1
    have s2 : Sh T.1 m1 := em1 ▸ hS.up (Or.inr ⟨by rw [(show ash 138 = (13, 38) from rfl)]; decide, by rw [(show ash 138 = (13, 38) from rfl)]; decide⟩) (by have := (Nat.lt_of_lt_of_le (show 138 < 154 by decide) hS.1.1); have := hS.1.2; omega)
    rw [em1]
    refine wp_aload_n (v := ((138 : Nat) : Int)) rfl (Int.natCast_nonneg _) ?_
    refine wp_iload_n (v := v1) rfl ?_
    obtain ⟨x3, e4, h⟩ := d_bind h
    refine y_callV (as := [(0, v1)]) (S1 := []) (Nat.le_of_ble_eq_true rfl) (by omega) (t_X13_isWay s2 e4) (Nat.le_of_ble_eq_true rfl) rfl (show ash 138 = (13, 38) from rfl) (Nat.lt_of_lt_of_le (show 138 < 154 by decide) hS.1.1) (Nat.le_of_ble_eq_true rfl) (Nat.le_of_ble_eq_true rfl) rfl ?_
    refine y_nez (fun c5 => ?_) (fun c5 => ?_)
    · rw [if_neg c5] at h
      refine y_blk (t := 19) rfl (show fnd bk_X13_dig 19 = some _ from rfl) aB_X13_dig ?_
      refine wp_aload_n (v := ((138 : Nat) : Int)) rfl (Int.natCast_nonneg _) ?_
      refine y_get (show ash 138 = (13, 38) from rfl) (Nat.lt_of_lt_of_le (show 138 < 154 by decide) hS.1.1) (v := ((140 : Nat) : Int)) (s2.at 138 16 140 (by decide +kernel)) rfl ?_
      refine wp_bipush (by decide) ?_
      refine y_iald (show ash 140 = (100, 12) from rfl) (Or.inl (Nat.lt_of_lt_of_le (show 140 < 154 by decide) hS.1.1)) (Nat.ne_of_lt (Nat.lt_of_lt_of_le (Nat.lt_of_lt_of_le (show 140 < 154 by decide) hS.1.1) hS.1.2)) ⟨by decide, by decide⟩ (v := m1 140 10) rfl ?_
      refine wp_iload_n (v := v1) rfl ?_
      obtain ⟨x6, e7, h⟩ := d_bind h
      refine y_callS (as := [(0, (m1 140 10)), (0, v1)]) (S1 := []) (Nat.le_of_ble_eq_true rfl) (by omega) (t_X13_bit s2 e7) (Nat.le_of_ble_eq_true rfl) rfl (Nat.le_of_ble_eq_true rfl) (Nat.le_of_ble_eq_true rfl) rfl ?_
      refine y_nez (fun c8 => ?_) (fun c8 => ?_)
      · rw [if_neg c8] at h
        refine y_blk (t := 39) rfl (show fnd bk_X13_dig 39 = some _ from rfl) aB_X13_dig ?_
        refine wp_aload_n (v := ((138 : Nat) : Int)) rfl (Int.natCast_nonneg _) ?_
        refine wp_iload_n (v := v1) rfl ?_
        obtain ⟨x9, e10, h⟩ := d_bind h
        obtain ⟨r11, s12⟩ := t_X13_turnsOver s2 e10
        refine y_callVv (as := [(0, v1)]) (S1 := []) (Nat.le_of_ble_eq_true rfl) (by omega) r11 rfl (show ash 138 = (13, 38) from rfl) (Nat.lt_of_lt_of_le (show 138 < 154 by decide) hS.1.1) (Nat.le_of_ble_eq_true rfl) (Nat.le_of_ble_eq_true rfl) rfl ?_
        refine wp_aload_n (v := ((138 : Nat) : Int)) rfl (Int.natCast_nonneg _) ?_
        obtain ⟨x13, e14, h⟩ := d_bind h
        obtain ⟨r15, s16⟩ := t_X13_granted s12 e14
        refine y_callV (as := []) (S1 := []) (Nat.le_of_ble_eq_true rfl) (by omega) r15 (Nat.le_of_ble_eq_true rfl) rfl (show ash 138 = (13, 38) from rfl) (Nat.lt_of_lt_of_le (show 138 < 154 by decide) hS.1.1) (Nat.le_of_ble_eq_true rfl) (Nat.le_of_ble_eq_true rfl) rfl ?_
        obtain ⟨c17, h⟩ := d_ite h
        cases h
        exact y_ret0 (Or.inr c17) ⟨rfl, rfl, s16⟩
      · rw [if_pos c8] at h
        refine wp_aload_n (v := ((138 : Nat) : Int)) rfl (Int.natCast_nonneg _) ?_
        refine wp_iconst ⟨by decide, by decide⟩ ?_
        obtain ⟨x18, e19, h⟩ := d_bind h
        obtain ⟨r20, s21⟩ := t_X13_denied s2 e19
        refine y_callV (as := [(0, 5)]) (S1 := []) (Nat.le_of_ble_eq_true rfl) (by omega) r20 (Nat.le_of_ble_eq_true rfl) rfl (show ash 138 = (13, 38) from rfl) (Nat.lt_of_lt_of_le (show 138 < 154 by decide) hS.1.1) (Nat.le_of_ble_eq_true rfl) (Nat.le_of_ble_eq_true rfl) rfl ?_
        obtain ⟨c22, h⟩ := d_ite h
        cases h
        exact y_ret0 (Or.inr c22) ⟨rfl, rfl, s21⟩
    · rw [if_pos c5] at h
      refine wp_aload_n (v := ((138 : Nat) : Int)) rfl (Int.natCast_nonneg _) ?_
      refine wp_iconst ⟨by decide, by decide⟩ ?_
      obtain ⟨x23, e24, h⟩ := d_bind h
      obtain ⟨r25, s26⟩ := t_X13_denied s2 e24
      refine y_callV (as := [(0, 1)]) (S1 := []) (Nat.le_of_ble_eq_true rfl) (by omega) r25 (Nat.le_of_ble_eq_true rfl) rfl (show ash 138 = (13, 38) from rfl) (Nat.lt_of_lt_of_le (show 138 < 154 by decide) hS.1.1) (Nat.le_of_ble_eq_true rfl) (Nat.le_of_ble_eq_true rfl) rfl ?_
      obtain ⟨c27, h⟩ := d_ite h
      cases h
      exact y_ret0 (Or.inr c27) ⟨rfl, rfl, s26⟩
  exact ⟨fun d hd => Ms.of3 (key d hd), Ms.sh (key 2 (Nat.le_refl _))⟩
theorem aB_X13_flood : ∀ pc, aB 326 pc = fnd bk_X13_flood pc := fun _ => rfl
def f_X13_flood (T : Nat) (v1 : Int) (M : aM) : Option (Int × aM) :=
 (some (aup M 138 0 0)).bind fun m1 =>
 (f_X13_isWay T v1 m1).bind fun x3 =>
 if x3 = 0 then
 (f_X13_denied T 1 m1).bind fun x31 =>
 if x31.1 = 0 ∨ x31.1 = 1 then
 some (x31.1, x31.2) else none else
 (f_X13_bit T (m1 140 10) v1 m1).bind fun x6 =>
 if x6 = 0 then
 (f_X13_bits T (m1 140 10) m1).bind fun x9 =>
 if x9 = 6 then
 (f_X13_denied T 3 m1).bind fun x21 =>
 if x21.1 = 0 ∨ x21.1 = 1 then
 some (x21.1, x21.2) else none else
 (f_X13_turnsOver T v1 m1).bind fun x12 =>
 (f_X13_granted T x12.2).bind fun x16 =>
 if x16.1 = 0 ∨ x16.1 = 1 then
 some (x16.1, x16.2) else none else
 (f_X13_denied T 5 m1).bind fun x26 =>
 if x26.1 = 0 ∨ x26.1 = 1 then
 some (x26.1, x26.2) else none
theorem t_X13_flood {T : T3} {v1 : Int} {M : aM} {y : (Int × aM)}  (hS : Sh T.1 M) (h : f_X13_flood T.1 v1 M = some y) : Mr 2 326 [(2, ((138 : Nat) : Int)), (0, v1)] M (some (0, y.1)) y.2 T ∧ Sh T.1 y.2 := by
  have key : ∀ d, 2 ≤ d → Wp d 326 0 [] [(2, ((138 : Nat) : Int)), (0, v1)] [] (M, T) (fun r2 σ2 => r2 = some (0, y.1) ∧ σ2 = (y.2, T) ∧ Sh T.1 y.2) := by
    intro d hd
    rw [f_X13_flood] at h
    refine y_blk (t := 0) rfl (show fnd bk_X13_flood 0 = some _ from rfl) aB_X13_flood ?_
    refine wp_aload_n (v := ((138 : Nat) : Int)) rfl (Int.natCast_nonneg _) ?_
    refine wp_iconst ⟨by decide, by decide⟩ ?_
    refine y_put (show ash 138 = (13, 38) from rfl) (Nat.lt_of_lt_of_le (show 138 < 154 by decide) hS.1.1) rfl ?_
    obtain ⟨m1, em1, h⟩ := d_bind h
    have em1 := Option.some.inj em1
    have s2 : Sh T.1 m1 := em1 ▸ hS.up (Or.inr ⟨by rw [(show ash 138 = (13, 38) from rfl)]; decide, by rw [(show ash 138 = (13, 38) from rfl)]; decide⟩) (by have := (Nat.lt_of_lt_of_le (show 138 < 154 by decide) hS.1.1); have := hS.1.2; omega)
    rw [em1]
    refine wp_aload_n (v := ((138 : Nat) : Int)) rfl (Int.natCast_nonneg _) ?_
    refine wp_iload_n (v := v1) rfl ?_
    obtain ⟨x3, e4, h⟩ := d_bind h
    refine y_callV (as := [(0, v1)]) (S1 := []) (Nat.le_of_ble_eq_true rfl) (by omega) (t_X13_isWay s2 e4) (Nat.le_of_ble_eq_true rfl) rfl (show ash 138 = (13, 38) from rfl) (Nat.lt_of_lt_of_le (show 138 < 154 by decide) hS.1.1) (Nat.le_of_ble_eq_true rfl) (Nat.le_of_ble_eq_true rfl) rfl ?_
    refine y_nez (fun c5 => ?_) (fun c5 => ?_)
    · rw [if_neg c5] at h
      refine y_blk (t := 19) rfl (show fnd bk_X13_flood 19 = some _ from rfl) aB_X13_flood ?_
      refine wp_aload_n (v := ((138 : Nat) : Int)) rfl (Int.natCast_nonneg _) ?_
      refine y_get (show ash 138 = (13, 38) from rfl) (Nat.lt_of_lt_of_le (show 138 < 154 by decide) hS.1.1) (v := ((140 : Nat) : Int)) (s2.at 138 16 140 (by decide +kernel)) rfl ?_
      refine wp_bipush (by decide) ?_
      refine y_iald (show ash 140 = (100, 12) from rfl) (Or.inl (Nat.lt_of_lt_of_le (show 140 < 154 by decide) hS.1.1)) (Nat.ne_of_lt (Nat.lt_of_lt_of_le (Nat.lt_of_lt_of_le (show 140 < 154 by decide) hS.1.1) hS.1.2)) ⟨by decide, by decide⟩ (v := m1 140 10) rfl ?_
      refine wp_iload_n (v := v1) rfl ?_
      obtain ⟨x6, e7, h⟩ := d_bind h
      refine y_callS (as := [(0, (m1 140 10)), (0, v1)]) (S1 := []) (Nat.le_of_ble_eq_true rfl) (by omega) (t_X13_bit s2 e7) (Nat.le_of_ble_eq_true rfl) rfl (Nat.le_of_ble_eq_true rfl) (Nat.le_of_ble_eq_true rfl) rfl ?_
      refine wp_if_eq (fun c8 => ?_) (fun c8 => ?_)
      · rw [if_pos c8] at h
        refine y_blk (t := 39) rfl (show fnd bk_X13_flood 39 = some _ from rfl) aB_X13_flood ?_
        refine wp_aload_n (v := ((138 : Nat) : Int)) rfl (Int.natCast_nonneg _) ?_
        refine y_get (show ash 138 = (13, 38) from rfl) (Nat.lt_of_lt_of_le (show 138 < 154 by decide) hS.1.1) (v := ((140 : Nat) : Int)) (s2.at 138 16 140 (by decide +kernel)) rfl ?_
        refine wp_bipush (by decide) ?_
        refine y_iald (show ash 140 = (100, 12) from rfl) (Or.inl (Nat.lt_of_lt_of_le (show 140 < 154 by decide) hS.1.1)) (Nat.ne_of_lt (Nat.lt_of_lt_of_le (Nat.lt_of_lt_of_le (show 140 < 154 by decide) hS.1.1) hS.1.2)) ⟨by decide, by decide⟩ (v := m1 140 10) rfl ?_
        obtain ⟨x9, e10, h⟩ := d_bind h
        refine y_callS (as := [(0, (m1 140 10))]) (S1 := []) (Nat.le_of_ble_eq_true rfl) (by omega) (t_X13_bits s2 e10) (Nat.le_of_ble_eq_true rfl) rfl (Nat.le_of_ble_eq_true rfl) (Nat.le_of_ble_eq_true rfl) rfl ?_
        refine wp_bipush (by decide) ?_
        refine y_ne (fun c11 => ?_) (fun c11 => ?_)
        · rw [if_neg c11] at h
          refine y_blk (t := 60) rfl (show fnd bk_X13_flood 60 = some _ from rfl) aB_X13_flood ?_
          refine wp_aload_n (v := ((138 : Nat) : Int)) rfl (Int.natCast_nonneg _) ?_
          refine wp_iload_n (v := v1) rfl ?_
          obtain ⟨x12, e13, h⟩ := d_bind h
          obtain ⟨r14, s15⟩ := t_X13_turnsOver s2 e13
          refine y_callVv (as := [(0, v1)]) (S1 := []) (Nat.le_of_ble_eq_true rfl) (by omega) r14 rfl (show ash 138 = (13, 38) from rfl) (Nat.lt_of_lt_of_le (show 138 < 154 by decide) hS.1.1) (Nat.le_of_ble_eq_true rfl) (Nat.le_of_ble_eq_true rfl) rfl ?_
          refine wp_aload_n (v := ((138 : Nat) : Int)) rfl (Int.natCast_nonneg _) ?_
          obtain ⟨x16, e17, h⟩ := d_bind h
          obtain ⟨r18, s19⟩ := t_X13_granted s15 e17
          refine y_callV (as := []) (S1 := []) (Nat.le_of_ble_eq_true rfl) (by omega) r18 (Nat.le_of_ble_eq_true rfl) rfl (show ash 138 = (13, 38) from rfl) (Nat.lt_of_lt_of_le (show 138 < 154 by decide) hS.1.1) (Nat.le_of_ble_eq_true rfl) (Nat.le_of_ble_eq_true rfl) rfl ?_
          obtain ⟨c20, h⟩ := d_ite h
          cases h
          exact y_ret0 (Or.inr c20) ⟨rfl, rfl, s19⟩
        · rw [if_pos c11] at h
          refine wp_aload_n (v := ((138 : Nat) : Int)) rfl (Int.natCast_nonneg _) ?_
          refine wp_iconst ⟨by decide, by decide⟩ ?_
          obtain ⟨x21, e22, h⟩ := d_bind h
          obtain ⟨r23, s24⟩ := t_X13_denied s2 e22
          refine y_callV (as := [(0, 3)]) (S1 := []) (Nat.le_of_ble_eq_true rfl) (by omega) r23 (Nat.le_of_ble_eq_true rfl) rfl (show ash 138 = (13, 38) from rfl) (Nat.lt_of_lt_of_le (show 138 < 154 by decide) hS.1.1) (Nat.le_of_ble_eq_true rfl) (Nat.le_of_ble_eq_true rfl) rfl ?_
          obtain ⟨c25, h⟩ := d_ite h
          cases h
          exact y_ret0 (Or.inr c25) ⟨rfl, rfl, s24⟩
      · rw [if_neg c8] at h
        refine wp_aload_n (v := ((138 : Nat) : Int)) rfl (Int.natCast_nonneg _) ?_
        refine wp_iconst ⟨by decide, by decide⟩ ?_
        obtain ⟨x26, e27, h⟩ := d_bind h
        obtain ⟨r28, s29⟩ := t_X13_denied s2 e27
        refine y_callV (as := [(0, 5)]) (S1 := []) (Nat.le_of_ble_eq_true rfl) (by omega) r28 (Nat.le_of_ble_eq_true rfl) rfl (show ash 138 = (13, 38) from rfl) (Nat.lt_of_lt_of_le (show 138 < 154 by decide) hS.1.1) (Nat.le_of_ble_eq_true rfl) (Nat.le_of_ble_eq_true rfl) rfl ?_
        obtain ⟨c30, h⟩ := d_ite h
        cases h
        exact y_ret0 (Or.inr c30) ⟨rfl, rfl, s29⟩
    · rw [if_pos c5] at h
      refine wp_aload_n (v := ((138 : Nat) : Int)) rfl (Int.natCast_nonneg _) ?_
      refine wp_iconst ⟨by decide, by decide⟩ ?_
      obtain ⟨x31, e32, h⟩ := d_bind h
      obtain ⟨r33, s34⟩ := t_X13_denied s2 e32
      refine y_callV (as := [(0, 1)]) (S1 := []) (Nat.le_of_ble_eq_true rfl) (by omega) r33 (Nat.le_of_ble_eq_true rfl) rfl (show ash 138 = (13, 38) from rfl) (Nat.lt_of_lt_of_le (show 138 < 154 by decide) hS.1.1) (Nat.le_of_ble_eq_true rfl) (Nat.le_of_ble_eq_true rfl) rfl ?_
      obtain ⟨c35, h⟩ := d_ite h
      cases h
      exact y_ret0 (Or.inr c35) ⟨rfl, rfl, s34⟩
  exact ⟨fun d hd => Ms.of3 (key d hd), Ms.sh (key 2 (Nat.le_refl _))⟩
theorem aB_X13_undo : ∀ pc, aB 327 pc = fnd bk_X13_undo pc := fun _ => rfl
def l_X13_undo_38 (T : Nat)  (k : Int → aM → Option (Int × aM)) : Nat → Int → aM → Option (Int × aM)
| 0, _, _ => none
| n + 1, v1, M =>
 if 12 ≤ v1 then
 k v1 M else
 if aIn (12 * (M 138 20)) then
 if aIn ((12 * (M 138 20)) + v1) then
 if 0 ≤ ((12 * (M 138 20)) + v1) ∧ ((12 * (M 138 20)) + v1) < 192 then
 if 0 ≤ v1 ∧ v1 < 12 then
 (some (aup M 140 (v1).toNat (M 142 (((12 * (M 138 20)) + v1)).toNat))).bind fun m18 =>
 if aIn (v1 + 1) then
 l_X13_undo_38 T k n (v1 + 1) m18 else none else none else none else none else none
theorem tl_X13_undo_38 {d : Nat} (hd : 2 ≤ d) {T : T3}  {k : Int → aM → Option (Int × aM)} {y : (Int × aM)}  {M0 : aM} (hS : Sh T.1 M0)
    (hk : ∀ (v1 : Int) (M : aM), Sh T.1 M → k v1 M = some y → Wp d 327 70 [] [(2, ((138 : Nat) : Int)), (0, v1)] [] (M, T) (fun r2 σ2 => r2 = some (0, y.1) ∧ σ2 = (y.2, T) ∧ Sh T.1 y.2)) :
    ∀ (n : Nat) (v1 : Int) (M : aM), Sh T.1 M → l_X13_undo_38 T.1 k n v1 M = some y → Wp d 327 38 [] [(2, ((138 : Nat) : Int)), (0, v1)] [] (M, T) (fun r2 σ2 => r2 = some (0, y.1) ∧ σ2 = (y.2, T) ∧ Sh T.1 y.2) := by
  intro n
  induction n with
  | zero =>
    intro v1 M _ h
    exact nomatch (show (none : Option (Int × aM)) = some y from h)
  | succ n ih =>
    intro v1 M sM h
    rw [l_X13_undo_38] at h
    refine y_blk (t := 38) rfl (show fnd bk_X13_undo 38 = some _ from rfl) aB_X13_undo ?_
    refine wp_iload_n (v := v1) rfl ?_
    refine wp_bipush (by decide) ?_
    refine wp_icmp_ge (fun c13 => ?_) (fun c13 => ?_)
    · rw [if_pos c13] at h
      exact hk v1  M sM h
    · rw [if_neg c13] at h
      refine wp_aload_n (v := ((138 : Nat) : Int)) rfl (Int.natCast_nonneg _) ?_
      refine y_get (show ash 138 = (13, 38) from rfl) (Nat.lt_of_lt_of_le (show 138 < 154 by decide) hS.1.1) (v := ((140 : Nat) : Int)) (sM.at 138 16 140 (by decide +kernel)) rfl ?_
      refine wp_iload_n (v := v1) rfl ?_
      refine wp_aload_n (v := ((138 : Nat) : Int)) rfl (Int.natCast_nonneg _) ?_
      refine y_get (show ash 138 = (13, 38) from rfl) (Nat.lt_of_lt_of_le (show 138 < 154 by decide) hS.1.1) (v := ((142 : Nat) : Int)) (sM.at 138 18 142 (by decide +kernel)) rfl ?_
      refine wp_bipush (by decide) ?_
      refine wp_aload_n (v := ((138 : Nat) : Int)) rfl (Int.natCast_nonneg _) ?_
      refine y_get (show ash 138 = (13, 38) from rfl) (Nat.lt_of_lt_of_le (show 138 < 154 by decide) hS.1.1) (v := M 138 20) rfl rfl ?_
      obtain ⟨c14, h⟩ := d_ite h
      refine wp_imul c14 ?_
      refine wp_iload_n (v := v1) rfl ?_
      obtain ⟨c15, h⟩ := d_ite h
      refine wp_iadd c15 ?_
      obtain ⟨c16, h⟩ := d_ite h
      refine y_iald (show ash 142 = (100, 192) from rfl) (Or.inl (Nat.lt_of_lt_of_le (show 142 < 154 by decide) hS.1.1)) (Nat.ne_of_lt (Nat.lt_of_lt_of_le (Nat.lt_of_lt_of_le (show 142 < 154 by decide) hS.1.1) hS.1.2)) c16 (v := M 142 (((12 * (M 138 20)) + v1)).toNat) rfl ?_
      obtain ⟨c17, h⟩ := d_ite h
      refine y_iast (show ash 140 = (100, 12) from rfl) (Nat.lt_of_lt_of_le (show 140 < 154 by decide) hS.1.1) c17 ?_
      obtain ⟨m18, em18, h⟩ := d_bind h
      have em18 := Option.some.inj em18
      have s19 : Sh T.1 m18 := em18 ▸ sM.up (Or.inl ⟨by rw [(show ash 140 = (100, 12) from rfl)]; exact Nat.le_of_ble_eq_true rfl, by rw [(show ash 140 = (100, 12) from rfl)]; exact Nat.le_of_ble_eq_true rfl⟩) (by have := (Nat.lt_of_lt_of_le (show 140 < 154 by decide) hS.1.1); have := hS.1.2; omega)
      rw [em18]
      obtain ⟨c20, h⟩ := d_ite h
      refine y_iinc (L1 := [(2, ((138 : Nat) : Int)), (0, (v1 + 1))]) rfl (Nat.le_of_ble_eq_true rfl) ⟨by decide, by decide⟩ c20 rfl ?_
      refine wp_goto ?_
      exact ih (v1 + 1)  m18 s19 h
def f_X13_undo (T : Nat)  (M : aM) : Option (Int × aM) :=
 (some (aup M 138 0 0)).bind fun m1 =>
 if m1 138 3 < 0 then
 (f_X13_denied T 6 m1).bind fun x4 =>
 if x4.1 = 0 ∨ x4.1 = 1 then
 some (x4.1, x4.2) else none else
 if (m1 138 20) = 0 then
 (f_X13_denied T 6 m1).bind fun x29 =>
 if x29.1 = 0 ∨ x29.1 = 1 then
 some (x29.1, x29.2) else none else
 if aIn ((m1 138 20) - 1) then
 (some (aup m1 138 20 ((m1 138 20) - 1))).bind fun m11 =>
 l_X13_undo_38 T (fun w21 m22 =>
 (f_X13_granted T m22).bind fun x24 =>
 if x24.1 = 0 ∨ x24.1 = 1 then
 some (x24.1, x24.2) else none) FU 0 m11 else none
theorem t_X13_undo {T : T3}  {M : aM} {y : (Int × aM)}  (hS : Sh T.1 M) (h : f_X13_undo T.1  M = some y) : Mr 2 327 [(2, ((138 : Nat) : Int))] M (some (0, y.1)) y.2 T ∧ Sh T.1 y.2 := by
  have key : ∀ d, 2 ≤ d → Wp d 327 0 [] [(2, ((138 : Nat) : Int)), (9, 0)] [] (M, T) (fun r2 σ2 => r2 = some (0, y.1) ∧ σ2 = (y.2, T) ∧ Sh T.1 y.2) := by
    intro d hd
    rw [f_X13_undo] at h
    refine y_blk (t := 0) rfl (show fnd bk_X13_undo 0 = some _ from rfl) aB_X13_undo ?_
    refine wp_aload_n (v := ((138 : Nat) : Int)) rfl (Int.natCast_nonneg _) ?_
    refine wp_iconst ⟨by decide, by decide⟩ ?_
    refine y_put (show ash 138 = (13, 38) from rfl) (Nat.lt_of_lt_of_le (show 138 < 154 by decide) hS.1.1) rfl ?_
    obtain ⟨m1, em1, h⟩ := d_bind h
    have em1 := Option.some.inj em1
    have s2 : Sh T.1 m1 := em1 ▸ hS.up (Or.inr ⟨by rw [(show ash 138 = (13, 38) from rfl)]; decide, by rw [(show ash 138 = (13, 38) from rfl)]; decide⟩) (by have := (Nat.lt_of_lt_of_le (show 138 < 154 by decide) hS.1.1); have := hS.1.2; omega)
    rw [em1]
    refine wp_aload_n (v := ((138 : Nat) : Int)) rfl (Int.natCast_nonneg _) ?_
    refine y_get (show ash 138 = (13, 38) from rfl) (Nat.lt_of_lt_of_le (show 138 < 154 by decide) hS.1.1) (v := m1 138 3) rfl rfl ?_
    refine wp_ifnull (fun c3 => ?_) (fun c3 => ?_)
    · rw [if_pos c3] at h
      refine y_blk (t := 19) rfl (show fnd bk_X13_undo 19 = some _ from rfl) aB_X13_undo ?_
      refine wp_aload_n (v := ((138 : Nat) : Int)) rfl (Int.natCast_nonneg _) ?_
      refine wp_bipush (by decide) ?_
      obtain ⟨x4, e5, h⟩ := d_bind h
      obtain ⟨r6, s7⟩ := t_X13_denied s2 e5
      refine y_callV (as := [(0, 6)]) (S1 := []) (Nat.le_of_ble_eq_true rfl) (by omega) r6 (Nat.le_of_ble_eq_true rfl) rfl (show ash 138 = (13, 38) from rfl) (Nat.lt_of_lt_of_le (show 138 < 154 by decide) hS.1.1) (Nat.le_of_ble_eq_true rfl) (Nat.le_of_ble_eq_true rfl) rfl ?_
      obtain ⟨c8, h⟩ := d_ite h
      cases h
      exact y_ret0 (Or.inr c8) ⟨rfl, rfl, s7⟩
    · rw [if_neg c3] at h
      refine wp_aload_n (v := ((138 : Nat) : Int)) rfl (Int.natCast_nonneg _) ?_
      refine y_get (show ash 138 = (13, 38) from rfl) (Nat.lt_of_lt_of_le (show 138 < 154 by decide) hS.1.1) (v := m1 138 20) rfl rfl ?_
      refine y_nez (fun c9 => ?_) (fun c9 => ?_)
      · rw [if_neg c9] at h
        refine y_blk (t := 26) rfl (show fnd bk_X13_undo 26 = some _ from rfl) aB_X13_undo ?_
        refine wp_aload_n (v := ((138 : Nat) : Int)) rfl (Int.natCast_nonneg _) ?_
        refine wp_dup (Or.inr rfl) ?_
        refine y_get (show ash 138 = (13, 38) from rfl) (Nat.lt_of_lt_of_le (show 138 < 154 by decide) hS.1.1) (v := m1 138 20) rfl rfl ?_
        refine wp_iconst ⟨by decide, by decide⟩ ?_
        obtain ⟨c10, h⟩ := d_ite h
        refine wp_isub c10 ?_
        refine y_put (show ash 138 = (13, 38) from rfl) (Nat.lt_of_lt_of_le (show 138 < 154 by decide) hS.1.1) rfl ?_
        obtain ⟨m11, em11, h⟩ := d_bind h
        have em11 := Option.some.inj em11
        have s12 : Sh T.1 m11 := em11 ▸ s2.up (Or.inr ⟨by rw [(show ash 138 = (13, 38) from rfl)]; decide, by rw [(show ash 138 = (13, 38) from rfl)]; decide⟩) (by have := (Nat.lt_of_lt_of_le (show 138 < 154 by decide) hS.1.1); have := hS.1.2; omega)
        rw [em11]
        refine wp_iconst ⟨by decide, by decide⟩ ?_
        refine y_stn (L1 := [(2, ((138 : Nat) : Int)), (0, 0)]) (Nat.le_of_ble_eq_true rfl) rfl ?_
        refine tl_X13_undo_38 (by omega) hS (fun w21  m22 s23 h => ?_) FU 0  m11 s12 h
        refine y_blk (t := 70) rfl (show fnd bk_X13_undo 70 = some _ from rfl) aB_X13_undo ?_
        refine wp_aload_n (v := ((138 : Nat) : Int)) rfl (Int.natCast_nonneg _) ?_
        obtain ⟨x24, e25, h⟩ := d_bind h
        obtain ⟨r26, s27⟩ := t_X13_granted s23 e25
        refine y_callV (as := []) (S1 := []) (Nat.le_of_ble_eq_true rfl) (by omega) r26 (Nat.le_of_ble_eq_true rfl) rfl (show ash 138 = (13, 38) from rfl) (Nat.lt_of_lt_of_le (show 138 < 154 by decide) hS.1.1) (Nat.le_of_ble_eq_true rfl) (Nat.le_of_ble_eq_true rfl) rfl ?_
        obtain ⟨c28, h⟩ := d_ite h
        cases h
        exact y_ret0 (Or.inr c28) ⟨rfl, rfl, s27⟩
      · rw [if_pos c9] at h
        refine y_blk (t := 19) rfl (show fnd bk_X13_undo 19 = some _ from rfl) aB_X13_undo ?_
        refine wp_aload_n (v := ((138 : Nat) : Int)) rfl (Int.natCast_nonneg _) ?_
        refine wp_bipush (by decide) ?_
        obtain ⟨x29, e30, h⟩ := d_bind h
        obtain ⟨r31, s32⟩ := t_X13_denied s2 e30
        refine y_callV (as := [(0, 6)]) (S1 := []) (Nat.le_of_ble_eq_true rfl) (by omega) r31 (Nat.le_of_ble_eq_true rfl) rfl (show ash 138 = (13, 38) from rfl) (Nat.lt_of_lt_of_le (show 138 < 154 by decide) hS.1.1) (Nat.le_of_ble_eq_true rfl) (Nat.le_of_ble_eq_true rfl) rfl ?_
        obtain ⟨c33, h⟩ := d_ite h
        cases h
        exact y_ret0 (Or.inr c33) ⟨rfl, rfl, s32⟩
  exact ⟨fun d hd => Ms.of3 (key d hd), Ms.sh (key 2 (Nat.le_refl _))⟩
theorem aB_X13_image : ∀ pc, aB 328 pc = fnd bk_X13_image pc := fun _ => rfl
def l_X13_image_34 (T : Nat)  (k : Int → aM → Option (Int × aM)) : Nat → Int → aM → Option (Int × aM)
| 0, _, _ => none
| n + 1, v1, M =>
 if 12 ≤ v1 then
 k v1 M else
 if aIn (12 * (M 138 21)) then
 if aIn ((12 * (M 138 21)) + v1) then
 if 0 ≤ v1 ∧ v1 < 12 then
 if 0 ≤ ((12 * (M 138 21)) + v1) ∧ ((12 * (M 138 21)) + v1) < 36 then
 (some (aup M 143 (((12 * (M 138 21)) + v1)).toNat (M 140 (v1).toNat))).bind fun m10 =>
 if aIn (v1 + 1) then
 l_X13_image_34 T k n (v1 + 1) m10 else none else none else none else none else none
theorem tl_X13_image_34 {d : Nat} (hd : 1 ≤ d) {T : T3}  {k : Int → aM → Option (Int × aM)} {y : (Int × aM)}  {M0 : aM} (hS : Sh T.1 M0)
    (hk : ∀ (v1 : Int) (M : aM), Sh T.1 M → k v1 M = some y → Wp d 328 66 [] [(2, ((138 : Nat) : Int)), (0, v1)] [] (M, T) (fun r2 σ2 => r2 = some (0, y.1) ∧ σ2 = (y.2, T) ∧ Sh T.1 y.2)) :
    ∀ (n : Nat) (v1 : Int) (M : aM), Sh T.1 M → l_X13_image_34 T.1 k n v1 M = some y → Wp d 328 34 [] [(2, ((138 : Nat) : Int)), (0, v1)] [] (M, T) (fun r2 σ2 => r2 = some (0, y.1) ∧ σ2 = (y.2, T) ∧ Sh T.1 y.2) := by
  intro n
  induction n with
  | zero =>
    intro v1 M _ h
    exact nomatch (show (none : Option (Int × aM)) = some y from h)
  | succ n ih =>
    intro v1 M sM h
    rw [l_X13_image_34] at h
    refine y_blk (t := 34) rfl (show fnd bk_X13_image 34 = some _ from rfl) aB_X13_image ?_
    refine wp_iload_n (v := v1) rfl ?_
    refine wp_bipush (by decide) ?_
    refine wp_icmp_ge (fun c5 => ?_) (fun c5 => ?_)
    · rw [if_pos c5] at h
      exact hk v1  M sM h
    · rw [if_neg c5] at h
      refine wp_aload_n (v := ((138 : Nat) : Int)) rfl (Int.natCast_nonneg _) ?_
      refine y_get (show ash 138 = (13, 38) from rfl) (Nat.lt_of_lt_of_le (show 138 < 154 by decide) hS.1.1) (v := ((143 : Nat) : Int)) (sM.at 138 19 143 (by decide +kernel)) rfl ?_
      refine wp_bipush (by decide) ?_
      refine wp_aload_n (v := ((138 : Nat) : Int)) rfl (Int.natCast_nonneg _) ?_
      refine y_get (show ash 138 = (13, 38) from rfl) (Nat.lt_of_lt_of_le (show 138 < 154 by decide) hS.1.1) (v := M 138 21) rfl rfl ?_
      obtain ⟨c6, h⟩ := d_ite h
      refine wp_imul c6 ?_
      refine wp_iload_n (v := v1) rfl ?_
      obtain ⟨c7, h⟩ := d_ite h
      refine wp_iadd c7 ?_
      refine wp_aload_n (v := ((138 : Nat) : Int)) rfl (Int.natCast_nonneg _) ?_
      refine y_get (show ash 138 = (13, 38) from rfl) (Nat.lt_of_lt_of_le (show 138 < 154 by decide) hS.1.1) (v := ((140 : Nat) : Int)) (sM.at 138 16 140 (by decide +kernel)) rfl ?_
      refine wp_iload_n (v := v1) rfl ?_
      obtain ⟨c8, h⟩ := d_ite h
      refine y_iald (show ash 140 = (100, 12) from rfl) (Or.inl (Nat.lt_of_lt_of_le (show 140 < 154 by decide) hS.1.1)) (Nat.ne_of_lt (Nat.lt_of_lt_of_le (Nat.lt_of_lt_of_le (show 140 < 154 by decide) hS.1.1) hS.1.2)) c8 (v := M 140 (v1).toNat) rfl ?_
      obtain ⟨c9, h⟩ := d_ite h
      refine y_iast (show ash 143 = (100, 36) from rfl) (Nat.lt_of_lt_of_le (show 143 < 154 by decide) hS.1.1) c9 ?_
      obtain ⟨m10, em10, h⟩ := d_bind h
      have em10 := Option.some.inj em10
      have s11 : Sh T.1 m10 := em10 ▸ sM.up (Or.inl ⟨by rw [(show ash 143 = (100, 36) from rfl)]; exact Nat.le_of_ble_eq_true rfl, by rw [(show ash 143 = (100, 36) from rfl)]; exact Nat.le_of_ble_eq_true rfl⟩) (by have := (Nat.lt_of_lt_of_le (show 143 < 154 by decide) hS.1.1); have := hS.1.2; omega)
      rw [em10]
      obtain ⟨c12, h⟩ := d_ite h
      refine y_iinc (L1 := [(2, ((138 : Nat) : Int)), (0, (v1 + 1))]) rfl (Nat.le_of_ble_eq_true rfl) ⟨by decide, by decide⟩ c12 rfl ?_
      refine wp_goto ?_
      exact ih (v1 + 1)  m10 s11 h
def f_X13_image (T : Nat)  (M : aM) : Option (Int × aM) :=
 (some (aup M 138 0 0)).bind fun m1 =>
 if m1 138 3 < 0 then
 (f_X13_refused T 1 m1).bind fun x28 =>
 some (x28.1, x28.2) else
 if (m1 138 21) = 3 then
 (f_X13_refused T 3 m1).bind fun x24 =>
 some (x24.1, x24.2) else
 l_X13_image_34 T (fun w13 m14 =>
 if aIn ((m14 138 21) + 1) then
 (some (aup m14 138 21 ((m14 138 21) + 1))).bind fun m17 =>
 if aIn ((m17 138 21) - 1) then
 (f_X13_good T ((m17 138 21) - 1) m17).bind fun x20 =>
 some (x20.1, x20.2) else none else none) FU 0 m1
theorem t_X13_image {T : T3}  {M : aM} {y : (Int × aM)}  (hS : Sh T.1 M) (h : f_X13_image T.1  M = some y) : Mr 1 328 [(2, ((138 : Nat) : Int))] M (some (0, y.1)) y.2 T ∧ Sh T.1 y.2 := by
  have key : ∀ d, 1 ≤ d → Wp d 328 0 [] [(2, ((138 : Nat) : Int)), (9, 0)] [] (M, T) (fun r2 σ2 => r2 = some (0, y.1) ∧ σ2 = (y.2, T) ∧ Sh T.1 y.2) := by
    intro d hd
    rw [f_X13_image] at h
    refine y_blk (t := 0) rfl (show fnd bk_X13_image 0 = some _ from rfl) aB_X13_image ?_
    refine wp_aload_n (v := ((138 : Nat) : Int)) rfl (Int.natCast_nonneg _) ?_
    refine wp_iconst ⟨by decide, by decide⟩ ?_
    refine y_put (show ash 138 = (13, 38) from rfl) (Nat.lt_of_lt_of_le (show 138 < 154 by decide) hS.1.1) rfl ?_
    obtain ⟨m1, em1, h⟩ := d_bind h
    have em1 := Option.some.inj em1
    have s2 : Sh T.1 m1 := em1 ▸ hS.up (Or.inr ⟨by rw [(show ash 138 = (13, 38) from rfl)]; decide, by rw [(show ash 138 = (13, 38) from rfl)]; decide⟩) (by have := (Nat.lt_of_lt_of_le (show 138 < 154 by decide) hS.1.1); have := hS.1.2; omega)
    rw [em1]
    refine wp_aload_n (v := ((138 : Nat) : Int)) rfl (Int.natCast_nonneg _) ?_
    refine y_get (show ash 138 = (13, 38) from rfl) (Nat.lt_of_lt_of_le (show 138 < 154 by decide) hS.1.1) (v := m1 138 3) rfl rfl ?_
    refine wp_ifnonnull (fun c3 => ?_) (fun c3 => ?_)
    · rw [if_neg c3] at h
      refine y_blk (t := 18) rfl (show fnd bk_X13_image 18 = some _ from rfl) aB_X13_image ?_
      refine wp_aload_n (v := ((138 : Nat) : Int)) rfl (Int.natCast_nonneg _) ?_
      refine y_get (show ash 138 = (13, 38) from rfl) (Nat.lt_of_lt_of_le (show 138 < 154 by decide) hS.1.1) (v := m1 138 21) rfl rfl ?_
      refine wp_iconst ⟨by decide, by decide⟩ ?_
      refine y_ne (fun c4 => ?_) (fun c4 => ?_)
      · rw [if_neg c4] at h
        refine y_blk (t := 32) rfl (show fnd bk_X13_image 32 = some _ from rfl) aB_X13_image ?_
        refine wp_iconst ⟨by decide, by decide⟩ ?_
        refine y_stn (L1 := [(2, ((138 : Nat) : Int)), (0, 0)]) (Nat.le_of_ble_eq_true rfl) rfl ?_
        refine tl_X13_image_34 (by omega) hS (fun w13  m14 s15 h => ?_) FU 0  m1 s2 h
        refine y_blk (t := 66) rfl (show fnd bk_X13_image 66 = some _ from rfl) aB_X13_image ?_
        refine wp_aload_n (v := ((138 : Nat) : Int)) rfl (Int.natCast_nonneg _) ?_
        refine wp_dup (Or.inr rfl) ?_
        refine y_get (show ash 138 = (13, 38) from rfl) (Nat.lt_of_lt_of_le (show 138 < 154 by decide) hS.1.1) (v := m14 138 21) rfl rfl ?_
        refine wp_iconst ⟨by decide, by decide⟩ ?_
        obtain ⟨c16, h⟩ := d_ite h
        refine wp_iadd c16 ?_
        refine y_put (show ash 138 = (13, 38) from rfl) (Nat.lt_of_lt_of_le (show 138 < 154 by decide) hS.1.1) rfl ?_
        obtain ⟨m17, em17, h⟩ := d_bind h
        have em17 := Option.some.inj em17
        have s18 : Sh T.1 m17 := em17 ▸ s15.up (Or.inr ⟨by rw [(show ash 138 = (13, 38) from rfl)]; decide, by rw [(show ash 138 = (13, 38) from rfl)]; decide⟩) (by have := (Nat.lt_of_lt_of_le (show 138 < 154 by decide) hS.1.1); have := hS.1.2; omega)
        rw [em17]
        refine wp_aload_n (v := ((138 : Nat) : Int)) rfl (Int.natCast_nonneg _) ?_
        refine wp_aload_n (v := ((138 : Nat) : Int)) rfl (Int.natCast_nonneg _) ?_
        refine y_get (show ash 138 = (13, 38) from rfl) (Nat.lt_of_lt_of_le (show 138 < 154 by decide) hS.1.1) (v := m17 138 21) rfl rfl ?_
        refine wp_iconst ⟨by decide, by decide⟩ ?_
        obtain ⟨c19, h⟩ := d_ite h
        refine wp_isub c19 ?_
        obtain ⟨x20, e21, h⟩ := d_bind h
        obtain ⟨r22, s23⟩ := t_X13_good s18 e21
        refine y_callV (as := [(0, ((m17 138 21) - 1))]) (S1 := []) (Nat.le_of_ble_eq_true rfl) (by omega) r22 (Nat.le_of_ble_eq_true rfl) rfl (show ash 138 = (13, 38) from rfl) (Nat.lt_of_lt_of_le (show 138 < 154 by decide) hS.1.1) (Nat.le_of_ble_eq_true rfl) (Nat.le_of_ble_eq_true rfl) rfl ?_
        cases h
        exact y_ret0 (Or.inl rfl) ⟨rfl, rfl, s23⟩
      · rw [if_pos c4] at h
        refine wp_aload_n (v := ((138 : Nat) : Int)) rfl (Int.natCast_nonneg _) ?_
        refine wp_iconst ⟨by decide, by decide⟩ ?_
        obtain ⟨x24, e25, h⟩ := d_bind h
        obtain ⟨r26, s27⟩ := t_X13_refused s2 e25
        refine y_callV (as := [(0, 3)]) (S1 := []) (Nat.le_of_ble_eq_true rfl) (by omega) r26 (Nat.le_of_ble_eq_true rfl) rfl (show ash 138 = (13, 38) from rfl) (Nat.lt_of_lt_of_le (show 138 < 154 by decide) hS.1.1) (Nat.le_of_ble_eq_true rfl) (Nat.le_of_ble_eq_true rfl) rfl ?_
        cases h
        exact y_ret0 (Or.inl rfl) ⟨rfl, rfl, s27⟩
    · rw [if_pos c3] at h
      refine wp_aload_n (v := ((138 : Nat) : Int)) rfl (Int.natCast_nonneg _) ?_
      refine wp_iconst ⟨by decide, by decide⟩ ?_
      obtain ⟨x28, e29, h⟩ := d_bind h
      obtain ⟨r30, s31⟩ := t_X13_refused s2 e29
      refine y_callV (as := [(0, 1)]) (S1 := []) (Nat.le_of_ble_eq_true rfl) (by omega) r30 (Nat.le_of_ble_eq_true rfl) rfl (show ash 138 = (13, 38) from rfl) (Nat.lt_of_lt_of_le (show 138 < 154 by decide) hS.1.1) (Nat.le_of_ble_eq_true rfl) (Nat.le_of_ble_eq_true rfl) rfl ?_
      cases h
      exact y_ret0 (Or.inl rfl) ⟨rfl, rfl, s31⟩
  exact ⟨fun d hd => Ms.of3 (key d hd), Ms.sh (key 1 (Nat.le_refl _))⟩

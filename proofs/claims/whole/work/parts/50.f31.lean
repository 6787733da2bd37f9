/-! ===== methods as functions ===== -/
theorem aB_X13_lines : ∀ pc, aB 275 pc = fnd bk_X13_lines pc := fun _ => rfl
def l_X13_lines_6 (T : Nat) (v1 : Int) (k : Int → aM → Option (Int × aM)) : Nat → Int → aM → Option (Int × aM)
| 0, _, _ => none
| n + 1, v2, M =>
 if 288 ≤ v2 then
 k v2 M else
 if 0 ≤ v1 ∧ v1 < 12 then
 if 0 ≤ v2 ∧ v2 < 288 then
 (some (aup M 146 (v2).toNat (M 141 (v1).toNat))).bind fun m8 =>
 (f_X13_aYear T m8).bind fun x10 =>
 if aIn (v2 + 1) then
 l_X13_lines_6 T v1 k n (v2 + 1) x10.2 else none else none else none
theorem tl_X13_lines_6 {d : Nat} (hd : 5 ≤ d) {T : T3} {v1 : Int} {k : Int → aM → Option (Int × aM)} {y : (Int × aM)}  {M0 : aM} (hS : Sh T.1 M0)
    (hk : ∀ (v2 : Int) (M : aM), Sh T.1 M → k v2 M = some y → Wp d 275 36 [] [(2, ((138 : Nat) : Int)), (0, v1), (0, v2)] [] (M, T) (fun r2 σ2 => r2 = none ∧ σ2 = (y.2, T) ∧ Sh T.1 y.2)) :
    ∀ (n : Nat) (v2 : Int) (M : aM), Sh T.1 M → l_X13_lines_6 T.1 v1 k n v2 M = some y → Wp d 275 6 [] [(2, ((138 : Nat) : Int)), (0, v1), (0, v2)] [] (M, T) (fun r2 σ2 => r2 = none ∧ σ2 = (y.2, T) ∧ Sh T.1 y.2) := by
  intro n
  induction n with
  | zero =>
    intro v2 M _ h
    exact nomatch (show (none : Option (Int × aM)) = some y from h)
  | succ n ih =>
    intro v2 M sM h
    rw [l_X13_lines_6] at h
    refine y_blk (t := 6) rfl (show fnd bk_X13_lines 6 = some _ from rfl) aB_X13_lines ?_
    refine wp_iload_n (v := v2) rfl ?_
    refine wp_sipush (by decide) ?_
    refine wp_icmp_ge (fun c5 => ?_) (fun c5 => ?_)
    · rw [if_pos c5] at h
      exact hk v2  M sM h
    · rw [if_neg c5] at h
      refine wp_aload_n (v := ((138 : Nat) : Int)) rfl (Int.natCast_nonneg _) ?_
      refine y_get (show ash 138 = (13, 38) from rfl) (Nat.lt_of_lt_of_le (show 138 < 154 by decide) hS.1.1) (v := ((146 : Nat) : Int)) (sM.at 138 24 146 (by decide +kernel)) rfl ?_
      refine wp_iload_n (v := v2) rfl ?_
      refine wp_aload_n (v := ((138 : Nat) : Int)) rfl (Int.natCast_nonneg _) ?_
      refine y_get (show ash 138 = (13, 38) from rfl) (Nat.lt_of_lt_of_le (show 138 < 154 by decide) hS.1.1) (v := ((141 : Nat) : Int)) (sM.at 138 17 141 (by decide +kernel)) rfl ?_
      refine wp_iload_n (v := v1) rfl ?_
      obtain ⟨c6, h⟩ := d_ite h
      refine y_iald (show ash 141 = (100, 12) from rfl) (Or.inl (Nat.lt_of_lt_of_le (show 141 < 154 by decide) hS.1.1)) (Nat.ne_of_lt (Nat.lt_of_lt_of_le (Nat.lt_of_lt_of_le (show 141 < 154 by decide) hS.1.1) hS.1.2)) c6 (v := M 141 (v1).toNat) rfl ?_
      obtain ⟨c7, h⟩ := d_ite h
      refine y_iast (show ash 146 = (100, 288) from rfl) (Nat.lt_of_lt_of_le (show 146 < 154 by decide) hS.1.1) c7 ?_
      obtain ⟨m8, em8, h⟩ := d_bind h
      have em8 := Option.some.inj em8
      have s9 : Sh T.1 m8 := em8 ▸ sM.up (Or.inl ⟨by rw [(show ash 146 = (100, 288) from rfl)]; exact Nat.le_of_ble_eq_true rfl, by rw [(show ash 146 = (100, 288) from rfl)]; exact Nat.le_of_ble_eq_true rfl⟩) (by have := (Nat.lt_of_lt_of_le (show 146 < 154 by decide) hS.1.1); have := hS.1.2; omega)
      rw [em8]
      refine wp_aload_n (v := ((138 : Nat) : Int)) rfl (Int.natCast_nonneg _) ?_
      obtain ⟨x10, e11, h⟩ := d_bind h
      obtain ⟨r12, s13⟩ := t_X13_aYear s9 e11
      refine y_callV (as := []) (S1 := []) (Nat.le_of_ble_eq_true rfl) (by omega) r12 (Nat.le_of_ble_eq_true rfl) rfl (show ash 138 = (13, 38) from rfl) (Nat.lt_of_lt_of_le (show 138 < 154 by decide) hS.1.1) (Nat.le_of_ble_eq_true rfl) (Nat.le_of_ble_eq_true rfl) rfl ?_
      refine wp_pop (Or.inl rfl) ?_
      obtain ⟨c14, h⟩ := d_ite h
      refine y_iinc (L1 := [(2, ((138 : Nat) : Int)), (0, v1), (0, (v2 + 1))]) rfl (Nat.le_of_ble_eq_true rfl) ⟨by decide, by decide⟩ c14 rfl ?_
      refine wp_goto ?_
      exact ih (v2 + 1)  x10.2 s13 h
def l_X13_lines_41 (T : Nat)  (k : aM → Option (Int × aM)) : Nat → aM → Option (Int × aM)
| 0, _ => none
| n + 1, M =>
 (f_X13_comesAgain T 72 (M 138 26) M).bind fun x20 =>
 if x20 = 0 then
 if aIn ((M 138 26) + 1) then
 (some (aup M 138 26 ((M 138 26) + 1))).bind fun m24 =>
 l_X13_lines_41 T k n  m24 else none else
 k  M
theorem tl_X13_lines_41 {d : Nat} (hd : 5 ≤ d) {T : T3}  {k : aM → Option (Int × aM)} {y : (Int × aM)}  {M0 : aM} (hS : Sh T.1 M0)
    (hk : ∀  (u1 u2 : aV) (M : aM), Sh T.1 M → k  M = some y → Wp d 275 67 [] [(2, ((138 : Nat) : Int)), u1, u2] [] (M, T) (fun r2 σ2 => r2 = none ∧ σ2 = (y.2, T) ∧ Sh T.1 y.2)) :
    ∀ (n : Nat)  (u1 u2 : aV) (M : aM), Sh T.1 M → l_X13_lines_41 T.1 k n  M = some y → Wp d 275 41 [] [(2, ((138 : Nat) : Int)), u1, u2] [] (M, T) (fun r2 σ2 => r2 = none ∧ σ2 = (y.2, T) ∧ Sh T.1 y.2) := by
  intro n
  induction n with
  | zero =>
    intro  u1 u2 M _ h
    exact nomatch (show (none : Option (Int × aM)) = some y from h)
  | succ n ih =>
    intro  u1 u2 M sM h
    rw [l_X13_lines_41] at h
    refine y_blk (t := 41) rfl (show fnd bk_X13_lines 41 = some _ from rfl) aB_X13_lines ?_
    refine wp_aload_n (v := ((138 : Nat) : Int)) rfl (Int.natCast_nonneg _) ?_
    refine wp_bipush (by decide) ?_
    refine wp_aload_n (v := ((138 : Nat) : Int)) rfl (Int.natCast_nonneg _) ?_
    refine y_get (show ash 138 = (13, 38) from rfl) (Nat.lt_of_lt_of_le (show 138 < 154 by decide) hS.1.1) (v := M 138 26) rfl rfl ?_
    obtain ⟨x20, e21, h⟩ := d_bind h
    refine y_callV (as := [(0, 72), (0, (M 138 26))]) (S1 := []) (Nat.le_of_ble_eq_true rfl) (by omega) (t_X13_comesAgain sM e21) (Nat.le_of_ble_eq_true rfl) rfl (show ash 138 = (13, 38) from rfl) (Nat.lt_of_lt_of_le (show 138 < 154 by decide) hS.1.1) (Nat.le_of_ble_eq_true rfl) (Nat.le_of_ble_eq_true rfl) rfl ?_
    refine y_nez (fun c22 => ?_) (fun c22 => ?_)
    · rw [if_neg c22] at h
      exact hk  u1 u2 M sM h
    · rw [if_pos c22] at h
      refine wp_aload_n (v := ((138 : Nat) : Int)) rfl (Int.natCast_nonneg _) ?_
      refine wp_dup (Or.inr rfl) ?_
      refine y_get (show ash 138 = (13, 38) from rfl) (Nat.lt_of_lt_of_le (show 138 < 154 by decide) hS.1.1) (v := M 138 26) rfl rfl ?_
      refine wp_iconst ⟨by decide, by decide⟩ ?_
      obtain ⟨c23, h⟩ := d_ite h
      refine wp_iadd c23 ?_
      refine y_put (show ash 138 = (13, 38) from rfl) (Nat.lt_of_lt_of_le (show 138 < 154 by decide) hS.1.1) rfl ?_
      obtain ⟨m24, em24, h⟩ := d_bind h
      have em24 := Option.some.inj em24
      have s25 : Sh T.1 m24 := em24 ▸ sM.up (Or.inr ⟨by rw [(show ash 138 = (13, 38) from rfl)]; decide, by rw [(show ash 138 = (13, 38) from rfl)]; decide⟩) (by have := (Nat.lt_of_lt_of_le (show 138 < 154 by decide) hS.1.1); have := hS.1.2; omega)
      rw [em24]
      refine wp_goto ?_
      exact ih  u1 u2 m24 s25 h
def l_X13_lines_72 (T : Nat)  (k : aM → Option (Int × aM)) : Nat → aM → Option (Int × aM)
| 0, _ => none
| n + 1, M =>
 (f_X13_comesAgain T (M 138 25) (M 138 26) M).bind fun x32 =>
 if x32 = 0 then
 if aIn ((M 138 25) + 1) then
 (some (aup M 138 25 ((M 138 25) + 1))).bind fun m36 =>
 l_X13_lines_72 T k n  m36 else none else
 k  M
theorem tl_X13_lines_72 {d : Nat} (hd : 5 ≤ d) {T : T3}  {k : aM → Option (Int × aM)} {y : (Int × aM)}  {M0 : aM} (hS : Sh T.1 M0)
    (hk : ∀  (u1 u2 : aV) (M : aM), Sh T.1 M → k  M = some y → Wp d 275 100 [] [(2, ((138 : Nat) : Int)), u1, u2] [] (M, T) (fun r2 σ2 => r2 = none ∧ σ2 = (y.2, T) ∧ Sh T.1 y.2)) :
    ∀ (n : Nat)  (u1 u2 : aV) (M : aM), Sh T.1 M → l_X13_lines_72 T.1 k n  M = some y → Wp d 275 72 [] [(2, ((138 : Nat) : Int)), u1, u2] [] (M, T) (fun r2 σ2 => r2 = none ∧ σ2 = (y.2, T) ∧ Sh T.1 y.2) := by
  intro n
  induction n with
  | zero =>
    intro  u1 u2 M _ h
    exact nomatch (show (none : Option (Int × aM)) = some y from h)
  | succ n ih =>
    intro  u1 u2 M sM h
    rw [l_X13_lines_72] at h
    refine y_blk (t := 72) rfl (show fnd bk_X13_lines 72 = some _ from rfl) aB_X13_lines ?_
    refine wp_aload_n (v := ((138 : Nat) : Int)) rfl (Int.natCast_nonneg _) ?_
    refine wp_aload_n (v := ((138 : Nat) : Int)) rfl (Int.natCast_nonneg _) ?_
    refine y_get (show ash 138 = (13, 38) from rfl) (Nat.lt_of_lt_of_le (show 138 < 154 by decide) hS.1.1) (v := M 138 25) rfl rfl ?_
    refine wp_aload_n (v := ((138 : Nat) : Int)) rfl (Int.natCast_nonneg _) ?_
    refine y_get (show ash 138 = (13, 38) from rfl) (Nat.lt_of_lt_of_le (show 138 < 154 by decide) hS.1.1) (v := M 138 26) rfl rfl ?_
    obtain ⟨x32, e33, h⟩ := d_bind h
    refine y_callV (as := [(0, (M 138 25)), (0, (M 138 26))]) (S1 := []) (Nat.le_of_ble_eq_true rfl) (by omega) (t_X13_comesAgain sM e33) (Nat.le_of_ble_eq_true rfl) rfl (show ash 138 = (13, 38) from rfl) (Nat.lt_of_lt_of_le (show 138 < 154 by decide) hS.1.1) (Nat.le_of_ble_eq_true rfl) (Nat.le_of_ble_eq_true rfl) rfl ?_
    refine y_nez (fun c34 => ?_) (fun c34 => ?_)
    · rw [if_neg c34] at h
      exact hk  u1 u2 M sM h
    · rw [if_pos c34] at h
      refine wp_aload_n (v := ((138 : Nat) : Int)) rfl (Int.natCast_nonneg _) ?_
      refine wp_dup (Or.inr rfl) ?_
      refine y_get (show ash 138 = (13, 38) from rfl) (Nat.lt_of_lt_of_le (show 138 < 154 by decide) hS.1.1) (v := M 138 25) rfl rfl ?_
      refine wp_iconst ⟨by decide, by decide⟩ ?_
      obtain ⟨c35, h⟩ := d_ite h
      refine wp_iadd c35 ?_
      refine y_put (show ash 138 = (13, 38) from rfl) (Nat.lt_of_lt_of_le (show 138 < 154 by decide) hS.1.1) rfl ?_
      obtain ⟨m36, em36, h⟩ := d_bind h
      have em36 := Option.some.inj em36
      have s37 : Sh T.1 m36 := em36 ▸ sM.up (Or.inr ⟨by rw [(show ash 138 = (13, 38) from rfl)]; decide, by rw [(show ash 138 = (13, 38) from rfl)]; decide⟩) (by have := (Nat.lt_of_lt_of_le (show 138 < 154 by decide) hS.1.1); have := hS.1.2; omega)
      rw [em36]
      refine wp_goto ?_
      exact ih  u1 u2 m36 s37 h
def f_X13_lines (T : Nat) (v1 : Int) (M : aM) : Option (Int × aM) :=
 (f_X13_works T M).bind fun x1 =>
 l_X13_lines_6 T v1 (fun w15 m16 =>
 (some (aup m16 138 26 1)).bind fun m18 =>
 l_X13_lines_41 T (fun  m28 =>
 (some (aup m28 138 25 0)).bind fun m30 =>
 l_X13_lines_72 T (fun  m40 =>
 some (0, m40)) FU  m30) FU  m18) FU 0 x1.2
theorem t_X13_lines {T : T3} {v1 : Int} {M : aM} {y : (Int × aM)}  (hS : Sh T.1 M) (h : f_X13_lines T.1 v1 M = some y) : Mr 5 275 [(2, ((138 : Nat) : Int)), (0, v1)] M (none) y.2 T ∧ Sh T.1 y.2 := by
  have key : ∀ d, 5 ≤ d → Wp d 275 0 [] [(2, ((138 : Nat) : Int)), (0, v1), (9, 0)] [] (M, T) (fun r2 σ2 => r2 = none ∧ σ2 = (y.2, T) ∧ Sh T.1 y.2) := by
    intro d hd
    rw [f_X13_lines] at h
    refine y_blk (t := 0) rfl (show fnd bk_X13_lines 0 = some _ from rfl) aB_X13_lines ?_
    refine wp_aload_n (v := ((138 : Nat) : Int)) rfl (Int.natCast_nonneg _) ?_
    obtain ⟨x1, e2, h⟩ := d_bind h
    obtain ⟨r3, s4⟩ := t_X13_works hS e2
    refine y_callVv (as := []) (S1 := []) (Nat.le_of_ble_eq_true rfl) (by omega) r3 rfl (show ash 138 = (13, 38) from rfl) (Nat.lt_of_lt_of_le (show 138 < 154 by decide) hS.1.1) (Nat.le_of_ble_eq_true rfl) (Nat.le_of_ble_eq_true rfl) rfl ?_
    refine wp_iconst ⟨by decide, by decide⟩ ?_
    refine y_stn (L1 := [(2, ((138 : Nat) : Int)), (0, v1), (0, 0)]) (Nat.le_of_ble_eq_true rfl) rfl ?_
    refine tl_X13_lines_6 (by omega) hS (fun w15  m16 s17 h => ?_) FU 0  x1.2 s4 h
    refine y_blk (t := 36) rfl (show fnd bk_X13_lines 36 = some _ from rfl) aB_X13_lines ?_
    refine wp_aload_n (v := ((138 : Nat) : Int)) rfl (Int.natCast_nonneg _) ?_
    refine wp_iconst ⟨by decide, by decide⟩ ?_
    refine y_put (show ash 138 = (13, 38) from rfl) (Nat.lt_of_lt_of_le (show 138 < 154 by decide) hS.1.1) rfl ?_
    obtain ⟨m18, em18, h⟩ := d_bind h
    have em18 := Option.some.inj em18
    have s19 : Sh T.1 m18 := em18 ▸ s17.up (Or.inr ⟨by rw [(show ash 138 = (13, 38) from rfl)]; decide, by rw [(show ash 138 = (13, 38) from rfl)]; decide⟩) (by have := (Nat.lt_of_lt_of_le (show 138 < 154 by decide) hS.1.1); have := hS.1.2; omega)
    rw [em18]
    refine tl_X13_lines_41 (by omega) hS (fun  u26 u27 m28 s29 h => ?_) FU  (0, v1) (0, w15) m18 s19 h
    refine y_blk (t := 67) rfl (show fnd bk_X13_lines 67 = some _ from rfl) aB_X13_lines ?_
    refine wp_aload_n (v := ((138 : Nat) : Int)) rfl (Int.natCast_nonneg _) ?_
    refine wp_iconst ⟨by decide, by decide⟩ ?_
    refine y_put (show ash 138 = (13, 38) from rfl) (Nat.lt_of_lt_of_le (show 138 < 154 by decide) hS.1.1) rfl ?_
    obtain ⟨m30, em30, h⟩ := d_bind h
    have em30 := Option.some.inj em30
    have s31 : Sh T.1 m30 := em30 ▸ s29.up (Or.inr ⟨by rw [(show ash 138 = (13, 38) from rfl)]; decide, by rw [(show ash 138 = (13, 38) from rfl)]; decide⟩) (by have := (Nat.lt_of_lt_of_le (show 138 < 154 by decide) hS.1.1); have := hS.1.2; omega)
    rw [em30]
    refine tl_X13_lines_72 (by omega) hS (fun  u38 u39 m40 s41 h => ?_) FU  u26 u27 m30 s31 h
    refine y_blk (t := 100) rfl (show fnd bk_X13_lines 100 = some _ from rfl) aB_X13_lines ?_
    cases h
    exact wp_return ⟨rfl, rfl, s41⟩
  exact ⟨fun d hd => Ms.of3 (key d hd), Ms.sh (key 5 (Nat.le_refl _))⟩
theorem aB_X13_settles : ∀ pc, aB 276 pc = fnd bk_X13_settles pc := fun _ => rfl
def f_X13_settles (T : Nat) (v1 : Int) (M : aM) : Option (Int × aM) :=
 (some (aup M 138 0 0)).bind fun m1 =>
 (f_X13_isVoice T v1 m1).bind fun x3 =>
 if x3 = 0 then
 (f_X13_refused T 1 m1).bind fun x14 =>
 some (x14.1, x14.2) else
 (f_X13_lines T v1 m1).bind fun x6 =>
 (f_X13_good T (x6.2 138 25) x6.2).bind fun x10 =>
 some (x10.1, x10.2)
theorem t_X13_settles {T : T3} {v1 : Int} {M : aM} {y : (Int × aM)}  (hS : Sh T.1 M) (h : f_X13_settles T.1 v1 M = some y) : Mr 6 276 [(2, ((138 : Nat) : Int)), (0, v1)] M (some (0, y.1)) y.2 T ∧ Sh T.1 y.2 := by
  have key : ∀ d, 6 ≤ d → Wp d 276 0 [] [(2, ((138 : Nat) : Int)), (0, v1)] [] (M, T) (fun r2 σ2 => r2 = some (0, y.1) ∧ σ2 = (y.2, T) ∧ Sh T.1 y.2) := by
    intro d hd
    rw [f_X13_settles] at h
    refine y_blk (t := 0) rfl (show fnd bk_X13_settles 0 = some _ from rfl) aB_X13_settles ?_
    refine wp_aload_n (v := ((138 : Nat) : Int)) rfl (Int.natCast_nonneg _) ?_
    refine wp_iconst ⟨by decide, by decide⟩ ?_
    refine y_put (show ash 138 = (13, 38) from rfl) (Nat.lt_of_lt_of_le (show 138 < 154 by decide) hS.1.1) rfl ?_
    obtain ⟨m1, em1, h⟩ := d_bind h
    have em1 := Option.some.inj em1
    have s2 : Sh T.1 m1 := em1 ▸ hS.up (Or.inr ⟨by rw [(show ash 138 = (13, 38) from rfl)]; decide, by rw [(show ash 138 = (13, 38) from rfl)]; decide⟩) (by have := (Nat.lt_of_lt_of_le (show 138 < 154 by decide) hS.1.1); have := hS.1.2; omega)
    rw [em1]
    refine wp_aload_n (v := ((138 : Nat) : Int)) rfl (Int.natCast_nonneg _) ?_
    refine wp_iload_n (v := v1) rfl ?_
    obtain ⟨x3, e4, h⟩ := d_bind h
    refine y_callV (as := [(0, v1)]) (S1 := []) (Nat.le_of_ble_eq_true rfl) (by omega) (t_X13_isVoice s2 e4) (Nat.le_of_ble_eq_true rfl) rfl (show ash 138 = (13, 38) from rfl) (Nat.lt_of_lt_of_le (show 138 < 154 by decide) hS.1.1) (Nat.le_of_ble_eq_true rfl) (Nat.le_of_ble_eq_true rfl) rfl ?_
    refine y_nez (fun c5 => ?_) (fun c5 => ?_)
    · rw [if_neg c5] at h
      refine y_blk (t := 19) rfl (show fnd bk_X13_settles 19 = some _ from rfl) aB_X13_settles ?_
      refine wp_aload_n (v := ((138 : Nat) : Int)) rfl (Int.natCast_nonneg _) ?_
      refine wp_iload_n (v := v1) rfl ?_
      obtain ⟨x6, e7, h⟩ := d_bind h
      obtain ⟨r8, s9⟩ := t_X13_lines s2 e7
      refine y_callVv (as := [(0, v1)]) (S1 := []) (Nat.le_of_ble_eq_true rfl) (by omega) r8 rfl (show ash 138 = (13, 38) from rfl) (Nat.lt_of_lt_of_le (show 138 < 154 by decide) hS.1.1) (Nat.le_of_ble_eq_true rfl) (Nat.le_of_ble_eq_true rfl) rfl ?_
      refine wp_aload_n (v := ((138 : Nat) : Int)) rfl (Int.natCast_nonneg _) ?_
      refine wp_aload_n (v := ((138 : Nat) : Int)) rfl (Int.natCast_nonneg _) ?_
      refine y_get (show ash 138 = (13, 38) from rfl) (Nat.lt_of_lt_of_le (show 138 < 154 by decide) hS.1.1) (v := x6.2 138 25) rfl rfl ?_
      obtain ⟨x10, e11, h⟩ := d_bind h
      obtain ⟨r12, s13⟩ := t_X13_good s9 e11
      refine y_callV (as := [(0, (x6.2 138 25))]) (S1 := []) (Nat.le_of_ble_eq_true rfl) (by omega) r12 (Nat.le_of_ble_eq_true rfl) rfl (show ash 138 = (13, 38) from rfl) (Nat.lt_of_lt_of_le (show 138 < 154 by decide) hS.1.1) (Nat.le_of_ble_eq_true rfl) (Nat.le_of_ble_eq_true rfl) rfl ?_
      cases h
      exact y_ret0 (Or.inl rfl) ⟨rfl, rfl, s13⟩
    · rw [if_pos c5] at h
      refine wp_aload_n (v := ((138 : Nat) : Int)) rfl (Int.natCast_nonneg _) ?_
      refine wp_iconst ⟨by decide, by decide⟩ ?_
      obtain ⟨x14, e15, h⟩ := d_bind h
      obtain ⟨r16, s17⟩ := t_X13_refused s2 e15
      refine y_callV (as := [(0, 1)]) (S1 := []) (Nat.le_of_ble_eq_true rfl) (by omega) r16 (Nat.le_of_ble_eq_true rfl) rfl (show ash 138 = (13, 38) from rfl) (Nat.lt_of_lt_of_le (show 138 < 154 by decide) hS.1.1) (Nat.le_of_ble_eq_true rfl) (Nat.le_of_ble_eq_true rfl) rfl ?_
      cases h
      exact y_ret0 (Or.inl rfl) ⟨rfl, rfl, s17⟩
  exact ⟨fun d hd => Ms.of3 (key d hd), Ms.sh (key 6 (Nat.le_refl _))⟩
theorem aB_X13_round : ∀ pc, aB 277 pc = fnd bk_X13_round pc := fun _ => rfl
def f_X13_round (T : Nat) (v1 : Int) (M : aM) : Option (Int × aM) :=
 (some (aup M 138 0 0)).bind fun m1 =>
 (f_X13_isVoice T v1 m1).bind fun x3 =>
 if x3 = 0 then
 (f_X13_refused T 1 m1).bind fun x14 =>
 some (x14.1, x14.2) else
 (f_X13_lines T v1 m1).bind fun x6 =>
 (f_X13_good T (x6.2 138 26) x6.2).bind fun x10 =>
 some (x10.1, x10.2)
theorem t_X13_round {T : T3} {v1 : Int} {M : aM} {y : (Int × aM)}  (hS : Sh T.1 M) (h : f_X13_round T.1 v1 M = some y) : Mr 6 277 [(2, ((138 : Nat) : Int)), (0, v1)] M (some (0, y.1)) y.2 T ∧ Sh T.1 y.2 := by
  have key : ∀ d, 6 ≤ d → Wp d 277 0 [] [(2, ((138 : Nat) : Int)), (0, v1)] [] (M, T) (fun r2 σ2 => r2 = some (0, y.1) ∧ σ2 = (y.2, T) ∧ Sh T.1 y.2) := by
    intro d hd
    rw [f_X13_round] at h
    refine y_blk (t := 0) rfl (show fnd bk_X13_round 0 = some _ from rfl) aB_X13_round ?_
    refine wp_aload_n (v := ((138 : Nat) : Int)) rfl (Int.natCast_nonneg _) ?_
    refine wp_iconst ⟨by decide, by decide⟩ ?_
    refine y_put (show ash 138 = (13, 38) from rfl) (Nat.lt_of_lt_of_le (show 138 < 154 by decide) hS.1.1) rfl ?_
    obtain ⟨m1, em1, h⟩ := d_bind h
    have em1 := Option.some.inj em1
    have s2 : Sh T.1 m1 := em1 ▸ hS.up (Or.inr ⟨by rw [(show ash 138 = (13, 38) from rfl)]; decide, by rw [(show ash 138 = (13, 38) from rfl)]; decide⟩) (by have := (Nat.lt_of_lt_of_le (show 138 < 154 by decide) hS.1.1); have := hS.1.2; omega)
    rw [em1]
    refine wp_aload_n (v := ((138 : Nat) : Int)) rfl (Int.natCast_nonneg _) ?_
    refine wp_iload_n (v := v1) rfl ?_
    obtain ⟨x3, e4, h⟩ := d_bind h
    refine y_callV (as := [(0, v1)]) (S1 := []) (Nat.le_of_ble_eq_true rfl) (by omega) (t_X13_isVoice s2 e4) (Nat.le_of_ble_eq_true rfl) rfl (show ash 138 = (13, 38) from rfl) (Nat.lt_of_lt_of_le (show 138 < 154 by decide) hS.1.1) (Nat.le_of_ble_eq_true rfl) (Nat.le_of_ble_eq_true rfl) rfl ?_
    refine y_nez (fun c5 => ?_) (fun c5 => ?_)
    · rw [if_neg c5] at h
      refine y_blk (t := 19) rfl (show fnd bk_X13_round 19 = some _ from rfl) aB_X13_round ?_
      refine wp_aload_n (v := ((138 : Nat) : Int)) rfl (Int.natCast_nonneg _) ?_
      refine wp_iload_n (v := v1) rfl ?_
      obtain ⟨x6, e7, h⟩ := d_bind h
      obtain ⟨r8, s9⟩ := t_X13_lines s2 e7
      refine y_callVv (as := [(0, v1)]) (S1 := []) (Nat.le_of_ble_eq_true rfl) (by omega) r8 rfl (show ash 138 = (13, 38) from rfl) (Nat.lt_of_lt_of_le (show 138 < 154 by decide) hS.1.1) (Nat.le_of_ble_eq_true rfl) (Nat.le_of_ble_eq_true rfl) rfl ?_
      refine wp_aload_n (v := ((138 : Nat) : Int)) rfl (Int.natCast_nonneg _) ?_
      refine wp_aload_n (v := ((138 : Nat) : Int)) rfl (Int.natCast_nonneg _) ?_
      refine y_get (show ash 138 = (13, 38) from rfl) (Nat.lt_of_lt_of_le (show 138 < 154 by decide) hS.1.1) (v := x6.2 138 26) rfl rfl ?_
      obtain ⟨x10, e11, h⟩ := d_bind h
      obtain ⟨r12, s13⟩ := t_X13_good s9 e11
      refine y_callV (as := [(0, (x6.2 138 26))]) (S1 := []) (Nat.le_of_ble_eq_true rfl) (by omega) r12 (Nat.le_of_ble_eq_true rfl) rfl (show ash 138 = (13, 38) from rfl) (Nat.lt_of_lt_of_le (show 138 < 154 by decide) hS.1.1) (Nat.le_of_ble_eq_true rfl) (Nat.le_of_ble_eq_true rfl) rfl ?_
      cases h
      exact y_ret0 (Or.inl rfl) ⟨rfl, rfl, s13⟩
    · rw [if_pos c5] at h
      refine wp_aload_n (v := ((138 : Nat) : Int)) rfl (Int.natCast_nonneg _) ?_
      refine wp_iconst ⟨by decide, by decide⟩ ?_
      obtain ⟨x14, e15, h⟩ := d_bind h
      obtain ⟨r16, s17⟩ := t_X13_refused s2 e15
      refine y_callV (as := [(0, 1)]) (S1 := []) (Nat.le_of_ble_eq_true rfl) (by omega) r16 (Nat.le_of_ble_eq_true rfl) rfl (show ash 138 = (13, 38) from rfl) (Nat.lt_of_lt_of_le (show 138 < 154 by decide) hS.1.1) (Nat.le_of_ble_eq_true rfl) (Nat.le_of_ble_eq_true rfl) rfl ?_
      cases h
      exact y_ret0 (Or.inl rfl) ⟨rfl, rfl, s17⟩
  exact ⟨fun d hd => Ms.of3 (key d hd), Ms.sh (key 6 (Nat.le_refl _))⟩
theorem aB_X13_called : ∀ pc, aB 278 pc = fnd bk_X13_called pc := fun _ => rfl
def f_X13_called (T : Nat) (v1 : Int) (v2 : Int) (M : aM) : Option (Int × aM) :=
 (some (aup M 138 0 0)).bind fun m1 =>
 (f_X13_isVoice T v1 m1).bind fun x3 =>
 if x3 = 0 then
 (f_X13_refused T 1 m1).bind fun x6 =>
 some (x6.1, x6.2) else
 (f_X13_isCave T v2 m1).bind fun x10 =>
 if x10 = 0 then
 (f_X13_refused T 1 m1).bind fun x26 =>
 some (x26.1, x26.2) else
 (f_X13_works T m1).bind fun x13 =>
 if okW T (x13.2 138 3) then
 if 0 ≤ v1 ∧ v1 < 3 then
 if 0 ≤ v1 ∧ v1 < 12 then
 (f_X13_calledTo T (x13.2 ((x13.2 138 3).toNat + 4) (v1).toNat) (x13.2 141 (v1).toNat) v2 x13.2).bind fun x20 =>
 (f_X13_good T x20 x13.2).bind fun x22 =>
 some (x22.1, x22.2) else none else none else none
theorem t_X13_called {T : T3} {v1 : Int} {v2 : Int} {M : aM} {y : (Int × aM)}  (hS : Sh T.1 M) (h : f_X13_called T.1 v1 v2 M = some y) : Mr 4 278 [(2, ((138 : Nat) : Int)), (0, v1), (0, v2)] M (some (0, y.1)) y.2 T ∧ Sh T.1 y.2 := by
  have key : ∀ d, 4 ≤ d → Wp d 278 0 [] [(2, ((138 : Nat) : Int)), (0, v1), (0, v2)] [] (M, T) (fun r2 σ2 => r2 = some (0, y.1) ∧ σ2 = (y.2, T) ∧ Sh T.1 y.2) := by
    intro d hd
    rw [f_X13_called] at h
    refine y_blk (t := 0) rfl (show fnd bk_X13_called 0 = some _ from rfl) aB_X13_called ?_
    refine wp_aload_n (v := ((138 : Nat) : Int)) rfl (Int.natCast_nonneg _) ?_
    refine wp_iconst ⟨by decide, by decide⟩ ?_
    refine y_put (show ash 138 = (13, 38) from rfl) (Nat.lt_of_lt_of_le (show 138 < 154 by decide) hS.1.1) rfl ?_
    obtain ⟨m1, em1, h⟩ := d_bind h
    have em1 := Option.some.inj em1
    have s2 : Sh T.1 m1 := em1 ▸ hS.up (Or.inr ⟨by rw [(show ash 138 = (13, 38) from rfl)]; decide, by rw [(show ash 138 = (13, 38) from rfl)]; decide⟩) (by have := (Nat.lt_of_lt_of_le (show 138 < 154 by decide) hS.1.1); have := hS.1.2; omega)
    rw [em1]
    refine wp_aload_n (v := ((138 : Nat) : Int)) rfl (Int.natCast_nonneg _) ?_
    refine wp_iload_n (v := v1) rfl ?_
    obtain ⟨x3, e4, h⟩ := d_bind h
    refine y_callV (as := [(0, v1)]) (S1 := []) (Nat.le_of_ble_eq_true rfl) (by omega) (t_X13_isVoice s2 e4) (Nat.le_of_ble_eq_true rfl) rfl (show ash 138 = (13, 38) from rfl) (Nat.lt_of_lt_of_le (show 138 < 154 by decide) hS.1.1) (Nat.le_of_ble_eq_true rfl) (Nat.le_of_ble_eq_true rfl) rfl ?_
    refine wp_if_eq (fun c5 => ?_) (fun c5 => ?_)
    · rw [if_pos c5] at h
      refine y_blk (t := 21) rfl (show fnd bk_X13_called 21 = some _ from rfl) aB_X13_called ?_
      refine wp_aload_n (v := ((138 : Nat) : Int)) rfl (Int.natCast_nonneg _) ?_
      refine wp_iconst ⟨by decide, by decide⟩ ?_
      obtain ⟨x6, e7, h⟩ := d_bind h
      obtain ⟨r8, s9⟩ := t_X13_refused s2 e7
      refine y_callV (as := [(0, 1)]) (S1 := []) (Nat.le_of_ble_eq_true rfl) (by omega) r8 (Nat.le_of_ble_eq_true rfl) rfl (show ash 138 = (13, 38) from rfl) (Nat.lt_of_lt_of_le (show 138 < 154 by decide) hS.1.1) (Nat.le_of_ble_eq_true rfl) (Nat.le_of_ble_eq_true rfl) rfl ?_
      cases h
      exact y_ret0 (Or.inl rfl) ⟨rfl, rfl, s9⟩
    · rw [if_neg c5] at h
      refine wp_aload_n (v := ((138 : Nat) : Int)) rfl (Int.natCast_nonneg _) ?_
      refine wp_iload_n (v := v2) rfl ?_
      obtain ⟨x10, e11, h⟩ := d_bind h
      refine y_callV (as := [(0, v2)]) (S1 := []) (Nat.le_of_ble_eq_true rfl) (by omega) (t_X13_isCave s2 e11) (Nat.le_of_ble_eq_true rfl) rfl (show ash 138 = (13, 38) from rfl) (Nat.lt_of_lt_of_le (show 138 < 154 by decide) hS.1.1) (Nat.le_of_ble_eq_true rfl) (Nat.le_of_ble_eq_true rfl) rfl ?_
      refine y_nez (fun c12 => ?_) (fun c12 => ?_)
      · rw [if_neg c12] at h
        refine y_blk (t := 27) rfl (show fnd bk_X13_called 27 = some _ from rfl) aB_X13_called ?_
        refine wp_aload_n (v := ((138 : Nat) : Int)) rfl (Int.natCast_nonneg _) ?_
        obtain ⟨x13, e14, h⟩ := d_bind h
        obtain ⟨r15, s16⟩ := t_X13_works s2 e14
        refine y_callVv (as := []) (S1 := []) (Nat.le_of_ble_eq_true rfl) (by omega) r15 rfl (show ash 138 = (13, 38) from rfl) (Nat.lt_of_lt_of_le (show 138 < 154 by decide) hS.1.1) (Nat.le_of_ble_eq_true rfl) (Nat.le_of_ble_eq_true rfl) rfl ?_
        refine wp_aload_n (v := ((138 : Nat) : Int)) rfl (Int.natCast_nonneg _) ?_
        refine wp_aload_n (v := ((138 : Nat) : Int)) rfl (Int.natCast_nonneg _) ?_
        refine wp_aload_n (v := ((138 : Nat) : Int)) rfl (Int.natCast_nonneg _) ?_
        obtain ⟨c17, h⟩ := d_ite h
        refine y_get (show ash 138 = (13, 38) from rfl) (Nat.lt_of_lt_of_le (show 138 < 154 by decide) hS.1.1) (v := (((x13.2 138 3).toNat : Nat) : Int)) c17.eq rfl ?_
        refine y_get (aW0 hS.1.2 c17.is) (ltW c17.is 0 (by decide)) (v := ((((x13.2 138 3).toNat + 4) : Nat) : Int)) (rW17 s16 c17.is) rfl ?_
        refine wp_iload_n (v := v1) rfl ?_
        obtain ⟨c18, h⟩ := d_ite h
        refine y_iald (aW4 hS.1.2 c17.is) (Or.inl (ltW c17.is 4 (by decide))) (Nat.ne_of_lt (Nat.lt_of_lt_of_le (ltW c17.is 4 (by decide)) hS.1.2)) c18 (v := x13.2 ((x13.2 138 3).toNat + 4) (v1).toNat) rfl ?_
        refine wp_aload_n (v := ((138 : Nat) : Int)) rfl (Int.natCast_nonneg _) ?_
        refine y_get (show ash 138 = (13, 38) from rfl) (Nat.lt_of_lt_of_le (show 138 < 154 by decide) hS.1.1) (v := ((141 : Nat) : Int)) (s16.at 138 17 141 (by decide +kernel)) rfl ?_
        refine wp_iload_n (v := v1) rfl ?_
        obtain ⟨c19, h⟩ := d_ite h
        refine y_iald (show ash 141 = (100, 12) from rfl) (Or.inl (Nat.lt_of_lt_of_le (show 141 < 154 by decide) hS.1.1)) (Nat.ne_of_lt (Nat.lt_of_lt_of_le (Nat.lt_of_lt_of_le (show 141 < 154 by decide) hS.1.1) hS.1.2)) c19 (v := x13.2 141 (v1).toNat) rfl ?_
        refine wp_iload_n (v := v2) rfl ?_
        obtain ⟨x20, e21, h⟩ := d_bind h
        refine y_callV (as := [(0, (x13.2 ((x13.2 138 3).toNat + 4) (v1).toNat)), (0, (x13.2 141 (v1).toNat)), (0, v2)]) (S1 := [(2, ((138 : Nat) : Int))]) (Nat.le_of_ble_eq_true rfl) (by omega) (t_X13_calledTo s16 e21) (Nat.le_of_ble_eq_true rfl) rfl (show ash 138 = (13, 38) from rfl) (Nat.lt_of_lt_of_le (show 138 < 154 by decide) hS.1.1) (Nat.le_of_ble_eq_true rfl) (Nat.le_of_ble_eq_true rfl) rfl ?_
        obtain ⟨x22, e23, h⟩ := d_bind h
        obtain ⟨r24, s25⟩ := t_X13_good s16 e23
        refine y_callV (as := [(0, x20)]) (S1 := []) (Nat.le_of_ble_eq_true rfl) (by omega) r24 (Nat.le_of_ble_eq_true rfl) rfl (show ash 138 = (13, 38) from rfl) (Nat.lt_of_lt_of_le (show 138 < 154 by decide) hS.1.1) (Nat.le_of_ble_eq_true rfl) (Nat.le_of_ble_eq_true rfl) rfl ?_
        cases h
        exact y_ret0 (Or.inl rfl) ⟨rfl, rfl, s25⟩
      · rw [if_pos c12] at h
        refine y_blk (t := 21) rfl (show fnd bk_X13_called 21 = some _ from rfl) aB_X13_called ?_
        refine wp_aload_n (v := ((138 : Nat) : Int)) rfl (Int.natCast_nonneg _) ?_
        refine wp_iconst ⟨by decide, by decide⟩ ?_
        obtain ⟨x26, e27, h⟩ := d_bind h
        obtain ⟨r28, s29⟩ := t_X13_refused s2 e27
        refine y_callV (as := [(0, 1)]) (S1 := []) (Nat.le_of_ble_eq_true rfl) (by omega) r28 (Nat.le_of_ble_eq_true rfl) rfl (show ash 138 = (13, 38) from rfl) (Nat.lt_of_lt_of_le (show 138 < 154 by decide) hS.1.1) (Nat.le_of_ble_eq_true rfl) (Nat.le_of_ble_eq_true rfl) rfl ?_
        cases h
        exact y_ret0 (Or.inl rfl) ⟨rfl, rfl, s29⟩
  exact ⟨fun d hd => Ms.of3 (key d hd), Ms.sh (key 4 (Nat.le_refl _))⟩
theorem aB_X13_finds : ∀ pc, aB 279 pc = fnd bk_X13_finds pc := fun _ => rfl
def b_X13_finds_22 (T : Nat) (v1 : Int) (v2 : Int) (v3 : Int) (z1 : Int) (z2 : Int) (M : aM) : Option (Int × aM) :=
 if 0 ≤ z1 ∧ z1 < 8 then
 (some (aup M 147 (z1).toNat z2)).bind fun m5 =>
 if 0 ≤ v1 ∧ v1 < 8 then
 (some (aup m5 148 (v1).toNat v2)).bind fun m8 =>
 (some (aup m8 149 (v1).toNat v3)).bind fun m10 =>
 if 0 ≤ (m10 138 31) ∧ (m10 138 31) < 8 then
 (some (aup m10 150 ((m10 138 31)).toNat v1)).bind fun m13 =>
 if aIn ((m13 138 31) + 1) then
 (some (aup m13 138 31 ((m13 138 31) + 1))).bind fun m16 =>
 some (0, m16) else none else none else none else none
theorem tb_X13_finds_22 {d : Nat} (hd : 0 ≤ d) {T : T3} {v1 : Int} {v2 : Int} {v3 : Int} {z1 : Int} {z2 : Int} {M : aM} {y : (Int × aM)}  (hS : Sh T.1 M) (h : b_X13_finds_22 T.1 v1 v2 v3 z1 z2 M = some y) : Wp d 279 22 [] [(2, ((138 : Nat) : Int)), (0, v1), (0, v2), (0, v3)] [(0, z2), (0, z1), (2, ((147 : Nat) : Int))] (M, T) (fun r2 σ2 => r2 = none ∧ σ2 = (y.2, T) ∧ Sh T.1 y.2) := by
  rw [b_X13_finds_22] at h
  refine y_blk (t := 22) rfl (show fnd bk_X13_finds 22 = some _ from rfl) aB_X13_finds ?_
  obtain ⟨c4, h⟩ := d_ite h
  refine y_iast (show ash 147 = (100, 8) from rfl) (Nat.lt_of_lt_of_le (show 147 < 154 by decide) hS.1.1) c4 ?_
  obtain ⟨m5, em5, h⟩ := d_bind h
  have em5 := Option.some.inj em5
  have s6 : Sh T.1 m5 := em5 ▸ hS.up (Or.inl ⟨by rw [(show ash 147 = (100, 8) from rfl)]; exact Nat.le_of_ble_eq_true rfl, by rw [(show ash 147 = (100, 8) from rfl)]; exact Nat.le_of_ble_eq_true rfl⟩) (by have := (Nat.lt_of_lt_of_le (show 147 < 154 by decide) hS.1.1); have := hS.1.2; omega)
  rw [em5]
  refine wp_aload_n (v := ((138 : Nat) : Int)) rfl (Int.natCast_nonneg _) ?_
  refine y_get (show ash 138 = (13, 38) from rfl) (Nat.lt_of_lt_of_le (show 138 < 154 by decide) hS.1.1) (v := ((148 : Nat) : Int)) (s6.at 138 28 148 (by decide +kernel)) rfl ?_
  refine wp_iload_n (v := v1) rfl ?_
  refine wp_iload_n (v := v2) rfl ?_
  obtain ⟨c7, h⟩ := d_ite h
  refine y_iast (show ash 148 = (100, 8) from rfl) (Nat.lt_of_lt_of_le (show 148 < 154 by decide) hS.1.1) c7 ?_
  obtain ⟨m8, em8, h⟩ := d_bind h
  have em8 := Option.some.inj em8
  have s9 : Sh T.1 m8 := em8 ▸ s6.up (Or.inl ⟨by rw [(show ash 148 = (100, 8) from rfl)]; exact Nat.le_of_ble_eq_true rfl, by rw [(show ash 148 = (100, 8) from rfl)]; exact Nat.le_of_ble_eq_true rfl⟩) (by have := (Nat.lt_of_lt_of_le (show 148 < 154 by decide) hS.1.1); have := hS.1.2; omega)
  rw [em8]
  refine wp_aload_n (v := ((138 : Nat) : Int)) rfl (Int.natCast_nonneg _) ?_
  refine y_get (show ash 138 = (13, 38) from rfl) (Nat.lt_of_lt_of_le (show 138 < 154 by decide) hS.1.1) (v := ((149 : Nat) : Int)) (s9.at 138 29 149 (by decide +kernel)) rfl ?_
  refine wp_iload_n (v := v1) rfl ?_
  refine wp_iload_n (v := v3) rfl ?_
  refine y_iast (show ash 149 = (100, 8) from rfl) (Nat.lt_of_lt_of_le (show 149 < 154 by decide) hS.1.1) c7 ?_
  obtain ⟨m10, em10, h⟩ := d_bind h
  have em10 := Option.some.inj em10
  have s11 : Sh T.1 m10 := em10 ▸ s9.up (Or.inl ⟨by rw [(show ash 149 = (100, 8) from rfl)]; exact Nat.le_of_ble_eq_true rfl, by rw [(show ash 149 = (100, 8) from rfl)]; exact Nat.le_of_ble_eq_true rfl⟩) (by have := (Nat.lt_of_lt_of_le (show 149 < 154 by decide) hS.1.1); have := hS.1.2; omega)
  rw [em10]
  refine wp_aload_n (v := ((138 : Nat) : Int)) rfl (Int.natCast_nonneg _) ?_
  refine y_get (show ash 138 = (13, 38) from rfl) (Nat.lt_of_lt_of_le (show 138 < 154 by decide) hS.1.1) (v := ((150 : Nat) : Int)) (s11.at 138 30 150 (by decide +kernel)) rfl ?_
  refine wp_aload_n (v := ((138 : Nat) : Int)) rfl (Int.natCast_nonneg _) ?_
  refine y_get (show ash 138 = (13, 38) from rfl) (Nat.lt_of_lt_of_le (show 138 < 154 by decide) hS.1.1) (v := m10 138 31) rfl rfl ?_
  refine wp_iload_n (v := v1) rfl ?_
  obtain ⟨c12, h⟩ := d_ite h
  refine y_iast (show ash 150 = (100, 8) from rfl) (Nat.lt_of_lt_of_le (show 150 < 154 by decide) hS.1.1) c12 ?_
  obtain ⟨m13, em13, h⟩ := d_bind h
  have em13 := Option.some.inj em13
  have s14 : Sh T.1 m13 := em13 ▸ s11.up (Or.inl ⟨by rw [(show ash 150 = (100, 8) from rfl)]; exact Nat.le_of_ble_eq_true rfl, by rw [(show ash 150 = (100, 8) from rfl)]; exact Nat.le_of_ble_eq_true rfl⟩) (by have := (Nat.lt_of_lt_of_le (show 150 < 154 by decide) hS.1.1); have := hS.1.2; omega)
  rw [em13]
  refine wp_aload_n (v := ((138 : Nat) : Int)) rfl (Int.natCast_nonneg _) ?_
  refine wp_dup (Or.inr rfl) ?_
  refine y_get (show ash 138 = (13, 38) from rfl) (Nat.lt_of_lt_of_le (show 138 < 154 by decide) hS.1.1) (v := m13 138 31) rfl rfl ?_
  refine wp_iconst ⟨by decide, by decide⟩ ?_
  obtain ⟨c15, h⟩ := d_ite h
  refine wp_iadd c15 ?_
  refine y_put (show ash 138 = (13, 38) from rfl) (Nat.lt_of_lt_of_le (show 138 < 154 by decide) hS.1.1) rfl ?_
  obtain ⟨m16, em16, h⟩ := d_bind h
  have em16 := Option.some.inj em16
  have s17 : Sh T.1 m16 := em16 ▸ s14.up (Or.inr ⟨by rw [(show ash 138 = (13, 38) from rfl)]; decide, by rw [(show ash 138 = (13, 38) from rfl)]; decide⟩) (by have := (Nat.lt_of_lt_of_le (show 138 < 154 by decide) hS.1.1); have := hS.1.2; omega)
  rw [em16]
  cases h
  exact wp_return ⟨rfl, rfl, s17⟩
def f_X13_finds (T : Nat) (v1 : Int) (v2 : Int) (v3 : Int) (M : aM) : Option (Int × aM) :=
 if v2 = (-1) then
 b_X13_finds_22 T v1 v2 v3 v1 0 M else
 if 0 ≤ v2 ∧ v2 < 8 then
 if aIn ((M 147 (v2).toNat) + 1) then
 b_X13_finds_22 T v1 v2 v3 v1 ((M 147 (v2).toNat) + 1) M else none else none
theorem t_X13_finds {T : T3} {v1 : Int} {v2 : Int} {v3 : Int} {M : aM} {y : (Int × aM)}  (hS : Sh T.1 M) (h : f_X13_finds T.1 v1 v2 v3 M = some y) : Mr 0 279 [(2, ((138 : Nat) : Int)), (0, v1), (0, v2), (0, v3)] M (none) y.2 T ∧ Sh T.1 y.2 := by
  have key : ∀ d, 0 ≤ d → Wp d 279 0 [] [(2, ((138 : Nat) : Int)), (0, v1), (0, v2), (0, v3)] [] (M, T) (fun r2 σ2 => r2 = none ∧ σ2 = (y.2, T) ∧ Sh T.1 y.2) := by
    intro d hd
    rw [f_X13_finds] at h
    refine y_blk (t := 0) rfl (show fnd bk_X13_finds 0 = some _ from rfl) aB_X13_finds ?_
    refine wp_aload_n (v := ((138 : Nat) : Int)) rfl (Int.natCast_nonneg _) ?_
    refine y_get (show ash 138 = (13, 38) from rfl) (Nat.lt_of_lt_of_le (show 138 < 154 by decide) hS.1.1) (v := ((147 : Nat) : Int)) (hS.at 138 27 147 (by decide +kernel)) rfl ?_
    refine wp_iload_n (v := v1) rfl ?_
    refine wp_iload_n (v := v2) rfl ?_
    refine wp_iconst ⟨by decide, by decide⟩ ?_
    refine y_ne (fun c1 => ?_) (fun c1 => ?_)
    · rw [if_neg c1] at h
      refine y_blk (t := 14) rfl (show fnd bk_X13_finds 14 = some _ from rfl) aB_X13_finds ?_
      refine wp_aload_n (v := ((138 : Nat) : Int)) rfl (Int.natCast_nonneg _) ?_
      refine y_get (show ash 138 = (13, 38) from rfl) (Nat.lt_of_lt_of_le (show 138 < 154 by decide) hS.1.1) (v := ((147 : Nat) : Int)) (hS.at 138 27 147 (by decide +kernel)) rfl ?_
      refine wp_iload_n (v := v2) rfl ?_
      obtain ⟨c2, h⟩ := d_ite h
      refine y_iald (show ash 147 = (100, 8) from rfl) (Or.inl (Nat.lt_of_lt_of_le (show 147 < 154 by decide) hS.1.1)) (Nat.ne_of_lt (Nat.lt_of_lt_of_le (Nat.lt_of_lt_of_le (show 147 < 154 by decide) hS.1.1) hS.1.2)) c2 (v := M 147 (v2).toNat) rfl ?_
      refine wp_iconst ⟨by decide, by decide⟩ ?_
      obtain ⟨c3, h⟩ := d_ite h
      refine wp_iadd c3 ?_
      exact tb_X13_finds_22 hd hS h
    · rw [if_pos c1] at h
      refine wp_iconst ⟨by decide, by decide⟩ ?_
      refine wp_goto ?_
      exact tb_X13_finds_22 hd hS h
  exact ⟨fun d hd => Ms.of3 (key d hd), Ms.sh (key 0 (Nat.le_refl _))⟩
theorem aB_X13_brings : ∀ pc, aB 280 pc = fnd bk_X13_brings pc := fun _ => rfl
def l_X13_brings_6 (T : Nat) (v1 : Int) (k : Int → aM → Option (Int × aM)) : Nat → Int → aM → Option (Int × aM)
| 0, _, _ => none
| n + 1, v2, M =>
 if 8 ≤ v2 then
 k v2 M else
 if 0 ≤ v2 ∧ v2 < 8 then
 (some (aup M 147 (v2).toNat 9999)).bind fun m7 =>
 if aIn (v2 + 1) then
 l_X13_brings_6 T v1 k n (v2 + 1) m7 else none else none
theorem tl_X13_brings_6 {d : Nat} (hd : 4 ≤ d) {T : T3} {v1 : Int} {k : Int → aM → Option (Int × aM)} {y : (Int × aM)}  {M0 : aM} (hS : Sh T.1 M0)
    (hk : ∀ (v2 : Int) (u3 u4 : aV) (M : aM), Sh T.1 M → k v2 M = some y → Wp d 280 27 [] [(2, ((138 : Nat) : Int)), (0, v1), (0, v2), u3, u4] [] (M, T) (fun r2 σ2 => r2 = none ∧ σ2 = (y.2, T) ∧ Sh T.1 y.2)) :
    ∀ (n : Nat) (v2 : Int) (u3 u4 : aV) (M : aM), Sh T.1 M → l_X13_brings_6 T.1 v1 k n v2 M = some y → Wp d 280 6 [] [(2, ((138 : Nat) : Int)), (0, v1), (0, v2), u3, u4] [] (M, T) (fun r2 σ2 => r2 = none ∧ σ2 = (y.2, T) ∧ Sh T.1 y.2) := by
  intro n
  induction n with
  | zero =>
    intro v2 u3 u4 M _ h
    exact nomatch (show (none : Option (Int × aM)) = some y from h)
  | succ n ih =>
    intro v2 u3 u4 M sM h
    rw [l_X13_brings_6] at h
    refine y_blk (t := 6) rfl (show fnd bk_X13_brings 6 = some _ from rfl) aB_X13_brings ?_
    refine wp_iload_n (v := v2) rfl ?_
    refine wp_bipush (by decide) ?_
    refine wp_icmp_ge (fun c5 => ?_) (fun c5 => ?_)
    · rw [if_pos c5] at h
      exact hk v2 u3 u4 M sM h
    · rw [if_neg c5] at h
      refine wp_aload_n (v := ((138 : Nat) : Int)) rfl (Int.natCast_nonneg _) ?_
      refine y_get (show ash 138 = (13, 38) from rfl) (Nat.lt_of_lt_of_le (show 138 < 154 by decide) hS.1.1) (v := ((147 : Nat) : Int)) (sM.at 138 27 147 (by decide +kernel)) rfl ?_
      refine wp_iload_n (v := v2) rfl ?_
      refine wp_sipush (by decide) ?_
      obtain ⟨c6, h⟩ := d_ite h
      refine y_iast (show ash 147 = (100, 8) from rfl) (Nat.lt_of_lt_of_le (show 147 < 154 by decide) hS.1.1) c6 ?_
      obtain ⟨m7, em7, h⟩ := d_bind h
      have em7 := Option.some.inj em7
      have s8 : Sh T.1 m7 := em7 ▸ sM.up (Or.inl ⟨by rw [(show ash 147 = (100, 8) from rfl)]; exact Nat.le_of_ble_eq_true rfl, by rw [(show ash 147 = (100, 8) from rfl)]; exact Nat.le_of_ble_eq_true rfl⟩) (by have := (Nat.lt_of_lt_of_le (show 147 < 154 by decide) hS.1.1); have := hS.1.2; omega)
      rw [em7]
      obtain ⟨c9, h⟩ := d_ite h
      refine y_iinc (L1 := [(2, ((138 : Nat) : Int)), (0, v1), (0, (v2 + 1)), u3, u4]) rfl (Nat.le_of_ble_eq_true rfl) ⟨by decide, by decide⟩ c9 rfl ?_
      refine wp_goto ?_
      exact ih (v2 + 1) u3 u4 m7 s8 h
def l_X13_brings_56 (T : Nat) (v1 : Int) (v2 : Int) (k : Int → aM → Option (Int × aM)) : Nat → Int → aM → Option (Int × aM)
| 0, _, _ => none
| n + 1, v3, M =>
 if okW T (M 138 3) then
 if (M (M 138 3).toNat 3) ≤ v3 then
 k v3 M else
 if 0 ≤ v1 ∧ v1 < 3 then
 if 0 ≤ v2 ∧ v2 < 8 then
 (f_X13_calledTo T (M ((M 138 3).toNat + 4) (v1).toNat) (M 150 (v2).toNat) v3 M).bind fun x27 =>
 (f_X13_bit T (M (M 138 3).toNat 4) v3 M).bind fun x29 =>
 if x29 = 0 then
 if aIn (v3 + 1) then
 l_X13_brings_56 T v1 v2 k n (v3 + 1) M else none else
 if 0 ≤ x27 ∧ x27 < 8 then
 if (M 147 (x27).toNat) = 9999 then
 (f_X13_finds T x27 (M 150 (v2).toNat) v3 M).bind fun x36 =>
 if aIn (v3 + 1) then
 l_X13_brings_56 T v1 v2 k n (v3 + 1) x36.2 else none else
 if aIn (v3 + 1) then
 l_X13_brings_56 T v1 v2 k n (v3 + 1) M else none else none else none else none else none
theorem tl_X13_brings_56 {d : Nat} (hd : 4 ≤ d) {T : T3} {v1 : Int} {v2 : Int} {k : Int → aM → Option (Int × aM)} {y : (Int × aM)}  {M0 : aM} (hS : Sh T.1 M0)
    (hk : ∀ (v3 : Int) (u4 : aV) (M : aM), Sh T.1 M → k v3 M = some y → Wp d 280 135 [] [(2, ((138 : Nat) : Int)), (0, v1), (0, v2), (0, v3), u4] [] (M, T) (fun r2 σ2 => r2 = none ∧ σ2 = (y.2, T) ∧ Sh T.1 y.2)) :
    ∀ (n : Nat) (v3 : Int) (u4 : aV) (M : aM), Sh T.1 M → l_X13_brings_56 T.1 v1 v2 k n v3 M = some y → Wp d 280 56 [] [(2, ((138 : Nat) : Int)), (0, v1), (0, v2), (0, v3), u4] [] (M, T) (fun r2 σ2 => r2 = none ∧ σ2 = (y.2, T) ∧ Sh T.1 y.2) := by
  intro n
  induction n with
  | zero =>
    intro v3 u4 M _ h
    exact nomatch (show (none : Option (Int × aM)) = some y from h)
  | succ n ih =>
    intro v3 u4 M sM h
    rw [l_X13_brings_56] at h
    refine y_blk (t := 56) rfl (show fnd bk_X13_brings 56 = some _ from rfl) aB_X13_brings ?_
    refine wp_iload_n (v := v3) rfl ?_
    refine wp_aload_n (v := ((138 : Nat) : Int)) rfl (Int.natCast_nonneg _) ?_
    obtain ⟨c23, h⟩ := d_ite h
    refine y_get (show ash 138 = (13, 38) from rfl) (Nat.lt_of_lt_of_le (show 138 < 154 by decide) hS.1.1) (v := (((M 138 3).toNat : Nat) : Int)) c23.eq rfl ?_
    refine y_get (aW0 hS.1.2 c23.is) (ltW c23.is 0 (by decide)) (v := M (M 138 3).toNat 3) rfl rfl ?_
    refine wp_icmp_ge (fun c24 => ?_) (fun c24 => ?_)
    · rw [if_pos c24] at h
      exact hk v3 u4 M sM h
    · rw [if_neg c24] at h
      refine wp_aload_n (v := ((138 : Nat) : Int)) rfl (Int.natCast_nonneg _) ?_
      refine wp_aload_n (v := ((138 : Nat) : Int)) rfl (Int.natCast_nonneg _) ?_
      refine y_get (show ash 138 = (13, 38) from rfl) (Nat.lt_of_lt_of_le (show 138 < 154 by decide) hS.1.1) (v := (((M 138 3).toNat : Nat) : Int)) c23.eq rfl ?_
      refine y_get (aW0 hS.1.2 c23.is) (ltW c23.is 0 (by decide)) (v := ((((M 138 3).toNat + 4) : Nat) : Int)) (rW17 sM c23.is) rfl ?_
      refine wp_iload_n (v := v1) rfl ?_
      obtain ⟨c25, h⟩ := d_ite h
      refine y_iald (aW4 hS.1.2 c23.is) (Or.inl (ltW c23.is 4 (by decide))) (Nat.ne_of_lt (Nat.lt_of_lt_of_le (ltW c23.is 4 (by decide)) hS.1.2)) c25 (v := M ((M 138 3).toNat + 4) (v1).toNat) rfl ?_
      refine wp_aload_n (v := ((138 : Nat) : Int)) rfl (Int.natCast_nonneg _) ?_
      refine y_get (show ash 138 = (13, 38) from rfl) (Nat.lt_of_lt_of_le (show 138 < 154 by decide) hS.1.1) (v := ((150 : Nat) : Int)) (sM.at 138 30 150 (by decide +kernel)) rfl ?_
      refine wp_iload_n (v := v2) rfl ?_
      obtain ⟨c26, h⟩ := d_ite h
      refine y_iald (show ash 150 = (100, 8) from rfl) (Or.inl (Nat.lt_of_lt_of_le (show 150 < 154 by decide) hS.1.1)) (Nat.ne_of_lt (Nat.lt_of_lt_of_le (Nat.lt_of_lt_of_le (show 150 < 154 by decide) hS.1.1) hS.1.2)) c26 (v := M 150 (v2).toNat) rfl ?_
      refine wp_iload_n (v := v3) rfl ?_
      obtain ⟨x27, e28, h⟩ := d_bind h
      refine y_callV (as := [(0, (M ((M 138 3).toNat + 4) (v1).toNat)), (0, (M 150 (v2).toNat)), (0, v3)]) (S1 := []) (Nat.le_of_ble_eq_true rfl) (by omega) (t_X13_calledTo sM e28) (Nat.le_of_ble_eq_true rfl) rfl (show ash 138 = (13, 38) from rfl) (Nat.lt_of_lt_of_le (show 138 < 154 by decide) hS.1.1) (Nat.le_of_ble_eq_true rfl) (Nat.le_of_ble_eq_true rfl) rfl ?_
      refine y_st (L1 := [(2, ((138 : Nat) : Int)), (0, v1), (0, v2), (0, v3), (0, x27)]) (Nat.le_of_ble_eq_true rfl) rfl ?_
      refine wp_aload_n (v := ((138 : Nat) : Int)) rfl (Int.natCast_nonneg _) ?_
      refine y_get (show ash 138 = (13, 38) from rfl) (Nat.lt_of_lt_of_le (show 138 < 154 by decide) hS.1.1) (v := (((M 138 3).toNat : Nat) : Int)) c23.eq rfl ?_
      refine y_get (aW0 hS.1.2 c23.is) (ltW c23.is 0 (by decide)) (v := M (M 138 3).toNat 4) rfl rfl ?_
      refine wp_iload_n (v := v3) rfl ?_
      obtain ⟨x29, e30, h⟩ := d_bind h
      refine y_callS (as := [(0, (M (M 138 3).toNat 4)), (0, v3)]) (S1 := []) (Nat.le_of_ble_eq_true rfl) (by omega) (t_X13_bit sM e30) (Nat.le_of_ble_eq_true rfl) rfl (Nat.le_of_ble_eq_true rfl) (Nat.le_of_ble_eq_true rfl) rfl ?_
      refine wp_if_eq (fun c31 => ?_) (fun c31 => ?_)
      · rw [if_pos c31] at h
        refine y_blk (t := 129) rfl (show fnd bk_X13_brings 129 = some _ from rfl) aB_X13_brings ?_
        obtain ⟨c32, h⟩ := d_ite h
        refine y_iinc (L1 := [(2, ((138 : Nat) : Int)), (0, v1), (0, v2), (0, (v3 + 1)), (0, x27)]) rfl (Nat.le_of_ble_eq_true rfl) ⟨by decide, by decide⟩ c32 rfl ?_
        refine wp_goto ?_
        exact ih (v3 + 1) (0, x27) M sM h
      · rw [if_neg c31] at h
        refine wp_aload_n (v := ((138 : Nat) : Int)) rfl (Int.natCast_nonneg _) ?_
        refine y_get (show ash 138 = (13, 38) from rfl) (Nat.lt_of_lt_of_le (show 138 < 154 by decide) hS.1.1) (v := ((147 : Nat) : Int)) (sM.at 138 27 147 (by decide +kernel)) rfl ?_
        refine wp_iload (v := x27) rfl ?_
        obtain ⟨c33, h⟩ := d_ite h
        refine y_iald (show ash 147 = (100, 8) from rfl) (Or.inl (Nat.lt_of_lt_of_le (show 147 < 154 by decide) hS.1.1)) (Nat.ne_of_lt (Nat.lt_of_lt_of_le (Nat.lt_of_lt_of_le (show 147 < 154 by decide) hS.1.1) hS.1.2)) c33 (v := M 147 (x27).toNat) rfl ?_
        refine wp_sipush (by decide) ?_
        refine y_ne (fun c34 => ?_) (fun c34 => ?_)
        · rw [if_neg c34] at h
          refine y_blk (t := 129) rfl (show fnd bk_X13_brings 129 = some _ from rfl) aB_X13_brings ?_
          obtain ⟨c35, h⟩ := d_ite h
          refine y_iinc (L1 := [(2, ((138 : Nat) : Int)), (0, v1), (0, v2), (0, (v3 + 1)), (0, x27)]) rfl (Nat.le_of_ble_eq_true rfl) ⟨by decide, by decide⟩ c35 rfl ?_
          refine wp_goto ?_
          exact ih (v3 + 1) (0, x27) M sM h
        · rw [if_pos c34] at h
          refine wp_aload_n (v := ((138 : Nat) : Int)) rfl (Int.natCast_nonneg _) ?_
          refine wp_iload (v := x27) rfl ?_
          refine wp_aload_n (v := ((138 : Nat) : Int)) rfl (Int.natCast_nonneg _) ?_
          refine y_get (show ash 138 = (13, 38) from rfl) (Nat.lt_of_lt_of_le (show 138 < 154 by decide) hS.1.1) (v := ((150 : Nat) : Int)) (sM.at 138 30 150 (by decide +kernel)) rfl ?_
          refine wp_iload_n (v := v2) rfl ?_
          refine y_iald (show ash 150 = (100, 8) from rfl) (Or.inl (Nat.lt_of_lt_of_le (show 150 < 154 by decide) hS.1.1)) (Nat.ne_of_lt (Nat.lt_of_lt_of_le (Nat.lt_of_lt_of_le (show 150 < 154 by decide) hS.1.1) hS.1.2)) c26 (v := M 150 (v2).toNat) rfl ?_
          refine wp_iload_n (v := v3) rfl ?_
          obtain ⟨x36, e37, h⟩ := d_bind h
          obtain ⟨r38, s39⟩ := t_X13_finds sM e37
          refine y_callVv (as := [(0, x27), (0, (M 150 (v2).toNat)), (0, v3)]) (S1 := []) (Nat.le_of_ble_eq_true rfl) (by omega) r38 rfl (show ash 138 = (13, 38) from rfl) (Nat.lt_of_lt_of_le (show 138 < 154 by decide) hS.1.1) (Nat.le_of_ble_eq_true rfl) (Nat.le_of_ble_eq_true rfl) rfl ?_
          refine y_blk (t := 129) rfl (show fnd bk_X13_brings 129 = some _ from rfl) aB_X13_brings ?_
          obtain ⟨c40, h⟩ := d_ite h
          refine y_iinc (L1 := [(2, ((138 : Nat) : Int)), (0, v1), (0, v2), (0, (v3 + 1)), (0, x27)]) rfl (Nat.le_of_ble_eq_true rfl) ⟨by decide, by decide⟩ c40 rfl ?_
          refine wp_goto ?_
          exact ih (v3 + 1) (0, x27) x36.2 s39 h
def l_X13_brings_46 (T : Nat) (v1 : Int) (k : Int → aM → Option (Int × aM)) : Nat → Int → aM → Option (Int × aM)
| 0, _, _ => none
| n + 1, v2, M =>
 if (M 138 31) ≤ v2 then
 k v2 M else
 l_X13_brings_56 T v1 v2 (fun w41 m43 =>
 if aIn (v2 + 1) then
 l_X13_brings_46 T v1 k n (v2 + 1) m43 else none) FU 0 M
theorem tl_X13_brings_46 {d : Nat} (hd : 4 ≤ d) {T : T3} {v1 : Int} {k : Int → aM → Option (Int × aM)} {y : (Int × aM)}  {M0 : aM} (hS : Sh T.1 M0)
    (hk : ∀ (v2 : Int) (u3 u4 : aV) (M : aM), Sh T.1 M → k v2 M = some y → Wp d 280 141 [] [(2, ((138 : Nat) : Int)), (0, v1), (0, v2), u3, u4] [] (M, T) (fun r2 σ2 => r2 = none ∧ σ2 = (y.2, T) ∧ Sh T.1 y.2)) :
    ∀ (n : Nat) (v2 : Int) (u3 u4 : aV) (M : aM), Sh T.1 M → l_X13_brings_46 T.1 v1 k n v2 M = some y → Wp d 280 46 [] [(2, ((138 : Nat) : Int)), (0, v1), (0, v2), u3, u4] [] (M, T) (fun r2 σ2 => r2 = none ∧ σ2 = (y.2, T) ∧ Sh T.1 y.2) := by
  intro n
  induction n with
  | zero =>
    intro v2 u3 u4 M _ h
    exact nomatch (show (none : Option (Int × aM)) = some y from h)
  | succ n ih =>
    intro v2 u3 u4 M sM h
    rw [l_X13_brings_46] at h
    refine y_blk (t := 46) rfl (show fnd bk_X13_brings 46 = some _ from rfl) aB_X13_brings ?_
    refine wp_iload_n (v := v2) rfl ?_
    refine wp_aload_n (v := ((138 : Nat) : Int)) rfl (Int.natCast_nonneg _) ?_
    refine y_get (show ash 138 = (13, 38) from rfl) (Nat.lt_of_lt_of_le (show 138 < 154 by decide) hS.1.1) (v := M 138 31) rfl rfl ?_
    refine wp_icmp_ge (fun c22 => ?_) (fun c22 => ?_)
    · rw [if_pos c22] at h
      exact hk v2 u3 u4 M sM h
    · rw [if_neg c22] at h
      refine wp_iconst ⟨by decide, by decide⟩ ?_
      refine y_stn (L1 := [(2, ((138 : Nat) : Int)), (0, v1), (0, v2), (0, 0), u4]) (Nat.le_of_ble_eq_true rfl) rfl ?_
      refine tl_X13_brings_56 (by omega) hS (fun w41 u42 m43 s44 h => ?_) FU 0 u4 M sM h
      refine y_blk (t := 135) rfl (show fnd bk_X13_brings 135 = some _ from rfl) aB_X13_brings ?_
      obtain ⟨c45, h⟩ := d_ite h
      refine y_iinc (L1 := [(2, ((138 : Nat) : Int)), (0, v1), (0, (v2 + 1)), (0, w41), u42]) rfl (Nat.le_of_ble_eq_true rfl) ⟨by decide, by decide⟩ c45 rfl ?_
      refine wp_goto ?_
      exact ih (v2 + 1) (0, w41) u42 m43 s44 h
def f_X13_brings (T : Nat) (v1 : Int) (M : aM) : Option (Int × aM) :=
 (f_X13_works T M).bind fun x1 =>
 l_X13_brings_6 T v1 (fun w10 m13 =>
 (some (aup m13 138 31 0)).bind fun m15 =>
 if 0 ≤ v1 ∧ v1 < 12 then
 (f_X13_finds T (m15 141 (v1).toNat) (-1) (-1) m15).bind fun x18 =>
 l_X13_brings_46 T v1 (fun w46 m49 =>
 some (0, m49)) FU 0 x18.2 else none) FU 0 x1.2
theorem t_X13_brings {T : T3} {v1 : Int} {M : aM} {y : (Int × aM)}  (hS : Sh T.1 M) (h : f_X13_brings T.1 v1 M = some y) : Mr 4 280 [(2, ((138 : Nat) : Int)), (0, v1)] M (none) y.2 T ∧ Sh T.1 y.2 := by
  have key : ∀ d, 4 ≤ d → Wp d 280 0 [] [(2, ((138 : Nat) : Int)), (0, v1), (9, 0), (9, 0), (9, 0)] [] (M, T) (fun r2 σ2 => r2 = none ∧ σ2 = (y.2, T) ∧ Sh T.1 y.2) := by
    intro d hd
    rw [f_X13_brings] at h
    refine y_blk (t := 0) rfl (show fnd bk_X13_brings 0 = some _ from rfl) aB_X13_brings ?_
    refine wp_aload_n (v := ((138 : Nat) : Int)) rfl (Int.natCast_nonneg _) ?_
    obtain ⟨x1, e2, h⟩ := d_bind h
    obtain ⟨r3, s4⟩ := t_X13_works hS e2
    refine y_callVv (as := []) (S1 := []) (Nat.le_of_ble_eq_true rfl) (by omega) r3 rfl (show ash 138 = (13, 38) from rfl) (Nat.lt_of_lt_of_le (show 138 < 154 by decide) hS.1.1) (Nat.le_of_ble_eq_true rfl) (Nat.le_of_ble_eq_true rfl) rfl ?_
    refine wp_iconst ⟨by decide, by decide⟩ ?_
    refine y_stn (L1 := [(2, ((138 : Nat) : Int)), (0, v1), (0, 0), (9, 0), (9, 0)]) (Nat.le_of_ble_eq_true rfl) rfl ?_
    refine tl_X13_brings_6 (by omega) hS (fun w10 u11 u12 m13 s14 h => ?_) FU 0 (9, 0) (9, 0) x1.2 s4 h
    refine y_blk (t := 27) rfl (show fnd bk_X13_brings 27 = some _ from rfl) aB_X13_brings ?_
    refine wp_aload_n (v := ((138 : Nat) : Int)) rfl (Int.natCast_nonneg _) ?_
    refine wp_iconst ⟨by decide, by decide⟩ ?_
    refine y_put (show ash 138 = (13, 38) from rfl) (Nat.lt_of_lt_of_le (show 138 < 154 by decide) hS.1.1) rfl ?_
    obtain ⟨m15, em15, h⟩ := d_bind h
    have em15 := Option.some.inj em15
    have s16 : Sh T.1 m15 := em15 ▸ s14.up (Or.inr ⟨by rw [(show ash 138 = (13, 38) from rfl)]; decide, by rw [(show ash 138 = (13, 38) from rfl)]; decide⟩) (by have := (Nat.lt_of_lt_of_le (show 138 < 154 by decide) hS.1.1); have := hS.1.2; omega)
    rw [em15]
    refine wp_aload_n (v := ((138 : Nat) : Int)) rfl (Int.natCast_nonneg _) ?_
    refine wp_aload_n (v := ((138 : Nat) : Int)) rfl (Int.natCast_nonneg _) ?_
    refine y_get (show ash 138 = (13, 38) from rfl) (Nat.lt_of_lt_of_le (show 138 < 154 by decide) hS.1.1) (v := ((141 : Nat) : Int)) (s16.at 138 17 141 (by decide +kernel)) rfl ?_
    refine wp_iload_n (v := v1) rfl ?_
    obtain ⟨c17, h⟩ := d_ite h
    refine y_iald (show ash 141 = (100, 12) from rfl) (Or.inl (Nat.lt_of_lt_of_le (show 141 < 154 by decide) hS.1.1)) (Nat.ne_of_lt (Nat.lt_of_lt_of_le (Nat.lt_of_lt_of_le (show 141 < 154 by decide) hS.1.1) hS.1.2)) c17 (v := m15 141 (v1).toNat) rfl ?_
    refine wp_iconst ⟨by decide, by decide⟩ ?_
    refine wp_iconst ⟨by decide, by decide⟩ ?_
    obtain ⟨x18, e19, h⟩ := d_bind h
    obtain ⟨r20, s21⟩ := t_X13_finds s16 e19
    refine y_callVv (as := [(0, (m15 141 (v1).toNat)), (0, (-1)), (0, (-1))]) (S1 := []) (Nat.le_of_ble_eq_true rfl) (by omega) r20 rfl (show ash 138 = (13, 38) from rfl) (Nat.lt_of_lt_of_le (show 138 < 154 by decide) hS.1.1) (Nat.le_of_ble_eq_true rfl) (Nat.le_of_ble_eq_true rfl) rfl ?_
    refine wp_iconst ⟨by decide, by decide⟩ ?_
    refine y_stn (L1 := [(2, ((138 : Nat) : Int)), (0, v1), (0, 0), u11, u12]) (Nat.le_of_ble_eq_true rfl) rfl ?_
    refine tl_X13_brings_46 (by omega) hS (fun w46 u47 u48 m49 s50 h => ?_) FU 0 u11 u12 x18.2 s21 h
    refine y_blk (t := 141) rfl (show fnd bk_X13_brings 141 = some _ from rfl) aB_X13_brings ?_
    cases h
    exact wp_return ⟨rfl, rfl, s50⟩
  exact ⟨fun d hd => Ms.of3 (key d hd), Ms.sh (key 4 (Nat.le_refl _))⟩
theorem aB_X13_bring : ∀ pc, aB 281 pc = fnd bk_X13_bring pc := fun _ => rfl
def f_X13_bring (T : Nat) (v1 : Int) (v2 : Int) (M : aM) : Option (Int × aM) :=
 (some (aup M 138 0 0)).bind fun m1 =>
 (f_X13_isVoice T v1 m1).bind fun x3 =>
 if x3 = 0 then
 (f_X13_refused T 1 m1).bind fun x6 =>
 some (x6.1, x6.2) else
 (f_X13_isCave T v2 m1).bind fun x10 =>
 if x10 = 0 then
 (f_X13_refused T 1 m1).bind fun x24 =>
 some (x24.1, x24.2) else
 (f_X13_brings T v1 m1).bind fun x13 =>
 if 0 ≤ v2 ∧ v2 < 8 then
 (f_X13_told T (x13.2 147 (v2).toNat) x13.2).bind fun x18 =>
 (f_X13_good T x18 x13.2).bind fun x20 =>
 some (x20.1, x20.2) else none
theorem t_X13_bring {T : T3} {v1 : Int} {v2 : Int} {M : aM} {y : (Int × aM)}  (hS : Sh T.1 M) (h : f_X13_bring T.1 v1 v2 M = some y) : Mr 5 281 [(2, ((138 : Nat) : Int)), (0, v1), (0, v2)] M (some (0, y.1)) y.2 T ∧ Sh T.1 y.2 := by
  have key : ∀ d, 5 ≤ d → Wp d 281 0 [] [(2, ((138 : Nat) : Int)), (0, v1), (0, v2)] [] (M, T) (fun r2 σ2 => r2 = some (0, y.1) ∧ σ2 = (y.2, T) ∧ Sh T.1 y.2) := by
    intro d hd
    rw [f_X13_bring] at h
    refine y_blk (t := 0) rfl (show fnd bk_X13_bring 0 = some _ from rfl) aB_X13_bring ?_
    refine wp_aload_n (v := ((138 : Nat) : Int)) rfl (Int.natCast_nonneg _) ?_
    refine wp_iconst ⟨by decide, by decide⟩ ?_
    refine y_put (show ash 138 = (13, 38) from rfl) (Nat.lt_of_lt_of_le (show 138 < 154 by decide) hS.1.1) rfl ?_
    obtain ⟨m1, em1, h⟩ := d_bind h
    have em1 := Option.some.inj em1
    have s2 : Sh T.1 m1 := em1 ▸ hS.up (Or.inr ⟨by rw [(show ash 138 = (13, 38) from rfl)]; decide, by rw [(show ash 138 = (13, 38) from rfl)]; decide⟩) (by have := (Nat.lt_of_lt_of_le (show 138 < 154 by decide) hS.1.1); have := hS.1.2; omega)
    rw [em1]
    refine wp_aload_n (v := ((138 : Nat) : Int)) rfl (Int.natCast_nonneg _) ?_
    refine wp_iload_n (v := v1) rfl ?_
    obtain ⟨x3, e4, h⟩ := d_bind h
    refine y_callV (as := [(0, v1)]) (S1 := []) (Nat.le_of_ble_eq_true rfl) (by omega) (t_X13_isVoice s2 e4) (Nat.le_of_ble_eq_true rfl) rfl (show ash 138 = (13, 38) from rfl) (Nat.lt_of_lt_of_le (show 138 < 154 by decide) hS.1.1) (Nat.le_of_ble_eq_true rfl) (Nat.le_of_ble_eq_true rfl) rfl ?_
    refine wp_if_eq (fun c5 => ?_) (fun c5 => ?_)
    · rw [if_pos c5] at h
      refine y_blk (t := 21) rfl (show fnd bk_X13_bring 21 = some _ from rfl) aB_X13_bring ?_
      refine wp_aload_n (v := ((138 : Nat) : Int)) rfl (Int.natCast_nonneg _) ?_
      refine wp_iconst ⟨by decide, by decide⟩ ?_
      obtain ⟨x6, e7, h⟩ := d_bind h
      obtain ⟨r8, s9⟩ := t_X13_refused s2 e7
      refine y_callV (as := [(0, 1)]) (S1 := []) (Nat.le_of_ble_eq_true rfl) (by omega) r8 (Nat.le_of_ble_eq_true rfl) rfl (show ash 138 = (13, 38) from rfl) (Nat.lt_of_lt_of_le (show 138 < 154 by decide) hS.1.1) (Nat.le_of_ble_eq_true rfl) (Nat.le_of_ble_eq_true rfl) rfl ?_
      cases h
      exact y_ret0 (Or.inl rfl) ⟨rfl, rfl, s9⟩
    · rw [if_neg c5] at h
      refine wp_aload_n (v := ((138 : Nat) : Int)) rfl (Int.natCast_nonneg _) ?_
      refine wp_iload_n (v := v2) rfl ?_
      obtain ⟨x10, e11, h⟩ := d_bind h
      refine y_callV (as := [(0, v2)]) (S1 := []) (Nat.le_of_ble_eq_true rfl) (by omega) (t_X13_isCave s2 e11) (Nat.le_of_ble_eq_true rfl) rfl (show ash 138 = (13, 38) from rfl) (Nat.lt_of_lt_of_le (show 138 < 154 by decide) hS.1.1) (Nat.le_of_ble_eq_true rfl) (Nat.le_of_ble_eq_true rfl) rfl ?_
      refine y_nez (fun c12 => ?_) (fun c12 => ?_)
      · rw [if_neg c12] at h
        refine y_blk (t := 27) rfl (show fnd bk_X13_bring 27 = some _ from rfl) aB_X13_bring ?_
        refine wp_aload_n (v := ((138 : Nat) : Int)) rfl (Int.natCast_nonneg _) ?_
        refine wp_iload_n (v := v1) rfl ?_
        obtain ⟨x13, e14, h⟩ := d_bind h
        obtain ⟨r15, s16⟩ := t_X13_brings s2 e14
        refine y_callVv (as := [(0, v1)]) (S1 := []) (Nat.le_of_ble_eq_true rfl) (by omega) r15 rfl (show ash 138 = (13, 38) from rfl) (Nat.lt_of_lt_of_le (show 138 < 154 by decide) hS.1.1) (Nat.le_of_ble_eq_true rfl) (Nat.le_of_ble_eq_true rfl) rfl ?_
        refine wp_aload_n (v := ((138 : Nat) : Int)) rfl (Int.natCast_nonneg _) ?_
        refine wp_aload_n (v := ((138 : Nat) : Int)) rfl (Int.natCast_nonneg _) ?_
        refine wp_aload_n (v := ((138 : Nat) : Int)) rfl (Int.natCast_nonneg _) ?_
        refine y_get (show ash 138 = (13, 38) from rfl) (Nat.lt_of_lt_of_le (show 138 < 154 by decide) hS.1.1) (v := ((147 : Nat) : Int)) (s16.at 138 27 147 (by decide +kernel)) rfl ?_
        refine wp_iload_n (v := v2) rfl ?_
        obtain ⟨c17, h⟩ := d_ite h
        refine y_iald (show ash 147 = (100, 8) from rfl) (Or.inl (Nat.lt_of_lt_of_le (show 147 < 154 by decide) hS.1.1)) (Nat.ne_of_lt (Nat.lt_of_lt_of_le (Nat.lt_of_lt_of_le (show 147 < 154 by decide) hS.1.1) hS.1.2)) c17 (v := x13.2 147 (v2).toNat) rfl ?_
        obtain ⟨x18, e19, h⟩ := d_bind h
        refine y_callV (as := [(0, (x13.2 147 (v2).toNat))]) (S1 := [(2, ((138 : Nat) : Int))]) (Nat.le_of_ble_eq_true rfl) (by omega) (t_X13_told s16 e19) (Nat.le_of_ble_eq_true rfl) rfl (show ash 138 = (13, 38) from rfl) (Nat.lt_of_lt_of_le (show 138 < 154 by decide) hS.1.1) (Nat.le_of_ble_eq_true rfl) (Nat.le_of_ble_eq_true rfl) rfl ?_
        obtain ⟨x20, e21, h⟩ := d_bind h
        obtain ⟨r22, s23⟩ := t_X13_good s16 e21
        refine y_callV (as := [(0, x18)]) (S1 := []) (Nat.le_of_ble_eq_true rfl) (by omega) r22 (Nat.le_of_ble_eq_true rfl) rfl (show ash 138 = (13, 38) from rfl) (Nat.lt_of_lt_of_le (show 138 < 154 by decide) hS.1.1) (Nat.le_of_ble_eq_true rfl) (Nat.le_of_ble_eq_true rfl) rfl ?_
        cases h
        exact y_ret0 (Or.inl rfl) ⟨rfl, rfl, s23⟩
      · rw [if_pos c12] at h
        refine y_blk (t := 21) rfl (show fnd bk_X13_bring 21 = some _ from rfl) aB_X13_bring ?_
        refine wp_aload_n (v := ((138 : Nat) : Int)) rfl (Int.natCast_nonneg _) ?_
        refine wp_iconst ⟨by decide, by decide⟩ ?_
        obtain ⟨x24, e25, h⟩ := d_bind h
        obtain ⟨r26, s27⟩ := t_X13_refused s2 e25
        refine y_callV (as := [(0, 1)]) (S1 := []) (Nat.le_of_ble_eq_true rfl) (by omega) r26 (Nat.le_of_ble_eq_true rfl) rfl (show ash 138 = (13, 38) from rfl) (Nat.lt_of_lt_of_le (show 138 < 154 by decide) hS.1.1) (Nat.le_of_ble_eq_true rfl) (Nat.le_of_ble_eq_true rfl) rfl ?_
        cases h
        exact y_ret0 (Or.inl rfl) ⟨rfl, rfl, s27⟩
  exact ⟨fun d hd => Ms.of3 (key d hd), Ms.sh (key 5 (Nat.le_refl _))⟩

/-! ===== methods as functions ===== -/
theorem aB_X9_advance : ∀ pc, aB 98 pc = fnd bk_X9_advance pc := fun _ => rfl
def l_X9_advance_8 (T : Nat)  (k : aM → Option (Int × aM)) : Nat → aM → Option (Int × aM)
| 0, _ => none
| n + 1, M =>
 if (M 34 1) ≤ (M 34 3) then
 k  M else
 if 0 ≤ (M 34 3) ∧ (M 34 3) < 900 then
 if (M 1 ((M 34 3)).toNat) = 32 then
 if aIn ((M 34 3) + 1) then
 (some (aup M 34 3 ((M 34 3) + 1))).bind fun m7 =>
 l_X9_advance_8 T k n  m7 else none else
 k  M else none
theorem tl_X9_advance_8 {d : Nat} (hd : 1 ≤ d) {T : T3}  {k : aM → Option (Int × aM)} {y : (Int × aM)}  {M0 : aM} (hS : Sh T.1 M0)
    (hk : ∀  (M : aM), Sh T.1 M → k  M = some y → Wp d 98 46 [] [(2, ((34 : Nat) : Int))] [] (M, T) (fun r2 σ2 => r2 = none ∧ σ2 = (y.2, T) ∧ Sh T.1 y.2)) :
    ∀ (n : Nat)  (M : aM), Sh T.1 M → l_X9_advance_8 T.1 k n  M = some y → Wp d 98 8 [] [(2, ((34 : Nat) : Int))] [] (M, T) (fun r2 σ2 => r2 = none ∧ σ2 = (y.2, T) ∧ Sh T.1 y.2) := by
  intro n
  induction n with
  | zero =>
    intro  M _ h
    exact nomatch (show (none : Option (Int × aM)) = some y from h)
  | succ n ih =>
    intro  M sM h
    rw [l_X9_advance_8] at h
    refine y_blk (t := 8) rfl (show fnd bk_X9_advance 8 = some _ from rfl) aB_X9_advance ?_
    refine wp_aload_n (v := ((34 : Nat) : Int)) rfl (Int.natCast_nonneg _) ?_
    refine y_get (show ash 34 = (9, 5) from rfl) (Nat.lt_of_lt_of_le (show 34 < 154 by decide) hS.1.1) (v := M 34 3) rfl rfl ?_
    refine wp_aload_n (v := ((34 : Nat) : Int)) rfl (Int.natCast_nonneg _) ?_
    refine y_get (show ash 34 = (9, 5) from rfl) (Nat.lt_of_lt_of_le (show 34 < 154 by decide) hS.1.1) (v := M 34 1) rfl rfl ?_
    refine wp_icmp_ge (fun c3 => ?_) (fun c3 => ?_)
    · rw [if_pos c3] at h
      exact hk   M sM h
    · rw [if_neg c3] at h
      refine wp_aload_n (v := ((34 : Nat) : Int)) rfl (Int.natCast_nonneg _) ?_
      refine y_get (show ash 34 = (9, 5) from rfl) (Nat.lt_of_lt_of_le (show 34 < 154 by decide) hS.1.1) (v := ((1 : Nat) : Int)) (sM.at 34 0 1 (by decide +kernel)) rfl ?_
      refine wp_aload_n (v := ((34 : Nat) : Int)) rfl (Int.natCast_nonneg _) ?_
      refine y_get (show ash 34 = (9, 5) from rfl) (Nat.lt_of_lt_of_le (show 34 < 154 by decide) hS.1.1) (v := M 34 3) rfl rfl ?_
      obtain ⟨c4, h⟩ := d_ite h
      refine y_bald (show ash 1 = (101, 900) from rfl) (Nat.lt_of_lt_of_le (show 1 < 154 by decide) hS.1.1) (Nat.ne_of_lt (Nat.lt_of_lt_of_le (Nat.lt_of_lt_of_le (show 1 < 154 by decide) hS.1.1) hS.1.2)) c4 (v := M 1 ((M 34 3)).toNat) rfl ?_
      refine wp_bipush (by decide) ?_
      refine y_ne (fun c5 => ?_) (fun c5 => ?_)
      · rw [if_neg c5] at h
        exact hk   M sM h
      · rw [if_pos c5] at h
        refine wp_aload_n (v := ((34 : Nat) : Int)) rfl (Int.natCast_nonneg _) ?_
        refine wp_dup (Or.inr rfl) ?_
        refine y_get (show ash 34 = (9, 5) from rfl) (Nat.lt_of_lt_of_le (show 34 < 154 by decide) hS.1.1) (v := M 34 3) rfl rfl ?_
        refine wp_iconst ⟨by decide, by decide⟩ ?_
        obtain ⟨c6, h⟩ := d_ite h
        refine wp_iadd c6 ?_
        refine y_put (show ash 34 = (9, 5) from rfl) (Nat.lt_of_lt_of_le (show 34 < 154 by decide) hS.1.1) rfl ?_
        obtain ⟨m7, em7, h⟩ := d_bind h
        have em7 := Option.some.inj em7
        have s8 : Sh T.1 m7 := em7 ▸ sM.up (Or.inr ⟨by rw [(show ash 34 = (9, 5) from rfl)]; decide, by rw [(show ash 34 = (9, 5) from rfl)]; decide⟩) (by have := (Nat.lt_of_lt_of_le (show 34 < 154 by decide) hS.1.1); have := hS.1.2; omega)
        rw [em7]
        refine wp_goto ?_
        exact ih   m7 s8 h
def l_X9_advance_168 (T : Nat)  (k : aM → Option (Int × aM)) : Nat → aM → Option (Int × aM)
| 0, _ => none
| n + 1, M =>
 if (M 34 1) ≤ (M 34 2) then
 k  M else
 if 0 ≤ (M 34 2) ∧ (M 34 2) < 900 then
 (f_X9_isDigit T (M 1 ((M 34 2)).toNat) M).bind fun x34 =>
 if x34 = 0 then
 k  M else
 if aIn ((M 34 2) + 1) then
 (some (aup M 34 2 ((M 34 2) + 1))).bind fun m38 =>
 l_X9_advance_168 T k n  m38 else none else none
theorem tl_X9_advance_168 {d : Nat} (hd : 1 ≤ d) {T : T3}  {k : aM → Option (Int × aM)} {y : (Int × aM)}  {M0 : aM} (hS : Sh T.1 M0)
    (hk : ∀  (M : aM), Sh T.1 M → k  M = some y → Wp d 98 207 [] [(2, ((34 : Nat) : Int))] [] (M, T) (fun r2 σ2 => r2 = none ∧ σ2 = (y.2, T) ∧ Sh T.1 y.2)) :
    ∀ (n : Nat)  (M : aM), Sh T.1 M → l_X9_advance_168 T.1 k n  M = some y → Wp d 98 168 [] [(2, ((34 : Nat) : Int))] [] (M, T) (fun r2 σ2 => r2 = none ∧ σ2 = (y.2, T) ∧ Sh T.1 y.2) := by
  intro n
  induction n with
  | zero =>
    intro  M _ h
    exact nomatch (show (none : Option (Int × aM)) = some y from h)
  | succ n ih =>
    intro  M sM h
    rw [l_X9_advance_168] at h
    refine y_blk (t := 168) rfl (show fnd bk_X9_advance 168 = some _ from rfl) aB_X9_advance ?_
    refine wp_aload_n (v := ((34 : Nat) : Int)) rfl (Int.natCast_nonneg _) ?_
    refine y_get (show ash 34 = (9, 5) from rfl) (Nat.lt_of_lt_of_le (show 34 < 154 by decide) hS.1.1) (v := M 34 2) rfl rfl ?_
    refine wp_aload_n (v := ((34 : Nat) : Int)) rfl (Int.natCast_nonneg _) ?_
    refine y_get (show ash 34 = (9, 5) from rfl) (Nat.lt_of_lt_of_le (show 34 < 154 by decide) hS.1.1) (v := M 34 1) rfl rfl ?_
    refine wp_icmp_ge (fun c32 => ?_) (fun c32 => ?_)
    · rw [if_pos c32] at h
      exact hk   M sM h
    · rw [if_neg c32] at h
      refine wp_aload_n (v := ((34 : Nat) : Int)) rfl (Int.natCast_nonneg _) ?_
      refine y_get (show ash 34 = (9, 5) from rfl) (Nat.lt_of_lt_of_le (show 34 < 154 by decide) hS.1.1) (v := ((1 : Nat) : Int)) (sM.at 34 0 1 (by decide +kernel)) rfl ?_
      refine wp_aload_n (v := ((34 : Nat) : Int)) rfl (Int.natCast_nonneg _) ?_
      refine y_get (show ash 34 = (9, 5) from rfl) (Nat.lt_of_lt_of_le (show 34 < 154 by decide) hS.1.1) (v := M 34 2) rfl rfl ?_
      obtain ⟨c33, h⟩ := d_ite h
      refine y_bald (show ash 1 = (101, 900) from rfl) (Nat.lt_of_lt_of_le (show 1 < 154 by decide) hS.1.1) (Nat.ne_of_lt (Nat.lt_of_lt_of_le (Nat.lt_of_lt_of_le (show 1 < 154 by decide) hS.1.1) hS.1.2)) c33 (v := M 1 ((M 34 2)).toNat) rfl ?_
      obtain ⟨x34, e35, h⟩ := d_bind h
      refine y_callS (as := [(0, (M 1 ((M 34 2)).toNat))]) (S1 := []) (Nat.le_of_ble_eq_true rfl) (by omega) (t_X9_isDigit sM e35) (Nat.le_of_ble_eq_true rfl) rfl (Nat.le_of_ble_eq_true rfl) (Nat.le_of_ble_eq_true rfl) rfl ?_
      refine wp_if_eq (fun c36 => ?_) (fun c36 => ?_)
      · rw [if_pos c36] at h
        exact hk   M sM h
      · rw [if_neg c36] at h
        refine wp_aload_n (v := ((34 : Nat) : Int)) rfl (Int.natCast_nonneg _) ?_
        refine wp_dup (Or.inr rfl) ?_
        refine y_get (show ash 34 = (9, 5) from rfl) (Nat.lt_of_lt_of_le (show 34 < 154 by decide) hS.1.1) (v := M 34 2) rfl rfl ?_
        refine wp_iconst ⟨by decide, by decide⟩ ?_
        obtain ⟨c37, h⟩ := d_ite h
        refine wp_iadd c37 ?_
        refine y_put (show ash 34 = (9, 5) from rfl) (Nat.lt_of_lt_of_le (show 34 < 154 by decide) hS.1.1) rfl ?_
        obtain ⟨m38, em38, h⟩ := d_bind h
        have em38 := Option.some.inj em38
        have s39 : Sh T.1 m38 := em38 ▸ sM.up (Or.inr ⟨by rw [(show ash 34 = (9, 5) from rfl)]; decide, by rw [(show ash 34 = (9, 5) from rfl)]; decide⟩) (by have := (Nat.lt_of_lt_of_le (show 34 < 154 by decide) hS.1.1); have := hS.1.2; omega)
        rw [em38]
        refine wp_goto ?_
        exact ih   m38 s39 h
def l_X9_advance_88 (T : Nat)  (k : aM → Option (Int × aM)) : Nat → aM → Option (Int × aM)
| 0, _ => none
| n + 1, M =>
 if (M 34 1) ≤ (M 34 2) then
 k  M else
 if 0 ≤ (M 34 2) ∧ (M 34 2) < 900 then
 (f_X9_isLetter T (M 1 ((M 34 2)).toNat) M).bind fun x50 =>
 if x50 = 0 then
 k  M else
 if aIn ((M 34 2) + 1) then
 (some (aup M 34 2 ((M 34 2) + 1))).bind fun m54 =>
 l_X9_advance_88 T k n  m54 else none else none
theorem tl_X9_advance_88 {d : Nat} (hd : 1 ≤ d) {T : T3}  {k : aM → Option (Int × aM)} {y : (Int × aM)}  {M0 : aM} (hS : Sh T.1 M0)
    (hk : ∀  (M : aM), Sh T.1 M → k  M = some y → Wp d 98 127 [] [(2, ((34 : Nat) : Int))] [] (M, T) (fun r2 σ2 => r2 = none ∧ σ2 = (y.2, T) ∧ Sh T.1 y.2)) :
    ∀ (n : Nat)  (M : aM), Sh T.1 M → l_X9_advance_88 T.1 k n  M = some y → Wp d 98 88 [] [(2, ((34 : Nat) : Int))] [] (M, T) (fun r2 σ2 => r2 = none ∧ σ2 = (y.2, T) ∧ Sh T.1 y.2) := by
  intro n
  induction n with
  | zero =>
    intro  M _ h
    exact nomatch (show (none : Option (Int × aM)) = some y from h)
  | succ n ih =>
    intro  M sM h
    rw [l_X9_advance_88] at h
    refine y_blk (t := 88) rfl (show fnd bk_X9_advance 88 = some _ from rfl) aB_X9_advance ?_
    refine wp_aload_n (v := ((34 : Nat) : Int)) rfl (Int.natCast_nonneg _) ?_
    refine y_get (show ash 34 = (9, 5) from rfl) (Nat.lt_of_lt_of_le (show 34 < 154 by decide) hS.1.1) (v := M 34 2) rfl rfl ?_
    refine wp_aload_n (v := ((34 : Nat) : Int)) rfl (Int.natCast_nonneg _) ?_
    refine y_get (show ash 34 = (9, 5) from rfl) (Nat.lt_of_lt_of_le (show 34 < 154 by decide) hS.1.1) (v := M 34 1) rfl rfl ?_
    refine wp_icmp_ge (fun c48 => ?_) (fun c48 => ?_)
    · rw [if_pos c48] at h
      exact hk   M sM h
    · rw [if_neg c48] at h
      refine wp_aload_n (v := ((34 : Nat) : Int)) rfl (Int.natCast_nonneg _) ?_
      refine y_get (show ash 34 = (9, 5) from rfl) (Nat.lt_of_lt_of_le (show 34 < 154 by decide) hS.1.1) (v := ((1 : Nat) : Int)) (sM.at 34 0 1 (by decide +kernel)) rfl ?_
      refine wp_aload_n (v := ((34 : Nat) : Int)) rfl (Int.natCast_nonneg _) ?_
      refine y_get (show ash 34 = (9, 5) from rfl) (Nat.lt_of_lt_of_le (show 34 < 154 by decide) hS.1.1) (v := M 34 2) rfl rfl ?_
      obtain ⟨c49, h⟩ := d_ite h
      refine y_bald (show ash 1 = (101, 900) from rfl) (Nat.lt_of_lt_of_le (show 1 < 154 by decide) hS.1.1) (Nat.ne_of_lt (Nat.lt_of_lt_of_le (Nat.lt_of_lt_of_le (show 1 < 154 by decide) hS.1.1) hS.1.2)) c49 (v := M 1 ((M 34 2)).toNat) rfl ?_
      obtain ⟨x50, e51, h⟩ := d_bind h
      refine y_callS (as := [(0, (M 1 ((M 34 2)).toNat))]) (S1 := []) (Nat.le_of_ble_eq_true rfl) (by omega) (t_X9_isLetter sM e51) (Nat.le_of_ble_eq_true rfl) rfl (Nat.le_of_ble_eq_true rfl) (Nat.le_of_ble_eq_true rfl) rfl ?_
      refine wp_if_eq (fun c52 => ?_) (fun c52 => ?_)
      · rw [if_pos c52] at h
        exact hk   M sM h
      · rw [if_neg c52] at h
        refine wp_aload_n (v := ((34 : Nat) : Int)) rfl (Int.natCast_nonneg _) ?_
        refine wp_dup (Or.inr rfl) ?_
        refine y_get (show ash 34 = (9, 5) from rfl) (Nat.lt_of_lt_of_le (show 34 < 154 by decide) hS.1.1) (v := M 34 2) rfl rfl ?_
        refine wp_iconst ⟨by decide, by decide⟩ ?_
        obtain ⟨c53, h⟩ := d_ite h
        refine wp_iadd c53 ?_
        refine y_put (show ash 34 = (9, 5) from rfl) (Nat.lt_of_lt_of_le (show 34 < 154 by decide) hS.1.1) rfl ?_
        obtain ⟨m54, em54, h⟩ := d_bind h
        have em54 := Option.some.inj em54
        have s55 : Sh T.1 m54 := em54 ▸ sM.up (Or.inr ⟨by rw [(show ash 34 = (9, 5) from rfl)]; decide, by rw [(show ash 34 = (9, 5) from rfl)]; decide⟩) (by have := (Nat.lt_of_lt_of_le (show 34 < 154 by decide) hS.1.1); have := hS.1.2; omega)
        rw [em54]
        refine wp_goto ?_
        exact ih   m54 s55 h
def f_X9_advance (T : Nat)  (M : aM) : Option (Int × aM) :=
 (some (aup M 34 3 (M 34 2))).bind fun m1 =>
 l_X9_advance_8 T (fun  m9 =>
 (some (aup m9 34 2 (m9 34 3))).bind fun m11 =>
 if (m11 34 3) < (m11 34 1) then
 if 0 ≤ (m11 34 3) ∧ (m11 34 3) < 900 then
 (f_X9_isLetter T (m11 1 ((m11 34 3)).toNat) m11).bind fun x15 =>
 if x15 = 0 then
 (f_X9_isDigit T (m11 1 ((m11 34 3)).toNat) m11).bind fun x18 =>
 if x18 = 0 then
 if (m11 1 ((m11 34 3)).toNat) = 59 then
 (some (aup m11 34 4 3)).bind fun m27 =>
 if aIn ((m27 34 2) + 1) then
 (some (aup m27 34 2 ((m27 34 2) + 1))).bind fun m30 =>
 some (0, m30) else none else
 (some (aup m11 34 4 4)).bind fun m22 =>
 if aIn ((m22 34 2) + 1) then
 (some (aup m22 34 2 ((m22 34 2) + 1))).bind fun m25 =>
 some (0, m25) else none else
 l_X9_advance_168 T (fun  m40 =>
 if aIn ((m40 34 2) - (m40 34 3)) then
 if 3 < ((m40 34 2) - (m40 34 3)) then
 (some (aup m40 34 4 4)).bind fun m44 =>
 some (0, m44) else
 (some (aup m40 34 4 2)).bind fun m46 =>
 some (0, m46) else none) FU  m11 else
 l_X9_advance_88 T (fun  m56 =>
 if aIn ((m56 34 2) - (m56 34 3)) then
 if 8 < ((m56 34 2) - (m56 34 3)) then
 (some (aup m56 34 4 4)).bind fun m60 =>
 some (0, m60) else
 (some (aup m56 34 4 1)).bind fun m62 =>
 some (0, m62) else none) FU  m11 else none else
 (some (aup m11 34 4 0)).bind fun m64 =>
 some (0, m64)) FU  m1
theorem t_X9_advance {T : T3}  {M : aM} {y : (Int × aM)}  (hS : Sh T.1 M) (h : f_X9_advance T.1  M = some y) : Mr 1 98 [(2, ((34 : Nat) : Int))] M (none) y.2 T ∧ Sh T.1 y.2 := by
  have key : ∀ d, 1 ≤ d → Wp d 98 0 [] [(2, ((34 : Nat) : Int))] [] (M, T) (fun r2 σ2 => r2 = none ∧ σ2 = (y.2, T) ∧ Sh T.1 y.2) := by
    intro d hd
    rw [f_X9_advance] at h
    refine y_blk (t := 0) rfl (show fnd bk_X9_advance 0 = some _ from rfl) aB_X9_advance ?_
    refine wp_aload_n (v := ((34 : Nat) : Int)) rfl (Int.natCast_nonneg _) ?_
    refine wp_aload_n (v := ((34 : Nat) : Int)) rfl (Int.natCast_nonneg _) ?_
    refine y_get (show ash 34 = (9, 5) from rfl) (Nat.lt_of_lt_of_le (show 34 < 154 by decide) hS.1.1) (v := M 34 2) rfl rfl ?_
    refine y_put (show ash 34 = (9, 5) from rfl) (Nat.lt_of_lt_of_le (show 34 < 154 by decide) hS.1.1) rfl ?_
    obtain ⟨m1, em1, h⟩ := d_bind h
    have em1 := Option.some.inj em1
    have s2 : Sh T.1 m1 := em1 ▸ hS.up (Or.inr ⟨by rw [(show ash 34 = (9, 5) from rfl)]; decide, by rw [(show ash 34 = (9, 5) from rfl)]; decide⟩) (by have := (Nat.lt_of_lt_of_le (show 34 < 154 by decide) hS.1.1); have := hS.1.2; omega)
    rw [em1]
    refine tl_X9_advance_8 (by omega) hS (fun   m9 s10 h => ?_) FU   m1 s2 h
    refine y_blk (t := 46) rfl (show fnd bk_X9_advance 46 = some _ from rfl) aB_X9_advance ?_
    refine wp_aload_n (v := ((34 : Nat) : Int)) rfl (Int.natCast_nonneg _) ?_
    refine wp_aload_n (v := ((34 : Nat) : Int)) rfl (Int.natCast_nonneg _) ?_
    refine y_get (show ash 34 = (9, 5) from rfl) (Nat.lt_of_lt_of_le (show 34 < 154 by decide) hS.1.1) (v := m9 34 3) rfl rfl ?_
    refine y_put (show ash 34 = (9, 5) from rfl) (Nat.lt_of_lt_of_le (show 34 < 154 by decide) hS.1.1) rfl ?_
    obtain ⟨m11, em11, h⟩ := d_bind h
    have em11 := Option.some.inj em11
    have s12 : Sh T.1 m11 := em11 ▸ s10.up (Or.inr ⟨by rw [(show ash 34 = (9, 5) from rfl)]; decide, by rw [(show ash 34 = (9, 5) from rfl)]; decide⟩) (by have := (Nat.lt_of_lt_of_le (show 34 < 154 by decide) hS.1.1); have := hS.1.2; omega)
    rw [em11]
    refine wp_aload_n (v := ((34 : Nat) : Int)) rfl (Int.natCast_nonneg _) ?_
    refine y_get (show ash 34 = (9, 5) from rfl) (Nat.lt_of_lt_of_le (show 34 < 154 by decide) hS.1.1) (v := m11 34 3) rfl rfl ?_
    refine wp_aload_n (v := ((34 : Nat) : Int)) rfl (Int.natCast_nonneg _) ?_
    refine y_get (show ash 34 = (9, 5) from rfl) (Nat.lt_of_lt_of_le (show 34 < 154 by decide) hS.1.1) (v := m11 34 1) rfl rfl ?_
    refine wp_icmp_lt (fun c13 => ?_) (fun c13 => ?_)
    · rw [if_pos c13] at h
      refine y_blk (t := 73) rfl (show fnd bk_X9_advance 73 = some _ from rfl) aB_X9_advance ?_
      refine wp_aload_n (v := ((34 : Nat) : Int)) rfl (Int.natCast_nonneg _) ?_
      refine y_get (show ash 34 = (9, 5) from rfl) (Nat.lt_of_lt_of_le (show 34 < 154 by decide) hS.1.1) (v := ((1 : Nat) : Int)) (s12.at 34 0 1 (by decide +kernel)) rfl ?_
      refine wp_aload_n (v := ((34 : Nat) : Int)) rfl (Int.natCast_nonneg _) ?_
      refine y_get (show ash 34 = (9, 5) from rfl) (Nat.lt_of_lt_of_le (show 34 < 154 by decide) hS.1.1) (v := m11 34 3) rfl rfl ?_
      obtain ⟨c14, h⟩ := d_ite h
      refine y_bald (show ash 1 = (101, 900) from rfl) (Nat.lt_of_lt_of_le (show 1 < 154 by decide) hS.1.1) (Nat.ne_of_lt (Nat.lt_of_lt_of_le (Nat.lt_of_lt_of_le (show 1 < 154 by decide) hS.1.1) hS.1.2)) c14 (v := m11 1 ((m11 34 3)).toNat) rfl ?_
      obtain ⟨x15, e16, h⟩ := d_bind h
      refine y_callS (as := [(0, (m11 1 ((m11 34 3)).toNat))]) (S1 := []) (Nat.le_of_ble_eq_true rfl) (by omega) (t_X9_isLetter s12 e16) (Nat.le_of_ble_eq_true rfl) rfl (Nat.le_of_ble_eq_true rfl) (Nat.le_of_ble_eq_true rfl) rfl ?_
      refine wp_if_eq (fun c17 => ?_) (fun c17 => ?_)
      · rw [if_pos c17] at h
        refine y_blk (t := 153) rfl (show fnd bk_X9_advance 153 = some _ from rfl) aB_X9_advance ?_
        refine wp_aload_n (v := ((34 : Nat) : Int)) rfl (Int.natCast_nonneg _) ?_
        refine y_get (show ash 34 = (9, 5) from rfl) (Nat.lt_of_lt_of_le (show 34 < 154 by decide) hS.1.1) (v := ((1 : Nat) : Int)) (s12.at 34 0 1 (by decide +kernel)) rfl ?_
        refine wp_aload_n (v := ((34 : Nat) : Int)) rfl (Int.natCast_nonneg _) ?_
        refine y_get (show ash 34 = (9, 5) from rfl) (Nat.lt_of_lt_of_le (show 34 < 154 by decide) hS.1.1) (v := m11 34 3) rfl rfl ?_
        refine y_bald (show ash 1 = (101, 900) from rfl) (Nat.lt_of_lt_of_le (show 1 < 154 by decide) hS.1.1) (Nat.ne_of_lt (Nat.lt_of_lt_of_le (Nat.lt_of_lt_of_le (show 1 < 154 by decide) hS.1.1) hS.1.2)) c14 (v := m11 1 ((m11 34 3)).toNat) rfl ?_
        obtain ⟨x18, e19, h⟩ := d_bind h
        refine y_callS (as := [(0, (m11 1 ((m11 34 3)).toNat))]) (S1 := []) (Nat.le_of_ble_eq_true rfl) (by omega) (t_X9_isDigit s12 e19) (Nat.le_of_ble_eq_true rfl) rfl (Nat.le_of_ble_eq_true rfl) (Nat.le_of_ble_eq_true rfl) rfl ?_
        refine wp_if_eq (fun c20 => ?_) (fun c20 => ?_)
        · rw [if_pos c20] at h
          refine y_blk (t := 232) rfl (show fnd bk_X9_advance 232 = some _ from rfl) aB_X9_advance ?_
          refine wp_aload_n (v := ((34 : Nat) : Int)) rfl (Int.natCast_nonneg _) ?_
          refine wp_aload_n (v := ((34 : Nat) : Int)) rfl (Int.natCast_nonneg _) ?_
          refine y_get (show ash 34 = (9, 5) from rfl) (Nat.lt_of_lt_of_le (show 34 < 154 by decide) hS.1.1) (v := ((1 : Nat) : Int)) (s12.at 34 0 1 (by decide +kernel)) rfl ?_
          refine wp_aload_n (v := ((34 : Nat) : Int)) rfl (Int.natCast_nonneg _) ?_
          refine y_get (show ash 34 = (9, 5) from rfl) (Nat.lt_of_lt_of_le (show 34 < 154 by decide) hS.1.1) (v := m11 34 3) rfl rfl ?_
          refine y_bald (show ash 1 = (101, 900) from rfl) (Nat.lt_of_lt_of_le (show 1 < 154 by decide) hS.1.1) (Nat.ne_of_lt (Nat.lt_of_lt_of_le (Nat.lt_of_lt_of_le (show 1 < 154 by decide) hS.1.1) hS.1.2)) c14 (v := m11 1 ((m11 34 3)).toNat) rfl ?_
          refine wp_bipush (by decide) ?_
          refine y_ne (fun c21 => ?_) (fun c21 => ?_)
          · rw [if_neg c21] at h
            refine y_blk (t := 251) rfl (show fnd bk_X9_advance 251 = some _ from rfl) aB_X9_advance ?_
            refine wp_iconst ⟨by decide, by decide⟩ ?_
            refine y_blk (t := 252) rfl (show fnd bk_X9_advance 252 = some _ from rfl) aB_X9_advance ?_
            refine y_put (show ash 34 = (9, 5) from rfl) (Nat.lt_of_lt_of_le (show 34 < 154 by decide) hS.1.1) rfl ?_
            obtain ⟨m22, em22, h⟩ := d_bind h
            have em22 := Option.some.inj em22
            have s23 : Sh T.1 m22 := em22 ▸ s12.up (Or.inr ⟨by rw [(show ash 34 = (9, 5) from rfl)]; decide, by rw [(show ash 34 = (9, 5) from rfl)]; decide⟩) (by have := (Nat.lt_of_lt_of_le (show 34 < 154 by decide) hS.1.1); have := hS.1.2; omega)
            rw [em22]
            refine wp_aload_n (v := ((34 : Nat) : Int)) rfl (Int.natCast_nonneg _) ?_
            refine wp_dup (Or.inr rfl) ?_
            refine y_get (show ash 34 = (9, 5) from rfl) (Nat.lt_of_lt_of_le (show 34 < 154 by decide) hS.1.1) (v := m22 34 2) rfl rfl ?_
            refine wp_iconst ⟨by decide, by decide⟩ ?_
            obtain ⟨c24, h⟩ := d_ite h
            refine wp_iadd c24 ?_
            refine y_put (show ash 34 = (9, 5) from rfl) (Nat.lt_of_lt_of_le (show 34 < 154 by decide) hS.1.1) rfl ?_
            obtain ⟨m25, em25, h⟩ := d_bind h
            have em25 := Option.some.inj em25
            have s26 : Sh T.1 m25 := em25 ▸ s23.up (Or.inr ⟨by rw [(show ash 34 = (9, 5) from rfl)]; decide, by rw [(show ash 34 = (9, 5) from rfl)]; decide⟩) (by have := (Nat.lt_of_lt_of_le (show 34 < 154 by decide) hS.1.1); have := hS.1.2; omega)
            rw [em25]
            refine y_blk (t := 265) rfl (show fnd bk_X9_advance 265 = some _ from rfl) aB_X9_advance ?_
            cases h
            exact wp_return ⟨rfl, rfl, s26⟩
          · rw [if_pos c21] at h
            refine wp_iconst ⟨by decide, by decide⟩ ?_
            refine wp_goto ?_
            refine y_blk (t := 252) rfl (show fnd bk_X9_advance 252 = some _ from rfl) aB_X9_advance ?_
            refine y_put (show ash 34 = (9, 5) from rfl) (Nat.lt_of_lt_of_le (show 34 < 154 by decide) hS.1.1) rfl ?_
            obtain ⟨m27, em27, h⟩ := d_bind h
            have em27 := Option.some.inj em27
            have s28 : Sh T.1 m27 := em27 ▸ s12.up (Or.inr ⟨by rw [(show ash 34 = (9, 5) from rfl)]; decide, by rw [(show ash 34 = (9, 5) from rfl)]; decide⟩) (by have := (Nat.lt_of_lt_of_le (show 34 < 154 by decide) hS.1.1); have := hS.1.2; omega)
            rw [em27]
            refine wp_aload_n (v := ((34 : Nat) : Int)) rfl (Int.natCast_nonneg _) ?_
            refine wp_dup (Or.inr rfl) ?_
            refine y_get (show ash 34 = (9, 5) from rfl) (Nat.lt_of_lt_of_le (show 34 < 154 by decide) hS.1.1) (v := m27 34 2) rfl rfl ?_
            refine wp_iconst ⟨by decide, by decide⟩ ?_
            obtain ⟨c29, h⟩ := d_ite h
            refine wp_iadd c29 ?_
            refine y_put (show ash 34 = (9, 5) from rfl) (Nat.lt_of_lt_of_le (show 34 < 154 by decide) hS.1.1) rfl ?_
            obtain ⟨m30, em30, h⟩ := d_bind h
            have em30 := Option.some.inj em30
            have s31 : Sh T.1 m30 := em30 ▸ s28.up (Or.inr ⟨by rw [(show ash 34 = (9, 5) from rfl)]; decide, by rw [(show ash 34 = (9, 5) from rfl)]; decide⟩) (by have := (Nat.lt_of_lt_of_le (show 34 < 154 by decide) hS.1.1); have := hS.1.2; omega)
            rw [em30]
            refine y_blk (t := 265) rfl (show fnd bk_X9_advance 265 = some _ from rfl) aB_X9_advance ?_
            cases h
            exact wp_return ⟨rfl, rfl, s31⟩
        · rw [if_neg c20] at h
          refine tl_X9_advance_168 (by omega) hS (fun   m40 s41 h => ?_) FU   m11 s12 h
          refine y_blk (t := 207) rfl (show fnd bk_X9_advance 207 = some _ from rfl) aB_X9_advance ?_
          refine wp_aload_n (v := ((34 : Nat) : Int)) rfl (Int.natCast_nonneg _) ?_
          refine wp_aload_n (v := ((34 : Nat) : Int)) rfl (Int.natCast_nonneg _) ?_
          refine y_get (show ash 34 = (9, 5) from rfl) (Nat.lt_of_lt_of_le (show 34 < 154 by decide) hS.1.1) (v := m40 34 2) rfl rfl ?_
          refine wp_aload_n (v := ((34 : Nat) : Int)) rfl (Int.natCast_nonneg _) ?_
          refine y_get (show ash 34 = (9, 5) from rfl) (Nat.lt_of_lt_of_le (show 34 < 154 by decide) hS.1.1) (v := m40 34 3) rfl rfl ?_
          obtain ⟨c42, h⟩ := d_ite h
          refine wp_isub c42 ?_
          refine wp_iconst ⟨by decide, by decide⟩ ?_
          refine wp_icmp_gt (fun c43 => ?_) (fun c43 => ?_)
          · rw [if_pos c43] at h
            refine y_blk (t := 225) rfl (show fnd bk_X9_advance 225 = some _ from rfl) aB_X9_advance ?_
            refine wp_iconst ⟨by decide, by decide⟩ ?_
            refine y_blk (t := 226) rfl (show fnd bk_X9_advance 226 = some _ from rfl) aB_X9_advance ?_
            refine y_put (show ash 34 = (9, 5) from rfl) (Nat.lt_of_lt_of_le (show 34 < 154 by decide) hS.1.1) rfl ?_
            obtain ⟨m44, em44, h⟩ := d_bind h
            have em44 := Option.some.inj em44
            have s45 : Sh T.1 m44 := em44 ▸ s41.up (Or.inr ⟨by rw [(show ash 34 = (9, 5) from rfl)]; decide, by rw [(show ash 34 = (9, 5) from rfl)]; decide⟩) (by have := (Nat.lt_of_lt_of_le (show 34 < 154 by decide) hS.1.1); have := hS.1.2; omega)
            rw [em44]
            refine wp_goto ?_
            refine y_blk (t := 265) rfl (show fnd bk_X9_advance 265 = some _ from rfl) aB_X9_advance ?_
            cases h
            exact wp_return ⟨rfl, rfl, s45⟩
          · rw [if_neg c43] at h
            refine wp_iconst ⟨by decide, by decide⟩ ?_
            refine wp_goto ?_
            refine y_blk (t := 226) rfl (show fnd bk_X9_advance 226 = some _ from rfl) aB_X9_advance ?_
            refine y_put (show ash 34 = (9, 5) from rfl) (Nat.lt_of_lt_of_le (show 34 < 154 by decide) hS.1.1) rfl ?_
            obtain ⟨m46, em46, h⟩ := d_bind h
            have em46 := Option.some.inj em46
            have s47 : Sh T.1 m46 := em46 ▸ s41.up (Or.inr ⟨by rw [(show ash 34 = (9, 5) from rfl)]; decide, by rw [(show ash 34 = (9, 5) from rfl)]; decide⟩) (by have := (Nat.lt_of_lt_of_le (show 34 < 154 by decide) hS.1.1); have := hS.1.2; omega)
            rw [em46]
            refine wp_goto ?_
            refine y_blk (t := 265) rfl (show fnd bk_X9_advance 265 = some _ from rfl) aB_X9_advance ?_
            cases h
            exact wp_return ⟨rfl, rfl, s47⟩
      · rw [if_neg c17] at h
        refine tl_X9_advance_88 (by omega) hS (fun   m56 s57 h => ?_) FU   m11 s12 h
        refine y_blk (t := 127) rfl (show fnd bk_X9_advance 127 = some _ from rfl) aB_X9_advance ?_
        refine wp_aload_n (v := ((34 : Nat) : Int)) rfl (Int.natCast_nonneg _) ?_
        refine wp_aload_n (v := ((34 : Nat) : Int)) rfl (Int.natCast_nonneg _) ?_
        refine y_get (show ash 34 = (9, 5) from rfl) (Nat.lt_of_lt_of_le (show 34 < 154 by decide) hS.1.1) (v := m56 34 2) rfl rfl ?_
        refine wp_aload_n (v := ((34 : Nat) : Int)) rfl (Int.natCast_nonneg _) ?_
        refine y_get (show ash 34 = (9, 5) from rfl) (Nat.lt_of_lt_of_le (show 34 < 154 by decide) hS.1.1) (v := m56 34 3) rfl rfl ?_
        obtain ⟨c58, h⟩ := d_ite h
        refine wp_isub c58 ?_
        refine wp_bipush (by decide) ?_
        refine wp_icmp_gt (fun c59 => ?_) (fun c59 => ?_)
        · rw [if_pos c59] at h
          refine y_blk (t := 146) rfl (show fnd bk_X9_advance 146 = some _ from rfl) aB_X9_advance ?_
          refine wp_iconst ⟨by decide, by decide⟩ ?_
          refine y_blk (t := 147) rfl (show fnd bk_X9_advance 147 = some _ from rfl) aB_X9_advance ?_
          refine y_put (show ash 34 = (9, 5) from rfl) (Nat.lt_of_lt_of_le (show 34 < 154 by decide) hS.1.1) rfl ?_
          obtain ⟨m60, em60, h⟩ := d_bind h
          have em60 := Option.some.inj em60
          have s61 : Sh T.1 m60 := em60 ▸ s57.up (Or.inr ⟨by rw [(show ash 34 = (9, 5) from rfl)]; decide, by rw [(show ash 34 = (9, 5) from rfl)]; decide⟩) (by have := (Nat.lt_of_lt_of_le (show 34 < 154 by decide) hS.1.1); have := hS.1.2; omega)
          rw [em60]
          refine wp_goto ?_
          refine y_blk (t := 265) rfl (show fnd bk_X9_advance 265 = some _ from rfl) aB_X9_advance ?_
          cases h
          exact wp_return ⟨rfl, rfl, s61⟩
        · rw [if_neg c59] at h
          refine wp_iconst ⟨by decide, by decide⟩ ?_
          refine wp_goto ?_
          refine y_blk (t := 147) rfl (show fnd bk_X9_advance 147 = some _ from rfl) aB_X9_advance ?_
          refine y_put (show ash 34 = (9, 5) from rfl) (Nat.lt_of_lt_of_le (show 34 < 154 by decide) hS.1.1) rfl ?_
          obtain ⟨m62, em62, h⟩ := d_bind h
          have em62 := Option.some.inj em62
          have s63 : Sh T.1 m62 := em62 ▸ s57.up (Or.inr ⟨by rw [(show ash 34 = (9, 5) from rfl)]; decide, by rw [(show ash 34 = (9, 5) from rfl)]; decide⟩) (by have := (Nat.lt_of_lt_of_le (show 34 < 154 by decide) hS.1.1); have := hS.1.2; omega)
          rw [em62]
          refine wp_goto ?_
          refine y_blk (t := 265) rfl (show fnd bk_X9_advance 265 = some _ from rfl) aB_X9_advance ?_
          cases h
          exact wp_return ⟨rfl, rfl, s63⟩
    · rw [if_neg c13] at h
      refine wp_aload_n (v := ((34 : Nat) : Int)) rfl (Int.natCast_nonneg _) ?_
      refine wp_iconst ⟨by decide, by decide⟩ ?_
      refine y_put (show ash 34 = (9, 5) from rfl) (Nat.lt_of_lt_of_le (show 34 < 154 by decide) hS.1.1) rfl ?_
      obtain ⟨m64, em64, h⟩ := d_bind h
      have em64 := Option.some.inj em64
      have s65 : Sh T.1 m64 := em64 ▸ s12.up (Or.inr ⟨by rw [(show ash 34 = (9, 5) from rfl)]; decide, by rw [(show ash 34 = (9, 5) from rfl)]; decide⟩) (by have := (Nat.lt_of_lt_of_le (show 34 < 154 by decide) hS.1.1); have := hS.1.2; omega)
      rw [em64]
      refine wp_goto ?_
      refine y_blk (t := 265) rfl (show fnd bk_X9_advance 265 = some _ from rfl) aB_X9_advance ?_
      cases h
      exact wp_return ⟨rfl, rfl, s65⟩
  exact ⟨fun d hd => Ms.of3 (key d hd), Ms.sh (key 1 (Nat.le_refl _))⟩
theorem aB_X9_begin : ∀ pc, aB 97 pc = fnd bk_X9_begin pc := fun _ => rfl
def f_X9_begin (T : Nat) (v1 : Int) (M : aM) : Option (Int × aM) :=
 (some (aup M 34 1 (if 900 < v1 then 900 else v1))).bind fun m1 =>
 (some (aup m1 34 2 0)).bind fun m3 =>
 (f_X9_advance T m3).bind fun x5 =>
 some (0, x5.2)
theorem t_X9_begin {T : T3} {v1 : Int} {M : aM} {y : (Int × aM)}  (hS : Sh T.1 M) (h : f_X9_begin T.1 v1 M = some y) : Mr 2 97 [(2, ((34 : Nat) : Int)), (0, v1)] M (none) y.2 T ∧ Sh T.1 y.2 := by
  have key : ∀ d, 2 ≤ d → Wp d 97 0 [] [(2, ((34 : Nat) : Int)), (0, v1)] [] (M, T) (fun r2 σ2 => r2 = none ∧ σ2 = (y.2, T) ∧ Sh T.1 y.2) := by
    intro d hd
    rw [f_X9_begin] at h
    refine y_blk (t := 0) rfl (show fnd bk_X9_begin 0 = some _ from rfl) aB_X9_begin ?_
    refine wp_aload_n (v := ((34 : Nat) : Int)) rfl (Int.natCast_nonneg _) ?_
    refine wp_iload_n (v := v1) rfl ?_
    refine wp_aload_n (v := ((34 : Nat) : Int)) rfl (Int.natCast_nonneg _) ?_
    refine y_get (show ash 34 = (9, 5) from rfl) (Nat.lt_of_lt_of_le (show 34 < 154 by decide) hS.1.1) (v := ((1 : Nat) : Int)) (hS.at 34 0 1 (by decide +kernel)) rfl ?_
    refine y_alen2 (v := 900) (show ash 1 = (101, 900) from rfl) ⟨by decide, by decide⟩ (Nat.lt_of_lt_of_le (show 1 < 154 by decide) hS.1.1) (Nat.ne_of_lt (Nat.lt_of_lt_of_le (Nat.lt_of_lt_of_le (show 1 < 154 by decide) hS.1.1) hS.1.2)) (by decide) rfl ?_
    refine wp_min ⟨by omega, Nat.le_of_ble_eq_true rfl, rfl⟩ ?_
    refine y_put (show ash 34 = (9, 5) from rfl) (Nat.lt_of_lt_of_le (show 34 < 154 by decide) hS.1.1) rfl ?_
    obtain ⟨m1, em1, h⟩ := d_bind h
    have em1 := Option.some.inj em1
    have s2 : Sh T.1 m1 := em1 ▸ hS.up (Or.inr ⟨by rw [(show ash 34 = (9, 5) from rfl)]; decide, by rw [(show ash 34 = (9, 5) from rfl)]; decide⟩) (by have := (Nat.lt_of_lt_of_le (show 34 < 154 by decide) hS.1.1); have := hS.1.2; omega)
    rw [em1]
    refine wp_aload_n (v := ((34 : Nat) : Int)) rfl (Int.natCast_nonneg _) ?_
    refine wp_iconst ⟨by decide, by decide⟩ ?_
    refine y_put (show ash 34 = (9, 5) from rfl) (Nat.lt_of_lt_of_le (show 34 < 154 by decide) hS.1.1) rfl ?_
    obtain ⟨m3, em3, h⟩ := d_bind h
    have em3 := Option.some.inj em3
    have s4 : Sh T.1 m3 := em3 ▸ s2.up (Or.inr ⟨by rw [(show ash 34 = (9, 5) from rfl)]; decide, by rw [(show ash 34 = (9, 5) from rfl)]; decide⟩) (by have := (Nat.lt_of_lt_of_le (show 34 < 154 by decide) hS.1.1); have := hS.1.2; omega)
    rw [em3]
    refine wp_aload_n (v := ((34 : Nat) : Int)) rfl (Int.natCast_nonneg _) ?_
    obtain ⟨x5, e6, h⟩ := d_bind h
    obtain ⟨r7, s8⟩ := t_X9_advance s4 e6
    refine y_callVv (as := []) (S1 := []) (Nat.le_of_ble_eq_true rfl) (by omega) r7 rfl (show ash 34 = (9, 5) from rfl) (Nat.lt_of_lt_of_le (show 34 < 154 by decide) hS.1.1) (Nat.le_of_ble_eq_true rfl) (Nat.le_of_ble_eq_true rfl) rfl ?_
    cases h
    exact wp_return ⟨rfl, rfl, s8⟩
  exact ⟨fun d hd => Ms.of3 (key d hd), Ms.sh (key 2 (Nat.le_refl _))⟩
theorem aB_X9_wordNumber : ∀ pc, aB 100 pc = fnd bk_X9_wordNumber pc := fun _ => rfl
def l_X9_wordNumber_7 (T : Nat)  (M : aM) (k : Int → Int → Option Int) : Nat → Int → Int → Option Int
| 0, _, _ => none
| n + 1, v1, v3 =>
 if (M 34 2) ≤ v3 then
 k v1 v3 else
 if aInL (v1 * 32) then
 if 0 ≤ v3 ∧ v3 < 900 then
 if aIn ((M 1 (v3).toNat) - 97) then
 if aIn (((M 1 (v3).toNat) - 97) + 1) then
 if aInL ((v1 * 32) + (((M 1 (v3).toNat) - 97) + 1)) then
 if aIn (v3 + 1) then
 l_X9_wordNumber_7 T M k n ((v1 * 32) + (((M 1 (v3).toNat) - 97) + 1)) (v3 + 1) else none else none else none else none else none else none
theorem tl_X9_wordNumber_7 {d : Nat} (hd : 0 ≤ d) {T : T3}  {M : aM} {k : Int → Int → Option Int} {y : Int}  (hS : Sh T.1 M)
    (hk : ∀ (v1 v3 : Int), Sh T.1 M → k v1 v3 = some y → Wp d 100 40 [] [(2, ((34 : Nat) : Int)), (1, v1), (9, 0), (0, v3)] [] (M, T) (fun r2 σ2 => r2 = some (1, y) ∧ σ2 = (M, T))) :
    ∀ (n : Nat) (v1 v3 : Int), Sh T.1 M → l_X9_wordNumber_7 T.1 M k n v1 v3 = some y → Wp d 100 7 [] [(2, ((34 : Nat) : Int)), (1, v1), (9, 0), (0, v3)] [] (M, T) (fun r2 σ2 => r2 = some (1, y) ∧ σ2 = (M, T)) := by
  intro n
  induction n with
  | zero =>
    intro v1 v3 _ h
    exact nomatch (show (none : Option Int) = some y from h)
  | succ n ih =>
    intro v1 v3 sM h
    rw [l_X9_wordNumber_7] at h
    refine y_blk (t := 7) rfl (show fnd bk_X9_wordNumber 7 = some _ from rfl) aB_X9_wordNumber ?_
    refine wp_iload_n (v := v3) rfl ?_
    refine wp_aload_n (v := ((34 : Nat) : Int)) rfl (Int.natCast_nonneg _) ?_
    refine y_get (show ash 34 = (9, 5) from rfl) (Nat.lt_of_lt_of_le (show 34 < 154 by decide) hS.1.1) (v := M 34 2) rfl rfl ?_
    refine wp_icmp_ge (fun c1 => ?_) (fun c1 => ?_)
    · rw [if_pos c1] at h
      exact hk v1 v3   sM h
    · rw [if_neg c1] at h
      refine wp_lload_n (v := v1) rfl ?_
      refine y_ldc2 (v := 32) (by decide) rfl ?_
      obtain ⟨c2, h⟩ := d_ite h
      refine wp_lmul c2 ?_
      refine wp_aload_n (v := ((34 : Nat) : Int)) rfl (Int.natCast_nonneg _) ?_
      refine y_get (show ash 34 = (9, 5) from rfl) (Nat.lt_of_lt_of_le (show 34 < 154 by decide) hS.1.1) (v := ((1 : Nat) : Int)) (sM.at 34 0 1 (by decide +kernel)) rfl ?_
      refine wp_iload_n (v := v3) rfl ?_
      obtain ⟨c3, h⟩ := d_ite h
      refine y_bald (show ash 1 = (101, 900) from rfl) (Nat.lt_of_lt_of_le (show 1 < 154 by decide) hS.1.1) (Nat.ne_of_lt (Nat.lt_of_lt_of_le (Nat.lt_of_lt_of_le (show 1 < 154 by decide) hS.1.1) hS.1.2)) c3 (v := M 1 (v3).toNat) rfl ?_
      refine wp_bipush (by decide) ?_
      obtain ⟨c4, h⟩ := d_ite h
      refine wp_isub c4 ?_
      refine wp_iconst ⟨by decide, by decide⟩ ?_
      obtain ⟨c5, h⟩ := d_ite h
      refine wp_iadd c5 ?_
      refine wp_i2l ?_
      obtain ⟨c6, h⟩ := d_ite h
      refine wp_ladd c6 ?_
      refine y_lstn (L1 := [(2, ((34 : Nat) : Int)), (1, ((v1 * 32) + (((M 1 (v3).toNat) - 97) + 1))), (9, 0), (0, v3)]) (Nat.le_of_ble_eq_true rfl) rfl ?_
      obtain ⟨c7, h⟩ := d_ite h
      refine y_iinc (L1 := [(2, ((34 : Nat) : Int)), (1, ((v1 * 32) + (((M 1 (v3).toNat) - 97) + 1))), (9, 0), (0, (v3 + 1))]) rfl (Nat.le_of_ble_eq_true rfl) ⟨by decide, by decide⟩ c7 rfl ?_
      refine wp_goto ?_
      exact ih ((v1 * 32) + (((M 1 (v3).toNat) - 97) + 1)) (v3 + 1)   sM h
def f_X9_wordNumber (T : Nat)  (M : aM) : Option Int :=
 l_X9_wordNumber_7 T M (fun w8 w9 =>
 some w8) FU 0 (M 34 3)
theorem t_X9_wordNumber {T : T3}  {M : aM} {y : Int}  (hS : Sh T.1 M) (h : f_X9_wordNumber T.1  M = some y) : Mr 0 100 [(2, ((34 : Nat) : Int))] M (some (1, y)) M T := by
  have key : ∀ d, 0 ≤ d → Wp d 100 0 [] [(2, ((34 : Nat) : Int)), (9, 0), (9, 0), (9, 0)] [] (M, T) (fun r2 σ2 => r2 = some (1, y) ∧ σ2 = (M, T)) := by
    intro d hd
    rw [f_X9_wordNumber] at h
    refine y_blk (t := 0) rfl (show fnd bk_X9_wordNumber 0 = some _ from rfl) aB_X9_wordNumber ?_
    refine y_lconst (v := 0) rfl ?_
    refine y_lstn (L1 := [(2, ((34 : Nat) : Int)), (1, 0), (9, 0), (9, 0)]) (Nat.le_of_ble_eq_true rfl) rfl ?_
    refine wp_aload_n (v := ((34 : Nat) : Int)) rfl (Int.natCast_nonneg _) ?_
    refine y_get (show ash 34 = (9, 5) from rfl) (Nat.lt_of_lt_of_le (show 34 < 154 by decide) hS.1.1) (v := M 34 3) rfl rfl ?_
    refine y_stn (L1 := [(2, ((34 : Nat) : Int)), (1, 0), (9, 0), (0, (M 34 3))]) (Nat.le_of_ble_eq_true rfl) rfl ?_
    refine tl_X9_wordNumber_7 (by omega) hS (fun w8 w9   s10 h => ?_) FU 0 (M 34 3)   hS h
    refine y_blk (t := 40) rfl (show fnd bk_X9_wordNumber 40 = some _ from rfl) aB_X9_wordNumber ?_
    refine wp_lload_n (v := w8) rfl ?_
    cases h
    exact wp_lreturn ⟨rfl, rfl⟩
  exact fun d hd => Ms.of (key d hd)
theorem aB_X7_nameHere : ∀ pc, aB 89 pc = fnd bk_X7_nameHere pc := fun _ => rfl
def l_X7_nameHere_25 (T : Nat) (v1 : Int) (M : aM) (k : Int → Option Int) : Nat → Int → Option Int
| 0, _ => none
| n + 1, v3 =>
 if (M 16 7) ≤ v3 then
 k v3 else
 if 0 ≤ v3 ∧ v3 < 23 then
 if (alcmp (M 31 (v3).toNat) v1) = 0 then
 some v3 else
 if aIn (v3 + 1) then
 l_X7_nameHere_25 T v1 M k n (v3 + 1) else none else none
theorem tl_X7_nameHere_25 {d : Nat} (hd : 1 ≤ d) {T : T3} {v1 : Int} {M : aM} {k : Int → Option Int} {y : Int}  (hS : Sh T.1 M)
    (hk : ∀ (v3 : Int), Sh T.1 M → k v3 = some y → Wp d 89 52 [] [(2, ((16 : Nat) : Int)), (1, v1), (9, 0), (0, v3)] [] (M, T) (fun r2 σ2 => r2 = some (0, y) ∧ σ2 = (M, T))) :
    ∀ (n : Nat) (v3 : Int), Sh T.1 M → l_X7_nameHere_25 T.1 v1 M k n v3 = some y → Wp d 89 25 [] [(2, ((16 : Nat) : Int)), (1, v1), (9, 0), (0, v3)] [] (M, T) (fun r2 σ2 => r2 = some (0, y) ∧ σ2 = (M, T)) := by
  intro n
  induction n with
  | zero =>
    intro v3 _ h
    exact nomatch (show (none : Option Int) = some y from h)
  | succ n ih =>
    intro v3 sM h
    rw [l_X7_nameHere_25] at h
    refine y_blk (t := 25) rfl (show fnd bk_X7_nameHere 25 = some _ from rfl) aB_X7_nameHere ?_
    refine wp_iload_n (v := v3) rfl ?_
    refine wp_aload_n (v := ((16 : Nat) : Int)) rfl (Int.natCast_nonneg _) ?_
    refine y_get (show ash 16 = (7, 8) from rfl) (Nat.lt_of_lt_of_le (show 16 < 154 by decide) hS.1.1) (v := M 16 7) rfl rfl ?_
    refine wp_icmp_ge (fun c2 => ?_) (fun c2 => ?_)
    · rw [if_pos c2] at h
      exact hk v3   sM h
    · rw [if_neg c2] at h
      refine wp_aload_n (v := ((16 : Nat) : Int)) rfl (Int.natCast_nonneg _) ?_
      refine y_get (show ash 16 = (7, 8) from rfl) (Nat.lt_of_lt_of_le (show 16 < 154 by decide) hS.1.1) (v := ((31 : Nat) : Int)) (sM.at 16 4 31 (by decide +kernel)) rfl ?_
      refine wp_iload_n (v := v3) rfl ?_
      obtain ⟨c3, h⟩ := d_ite h
      refine y_lald (show ash 31 = (102, 23) from rfl) (Nat.lt_of_lt_of_le (show 31 < 154 by decide) hS.1.1) (Nat.ne_of_lt (Nat.lt_of_lt_of_le (Nat.lt_of_lt_of_le (show 31 < 154 by decide) hS.1.1) hS.1.2)) c3 (v := M 31 (v3).toNat) rfl ?_
      refine wp_lload_n (v := v1) rfl ?_
      refine wp_lcmp ?_
      refine y_nez (fun c4 => ?_) (fun c4 => ?_)
      · rw [if_neg c4] at h
        refine y_blk (t := 46) rfl (show fnd bk_X7_nameHere 46 = some _ from rfl) aB_X7_nameHere ?_
        obtain ⟨c5, h⟩ := d_ite h
        refine y_iinc (L1 := [(2, ((16 : Nat) : Int)), (1, v1), (9, 0), (0, (v3 + 1))]) rfl (Nat.le_of_ble_eq_true rfl) ⟨by decide, by decide⟩ c5 rfl ?_
        refine wp_goto ?_
        exact ih (v3 + 1)   sM h
      · rw [if_pos c4] at h
        refine wp_iload_n (v := v3) rfl ?_
        cases h
        exact y_ret0 (Or.inl rfl) ⟨rfl, rfl⟩
def f_X7_nameHere (T : Nat)  (M : aM) : Option Int :=
 if (M 34 4) = 1 then
 (f_X9_wordNumber T M).bind fun x8 =>
 l_X7_nameHere_25 T x8 M (fun w10 =>
 some (-1)) FU 0 else
 l_X7_nameHere_25 T 0 M (fun w6 =>
 some (-1)) FU 0
theorem t_X7_nameHere {T : T3}  {M : aM} {y : Int}  (hS : Sh T.1 M) (h : f_X7_nameHere T.1  M = some y) : Mr 1 89 [(2, ((16 : Nat) : Int))] M (some (0, y)) M T := by
  have key : ∀ d, 1 ≤ d → Wp d 89 0 [] [(2, ((16 : Nat) : Int)), (9, 0), (9, 0), (9, 0)] [] (M, T) (fun r2 σ2 => r2 = some (0, y) ∧ σ2 = (M, T)) := by
    intro d hd
    rw [f_X7_nameHere] at h
    refine y_blk (t := 0) rfl (show fnd bk_X7_nameHere 0 = some _ from rfl) aB_X7_nameHere ?_
    refine wp_aload_n (v := ((16 : Nat) : Int)) rfl (Int.natCast_nonneg _) ?_
    refine y_get (show ash 16 = (7, 8) from rfl) (Nat.lt_of_lt_of_le (show 16 < 154 by decide) hS.1.1) (v := ((34 : Nat) : Int)) (hS.at 16 3 34 (by decide +kernel)) rfl ?_
    refine y_get (show ash 34 = (9, 5) from rfl) (Nat.lt_of_lt_of_le (show 34 < 154 by decide) hS.1.1) (v := M 34 4) rfl rfl ?_
    refine wp_iconst ⟨by decide, by decide⟩ ?_
    refine y_ne (fun c1 => ?_) (fun c1 => ?_)
    · rw [if_neg c1] at h
      refine y_blk (t := 21) rfl (show fnd bk_X7_nameHere 21 = some _ from rfl) aB_X7_nameHere ?_
      refine y_lconst (v := 0) rfl ?_
      refine y_blk (t := 22) rfl (show fnd bk_X7_nameHere 22 = some _ from rfl) aB_X7_nameHere ?_
      refine y_lstn (L1 := [(2, ((16 : Nat) : Int)), (1, 0), (9, 0), (9, 0)]) (Nat.le_of_ble_eq_true rfl) rfl ?_
      refine wp_iconst ⟨by decide, by decide⟩ ?_
      refine y_stn (L1 := [(2, ((16 : Nat) : Int)), (1, 0), (9, 0), (0, 0)]) (Nat.le_of_ble_eq_true rfl) rfl ?_
      refine tl_X7_nameHere_25 (by omega) hS (fun w6   s7 h => ?_) FU 0   hS h
      refine y_blk (t := 52) rfl (show fnd bk_X7_nameHere 52 = some _ from rfl) aB_X7_nameHere ?_
      refine wp_iconst ⟨by decide, by decide⟩ ?_
      cases h
      exact y_ret0 (Or.inl rfl) ⟨rfl, rfl⟩
    · rw [if_pos c1] at h
      refine wp_aload_n (v := ((16 : Nat) : Int)) rfl (Int.natCast_nonneg _) ?_
      refine y_get (show ash 16 = (7, 8) from rfl) (Nat.lt_of_lt_of_le (show 16 < 154 by decide) hS.1.1) (v := ((34 : Nat) : Int)) (hS.at 16 3 34 (by decide +kernel)) rfl ?_
      obtain ⟨x8, e9, h⟩ := d_bind h
      refine y_callV (as := []) (S1 := []) (Nat.le_of_ble_eq_true rfl) (by omega) (t_X9_wordNumber hS e9) (Nat.le_of_ble_eq_true rfl) rfl (show ash 34 = (9, 5) from rfl) (Nat.lt_of_lt_of_le (show 34 < 154 by decide) hS.1.1) (Nat.le_of_ble_eq_true rfl) (Nat.le_of_ble_eq_true rfl) rfl ?_
      refine wp_goto ?_
      refine y_blk (t := 22) rfl (show fnd bk_X7_nameHere 22 = some _ from rfl) aB_X7_nameHere ?_
      refine y_lstn (L1 := [(2, ((16 : Nat) : Int)), (1, x8), (9, 0), (9, 0)]) (Nat.le_of_ble_eq_true rfl) rfl ?_
      refine wp_iconst ⟨by decide, by decide⟩ ?_
      refine y_stn (L1 := [(2, ((16 : Nat) : Int)), (1, x8), (9, 0), (0, 0)]) (Nat.le_of_ble_eq_true rfl) rfl ?_
      refine tl_X7_nameHere_25 (by omega) hS (fun w10   s11 h => ?_) FU 0   hS h
      refine y_blk (t := 52) rfl (show fnd bk_X7_nameHere 52 = some _ from rfl) aB_X7_nameHere ?_
      refine wp_iconst ⟨by decide, by decide⟩ ?_
      cases h
      exact y_ret0 (Or.inl rfl) ⟨rfl, rfl⟩
  exact fun d hd => Ms.of (key d hd)
theorem aB_X7_lineHere : ∀ pc, aB 80 pc = fnd bk_X7_lineHere pc := fun _ => rfl
def f_X7_lineHere (T : Nat)  (M : aM) : Option Int :=
 (f_X7_nameHere T M).bind fun x1 =>
 if 8 ≤ x1 then
 some (-1) else
 some x1
theorem t_X7_lineHere {T : T3}  {M : aM} {y : Int}  (hS : Sh T.1 M) (h : f_X7_lineHere T.1  M = some y) : Mr 2 80 [(2, ((16 : Nat) : Int))] M (some (0, y)) M T := by
  have key : ∀ d, 2 ≤ d → Wp d 80 0 [] [(2, ((16 : Nat) : Int)), (9, 0)] [] (M, T) (fun r2 σ2 => r2 = some (0, y) ∧ σ2 = (M, T)) := by
    intro d hd
    rw [f_X7_lineHere] at h
    refine y_blk (t := 0) rfl (show fnd bk_X7_lineHere 0 = some _ from rfl) aB_X7_lineHere ?_
    refine wp_aload_n (v := ((16 : Nat) : Int)) rfl (Int.natCast_nonneg _) ?_
    obtain ⟨x1, e2, h⟩ := d_bind h
    refine y_callV (as := []) (S1 := []) (Nat.le_of_ble_eq_true rfl) (by omega) (t_X7_nameHere hS e2) (Nat.le_of_ble_eq_true rfl) rfl (show ash 16 = (7, 8) from rfl) (Nat.lt_of_lt_of_le (show 16 < 154 by decide) hS.1.1) (Nat.le_of_ble_eq_true rfl) (Nat.le_of_ble_eq_true rfl) rfl ?_
    refine y_stn (L1 := [(2, ((16 : Nat) : Int)), (0, x1)]) (Nat.le_of_ble_eq_true rfl) rfl ?_
    refine wp_iload_n (v := x1) rfl ?_
    refine wp_bipush (by decide) ?_
    refine wp_icmp_ge (fun c3 => ?_) (fun c3 => ?_)
    · rw [if_pos c3] at h
      refine y_blk (t := 15) rfl (show fnd bk_X7_lineHere 15 = some _ from rfl) aB_X7_lineHere ?_
      refine wp_iconst ⟨by decide, by decide⟩ ?_
      refine y_blk (t := 16) rfl (show fnd bk_X7_lineHere 16 = some _ from rfl) aB_X7_lineHere ?_
      cases h
      exact y_ret0 (Or.inl rfl) ⟨rfl, rfl⟩
    · rw [if_neg c3] at h
      refine wp_iload_n (v := x1) rfl ?_
      refine wp_goto ?_
      refine y_blk (t := 16) rfl (show fnd bk_X7_lineHere 16 = some _ from rfl) aB_X7_lineHere ?_
      cases h
      exact y_ret0 (Or.inl rfl) ⟨rfl, rfl⟩
  exact fun d hd => Ms.of (key d hd)
theorem aB_X7_fails : ∀ pc, aB 90 pc = fnd bk_X7_fails pc := fun _ => rfl
def f_X7_fails (T : Nat) (v1 : Int) (M : aM) : Option (Int × aM) :=
 (some (aup M 16 1 v1)).bind fun m1 =>
 (some (aup m1 16 2 (m1 34 3))).bind fun m3 =>
 some (0, m3)
theorem t_X7_fails {T : T3} {v1 : Int} {M : aM} {y : (Int × aM)}  (hS : Sh T.1 M) (h : f_X7_fails T.1 v1 M = some y) : Mr 0 90 [(2, ((16 : Nat) : Int)), (0, v1)] M (some (0, y.1)) y.2 T ∧ Sh T.1 y.2 := by
  have key : ∀ d, 0 ≤ d → Wp d 90 0 [] [(2, ((16 : Nat) : Int)), (0, v1)] [] (M, T) (fun r2 σ2 => r2 = some (0, y.1) ∧ σ2 = (y.2, T) ∧ Sh T.1 y.2) := by
    intro d hd
    rw [f_X7_fails] at h
    refine y_blk (t := 0) rfl (show fnd bk_X7_fails 0 = some _ from rfl) aB_X7_fails ?_
    refine wp_aload_n (v := ((16 : Nat) : Int)) rfl (Int.natCast_nonneg _) ?_
    refine wp_iload_n (v := v1) rfl ?_
    refine y_put (show ash 16 = (7, 8) from rfl) (Nat.lt_of_lt_of_le (show 16 < 154 by decide) hS.1.1) rfl ?_
    obtain ⟨m1, em1, h⟩ := d_bind h
    have em1 := Option.some.inj em1
    have s2 : Sh T.1 m1 := em1 ▸ hS.up (Or.inr ⟨by rw [(show ash 16 = (7, 8) from rfl)]; decide, by rw [(show ash 16 = (7, 8) from rfl)]; decide⟩) (by have := (Nat.lt_of_lt_of_le (show 16 < 154 by decide) hS.1.1); have := hS.1.2; omega)
    rw [em1]
    refine wp_aload_n (v := ((16 : Nat) : Int)) rfl (Int.natCast_nonneg _) ?_
    refine wp_aload_n (v := ((16 : Nat) : Int)) rfl (Int.natCast_nonneg _) ?_
    refine y_get (show ash 16 = (7, 8) from rfl) (Nat.lt_of_lt_of_le (show 16 < 154 by decide) hS.1.1) (v := ((34 : Nat) : Int)) (s2.at 16 3 34 (by decide +kernel)) rfl ?_
    refine y_get (show ash 34 = (9, 5) from rfl) (Nat.lt_of_lt_of_le (show 34 < 154 by decide) hS.1.1) (v := m1 34 3) rfl rfl ?_
    refine y_put (show ash 16 = (7, 8) from rfl) (Nat.lt_of_lt_of_le (show 16 < 154 by decide) hS.1.1) rfl ?_
    obtain ⟨m3, em3, h⟩ := d_bind h
    have em3 := Option.some.inj em3
    have s4 : Sh T.1 m3 := em3 ▸ s2.up (Or.inr ⟨by rw [(show ash 16 = (7, 8) from rfl)]; decide, by rw [(show ash 16 = (7, 8) from rfl)]; decide⟩) (by have := (Nat.lt_of_lt_of_le (show 16 < 154 by decide) hS.1.1); have := hS.1.2; omega)
    rw [em3]
    refine wp_iconst ⟨by decide, by decide⟩ ?_
    cases h
    exact y_ret0 (Or.inr (Or.inl rfl)) ⟨rfl, rfl, s4⟩
  exact ⟨fun d hd => Ms.of3 (key d hd), Ms.sh (key 0 (Nat.le_refl _))⟩
theorem aB_X7_beginsLine : ∀ pc, aB 69 pc = fnd bk_X7_beginsLine pc := fun _ => rfl
def b_X7_beginsLine_33 (T : Nat) (v1 : Int) (M : aM) : Option (Int × aM) :=
 if 0 ≤ v1 ∧ v1 < 8 then
 if (M 18 (v1).toNat) < (M 1000001 (v1).toNat) then
 if v1 = 0 then
 (f_X9_advance T M).bind fun x6 =>
 some (1, x6.2) else
 if (M 18 0) = 0 then
 (f_X7_fails T 6 M).bind fun x15 =>
 if x15.1 = 0 ∨ x15.1 = 1 then
 some (x15.1, x15.2) else none else
 (f_X9_advance T M).bind fun x11 =>
 some (1, x11.2) else
 (f_X7_fails T 5 M).bind fun x20 =>
 if x20.1 = 0 ∨ x20.1 = 1 then
 some (x20.1, x20.2) else none else none
theorem tb_X7_beginsLine_33 {d : Nat} (hd : 2 ≤ d) {T : T3} {v1 : Int} {M : aM} {y : (Int × aM)}  (hS : Sh T.1 M) (h : b_X7_beginsLine_33 T.1 v1 M = some y) : Wp d 69 33 [] [(2, ((16 : Nat) : Int)), (0, v1)] [] (M, T) (fun r2 σ2 => r2 = some (0, y.1) ∧ σ2 = (y.2, T) ∧ Sh T.1 y.2) := by
  rw [b_X7_beginsLine_33] at h
  refine y_blk (t := 33) rfl (show fnd bk_X7_beginsLine 33 = some _ from rfl) aB_X7_beginsLine ?_
  refine wp_aload_n (v := ((16 : Nat) : Int)) rfl (Int.natCast_nonneg _) ?_
  refine y_get (show ash 16 = (7, 8) from rfl) (Nat.lt_of_lt_of_le (show 16 < 154 by decide) hS.1.1) (v := ((17 : Nat) : Int)) (hS.at 16 0 17 (by decide +kernel)) rfl ?_
  refine y_get (show ash 17 = (10, 19) from rfl) (Nat.lt_of_lt_of_le (show 17 < 154 by decide) hS.1.1) (v := ((18 : Nat) : Int)) (hS.at 17 3 18 (by decide +kernel)) rfl ?_
  refine wp_iload_n (v := v1) rfl ?_
  obtain ⟨c3, h⟩ := d_ite h
  refine y_iald (show ash 18 = (100, 8) from rfl) (Or.inl (Nat.lt_of_lt_of_le (show 18 < 154 by decide) hS.1.1)) (Nat.ne_of_lt (Nat.lt_of_lt_of_le (Nat.lt_of_lt_of_le (show 18 < 154 by decide) hS.1.1) hS.1.2)) c3 (v := M 18 (v1).toNat) rfl ?_
  refine wp_getstatic ?_
  refine wp_iload_n (v := v1) rfl ?_
  refine y_iald (show ash 1000001 = (100, 8) from rfl) (Or.inr (by decide)) (by decide) c3 (v := M 1000001 (v1).toNat) rfl ?_
  refine wp_icmp_lt (fun c4 => ?_) (fun c4 => ?_)
  · rw [if_pos c4] at h
    refine y_blk (t := 56) rfl (show fnd bk_X7_beginsLine 56 = some _ from rfl) aB_X7_beginsLine ?_
    refine wp_iload_n (v := v1) rfl ?_
    refine wp_if_eq (fun c5 => ?_) (fun c5 => ?_)
    · rw [if_pos c5] at h
      refine y_blk (t := 79) rfl (show fnd bk_X7_beginsLine 79 = some _ from rfl) aB_X7_beginsLine ?_
      refine wp_aload_n (v := ((16 : Nat) : Int)) rfl (Int.natCast_nonneg _) ?_
      refine y_get (show ash 16 = (7, 8) from rfl) (Nat.lt_of_lt_of_le (show 16 < 154 by decide) hS.1.1) (v := ((34 : Nat) : Int)) (hS.at 16 3 34 (by decide +kernel)) rfl ?_
      obtain ⟨x6, e7, h⟩ := d_bind h
      obtain ⟨r8, s9⟩ := t_X9_advance hS e7
      refine y_callVv (as := []) (S1 := []) (Nat.le_of_ble_eq_true rfl) (by omega) r8 rfl (show ash 34 = (9, 5) from rfl) (Nat.lt_of_lt_of_le (show 34 < 154 by decide) hS.1.1) (Nat.le_of_ble_eq_true rfl) (Nat.le_of_ble_eq_true rfl) rfl ?_
      refine wp_iconst ⟨by decide, by decide⟩ ?_
      cases h
      exact y_ret0 (Or.inr (Or.inr rfl)) ⟨rfl, rfl, s9⟩
    · rw [if_neg c5] at h
      refine wp_aload_n (v := ((16 : Nat) : Int)) rfl (Int.natCast_nonneg _) ?_
      refine y_get (show ash 16 = (7, 8) from rfl) (Nat.lt_of_lt_of_le (show 16 < 154 by decide) hS.1.1) (v := ((17 : Nat) : Int)) (hS.at 16 0 17 (by decide +kernel)) rfl ?_
      refine y_get (show ash 17 = (10, 19) from rfl) (Nat.lt_of_lt_of_le (show 17 < 154 by decide) hS.1.1) (v := ((18 : Nat) : Int)) (hS.at 17 3 18 (by decide +kernel)) rfl ?_
      refine wp_iconst ⟨by decide, by decide⟩ ?_
      refine y_iald (show ash 18 = (100, 8) from rfl) (Or.inl (Nat.lt_of_lt_of_le (show 18 < 154 by decide) hS.1.1)) (Nat.ne_of_lt (Nat.lt_of_lt_of_le (Nat.lt_of_lt_of_le (show 18 < 154 by decide) hS.1.1) hS.1.2)) ⟨by decide, by decide⟩ (v := M 18 0) rfl ?_
      refine y_nez (fun c10 => ?_) (fun c10 => ?_)
      · rw [if_neg c10] at h
        refine y_blk (t := 79) rfl (show fnd bk_X7_beginsLine 79 = some _ from rfl) aB_X7_beginsLine ?_
        refine wp_aload_n (v := ((16 : Nat) : Int)) rfl (Int.natCast_nonneg _) ?_
        refine y_get (show ash 16 = (7, 8) from rfl) (Nat.lt_of_lt_of_le (show 16 < 154 by decide) hS.1.1) (v := ((34 : Nat) : Int)) (hS.at 16 3 34 (by decide +kernel)) rfl ?_
        obtain ⟨x11, e12, h⟩ := d_bind h
        obtain ⟨r13, s14⟩ := t_X9_advance hS e12
        refine y_callVv (as := []) (S1 := []) (Nat.le_of_ble_eq_true rfl) (by omega) r13 rfl (show ash 34 = (9, 5) from rfl) (Nat.lt_of_lt_of_le (show 34 < 154 by decide) hS.1.1) (Nat.le_of_ble_eq_true rfl) (Nat.le_of_ble_eq_true rfl) rfl ?_
        refine wp_iconst ⟨by decide, by decide⟩ ?_
        cases h
        exact y_ret0 (Or.inr (Or.inr rfl)) ⟨rfl, rfl, s14⟩
      · rw [if_pos c10] at h
        refine wp_aload_n (v := ((16 : Nat) : Int)) rfl (Int.natCast_nonneg _) ?_
        refine wp_bipush (by decide) ?_
        obtain ⟨x15, e16, h⟩ := d_bind h
        obtain ⟨r17, s18⟩ := t_X7_fails hS e16
        refine y_callV (as := [(0, 6)]) (S1 := []) (Nat.le_of_ble_eq_true rfl) (by omega) r17 (Nat.le_of_ble_eq_true rfl) rfl (show ash 16 = (7, 8) from rfl) (Nat.lt_of_lt_of_le (show 16 < 154 by decide) hS.1.1) (Nat.le_of_ble_eq_true rfl) (Nat.le_of_ble_eq_true rfl) rfl ?_
        obtain ⟨c19, h⟩ := d_ite h
        cases h
        exact y_ret0 (Or.inr c19) ⟨rfl, rfl, s18⟩
  · rw [if_neg c4] at h
    refine wp_aload_n (v := ((16 : Nat) : Int)) rfl (Int.natCast_nonneg _) ?_
    refine wp_iconst ⟨by decide, by decide⟩ ?_
    obtain ⟨x20, e21, h⟩ := d_bind h
    obtain ⟨r22, s23⟩ := t_X7_fails hS e21
    refine y_callV (as := [(0, 5)]) (S1 := []) (Nat.le_of_ble_eq_true rfl) (by omega) r22 (Nat.le_of_ble_eq_true rfl) rfl (show ash 16 = (7, 8) from rfl) (Nat.lt_of_lt_of_le (show 16 < 154 by decide) hS.1.1) (Nat.le_of_ble_eq_true rfl) (Nat.le_of_ble_eq_true rfl) rfl ?_
    obtain ⟨c24, h⟩ := d_ite h
    cases h
    exact y_ret0 (Or.inr c24) ⟨rfl, rfl, s23⟩
def f_X7_beginsLine (T : Nat) (v1 : Int) (M : aM) : Option (Int × aM) :=
 if v1 = (-1) then
 (f_X7_fails T 1 M).bind fun x31 =>
 if x31.1 = 0 ∨ x31.1 = 1 then
 some (x31.1, x31.2) else none else
 if v1 = 0 then
 if (M 18 0) ≤ 0 then
 b_X7_beginsLine_33 T v1 M else
 (f_X7_fails T 3 M).bind fun x26 =>
 if x26.1 = 0 ∨ x26.1 = 1 then
 some (x26.1, x26.2) else none else
 b_X7_beginsLine_33 T v1 M
theorem t_X7_beginsLine {T : T3} {v1 : Int} {M : aM} {y : (Int × aM)}  (hS : Sh T.1 M) (h : f_X7_beginsLine T.1 v1 M = some y) : Mr 2 69 [(2, ((16 : Nat) : Int)), (0, v1)] M (some (0, y.1)) y.2 T ∧ Sh T.1 y.2 := by
  have key : ∀ d, 2 ≤ d → Wp d 69 0 [] [(2, ((16 : Nat) : Int)), (0, v1)] [] (M, T) (fun r2 σ2 => r2 = some (0, y.1) ∧ σ2 = (y.2, T) ∧ Sh T.1 y.2) := by
    intro d hd
    rw [f_X7_beginsLine] at h
    refine y_blk (t := 0) rfl (show fnd bk_X7_beginsLine 0 = some _ from rfl) aB_X7_beginsLine ?_
    refine wp_iload_n (v := v1) rfl ?_
    refine wp_iconst ⟨by decide, by decide⟩ ?_
    refine y_ne (fun c1 => ?_) (fun c1 => ?_)
    · rw [if_neg c1] at h
      refine y_blk (t := 11) rfl (show fnd bk_X7_beginsLine 11 = some _ from rfl) aB_X7_beginsLine ?_
      refine wp_iload_n (v := v1) rfl ?_
      refine y_nez (fun c2 => ?_) (fun c2 => ?_)
      · rw [if_neg c2] at h
        exact tb_X7_beginsLine_33 hd hS h
      · rw [if_pos c2] at h
        refine wp_aload_n (v := ((16 : Nat) : Int)) rfl (Int.natCast_nonneg _) ?_
        refine y_get (show ash 16 = (7, 8) from rfl) (Nat.lt_of_lt_of_le (show 16 < 154 by decide) hS.1.1) (v := ((17 : Nat) : Int)) (hS.at 16 0 17 (by decide +kernel)) rfl ?_
        refine y_get (show ash 17 = (10, 19) from rfl) (Nat.lt_of_lt_of_le (show 17 < 154 by decide) hS.1.1) (v := ((18 : Nat) : Int)) (hS.at 17 3 18 (by decide +kernel)) rfl ?_
        refine wp_iconst ⟨by decide, by decide⟩ ?_
        refine y_iald (show ash 18 = (100, 8) from rfl) (Or.inl (Nat.lt_of_lt_of_le (show 18 < 154 by decide) hS.1.1)) (Nat.ne_of_lt (Nat.lt_of_lt_of_le (Nat.lt_of_lt_of_le (show 18 < 154 by decide) hS.1.1) hS.1.2)) ⟨by decide, by decide⟩ (v := M 18 0) rfl ?_
        refine wp_if_le (fun c25 => ?_) (fun c25 => ?_)
        · rw [if_pos c25] at h
          exact tb_X7_beginsLine_33 hd hS h
        · rw [if_neg c25] at h
          refine wp_aload_n (v := ((16 : Nat) : Int)) rfl (Int.natCast_nonneg _) ?_
          refine wp_iconst ⟨by decide, by decide⟩ ?_
          obtain ⟨x26, e27, h⟩ := d_bind h
          obtain ⟨r28, s29⟩ := t_X7_fails hS e27
          refine y_callV (as := [(0, 3)]) (S1 := []) (Nat.le_of_ble_eq_true rfl) (by omega) r28 (Nat.le_of_ble_eq_true rfl) rfl (show ash 16 = (7, 8) from rfl) (Nat.lt_of_lt_of_le (show 16 < 154 by decide) hS.1.1) (Nat.le_of_ble_eq_true rfl) (Nat.le_of_ble_eq_true rfl) rfl ?_
          obtain ⟨c30, h⟩ := d_ite h
          cases h
          exact y_ret0 (Or.inr c30) ⟨rfl, rfl, s29⟩
    · rw [if_pos c1] at h
      refine wp_aload_n (v := ((16 : Nat) : Int)) rfl (Int.natCast_nonneg _) ?_
      refine wp_iconst ⟨by decide, by decide⟩ ?_
      obtain ⟨x31, e32, h⟩ := d_bind h
      obtain ⟨r33, s34⟩ := t_X7_fails hS e32
      refine y_callV (as := [(0, 1)]) (S1 := []) (Nat.le_of_ble_eq_true rfl) (by omega) r33 (Nat.le_of_ble_eq_true rfl) rfl (show ash 16 = (7, 8) from rfl) (Nat.lt_of_lt_of_le (show 16 < 154 by decide) hS.1.1) (Nat.le_of_ble_eq_true rfl) (Nat.le_of_ble_eq_true rfl) rfl ?_
      obtain ⟨c35, h⟩ := d_ite h
      cases h
      exact y_ret0 (Or.inr c35) ⟨rfl, rfl, s34⟩
  exact ⟨fun d hd => Ms.of3 (key d hd), Ms.sh (key 2 (Nat.le_refl _))⟩

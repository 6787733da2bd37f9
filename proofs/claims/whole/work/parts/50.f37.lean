/-! ===== methods as functions ===== -/
theorem aB_X13_dries : ∀ pc, aB 316 pc = fnd bk_X13_dries pc := fun _ => rfl
def l_X13_dries_4 (T : Nat)  (k : Int → Int → aM → Option (Int × aM)) : Nat → Int → Int → aM → Option (Int × aM)
| 0, _, _, _ => none
| n + 1, v1, v2, M =>
 if okW T (M 138 3) then
 if (M (M 138 3).toNat 5) ≤ v2 then
 k v1 v2 M else
 (f_X13_bit T (M 140 10) v2 M).bind fun x3 =>
 if x3 = 0 then
 if aIn (v2 + 1) then
 l_X13_dries_4 T k n v1 (v2 + 1) M else none else
 if aInL (75 * (M 138 37)) then
 if aInL ((75 * (M 138 37)) + 74) then
 if aIn (alrem ((75 * (M 138 37)) + 74) 65537) then
 (some (aup M 138 37 (alrem ((75 * (M 138 37)) + 74) 65537))).bind fun m9 =>
 if okW T (m9 138 3) then
 if (m9 (m9 138 3).toNat 2) ≤ (arem (m9 138 37) 100) then
 if aIn (v2 + 1) then
 l_X13_dries_4 T k n (aor v1 (ashl 1 v2)) (v2 + 1) m9 else none else
 if aIn (v2 + 1) then
 l_X13_dries_4 T k n (aor v1 0) (v2 + 1) m9 else none else none else none else none else none else none
theorem tl_X13_dries_4 {d : Nat} (hd : 2 ≤ d) {T : T3}  {k : Int → Int → aM → Option (Int × aM)} {y : (Int × aM)}  {M0 : aM} (hS : Sh T.1 M0)
    (hk : ∀ (v1 v2 : Int) (M : aM), Sh T.1 M → k v1 v2 M = some y → Wp d 316 87 [] [(2, ((138 : Nat) : Int)), (0, v1), (0, v2)] [] (M, T) (fun r2 σ2 => r2 = none ∧ σ2 = (y.2, T) ∧ Sh T.1 y.2)) :
    ∀ (n : Nat) (v1 v2 : Int) (M : aM), Sh T.1 M → l_X13_dries_4 T.1 k n v1 v2 M = some y → Wp d 316 4 [] [(2, ((138 : Nat) : Int)), (0, v1), (0, v2)] [] (M, T) (fun r2 σ2 => r2 = none ∧ σ2 = (y.2, T) ∧ Sh T.1 y.2) := by
  intro n
  induction n with
  | zero =>
    intro v1 v2 M _ h
    exact nomatch (show (none : Option (Int × aM)) = some y from h)
  | succ n ih =>
    intro v1 v2 M sM h
    rw [l_X13_dries_4] at h
    refine y_blk (t := 4) rfl (show fnd bk_X13_dries 4 = some _ from rfl) aB_X13_dries ?_
    refine wp_iload_n (v := v2) rfl ?_
    refine wp_aload_n (v := ((138 : Nat) : Int)) rfl (Int.natCast_nonneg _) ?_
    obtain ⟨c1, h⟩ := d_ite h
    refine y_get (show ash 138 = (13, 38) from rfl) (Nat.lt_of_lt_of_le (show 138 < 154 by decide) hS.1.1) (v := (((M 138 3).toNat : Nat) : Int)) c1.eq rfl ?_
    refine y_get (aW0 hS.1.2 c1.is) (ltW c1.is 0 (by decide)) (v := M (M 138 3).toNat 5) rfl rfl ?_
    refine wp_icmp_ge (fun c2 => ?_) (fun c2 => ?_)
    · rw [if_pos c2] at h
      exact hk v1 v2  M sM h
    · rw [if_neg c2] at h
      refine wp_aload_n (v := ((138 : Nat) : Int)) rfl (Int.natCast_nonneg _) ?_
      refine y_get (show ash 138 = (13, 38) from rfl) (Nat.lt_of_lt_of_le (show 138 < 154 by decide) hS.1.1) (v := ((140 : Nat) : Int)) (sM.at 138 16 140 (by decide +kernel)) rfl ?_
      refine wp_bipush (by decide) ?_
      refine y_iald (show ash 140 = (100, 12) from rfl) (Or.inl (Nat.lt_of_lt_of_le (show 140 < 154 by decide) hS.1.1)) (Nat.ne_of_lt (Nat.lt_of_lt_of_le (Nat.lt_of_lt_of_le (show 140 < 154 by decide) hS.1.1) hS.1.2)) ⟨by decide, by decide⟩ (v := M 140 10) rfl ?_
      refine wp_iload_n (v := v2) rfl ?_
      obtain ⟨x3, e4, h⟩ := d_bind h
      refine y_callS (as := [(0, (M 140 10)), (0, v2)]) (S1 := []) (Nat.le_of_ble_eq_true rfl) (by omega) (t_X13_bit sM e4) (Nat.le_of_ble_eq_true rfl) rfl (Nat.le_of_ble_eq_true rfl) (Nat.le_of_ble_eq_true rfl) rfl ?_
      refine y_nez (fun c5 => ?_) (fun c5 => ?_)
      · rw [if_neg c5] at h
        refine y_blk (t := 32) rfl (show fnd bk_X13_dries 32 = some _ from rfl) aB_X13_dries ?_
        refine wp_aload_n (v := ((138 : Nat) : Int)) rfl (Int.natCast_nonneg _) ?_
        refine y_ldc2 (v := 75) (by decide) rfl ?_
        refine wp_aload_n (v := ((138 : Nat) : Int)) rfl (Int.natCast_nonneg _) ?_
        refine y_get (show ash 138 = (13, 38) from rfl) (Nat.lt_of_lt_of_le (show 138 < 154 by decide) hS.1.1) (v := M 138 37) rfl rfl ?_
        refine wp_i2l ?_
        obtain ⟨c6, h⟩ := d_ite h
        refine wp_lmul c6 ?_
        refine y_ldc2 (v := 74) (by decide) rfl ?_
        obtain ⟨c7, h⟩ := d_ite h
        refine wp_ladd c7 ?_
        refine y_ldc2 (v := 65537) (by decide) rfl ?_
        refine wp_lrem (by decide) ?_
        obtain ⟨c8, h⟩ := d_ite h
        refine wp_l2i c8 ?_
        refine y_put (show ash 138 = (13, 38) from rfl) (Nat.lt_of_lt_of_le (show 138 < 154 by decide) hS.1.1) rfl ?_
        obtain ⟨m9, em9, h⟩ := d_bind h
        have em9 := Option.some.inj em9
        have s10 : Sh T.1 m9 := em9 ▸ sM.up (Or.inr ⟨by rw [(show ash 138 = (13, 38) from rfl)]; decide, by rw [(show ash 138 = (13, 38) from rfl)]; decide⟩) (by have := (Nat.lt_of_lt_of_le (show 138 < 154 by decide) hS.1.1); have := hS.1.2; omega)
        rw [em9]
        refine wp_iload_n (v := v1) rfl ?_
        refine wp_aload_n (v := ((138 : Nat) : Int)) rfl (Int.natCast_nonneg _) ?_
        refine y_get (show ash 138 = (13, 38) from rfl) (Nat.lt_of_lt_of_le (show 138 < 154 by decide) hS.1.1) (v := m9 138 37) rfl rfl ?_
        refine wp_bipush (by decide) ?_
        refine wp_irem (by decide) ?_
        refine wp_aload_n (v := ((138 : Nat) : Int)) rfl (Int.natCast_nonneg _) ?_
        obtain ⟨c11, h⟩ := d_ite h
        refine y_get (show ash 138 = (13, 38) from rfl) (Nat.lt_of_lt_of_le (show 138 < 154 by decide) hS.1.1) (v := (((m9 138 3).toNat : Nat) : Int)) c11.eq rfl ?_
        refine y_get (aW0 hS.1.2 c11.is) (ltW c11.is 0 (by decide)) (v := m9 (m9 138 3).toNat 2) rfl rfl ?_
        refine wp_icmp_ge (fun c12 => ?_) (fun c12 => ?_)
        · rw [if_pos c12] at h
          refine y_blk (t := 76) rfl (show fnd bk_X13_dries 76 = some _ from rfl) aB_X13_dries ?_
          refine wp_iconst ⟨by decide, by decide⟩ ?_
          refine wp_iload_n (v := v2) rfl ?_
          refine wp_ishl ?_
          refine y_blk (t := 79) rfl (show fnd bk_X13_dries 79 = some _ from rfl) aB_X13_dries ?_
          refine wp_ior ?_
          refine y_stn (L1 := [(2, ((138 : Nat) : Int)), (0, (aor v1 (ashl 1 v2))), (0, v2)]) (Nat.le_of_ble_eq_true rfl) rfl ?_
          refine y_blk (t := 81) rfl (show fnd bk_X13_dries 81 = some _ from rfl) aB_X13_dries ?_
          obtain ⟨c13, h⟩ := d_ite h
          refine y_iinc (L1 := [(2, ((138 : Nat) : Int)), (0, (aor v1 (ashl 1 v2))), (0, (v2 + 1))]) rfl (Nat.le_of_ble_eq_true rfl) ⟨by decide, by decide⟩ c13 rfl ?_
          refine wp_goto ?_
          exact ih (aor v1 (ashl 1 v2)) (v2 + 1)  m9 s10 h
        · rw [if_neg c12] at h
          refine wp_iconst ⟨by decide, by decide⟩ ?_
          refine wp_goto ?_
          refine y_blk (t := 79) rfl (show fnd bk_X13_dries 79 = some _ from rfl) aB_X13_dries ?_
          refine wp_ior ?_
          refine y_stn (L1 := [(2, ((138 : Nat) : Int)), (0, (aor v1 0)), (0, v2)]) (Nat.le_of_ble_eq_true rfl) rfl ?_
          refine y_blk (t := 81) rfl (show fnd bk_X13_dries 81 = some _ from rfl) aB_X13_dries ?_
          obtain ⟨c14, h⟩ := d_ite h
          refine y_iinc (L1 := [(2, ((138 : Nat) : Int)), (0, (aor v1 0)), (0, (v2 + 1))]) rfl (Nat.le_of_ble_eq_true rfl) ⟨by decide, by decide⟩ c14 rfl ?_
          refine wp_goto ?_
          exact ih (aor v1 0) (v2 + 1)  m9 s10 h
      · rw [if_pos c5] at h
        refine wp_goto ?_
        refine y_blk (t := 81) rfl (show fnd bk_X13_dries 81 = some _ from rfl) aB_X13_dries ?_
        obtain ⟨c15, h⟩ := d_ite h
        refine y_iinc (L1 := [(2, ((138 : Nat) : Int)), (0, v1), (0, (v2 + 1))]) rfl (Nat.le_of_ble_eq_true rfl) ⟨by decide, by decide⟩ c15 rfl ?_
        refine wp_goto ?_
        exact ih v1 (v2 + 1)  M sM h
def f_X13_dries (T : Nat)  (M : aM) : Option (Int × aM) :=
 l_X13_dries_4 T (fun w16 w17 m18 =>
 (f_X13_lays T w16 (-1) m18).bind fun x20 =>
 some (0, x20.2)) FU 0 0 M
theorem t_X13_dries {T : T3}  {M : aM} {y : (Int × aM)}  (hS : Sh T.1 M) (h : f_X13_dries T.1  M = some y) : Mr 2 316 [(2, ((138 : Nat) : Int))] M (none) y.2 T ∧ Sh T.1 y.2 := by
  have key : ∀ d, 2 ≤ d → Wp d 316 0 [] [(2, ((138 : Nat) : Int)), (9, 0), (9, 0)] [] (M, T) (fun r2 σ2 => r2 = none ∧ σ2 = (y.2, T) ∧ Sh T.1 y.2) := by
    intro d hd
    rw [f_X13_dries] at h
    refine y_blk (t := 0) rfl (show fnd bk_X13_dries 0 = some _ from rfl) aB_X13_dries ?_
    refine wp_iconst ⟨by decide, by decide⟩ ?_
    refine y_stn (L1 := [(2, ((138 : Nat) : Int)), (0, 0), (9, 0)]) (Nat.le_of_ble_eq_true rfl) rfl ?_
    refine wp_iconst ⟨by decide, by decide⟩ ?_
    refine y_stn (L1 := [(2, ((138 : Nat) : Int)), (0, 0), (0, 0)]) (Nat.le_of_ble_eq_true rfl) rfl ?_
    refine tl_X13_dries_4 (by omega) hS (fun w16 w17  m18 s19 h => ?_) FU 0 0  M hS h
    refine y_blk (t := 87) rfl (show fnd bk_X13_dries 87 = some _ from rfl) aB_X13_dries ?_
    refine wp_aload_n (v := ((138 : Nat) : Int)) rfl (Int.natCast_nonneg _) ?_
    refine wp_iload_n (v := w16) rfl ?_
    refine wp_iconst ⟨by decide, by decide⟩ ?_
    obtain ⟨x20, e21, h⟩ := d_bind h
    obtain ⟨r22, s23⟩ := t_X13_lays s19 e21
    refine y_callVv (as := [(0, w16), (0, (-1))]) (S1 := []) (Nat.le_of_ble_eq_true rfl) (by omega) r22 rfl (show ash 138 = (13, 38) from rfl) (Nat.lt_of_lt_of_le (show 138 < 154 by decide) hS.1.1) (Nat.le_of_ble_eq_true rfl) (Nat.le_of_ble_eq_true rfl) rfl ?_
    cases h
    exact wp_return ⟨rfl, rfl, s23⟩
  exact ⟨fun d hd => Ms.of3 (key d hd), Ms.sh (key 2 (Nat.le_refl _))⟩
theorem aB_X13_farBy : ∀ pc, aB 317 pc = fnd bk_X13_farBy pc := fun _ => rfl
def f_X13_farBy (T : Nat) (v1 : Int) (v2 : Int) (v3 : Int) (M : aM) : Option (Int × aM) :=
 (some (aup M 138 0 0)).bind fun m1 =>
 (f_X13_isCave T v1 m1).bind fun x3 =>
 if x3 = 0 then
 (f_X13_refused T 1 m1).bind fun x6 =>
 some (x6.1, x6.2) else
 (f_X13_isCave T v2 m1).bind fun x10 =>
 if x10 = 0 then
 (f_X13_refused T 1 m1).bind fun x34 =>
 some (x34.1, x34.2) else
 (f_X13_in T v3 0 65536 m1).bind fun x13 =>
 if x13 = 0 then
 (f_X13_refused T 2 m1).bind fun x30 =>
 some (x30.1, x30.2) else
 (some (aup m1 138 37 v3)).bind fun m16 =>
 (f_X13_dries T m16).bind fun x18 =>
 (f_X13_apart T v1 v2 x18.2).bind fun x22 =>
 (f_X13_told T x22 x18.2).bind fun x24 =>
 (f_X13_good T x24 x18.2).bind fun x26 =>
 some (x26.1, x26.2)
theorem t_X13_farBy {T : T3} {v1 : Int} {v2 : Int} {v3 : Int} {M : aM} {y : (Int × aM)}  (hS : Sh T.1 M) (h : f_X13_farBy T.1 v1 v2 v3 M = some y) : Mr 3 317 [(2, ((138 : Nat) : Int)), (0, v1), (0, v2), (0, v3)] M (some (0, y.1)) y.2 T ∧ Sh T.1 y.2 := by
  have key : ∀ d, 3 ≤ d → Wp d 317 0 [] [(2, ((138 : Nat) : Int)), (0, v1), (0, v2), (0, v3)] [] (M, T) (fun r2 σ2 => r2 = some (0, y.1) ∧ σ2 = (y.2, T) ∧ Sh T.1 y.2) := by
    intro d hd
    rw [f_X13_farBy] at h
    refine y_blk (t := 0) rfl (show fnd bk_X13_farBy 0 = some _ from rfl) aB_X13_farBy ?_
    refine wp_aload_n (v := ((138 : Nat) : Int)) rfl (Int.natCast_nonneg _) ?_
    refine wp_iconst ⟨by decide, by decide⟩ ?_
    refine y_put (show ash 138 = (13, 38) from rfl) (Nat.lt_of_lt_of_le (show 138 < 154 by decide) hS.1.1) rfl ?_
    obtain ⟨m1, em1, h⟩ := d_bind h
    have em1 := Option.some.inj em1
    have s2 : Sh T.1 m1 := em1 ▸ hS.up (Or.inr ⟨by rw [(show ash 138 = (13, 38) from rfl)]; decide, by rw [(show ash 138 = (13, 38) from rfl)]; decide⟩) (by have := (Nat.lt_of_lt_of_le (show 138 < 154 by decide) hS.1.1); have := hS.1.2; omega)
    rw [em1]
    refine wp_aload_n (v := ((138 : Nat) : Int)) rfl (Int.natCast_nonneg _) ?_
    refine wp_iload_n (v := v1) rfl ?_
    obtain ⟨x3, e4, h⟩ := d_bind h
    refine y_callV (as := [(0, v1)]) (S1 := []) (Nat.le_of_ble_eq_true rfl) (by omega) (t_X13_isCave s2 e4) (Nat.le_of_ble_eq_true rfl) rfl (show ash 138 = (13, 38) from rfl) (Nat.lt_of_lt_of_le (show 138 < 154 by decide) hS.1.1) (Nat.le_of_ble_eq_true rfl) (Nat.le_of_ble_eq_true rfl) rfl ?_
    refine wp_if_eq (fun c5 => ?_) (fun c5 => ?_)
    · rw [if_pos c5] at h
      refine y_blk (t := 21) rfl (show fnd bk_X13_farBy 21 = some _ from rfl) aB_X13_farBy ?_
      refine wp_aload_n (v := ((138 : Nat) : Int)) rfl (Int.natCast_nonneg _) ?_
      refine wp_iconst ⟨by decide, by decide⟩ ?_
      obtain ⟨x6, e7, h⟩ := d_bind h
      obtain ⟨r8, s9⟩ := t_X13_refused s2 e7
      refine y_callV (as := [(0, 1)]) (S1 := []) (Nat.le_of_ble_eq_true rfl) (by omega) r8 (Nat.le_of_ble_eq_true rfl) rfl (show ash 138 = (13, 38) from rfl) (Nat.lt_of_lt_of_le (show 138 < 154 by decide) hS.1.1) (Nat.le_of_ble_eq_true rfl) (Nat.le_of_ble_eq_true rfl) rfl ?_
      cases h
      exact y_ret0 (Or.inl rfl) ⟨rfl, rfl, s9⟩
    · rw [if_neg c5] at h
      refine wp_aload_n (v := ((138 : Nat) : Int)) rfl (Int.natCast_nonneg _) ?_
      refine wp_iload_n (v := v2) rfl ?_
      obtain ⟨x10, e11, h⟩ := d_bind h
      refine y_callV (as := [(0, v2)]) (S1 := []) (Nat.le_of_ble_eq_true rfl) (by omega) (t_X13_isCave s2 e11) (Nat.le_of_ble_eq_true rfl) rfl (show ash 138 = (13, 38) from rfl) (Nat.lt_of_lt_of_le (show 138 < 154 by decide) hS.1.1) (Nat.le_of_ble_eq_true rfl) (Nat.le_of_ble_eq_true rfl) rfl ?_
      refine y_nez (fun c12 => ?_) (fun c12 => ?_)
      · rw [if_neg c12] at h
        refine y_blk (t := 27) rfl (show fnd bk_X13_farBy 27 = some _ from rfl) aB_X13_farBy ?_
        refine wp_iload_n (v := v3) rfl ?_
        refine wp_iconst ⟨by decide, by decide⟩ ?_
        refine y_ldc_w (v := 65536) (by decide) rfl ?_
        obtain ⟨x13, e14, h⟩ := d_bind h
        refine y_callS (as := [(0, v3), (0, 0), (0, 65536)]) (S1 := []) (Nat.le_of_ble_eq_true rfl) (by omega) (t_X13_in s2 e14) (Nat.le_of_ble_eq_true rfl) rfl (Nat.le_of_ble_eq_true rfl) (Nat.le_of_ble_eq_true rfl) rfl ?_
        refine y_nez (fun c15 => ?_) (fun c15 => ?_)
        · rw [if_neg c15] at h
          refine y_blk (t := 44) rfl (show fnd bk_X13_farBy 44 = some _ from rfl) aB_X13_farBy ?_
          refine wp_aload_n (v := ((138 : Nat) : Int)) rfl (Int.natCast_nonneg _) ?_
          refine wp_iload_n (v := v3) rfl ?_
          refine y_put (show ash 138 = (13, 38) from rfl) (Nat.lt_of_lt_of_le (show 138 < 154 by decide) hS.1.1) rfl ?_
          obtain ⟨m16, em16, h⟩ := d_bind h
          have em16 := Option.some.inj em16
          have s17 : Sh T.1 m16 := em16 ▸ s2.up (Or.inr ⟨by rw [(show ash 138 = (13, 38) from rfl)]; decide, by rw [(show ash 138 = (13, 38) from rfl)]; decide⟩) (by have := (Nat.lt_of_lt_of_le (show 138 < 154 by decide) hS.1.1); have := hS.1.2; omega)
          rw [em16]
          refine wp_aload_n (v := ((138 : Nat) : Int)) rfl (Int.natCast_nonneg _) ?_
          obtain ⟨x18, e19, h⟩ := d_bind h
          obtain ⟨r20, s21⟩ := t_X13_dries s17 e19
          refine y_callVv (as := []) (S1 := []) (Nat.le_of_ble_eq_true rfl) (by omega) r20 rfl (show ash 138 = (13, 38) from rfl) (Nat.lt_of_lt_of_le (show 138 < 154 by decide) hS.1.1) (Nat.le_of_ble_eq_true rfl) (Nat.le_of_ble_eq_true rfl) rfl ?_
          refine wp_aload_n (v := ((138 : Nat) : Int)) rfl (Int.natCast_nonneg _) ?_
          refine wp_aload_n (v := ((138 : Nat) : Int)) rfl (Int.natCast_nonneg _) ?_
          refine wp_aload_n (v := ((138 : Nat) : Int)) rfl (Int.natCast_nonneg _) ?_
          refine wp_iload_n (v := v1) rfl ?_
          refine wp_iload_n (v := v2) rfl ?_
          obtain ⟨x22, e23, h⟩ := d_bind h
          refine y_callV (as := [(0, v1), (0, v2)]) (S1 := [(2, ((138 : Nat) : Int)), (2, ((138 : Nat) : Int))]) (Nat.le_of_ble_eq_true rfl) (by omega) (t_X13_apart s21 e23) (Nat.le_of_ble_eq_true rfl) rfl (show ash 138 = (13, 38) from rfl) (Nat.lt_of_lt_of_le (show 138 < 154 by decide) hS.1.1) (Nat.le_of_ble_eq_true rfl) (Nat.le_of_ble_eq_true rfl) rfl ?_
          obtain ⟨x24, e25, h⟩ := d_bind h
          refine y_callV (as := [(0, x22)]) (S1 := [(2, ((138 : Nat) : Int))]) (Nat.le_of_ble_eq_true rfl) (by omega) (t_X13_told s21 e25) (Nat.le_of_ble_eq_true rfl) rfl (show ash 138 = (13, 38) from rfl) (Nat.lt_of_lt_of_le (show 138 < 154 by decide) hS.1.1) (Nat.le_of_ble_eq_true rfl) (Nat.le_of_ble_eq_true rfl) rfl ?_
          obtain ⟨x26, e27, h⟩ := d_bind h
          obtain ⟨r28, s29⟩ := t_X13_good s21 e27
          refine y_callV (as := [(0, x24)]) (S1 := []) (Nat.le_of_ble_eq_true rfl) (by omega) r28 (Nat.le_of_ble_eq_true rfl) rfl (show ash 138 = (13, 38) from rfl) (Nat.lt_of_lt_of_le (show 138 < 154 by decide) hS.1.1) (Nat.le_of_ble_eq_true rfl) (Nat.le_of_ble_eq_true rfl) rfl ?_
          cases h
          exact y_ret0 (Or.inl rfl) ⟨rfl, rfl, s29⟩
        · rw [if_pos c15] at h
          refine wp_aload_n (v := ((138 : Nat) : Int)) rfl (Int.natCast_nonneg _) ?_
          refine wp_iconst ⟨by decide, by decide⟩ ?_
          obtain ⟨x30, e31, h⟩ := d_bind h
          obtain ⟨r32, s33⟩ := t_X13_refused s2 e31
          refine y_callV (as := [(0, 2)]) (S1 := []) (Nat.le_of_ble_eq_true rfl) (by omega) r32 (Nat.le_of_ble_eq_true rfl) rfl (show ash 138 = (13, 38) from rfl) (Nat.lt_of_lt_of_le (show 138 < 154 by decide) hS.1.1) (Nat.le_of_ble_eq_true rfl) (Nat.le_of_ble_eq_true rfl) rfl ?_
          cases h
          exact y_ret0 (Or.inl rfl) ⟨rfl, rfl, s33⟩
      · rw [if_pos c12] at h
        refine y_blk (t := 21) rfl (show fnd bk_X13_farBy 21 = some _ from rfl) aB_X13_farBy ?_
        refine wp_aload_n (v := ((138 : Nat) : Int)) rfl (Int.natCast_nonneg _) ?_
        refine wp_iconst ⟨by decide, by decide⟩ ?_
        obtain ⟨x34, e35, h⟩ := d_bind h
        obtain ⟨r36, s37⟩ := t_X13_refused s2 e35
        refine y_callV (as := [(0, 1)]) (S1 := []) (Nat.le_of_ble_eq_true rfl) (by omega) r36 (Nat.le_of_ble_eq_true rfl) rfl (show ash 138 = (13, 38) from rfl) (Nat.lt_of_lt_of_le (show 138 < 154 by decide) hS.1.1) (Nat.le_of_ble_eq_true rfl) (Nat.le_of_ble_eq_true rfl) rfl ?_
        cases h
        exact y_ret0 (Or.inl rfl) ⟨rfl, rfl, s37⟩
  exact ⟨fun d hd => Ms.of3 (key d hd), Ms.sh (key 3 (Nat.le_refl _))⟩
theorem aB_X13_open : ∀ pc, aB 318 pc = fnd bk_X13_open pc := fun _ => rfl
def l_X13_open_66 (T : Nat) (v1 : Int) (v2 : Int) (v4 : Int) (k : Int → Int → aM → Option (Int × aM)) : Nat → Int → Int → aM → Option (Int × aM)
| 0, _, _, _ => none
| n + 1, v5, v6, M =>
 if v4 ≤ v6 then
 k v5 v6 M else
 (f_X13_dries T M).bind fun x26 =>
 (f_X13_apart T v1 v2 x26.2).bind fun x30 =>
 if 9999 ≤ x30 then
 if aIn (v5 + 0) then
 if aIn (v6 + 1) then
 l_X13_open_66 T v1 v2 v4 k n (v5 + 0) (v6 + 1) x26.2 else none else none else
 if aIn (v5 + 1) then
 if aIn (v6 + 1) then
 l_X13_open_66 T v1 v2 v4 k n (v5 + 1) (v6 + 1) x26.2 else none else none
theorem tl_X13_open_66 {d : Nat} (hd : 3 ≤ d) {T : T3} {v1 : Int} {v2 : Int} {v4 : Int} {k : Int → Int → aM → Option (Int × aM)} {y : (Int × aM)}  {M0 : aM} (hS : Sh T.1 M0)
    (hk : ∀ (v5 v6 : Int) (u3 : aV) (M : aM), Sh T.1 M → k v5 v6 M = some y → Wp d 318 105 [] [(2, ((138 : Nat) : Int)), (0, v1), (0, v2), u3, (0, v4), (0, v5), (0, v6)] [] (M, T) (fun r2 σ2 => r2 = some (0, y.1) ∧ σ2 = (y.2, T) ∧ Sh T.1 y.2)) :
    ∀ (n : Nat) (v5 v6 : Int) (u3 : aV) (M : aM), Sh T.1 M → l_X13_open_66 T.1 v1 v2 v4 k n v5 v6 M = some y → Wp d 318 66 [] [(2, ((138 : Nat) : Int)), (0, v1), (0, v2), u3, (0, v4), (0, v5), (0, v6)] [] (M, T) (fun r2 σ2 => r2 = some (0, y.1) ∧ σ2 = (y.2, T) ∧ Sh T.1 y.2) := by
  intro n
  induction n with
  | zero =>
    intro v5 v6 u3 M _ h
    exact nomatch (show (none : Option (Int × aM)) = some y from h)
  | succ n ih =>
    intro v5 v6 u3 M sM h
    rw [l_X13_open_66] at h
    refine y_blk (t := 66) rfl (show fnd bk_X13_open 66 = some _ from rfl) aB_X13_open ?_
    refine wp_iload (v := v6) rfl ?_
    refine wp_iload (v := v4) rfl ?_
    refine wp_icmp_ge (fun c25 => ?_) (fun c25 => ?_)
    · rw [if_pos c25] at h
      exact hk v5 v6 u3 M sM h
    · rw [if_neg c25] at h
      refine wp_aload_n (v := ((138 : Nat) : Int)) rfl (Int.natCast_nonneg _) ?_
      obtain ⟨x26, e27, h⟩ := d_bind h
      obtain ⟨r28, s29⟩ := t_X13_dries sM e27
      refine y_callVv (as := []) (S1 := []) (Nat.le_of_ble_eq_true rfl) (by omega) r28 rfl (show ash 138 = (13, 38) from rfl) (Nat.lt_of_lt_of_le (show 138 < 154 by decide) hS.1.1) (Nat.le_of_ble_eq_true rfl) (Nat.le_of_ble_eq_true rfl) rfl ?_
      refine wp_iload (v := v5) rfl ?_
      refine wp_aload_n (v := ((138 : Nat) : Int)) rfl (Int.natCast_nonneg _) ?_
      refine wp_iload_n (v := v1) rfl ?_
      refine wp_iload_n (v := v2) rfl ?_
      obtain ⟨x30, e31, h⟩ := d_bind h
      refine y_callV (as := [(0, v1), (0, v2)]) (S1 := [(0, v5)]) (Nat.le_of_ble_eq_true rfl) (by omega) (t_X13_apart s29 e31) (Nat.le_of_ble_eq_true rfl) rfl (show ash 138 = (13, 38) from rfl) (Nat.lt_of_lt_of_le (show 138 < 154 by decide) hS.1.1) (Nat.le_of_ble_eq_true rfl) (Nat.le_of_ble_eq_true rfl) rfl ?_
      refine wp_sipush (by decide) ?_
      refine wp_icmp_ge (fun c32 => ?_) (fun c32 => ?_)
      · rw [if_pos c32] at h
        refine y_blk (t := 95) rfl (show fnd bk_X13_open 95 = some _ from rfl) aB_X13_open ?_
        refine wp_iconst ⟨by decide, by decide⟩ ?_
        refine y_blk (t := 96) rfl (show fnd bk_X13_open 96 = some _ from rfl) aB_X13_open ?_
        obtain ⟨c33, h⟩ := d_ite h
        refine wp_iadd c33 ?_
        refine y_st (L1 := [(2, ((138 : Nat) : Int)), (0, v1), (0, v2), u3, (0, v4), (0, (v5 + 0)), (0, v6)]) (Nat.le_of_ble_eq_true rfl) rfl ?_
        obtain ⟨c34, h⟩ := d_ite h
        refine y_iinc (L1 := [(2, ((138 : Nat) : Int)), (0, v1), (0, v2), u3, (0, v4), (0, (v5 + 0)), (0, (v6 + 1))]) rfl (Nat.le_of_ble_eq_true rfl) ⟨by decide, by decide⟩ c34 rfl ?_
        refine wp_goto ?_
        exact ih (v5 + 0) (v6 + 1) u3 x26.2 s29 h
      · rw [if_neg c32] at h
        refine wp_iconst ⟨by decide, by decide⟩ ?_
        refine wp_goto ?_
        refine y_blk (t := 96) rfl (show fnd bk_X13_open 96 = some _ from rfl) aB_X13_open ?_
        obtain ⟨c35, h⟩ := d_ite h
        refine wp_iadd c35 ?_
        refine y_st (L1 := [(2, ((138 : Nat) : Int)), (0, v1), (0, v2), u3, (0, v4), (0, (v5 + 1)), (0, v6)]) (Nat.le_of_ble_eq_true rfl) rfl ?_
        obtain ⟨c36, h⟩ := d_ite h
        refine y_iinc (L1 := [(2, ((138 : Nat) : Int)), (0, v1), (0, v2), u3, (0, v4), (0, (v5 + 1)), (0, (v6 + 1))]) rfl (Nat.le_of_ble_eq_true rfl) ⟨by decide, by decide⟩ c36 rfl ?_
        refine wp_goto ?_
        exact ih (v5 + 1) (v6 + 1) u3 x26.2 s29 h
def f_X13_open (T : Nat) (v1 : Int) (v2 : Int) (v3 : Int) (v4 : Int) (M : aM) : Option (Int × aM) :=
 (some (aup M 138 0 0)).bind fun m1 =>
 (f_X13_isCave T v1 m1).bind fun x3 =>
 if x3 = 0 then
 (f_X13_refused T 1 m1).bind fun x6 =>
 some (x6.1, x6.2) else
 (f_X13_isCave T v2 m1).bind fun x10 =>
 if x10 = 0 then
 (f_X13_refused T 1 m1).bind fun x50 =>
 some (x50.1, x50.2) else
 (f_X13_in T v3 0 65536 m1).bind fun x13 =>
 if x13 = 0 then
 (f_X13_refused T 2 m1).bind fun x16 =>
 some (x16.1, x16.2) else
 (f_X13_in T v4 0 60 m1).bind fun x20 =>
 if x20 = 0 then
 (f_X13_refused T 2 m1).bind fun x46 =>
 some (x46.1, x46.2) else
 (some (aup m1 138 37 v3)).bind fun m23 =>
 l_X13_open_66 T v1 v2 v4 (fun w37 w38 m40 =>
 (f_X13_good T w37 m40).bind fun x42 =>
 some (x42.1, x42.2)) FU 0 0 m23
theorem t_X13_open {T : T3} {v1 : Int} {v2 : Int} {v3 : Int} {v4 : Int} {M : aM} {y : (Int × aM)}  (hS : Sh T.1 M) (h : f_X13_open T.1 v1 v2 v3 v4 M = some y) : Mr 3 318 [(2, ((138 : Nat) : Int)), (0, v1), (0, v2), (0, v3), (0, v4)] M (some (0, y.1)) y.2 T ∧ Sh T.1 y.2 := by
  have key : ∀ d, 3 ≤ d → Wp d 318 0 [] [(2, ((138 : Nat) : Int)), (0, v1), (0, v2), (0, v3), (0, v4), (9, 0), (9, 0)] [] (M, T) (fun r2 σ2 => r2 = some (0, y.1) ∧ σ2 = (y.2, T) ∧ Sh T.1 y.2) := by
    intro d hd
    rw [f_X13_open] at h
    refine y_blk (t := 0) rfl (show fnd bk_X13_open 0 = some _ from rfl) aB_X13_open ?_
    refine wp_aload_n (v := ((138 : Nat) : Int)) rfl (Int.natCast_nonneg _) ?_
    refine wp_iconst ⟨by decide, by decide⟩ ?_
    refine y_put (show ash 138 = (13, 38) from rfl) (Nat.lt_of_lt_of_le (show 138 < 154 by decide) hS.1.1) rfl ?_
    obtain ⟨m1, em1, h⟩ := d_bind h
    have em1 := Option.some.inj em1
    have s2 : Sh T.1 m1 := em1 ▸ hS.up (Or.inr ⟨by rw [(show ash 138 = (13, 38) from rfl)]; decide, by rw [(show ash 138 = (13, 38) from rfl)]; decide⟩) (by have := (Nat.lt_of_lt_of_le (show 138 < 154 by decide) hS.1.1); have := hS.1.2; omega)
    rw [em1]
    refine wp_aload_n (v := ((138 : Nat) : Int)) rfl (Int.natCast_nonneg _) ?_
    refine wp_iload_n (v := v1) rfl ?_
    obtain ⟨x3, e4, h⟩ := d_bind h
    refine y_callV (as := [(0, v1)]) (S1 := []) (Nat.le_of_ble_eq_true rfl) (by omega) (t_X13_isCave s2 e4) (Nat.le_of_ble_eq_true rfl) rfl (show ash 138 = (13, 38) from rfl) (Nat.lt_of_lt_of_le (show 138 < 154 by decide) hS.1.1) (Nat.le_of_ble_eq_true rfl) (Nat.le_of_ble_eq_true rfl) rfl ?_
    refine wp_if_eq (fun c5 => ?_) (fun c5 => ?_)
    · rw [if_pos c5] at h
      refine y_blk (t := 21) rfl (show fnd bk_X13_open 21 = some _ from rfl) aB_X13_open ?_
      refine wp_aload_n (v := ((138 : Nat) : Int)) rfl (Int.natCast_nonneg _) ?_
      refine wp_iconst ⟨by decide, by decide⟩ ?_
      obtain ⟨x6, e7, h⟩ := d_bind h
      obtain ⟨r8, s9⟩ := t_X13_refused s2 e7
      refine y_callV (as := [(0, 1)]) (S1 := []) (Nat.le_of_ble_eq_true rfl) (by omega) r8 (Nat.le_of_ble_eq_true rfl) rfl (show ash 138 = (13, 38) from rfl) (Nat.lt_of_lt_of_le (show 138 < 154 by decide) hS.1.1) (Nat.le_of_ble_eq_true rfl) (Nat.le_of_ble_eq_true rfl) rfl ?_
      cases h
      exact y_ret0 (Or.inl rfl) ⟨rfl, rfl, s9⟩
    · rw [if_neg c5] at h
      refine wp_aload_n (v := ((138 : Nat) : Int)) rfl (Int.natCast_nonneg _) ?_
      refine wp_iload_n (v := v2) rfl ?_
      obtain ⟨x10, e11, h⟩ := d_bind h
      refine y_callV (as := [(0, v2)]) (S1 := []) (Nat.le_of_ble_eq_true rfl) (by omega) (t_X13_isCave s2 e11) (Nat.le_of_ble_eq_true rfl) rfl (show ash 138 = (13, 38) from rfl) (Nat.lt_of_lt_of_le (show 138 < 154 by decide) hS.1.1) (Nat.le_of_ble_eq_true rfl) (Nat.le_of_ble_eq_true rfl) rfl ?_
      refine y_nez (fun c12 => ?_) (fun c12 => ?_)
      · rw [if_neg c12] at h
        refine y_blk (t := 27) rfl (show fnd bk_X13_open 27 = some _ from rfl) aB_X13_open ?_
        refine wp_iload_n (v := v3) rfl ?_
        refine wp_iconst ⟨by decide, by decide⟩ ?_
        refine y_ldc_w (v := 65536) (by decide) rfl ?_
        obtain ⟨x13, e14, h⟩ := d_bind h
        refine y_callS (as := [(0, v3), (0, 0), (0, 65536)]) (S1 := []) (Nat.le_of_ble_eq_true rfl) (by omega) (t_X13_in s2 e14) (Nat.le_of_ble_eq_true rfl) rfl (Nat.le_of_ble_eq_true rfl) (Nat.le_of_ble_eq_true rfl) rfl ?_
        refine wp_if_eq (fun c15 => ?_) (fun c15 => ?_)
        · rw [if_pos c15] at h
          refine y_blk (t := 49) rfl (show fnd bk_X13_open 49 = some _ from rfl) aB_X13_open ?_
          refine wp_aload_n (v := ((138 : Nat) : Int)) rfl (Int.natCast_nonneg _) ?_
          refine wp_iconst ⟨by decide, by decide⟩ ?_
          obtain ⟨x16, e17, h⟩ := d_bind h
          obtain ⟨r18, s19⟩ := t_X13_refused s2 e17
          refine y_callV (as := [(0, 2)]) (S1 := []) (Nat.le_of_ble_eq_true rfl) (by omega) r18 (Nat.le_of_ble_eq_true rfl) rfl (show ash 138 = (13, 38) from rfl) (Nat.lt_of_lt_of_le (show 138 < 154 by decide) hS.1.1) (Nat.le_of_ble_eq_true rfl) (Nat.le_of_ble_eq_true rfl) rfl ?_
          cases h
          exact y_ret0 (Or.inl rfl) ⟨rfl, rfl, s19⟩
        · rw [if_neg c15] at h
          refine wp_iload (v := v4) rfl ?_
          refine wp_iconst ⟨by decide, by decide⟩ ?_
          refine wp_bipush (by decide) ?_
          obtain ⟨x20, e21, h⟩ := d_bind h
          refine y_callS (as := [(0, v4), (0, 0), (0, 60)]) (S1 := []) (Nat.le_of_ble_eq_true rfl) (by omega) (t_X13_in s2 e21) (Nat.le_of_ble_eq_true rfl) rfl (Nat.le_of_ble_eq_true rfl) (Nat.le_of_ble_eq_true rfl) rfl ?_
          refine y_nez (fun c22 => ?_) (fun c22 => ?_)
          · rw [if_neg c22] at h
            refine y_blk (t := 55) rfl (show fnd bk_X13_open 55 = some _ from rfl) aB_X13_open ?_
            refine wp_aload_n (v := ((138 : Nat) : Int)) rfl (Int.natCast_nonneg _) ?_
            refine wp_iload_n (v := v3) rfl ?_
            refine y_put (show ash 138 = (13, 38) from rfl) (Nat.lt_of_lt_of_le (show 138 < 154 by decide) hS.1.1) rfl ?_
            obtain ⟨m23, em23, h⟩ := d_bind h
            have em23 := Option.some.inj em23
            have s24 : Sh T.1 m23 := em23 ▸ s2.up (Or.inr ⟨by rw [(show ash 138 = (13, 38) from rfl)]; decide, by rw [(show ash 138 = (13, 38) from rfl)]; decide⟩) (by have := (Nat.lt_of_lt_of_le (show 138 < 154 by decide) hS.1.1); have := hS.1.2; omega)
            rw [em23]
            refine wp_iconst ⟨by decide, by decide⟩ ?_
            refine y_st (L1 := [(2, ((138 : Nat) : Int)), (0, v1), (0, v2), (0, v3), (0, v4), (0, 0), (9, 0)]) (Nat.le_of_ble_eq_true rfl) rfl ?_
            refine wp_iconst ⟨by decide, by decide⟩ ?_
            refine y_st (L1 := [(2, ((138 : Nat) : Int)), (0, v1), (0, v2), (0, v3), (0, v4), (0, 0), (0, 0)]) (Nat.le_of_ble_eq_true rfl) rfl ?_
            refine tl_X13_open_66 (by omega) hS (fun w37 w38 u39 m40 s41 h => ?_) FU 0 0 (0, v3) m23 s24 h
            refine y_blk (t := 105) rfl (show fnd bk_X13_open 105 = some _ from rfl) aB_X13_open ?_
            refine wp_aload_n (v := ((138 : Nat) : Int)) rfl (Int.natCast_nonneg _) ?_
            refine wp_iload (v := w37) rfl ?_
            obtain ⟨x42, e43, h⟩ := d_bind h
            obtain ⟨r44, s45⟩ := t_X13_good s41 e43
            refine y_callV (as := [(0, w37)]) (S1 := []) (Nat.le_of_ble_eq_true rfl) (by omega) r44 (Nat.le_of_ble_eq_true rfl) rfl (show ash 138 = (13, 38) from rfl) (Nat.lt_of_lt_of_le (show 138 < 154 by decide) hS.1.1) (Nat.le_of_ble_eq_true rfl) (Nat.le_of_ble_eq_true rfl) rfl ?_
            cases h
            exact y_ret0 (Or.inl rfl) ⟨rfl, rfl, s45⟩
          · rw [if_pos c22] at h
            refine y_blk (t := 49) rfl (show fnd bk_X13_open 49 = some _ from rfl) aB_X13_open ?_
            refine wp_aload_n (v := ((138 : Nat) : Int)) rfl (Int.natCast_nonneg _) ?_
            refine wp_iconst ⟨by decide, by decide⟩ ?_
            obtain ⟨x46, e47, h⟩ := d_bind h
            obtain ⟨r48, s49⟩ := t_X13_refused s2 e47
            refine y_callV (as := [(0, 2)]) (S1 := []) (Nat.le_of_ble_eq_true rfl) (by omega) r48 (Nat.le_of_ble_eq_true rfl) rfl (show ash 138 = (13, 38) from rfl) (Nat.lt_of_lt_of_le (show 138 < 154 by decide) hS.1.1) (Nat.le_of_ble_eq_true rfl) (Nat.le_of_ble_eq_true rfl) rfl ?_
            cases h
            exact y_ret0 (Or.inl rfl) ⟨rfl, rfl, s49⟩
      · rw [if_pos c12] at h
        refine y_blk (t := 21) rfl (show fnd bk_X13_open 21 = some _ from rfl) aB_X13_open ?_
        refine wp_aload_n (v := ((138 : Nat) : Int)) rfl (Int.natCast_nonneg _) ?_
        refine wp_iconst ⟨by decide, by decide⟩ ?_
        obtain ⟨x50, e51, h⟩ := d_bind h
        obtain ⟨r52, s53⟩ := t_X13_refused s2 e51
        refine y_callV (as := [(0, 1)]) (S1 := []) (Nat.le_of_ble_eq_true rfl) (by omega) r52 (Nat.le_of_ble_eq_true rfl) rfl (show ash 138 = (13, 38) from rfl) (Nat.lt_of_lt_of_le (show 138 < 154 by decide) hS.1.1) (Nat.le_of_ble_eq_true rfl) (Nat.le_of_ble_eq_true rfl) rfl ?_
        cases h
        exact y_ret0 (Or.inl rfl) ⟨rfl, rfl, s53⟩
  exact ⟨fun d hd => Ms.of3 (key d hd), Ms.sh (key 3 (Nat.le_refl _))⟩
theorem aB_X13_remembers : ∀ pc, aB 319 pc = fnd bk_X13_remembers pc := fun _ => rfl
def l_X13_remembers_51 (T : Nat)  (k : Int → aM → Option (Int × aM)) : Nat → Int → aM → Option (Int × aM)
| 0, _, _ => none
| n + 1, v1, M =>
 if 12 ≤ v1 then
 k v1 M else
 if aIn (12 * (M 138 20)) then
 if aIn ((12 * (M 138 20)) + v1) then
 if 0 ≤ v1 ∧ v1 < 12 then
 if 0 ≤ ((12 * (M 138 20)) + v1) ∧ ((12 * (M 138 20)) + v1) < 192 then
 (some (aup M 142 (((12 * (M 138 20)) + v1)).toNat (M 140 (v1).toNat))).bind fun m7 =>
 if aIn (v1 + 1) then
 l_X13_remembers_51 T k n (v1 + 1) m7 else none else none else none else none else none
theorem tl_X13_remembers_51 {d : Nat} (hd : 0 ≤ d) {T : T3}  {k : Int → aM → Option (Int × aM)} {y : (Int × aM)}  {M0 : aM} (hS : Sh T.1 M0)
    (hk : ∀ (v1 : Int) (M : aM), Sh T.1 M → k v1 M = some y → Wp d 319 83 [] [(2, ((138 : Nat) : Int)), (0, v1)] [] (M, T) (fun r2 σ2 => r2 = none ∧ σ2 = (y.2, T) ∧ Sh T.1 y.2)) :
    ∀ (n : Nat) (v1 : Int) (M : aM), Sh T.1 M → l_X13_remembers_51 T.1 k n v1 M = some y → Wp d 319 51 [] [(2, ((138 : Nat) : Int)), (0, v1)] [] (M, T) (fun r2 σ2 => r2 = none ∧ σ2 = (y.2, T) ∧ Sh T.1 y.2) := by
  intro n
  induction n with
  | zero =>
    intro v1 M _ h
    exact nomatch (show (none : Option (Int × aM)) = some y from h)
  | succ n ih =>
    intro v1 M sM h
    rw [l_X13_remembers_51] at h
    refine y_blk (t := 51) rfl (show fnd bk_X13_remembers 51 = some _ from rfl) aB_X13_remembers ?_
    refine wp_iload_n (v := v1) rfl ?_
    refine wp_bipush (by decide) ?_
    refine wp_icmp_ge (fun c2 => ?_) (fun c2 => ?_)
    · rw [if_pos c2] at h
      exact hk v1  M sM h
    · rw [if_neg c2] at h
      refine wp_aload_n (v := ((138 : Nat) : Int)) rfl (Int.natCast_nonneg _) ?_
      refine y_get (show ash 138 = (13, 38) from rfl) (Nat.lt_of_lt_of_le (show 138 < 154 by decide) hS.1.1) (v := ((142 : Nat) : Int)) (sM.at 138 18 142 (by decide +kernel)) rfl ?_
      refine wp_bipush (by decide) ?_
      refine wp_aload_n (v := ((138 : Nat) : Int)) rfl (Int.natCast_nonneg _) ?_
      refine y_get (show ash 138 = (13, 38) from rfl) (Nat.lt_of_lt_of_le (show 138 < 154 by decide) hS.1.1) (v := M 138 20) rfl rfl ?_
      obtain ⟨c3, h⟩ := d_ite h
      refine wp_imul c3 ?_
      refine wp_iload_n (v := v1) rfl ?_
      obtain ⟨c4, h⟩ := d_ite h
      refine wp_iadd c4 ?_
      refine wp_aload_n (v := ((138 : Nat) : Int)) rfl (Int.natCast_nonneg _) ?_
      refine y_get (show ash 138 = (13, 38) from rfl) (Nat.lt_of_lt_of_le (show 138 < 154 by decide) hS.1.1) (v := ((140 : Nat) : Int)) (sM.at 138 16 140 (by decide +kernel)) rfl ?_
      refine wp_iload_n (v := v1) rfl ?_
      obtain ⟨c5, h⟩ := d_ite h
      refine y_iald (show ash 140 = (100, 12) from rfl) (Or.inl (Nat.lt_of_lt_of_le (show 140 < 154 by decide) hS.1.1)) (Nat.ne_of_lt (Nat.lt_of_lt_of_le (Nat.lt_of_lt_of_le (show 140 < 154 by decide) hS.1.1) hS.1.2)) c5 (v := M 140 (v1).toNat) rfl ?_
      obtain ⟨c6, h⟩ := d_ite h
      refine y_iast (show ash 142 = (100, 192) from rfl) (Nat.lt_of_lt_of_le (show 142 < 154 by decide) hS.1.1) c6 ?_
      obtain ⟨m7, em7, h⟩ := d_bind h
      have em7 := Option.some.inj em7
      have s8 : Sh T.1 m7 := em7 ▸ sM.up (Or.inl ⟨by rw [(show ash 142 = (100, 192) from rfl)]; exact Nat.le_of_ble_eq_true rfl, by rw [(show ash 142 = (100, 192) from rfl)]; exact Nat.le_of_ble_eq_true rfl⟩) (by have := (Nat.lt_of_lt_of_le (show 142 < 154 by decide) hS.1.1); have := hS.1.2; omega)
      rw [em7]
      obtain ⟨c9, h⟩ := d_ite h
      refine y_iinc (L1 := [(2, ((138 : Nat) : Int)), (0, (v1 + 1))]) rfl (Nat.le_of_ble_eq_true rfl) ⟨by decide, by decide⟩ c9 rfl ?_
      refine wp_goto ?_
      exact ih (v1 + 1)  m7 s8 h
def l_X13_remembers_11 (T : Nat)  (k : Int → aM → Option (Int × aM)) : Nat → Int → aM → Option (Int × aM)
| 0, _, _ => none
| n + 1, v1, M =>
 if 180 ≤ v1 then
 k v1 M else
 if aIn (v1 + 12) then
 if 0 ≤ (v1 + 12) ∧ (v1 + 12) < 192 then
 if 0 ≤ v1 ∧ v1 < 192 then
 (some (aup M 142 (v1).toNat (M 142 ((v1 + 12)).toNat))).bind fun m20 =>
 if aIn (v1 + 1) then
 l_X13_remembers_11 T k n (v1 + 1) m20 else none else none else none else none
theorem tl_X13_remembers_11 {d : Nat} (hd : 0 ≤ d) {T : T3}  {k : Int → aM → Option (Int × aM)} {y : (Int × aM)}  {M0 : aM} (hS : Sh T.1 M0)
    (hk : ∀ (v1 : Int) (M : aM), Sh T.1 M → k v1 M = some y → Wp d 319 39 [] [(2, ((138 : Nat) : Int)), (0, v1)] [] (M, T) (fun r2 σ2 => r2 = none ∧ σ2 = (y.2, T) ∧ Sh T.1 y.2)) :
    ∀ (n : Nat) (v1 : Int) (M : aM), Sh T.1 M → l_X13_remembers_11 T.1 k n v1 M = some y → Wp d 319 11 [] [(2, ((138 : Nat) : Int)), (0, v1)] [] (M, T) (fun r2 σ2 => r2 = none ∧ σ2 = (y.2, T) ∧ Sh T.1 y.2) := by
  intro n
  induction n with
  | zero =>
    intro v1 M _ h
    exact nomatch (show (none : Option (Int × aM)) = some y from h)
  | succ n ih =>
    intro v1 M sM h
    rw [l_X13_remembers_11] at h
    refine y_blk (t := 11) rfl (show fnd bk_X13_remembers 11 = some _ from rfl) aB_X13_remembers ?_
    refine wp_iload_n (v := v1) rfl ?_
    refine wp_sipush (by decide) ?_
    refine wp_icmp_ge (fun c16 => ?_) (fun c16 => ?_)
    · rw [if_pos c16] at h
      exact hk v1  M sM h
    · rw [if_neg c16] at h
      refine wp_aload_n (v := ((138 : Nat) : Int)) rfl (Int.natCast_nonneg _) ?_
      refine y_get (show ash 138 = (13, 38) from rfl) (Nat.lt_of_lt_of_le (show 138 < 154 by decide) hS.1.1) (v := ((142 : Nat) : Int)) (sM.at 138 18 142 (by decide +kernel)) rfl ?_
      refine wp_iload_n (v := v1) rfl ?_
      refine wp_aload_n (v := ((138 : Nat) : Int)) rfl (Int.natCast_nonneg _) ?_
      refine y_get (show ash 138 = (13, 38) from rfl) (Nat.lt_of_lt_of_le (show 138 < 154 by decide) hS.1.1) (v := ((142 : Nat) : Int)) (sM.at 138 18 142 (by decide +kernel)) rfl ?_
      refine wp_iload_n (v := v1) rfl ?_
      refine wp_bipush (by decide) ?_
      obtain ⟨c17, h⟩ := d_ite h
      refine wp_iadd c17 ?_
      obtain ⟨c18, h⟩ := d_ite h
      refine y_iald (show ash 142 = (100, 192) from rfl) (Or.inl (Nat.lt_of_lt_of_le (show 142 < 154 by decide) hS.1.1)) (Nat.ne_of_lt (Nat.lt_of_lt_of_le (Nat.lt_of_lt_of_le (show 142 < 154 by decide) hS.1.1) hS.1.2)) c18 (v := M 142 ((v1 + 12)).toNat) rfl ?_
      obtain ⟨c19, h⟩ := d_ite h
      refine y_iast (show ash 142 = (100, 192) from rfl) (Nat.lt_of_lt_of_le (show 142 < 154 by decide) hS.1.1) c19 ?_
      obtain ⟨m20, em20, h⟩ := d_bind h
      have em20 := Option.some.inj em20
      have s21 : Sh T.1 m20 := em20 ▸ sM.up (Or.inl ⟨by rw [(show ash 142 = (100, 192) from rfl)]; exact Nat.le_of_ble_eq_true rfl, by rw [(show ash 142 = (100, 192) from rfl)]; exact Nat.le_of_ble_eq_true rfl⟩) (by have := (Nat.lt_of_lt_of_le (show 142 < 154 by decide) hS.1.1); have := hS.1.2; omega)
      rw [em20]
      obtain ⟨c22, h⟩ := d_ite h
      refine y_iinc (L1 := [(2, ((138 : Nat) : Int)), (0, (v1 + 1))]) rfl (Nat.le_of_ble_eq_true rfl) ⟨by decide, by decide⟩ c22 rfl ?_
      refine wp_goto ?_
      exact ih (v1 + 1)  m20 s21 h
def f_X13_remembers (T : Nat)  (M : aM) : Option (Int × aM) :=
 if (M 138 20) = 16 then
 l_X13_remembers_11 T (fun w23 m24 =>
 if aIn ((m24 138 20) - 1) then
 (some (aup m24 138 20 ((m24 138 20) - 1))).bind fun m27 =>
 l_X13_remembers_51 T (fun w29 m30 =>
 if aIn ((m30 138 20) + 1) then
 (some (aup m30 138 20 ((m30 138 20) + 1))).bind fun m33 =>
 some (0, m33) else none) FU 0 m27 else none) FU 0 M else
 l_X13_remembers_51 T (fun w10 m11 =>
 if aIn ((m11 138 20) + 1) then
 (some (aup m11 138 20 ((m11 138 20) + 1))).bind fun m14 =>
 some (0, m14) else none) FU 0 M
theorem t_X13_remembers {T : T3}  {M : aM} {y : (Int × aM)}  (hS : Sh T.1 M) (h : f_X13_remembers T.1  M = some y) : Mr 0 319 [(2, ((138 : Nat) : Int))] M (none) y.2 T ∧ Sh T.1 y.2 := by
  have key : ∀ d, 0 ≤ d → Wp d 319 0 [] [(2, ((138 : Nat) : Int)), (9, 0)] [] (M, T) (fun r2 σ2 => r2 = none ∧ σ2 = (y.2, T) ∧ Sh T.1 y.2) := by
    intro d hd
    rw [f_X13_remembers] at h
    refine y_blk (t := 0) rfl (show fnd bk_X13_remembers 0 = some _ from rfl) aB_X13_remembers ?_
    refine wp_aload_n (v := ((138 : Nat) : Int)) rfl (Int.natCast_nonneg _) ?_
    refine y_get (show ash 138 = (13, 38) from rfl) (Nat.lt_of_lt_of_le (show 138 < 154 by decide) hS.1.1) (v := M 138 20) rfl rfl ?_
    refine wp_bipush (by decide) ?_
    refine y_ne (fun c1 => ?_) (fun c1 => ?_)
    · rw [if_neg c1] at h
      refine y_blk (t := 49) rfl (show fnd bk_X13_remembers 49 = some _ from rfl) aB_X13_remembers ?_
      refine wp_iconst ⟨by decide, by decide⟩ ?_
      refine y_stn (L1 := [(2, ((138 : Nat) : Int)), (0, 0)]) (Nat.le_of_ble_eq_true rfl) rfl ?_
      refine tl_X13_remembers_51 (by omega) hS (fun w10  m11 s12 h => ?_) FU 0  M hS h
      refine y_blk (t := 83) rfl (show fnd bk_X13_remembers 83 = some _ from rfl) aB_X13_remembers ?_
      refine wp_aload_n (v := ((138 : Nat) : Int)) rfl (Int.natCast_nonneg _) ?_
      refine wp_dup (Or.inr rfl) ?_
      refine y_get (show ash 138 = (13, 38) from rfl) (Nat.lt_of_lt_of_le (show 138 < 154 by decide) hS.1.1) (v := m11 138 20) rfl rfl ?_
      refine wp_iconst ⟨by decide, by decide⟩ ?_
      obtain ⟨c13, h⟩ := d_ite h
      refine wp_iadd c13 ?_
      refine y_put (show ash 138 = (13, 38) from rfl) (Nat.lt_of_lt_of_le (show 138 < 154 by decide) hS.1.1) rfl ?_
      obtain ⟨m14, em14, h⟩ := d_bind h
      have em14 := Option.some.inj em14
      have s15 : Sh T.1 m14 := em14 ▸ s12.up (Or.inr ⟨by rw [(show ash 138 = (13, 38) from rfl)]; decide, by rw [(show ash 138 = (13, 38) from rfl)]; decide⟩) (by have := (Nat.lt_of_lt_of_le (show 138 < 154 by decide) hS.1.1); have := hS.1.2; omega)
      rw [em14]
      cases h
      exact wp_return ⟨rfl, rfl, s15⟩
    · rw [if_pos c1] at h
      refine wp_iconst ⟨by decide, by decide⟩ ?_
      refine y_stn (L1 := [(2, ((138 : Nat) : Int)), (0, 0)]) (Nat.le_of_ble_eq_true rfl) rfl ?_
      refine tl_X13_remembers_11 (by omega) hS (fun w23  m24 s25 h => ?_) FU 0  M hS h
      refine y_blk (t := 39) rfl (show fnd bk_X13_remembers 39 = some _ from rfl) aB_X13_remembers ?_
      refine wp_aload_n (v := ((138 : Nat) : Int)) rfl (Int.natCast_nonneg _) ?_
      refine wp_dup (Or.inr rfl) ?_
      refine y_get (show ash 138 = (13, 38) from rfl) (Nat.lt_of_lt_of_le (show 138 < 154 by decide) hS.1.1) (v := m24 138 20) rfl rfl ?_
      refine wp_iconst ⟨by decide, by decide⟩ ?_
      obtain ⟨c26, h⟩ := d_ite h
      refine wp_isub c26 ?_
      refine y_put (show ash 138 = (13, 38) from rfl) (Nat.lt_of_lt_of_le (show 138 < 154 by decide) hS.1.1) rfl ?_
      obtain ⟨m27, em27, h⟩ := d_bind h
      have em27 := Option.some.inj em27
      have s28 : Sh T.1 m27 := em27 ▸ s25.up (Or.inr ⟨by rw [(show ash 138 = (13, 38) from rfl)]; decide, by rw [(show ash 138 = (13, 38) from rfl)]; decide⟩) (by have := (Nat.lt_of_lt_of_le (show 138 < 154 by decide) hS.1.1); have := hS.1.2; omega)
      rw [em27]
      refine y_blk (t := 49) rfl (show fnd bk_X13_remembers 49 = some _ from rfl) aB_X13_remembers ?_
      refine wp_iconst ⟨by decide, by decide⟩ ?_
      refine y_stn (L1 := [(2, ((138 : Nat) : Int)), (0, 0)]) (Nat.le_of_ble_eq_true rfl) rfl ?_
      refine tl_X13_remembers_51 (by omega) hS (fun w29  m30 s31 h => ?_) FU 0  m27 s28 h
      refine y_blk (t := 83) rfl (show fnd bk_X13_remembers 83 = some _ from rfl) aB_X13_remembers ?_
      refine wp_aload_n (v := ((138 : Nat) : Int)) rfl (Int.natCast_nonneg _) ?_
      refine wp_dup (Or.inr rfl) ?_
      refine y_get (show ash 138 = (13, 38) from rfl) (Nat.lt_of_lt_of_le (show 138 < 154 by decide) hS.1.1) (v := m30 138 20) rfl rfl ?_
      refine wp_iconst ⟨by decide, by decide⟩ ?_
      obtain ⟨c32, h⟩ := d_ite h
      refine wp_iadd c32 ?_
      refine y_put (show ash 138 = (13, 38) from rfl) (Nat.lt_of_lt_of_le (show 138 < 154 by decide) hS.1.1) rfl ?_
      obtain ⟨m33, em33, h⟩ := d_bind h
      have em33 := Option.some.inj em33
      have s34 : Sh T.1 m33 := em33 ▸ s31.up (Or.inr ⟨by rw [(show ash 138 = (13, 38) from rfl)]; decide, by rw [(show ash 138 = (13, 38) from rfl)]; decide⟩) (by have := (Nat.lt_of_lt_of_le (show 138 < 154 by decide) hS.1.1); have := hS.1.2; omega)
      rw [em33]
      cases h
      exact wp_return ⟨rfl, rfl, s34⟩
  exact ⟨fun d hd => Ms.of3 (key d hd), Ms.sh (key 0 (Nat.le_refl _))⟩
theorem aB_X13_remains : ∀ pc, aB 320 pc = fnd bk_X13_remains pc := fun _ => rfl
def l_X13_remains_2 (T : Nat)  (k : Int → aM → Option (Int × aM)) : Nat → Int → aM → Option (Int × aM)
| 0, _, _ => none
| n + 1, v1, M =>
 if 12 ≤ v1 then
 k v1 M else
 if 0 ≤ v1 ∧ v1 < 12 then
 (some (aup M 140 (v1).toNat (M 141 (v1).toNat))).bind fun m3 =>
 if aIn (v1 + 1) then
 l_X13_remains_2 T k n (v1 + 1) m3 else none else none
theorem tl_X13_remains_2 {d : Nat} (hd : 0 ≤ d) {T : T3}  {k : Int → aM → Option (Int × aM)} {y : (Int × aM)}  {M0 : aM} (hS : Sh T.1 M0)
    (hk : ∀ (v1 : Int) (M : aM), Sh T.1 M → k v1 M = some y → Wp d 320 26 [] [(2, ((138 : Nat) : Int)), (0, v1)] [] (M, T) (fun r2 σ2 => r2 = none ∧ σ2 = (y.2, T) ∧ Sh T.1 y.2)) :
    ∀ (n : Nat) (v1 : Int) (M : aM), Sh T.1 M → l_X13_remains_2 T.1 k n v1 M = some y → Wp d 320 2 [] [(2, ((138 : Nat) : Int)), (0, v1)] [] (M, T) (fun r2 σ2 => r2 = none ∧ σ2 = (y.2, T) ∧ Sh T.1 y.2) := by
  intro n
  induction n with
  | zero =>
    intro v1 M _ h
    exact nomatch (show (none : Option (Int × aM)) = some y from h)
  | succ n ih =>
    intro v1 M sM h
    rw [l_X13_remains_2] at h
    refine y_blk (t := 2) rfl (show fnd bk_X13_remains 2 = some _ from rfl) aB_X13_remains ?_
    refine wp_iload_n (v := v1) rfl ?_
    refine wp_bipush (by decide) ?_
    refine wp_icmp_ge (fun c1 => ?_) (fun c1 => ?_)
    · rw [if_pos c1] at h
      exact hk v1  M sM h
    · rw [if_neg c1] at h
      refine wp_aload_n (v := ((138 : Nat) : Int)) rfl (Int.natCast_nonneg _) ?_
      refine y_get (show ash 138 = (13, 38) from rfl) (Nat.lt_of_lt_of_le (show 138 < 154 by decide) hS.1.1) (v := ((140 : Nat) : Int)) (sM.at 138 16 140 (by decide +kernel)) rfl ?_
      refine wp_iload_n (v := v1) rfl ?_
      refine wp_aload_n (v := ((138 : Nat) : Int)) rfl (Int.natCast_nonneg _) ?_
      refine y_get (show ash 138 = (13, 38) from rfl) (Nat.lt_of_lt_of_le (show 138 < 154 by decide) hS.1.1) (v := ((141 : Nat) : Int)) (sM.at 138 17 141 (by decide +kernel)) rfl ?_
      refine wp_iload_n (v := v1) rfl ?_
      obtain ⟨c2, h⟩ := d_ite h
      refine y_iald (show ash 141 = (100, 12) from rfl) (Or.inl (Nat.lt_of_lt_of_le (show 141 < 154 by decide) hS.1.1)) (Nat.ne_of_lt (Nat.lt_of_lt_of_le (Nat.lt_of_lt_of_le (show 141 < 154 by decide) hS.1.1) hS.1.2)) c2 (v := M 141 (v1).toNat) rfl ?_
      refine y_iast (show ash 140 = (100, 12) from rfl) (Nat.lt_of_lt_of_le (show 140 < 154 by decide) hS.1.1) c2 ?_
      obtain ⟨m3, em3, h⟩ := d_bind h
      have em3 := Option.some.inj em3
      have s4 : Sh T.1 m3 := em3 ▸ sM.up (Or.inl ⟨by rw [(show ash 140 = (100, 12) from rfl)]; exact Nat.le_of_ble_eq_true rfl, by rw [(show ash 140 = (100, 12) from rfl)]; exact Nat.le_of_ble_eq_true rfl⟩) (by have := (Nat.lt_of_lt_of_le (show 140 < 154 by decide) hS.1.1); have := hS.1.2; omega)
      rw [em3]
      obtain ⟨c5, h⟩ := d_ite h
      refine y_iinc (L1 := [(2, ((138 : Nat) : Int)), (0, (v1 + 1))]) rfl (Nat.le_of_ble_eq_true rfl) ⟨by decide, by decide⟩ c5 rfl ?_
      refine wp_goto ?_
      exact ih (v1 + 1)  m3 s4 h
def f_X13_remains (T : Nat)  (M : aM) : Option (Int × aM) :=
 l_X13_remains_2 T (fun w6 m7 =>
 some (0, m7)) FU 0 M
theorem t_X13_remains {T : T3}  {M : aM} {y : (Int × aM)}  (hS : Sh T.1 M) (h : f_X13_remains T.1  M = some y) : Mr 0 320 [(2, ((138 : Nat) : Int))] M (none) y.2 T ∧ Sh T.1 y.2 := by
  have key : ∀ d, 0 ≤ d → Wp d 320 0 [] [(2, ((138 : Nat) : Int)), (9, 0)] [] (M, T) (fun r2 σ2 => r2 = none ∧ σ2 = (y.2, T) ∧ Sh T.1 y.2) := by
    intro d hd
    rw [f_X13_remains] at h
    refine y_blk (t := 0) rfl (show fnd bk_X13_remains 0 = some _ from rfl) aB_X13_remains ?_
    refine wp_iconst ⟨by decide, by decide⟩ ?_
    refine y_stn (L1 := [(2, ((138 : Nat) : Int)), (0, 0)]) (Nat.le_of_ble_eq_true rfl) rfl ?_
    refine tl_X13_remains_2 (by omega) hS (fun w6  m7 s8 h => ?_) FU 0  M hS h
    refine y_blk (t := 26) rfl (show fnd bk_X13_remains 26 = some _ from rfl) aB_X13_remains ?_
    cases h
    exact wp_return ⟨rfl, rfl, s8⟩
  exact ⟨fun d hd => Ms.of3 (key d hd), Ms.sh (key 0 (Nat.le_refl _))⟩
theorem aB_X13_year : ∀ pc, aB 321 pc = fnd bk_X13_year pc := fun _ => rfl
def f_X13_year (T : Nat)  (M : aM) : Option (Int × aM) :=
 (some (aup M 138 0 0)).bind fun m1 =>
 if m1 138 3 < 0 then
 (f_X13_refused T 1 m1).bind fun x29 =>
 some (x29.1, x29.2) else
 if (m1 140 11) = 999 then
 (f_X13_refused T 3 m1).bind fun x25 =>
 some (x25.1, x25.2) else
 (f_X13_remembers T m1).bind fun x5 =>
 (f_X13_works T x5.2).bind fun x9 =>
 (f_X13_aYear T x9.2).bind fun x13 =>
 (f_X13_remains T x13.2).bind fun x17 =>
 (f_X13_good T x13.1 x17.2).bind fun x21 =>
 some (x21.1, x21.2)
theorem t_X13_year {T : T3}  {M : aM} {y : (Int × aM)}  (hS : Sh T.1 M) (h : f_X13_year T.1  M = some y) : Mr 5 321 [(2, ((138 : Nat) : Int))] M (some (0, y.1)) y.2 T ∧ Sh T.1 y.2 := by
  have key : ∀ d, 5 ≤ d → Wp d 321 0 [] [(2, ((138 : Nat) : Int)), (9, 0)] [] (M, T) (fun r2 σ2 => r2 = some (0, y.1) ∧ σ2 = (y.2, T) ∧ Sh T.1 y.2) := by
    intro d hd
    rw [f_X13_year] at h
    refine y_blk (t := 0) rfl (show fnd bk_X13_year 0 = some _ from rfl) aB_X13_year ?_
    refine wp_aload_n (v := ((138 : Nat) : Int)) rfl (Int.natCast_nonneg _) ?_
    refine wp_iconst ⟨by decide, by decide⟩ ?_
    refine y_put (show ash 138 = (13, 38) from rfl) (Nat.lt_of_lt_of_le (show 138 < 154 by decide) hS.1.1) rfl ?_
    obtain ⟨m1, em1, h⟩ := d_bind h
    have em1 := Option.some.inj em1
    have s2 : Sh T.1 m1 := em1 ▸ hS.up (Or.inr ⟨by rw [(show ash 138 = (13, 38) from rfl)]; decide, by rw [(show ash 138 = (13, 38) from rfl)]; decide⟩) (by have := (Nat.lt_of_lt_of_le (show 138 < 154 by decide) hS.1.1); have := hS.1.2; omega)
    rw [em1]
    refine wp_aload_n (v := ((138 : Nat) : Int)) rfl (Int.natCast_nonneg _) ?_
    refine y_get (show ash 138 = (13, 38) from rfl) (Nat.lt_of_lt_of_le (show 138 < 154 by decide) hS.1.1) (v := m1 138 3) rfl rfl ?_
    refine wp_ifnonnull (fun c3 => ?_) (fun c3 => ?_)
    · rw [if_neg c3] at h
      refine y_blk (t := 18) rfl (show fnd bk_X13_year 18 = some _ from rfl) aB_X13_year ?_
      refine wp_aload_n (v := ((138 : Nat) : Int)) rfl (Int.natCast_nonneg _) ?_
      refine y_get (show ash 138 = (13, 38) from rfl) (Nat.lt_of_lt_of_le (show 138 < 154 by decide) hS.1.1) (v := ((140 : Nat) : Int)) (s2.at 138 16 140 (by decide +kernel)) rfl ?_
      refine wp_bipush (by decide) ?_
      refine y_iald (show ash 140 = (100, 12) from rfl) (Or.inl (Nat.lt_of_lt_of_le (show 140 < 154 by decide) hS.1.1)) (Nat.ne_of_lt (Nat.lt_of_lt_of_le (Nat.lt_of_lt_of_le (show 140 < 154 by decide) hS.1.1) hS.1.2)) ⟨by decide, by decide⟩ (v := m1 140 11) rfl ?_
      refine wp_sipush (by decide) ?_
      refine y_ne (fun c4 => ?_) (fun c4 => ?_)
      · rw [if_neg c4] at h
        refine y_blk (t := 37) rfl (show fnd bk_X13_year 37 = some _ from rfl) aB_X13_year ?_
        refine wp_aload_n (v := ((138 : Nat) : Int)) rfl (Int.natCast_nonneg _) ?_
        obtain ⟨x5, e6, h⟩ := d_bind h
        obtain ⟨r7, s8⟩ := t_X13_remembers s2 e6
        refine y_callVv (as := []) (S1 := []) (Nat.le_of_ble_eq_true rfl) (by omega) r7 rfl (show ash 138 = (13, 38) from rfl) (Nat.lt_of_lt_of_le (show 138 < 154 by decide) hS.1.1) (Nat.le_of_ble_eq_true rfl) (Nat.le_of_ble_eq_true rfl) rfl ?_
        refine wp_aload_n (v := ((138 : Nat) : Int)) rfl (Int.natCast_nonneg _) ?_
        obtain ⟨x9, e10, h⟩ := d_bind h
        obtain ⟨r11, s12⟩ := t_X13_works s8 e10
        refine y_callVv (as := []) (S1 := []) (Nat.le_of_ble_eq_true rfl) (by omega) r11 rfl (show ash 138 = (13, 38) from rfl) (Nat.lt_of_lt_of_le (show 138 < 154 by decide) hS.1.1) (Nat.le_of_ble_eq_true rfl) (Nat.le_of_ble_eq_true rfl) rfl ?_
        refine wp_aload_n (v := ((138 : Nat) : Int)) rfl (Int.natCast_nonneg _) ?_
        obtain ⟨x13, e14, h⟩ := d_bind h
        obtain ⟨r15, s16⟩ := t_X13_aYear s12 e14
        refine y_callV (as := []) (S1 := []) (Nat.le_of_ble_eq_true rfl) (by omega) r15 (Nat.le_of_ble_eq_true rfl) rfl (show ash 138 = (13, 38) from rfl) (Nat.lt_of_lt_of_le (show 138 < 154 by decide) hS.1.1) (Nat.le_of_ble_eq_true rfl) (Nat.le_of_ble_eq_true rfl) rfl ?_
        refine y_stn (L1 := [(2, ((138 : Nat) : Int)), (0, x13.1)]) (Nat.le_of_ble_eq_true rfl) rfl ?_
        refine wp_aload_n (v := ((138 : Nat) : Int)) rfl (Int.natCast_nonneg _) ?_
        obtain ⟨x17, e18, h⟩ := d_bind h
        obtain ⟨r19, s20⟩ := t_X13_remains s16 e18
        refine y_callVv (as := []) (S1 := []) (Nat.le_of_ble_eq_true rfl) (by omega) r19 rfl (show ash 138 = (13, 38) from rfl) (Nat.lt_of_lt_of_le (show 138 < 154 by decide) hS.1.1) (Nat.le_of_ble_eq_true rfl) (Nat.le_of_ble_eq_true rfl) rfl ?_
        refine wp_aload_n (v := ((138 : Nat) : Int)) rfl (Int.natCast_nonneg _) ?_
        refine wp_iload_n (v := x13.1) rfl ?_
        obtain ⟨x21, e22, h⟩ := d_bind h
        obtain ⟨r23, s24⟩ := t_X13_good s20 e22
        refine y_callV (as := [(0, x13.1)]) (S1 := []) (Nat.le_of_ble_eq_true rfl) (by omega) r23 (Nat.le_of_ble_eq_true rfl) rfl (show ash 138 = (13, 38) from rfl) (Nat.lt_of_lt_of_le (show 138 < 154 by decide) hS.1.1) (Nat.le_of_ble_eq_true rfl) (Nat.le_of_ble_eq_true rfl) rfl ?_
        cases h
        exact y_ret0 (Or.inl rfl) ⟨rfl, rfl, s24⟩
      · rw [if_pos c4] at h
        refine wp_aload_n (v := ((138 : Nat) : Int)) rfl (Int.natCast_nonneg _) ?_
        refine wp_iconst ⟨by decide, by decide⟩ ?_
        obtain ⟨x25, e26, h⟩ := d_bind h
        obtain ⟨r27, s28⟩ := t_X13_refused s2 e26
        refine y_callV (as := [(0, 3)]) (S1 := []) (Nat.le_of_ble_eq_true rfl) (by omega) r27 (Nat.le_of_ble_eq_true rfl) rfl (show ash 138 = (13, 38) from rfl) (Nat.lt_of_lt_of_le (show 138 < 154 by decide) hS.1.1) (Nat.le_of_ble_eq_true rfl) (Nat.le_of_ble_eq_true rfl) rfl ?_
        cases h
        exact y_ret0 (Or.inl rfl) ⟨rfl, rfl, s28⟩
    · rw [if_pos c3] at h
      refine wp_aload_n (v := ((138 : Nat) : Int)) rfl (Int.natCast_nonneg _) ?_
      refine wp_iconst ⟨by decide, by decide⟩ ?_
      obtain ⟨x29, e30, h⟩ := d_bind h
      obtain ⟨r31, s32⟩ := t_X13_refused s2 e30
      refine y_callV (as := [(0, 1)]) (S1 := []) (Nat.le_of_ble_eq_true rfl) (by omega) r31 (Nat.le_of_ble_eq_true rfl) rfl (show ash 138 = (13, 38) from rfl) (Nat.lt_of_lt_of_le (show 138 < 154 by decide) hS.1.1) (Nat.le_of_ble_eq_true rfl) (Nat.le_of_ble_eq_true rfl) rfl ?_
      cases h
      exact y_ret0 (Or.inl rfl) ⟨rfl, rfl, s32⟩
  exact ⟨fun d hd => Ms.of3 (key d hd), Ms.sh (key 5 (Nat.le_refl _))⟩

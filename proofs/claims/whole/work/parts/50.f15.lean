/-! ===== methods as functions ===== -/
theorem aB_X11_after : ∀ pc, aB 129 pc = fnd bk_X11_after pc := fun _ => rfl
def f_X11_after (T : Nat) (v1 : Int) (v2 : Int) (M : aM) : Option (Int × aM) :=
 (f_X11_isVoice T v1 M).bind fun x1 =>
 if x1 = 0 then
 (f_X11_refuse T 1 M).bind fun x23 =>
 some (x23.1, x23.2) else
 if v2 < 0 then
 (f_X11_refuse T 2 M).bind fun x5 =>
 some (x5.1, x5.2) else
 if v2 ≤ 60 then
 (f_X1_follow T v1 v2 49 M).bind fun x10 =>
 if 0 ≤ v2 ∧ v2 < 217 then
 (f_X11_allow T (x10.2 49 (v2).toNat) x10.2).bind fun x15 =>
 some (x15.1, x15.2) else none else
 (f_X11_refuse T 2 M).bind fun x19 =>
 some (x19.1, x19.2)
theorem t_X11_after {T : T3} {v1 : Int} {v2 : Int} {M : aM} {y : (Int × aM)}  (hS : Sh T.1 M) (h : f_X11_after T.1 v1 v2 M = some y) : Mr 5 129 [(2, ((0 : Nat) : Int)), (0, v1), (0, v2)] M (some (0, y.1)) y.2 T ∧ Sh T.1 y.2 := by
  have key : ∀ d, 5 ≤ d → Wp d 129 0 [] [(2, ((0 : Nat) : Int)), (0, v1), (0, v2)] [] (M, T) (fun r2 σ2 => r2 = some (0, y.1) ∧ σ2 = (y.2, T) ∧ Sh T.1 y.2) := by
    intro d hd
    rw [f_X11_after] at h
    refine y_blk (t := 0) rfl (show fnd bk_X11_after 0 = some _ from rfl) aB_X11_after ?_
    refine wp_aload_n (v := ((0 : Nat) : Int)) rfl (Int.natCast_nonneg _) ?_
    refine wp_iload_n (v := v1) rfl ?_
    obtain ⟨x1, e2, h⟩ := d_bind h
    refine y_callV (as := [(0, v1)]) (S1 := []) (Nat.le_of_ble_eq_true rfl) (by omega) (t_X11_isVoice hS e2) (Nat.le_of_ble_eq_true rfl) rfl (show ash 0 = (11, 15) from rfl) (Nat.lt_of_lt_of_le (show 0 < 154 by decide) hS.1.1) (Nat.le_of_ble_eq_true rfl) (Nat.le_of_ble_eq_true rfl) rfl ?_
    refine y_nez (fun c3 => ?_) (fun c3 => ?_)
    · rw [if_neg c3] at h
      refine y_blk (t := 14) rfl (show fnd bk_X11_after 14 = some _ from rfl) aB_X11_after ?_
      refine wp_iload_n (v := v2) rfl ?_
      refine wp_if_lt (fun c4 => ?_) (fun c4 => ?_)
      · rw [if_pos c4] at h
        refine y_blk (t := 24) rfl (show fnd bk_X11_after 24 = some _ from rfl) aB_X11_after ?_
        refine wp_aload_n (v := ((0 : Nat) : Int)) rfl (Int.natCast_nonneg _) ?_
        refine wp_iconst ⟨by decide, by decide⟩ ?_
        obtain ⟨x5, e6, h⟩ := d_bind h
        obtain ⟨r7, s8⟩ := t_X11_refuse hS e6
        refine y_callV (as := [(0, 2)]) (S1 := []) (Nat.le_of_ble_eq_true rfl) (by omega) r7 (Nat.le_of_ble_eq_true rfl) rfl (show ash 0 = (11, 15) from rfl) (Nat.lt_of_lt_of_le (show 0 < 154 by decide) hS.1.1) (Nat.le_of_ble_eq_true rfl) (Nat.le_of_ble_eq_true rfl) rfl ?_
        cases h
        exact y_ret0 (Or.inl rfl) ⟨rfl, rfl, s8⟩
      · rw [if_neg c4] at h
        refine wp_iload_n (v := v2) rfl ?_
        refine wp_bipush (by decide) ?_
        refine wp_icmp_le (fun c9 => ?_) (fun c9 => ?_)
        · rw [if_pos c9] at h
          refine y_blk (t := 30) rfl (show fnd bk_X11_after 30 = some _ from rfl) aB_X11_after ?_
          refine wp_aload_n (v := ((0 : Nat) : Int)) rfl (Int.natCast_nonneg _) ?_
          refine y_get (show ash 0 = (11, 15) from rfl) (Nat.lt_of_lt_of_le (show 0 < 154 by decide) hS.1.1) (v := ((48 : Nat) : Int)) (hS.at 0 8 48 (by decide +kernel)) rfl ?_
          refine wp_iload_n (v := v1) rfl ?_
          refine wp_iload_n (v := v2) rfl ?_
          refine wp_aload_n (v := ((0 : Nat) : Int)) rfl (Int.natCast_nonneg _) ?_
          refine y_get (show ash 0 = (11, 15) from rfl) (Nat.lt_of_lt_of_le (show 0 < 154 by decide) hS.1.1) (v := ((48 : Nat) : Int)) (hS.at 0 8 48 (by decide +kernel)) rfl ?_
          refine y_get (show ash 48 = (1, 6) from rfl) (Nat.lt_of_lt_of_le (show 48 < 154 by decide) hS.1.1) (v := ((49 : Nat) : Int)) (hS.at 48 3 49 (by decide +kernel)) rfl ?_
          obtain ⟨x10, e11, h⟩ := d_bind h
          obtain ⟨r12, s13⟩ := t_X1_follow hS e11
          refine y_callVv (as := [(0, v1), (0, v2), (2, ((49 : Nat) : Int))]) (S1 := []) (Nat.le_of_ble_eq_true rfl) (by omega) r12 rfl (show ash 48 = (1, 6) from rfl) (Nat.lt_of_lt_of_le (show 48 < 154 by decide) hS.1.1) (Nat.le_of_ble_eq_true rfl) (Nat.le_of_ble_eq_true rfl) rfl ?_
          refine wp_aload_n (v := ((0 : Nat) : Int)) rfl (Int.natCast_nonneg _) ?_
          refine wp_aload_n (v := ((0 : Nat) : Int)) rfl (Int.natCast_nonneg _) ?_
          refine y_get (show ash 0 = (11, 15) from rfl) (Nat.lt_of_lt_of_le (show 0 < 154 by decide) hS.1.1) (v := ((48 : Nat) : Int)) (s13.at 0 8 48 (by decide +kernel)) rfl ?_
          refine y_get (show ash 48 = (1, 6) from rfl) (Nat.lt_of_lt_of_le (show 48 < 154 by decide) hS.1.1) (v := ((49 : Nat) : Int)) (s13.at 48 3 49 (by decide +kernel)) rfl ?_
          refine wp_iload_n (v := v2) rfl ?_
          obtain ⟨c14, h⟩ := d_ite h
          refine y_iald (show ash 49 = (100, 217) from rfl) (Or.inl (Nat.lt_of_lt_of_le (show 49 < 154 by decide) hS.1.1)) (Nat.ne_of_lt (Nat.lt_of_lt_of_le (Nat.lt_of_lt_of_le (show 49 < 154 by decide) hS.1.1) hS.1.2)) c14 (v := x10.2 49 (v2).toNat) rfl ?_
          obtain ⟨x15, e16, h⟩ := d_bind h
          obtain ⟨r17, s18⟩ := t_X11_allow s13 e16
          refine y_callV (as := [(0, (x10.2 49 (v2).toNat))]) (S1 := []) (Nat.le_of_ble_eq_true rfl) (by omega) r17 (Nat.le_of_ble_eq_true rfl) rfl (show ash 0 = (11, 15) from rfl) (Nat.lt_of_lt_of_le (show 0 < 154 by decide) hS.1.1) (Nat.le_of_ble_eq_true rfl) (Nat.le_of_ble_eq_true rfl) rfl ?_
          cases h
          exact y_ret0 (Or.inl rfl) ⟨rfl, rfl, s18⟩
        · rw [if_neg c9] at h
          refine y_blk (t := 24) rfl (show fnd bk_X11_after 24 = some _ from rfl) aB_X11_after ?_
          refine wp_aload_n (v := ((0 : Nat) : Int)) rfl (Int.natCast_nonneg _) ?_
          refine wp_iconst ⟨by decide, by decide⟩ ?_
          obtain ⟨x19, e20, h⟩ := d_bind h
          obtain ⟨r21, s22⟩ := t_X11_refuse hS e20
          refine y_callV (as := [(0, 2)]) (S1 := []) (Nat.le_of_ble_eq_true rfl) (by omega) r21 (Nat.le_of_ble_eq_true rfl) rfl (show ash 0 = (11, 15) from rfl) (Nat.lt_of_lt_of_le (show 0 < 154 by decide) hS.1.1) (Nat.le_of_ble_eq_true rfl) (Nat.le_of_ble_eq_true rfl) rfl ?_
          cases h
          exact y_ret0 (Or.inl rfl) ⟨rfl, rfl, s22⟩
    · rw [if_pos c3] at h
      refine wp_aload_n (v := ((0 : Nat) : Int)) rfl (Int.natCast_nonneg _) ?_
      refine wp_iconst ⟨by decide, by decide⟩ ?_
      obtain ⟨x23, e24, h⟩ := d_bind h
      obtain ⟨r25, s26⟩ := t_X11_refuse hS e24
      refine y_callV (as := [(0, 1)]) (S1 := []) (Nat.le_of_ble_eq_true rfl) (by omega) r25 (Nat.le_of_ble_eq_true rfl) rfl (show ash 0 = (11, 15) from rfl) (Nat.lt_of_lt_of_le (show 0 < 154 by decide) hS.1.1) (Nat.le_of_ble_eq_true rfl) (Nat.le_of_ble_eq_true rfl) rfl ?_
      cases h
      exact y_ret0 (Or.inl rfl) ⟨rfl, rfl, s26⟩
  exact ⟨fun d hd => Ms.of3 (key d hd), Ms.sh (key 5 (Nat.le_refl _))⟩
theorem aB_X11_comes : ∀ pc, aB 130 pc = fnd bk_X11_comes pc := fun _ => rfl
def l_X11_comes_41 (T : Nat) (v2 : Int) (M : aM) (k : Int → Option (Int × aM)) : Nat → Int → Option (Int × aM)
| 0, _ => none
| n + 1, v3 =>
 if 60 < v3 then
 k v3 else
 if 0 ≤ v3 ∧ v3 < 217 then
 if (M 49 (v3).toNat) = v2 then
 (f_X11_allow T v3 M).bind fun x19 =>
 some (x19.1, x19.2) else
 if aIn (v3 + 1) then
 l_X11_comes_41 T v2 M k n (v3 + 1) else none else none
theorem tl_X11_comes_41 {d : Nat} (hd : 5 ≤ d) {T : T3} {v2 : Int} {M : aM} {k : Int → Option (Int × aM)} {y : (Int × aM)}  (hS : Sh T.1 M)
    (hk : ∀ (v3 : Int) (u1 : aV), Sh T.1 M → k v3 = some y → Wp d 130 72 [] [(2, ((0 : Nat) : Int)), u1, (0, v2), (0, v3)] [] (M, T) (fun r2 σ2 => r2 = some (0, y.1) ∧ σ2 = (y.2, T) ∧ Sh T.1 y.2)) :
    ∀ (n : Nat) (v3 : Int) (u1 : aV), Sh T.1 M → l_X11_comes_41 T.1 v2 M k n v3 = some y → Wp d 130 41 [] [(2, ((0 : Nat) : Int)), u1, (0, v2), (0, v3)] [] (M, T) (fun r2 σ2 => r2 = some (0, y.1) ∧ σ2 = (y.2, T) ∧ Sh T.1 y.2) := by
  intro n
  induction n with
  | zero =>
    intro v3 u1 _ h
    exact nomatch (show (none : Option (Int × aM)) = some y from h)
  | succ n ih =>
    intro v3 u1 sM h
    rw [l_X11_comes_41] at h
    refine y_blk (t := 41) rfl (show fnd bk_X11_comes 41 = some _ from rfl) aB_X11_comes ?_
    refine wp_iload_n (v := v3) rfl ?_
    refine wp_bipush (by decide) ?_
    refine wp_icmp_gt (fun c15 => ?_) (fun c15 => ?_)
    · rw [if_pos c15] at h
      exact hk v3 u1  sM h
    · rw [if_neg c15] at h
      refine wp_aload_n (v := ((0 : Nat) : Int)) rfl (Int.natCast_nonneg _) ?_
      refine y_get (show ash 0 = (11, 15) from rfl) (Nat.lt_of_lt_of_le (show 0 < 154 by decide) hS.1.1) (v := ((48 : Nat) : Int)) (sM.at 0 8 48 (by decide +kernel)) rfl ?_
      refine y_get (show ash 48 = (1, 6) from rfl) (Nat.lt_of_lt_of_le (show 48 < 154 by decide) hS.1.1) (v := ((49 : Nat) : Int)) (sM.at 48 3 49 (by decide +kernel)) rfl ?_
      refine wp_iload_n (v := v3) rfl ?_
      obtain ⟨c16, h⟩ := d_ite h
      refine y_iald (show ash 49 = (100, 217) from rfl) (Or.inl (Nat.lt_of_lt_of_le (show 49 < 154 by decide) hS.1.1)) (Nat.ne_of_lt (Nat.lt_of_lt_of_le (Nat.lt_of_lt_of_le (show 49 < 154 by decide) hS.1.1) hS.1.2)) c16 (v := M 49 (v3).toNat) rfl ?_
      refine wp_iload_n (v := v2) rfl ?_
      refine y_ne (fun c17 => ?_) (fun c17 => ?_)
      · rw [if_neg c17] at h
        refine y_blk (t := 66) rfl (show fnd bk_X11_comes 66 = some _ from rfl) aB_X11_comes ?_
        obtain ⟨c18, h⟩ := d_ite h
        refine y_iinc (L1 := [(2, ((0 : Nat) : Int)), u1, (0, v2), (0, (v3 + 1))]) rfl (Nat.le_of_ble_eq_true rfl) ⟨by decide, by decide⟩ c18 rfl ?_
        refine wp_goto ?_
        exact ih (v3 + 1) u1  sM h
      · rw [if_pos c17] at h
        refine wp_aload_n (v := ((0 : Nat) : Int)) rfl (Int.natCast_nonneg _) ?_
        refine wp_iload_n (v := v3) rfl ?_
        obtain ⟨x19, e20, h⟩ := d_bind h
        obtain ⟨r21, s22⟩ := t_X11_allow sM e20
        refine y_callV (as := [(0, v3)]) (S1 := []) (Nat.le_of_ble_eq_true rfl) (by omega) r21 (Nat.le_of_ble_eq_true rfl) rfl (show ash 0 = (11, 15) from rfl) (Nat.lt_of_lt_of_le (show 0 < 154 by decide) hS.1.1) (Nat.le_of_ble_eq_true rfl) (Nat.le_of_ble_eq_true rfl) rfl ?_
        cases h
        exact y_ret0 (Or.inl rfl) ⟨rfl, rfl, s22⟩
def f_X11_comes (T : Nat) (v1 : Int) (v2 : Int) (M : aM) : Option (Int × aM) :=
 (f_X11_isVoice T v1 M).bind fun x1 =>
 if x1 = 0 then
 (f_X11_refuse T 1 M).bind fun x4 =>
 some (x4.1, x4.2) else
 (f_X11_isCave T v2 M).bind fun x8 =>
 if x8 = 0 then
 (f_X11_refuse T 1 M).bind fun x30 =>
 some (x30.1, x30.2) else
 (f_X1_follow T v1 60 49 M).bind fun x11 =>
 l_X11_comes_41 T v2 x11.2 (fun w23 =>
 (f_X11_allow T (-2) x11.2).bind fun x26 =>
 some (x26.1, x26.2)) FU 0
theorem t_X11_comes {T : T3} {v1 : Int} {v2 : Int} {M : aM} {y : (Int × aM)}  (hS : Sh T.1 M) (h : f_X11_comes T.1 v1 v2 M = some y) : Mr 5 130 [(2, ((0 : Nat) : Int)), (0, v1), (0, v2)] M (some (0, y.1)) y.2 T ∧ Sh T.1 y.2 := by
  have key : ∀ d, 5 ≤ d → Wp d 130 0 [] [(2, ((0 : Nat) : Int)), (0, v1), (0, v2), (9, 0)] [] (M, T) (fun r2 σ2 => r2 = some (0, y.1) ∧ σ2 = (y.2, T) ∧ Sh T.1 y.2) := by
    intro d hd
    rw [f_X11_comes] at h
    refine y_blk (t := 0) rfl (show fnd bk_X11_comes 0 = some _ from rfl) aB_X11_comes ?_
    refine wp_aload_n (v := ((0 : Nat) : Int)) rfl (Int.natCast_nonneg _) ?_
    refine wp_iload_n (v := v1) rfl ?_
    obtain ⟨x1, e2, h⟩ := d_bind h
    refine y_callV (as := [(0, v1)]) (S1 := []) (Nat.le_of_ble_eq_true rfl) (by omega) (t_X11_isVoice hS e2) (Nat.le_of_ble_eq_true rfl) rfl (show ash 0 = (11, 15) from rfl) (Nat.lt_of_lt_of_le (show 0 < 154 by decide) hS.1.1) (Nat.le_of_ble_eq_true rfl) (Nat.le_of_ble_eq_true rfl) rfl ?_
    refine wp_if_eq (fun c3 => ?_) (fun c3 => ?_)
    · rw [if_pos c3] at h
      refine y_blk (t := 16) rfl (show fnd bk_X11_comes 16 = some _ from rfl) aB_X11_comes ?_
      refine wp_aload_n (v := ((0 : Nat) : Int)) rfl (Int.natCast_nonneg _) ?_
      refine wp_iconst ⟨by decide, by decide⟩ ?_
      obtain ⟨x4, e5, h⟩ := d_bind h
      obtain ⟨r6, s7⟩ := t_X11_refuse hS e5
      refine y_callV (as := [(0, 1)]) (S1 := []) (Nat.le_of_ble_eq_true rfl) (by omega) r6 (Nat.le_of_ble_eq_true rfl) rfl (show ash 0 = (11, 15) from rfl) (Nat.lt_of_lt_of_le (show 0 < 154 by decide) hS.1.1) (Nat.le_of_ble_eq_true rfl) (Nat.le_of_ble_eq_true rfl) rfl ?_
      cases h
      exact y_ret0 (Or.inl rfl) ⟨rfl, rfl, s7⟩
    · rw [if_neg c3] at h
      refine wp_aload_n (v := ((0 : Nat) : Int)) rfl (Int.natCast_nonneg _) ?_
      refine wp_iload_n (v := v2) rfl ?_
      obtain ⟨x8, e9, h⟩ := d_bind h
      refine y_callV (as := [(0, v2)]) (S1 := []) (Nat.le_of_ble_eq_true rfl) (by omega) (t_X11_isCave hS e9) (Nat.le_of_ble_eq_true rfl) rfl (show ash 0 = (11, 15) from rfl) (Nat.lt_of_lt_of_le (show 0 < 154 by decide) hS.1.1) (Nat.le_of_ble_eq_true rfl) (Nat.le_of_ble_eq_true rfl) rfl ?_
      refine y_nez (fun c10 => ?_) (fun c10 => ?_)
      · rw [if_neg c10] at h
        refine y_blk (t := 22) rfl (show fnd bk_X11_comes 22 = some _ from rfl) aB_X11_comes ?_
        refine wp_aload_n (v := ((0 : Nat) : Int)) rfl (Int.natCast_nonneg _) ?_
        refine y_get (show ash 0 = (11, 15) from rfl) (Nat.lt_of_lt_of_le (show 0 < 154 by decide) hS.1.1) (v := ((48 : Nat) : Int)) (hS.at 0 8 48 (by decide +kernel)) rfl ?_
        refine wp_iload_n (v := v1) rfl ?_
        refine wp_bipush (by decide) ?_
        refine wp_aload_n (v := ((0 : Nat) : Int)) rfl (Int.natCast_nonneg _) ?_
        refine y_get (show ash 0 = (11, 15) from rfl) (Nat.lt_of_lt_of_le (show 0 < 154 by decide) hS.1.1) (v := ((48 : Nat) : Int)) (hS.at 0 8 48 (by decide +kernel)) rfl ?_
        refine y_get (show ash 48 = (1, 6) from rfl) (Nat.lt_of_lt_of_le (show 48 < 154 by decide) hS.1.1) (v := ((49 : Nat) : Int)) (hS.at 48 3 49 (by decide +kernel)) rfl ?_
        obtain ⟨x11, e12, h⟩ := d_bind h
        obtain ⟨r13, s14⟩ := t_X1_follow hS e12
        refine y_callVv (as := [(0, v1), (0, 60), (2, ((49 : Nat) : Int))]) (S1 := []) (Nat.le_of_ble_eq_true rfl) (by omega) r13 rfl (show ash 48 = (1, 6) from rfl) (Nat.lt_of_lt_of_le (show 48 < 154 by decide) hS.1.1) (Nat.le_of_ble_eq_true rfl) (Nat.le_of_ble_eq_true rfl) rfl ?_
        refine wp_iconst ⟨by decide, by decide⟩ ?_
        refine y_stn (L1 := [(2, ((0 : Nat) : Int)), (0, v1), (0, v2), (0, 0)]) (Nat.le_of_ble_eq_true rfl) rfl ?_
        refine tl_X11_comes_41 (by omega) s14 (fun w23 u24  s25 h => ?_) FU 0 (0, v1)  s14 h
        refine y_blk (t := 72) rfl (show fnd bk_X11_comes 72 = some _ from rfl) aB_X11_comes ?_
        refine wp_aload_n (v := ((0 : Nat) : Int)) rfl (Int.natCast_nonneg _) ?_
        refine wp_bipush (by decide) ?_
        obtain ⟨x26, e27, h⟩ := d_bind h
        obtain ⟨r28, s29⟩ := t_X11_allow s25 e27
        refine y_callV (as := [(0, (-2))]) (S1 := []) (Nat.le_of_ble_eq_true rfl) (by omega) r28 (Nat.le_of_ble_eq_true rfl) rfl (show ash 0 = (11, 15) from rfl) (Nat.lt_of_lt_of_le (show 0 < 154 by decide) hS.1.1) (Nat.le_of_ble_eq_true rfl) (Nat.le_of_ble_eq_true rfl) rfl ?_
        cases h
        exact y_ret0 (Or.inl rfl) ⟨rfl, rfl, s29⟩
      · rw [if_pos c10] at h
        refine y_blk (t := 16) rfl (show fnd bk_X11_comes 16 = some _ from rfl) aB_X11_comes ?_
        refine wp_aload_n (v := ((0 : Nat) : Int)) rfl (Int.natCast_nonneg _) ?_
        refine wp_iconst ⟨by decide, by decide⟩ ?_
        obtain ⟨x30, e31, h⟩ := d_bind h
        obtain ⟨r32, s33⟩ := t_X11_refuse hS e31
        refine y_callV (as := [(0, 1)]) (S1 := []) (Nat.le_of_ble_eq_true rfl) (by omega) r32 (Nat.le_of_ble_eq_true rfl) rfl (show ash 0 = (11, 15) from rfl) (Nat.lt_of_lt_of_le (show 0 < 154 by decide) hS.1.1) (Nat.le_of_ble_eq_true rfl) (Nat.le_of_ble_eq_true rfl) rfl ?_
        cases h
        exact y_ret0 (Or.inl rfl) ⟨rfl, rfl, s33⟩
  exact ⟨fun d hd => Ms.of3 (key d hd), Ms.sh (key 5 (Nat.le_refl _))⟩
theorem aB_X11_meets : ∀ pc, aB 131 pc = fnd bk_X11_meets pc := fun _ => rfl
def l_X11_meets_63 (T : Nat)  (M : aM) (k : Int → Option (Int × aM)) : Nat → Int → Option (Int × aM)
| 0, _ => none
| n + 1, v3 =>
 if 60 < v3 then
 k v3 else
 if 0 ≤ v3 ∧ v3 < 217 then
 if 0 ≤ v3 ∧ v3 < 61 then
 if (M 49 (v3).toNat) = (M 50 (v3).toNat) then
 (f_X11_allow T v3 M).bind fun x29 =>
 some (x29.1, x29.2) else
 if aIn (v3 + 1) then
 l_X11_meets_63 T M k n (v3 + 1) else none else none else none
theorem tl_X11_meets_63 {d : Nat} (hd : 5 ≤ d) {T : T3}  {M : aM} {k : Int → Option (Int × aM)} {y : (Int × aM)}  (hS : Sh T.1 M)
    (hk : ∀ (v3 : Int) (u1 u2 : aV), Sh T.1 M → k v3 = some y → Wp d 131 102 [] [(2, ((0 : Nat) : Int)), u1, u2, (0, v3)] [] (M, T) (fun r2 σ2 => r2 = some (0, y.1) ∧ σ2 = (y.2, T) ∧ Sh T.1 y.2)) :
    ∀ (n : Nat) (v3 : Int) (u1 u2 : aV), Sh T.1 M → l_X11_meets_63 T.1 M k n v3 = some y → Wp d 131 63 [] [(2, ((0 : Nat) : Int)), u1, u2, (0, v3)] [] (M, T) (fun r2 σ2 => r2 = some (0, y.1) ∧ σ2 = (y.2, T) ∧ Sh T.1 y.2) := by
  intro n
  induction n with
  | zero =>
    intro v3 u1 u2 _ h
    exact nomatch (show (none : Option (Int × aM)) = some y from h)
  | succ n ih =>
    intro v3 u1 u2 sM h
    rw [l_X11_meets_63] at h
    refine y_blk (t := 63) rfl (show fnd bk_X11_meets 63 = some _ from rfl) aB_X11_meets ?_
    refine wp_iload_n (v := v3) rfl ?_
    refine wp_bipush (by decide) ?_
    refine wp_icmp_gt (fun c24 => ?_) (fun c24 => ?_)
    · rw [if_pos c24] at h
      exact hk v3 u1 u2  sM h
    · rw [if_neg c24] at h
      refine wp_aload_n (v := ((0 : Nat) : Int)) rfl (Int.natCast_nonneg _) ?_
      refine y_get (show ash 0 = (11, 15) from rfl) (Nat.lt_of_lt_of_le (show 0 < 154 by decide) hS.1.1) (v := ((48 : Nat) : Int)) (sM.at 0 8 48 (by decide +kernel)) rfl ?_
      refine y_get (show ash 48 = (1, 6) from rfl) (Nat.lt_of_lt_of_le (show 48 < 154 by decide) hS.1.1) (v := ((49 : Nat) : Int)) (sM.at 48 3 49 (by decide +kernel)) rfl ?_
      refine wp_iload_n (v := v3) rfl ?_
      obtain ⟨c25, h⟩ := d_ite h
      refine y_iald (show ash 49 = (100, 217) from rfl) (Or.inl (Nat.lt_of_lt_of_le (show 49 < 154 by decide) hS.1.1)) (Nat.ne_of_lt (Nat.lt_of_lt_of_le (Nat.lt_of_lt_of_le (show 49 < 154 by decide) hS.1.1) hS.1.2)) c25 (v := M 49 (v3).toNat) rfl ?_
      refine wp_aload_n (v := ((0 : Nat) : Int)) rfl (Int.natCast_nonneg _) ?_
      refine y_get (show ash 0 = (11, 15) from rfl) (Nat.lt_of_lt_of_le (show 0 < 154 by decide) hS.1.1) (v := ((48 : Nat) : Int)) (sM.at 0 8 48 (by decide +kernel)) rfl ?_
      refine y_get (show ash 48 = (1, 6) from rfl) (Nat.lt_of_lt_of_le (show 48 < 154 by decide) hS.1.1) (v := ((50 : Nat) : Int)) (sM.at 48 4 50 (by decide +kernel)) rfl ?_
      refine wp_iload_n (v := v3) rfl ?_
      obtain ⟨c26, h⟩ := d_ite h
      refine y_iald (show ash 50 = (100, 61) from rfl) (Or.inl (Nat.lt_of_lt_of_le (show 50 < 154 by decide) hS.1.1)) (Nat.ne_of_lt (Nat.lt_of_lt_of_le (Nat.lt_of_lt_of_le (show 50 < 154 by decide) hS.1.1) hS.1.2)) c26 (v := M 50 (v3).toNat) rfl ?_
      refine y_ne (fun c27 => ?_) (fun c27 => ?_)
      · rw [if_neg c27] at h
        refine y_blk (t := 96) rfl (show fnd bk_X11_meets 96 = some _ from rfl) aB_X11_meets ?_
        obtain ⟨c28, h⟩ := d_ite h
        refine y_iinc (L1 := [(2, ((0 : Nat) : Int)), u1, (ajk u2), (0, (v3 + 1))]) rfl (Nat.le_of_ble_eq_true rfl) ⟨by decide, by decide⟩ c28 (aset_jk (q := 2) (u := u2) rfl) ?_
        refine wp_goto ?_
        exact ih (v3 + 1) u1 (ajk u2)  sM h
      · rw [if_pos c27] at h
        refine wp_aload_n (v := ((0 : Nat) : Int)) rfl (Int.natCast_nonneg _) ?_
        refine wp_iload_n (v := v3) rfl ?_
        obtain ⟨x29, e30, h⟩ := d_bind h
        obtain ⟨r31, s32⟩ := t_X11_allow sM e30
        refine y_callV (as := [(0, v3)]) (S1 := []) (Nat.le_of_ble_eq_true rfl) (by omega) r31 (Nat.le_of_ble_eq_true rfl) rfl (show ash 0 = (11, 15) from rfl) (Nat.lt_of_lt_of_le (show 0 < 154 by decide) hS.1.1) (Nat.le_of_ble_eq_true rfl) (Nat.le_of_ble_eq_true rfl) rfl ?_
        cases h
        exact y_ret0 (Or.inl rfl) ⟨rfl, rfl, s32⟩
def f_X11_meets (T : Nat) (v1 : Int) (v2 : Int) (M : aM) : Option (Int × aM) :=
 (f_X11_isVoice T v1 M).bind fun x1 =>
 if x1 = 0 then
 (f_X11_refuse T 1 M).bind fun x4 =>
 some (x4.1, x4.2) else
 (f_X11_isVoice T v2 M).bind fun x8 =>
 if x8 = 0 then
 (f_X11_refuse T 1 M).bind fun x11 =>
 some (x11.1, x11.2) else
 if v1 = v2 then
 (f_X11_refuse T 1 M).bind fun x41 =>
 some (x41.1, x41.2) else
 (f_X1_follow T v1 60 49 M).bind fun x16 =>
 (f_X1_follow T v2 60 50 x16.2).bind fun x20 =>
 l_X11_meets_63 T x20.2 (fun w33 =>
 (f_X11_allow T (-2) x20.2).bind fun x37 =>
 some (x37.1, x37.2)) FU 0
theorem t_X11_meets {T : T3} {v1 : Int} {v2 : Int} {M : aM} {y : (Int × aM)}  (hS : Sh T.1 M) (h : f_X11_meets T.1 v1 v2 M = some y) : Mr 5 131 [(2, ((0 : Nat) : Int)), (0, v1), (0, v2)] M (some (0, y.1)) y.2 T ∧ Sh T.1 y.2 := by
  have key : ∀ d, 5 ≤ d → Wp d 131 0 [] [(2, ((0 : Nat) : Int)), (0, v1), (0, v2), (9, 0)] [] (M, T) (fun r2 σ2 => r2 = some (0, y.1) ∧ σ2 = (y.2, T) ∧ Sh T.1 y.2) := by
    intro d hd
    rw [f_X11_meets] at h
    refine y_blk (t := 0) rfl (show fnd bk_X11_meets 0 = some _ from rfl) aB_X11_meets ?_
    refine wp_aload_n (v := ((0 : Nat) : Int)) rfl (Int.natCast_nonneg _) ?_
    refine wp_iload_n (v := v1) rfl ?_
    obtain ⟨x1, e2, h⟩ := d_bind h
    refine y_callV (as := [(0, v1)]) (S1 := []) (Nat.le_of_ble_eq_true rfl) (by omega) (t_X11_isVoice hS e2) (Nat.le_of_ble_eq_true rfl) rfl (show ash 0 = (11, 15) from rfl) (Nat.lt_of_lt_of_le (show 0 < 154 by decide) hS.1.1) (Nat.le_of_ble_eq_true rfl) (Nat.le_of_ble_eq_true rfl) rfl ?_
    refine wp_if_eq (fun c3 => ?_) (fun c3 => ?_)
    · rw [if_pos c3] at h
      refine y_blk (t := 21) rfl (show fnd bk_X11_meets 21 = some _ from rfl) aB_X11_meets ?_
      refine wp_aload_n (v := ((0 : Nat) : Int)) rfl (Int.natCast_nonneg _) ?_
      refine wp_iconst ⟨by decide, by decide⟩ ?_
      obtain ⟨x4, e5, h⟩ := d_bind h
      obtain ⟨r6, s7⟩ := t_X11_refuse hS e5
      refine y_callV (as := [(0, 1)]) (S1 := []) (Nat.le_of_ble_eq_true rfl) (by omega) r6 (Nat.le_of_ble_eq_true rfl) rfl (show ash 0 = (11, 15) from rfl) (Nat.lt_of_lt_of_le (show 0 < 154 by decide) hS.1.1) (Nat.le_of_ble_eq_true rfl) (Nat.le_of_ble_eq_true rfl) rfl ?_
      cases h
      exact y_ret0 (Or.inl rfl) ⟨rfl, rfl, s7⟩
    · rw [if_neg c3] at h
      refine wp_aload_n (v := ((0 : Nat) : Int)) rfl (Int.natCast_nonneg _) ?_
      refine wp_iload_n (v := v2) rfl ?_
      obtain ⟨x8, e9, h⟩ := d_bind h
      refine y_callV (as := [(0, v2)]) (S1 := []) (Nat.le_of_ble_eq_true rfl) (by omega) (t_X11_isVoice hS e9) (Nat.le_of_ble_eq_true rfl) rfl (show ash 0 = (11, 15) from rfl) (Nat.lt_of_lt_of_le (show 0 < 154 by decide) hS.1.1) (Nat.le_of_ble_eq_true rfl) (Nat.le_of_ble_eq_true rfl) rfl ?_
      refine wp_if_eq (fun c10 => ?_) (fun c10 => ?_)
      · rw [if_pos c10] at h
        refine y_blk (t := 21) rfl (show fnd bk_X11_meets 21 = some _ from rfl) aB_X11_meets ?_
        refine wp_aload_n (v := ((0 : Nat) : Int)) rfl (Int.natCast_nonneg _) ?_
        refine wp_iconst ⟨by decide, by decide⟩ ?_
        obtain ⟨x11, e12, h⟩ := d_bind h
        obtain ⟨r13, s14⟩ := t_X11_refuse hS e12
        refine y_callV (as := [(0, 1)]) (S1 := []) (Nat.le_of_ble_eq_true rfl) (by omega) r13 (Nat.le_of_ble_eq_true rfl) rfl (show ash 0 = (11, 15) from rfl) (Nat.lt_of_lt_of_le (show 0 < 154 by decide) hS.1.1) (Nat.le_of_ble_eq_true rfl) (Nat.le_of_ble_eq_true rfl) rfl ?_
        cases h
        exact y_ret0 (Or.inl rfl) ⟨rfl, rfl, s14⟩
      · rw [if_neg c10] at h
        refine wp_iload_n (v := v1) rfl ?_
        refine wp_iload_n (v := v2) rfl ?_
        refine y_ne (fun c15 => ?_) (fun c15 => ?_)
        · rw [if_neg c15] at h
          refine y_blk (t := 27) rfl (show fnd bk_X11_meets 27 = some _ from rfl) aB_X11_meets ?_
          refine wp_aload_n (v := ((0 : Nat) : Int)) rfl (Int.natCast_nonneg _) ?_
          refine y_get (show ash 0 = (11, 15) from rfl) (Nat.lt_of_lt_of_le (show 0 < 154 by decide) hS.1.1) (v := ((48 : Nat) : Int)) (hS.at 0 8 48 (by decide +kernel)) rfl ?_
          refine wp_iload_n (v := v1) rfl ?_
          refine wp_bipush (by decide) ?_
          refine wp_aload_n (v := ((0 : Nat) : Int)) rfl (Int.natCast_nonneg _) ?_
          refine y_get (show ash 0 = (11, 15) from rfl) (Nat.lt_of_lt_of_le (show 0 < 154 by decide) hS.1.1) (v := ((48 : Nat) : Int)) (hS.at 0 8 48 (by decide +kernel)) rfl ?_
          refine y_get (show ash 48 = (1, 6) from rfl) (Nat.lt_of_lt_of_le (show 48 < 154 by decide) hS.1.1) (v := ((49 : Nat) : Int)) (hS.at 48 3 49 (by decide +kernel)) rfl ?_
          obtain ⟨x16, e17, h⟩ := d_bind h
          obtain ⟨r18, s19⟩ := t_X1_follow hS e17
          refine y_callVv (as := [(0, v1), (0, 60), (2, ((49 : Nat) : Int))]) (S1 := []) (Nat.le_of_ble_eq_true rfl) (by omega) r18 rfl (show ash 48 = (1, 6) from rfl) (Nat.lt_of_lt_of_le (show 48 < 154 by decide) hS.1.1) (Nat.le_of_ble_eq_true rfl) (Nat.le_of_ble_eq_true rfl) rfl ?_
          refine wp_aload_n (v := ((0 : Nat) : Int)) rfl (Int.natCast_nonneg _) ?_
          refine y_get (show ash 0 = (11, 15) from rfl) (Nat.lt_of_lt_of_le (show 0 < 154 by decide) hS.1.1) (v := ((48 : Nat) : Int)) (s19.at 0 8 48 (by decide +kernel)) rfl ?_
          refine wp_iload_n (v := v2) rfl ?_
          refine wp_bipush (by decide) ?_
          refine wp_aload_n (v := ((0 : Nat) : Int)) rfl (Int.natCast_nonneg _) ?_
          refine y_get (show ash 0 = (11, 15) from rfl) (Nat.lt_of_lt_of_le (show 0 < 154 by decide) hS.1.1) (v := ((48 : Nat) : Int)) (s19.at 0 8 48 (by decide +kernel)) rfl ?_
          refine y_get (show ash 48 = (1, 6) from rfl) (Nat.lt_of_lt_of_le (show 48 < 154 by decide) hS.1.1) (v := ((50 : Nat) : Int)) (s19.at 48 4 50 (by decide +kernel)) rfl ?_
          obtain ⟨x20, e21, h⟩ := d_bind h
          obtain ⟨r22, s23⟩ := t_X1_follow s19 e21
          refine y_callVv (as := [(0, v2), (0, 60), (2, ((50 : Nat) : Int))]) (S1 := []) (Nat.le_of_ble_eq_true rfl) (by omega) r22 rfl (show ash 48 = (1, 6) from rfl) (Nat.lt_of_lt_of_le (show 48 < 154 by decide) hS.1.1) (Nat.le_of_ble_eq_true rfl) (Nat.le_of_ble_eq_true rfl) rfl ?_
          refine wp_iconst ⟨by decide, by decide⟩ ?_
          refine y_stn (L1 := [(2, ((0 : Nat) : Int)), (0, v1), (0, v2), (0, 0)]) (Nat.le_of_ble_eq_true rfl) rfl ?_
          refine tl_X11_meets_63 (by omega) s23 (fun w33 u34 u35  s36 h => ?_) FU 0 (0, v1) (0, v2)  s23 h
          refine y_blk (t := 102) rfl (show fnd bk_X11_meets 102 = some _ from rfl) aB_X11_meets ?_
          refine wp_aload_n (v := ((0 : Nat) : Int)) rfl (Int.natCast_nonneg _) ?_
          refine wp_bipush (by decide) ?_
          obtain ⟨x37, e38, h⟩ := d_bind h
          obtain ⟨r39, s40⟩ := t_X11_allow s36 e38
          refine y_callV (as := [(0, (-2))]) (S1 := []) (Nat.le_of_ble_eq_true rfl) (by omega) r39 (Nat.le_of_ble_eq_true rfl) rfl (show ash 0 = (11, 15) from rfl) (Nat.lt_of_lt_of_le (show 0 < 154 by decide) hS.1.1) (Nat.le_of_ble_eq_true rfl) (Nat.le_of_ble_eq_true rfl) rfl ?_
          cases h
          exact y_ret0 (Or.inl rfl) ⟨rfl, rfl, s40⟩
        · rw [if_pos c15] at h
          refine y_blk (t := 21) rfl (show fnd bk_X11_meets 21 = some _ from rfl) aB_X11_meets ?_
          refine wp_aload_n (v := ((0 : Nat) : Int)) rfl (Int.natCast_nonneg _) ?_
          refine wp_iconst ⟨by decide, by decide⟩ ?_
          obtain ⟨x41, e42, h⟩ := d_bind h
          obtain ⟨r43, s44⟩ := t_X11_refuse hS e42
          refine y_callV (as := [(0, 1)]) (S1 := []) (Nat.le_of_ble_eq_true rfl) (by omega) r43 (Nat.le_of_ble_eq_true rfl) rfl (show ash 0 = (11, 15) from rfl) (Nat.lt_of_lt_of_le (show 0 < 154 by decide) hS.1.1) (Nat.le_of_ble_eq_true rfl) (Nat.le_of_ble_eq_true rfl) rfl ?_
          cases h
          exact y_ret0 (Or.inl rfl) ⟨rfl, rfl, s44⟩
  exact ⟨fun d hd => Ms.of3 (key d hd), Ms.sh (key 5 (Nat.le_refl _))⟩
theorem aB_X11_silentIn : ∀ pc, aB 132 pc = fnd bk_X11_silentIn pc := fun _ => rfl
def l_X11_silentIn_33 (T : Nat)  (M : aM) (k : Int → Option (Int × aM)) : Nat → Int → Option (Int × aM)
| 0, _ => none
| n + 1, v2 =>
 if 60 < v2 then
 k v2 else
 if 0 ≤ v2 ∧ v2 < 217 then
 (f_X11_hearersOf T (M 49 (v2).toNat) M).bind fun x10 =>
 if x10 = 0 then
 (f_X11_allow T v2 M).bind fun x14 =>
 some (x14.1, x14.2) else
 if aIn (v2 + 1) then
 l_X11_silentIn_33 T M k n (v2 + 1) else none else none
theorem tl_X11_silentIn_33 {d : Nat} (hd : 5 ≤ d) {T : T3}  {M : aM} {k : Int → Option (Int × aM)} {y : (Int × aM)}  (hS : Sh T.1 M)
    (hk : ∀ (v2 : Int) (u1 : aV), Sh T.1 M → k v2 = some y → Wp d 132 67 [] [(2, ((0 : Nat) : Int)), u1, (0, v2)] [] (M, T) (fun r2 σ2 => r2 = some (0, y.1) ∧ σ2 = (y.2, T) ∧ Sh T.1 y.2)) :
    ∀ (n : Nat) (v2 : Int) (u1 : aV), Sh T.1 M → l_X11_silentIn_33 T.1 M k n v2 = some y → Wp d 132 33 [] [(2, ((0 : Nat) : Int)), u1, (0, v2)] [] (M, T) (fun r2 σ2 => r2 = some (0, y.1) ∧ σ2 = (y.2, T) ∧ Sh T.1 y.2) := by
  intro n
  induction n with
  | zero =>
    intro v2 u1 _ h
    exact nomatch (show (none : Option (Int × aM)) = some y from h)
  | succ n ih =>
    intro v2 u1 sM h
    rw [l_X11_silentIn_33] at h
    refine y_blk (t := 33) rfl (show fnd bk_X11_silentIn 33 = some _ from rfl) aB_X11_silentIn ?_
    refine wp_iload_n (v := v2) rfl ?_
    refine wp_bipush (by decide) ?_
    refine wp_icmp_gt (fun c8 => ?_) (fun c8 => ?_)
    · rw [if_pos c8] at h
      exact hk v2 u1  sM h
    · rw [if_neg c8] at h
      refine wp_aload_n (v := ((0 : Nat) : Int)) rfl (Int.natCast_nonneg _) ?_
      refine wp_aload_n (v := ((0 : Nat) : Int)) rfl (Int.natCast_nonneg _) ?_
      refine y_get (show ash 0 = (11, 15) from rfl) (Nat.lt_of_lt_of_le (show 0 < 154 by decide) hS.1.1) (v := ((48 : Nat) : Int)) (sM.at 0 8 48 (by decide +kernel)) rfl ?_
      refine y_get (show ash 48 = (1, 6) from rfl) (Nat.lt_of_lt_of_le (show 48 < 154 by decide) hS.1.1) (v := ((49 : Nat) : Int)) (sM.at 48 3 49 (by decide +kernel)) rfl ?_
      refine wp_iload_n (v := v2) rfl ?_
      obtain ⟨c9, h⟩ := d_ite h
      refine y_iald (show ash 49 = (100, 217) from rfl) (Or.inl (Nat.lt_of_lt_of_le (show 49 < 154 by decide) hS.1.1)) (Nat.ne_of_lt (Nat.lt_of_lt_of_le (Nat.lt_of_lt_of_le (show 49 < 154 by decide) hS.1.1) hS.1.2)) c9 (v := M 49 (v2).toNat) rfl ?_
      obtain ⟨x10, e11, h⟩ := d_bind h
      refine y_callV (as := [(0, (M 49 (v2).toNat))]) (S1 := []) (Nat.le_of_ble_eq_true rfl) (by omega) (t_X11_hearersOf sM e11) (Nat.le_of_ble_eq_true rfl) rfl (show ash 0 = (11, 15) from rfl) (Nat.lt_of_lt_of_le (show 0 < 154 by decide) hS.1.1) (Nat.le_of_ble_eq_true rfl) (Nat.le_of_ble_eq_true rfl) rfl ?_
      refine y_nez (fun c12 => ?_) (fun c12 => ?_)
      · rw [if_neg c12] at h
        refine y_blk (t := 61) rfl (show fnd bk_X11_silentIn 61 = some _ from rfl) aB_X11_silentIn ?_
        obtain ⟨c13, h⟩ := d_ite h
        refine y_iinc (L1 := [(2, ((0 : Nat) : Int)), (ajk u1), (0, (v2 + 1))]) rfl (Nat.le_of_ble_eq_true rfl) ⟨by decide, by decide⟩ c13 (aset_jk (q := 1) (u := u1) rfl) ?_
        refine wp_goto ?_
        exact ih (v2 + 1) (ajk u1)  sM h
      · rw [if_pos c12] at h
        refine wp_aload_n (v := ((0 : Nat) : Int)) rfl (Int.natCast_nonneg _) ?_
        refine wp_iload_n (v := v2) rfl ?_
        obtain ⟨x14, e15, h⟩ := d_bind h
        obtain ⟨r16, s17⟩ := t_X11_allow sM e15
        refine y_callV (as := [(0, v2)]) (S1 := []) (Nat.le_of_ble_eq_true rfl) (by omega) r16 (Nat.le_of_ble_eq_true rfl) rfl (show ash 0 = (11, 15) from rfl) (Nat.lt_of_lt_of_le (show 0 < 154 by decide) hS.1.1) (Nat.le_of_ble_eq_true rfl) (Nat.le_of_ble_eq_true rfl) rfl ?_
        cases h
        exact y_ret0 (Or.inl rfl) ⟨rfl, rfl, s17⟩
def f_X11_silentIn (T : Nat) (v1 : Int) (M : aM) : Option (Int × aM) :=
 (f_X11_isVoice T v1 M).bind fun x1 =>
 if x1 = 0 then
 (f_X11_refuse T 1 M).bind fun x25 =>
 some (x25.1, x25.2) else
 (f_X1_follow T v1 60 49 M).bind fun x4 =>
 l_X11_silentIn_33 T x4.2 (fun w18 =>
 (f_X11_allow T (-2) x4.2).bind fun x21 =>
 some (x21.1, x21.2)) FU 0
theorem t_X11_silentIn {T : T3} {v1 : Int} {M : aM} {y : (Int × aM)}  (hS : Sh T.1 M) (h : f_X11_silentIn T.1 v1 M = some y) : Mr 5 132 [(2, ((0 : Nat) : Int)), (0, v1)] M (some (0, y.1)) y.2 T ∧ Sh T.1 y.2 := by
  have key : ∀ d, 5 ≤ d → Wp d 132 0 [] [(2, ((0 : Nat) : Int)), (0, v1), (9, 0)] [] (M, T) (fun r2 σ2 => r2 = some (0, y.1) ∧ σ2 = (y.2, T) ∧ Sh T.1 y.2) := by
    intro d hd
    rw [f_X11_silentIn] at h
    refine y_blk (t := 0) rfl (show fnd bk_X11_silentIn 0 = some _ from rfl) aB_X11_silentIn ?_
    refine wp_aload_n (v := ((0 : Nat) : Int)) rfl (Int.natCast_nonneg _) ?_
    refine wp_iload_n (v := v1) rfl ?_
    obtain ⟨x1, e2, h⟩ := d_bind h
    refine y_callV (as := [(0, v1)]) (S1 := []) (Nat.le_of_ble_eq_true rfl) (by omega) (t_X11_isVoice hS e2) (Nat.le_of_ble_eq_true rfl) rfl (show ash 0 = (11, 15) from rfl) (Nat.lt_of_lt_of_le (show 0 < 154 by decide) hS.1.1) (Nat.le_of_ble_eq_true rfl) (Nat.le_of_ble_eq_true rfl) rfl ?_
    refine y_nez (fun c3 => ?_) (fun c3 => ?_)
    · rw [if_neg c3] at h
      refine y_blk (t := 14) rfl (show fnd bk_X11_silentIn 14 = some _ from rfl) aB_X11_silentIn ?_
      refine wp_aload_n (v := ((0 : Nat) : Int)) rfl (Int.natCast_nonneg _) ?_
      refine y_get (show ash 0 = (11, 15) from rfl) (Nat.lt_of_lt_of_le (show 0 < 154 by decide) hS.1.1) (v := ((48 : Nat) : Int)) (hS.at 0 8 48 (by decide +kernel)) rfl ?_
      refine wp_iload_n (v := v1) rfl ?_
      refine wp_bipush (by decide) ?_
      refine wp_aload_n (v := ((0 : Nat) : Int)) rfl (Int.natCast_nonneg _) ?_
      refine y_get (show ash 0 = (11, 15) from rfl) (Nat.lt_of_lt_of_le (show 0 < 154 by decide) hS.1.1) (v := ((48 : Nat) : Int)) (hS.at 0 8 48 (by decide +kernel)) rfl ?_
      refine y_get (show ash 48 = (1, 6) from rfl) (Nat.lt_of_lt_of_le (show 48 < 154 by decide) hS.1.1) (v := ((49 : Nat) : Int)) (hS.at 48 3 49 (by decide +kernel)) rfl ?_
      obtain ⟨x4, e5, h⟩ := d_bind h
      obtain ⟨r6, s7⟩ := t_X1_follow hS e5
      refine y_callVv (as := [(0, v1), (0, 60), (2, ((49 : Nat) : Int))]) (S1 := []) (Nat.le_of_ble_eq_true rfl) (by omega) r6 rfl (show ash 48 = (1, 6) from rfl) (Nat.lt_of_lt_of_le (show 48 < 154 by decide) hS.1.1) (Nat.le_of_ble_eq_true rfl) (Nat.le_of_ble_eq_true rfl) rfl ?_
      refine wp_iconst ⟨by decide, by decide⟩ ?_
      refine y_stn (L1 := [(2, ((0 : Nat) : Int)), (0, v1), (0, 0)]) (Nat.le_of_ble_eq_true rfl) rfl ?_
      refine tl_X11_silentIn_33 (by omega) s7 (fun w18 u19  s20 h => ?_) FU 0 (0, v1)  s7 h
      refine y_blk (t := 67) rfl (show fnd bk_X11_silentIn 67 = some _ from rfl) aB_X11_silentIn ?_
      refine wp_aload_n (v := ((0 : Nat) : Int)) rfl (Int.natCast_nonneg _) ?_
      refine wp_bipush (by decide) ?_
      obtain ⟨x21, e22, h⟩ := d_bind h
      obtain ⟨r23, s24⟩ := t_X11_allow s20 e22
      refine y_callV (as := [(0, (-2))]) (S1 := []) (Nat.le_of_ble_eq_true rfl) (by omega) r23 (Nat.le_of_ble_eq_true rfl) rfl (show ash 0 = (11, 15) from rfl) (Nat.lt_of_lt_of_le (show 0 < 154 by decide) hS.1.1) (Nat.le_of_ble_eq_true rfl) (Nat.le_of_ble_eq_true rfl) rfl ?_
      cases h
      exact y_ret0 (Or.inl rfl) ⟨rfl, rfl, s24⟩
    · rw [if_pos c3] at h
      refine wp_aload_n (v := ((0 : Nat) : Int)) rfl (Int.natCast_nonneg _) ?_
      refine wp_iconst ⟨by decide, by decide⟩ ?_
      obtain ⟨x25, e26, h⟩ := d_bind h
      obtain ⟨r27, s28⟩ := t_X11_refuse hS e26
      refine y_callV (as := [(0, 1)]) (S1 := []) (Nat.le_of_ble_eq_true rfl) (by omega) r27 (Nat.le_of_ble_eq_true rfl) rfl (show ash 0 = (11, 15) from rfl) (Nat.lt_of_lt_of_le (show 0 < 154 by decide) hS.1.1) (Nat.le_of_ble_eq_true rfl) (Nat.le_of_ble_eq_true rfl) rfl ?_
      cases h
      exact y_ret0 (Or.inl rfl) ⟨rfl, rfl, s28⟩
  exact ⟨fun d hd => Ms.of3 (key d hd), Ms.sh (key 5 (Nat.le_refl _))⟩
theorem aB_X11_settles : ∀ pc, aB 133 pc = fnd bk_X11_settles pc := fun _ => rfl
def f_X11_settles (T : Nat) (v1 : Int) (M : aM) : Option (Int × aM) :=
 (f_X11_isVoice T v1 M).bind fun x1 =>
 if x1 = 0 then
 (f_X11_refuse T 1 M).bind fun x4 =>
 some (x4.1, x4.2) else
 (f_X1_roundStart T v1 M).bind fun x8 =>
 (f_X11_allow T x8.1 x8.2).bind fun x12 =>
 some (x12.1, x12.2)
theorem t_X11_settles {T : T3} {v1 : Int} {M : aM} {y : (Int × aM)}  (hS : Sh T.1 M) (h : f_X11_settles T.1 v1 M = some y) : Mr 7 133 [(2, ((0 : Nat) : Int)), (0, v1)] M (some (0, y.1)) y.2 T ∧ Sh T.1 y.2 := by
  have key : ∀ d, 7 ≤ d → Wp d 133 0 [] [(2, ((0 : Nat) : Int)), (0, v1)] [] (M, T) (fun r2 σ2 => r2 = some (0, y.1) ∧ σ2 = (y.2, T) ∧ Sh T.1 y.2) := by
    intro d hd
    rw [f_X11_settles] at h
    refine y_blk (t := 0) rfl (show fnd bk_X11_settles 0 = some _ from rfl) aB_X11_settles ?_
    refine wp_aload_n (v := ((0 : Nat) : Int)) rfl (Int.natCast_nonneg _) ?_
    refine wp_iload_n (v := v1) rfl ?_
    obtain ⟨x1, e2, h⟩ := d_bind h
    refine y_callV (as := [(0, v1)]) (S1 := []) (Nat.le_of_ble_eq_true rfl) (by omega) (t_X11_isVoice hS e2) (Nat.le_of_ble_eq_true rfl) rfl (show ash 0 = (11, 15) from rfl) (Nat.lt_of_lt_of_le (show 0 < 154 by decide) hS.1.1) (Nat.le_of_ble_eq_true rfl) (Nat.le_of_ble_eq_true rfl) rfl ?_
    refine wp_if_eq (fun c3 => ?_) (fun c3 => ?_)
    · rw [if_pos c3] at h
      refine y_blk (t := 23) rfl (show fnd bk_X11_settles 23 = some _ from rfl) aB_X11_settles ?_
      refine wp_aload_n (v := ((0 : Nat) : Int)) rfl (Int.natCast_nonneg _) ?_
      refine wp_iconst ⟨by decide, by decide⟩ ?_
      obtain ⟨x4, e5, h⟩ := d_bind h
      obtain ⟨r6, s7⟩ := t_X11_refuse hS e5
      refine y_callV (as := [(0, 1)]) (S1 := []) (Nat.le_of_ble_eq_true rfl) (by omega) r6 (Nat.le_of_ble_eq_true rfl) rfl (show ash 0 = (11, 15) from rfl) (Nat.lt_of_lt_of_le (show 0 < 154 by decide) hS.1.1) (Nat.le_of_ble_eq_true rfl) (Nat.le_of_ble_eq_true rfl) rfl ?_
      refine y_blk (t := 28) rfl (show fnd bk_X11_settles 28 = some _ from rfl) aB_X11_settles ?_
      cases h
      exact y_ret0 (Or.inl rfl) ⟨rfl, rfl, s7⟩
    · rw [if_neg c3] at h
      refine wp_aload_n (v := ((0 : Nat) : Int)) rfl (Int.natCast_nonneg _) ?_
      refine wp_aload_n (v := ((0 : Nat) : Int)) rfl (Int.natCast_nonneg _) ?_
      refine y_get (show ash 0 = (11, 15) from rfl) (Nat.lt_of_lt_of_le (show 0 < 154 by decide) hS.1.1) (v := ((48 : Nat) : Int)) (hS.at 0 8 48 (by decide +kernel)) rfl ?_
      refine wp_iload_n (v := v1) rfl ?_
      obtain ⟨x8, e9, h⟩ := d_bind h
      obtain ⟨r10, s11⟩ := t_X1_roundStart hS e9
      refine y_callV (as := [(0, v1)]) (S1 := [(2, ((0 : Nat) : Int))]) (Nat.le_of_ble_eq_true rfl) (by omega) r10 (Nat.le_of_ble_eq_true rfl) rfl (show ash 48 = (1, 6) from rfl) (Nat.lt_of_lt_of_le (show 48 < 154 by decide) hS.1.1) (Nat.le_of_ble_eq_true rfl) (Nat.le_of_ble_eq_true rfl) rfl ?_
      obtain ⟨x12, e13, h⟩ := d_bind h
      obtain ⟨r14, s15⟩ := t_X11_allow s11 e13
      refine y_callV (as := [(0, x8.1)]) (S1 := []) (Nat.le_of_ble_eq_true rfl) (by omega) r14 (Nat.le_of_ble_eq_true rfl) rfl (show ash 0 = (11, 15) from rfl) (Nat.lt_of_lt_of_le (show 0 < 154 by decide) hS.1.1) (Nat.le_of_ble_eq_true rfl) (Nat.le_of_ble_eq_true rfl) rfl ?_
      refine wp_goto ?_
      refine y_blk (t := 28) rfl (show fnd bk_X11_settles 28 = some _ from rfl) aB_X11_settles ?_
      cases h
      exact y_ret0 (Or.inl rfl) ⟨rfl, rfl, s15⟩
  exact ⟨fun d hd => Ms.of3 (key d hd), Ms.sh (key 7 (Nat.le_refl _))⟩
theorem aB_X11_round : ∀ pc, aB 134 pc = fnd bk_X11_round pc := fun _ => rfl
def f_X11_round (T : Nat) (v1 : Int) (M : aM) : Option (Int × aM) :=
 (f_X11_isVoice T v1 M).bind fun x1 =>
 if x1 = 0 then
 (f_X11_refuse T 1 M).bind fun x4 =>
 some (x4.1, x4.2) else
 (f_X1_roundLength T v1 M).bind fun x8 =>
 (f_X11_allow T x8.1 x8.2).bind fun x12 =>
 some (x12.1, x12.2)
theorem t_X11_round {T : T3} {v1 : Int} {M : aM} {y : (Int × aM)}  (hS : Sh T.1 M) (h : f_X11_round T.1 v1 M = some y) : Mr 6 134 [(2, ((0 : Nat) : Int)), (0, v1)] M (some (0, y.1)) y.2 T ∧ Sh T.1 y.2 := by
  have key : ∀ d, 6 ≤ d → Wp d 134 0 [] [(2, ((0 : Nat) : Int)), (0, v1)] [] (M, T) (fun r2 σ2 => r2 = some (0, y.1) ∧ σ2 = (y.2, T) ∧ Sh T.1 y.2) := by
    intro d hd
    rw [f_X11_round] at h
    refine y_blk (t := 0) rfl (show fnd bk_X11_round 0 = some _ from rfl) aB_X11_round ?_
    refine wp_aload_n (v := ((0 : Nat) : Int)) rfl (Int.natCast_nonneg _) ?_
    refine wp_iload_n (v := v1) rfl ?_
    obtain ⟨x1, e2, h⟩ := d_bind h
    refine y_callV (as := [(0, v1)]) (S1 := []) (Nat.le_of_ble_eq_true rfl) (by omega) (t_X11_isVoice hS e2) (Nat.le_of_ble_eq_true rfl) rfl (show ash 0 = (11, 15) from rfl) (Nat.lt_of_lt_of_le (show 0 < 154 by decide) hS.1.1) (Nat.le_of_ble_eq_true rfl) (Nat.le_of_ble_eq_true rfl) rfl ?_
    refine wp_if_eq (fun c3 => ?_) (fun c3 => ?_)
    · rw [if_pos c3] at h
      refine y_blk (t := 23) rfl (show fnd bk_X11_round 23 = some _ from rfl) aB_X11_round ?_
      refine wp_aload_n (v := ((0 : Nat) : Int)) rfl (Int.natCast_nonneg _) ?_
      refine wp_iconst ⟨by decide, by decide⟩ ?_
      obtain ⟨x4, e5, h⟩ := d_bind h
      obtain ⟨r6, s7⟩ := t_X11_refuse hS e5
      refine y_callV (as := [(0, 1)]) (S1 := []) (Nat.le_of_ble_eq_true rfl) (by omega) r6 (Nat.le_of_ble_eq_true rfl) rfl (show ash 0 = (11, 15) from rfl) (Nat.lt_of_lt_of_le (show 0 < 154 by decide) hS.1.1) (Nat.le_of_ble_eq_true rfl) (Nat.le_of_ble_eq_true rfl) rfl ?_
      refine y_blk (t := 28) rfl (show fnd bk_X11_round 28 = some _ from rfl) aB_X11_round ?_
      cases h
      exact y_ret0 (Or.inl rfl) ⟨rfl, rfl, s7⟩
    · rw [if_neg c3] at h
      refine wp_aload_n (v := ((0 : Nat) : Int)) rfl (Int.natCast_nonneg _) ?_
      refine wp_aload_n (v := ((0 : Nat) : Int)) rfl (Int.natCast_nonneg _) ?_
      refine y_get (show ash 0 = (11, 15) from rfl) (Nat.lt_of_lt_of_le (show 0 < 154 by decide) hS.1.1) (v := ((48 : Nat) : Int)) (hS.at 0 8 48 (by decide +kernel)) rfl ?_
      refine wp_iload_n (v := v1) rfl ?_
      obtain ⟨x8, e9, h⟩ := d_bind h
      obtain ⟨r10, s11⟩ := t_X1_roundLength hS e9
      refine y_callV (as := [(0, v1)]) (S1 := [(2, ((0 : Nat) : Int))]) (Nat.le_of_ble_eq_true rfl) (by omega) r10 (Nat.le_of_ble_eq_true rfl) rfl (show ash 48 = (1, 6) from rfl) (Nat.lt_of_lt_of_le (show 48 < 154 by decide) hS.1.1) (Nat.le_of_ble_eq_true rfl) (Nat.le_of_ble_eq_true rfl) rfl ?_
      obtain ⟨x12, e13, h⟩ := d_bind h
      obtain ⟨r14, s15⟩ := t_X11_allow s11 e13
      refine y_callV (as := [(0, x8.1)]) (S1 := []) (Nat.le_of_ble_eq_true rfl) (by omega) r14 (Nat.le_of_ble_eq_true rfl) rfl (show ash 0 = (11, 15) from rfl) (Nat.lt_of_lt_of_le (show 0 < 154 by decide) hS.1.1) (Nat.le_of_ble_eq_true rfl) (Nat.le_of_ble_eq_true rfl) rfl ?_
      refine wp_goto ?_
      refine y_blk (t := 28) rfl (show fnd bk_X11_round 28 = some _ from rfl) aB_X11_round ?_
      cases h
      exact y_ret0 (Or.inl rfl) ⟨rfl, rfl, s15⟩
  exact ⟨fun d hd => Ms.of3 (key d hd), Ms.sh (key 6 (Nat.le_refl _))⟩
theorem aB_X11_called : ∀ pc, aB 135 pc = fnd bk_X11_called pc := fun _ => rfl
def f_X11_called (T : Nat) (v1 : Int) (v2 : Int) (M : aM) : Option (Int × aM) :=
 (f_X11_isVoice T v1 M).bind fun x1 =>
 if x1 = 0 then
 (f_X11_refuse T 1 M).bind fun x4 =>
 some (x4.1, x4.2) else
 (f_X11_isCave T v2 M).bind fun x8 =>
 if x8 = 0 then
 (f_X11_refuse T 1 M).bind fun x18 =>
 some (x18.1, x18.2) else
 if 0 ≤ v1 ∧ v1 < 3 then
 (f_X1_callStep T (M 8 (v1).toNat) (M 36 (v1).toNat) v2 M).bind fun x12 =>
 (f_X11_allow T x12 M).bind fun x14 =>
 some (x14.1, x14.2) else none
theorem t_X11_called {T : T3} {v1 : Int} {v2 : Int} {M : aM} {y : (Int × aM)}  (hS : Sh T.1 M) (h : f_X11_called T.1 v1 v2 M = some y) : Mr 3 135 [(2, ((0 : Nat) : Int)), (0, v1), (0, v2)] M (some (0, y.1)) y.2 T ∧ Sh T.1 y.2 := by
  have key : ∀ d, 3 ≤ d → Wp d 135 0 [] [(2, ((0 : Nat) : Int)), (0, v1), (0, v2)] [] (M, T) (fun r2 σ2 => r2 = some (0, y.1) ∧ σ2 = (y.2, T) ∧ Sh T.1 y.2) := by
    intro d hd
    rw [f_X11_called] at h
    refine y_blk (t := 0) rfl (show fnd bk_X11_called 0 = some _ from rfl) aB_X11_called ?_
    refine wp_aload_n (v := ((0 : Nat) : Int)) rfl (Int.natCast_nonneg _) ?_
    refine wp_iload_n (v := v1) rfl ?_
    obtain ⟨x1, e2, h⟩ := d_bind h
    refine y_callV (as := [(0, v1)]) (S1 := []) (Nat.le_of_ble_eq_true rfl) (by omega) (t_X11_isVoice hS e2) (Nat.le_of_ble_eq_true rfl) rfl (show ash 0 = (11, 15) from rfl) (Nat.lt_of_lt_of_le (show 0 < 154 by decide) hS.1.1) (Nat.le_of_ble_eq_true rfl) (Nat.le_of_ble_eq_true rfl) rfl ?_
    refine wp_if_eq (fun c3 => ?_) (fun c3 => ?_)
    · rw [if_pos c3] at h
      refine y_blk (t := 16) rfl (show fnd bk_X11_called 16 = some _ from rfl) aB_X11_called ?_
      refine wp_aload_n (v := ((0 : Nat) : Int)) rfl (Int.natCast_nonneg _) ?_
      refine wp_iconst ⟨by decide, by decide⟩ ?_
      obtain ⟨x4, e5, h⟩ := d_bind h
      obtain ⟨r6, s7⟩ := t_X11_refuse hS e5
      refine y_callV (as := [(0, 1)]) (S1 := []) (Nat.le_of_ble_eq_true rfl) (by omega) r6 (Nat.le_of_ble_eq_true rfl) rfl (show ash 0 = (11, 15) from rfl) (Nat.lt_of_lt_of_le (show 0 < 154 by decide) hS.1.1) (Nat.le_of_ble_eq_true rfl) (Nat.le_of_ble_eq_true rfl) rfl ?_
      cases h
      exact y_ret0 (Or.inl rfl) ⟨rfl, rfl, s7⟩
    · rw [if_neg c3] at h
      refine wp_aload_n (v := ((0 : Nat) : Int)) rfl (Int.natCast_nonneg _) ?_
      refine wp_iload_n (v := v2) rfl ?_
      obtain ⟨x8, e9, h⟩ := d_bind h
      refine y_callV (as := [(0, v2)]) (S1 := []) (Nat.le_of_ble_eq_true rfl) (by omega) (t_X11_isCave hS e9) (Nat.le_of_ble_eq_true rfl) rfl (show ash 0 = (11, 15) from rfl) (Nat.lt_of_lt_of_le (show 0 < 154 by decide) hS.1.1) (Nat.le_of_ble_eq_true rfl) (Nat.le_of_ble_eq_true rfl) rfl ?_
      refine y_nez (fun c10 => ?_) (fun c10 => ?_)
      · rw [if_neg c10] at h
        refine y_blk (t := 22) rfl (show fnd bk_X11_called 22 = some _ from rfl) aB_X11_called ?_
        refine wp_aload_n (v := ((0 : Nat) : Int)) rfl (Int.natCast_nonneg _) ?_
        refine wp_aload_n (v := ((0 : Nat) : Int)) rfl (Int.natCast_nonneg _) ?_
        refine y_get (show ash 0 = (11, 15) from rfl) (Nat.lt_of_lt_of_le (show 0 < 154 by decide) hS.1.1) (v := ((48 : Nat) : Int)) (hS.at 0 8 48 (by decide +kernel)) rfl ?_
        refine wp_aload_n (v := ((0 : Nat) : Int)) rfl (Int.natCast_nonneg _) ?_
        refine y_get (show ash 0 = (11, 15) from rfl) (Nat.lt_of_lt_of_le (show 0 < 154 by decide) hS.1.1) (v := ((2 : Nat) : Int)) (hS.at 0 2 2 (by decide +kernel)) rfl ?_
        refine y_get (show ash 2 = (10, 19) from rfl) (Nat.lt_of_lt_of_le (show 2 < 154 by decide) hS.1.1) (v := ((8 : Nat) : Int)) (hS.at 2 10 8 (by decide +kernel)) rfl ?_
        refine wp_iload_n (v := v1) rfl ?_
        obtain ⟨c11, h⟩ := d_ite h
        refine y_iald (show ash 8 = (100, 3) from rfl) (Or.inl (Nat.lt_of_lt_of_le (show 8 < 154 by decide) hS.1.1)) (Nat.ne_of_lt (Nat.lt_of_lt_of_le (Nat.lt_of_lt_of_le (show 8 < 154 by decide) hS.1.1) hS.1.2)) c11 (v := M 8 (v1).toNat) rfl ?_
        refine wp_aload_n (v := ((0 : Nat) : Int)) rfl (Int.natCast_nonneg _) ?_
        refine y_get (show ash 0 = (11, 15) from rfl) (Nat.lt_of_lt_of_le (show 0 < 154 by decide) hS.1.1) (v := ((35 : Nat) : Int)) (hS.at 0 4 35 (by decide +kernel)) rfl ?_
        refine y_get (show ash 35 = (8, 5) from rfl) (Nat.lt_of_lt_of_le (show 35 < 154 by decide) hS.1.1) (v := ((36 : Nat) : Int)) (hS.at 35 0 36 (by decide +kernel)) rfl ?_
        refine wp_iload_n (v := v1) rfl ?_
        refine y_iald (show ash 36 = (100, 3) from rfl) (Or.inl (Nat.lt_of_lt_of_le (show 36 < 154 by decide) hS.1.1)) (Nat.ne_of_lt (Nat.lt_of_lt_of_le (Nat.lt_of_lt_of_le (show 36 < 154 by decide) hS.1.1) hS.1.2)) c11 (v := M 36 (v1).toNat) rfl ?_
        refine wp_iload_n (v := v2) rfl ?_
        obtain ⟨x12, e13, h⟩ := d_bind h
        refine y_callV (as := [(0, (M 8 (v1).toNat)), (0, (M 36 (v1).toNat)), (0, v2)]) (S1 := [(2, ((0 : Nat) : Int))]) (Nat.le_of_ble_eq_true rfl) (by omega) (t_X1_callStep hS e13) (Nat.le_of_ble_eq_true rfl) rfl (show ash 48 = (1, 6) from rfl) (Nat.lt_of_lt_of_le (show 48 < 154 by decide) hS.1.1) (Nat.le_of_ble_eq_true rfl) (Nat.le_of_ble_eq_true rfl) rfl ?_
        obtain ⟨x14, e15, h⟩ := d_bind h
        obtain ⟨r16, s17⟩ := t_X11_allow hS e15
        refine y_callV (as := [(0, x12)]) (S1 := []) (Nat.le_of_ble_eq_true rfl) (by omega) r16 (Nat.le_of_ble_eq_true rfl) rfl (show ash 0 = (11, 15) from rfl) (Nat.lt_of_lt_of_le (show 0 < 154 by decide) hS.1.1) (Nat.le_of_ble_eq_true rfl) (Nat.le_of_ble_eq_true rfl) rfl ?_
        cases h
        exact y_ret0 (Or.inl rfl) ⟨rfl, rfl, s17⟩
      · rw [if_pos c10] at h
        refine y_blk (t := 16) rfl (show fnd bk_X11_called 16 = some _ from rfl) aB_X11_called ?_
        refine wp_aload_n (v := ((0 : Nat) : Int)) rfl (Int.natCast_nonneg _) ?_
        refine wp_iconst ⟨by decide, by decide⟩ ?_
        obtain ⟨x18, e19, h⟩ := d_bind h
        obtain ⟨r20, s21⟩ := t_X11_refuse hS e19
        refine y_callV (as := [(0, 1)]) (S1 := []) (Nat.le_of_ble_eq_true rfl) (by omega) r20 (Nat.le_of_ble_eq_true rfl) rfl (show ash 0 = (11, 15) from rfl) (Nat.lt_of_lt_of_le (show 0 < 154 by decide) hS.1.1) (Nat.le_of_ble_eq_true rfl) (Nat.le_of_ble_eq_true rfl) rfl ?_
        cases h
        exact y_ret0 (Or.inl rfl) ⟨rfl, rfl, s21⟩
  exact ⟨fun d hd => Ms.of3 (key d hd), Ms.sh (key 3 (Nat.le_refl _))⟩
theorem aB_X11_bring : ∀ pc, aB 136 pc = fnd bk_X11_bring pc := fun _ => rfl
def f_X11_bring (T : Nat) (v1 : Int) (v2 : Int) (M : aM) : Option (Int × aM) :=
 (f_X11_isVoice T v1 M).bind fun x1 =>
 if x1 = 0 then
 (f_X11_refuse T 1 M).bind fun x4 =>
 some (x4.1, x4.2) else
 (f_X11_isCave T v2 M).bind fun x8 =>
 if x8 = 0 then
 (f_X11_refuse T 1 M).bind fun x21 =>
 some (x21.1, x21.2) else
 (f_X1_callsNeeded T v1 v2 M).bind fun x11 =>
 (f_X11_orNo T x11.1 x11.2).bind fun x15 =>
 (f_X11_allow T x15 x11.2).bind fun x17 =>
 some (x17.1, x17.2)
theorem t_X11_bring {T : T3} {v1 : Int} {v2 : Int} {M : aM} {y : (Int × aM)}  (hS : Sh T.1 M) (h : f_X11_bring T.1 v1 v2 M = some y) : Mr 5 136 [(2, ((0 : Nat) : Int)), (0, v1), (0, v2)] M (some (0, y.1)) y.2 T ∧ Sh T.1 y.2 := by
  have key : ∀ d, 5 ≤ d → Wp d 136 0 [] [(2, ((0 : Nat) : Int)), (0, v1), (0, v2)] [] (M, T) (fun r2 σ2 => r2 = some (0, y.1) ∧ σ2 = (y.2, T) ∧ Sh T.1 y.2) := by
    intro d hd
    rw [f_X11_bring] at h
    refine y_blk (t := 0) rfl (show fnd bk_X11_bring 0 = some _ from rfl) aB_X11_bring ?_
    refine wp_aload_n (v := ((0 : Nat) : Int)) rfl (Int.natCast_nonneg _) ?_
    refine wp_iload_n (v := v1) rfl ?_
    obtain ⟨x1, e2, h⟩ := d_bind h
    refine y_callV (as := [(0, v1)]) (S1 := []) (Nat.le_of_ble_eq_true rfl) (by omega) (t_X11_isVoice hS e2) (Nat.le_of_ble_eq_true rfl) rfl (show ash 0 = (11, 15) from rfl) (Nat.lt_of_lt_of_le (show 0 < 154 by decide) hS.1.1) (Nat.le_of_ble_eq_true rfl) (Nat.le_of_ble_eq_true rfl) rfl ?_
    refine wp_if_eq (fun c3 => ?_) (fun c3 => ?_)
    · rw [if_pos c3] at h
      refine y_blk (t := 16) rfl (show fnd bk_X11_bring 16 = some _ from rfl) aB_X11_bring ?_
      refine wp_aload_n (v := ((0 : Nat) : Int)) rfl (Int.natCast_nonneg _) ?_
      refine wp_iconst ⟨by decide, by decide⟩ ?_
      obtain ⟨x4, e5, h⟩ := d_bind h
      obtain ⟨r6, s7⟩ := t_X11_refuse hS e5
      refine y_callV (as := [(0, 1)]) (S1 := []) (Nat.le_of_ble_eq_true rfl) (by omega) r6 (Nat.le_of_ble_eq_true rfl) rfl (show ash 0 = (11, 15) from rfl) (Nat.lt_of_lt_of_le (show 0 < 154 by decide) hS.1.1) (Nat.le_of_ble_eq_true rfl) (Nat.le_of_ble_eq_true rfl) rfl ?_
      cases h
      exact y_ret0 (Or.inl rfl) ⟨rfl, rfl, s7⟩
    · rw [if_neg c3] at h
      refine wp_aload_n (v := ((0 : Nat) : Int)) rfl (Int.natCast_nonneg _) ?_
      refine wp_iload_n (v := v2) rfl ?_
      obtain ⟨x8, e9, h⟩ := d_bind h
      refine y_callV (as := [(0, v2)]) (S1 := []) (Nat.le_of_ble_eq_true rfl) (by omega) (t_X11_isCave hS e9) (Nat.le_of_ble_eq_true rfl) rfl (show ash 0 = (11, 15) from rfl) (Nat.lt_of_lt_of_le (show 0 < 154 by decide) hS.1.1) (Nat.le_of_ble_eq_true rfl) (Nat.le_of_ble_eq_true rfl) rfl ?_
      refine y_nez (fun c10 => ?_) (fun c10 => ?_)
      · rw [if_neg c10] at h
        refine y_blk (t := 22) rfl (show fnd bk_X11_bring 22 = some _ from rfl) aB_X11_bring ?_
        refine wp_aload_n (v := ((0 : Nat) : Int)) rfl (Int.natCast_nonneg _) ?_
        refine wp_aload_n (v := ((0 : Nat) : Int)) rfl (Int.natCast_nonneg _) ?_
        refine y_get (show ash 0 = (11, 15) from rfl) (Nat.lt_of_lt_of_le (show 0 < 154 by decide) hS.1.1) (v := ((48 : Nat) : Int)) (hS.at 0 8 48 (by decide +kernel)) rfl ?_
        refine wp_iload_n (v := v1) rfl ?_
        refine wp_iload_n (v := v2) rfl ?_
        obtain ⟨x11, e12, h⟩ := d_bind h
        obtain ⟨r13, s14⟩ := t_X1_callsNeeded hS e12
        refine y_callV (as := [(0, v1), (0, v2)]) (S1 := [(2, ((0 : Nat) : Int))]) (Nat.le_of_ble_eq_true rfl) (by omega) r13 (Nat.le_of_ble_eq_true rfl) rfl (show ash 48 = (1, 6) from rfl) (Nat.lt_of_lt_of_le (show 48 < 154 by decide) hS.1.1) (Nat.le_of_ble_eq_true rfl) (Nat.le_of_ble_eq_true rfl) rfl ?_
        obtain ⟨x15, e16, h⟩ := d_bind h
        refine y_callS (as := [(0, x11.1)]) (S1 := [(2, ((0 : Nat) : Int))]) (Nat.le_of_ble_eq_true rfl) (by omega) (t_X11_orNo s14 e16) (Nat.le_of_ble_eq_true rfl) rfl (Nat.le_of_ble_eq_true rfl) (Nat.le_of_ble_eq_true rfl) rfl ?_
        obtain ⟨x17, e18, h⟩ := d_bind h
        obtain ⟨r19, s20⟩ := t_X11_allow s14 e18
        refine y_callV (as := [(0, x15)]) (S1 := []) (Nat.le_of_ble_eq_true rfl) (by omega) r19 (Nat.le_of_ble_eq_true rfl) rfl (show ash 0 = (11, 15) from rfl) (Nat.lt_of_lt_of_le (show 0 < 154 by decide) hS.1.1) (Nat.le_of_ble_eq_true rfl) (Nat.le_of_ble_eq_true rfl) rfl ?_
        cases h
        exact y_ret0 (Or.inl rfl) ⟨rfl, rfl, s20⟩
      · rw [if_pos c10] at h
        refine y_blk (t := 16) rfl (show fnd bk_X11_bring 16 = some _ from rfl) aB_X11_bring ?_
        refine wp_aload_n (v := ((0 : Nat) : Int)) rfl (Int.natCast_nonneg _) ?_
        refine wp_iconst ⟨by decide, by decide⟩ ?_
        obtain ⟨x21, e22, h⟩ := d_bind h
        obtain ⟨r23, s24⟩ := t_X11_refuse hS e22
        refine y_callV (as := [(0, 1)]) (S1 := []) (Nat.le_of_ble_eq_true rfl) (by omega) r23 (Nat.le_of_ble_eq_true rfl) rfl (show ash 0 = (11, 15) from rfl) (Nat.lt_of_lt_of_le (show 0 < 154 by decide) hS.1.1) (Nat.le_of_ble_eq_true rfl) (Nat.le_of_ble_eq_true rfl) rfl ?_
        cases h
        exact y_ret0 (Or.inl rfl) ⟨rfl, rfl, s24⟩
  exact ⟨fun d hd => Ms.of3 (key d hd), Ms.sh (key 5 (Nat.le_refl _))⟩

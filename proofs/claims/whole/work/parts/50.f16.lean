/-! ===== methods as functions ===== -/
theorem aB_X11_bringAt : ∀ pc, aB 137 pc = fnd bk_X11_bringAt pc := fun _ => rfl
def f_X11_bringAt (T : Nat) (v1 : Int) (v2 : Int) (v3 : Int) (M : aM) : Option (Int × aM) :=
 (f_X11_isVoice T v1 M).bind fun x1 =>
 if x1 = 0 then
 (f_X11_refuse T 1 M).bind fun x4 =>
 some (x4.1, x4.2) else
 (f_X11_isCave T v2 M).bind fun x8 =>
 if x8 = 0 then
 (f_X11_refuse T 1 M).bind fun x36 =>
 some (x36.1, x36.2) else
 (f_X1_callsNeeded T v1 v2 M).bind fun x11 =>
 if 1000000 ≤ x11.1 then
 (f_X11_refuse T 1 x11.2).bind fun x16 =>
 some (x16.1, x16.2) else
 if v3 < 0 then
 (f_X11_refuse T 1 x11.2).bind fun x21 =>
 some (x21.1, x21.2) else
 if v3 < x11.1 then
 (f_X1_callAt T v1 v3 x11.2).bind fun x26 =>
 (f_X11_allow T x26 x11.2).bind fun x28 =>
 some (x28.1, x28.2) else
 (f_X11_refuse T 1 x11.2).bind fun x32 =>
 some (x32.1, x32.2)
theorem t_X11_bringAt {T : T3} {v1 : Int} {v2 : Int} {v3 : Int} {M : aM} {y : (Int × aM)}  (hS : Sh T.1 M) (h : f_X11_bringAt T.1 v1 v2 v3 M = some y) : Mr 5 137 [(2, ((0 : Nat) : Int)), (0, v1), (0, v2), (0, v3)] M (some (0, y.1)) y.2 T ∧ Sh T.1 y.2 := by
  have key : ∀ d, 5 ≤ d → Wp d 137 0 [] [(2, ((0 : Nat) : Int)), (0, v1), (0, v2), (0, v3), (9, 0)] [] (M, T) (fun r2 σ2 => r2 = some (0, y.1) ∧ σ2 = (y.2, T) ∧ Sh T.1 y.2) := by
    intro d hd
    rw [f_X11_bringAt] at h
    refine y_blk (t := 0) rfl (show fnd bk_X11_bringAt 0 = some _ from rfl) aB_X11_bringAt ?_
    refine wp_aload_n (v := ((0 : Nat) : Int)) rfl (Int.natCast_nonneg _) ?_
    refine wp_iload_n (v := v1) rfl ?_
    obtain ⟨x1, e2, h⟩ := d_bind h
    refine y_callV (as := [(0, v1)]) (S1 := []) (Nat.le_of_ble_eq_true rfl) (by omega) (t_X11_isVoice hS e2) (Nat.le_of_ble_eq_true rfl) rfl (show ash 0 = (11, 15) from rfl) (Nat.lt_of_lt_of_le (show 0 < 154 by decide) hS.1.1) (Nat.le_of_ble_eq_true rfl) (Nat.le_of_ble_eq_true rfl) rfl ?_
    refine wp_if_eq (fun c3 => ?_) (fun c3 => ?_)
    · rw [if_pos c3] at h
      refine y_blk (t := 16) rfl (show fnd bk_X11_bringAt 16 = some _ from rfl) aB_X11_bringAt ?_
      refine wp_aload_n (v := ((0 : Nat) : Int)) rfl (Int.natCast_nonneg _) ?_
      refine wp_iconst ⟨by decide, by decide⟩ ?_
      obtain ⟨x4, e5, h⟩ := d_bind h
      obtain ⟨r6, s7⟩ := t_X11_refuse hS e5
      refine y_callV (as := [(0, 1)]) (S1 := []) (Nat.le_of_ble_eq_true rfl) (by omega) r6 (Nat.le_of_ble_eq_true rfl) rfl (show ash 0 = (11, 15) from rfl) (Nat.lt_of_lt_of_le (show 0 < 154 by decide) hS.1.1) (Nat.le_of_ble_eq_true rfl) (Nat.le_of_ble_eq_true rfl) rfl ?_
      cases h
      exact y_ret0 (Or.inl rfl) ⟨rfl, rfl, s7⟩
    · rw [if_neg c3] at h
      refine wp_aload_n (v := ((0 : Nat) : Int)) rfl (Int.natCast_nonneg _) ?_
      refine wp_iload_n (v := v2) rfl ?_
      obtain ⟨x8, e9, h⟩ := d_bind h
      refine y_callV (as := [(0, v2)]) (S1 := []) (Nat.le_of_ble_eq_true rfl) (by omega) (t_X11_isCave hS e9) (Nat.le_of_ble_eq_true rfl) rfl (show ash 0 = (11, 15) from rfl) (Nat.lt_of_lt_of_le (show 0 < 154 by decide) hS.1.1) (Nat.le_of_ble_eq_true rfl) (Nat.le_of_ble_eq_true rfl) rfl ?_
      refine y_nez (fun c10 => ?_) (fun c10 => ?_)
      · rw [if_neg c10] at h
        refine y_blk (t := 22) rfl (show fnd bk_X11_bringAt 22 = some _ from rfl) aB_X11_bringAt ?_
        refine wp_aload_n (v := ((0 : Nat) : Int)) rfl (Int.natCast_nonneg _) ?_
        refine y_get (show ash 0 = (11, 15) from rfl) (Nat.lt_of_lt_of_le (show 0 < 154 by decide) hS.1.1) (v := ((48 : Nat) : Int)) (hS.at 0 8 48 (by decide +kernel)) rfl ?_
        refine wp_iload_n (v := v1) rfl ?_
        refine wp_iload_n (v := v2) rfl ?_
        obtain ⟨x11, e12, h⟩ := d_bind h
        obtain ⟨r13, s14⟩ := t_X1_callsNeeded hS e12
        refine y_callV (as := [(0, v1), (0, v2)]) (S1 := []) (Nat.le_of_ble_eq_true rfl) (by omega) r13 (Nat.le_of_ble_eq_true rfl) rfl (show ash 48 = (1, 6) from rfl) (Nat.lt_of_lt_of_le (show 48 < 154 by decide) hS.1.1) (Nat.le_of_ble_eq_true rfl) (Nat.le_of_ble_eq_true rfl) rfl ?_
        refine y_st (L1 := [(2, ((0 : Nat) : Int)), (0, v1), (0, v2), (0, v3), (0, x11.1)]) (Nat.le_of_ble_eq_true rfl) rfl ?_
        refine wp_iload (v := x11.1) rfl ?_
        refine y_ldc (v := 1000000) (by decide) rfl ?_
        refine wp_icmp_ge (fun c15 => ?_) (fun c15 => ?_)
        · rw [if_pos c15] at h
          refine y_blk (t := 50) rfl (show fnd bk_X11_bringAt 50 = some _ from rfl) aB_X11_bringAt ?_
          refine wp_aload_n (v := ((0 : Nat) : Int)) rfl (Int.natCast_nonneg _) ?_
          refine wp_iconst ⟨by decide, by decide⟩ ?_
          obtain ⟨x16, e17, h⟩ := d_bind h
          obtain ⟨r18, s19⟩ := t_X11_refuse s14 e17
          refine y_callV (as := [(0, 1)]) (S1 := []) (Nat.le_of_ble_eq_true rfl) (by omega) r18 (Nat.le_of_ble_eq_true rfl) rfl (show ash 0 = (11, 15) from rfl) (Nat.lt_of_lt_of_le (show 0 < 154 by decide) hS.1.1) (Nat.le_of_ble_eq_true rfl) (Nat.le_of_ble_eq_true rfl) rfl ?_
          cases h
          exact y_ret0 (Or.inl rfl) ⟨rfl, rfl, s19⟩
        · rw [if_neg c15] at h
          refine wp_iload_n (v := v3) rfl ?_
          refine wp_if_lt (fun c20 => ?_) (fun c20 => ?_)
          · rw [if_pos c20] at h
            refine y_blk (t := 50) rfl (show fnd bk_X11_bringAt 50 = some _ from rfl) aB_X11_bringAt ?_
            refine wp_aload_n (v := ((0 : Nat) : Int)) rfl (Int.natCast_nonneg _) ?_
            refine wp_iconst ⟨by decide, by decide⟩ ?_
            obtain ⟨x21, e22, h⟩ := d_bind h
            obtain ⟨r23, s24⟩ := t_X11_refuse s14 e22
            refine y_callV (as := [(0, 1)]) (S1 := []) (Nat.le_of_ble_eq_true rfl) (by omega) r23 (Nat.le_of_ble_eq_true rfl) rfl (show ash 0 = (11, 15) from rfl) (Nat.lt_of_lt_of_le (show 0 < 154 by decide) hS.1.1) (Nat.le_of_ble_eq_true rfl) (Nat.le_of_ble_eq_true rfl) rfl ?_
            cases h
            exact y_ret0 (Or.inl rfl) ⟨rfl, rfl, s24⟩
          · rw [if_neg c20] at h
            refine wp_iload_n (v := v3) rfl ?_
            refine wp_iload (v := x11.1) rfl ?_
            refine wp_icmp_lt (fun c25 => ?_) (fun c25 => ?_)
            · rw [if_pos c25] at h
              refine y_blk (t := 56) rfl (show fnd bk_X11_bringAt 56 = some _ from rfl) aB_X11_bringAt ?_
              refine wp_aload_n (v := ((0 : Nat) : Int)) rfl (Int.natCast_nonneg _) ?_
              refine wp_aload_n (v := ((0 : Nat) : Int)) rfl (Int.natCast_nonneg _) ?_
              refine y_get (show ash 0 = (11, 15) from rfl) (Nat.lt_of_lt_of_le (show 0 < 154 by decide) hS.1.1) (v := ((48 : Nat) : Int)) (s14.at 0 8 48 (by decide +kernel)) rfl ?_
              refine wp_iload_n (v := v1) rfl ?_
              refine wp_iload_n (v := v3) rfl ?_
              obtain ⟨x26, e27, h⟩ := d_bind h
              refine y_callV (as := [(0, v1), (0, v3)]) (S1 := [(2, ((0 : Nat) : Int))]) (Nat.le_of_ble_eq_true rfl) (by omega) (t_X1_callAt s14 e27) (Nat.le_of_ble_eq_true rfl) rfl (show ash 48 = (1, 6) from rfl) (Nat.lt_of_lt_of_le (show 48 < 154 by decide) hS.1.1) (Nat.le_of_ble_eq_true rfl) (Nat.le_of_ble_eq_true rfl) rfl ?_
              obtain ⟨x28, e29, h⟩ := d_bind h
              obtain ⟨r30, s31⟩ := t_X11_allow s14 e29
              refine y_callV (as := [(0, x26)]) (S1 := []) (Nat.le_of_ble_eq_true rfl) (by omega) r30 (Nat.le_of_ble_eq_true rfl) rfl (show ash 0 = (11, 15) from rfl) (Nat.lt_of_lt_of_le (show 0 < 154 by decide) hS.1.1) (Nat.le_of_ble_eq_true rfl) (Nat.le_of_ble_eq_true rfl) rfl ?_
              cases h
              exact y_ret0 (Or.inl rfl) ⟨rfl, rfl, s31⟩
            · rw [if_neg c25] at h
              refine y_blk (t := 50) rfl (show fnd bk_X11_bringAt 50 = some _ from rfl) aB_X11_bringAt ?_
              refine wp_aload_n (v := ((0 : Nat) : Int)) rfl (Int.natCast_nonneg _) ?_
              refine wp_iconst ⟨by decide, by decide⟩ ?_
              obtain ⟨x32, e33, h⟩ := d_bind h
              obtain ⟨r34, s35⟩ := t_X11_refuse s14 e33
              refine y_callV (as := [(0, 1)]) (S1 := []) (Nat.le_of_ble_eq_true rfl) (by omega) r34 (Nat.le_of_ble_eq_true rfl) rfl (show ash 0 = (11, 15) from rfl) (Nat.lt_of_lt_of_le (show 0 < 154 by decide) hS.1.1) (Nat.le_of_ble_eq_true rfl) (Nat.le_of_ble_eq_true rfl) rfl ?_
              cases h
              exact y_ret0 (Or.inl rfl) ⟨rfl, rfl, s35⟩
      · rw [if_pos c10] at h
        refine y_blk (t := 16) rfl (show fnd bk_X11_bringAt 16 = some _ from rfl) aB_X11_bringAt ?_
        refine wp_aload_n (v := ((0 : Nat) : Int)) rfl (Int.natCast_nonneg _) ?_
        refine wp_iconst ⟨by decide, by decide⟩ ?_
        obtain ⟨x36, e37, h⟩ := d_bind h
        obtain ⟨r38, s39⟩ := t_X11_refuse hS e37
        refine y_callV (as := [(0, 1)]) (S1 := []) (Nat.le_of_ble_eq_true rfl) (by omega) r38 (Nat.le_of_ble_eq_true rfl) rfl (show ash 0 = (11, 15) from rfl) (Nat.lt_of_lt_of_le (show 0 < 154 by decide) hS.1.1) (Nat.le_of_ble_eq_true rfl) (Nat.le_of_ble_eq_true rfl) rfl ?_
        cases h
        exact y_ret0 (Or.inl rfl) ⟨rfl, rfl, s39⟩
  exact ⟨fun d hd => Ms.of3 (key d hd), Ms.sh (key 5 (Nat.le_refl _))⟩
theorem aB_X11_reach : ∀ pc, aB 138 pc = fnd bk_X11_reach pc := fun _ => rfl
def f_X11_reach (T : Nat) (v1 : Int) (M : aM) : Option (Int × aM) :=
 (f_X11_isVoice T v1 M).bind fun x1 =>
 if x1 = 0 then
 (f_X11_refuse T 1 M).bind fun x4 =>
 some (x4.1, x4.2) else
 (f_X1_broughtTo T v1 M).bind fun x8 =>
 (f_X11_allow T x8 M).bind fun x10 =>
 some (x10.1, x10.2)
theorem t_X11_reach {T : T3} {v1 : Int} {M : aM} {y : (Int × aM)}  (hS : Sh T.1 M) (h : f_X11_reach T.1 v1 M = some y) : Mr 5 138 [(2, ((0 : Nat) : Int)), (0, v1)] M (some (0, y.1)) y.2 T ∧ Sh T.1 y.2 := by
  have key : ∀ d, 5 ≤ d → Wp d 138 0 [] [(2, ((0 : Nat) : Int)), (0, v1)] [] (M, T) (fun r2 σ2 => r2 = some (0, y.1) ∧ σ2 = (y.2, T) ∧ Sh T.1 y.2) := by
    intro d hd
    rw [f_X11_reach] at h
    refine y_blk (t := 0) rfl (show fnd bk_X11_reach 0 = some _ from rfl) aB_X11_reach ?_
    refine wp_aload_n (v := ((0 : Nat) : Int)) rfl (Int.natCast_nonneg _) ?_
    refine wp_iload_n (v := v1) rfl ?_
    obtain ⟨x1, e2, h⟩ := d_bind h
    refine y_callV (as := [(0, v1)]) (S1 := []) (Nat.le_of_ble_eq_true rfl) (by omega) (t_X11_isVoice hS e2) (Nat.le_of_ble_eq_true rfl) rfl (show ash 0 = (11, 15) from rfl) (Nat.lt_of_lt_of_le (show 0 < 154 by decide) hS.1.1) (Nat.le_of_ble_eq_true rfl) (Nat.le_of_ble_eq_true rfl) rfl ?_
    refine wp_if_eq (fun c3 => ?_) (fun c3 => ?_)
    · rw [if_pos c3] at h
      refine y_blk (t := 23) rfl (show fnd bk_X11_reach 23 = some _ from rfl) aB_X11_reach ?_
      refine wp_aload_n (v := ((0 : Nat) : Int)) rfl (Int.natCast_nonneg _) ?_
      refine wp_iconst ⟨by decide, by decide⟩ ?_
      obtain ⟨x4, e5, h⟩ := d_bind h
      obtain ⟨r6, s7⟩ := t_X11_refuse hS e5
      refine y_callV (as := [(0, 1)]) (S1 := []) (Nat.le_of_ble_eq_true rfl) (by omega) r6 (Nat.le_of_ble_eq_true rfl) rfl (show ash 0 = (11, 15) from rfl) (Nat.lt_of_lt_of_le (show 0 < 154 by decide) hS.1.1) (Nat.le_of_ble_eq_true rfl) (Nat.le_of_ble_eq_true rfl) rfl ?_
      refine y_blk (t := 28) rfl (show fnd bk_X11_reach 28 = some _ from rfl) aB_X11_reach ?_
      cases h
      exact y_ret0 (Or.inl rfl) ⟨rfl, rfl, s7⟩
    · rw [if_neg c3] at h
      refine wp_aload_n (v := ((0 : Nat) : Int)) rfl (Int.natCast_nonneg _) ?_
      refine wp_aload_n (v := ((0 : Nat) : Int)) rfl (Int.natCast_nonneg _) ?_
      refine y_get (show ash 0 = (11, 15) from rfl) (Nat.lt_of_lt_of_le (show 0 < 154 by decide) hS.1.1) (v := ((48 : Nat) : Int)) (hS.at 0 8 48 (by decide +kernel)) rfl ?_
      refine wp_iload_n (v := v1) rfl ?_
      obtain ⟨x8, e9, h⟩ := d_bind h
      refine y_callV (as := [(0, v1)]) (S1 := [(2, ((0 : Nat) : Int))]) (Nat.le_of_ble_eq_true rfl) (by omega) (t_X1_broughtTo hS e9) (Nat.le_of_ble_eq_true rfl) rfl (show ash 48 = (1, 6) from rfl) (Nat.lt_of_lt_of_le (show 48 < 154 by decide) hS.1.1) (Nat.le_of_ble_eq_true rfl) (Nat.le_of_ble_eq_true rfl) rfl ?_
      obtain ⟨x10, e11, h⟩ := d_bind h
      obtain ⟨r12, s13⟩ := t_X11_allow hS e11
      refine y_callV (as := [(0, x8)]) (S1 := []) (Nat.le_of_ble_eq_true rfl) (by omega) r12 (Nat.le_of_ble_eq_true rfl) rfl (show ash 0 = (11, 15) from rfl) (Nat.lt_of_lt_of_le (show 0 < 154 by decide) hS.1.1) (Nat.le_of_ble_eq_true rfl) (Nat.le_of_ble_eq_true rfl) rfl ?_
      refine wp_goto ?_
      refine y_blk (t := 28) rfl (show fnd bk_X11_reach 28 = some _ from rfl) aB_X11_reach ?_
      cases h
      exact y_ret0 (Or.inl rfl) ⟨rfl, rfl, s13⟩
  exact ⟨fun d hd => Ms.of3 (key d hd), Ms.sh (key 5 (Nat.le_refl _))⟩
theorem aB_X11_echo : ∀ pc, aB 139 pc = fnd bk_X11_echo pc := fun _ => rfl
def f_X11_echo (T : Nat) (v1 : Int) (v2 : Int) (M : aM) : Option (Int × aM) :=
 (f_X11_isVoice T v1 M).bind fun x1 =>
 if x1 = 0 then
 (f_X11_refuse T 1 M).bind fun x4 =>
 some (x4.1, x4.2) else
 (f_X11_isCave T v2 M).bind fun x8 =>
 if x8 = 0 then
 (f_X11_refuse T 1 M).bind fun x21 =>
 some (x21.1, x21.2) else
 if 0 ≤ v1 ∧ v1 < 3 then
 (f_X5_span T 39 v2 (M 36 (v1).toNat) M).bind fun x12 =>
 if aIn (2 * x12) then
 (f_X11_orNo T (2 * x12) M).bind fun x15 =>
 (f_X11_allow T x15 M).bind fun x17 =>
 some (x17.1, x17.2) else none else none
theorem t_X11_echo {T : T3} {v1 : Int} {v2 : Int} {M : aM} {y : (Int × aM)}  (hS : Sh T.1 M) (h : f_X11_echo T.1 v1 v2 M = some y) : Mr 1 139 [(2, ((0 : Nat) : Int)), (0, v1), (0, v2)] M (some (0, y.1)) y.2 T ∧ Sh T.1 y.2 := by
  have key : ∀ d, 1 ≤ d → Wp d 139 0 [] [(2, ((0 : Nat) : Int)), (0, v1), (0, v2)] [] (M, T) (fun r2 σ2 => r2 = some (0, y.1) ∧ σ2 = (y.2, T) ∧ Sh T.1 y.2) := by
    intro d hd
    rw [f_X11_echo] at h
    refine y_blk (t := 0) rfl (show fnd bk_X11_echo 0 = some _ from rfl) aB_X11_echo ?_
    refine wp_aload_n (v := ((0 : Nat) : Int)) rfl (Int.natCast_nonneg _) ?_
    refine wp_iload_n (v := v1) rfl ?_
    obtain ⟨x1, e2, h⟩ := d_bind h
    refine y_callV (as := [(0, v1)]) (S1 := []) (Nat.le_of_ble_eq_true rfl) (by omega) (t_X11_isVoice hS e2) (Nat.le_of_ble_eq_true rfl) rfl (show ash 0 = (11, 15) from rfl) (Nat.lt_of_lt_of_le (show 0 < 154 by decide) hS.1.1) (Nat.le_of_ble_eq_true rfl) (Nat.le_of_ble_eq_true rfl) rfl ?_
    refine wp_if_eq (fun c3 => ?_) (fun c3 => ?_)
    · rw [if_pos c3] at h
      refine y_blk (t := 16) rfl (show fnd bk_X11_echo 16 = some _ from rfl) aB_X11_echo ?_
      refine wp_aload_n (v := ((0 : Nat) : Int)) rfl (Int.natCast_nonneg _) ?_
      refine wp_iconst ⟨by decide, by decide⟩ ?_
      obtain ⟨x4, e5, h⟩ := d_bind h
      obtain ⟨r6, s7⟩ := t_X11_refuse hS e5
      refine y_callV (as := [(0, 1)]) (S1 := []) (Nat.le_of_ble_eq_true rfl) (by omega) r6 (Nat.le_of_ble_eq_true rfl) rfl (show ash 0 = (11, 15) from rfl) (Nat.lt_of_lt_of_le (show 0 < 154 by decide) hS.1.1) (Nat.le_of_ble_eq_true rfl) (Nat.le_of_ble_eq_true rfl) rfl ?_
      cases h
      exact y_ret0 (Or.inl rfl) ⟨rfl, rfl, s7⟩
    · rw [if_neg c3] at h
      refine wp_aload_n (v := ((0 : Nat) : Int)) rfl (Int.natCast_nonneg _) ?_
      refine wp_iload_n (v := v2) rfl ?_
      obtain ⟨x8, e9, h⟩ := d_bind h
      refine y_callV (as := [(0, v2)]) (S1 := []) (Nat.le_of_ble_eq_true rfl) (by omega) (t_X11_isCave hS e9) (Nat.le_of_ble_eq_true rfl) rfl (show ash 0 = (11, 15) from rfl) (Nat.lt_of_lt_of_le (show 0 < 154 by decide) hS.1.1) (Nat.le_of_ble_eq_true rfl) (Nat.le_of_ble_eq_true rfl) rfl ?_
      refine y_nez (fun c10 => ?_) (fun c10 => ?_)
      · rw [if_neg c10] at h
        refine y_blk (t := 22) rfl (show fnd bk_X11_echo 22 = some _ from rfl) aB_X11_echo ?_
        refine wp_aload_n (v := ((0 : Nat) : Int)) rfl (Int.natCast_nonneg _) ?_
        refine wp_iconst ⟨by decide, by decide⟩ ?_
        refine wp_aload_n (v := ((0 : Nat) : Int)) rfl (Int.natCast_nonneg _) ?_
        refine y_get (show ash 0 = (11, 15) from rfl) (Nat.lt_of_lt_of_le (show 0 < 154 by decide) hS.1.1) (v := ((39 : Nat) : Int)) (hS.at 0 5 39 (by decide +kernel)) rfl ?_
        refine wp_iload_n (v := v2) rfl ?_
        refine wp_aload_n (v := ((0 : Nat) : Int)) rfl (Int.natCast_nonneg _) ?_
        refine y_get (show ash 0 = (11, 15) from rfl) (Nat.lt_of_lt_of_le (show 0 < 154 by decide) hS.1.1) (v := ((35 : Nat) : Int)) (hS.at 0 4 35 (by decide +kernel)) rfl ?_
        refine y_get (show ash 35 = (8, 5) from rfl) (Nat.lt_of_lt_of_le (show 35 < 154 by decide) hS.1.1) (v := ((36 : Nat) : Int)) (hS.at 35 0 36 (by decide +kernel)) rfl ?_
        refine wp_iload_n (v := v1) rfl ?_
        obtain ⟨c11, h⟩ := d_ite h
        refine y_iald (show ash 36 = (100, 3) from rfl) (Or.inl (Nat.lt_of_lt_of_le (show 36 < 154 by decide) hS.1.1)) (Nat.ne_of_lt (Nat.lt_of_lt_of_le (Nat.lt_of_lt_of_le (show 36 < 154 by decide) hS.1.1) hS.1.2)) c11 (v := M 36 (v1).toNat) rfl ?_
        obtain ⟨x12, e13, h⟩ := d_bind h
        refine y_callV (as := [(0, v2), (0, (M 36 (v1).toNat))]) (S1 := [(0, 2), (2, ((0 : Nat) : Int))]) (Nat.le_of_ble_eq_true rfl) (by omega) (t_X5_span (show isLand 39 by decide) hS e13) (Nat.le_of_ble_eq_true rfl) rfl (show ash 39 = (5, 4) from rfl) (Nat.lt_of_lt_of_le (show 39 < 154 by decide) hS.1.1) (Nat.le_of_ble_eq_true rfl) (Nat.le_of_ble_eq_true rfl) rfl ?_
        obtain ⟨c14, h⟩ := d_ite h
        refine wp_imul c14 ?_
        obtain ⟨x15, e16, h⟩ := d_bind h
        refine y_callS (as := [(0, (2 * x12))]) (S1 := [(2, ((0 : Nat) : Int))]) (Nat.le_of_ble_eq_true rfl) (by omega) (t_X11_orNo hS e16) (Nat.le_of_ble_eq_true rfl) rfl (Nat.le_of_ble_eq_true rfl) (Nat.le_of_ble_eq_true rfl) rfl ?_
        obtain ⟨x17, e18, h⟩ := d_bind h
        obtain ⟨r19, s20⟩ := t_X11_allow hS e18
        refine y_callV (as := [(0, x15)]) (S1 := []) (Nat.le_of_ble_eq_true rfl) (by omega) r19 (Nat.le_of_ble_eq_true rfl) rfl (show ash 0 = (11, 15) from rfl) (Nat.lt_of_lt_of_le (show 0 < 154 by decide) hS.1.1) (Nat.le_of_ble_eq_true rfl) (Nat.le_of_ble_eq_true rfl) rfl ?_
        cases h
        exact y_ret0 (Or.inl rfl) ⟨rfl, rfl, s20⟩
      · rw [if_pos c10] at h
        refine y_blk (t := 16) rfl (show fnd bk_X11_echo 16 = some _ from rfl) aB_X11_echo ?_
        refine wp_aload_n (v := ((0 : Nat) : Int)) rfl (Int.natCast_nonneg _) ?_
        refine wp_iconst ⟨by decide, by decide⟩ ?_
        obtain ⟨x21, e22, h⟩ := d_bind h
        obtain ⟨r23, s24⟩ := t_X11_refuse hS e22
        refine y_callV (as := [(0, 1)]) (S1 := []) (Nat.le_of_ble_eq_true rfl) (by omega) r23 (Nat.le_of_ble_eq_true rfl) rfl (show ash 0 = (11, 15) from rfl) (Nat.lt_of_lt_of_le (show 0 < 154 by decide) hS.1.1) (Nat.le_of_ble_eq_true rfl) (Nat.le_of_ble_eq_true rfl) rfl ?_
        cases h
        exact y_ret0 (Or.inl rfl) ⟨rfl, rfl, s24⟩
  exact ⟨fun d hd => Ms.of3 (key d hd), Ms.sh (key 1 (Nat.le_refl _))⟩
theorem aB_X11_fits : ∀ pc, aB 140 pc = fnd bk_X11_fits pc := fun _ => rfl
def f_X11_fits (T : Nat)  (M : aM) : Option (Int × aM) :=
 (f_X11_hasWell T M).bind fun x1 =>
 if x1 = 0 then
 (f_X11_refuse T 1 M).bind fun x4 =>
 some (x4.1, x4.2) else
 (f_X2_fitting T M).bind fun x8 =>
 (f_X11_allow T x8 M).bind fun x10 =>
 some (x10.1, x10.2)
theorem t_X11_fits {T : T3}  {M : aM} {y : (Int × aM)}  (hS : Sh T.1 M) (h : f_X11_fits T.1  M = some y) : Mr 4 140 [(2, ((0 : Nat) : Int))] M (some (0, y.1)) y.2 T ∧ Sh T.1 y.2 := by
  have key : ∀ d, 4 ≤ d → Wp d 140 0 [] [(2, ((0 : Nat) : Int))] [] (M, T) (fun r2 σ2 => r2 = some (0, y.1) ∧ σ2 = (y.2, T) ∧ Sh T.1 y.2) := by
    intro d hd
    rw [f_X11_fits] at h
    refine y_blk (t := 0) rfl (show fnd bk_X11_fits 0 = some _ from rfl) aB_X11_fits ?_
    refine wp_aload_n (v := ((0 : Nat) : Int)) rfl (Int.natCast_nonneg _) ?_
    obtain ⟨x1, e2, h⟩ := d_bind h
    refine y_callV (as := []) (S1 := []) (Nat.le_of_ble_eq_true rfl) (by omega) (t_X11_hasWell hS e2) (Nat.le_of_ble_eq_true rfl) rfl (show ash 0 = (11, 15) from rfl) (Nat.lt_of_lt_of_le (show 0 < 154 by decide) hS.1.1) (Nat.le_of_ble_eq_true rfl) (Nat.le_of_ble_eq_true rfl) rfl ?_
    refine wp_if_eq (fun c3 => ?_) (fun c3 => ?_)
    · rw [if_pos c3] at h
      refine y_blk (t := 21) rfl (show fnd bk_X11_fits 21 = some _ from rfl) aB_X11_fits ?_
      refine wp_aload_n (v := ((0 : Nat) : Int)) rfl (Int.natCast_nonneg _) ?_
      refine wp_iconst ⟨by decide, by decide⟩ ?_
      obtain ⟨x4, e5, h⟩ := d_bind h
      obtain ⟨r6, s7⟩ := t_X11_refuse hS e5
      refine y_callV (as := [(0, 1)]) (S1 := []) (Nat.le_of_ble_eq_true rfl) (by omega) r6 (Nat.le_of_ble_eq_true rfl) rfl (show ash 0 = (11, 15) from rfl) (Nat.lt_of_lt_of_le (show 0 < 154 by decide) hS.1.1) (Nat.le_of_ble_eq_true rfl) (Nat.le_of_ble_eq_true rfl) rfl ?_
      refine y_blk (t := 26) rfl (show fnd bk_X11_fits 26 = some _ from rfl) aB_X11_fits ?_
      cases h
      exact y_ret0 (Or.inl rfl) ⟨rfl, rfl, s7⟩
    · rw [if_neg c3] at h
      refine wp_aload_n (v := ((0 : Nat) : Int)) rfl (Int.natCast_nonneg _) ?_
      refine wp_aload_n (v := ((0 : Nat) : Int)) rfl (Int.natCast_nonneg _) ?_
      refine y_get (show ash 0 = (11, 15) from rfl) (Nat.lt_of_lt_of_le (show 0 < 154 by decide) hS.1.1) (v := ((52 : Nat) : Int)) (hS.at 0 9 52 (by decide +kernel)) rfl ?_
      obtain ⟨x8, e9, h⟩ := d_bind h
      refine y_callV (as := []) (S1 := [(2, ((0 : Nat) : Int))]) (Nat.le_of_ble_eq_true rfl) (by omega) (t_X2_fitting hS e9) (Nat.le_of_ble_eq_true rfl) rfl (show ash 52 = (2, 2) from rfl) (Nat.lt_of_lt_of_le (show 52 < 154 by decide) hS.1.1) (Nat.le_of_ble_eq_true rfl) (Nat.le_of_ble_eq_true rfl) rfl ?_
      obtain ⟨x10, e11, h⟩ := d_bind h
      obtain ⟨r12, s13⟩ := t_X11_allow hS e11
      refine y_callV (as := [(0, x8)]) (S1 := []) (Nat.le_of_ble_eq_true rfl) (by omega) r12 (Nat.le_of_ble_eq_true rfl) rfl (show ash 0 = (11, 15) from rfl) (Nat.lt_of_lt_of_le (show 0 < 154 by decide) hS.1.1) (Nat.le_of_ble_eq_true rfl) (Nat.le_of_ble_eq_true rfl) rfl ?_
      refine wp_goto ?_
      refine y_blk (t := 26) rfl (show fnd bk_X11_fits 26 = some _ from rfl) aB_X11_fits ?_
      cases h
      exact y_ret0 (Or.inl rfl) ⟨rfl, rfl, s13⟩
  exact ⟨fun d hd => Ms.of3 (key d hd), Ms.sh (key 4 (Nat.le_refl _))⟩
theorem aB_X11_inLowestTerms : ∀ pc, aB 189 pc = fnd bk_X11_inLowestTerms pc := fun _ => rfl
def l_X11_inLowestTerms_32 (T : Nat) (v0 : Int) (v2 : Int) (v4 : Int) (M : aM) (k : Int → Int → Int → Option Int) : Nat → Int → Int → Int → Option Int
| 0, _, _, _ => none
| n + 1, v5, v7, v9 =>
 if 100 ≤ v9 then
 k v5 v7 v9 else
 if (alcmp v7 0) = 0 then
 k v5 v7 v9 else
 if v7 ≠ 0 then
 if aIn (v9 + 1) then
 l_X11_inLowestTerms_32 T v0 v2 v4 M k n v7 (alrem v5 v7) (v9 + 1) else none else none
theorem tl_X11_inLowestTerms_32 {d : Nat} (hd : 0 ≤ d) {T : T3} {v0 : Int} {v2 : Int} {v4 : Int} {M : aM} {k : Int → Int → Int → Option Int} {y : Int}  (hS : Sh T.1 M)
    (hk : ∀ (v5 v7 v9 : Int) (u10 u11 : aV), Sh T.1 M → k v5 v7 v9 = some y → Wp d 189 67 [] [(1, v0), (9, 0), (1, v2), (9, 0), (0, v4), (1, v5), (9, 0), (1, v7), (9, 0), (0, v9), u10, u11] [] (M, T) (fun r2 σ2 => r2 = some (1, y) ∧ σ2 = (M, T))) :
    ∀ (n : Nat) (v5 v7 v9 : Int) (u10 u11 : aV), Sh T.1 M → l_X11_inLowestTerms_32 T.1 v0 v2 v4 M k n v5 v7 v9 = some y → Wp d 189 32 [] [(1, v0), (9, 0), (1, v2), (9, 0), (0, v4), (1, v5), (9, 0), (1, v7), (9, 0), (0, v9), u10, u11] [] (M, T) (fun r2 σ2 => r2 = some (1, y) ∧ σ2 = (M, T)) := by
  intro n
  induction n with
  | zero =>
    intro v5 v7 v9 u10 u11 _ h
    exact nomatch (show (none : Option Int) = some y from h)
  | succ n ih =>
    intro v5 v7 v9 u10 u11 sM h
    rw [l_X11_inLowestTerms_32] at h
    refine y_blk (t := 32) rfl (show fnd bk_X11_inLowestTerms 32 = some _ from rfl) aB_X11_inLowestTerms ?_
    refine wp_iload (v := v9) rfl ?_
    refine wp_bipush (by decide) ?_
    refine wp_icmp_ge (fun c4 => ?_) (fun c4 => ?_)
    · rw [if_pos c4] at h
      exact hk v5 v7 v9 u10 u11  sM h
    · rw [if_neg c4] at h
      refine wp_lload (v := v7) rfl ?_
      refine y_lconst (v := 0) rfl ?_
      refine wp_lcmp ?_
      refine wp_if_eq (fun c5 => ?_) (fun c5 => ?_)
      · rw [if_pos c5] at h
        exact hk v5 v7 v9 u10 u11  sM h
      · rw [if_neg c5] at h
        refine wp_lload (v := v5) rfl ?_
        refine wp_lload (v := v7) rfl ?_
        obtain ⟨c6, h⟩ := d_ite h
        refine wp_lrem c6 ?_
        refine y_lst (L1 := [(1, v0), (9, 0), (1, v2), (9, 0), (0, v4), (1, v5), (9, 0), (1, v7), (9, 0), (0, v9), (1, (alrem v5 v7)), (9, 0)]) (Nat.le_of_ble_eq_true rfl) rfl ?_
        refine wp_lload (v := v7) rfl ?_
        refine y_lst (L1 := [(1, v0), (9, 0), (1, v2), (9, 0), (0, v4), (1, v7), (9, 0), (1, v7), (9, 0), (0, v9), (1, (alrem v5 v7)), (9, 0)]) (Nat.le_of_ble_eq_true rfl) rfl ?_
        refine wp_lload (v := (alrem v5 v7)) rfl ?_
        refine y_lst (L1 := [(1, v0), (9, 0), (1, v2), (9, 0), (0, v4), (1, v7), (9, 0), (1, (alrem v5 v7)), (9, 0), (0, v9), (1, (alrem v5 v7)), (9, 0)]) (Nat.le_of_ble_eq_true rfl) rfl ?_
        obtain ⟨c7, h⟩ := d_ite h
        refine y_iinc (L1 := [(1, v0), (9, 0), (1, v2), (9, 0), (0, v4), (1, v7), (9, 0), (1, (alrem v5 v7)), (9, 0), (0, (v9 + 1)), (1, (alrem v5 v7)), (9, 0)]) rfl (Nat.le_of_ble_eq_true rfl) ⟨by decide, by decide⟩ c7 rfl ?_
        refine wp_goto ?_
        exact ih v7 (alrem v5 v7) (v9 + 1) (1, (alrem v5 v7)) (9, 0)  sM h
def f_X11_inLowestTerms (T : Nat) (v0 : Int) (v2 : Int) (v4 : Int) (M : aM) : Option Int :=
 if (alcmp v0 0) ≤ 0 then
 if v4 = 0 then
 some 0 else
 some 1 else
 if 0 < (alcmp v2 0) then
 l_X11_inLowestTerms_32 T v0 v2 v4 M (fun w8 w9 w10 =>
 if (alcmp w8 0) = 0 then
 some (-1) else
 if v4 = 0 then
 if w8 ≠ 0 then
 some (aldiv v0 w8) else none else
 if w8 ≠ 0 then
 some (aldiv v2 w8) else none) FU v0 v2 0 else
 if v4 = 0 then
 some 0 else
 some 1
theorem t_X11_inLowestTerms {T : T3} {v0 : Int} {v2 : Int} {v4 : Int} {M : aM} {y : Int}  (hS : Sh T.1 M) (h : f_X11_inLowestTerms T.1 v0 v2 v4 M = some y) : Mr 0 189 [(1, v0), (1, v2), (0, v4)] M (some (1, y)) M T := by
  have key : ∀ d, 0 ≤ d → Wp d 189 0 [] [(1, v0), (9, 0), (1, v2), (9, 0), (0, v4), (9, 0), (9, 0), (9, 0), (9, 0), (9, 0), (9, 0), (9, 0)] [] (M, T) (fun r2 σ2 => r2 = some (1, y) ∧ σ2 = (M, T)) := by
    intro d hd
    rw [f_X11_inLowestTerms] at h
    refine y_blk (t := 0) rfl (show fnd bk_X11_inLowestTerms 0 = some _ from rfl) aB_X11_inLowestTerms ?_
    refine wp_lload_n (v := v0) rfl ?_
    refine y_lconst (v := 0) rfl ?_
    refine wp_lcmp ?_
    refine wp_if_le (fun c1 => ?_) (fun c1 => ?_)
    · rw [if_pos c1] at h
      refine y_blk (t := 12) rfl (show fnd bk_X11_inLowestTerms 12 = some _ from rfl) aB_X11_inLowestTerms ?_
      refine wp_iload (v := v4) rfl ?_
      refine wp_if_eq (fun c2 => ?_) (fun c2 => ?_)
      · rw [if_pos c2] at h
        refine y_blk (t := 21) rfl (show fnd bk_X11_inLowestTerms 21 = some _ from rfl) aB_X11_inLowestTerms ?_
        refine y_lconst (v := 0) rfl ?_
        refine y_blk (t := 22) rfl (show fnd bk_X11_inLowestTerms 22 = some _ from rfl) aB_X11_inLowestTerms ?_
        cases h
        exact wp_lreturn ⟨rfl, rfl⟩
      · rw [if_neg c2] at h
        refine y_lconst (v := 1) rfl ?_
        refine wp_goto ?_
        refine y_blk (t := 22) rfl (show fnd bk_X11_inLowestTerms 22 = some _ from rfl) aB_X11_inLowestTerms ?_
        cases h
        exact wp_lreturn ⟨rfl, rfl⟩
    · rw [if_neg c1] at h
      refine wp_lload_n (v := v2) rfl ?_
      refine y_lconst (v := 0) rfl ?_
      refine wp_lcmp ?_
      refine wp_if_gt (fun c3 => ?_) (fun c3 => ?_)
      · rw [if_pos c3] at h
        refine y_blk (t := 23) rfl (show fnd bk_X11_inLowestTerms 23 = some _ from rfl) aB_X11_inLowestTerms ?_
        refine wp_lload_n (v := v0) rfl ?_
        refine y_lst (L1 := [(1, v0), (9, 0), (1, v2), (9, 0), (0, v4), (1, v0), (9, 0), (9, 0), (9, 0), (9, 0), (9, 0), (9, 0)]) (Nat.le_of_ble_eq_true rfl) rfl ?_
        refine wp_lload_n (v := v2) rfl ?_
        refine y_lst (L1 := [(1, v0), (9, 0), (1, v2), (9, 0), (0, v4), (1, v0), (9, 0), (1, v2), (9, 0), (9, 0), (9, 0), (9, 0)]) (Nat.le_of_ble_eq_true rfl) rfl ?_
        refine wp_iconst ⟨by decide, by decide⟩ ?_
        refine y_st (L1 := [(1, v0), (9, 0), (1, v2), (9, 0), (0, v4), (1, v0), (9, 0), (1, v2), (9, 0), (0, 0), (9, 0), (9, 0)]) (Nat.le_of_ble_eq_true rfl) rfl ?_
        refine tl_X11_inLowestTerms_32 (by omega) hS (fun w8 w9 w10 u11 u12  s13 h => ?_) FU v0 v2 0 (9, 0) (9, 0)  hS h
        refine y_blk (t := 67) rfl (show fnd bk_X11_inLowestTerms 67 = some _ from rfl) aB_X11_inLowestTerms ?_
        refine wp_lload (v := w8) rfl ?_
        refine y_lconst (v := 0) rfl ?_
        refine wp_lcmp ?_
        refine y_nez (fun c14 => ?_) (fun c14 => ?_)
        · rw [if_neg c14] at h
          refine y_blk (t := 78) rfl (show fnd bk_X11_inLowestTerms 78 = some _ from rfl) aB_X11_inLowestTerms ?_
          refine wp_iload (v := v4) rfl ?_
          refine wp_if_eq (fun c15 => ?_) (fun c15 => ?_)
          · rw [if_pos c15] at h
            refine y_blk (t := 87) rfl (show fnd bk_X11_inLowestTerms 87 = some _ from rfl) aB_X11_inLowestTerms ?_
            refine wp_lload_n (v := v0) rfl ?_
            refine y_blk (t := 88) rfl (show fnd bk_X11_inLowestTerms 88 = some _ from rfl) aB_X11_inLowestTerms ?_
            refine wp_lload (v := w8) rfl ?_
            obtain ⟨c16, h⟩ := d_ite h
            refine wp_ldiv c16 ?_
            cases h
            exact wp_lreturn ⟨rfl, rfl⟩
          · rw [if_neg c15] at h
            refine wp_lload_n (v := v2) rfl ?_
            refine wp_goto ?_
            refine y_blk (t := 88) rfl (show fnd bk_X11_inLowestTerms 88 = some _ from rfl) aB_X11_inLowestTerms ?_
            refine wp_lload (v := w8) rfl ?_
            obtain ⟨c17, h⟩ := d_ite h
            refine wp_ldiv c17 ?_
            cases h
            exact wp_lreturn ⟨rfl, rfl⟩
        · rw [if_pos c14] at h
          refine y_ldc2n (v := -1) (by decide) rfl ?_
          cases h
          exact wp_lreturn ⟨rfl, rfl⟩
      · rw [if_neg c3] at h
        refine y_blk (t := 12) rfl (show fnd bk_X11_inLowestTerms 12 = some _ from rfl) aB_X11_inLowestTerms ?_
        refine wp_iload (v := v4) rfl ?_
        refine wp_if_eq (fun c18 => ?_) (fun c18 => ?_)
        · rw [if_pos c18] at h
          refine y_blk (t := 21) rfl (show fnd bk_X11_inLowestTerms 21 = some _ from rfl) aB_X11_inLowestTerms ?_
          refine y_lconst (v := 0) rfl ?_
          refine y_blk (t := 22) rfl (show fnd bk_X11_inLowestTerms 22 = some _ from rfl) aB_X11_inLowestTerms ?_
          cases h
          exact wp_lreturn ⟨rfl, rfl⟩
        · rw [if_neg c18] at h
          refine y_lconst (v := 1) rfl ?_
          refine wp_goto ?_
          refine y_blk (t := 22) rfl (show fnd bk_X11_inLowestTerms 22 = some _ from rfl) aB_X11_inLowestTerms ?_
          cases h
          exact wp_lreturn ⟨rfl, rfl⟩
  exact fun d hd => Ms.of (key d hd)
theorem aB_X11_odds : ∀ pc, aB 141 pc = fnd bk_X11_odds pc := fun _ => rfl
def f_X11_odds (T : Nat) (v1 : Int) (v2 : Int) (M : aM) : Option (Int × aM) :=
 (f_X11_isCave T v1 M).bind fun x1 =>
 if x1 = 0 then
 (f_X11_refuse T 1 M).bind fun x12 =>
 some (x12.1, x12.2) else
 (some (aup M 0 14 0)).bind fun m4 =>
 (f_X2_weightOf T v1 m4).bind fun x6 =>
 (f_X2_allWeights T m4).bind fun x8 =>
 (f_X11_inLowestTerms T x6 x8 v2 m4).bind fun x10 =>
 some (x10, m4)
theorem t_X11_odds {T : T3} {v1 : Int} {v2 : Int} {M : aM} {y : (Int × aM)}  (hS : Sh T.1 M) (h : f_X11_odds T.1 v1 v2 M = some y) : Mr 4 141 [(2, ((0 : Nat) : Int)), (0, v1), (0, v2)] M (some (1, y.1)) y.2 T ∧ Sh T.1 y.2 := by
  have key : ∀ d, 4 ≤ d → Wp d 141 0 [] [(2, ((0 : Nat) : Int)), (0, v1), (0, v2)] [] (M, T) (fun r2 σ2 => r2 = some (1, y.1) ∧ σ2 = (y.2, T) ∧ Sh T.1 y.2) := by
    intro d hd
    rw [f_X11_odds] at h
    refine y_blk (t := 0) rfl (show fnd bk_X11_odds 0 = some _ from rfl) aB_X11_odds ?_
    refine wp_aload_n (v := ((0 : Nat) : Int)) rfl (Int.natCast_nonneg _) ?_
    refine wp_iload_n (v := v1) rfl ?_
    obtain ⟨x1, e2, h⟩ := d_bind h
    refine y_callV (as := [(0, v1)]) (S1 := []) (Nat.le_of_ble_eq_true rfl) (by omega) (t_X11_isCave hS e2) (Nat.le_of_ble_eq_true rfl) rfl (show ash 0 = (11, 15) from rfl) (Nat.lt_of_lt_of_le (show 0 < 154 by decide) hS.1.1) (Nat.le_of_ble_eq_true rfl) (Nat.le_of_ble_eq_true rfl) rfl ?_
    refine y_nez (fun c3 => ?_) (fun c3 => ?_)
    · rw [if_neg c3] at h
      refine y_blk (t := 15) rfl (show fnd bk_X11_odds 15 = some _ from rfl) aB_X11_odds ?_
      refine wp_aload_n (v := ((0 : Nat) : Int)) rfl (Int.natCast_nonneg _) ?_
      refine wp_iconst ⟨by decide, by decide⟩ ?_
      refine y_put (show ash 0 = (11, 15) from rfl) (Nat.lt_of_lt_of_le (show 0 < 154 by decide) hS.1.1) rfl ?_
      obtain ⟨m4, em4, h⟩ := d_bind h
      have em4 := Option.some.inj em4
      have s5 : Sh T.1 m4 := em4 ▸ hS.up (Or.inr ⟨by rw [(show ash 0 = (11, 15) from rfl)]; decide, by rw [(show ash 0 = (11, 15) from rfl)]; decide⟩) (by have := (Nat.lt_of_lt_of_le (show 0 < 154 by decide) hS.1.1); have := hS.1.2; omega)
      rw [em4]
      refine wp_aload_n (v := ((0 : Nat) : Int)) rfl (Int.natCast_nonneg _) ?_
      refine y_get (show ash 0 = (11, 15) from rfl) (Nat.lt_of_lt_of_le (show 0 < 154 by decide) hS.1.1) (v := ((52 : Nat) : Int)) (s5.at 0 9 52 (by decide +kernel)) rfl ?_
      refine wp_iload_n (v := v1) rfl ?_
      obtain ⟨x6, e7, h⟩ := d_bind h
      refine y_callV (as := [(0, v1)]) (S1 := []) (Nat.le_of_ble_eq_true rfl) (by omega) (t_X2_weightOf s5 e7) (Nat.le_of_ble_eq_true rfl) rfl (show ash 52 = (2, 2) from rfl) (Nat.lt_of_lt_of_le (show 52 < 154 by decide) hS.1.1) (Nat.le_of_ble_eq_true rfl) (Nat.le_of_ble_eq_true rfl) rfl ?_
      refine wp_aload_n (v := ((0 : Nat) : Int)) rfl (Int.natCast_nonneg _) ?_
      refine y_get (show ash 0 = (11, 15) from rfl) (Nat.lt_of_lt_of_le (show 0 < 154 by decide) hS.1.1) (v := ((52 : Nat) : Int)) (s5.at 0 9 52 (by decide +kernel)) rfl ?_
      obtain ⟨x8, e9, h⟩ := d_bind h
      refine y_callV (as := []) (S1 := [(1, x6)]) (Nat.le_of_ble_eq_true rfl) (by omega) (t_X2_allWeights s5 e9) (Nat.le_of_ble_eq_true rfl) rfl (show ash 52 = (2, 2) from rfl) (Nat.lt_of_lt_of_le (show 52 < 154 by decide) hS.1.1) (Nat.le_of_ble_eq_true rfl) (Nat.le_of_ble_eq_true rfl) rfl ?_
      refine wp_iload_n (v := v2) rfl ?_
      obtain ⟨x10, e11, h⟩ := d_bind h
      refine y_callS (as := [(1, x6), (1, x8), (0, v2)]) (S1 := []) (Nat.le_of_ble_eq_true rfl) (by omega) (t_X11_inLowestTerms s5 e11) (Nat.le_of_ble_eq_true rfl) rfl (Nat.le_of_ble_eq_true rfl) (Nat.le_of_ble_eq_true rfl) rfl ?_
      cases h
      exact wp_lreturn ⟨rfl, rfl, s5⟩
    · rw [if_pos c3] at h
      refine wp_aload_n (v := ((0 : Nat) : Int)) rfl (Int.natCast_nonneg _) ?_
      refine wp_iconst ⟨by decide, by decide⟩ ?_
      obtain ⟨x12, e13, h⟩ := d_bind h
      obtain ⟨r14, s15⟩ := t_X11_refuse hS e13
      refine y_callV (as := [(0, 1)]) (S1 := []) (Nat.le_of_ble_eq_true rfl) (by omega) r14 (Nat.le_of_ble_eq_true rfl) rfl (show ash 0 = (11, 15) from rfl) (Nat.lt_of_lt_of_le (show 0 < 154 by decide) hS.1.1) (Nat.le_of_ble_eq_true rfl) (Nat.le_of_ble_eq_true rfl) rfl ?_
      refine wp_i2l ?_
      cases h
      exact wp_lreturn ⟨rfl, rfl, s15⟩
  exact ⟨fun d hd => Ms.of3 (key d hd), Ms.sh (key 4 (Nat.le_refl _))⟩
theorem aB_X11_likeliest : ∀ pc, aB 142 pc = fnd bk_X11_likeliest pc := fun _ => rfl
def f_X11_likeliest (T : Nat)  (M : aM) : Option (Int × aM) :=
 (f_X11_hasWell T M).bind fun x1 =>
 if x1 = 0 then
 (f_X11_refuse T 1 M).bind fun x4 =>
 some (x4.1, x4.2) else
 (f_X2_heaviest T M).bind fun x8 =>
 (f_X11_allow T x8 M).bind fun x10 =>
 some (x10.1, x10.2)
theorem t_X11_likeliest {T : T3}  {M : aM} {y : (Int × aM)}  (hS : Sh T.1 M) (h : f_X11_likeliest T.1  M = some y) : Mr 4 142 [(2, ((0 : Nat) : Int))] M (some (0, y.1)) y.2 T ∧ Sh T.1 y.2 := by
  have key : ∀ d, 4 ≤ d → Wp d 142 0 [] [(2, ((0 : Nat) : Int))] [] (M, T) (fun r2 σ2 => r2 = some (0, y.1) ∧ σ2 = (y.2, T) ∧ Sh T.1 y.2) := by
    intro d hd
    rw [f_X11_likeliest] at h
    refine y_blk (t := 0) rfl (show fnd bk_X11_likeliest 0 = some _ from rfl) aB_X11_likeliest ?_
    refine wp_aload_n (v := ((0 : Nat) : Int)) rfl (Int.natCast_nonneg _) ?_
    obtain ⟨x1, e2, h⟩ := d_bind h
    refine y_callV (as := []) (S1 := []) (Nat.le_of_ble_eq_true rfl) (by omega) (t_X11_hasWell hS e2) (Nat.le_of_ble_eq_true rfl) rfl (show ash 0 = (11, 15) from rfl) (Nat.lt_of_lt_of_le (show 0 < 154 by decide) hS.1.1) (Nat.le_of_ble_eq_true rfl) (Nat.le_of_ble_eq_true rfl) rfl ?_
    refine wp_if_eq (fun c3 => ?_) (fun c3 => ?_)
    · rw [if_pos c3] at h
      refine y_blk (t := 21) rfl (show fnd bk_X11_likeliest 21 = some _ from rfl) aB_X11_likeliest ?_
      refine wp_aload_n (v := ((0 : Nat) : Int)) rfl (Int.natCast_nonneg _) ?_
      refine wp_iconst ⟨by decide, by decide⟩ ?_
      obtain ⟨x4, e5, h⟩ := d_bind h
      obtain ⟨r6, s7⟩ := t_X11_refuse hS e5
      refine y_callV (as := [(0, 1)]) (S1 := []) (Nat.le_of_ble_eq_true rfl) (by omega) r6 (Nat.le_of_ble_eq_true rfl) rfl (show ash 0 = (11, 15) from rfl) (Nat.lt_of_lt_of_le (show 0 < 154 by decide) hS.1.1) (Nat.le_of_ble_eq_true rfl) (Nat.le_of_ble_eq_true rfl) rfl ?_
      refine y_blk (t := 26) rfl (show fnd bk_X11_likeliest 26 = some _ from rfl) aB_X11_likeliest ?_
      cases h
      exact y_ret0 (Or.inl rfl) ⟨rfl, rfl, s7⟩
    · rw [if_neg c3] at h
      refine wp_aload_n (v := ((0 : Nat) : Int)) rfl (Int.natCast_nonneg _) ?_
      refine wp_aload_n (v := ((0 : Nat) : Int)) rfl (Int.natCast_nonneg _) ?_
      refine y_get (show ash 0 = (11, 15) from rfl) (Nat.lt_of_lt_of_le (show 0 < 154 by decide) hS.1.1) (v := ((52 : Nat) : Int)) (hS.at 0 9 52 (by decide +kernel)) rfl ?_
      obtain ⟨x8, e9, h⟩ := d_bind h
      refine y_callV (as := []) (S1 := [(2, ((0 : Nat) : Int))]) (Nat.le_of_ble_eq_true rfl) (by omega) (t_X2_heaviest hS e9) (Nat.le_of_ble_eq_true rfl) rfl (show ash 52 = (2, 2) from rfl) (Nat.lt_of_lt_of_le (show 52 < 154 by decide) hS.1.1) (Nat.le_of_ble_eq_true rfl) (Nat.le_of_ble_eq_true rfl) rfl ?_
      obtain ⟨x10, e11, h⟩ := d_bind h
      obtain ⟨r12, s13⟩ := t_X11_allow hS e11
      refine y_callV (as := [(0, x8)]) (S1 := []) (Nat.le_of_ble_eq_true rfl) (by omega) r12 (Nat.le_of_ble_eq_true rfl) rfl (show ash 0 = (11, 15) from rfl) (Nat.lt_of_lt_of_le (show 0 < 154 by decide) hS.1.1) (Nat.le_of_ble_eq_true rfl) (Nat.le_of_ble_eq_true rfl) rfl ?_
      refine wp_goto ?_
      refine y_blk (t := 26) rfl (show fnd bk_X11_likeliest 26 = some _ from rfl) aB_X11_likeliest ?_
      cases h
      exact y_ret0 (Or.inl rfl) ⟨rfl, rfl, s13⟩
  exact ⟨fun d hd => Ms.of3 (key d hd), Ms.sh (key 4 (Nat.le_refl _))⟩
theorem aB_X11_stone : ∀ pc, aB 143 pc = fnd bk_X11_stone pc := fun _ => rfl
def f_X11_stone (T : Nat)  (M : aM) : Option (Int × aM) :=
 (f_X11_hasWell T M).bind fun x1 =>
 if x1 = 0 then
 (f_X11_refuse T 1 M).bind fun x4 =>
 some (x4.1, x4.2) else
 (f_X2_bestStone T M).bind fun x8 =>
 (f_X11_allow T x8 M).bind fun x10 =>
 some (x10.1, x10.2)
theorem t_X11_stone {T : T3}  {M : aM} {y : (Int × aM)}  (hS : Sh T.1 M) (h : f_X11_stone T.1  M = some y) : Mr 5 143 [(2, ((0 : Nat) : Int))] M (some (0, y.1)) y.2 T ∧ Sh T.1 y.2 := by
  have key : ∀ d, 5 ≤ d → Wp d 143 0 [] [(2, ((0 : Nat) : Int))] [] (M, T) (fun r2 σ2 => r2 = some (0, y.1) ∧ σ2 = (y.2, T) ∧ Sh T.1 y.2) := by
    intro d hd
    rw [f_X11_stone] at h
    refine y_blk (t := 0) rfl (show fnd bk_X11_stone 0 = some _ from rfl) aB_X11_stone ?_
    refine wp_aload_n (v := ((0 : Nat) : Int)) rfl (Int.natCast_nonneg _) ?_
    obtain ⟨x1, e2, h⟩ := d_bind h
    refine y_callV (as := []) (S1 := []) (Nat.le_of_ble_eq_true rfl) (by omega) (t_X11_hasWell hS e2) (Nat.le_of_ble_eq_true rfl) rfl (show ash 0 = (11, 15) from rfl) (Nat.lt_of_lt_of_le (show 0 < 154 by decide) hS.1.1) (Nat.le_of_ble_eq_true rfl) (Nat.le_of_ble_eq_true rfl) rfl ?_
    refine wp_if_eq (fun c3 => ?_) (fun c3 => ?_)
    · rw [if_pos c3] at h
      refine y_blk (t := 21) rfl (show fnd bk_X11_stone 21 = some _ from rfl) aB_X11_stone ?_
      refine wp_aload_n (v := ((0 : Nat) : Int)) rfl (Int.natCast_nonneg _) ?_
      refine wp_iconst ⟨by decide, by decide⟩ ?_
      obtain ⟨x4, e5, h⟩ := d_bind h
      obtain ⟨r6, s7⟩ := t_X11_refuse hS e5
      refine y_callV (as := [(0, 1)]) (S1 := []) (Nat.le_of_ble_eq_true rfl) (by omega) r6 (Nat.le_of_ble_eq_true rfl) rfl (show ash 0 = (11, 15) from rfl) (Nat.lt_of_lt_of_le (show 0 < 154 by decide) hS.1.1) (Nat.le_of_ble_eq_true rfl) (Nat.le_of_ble_eq_true rfl) rfl ?_
      refine y_blk (t := 26) rfl (show fnd bk_X11_stone 26 = some _ from rfl) aB_X11_stone ?_
      cases h
      exact y_ret0 (Or.inl rfl) ⟨rfl, rfl, s7⟩
    · rw [if_neg c3] at h
      refine wp_aload_n (v := ((0 : Nat) : Int)) rfl (Int.natCast_nonneg _) ?_
      refine wp_aload_n (v := ((0 : Nat) : Int)) rfl (Int.natCast_nonneg _) ?_
      refine y_get (show ash 0 = (11, 15) from rfl) (Nat.lt_of_lt_of_le (show 0 < 154 by decide) hS.1.1) (v := ((52 : Nat) : Int)) (hS.at 0 9 52 (by decide +kernel)) rfl ?_
      obtain ⟨x8, e9, h⟩ := d_bind h
      refine y_callV (as := []) (S1 := [(2, ((0 : Nat) : Int))]) (Nat.le_of_ble_eq_true rfl) (by omega) (t_X2_bestStone hS e9) (Nat.le_of_ble_eq_true rfl) rfl (show ash 52 = (2, 2) from rfl) (Nat.lt_of_lt_of_le (show 52 < 154 by decide) hS.1.1) (Nat.le_of_ble_eq_true rfl) (Nat.le_of_ble_eq_true rfl) rfl ?_
      obtain ⟨x10, e11, h⟩ := d_bind h
      obtain ⟨r12, s13⟩ := t_X11_allow hS e11
      refine y_callV (as := [(0, x8)]) (S1 := []) (Nat.le_of_ble_eq_true rfl) (by omega) r12 (Nat.le_of_ble_eq_true rfl) rfl (show ash 0 = (11, 15) from rfl) (Nat.lt_of_lt_of_le (show 0 < 154 by decide) hS.1.1) (Nat.le_of_ble_eq_true rfl) (Nat.le_of_ble_eq_true rfl) rfl ?_
      refine wp_goto ?_
      refine y_blk (t := 26) rfl (show fnd bk_X11_stone 26 = some _ from rfl) aB_X11_stone ?_
      cases h
      exact y_ret0 (Or.inl rfl) ⟨rfl, rfl, s13⟩
  exact ⟨fun d hd => Ms.of3 (key d hd), Ms.sh (key 5 (Nat.le_refl _))⟩
theorem aB_X11_stoneLeaves : ∀ pc, aB 144 pc = fnd bk_X11_stoneLeaves pc := fun _ => rfl
def f_X11_stoneLeaves (T : Nat)  (M : aM) : Option (Int × aM) :=
 (f_X11_hasWell T M).bind fun x1 =>
 if x1 = 0 then
 (f_X11_refuse T 1 M).bind fun x19 =>
 some (x19.1, x19.2) else
 (f_X2_bestStone T M).bind fun x4 =>
 if x4 = (-2) then
 (f_X11_allow T (-2) M).bind fun x15 =>
 some (x15.1, x15.2) else
 (f_X2_fitting T M).bind fun x7 =>
 (f_X2_leftBy T x4 x7 M).bind fun x9 =>
 (f_X11_allow T x9 M).bind fun x11 =>
 some (x11.1, x11.2)
theorem t_X11_stoneLeaves {T : T3}  {M : aM} {y : (Int × aM)}  (hS : Sh T.1 M) (h : f_X11_stoneLeaves T.1  M = some y) : Mr 5 144 [(2, ((0 : Nat) : Int))] M (some (0, y.1)) y.2 T ∧ Sh T.1 y.2 := by
  have key : ∀ d, 5 ≤ d → Wp d 144 0 [] [(2, ((0 : Nat) : Int)), (9, 0)] [] (M, T) (fun r2 σ2 => r2 = some (0, y.1) ∧ σ2 = (y.2, T) ∧ Sh T.1 y.2) := by
    intro d hd
    rw [f_X11_stoneLeaves] at h
    refine y_blk (t := 0) rfl (show fnd bk_X11_stoneLeaves 0 = some _ from rfl) aB_X11_stoneLeaves ?_
    refine wp_aload_n (v := ((0 : Nat) : Int)) rfl (Int.natCast_nonneg _) ?_
    obtain ⟨x1, e2, h⟩ := d_bind h
    refine y_callV (as := []) (S1 := []) (Nat.le_of_ble_eq_true rfl) (by omega) (t_X11_hasWell hS e2) (Nat.le_of_ble_eq_true rfl) rfl (show ash 0 = (11, 15) from rfl) (Nat.lt_of_lt_of_le (show 0 < 154 by decide) hS.1.1) (Nat.le_of_ble_eq_true rfl) (Nat.le_of_ble_eq_true rfl) rfl ?_
    refine y_nez (fun c3 => ?_) (fun c3 => ?_)
    · rw [if_neg c3] at h
      refine y_blk (t := 13) rfl (show fnd bk_X11_stoneLeaves 13 = some _ from rfl) aB_X11_stoneLeaves ?_
      refine wp_aload_n (v := ((0 : Nat) : Int)) rfl (Int.natCast_nonneg _) ?_
      refine y_get (show ash 0 = (11, 15) from rfl) (Nat.lt_of_lt_of_le (show 0 < 154 by decide) hS.1.1) (v := ((52 : Nat) : Int)) (hS.at 0 9 52 (by decide +kernel)) rfl ?_
      obtain ⟨x4, e5, h⟩ := d_bind h
      refine y_callV (as := []) (S1 := []) (Nat.le_of_ble_eq_true rfl) (by omega) (t_X2_bestStone hS e5) (Nat.le_of_ble_eq_true rfl) rfl (show ash 52 = (2, 2) from rfl) (Nat.lt_of_lt_of_le (show 52 < 154 by decide) hS.1.1) (Nat.le_of_ble_eq_true rfl) (Nat.le_of_ble_eq_true rfl) rfl ?_
      refine y_stn (L1 := [(2, ((0 : Nat) : Int)), (0, x4)]) (Nat.le_of_ble_eq_true rfl) rfl ?_
      refine wp_aload_n (v := ((0 : Nat) : Int)) rfl (Int.natCast_nonneg _) ?_
      refine wp_iload_n (v := x4) rfl ?_
      refine wp_bipush (by decide) ?_
      refine y_ne (fun c6 => ?_) (fun c6 => ?_)
      · rw [if_neg c6] at h
        refine y_blk (t := 33) rfl (show fnd bk_X11_stoneLeaves 33 = some _ from rfl) aB_X11_stoneLeaves ?_
        refine wp_aload_n (v := ((0 : Nat) : Int)) rfl (Int.natCast_nonneg _) ?_
        refine y_get (show ash 0 = (11, 15) from rfl) (Nat.lt_of_lt_of_le (show 0 < 154 by decide) hS.1.1) (v := ((52 : Nat) : Int)) (hS.at 0 9 52 (by decide +kernel)) rfl ?_
        refine wp_iload_n (v := x4) rfl ?_
        refine wp_aload_n (v := ((0 : Nat) : Int)) rfl (Int.natCast_nonneg _) ?_
        refine y_get (show ash 0 = (11, 15) from rfl) (Nat.lt_of_lt_of_le (show 0 < 154 by decide) hS.1.1) (v := ((52 : Nat) : Int)) (hS.at 0 9 52 (by decide +kernel)) rfl ?_
        obtain ⟨x7, e8, h⟩ := d_bind h
        refine y_callV (as := []) (S1 := [(0, x4), (2, ((52 : Nat) : Int)), (2, ((0 : Nat) : Int))]) (Nat.le_of_ble_eq_true rfl) (by omega) (t_X2_fitting hS e8) (Nat.le_of_ble_eq_true rfl) rfl (show ash 52 = (2, 2) from rfl) (Nat.lt_of_lt_of_le (show 52 < 154 by decide) hS.1.1) (Nat.le_of_ble_eq_true rfl) (Nat.le_of_ble_eq_true rfl) rfl ?_
        obtain ⟨x9, e10, h⟩ := d_bind h
        refine y_callV (as := [(0, x4), (0, x7)]) (S1 := [(2, ((0 : Nat) : Int))]) (Nat.le_of_ble_eq_true rfl) (by omega) (t_X2_leftBy hS e10) (Nat.le_of_ble_eq_true rfl) rfl (show ash 52 = (2, 2) from rfl) (Nat.lt_of_lt_of_le (show 52 < 154 by decide) hS.1.1) (Nat.le_of_ble_eq_true rfl) (Nat.le_of_ble_eq_true rfl) rfl ?_
        refine y_blk (t := 48) rfl (show fnd bk_X11_stoneLeaves 48 = some _ from rfl) aB_X11_stoneLeaves ?_
        obtain ⟨x11, e12, h⟩ := d_bind h
        obtain ⟨r13, s14⟩ := t_X11_allow hS e12
        refine y_callV (as := [(0, x9)]) (S1 := []) (Nat.le_of_ble_eq_true rfl) (by omega) r13 (Nat.le_of_ble_eq_true rfl) rfl (show ash 0 = (11, 15) from rfl) (Nat.lt_of_lt_of_le (show 0 < 154 by decide) hS.1.1) (Nat.le_of_ble_eq_true rfl) (Nat.le_of_ble_eq_true rfl) rfl ?_
        cases h
        exact y_ret0 (Or.inl rfl) ⟨rfl, rfl, s14⟩
      · rw [if_pos c6] at h
        refine wp_bipush (by decide) ?_
        refine wp_goto ?_
        refine y_blk (t := 48) rfl (show fnd bk_X11_stoneLeaves 48 = some _ from rfl) aB_X11_stoneLeaves ?_
        obtain ⟨x15, e16, h⟩ := d_bind h
        obtain ⟨r17, s18⟩ := t_X11_allow hS e16
        refine y_callV (as := [(0, (-2))]) (S1 := []) (Nat.le_of_ble_eq_true rfl) (by omega) r17 (Nat.le_of_ble_eq_true rfl) rfl (show ash 0 = (11, 15) from rfl) (Nat.lt_of_lt_of_le (show 0 < 154 by decide) hS.1.1) (Nat.le_of_ble_eq_true rfl) (Nat.le_of_ble_eq_true rfl) rfl ?_
        cases h
        exact y_ret0 (Or.inl rfl) ⟨rfl, rfl, s18⟩
    · rw [if_pos c3] at h
      refine wp_aload_n (v := ((0 : Nat) : Int)) rfl (Int.natCast_nonneg _) ?_
      refine wp_iconst ⟨by decide, by decide⟩ ?_
      obtain ⟨x19, e20, h⟩ := d_bind h
      obtain ⟨r21, s22⟩ := t_X11_refuse hS e20
      refine y_callV (as := [(0, 1)]) (S1 := []) (Nat.le_of_ble_eq_true rfl) (by omega) r21 (Nat.le_of_ble_eq_true rfl) rfl (show ash 0 = (11, 15) from rfl) (Nat.lt_of_lt_of_le (show 0 < 154 by decide) hS.1.1) (Nat.le_of_ble_eq_true rfl) (Nat.le_of_ble_eq_true rfl) rfl ?_
      cases h
      exact y_ret0 (Or.inl rfl) ⟨rfl, rfl, s22⟩
  exact ⟨fun d hd => Ms.of3 (key d hd), Ms.sh (key 5 (Nat.le_refl _))⟩
theorem aB_X11_judge : ∀ pc, aB 145 pc = fnd bk_X11_judge pc := fun _ => rfl
def f_X11_judge (T : Nat)  (M : aM) : Option (Int × aM) :=
 (f_X11_hasWell T M).bind fun x1 =>
 if x1 = 0 then
 (f_X11_refuse T 1 M).bind fun x4 =>
 some (x4.1, x4.2) else
 (f_X2_firstWrongEcho T M).bind fun x8 =>
 (f_X11_allow T x8 M).bind fun x10 =>
 some (x10.1, x10.2)
theorem t_X11_judge {T : T3}  {M : aM} {y : (Int × aM)}  (hS : Sh T.1 M) (h : f_X11_judge T.1  M = some y) : Mr 3 145 [(2, ((0 : Nat) : Int))] M (some (0, y.1)) y.2 T ∧ Sh T.1 y.2 := by
  have key : ∀ d, 3 ≤ d → Wp d 145 0 [] [(2, ((0 : Nat) : Int))] [] (M, T) (fun r2 σ2 => r2 = some (0, y.1) ∧ σ2 = (y.2, T) ∧ Sh T.1 y.2) := by
    intro d hd
    rw [f_X11_judge] at h
    refine y_blk (t := 0) rfl (show fnd bk_X11_judge 0 = some _ from rfl) aB_X11_judge ?_
    refine wp_aload_n (v := ((0 : Nat) : Int)) rfl (Int.natCast_nonneg _) ?_
    obtain ⟨x1, e2, h⟩ := d_bind h
    refine y_callV (as := []) (S1 := []) (Nat.le_of_ble_eq_true rfl) (by omega) (t_X11_hasWell hS e2) (Nat.le_of_ble_eq_true rfl) rfl (show ash 0 = (11, 15) from rfl) (Nat.lt_of_lt_of_le (show 0 < 154 by decide) hS.1.1) (Nat.le_of_ble_eq_true rfl) (Nat.le_of_ble_eq_true rfl) rfl ?_
    refine wp_if_eq (fun c3 => ?_) (fun c3 => ?_)
    · rw [if_pos c3] at h
      refine y_blk (t := 21) rfl (show fnd bk_X11_judge 21 = some _ from rfl) aB_X11_judge ?_
      refine wp_aload_n (v := ((0 : Nat) : Int)) rfl (Int.natCast_nonneg _) ?_
      refine wp_iconst ⟨by decide, by decide⟩ ?_
      obtain ⟨x4, e5, h⟩ := d_bind h
      obtain ⟨r6, s7⟩ := t_X11_refuse hS e5
      refine y_callV (as := [(0, 1)]) (S1 := []) (Nat.le_of_ble_eq_true rfl) (by omega) r6 (Nat.le_of_ble_eq_true rfl) rfl (show ash 0 = (11, 15) from rfl) (Nat.lt_of_lt_of_le (show 0 < 154 by decide) hS.1.1) (Nat.le_of_ble_eq_true rfl) (Nat.le_of_ble_eq_true rfl) rfl ?_
      refine y_blk (t := 26) rfl (show fnd bk_X11_judge 26 = some _ from rfl) aB_X11_judge ?_
      cases h
      exact y_ret0 (Or.inl rfl) ⟨rfl, rfl, s7⟩
    · rw [if_neg c3] at h
      refine wp_aload_n (v := ((0 : Nat) : Int)) rfl (Int.natCast_nonneg _) ?_
      refine wp_aload_n (v := ((0 : Nat) : Int)) rfl (Int.natCast_nonneg _) ?_
      refine y_get (show ash 0 = (11, 15) from rfl) (Nat.lt_of_lt_of_le (show 0 < 154 by decide) hS.1.1) (v := ((52 : Nat) : Int)) (hS.at 0 9 52 (by decide +kernel)) rfl ?_
      obtain ⟨x8, e9, h⟩ := d_bind h
      refine y_callV (as := []) (S1 := [(2, ((0 : Nat) : Int))]) (Nat.le_of_ble_eq_true rfl) (by omega) (t_X2_firstWrongEcho hS e9) (Nat.le_of_ble_eq_true rfl) rfl (show ash 52 = (2, 2) from rfl) (Nat.lt_of_lt_of_le (show 52 < 154 by decide) hS.1.1) (Nat.le_of_ble_eq_true rfl) (Nat.le_of_ble_eq_true rfl) rfl ?_
      obtain ⟨x10, e11, h⟩ := d_bind h
      obtain ⟨r12, s13⟩ := t_X11_allow hS e11
      refine y_callV (as := [(0, x8)]) (S1 := []) (Nat.le_of_ble_eq_true rfl) (by omega) r12 (Nat.le_of_ble_eq_true rfl) rfl (show ash 0 = (11, 15) from rfl) (Nat.lt_of_lt_of_le (show 0 < 154 by decide) hS.1.1) (Nat.le_of_ble_eq_true rfl) (Nat.le_of_ble_eq_true rfl) rfl ?_
      refine wp_goto ?_
      refine y_blk (t := 26) rfl (show fnd bk_X11_judge 26 = some _ from rfl) aB_X11_judge ?_
      cases h
      exact y_ret0 (Or.inl rfl) ⟨rfl, rfl, s13⟩
  exact ⟨fun d hd => Ms.of3 (key d hd), Ms.sh (key 3 (Nat.le_refl _))⟩
theorem aB_X11_nets : ∀ pc, aB 146 pc = fnd bk_X11_nets pc := fun _ => rfl
def f_X11_nets (T : Nat)  (M : aM) : Option (Int × aM) :=
 (f_X11_hasWell T M).bind fun x1 =>
 if x1 = 0 then
 (f_X11_refuse T 1 M).bind fun x4 =>
 some (x4.1, x4.2) else
 (f_X6_fittingSets T M).bind fun x8 =>
 (f_J6_bitCount_0f7a4 T x8.1 x8.2).bind fun x12 =>
 (f_X11_allow T x12 x8.2).bind fun x14 =>
 some (x14.1, x14.2)
theorem t_X11_nets {T : T3}  {M : aM} {y : (Int × aM)}  (hS : Sh T.1 M) (h : f_X11_nets T.1  M = some y) : Mr 5 146 [(2, ((0 : Nat) : Int))] M (some (0, y.1)) y.2 T ∧ Sh T.1 y.2 := by
  have key : ∀ d, 5 ≤ d → Wp d 146 0 [] [(2, ((0 : Nat) : Int))] [] (M, T) (fun r2 σ2 => r2 = some (0, y.1) ∧ σ2 = (y.2, T) ∧ Sh T.1 y.2) := by
    intro d hd
    rw [f_X11_nets] at h
    refine y_blk (t := 0) rfl (show fnd bk_X11_nets 0 = some _ from rfl) aB_X11_nets ?_
    refine wp_aload_n (v := ((0 : Nat) : Int)) rfl (Int.natCast_nonneg _) ?_
    obtain ⟨x1, e2, h⟩ := d_bind h
    refine y_callV (as := []) (S1 := []) (Nat.le_of_ble_eq_true rfl) (by omega) (t_X11_hasWell hS e2) (Nat.le_of_ble_eq_true rfl) rfl (show ash 0 = (11, 15) from rfl) (Nat.lt_of_lt_of_le (show 0 < 154 by decide) hS.1.1) (Nat.le_of_ble_eq_true rfl) (Nat.le_of_ble_eq_true rfl) rfl ?_
    refine wp_if_eq (fun c3 => ?_) (fun c3 => ?_)
    · rw [if_pos c3] at h
      refine y_blk (t := 24) rfl (show fnd bk_X11_nets 24 = some _ from rfl) aB_X11_nets ?_
      refine wp_aload_n (v := ((0 : Nat) : Int)) rfl (Int.natCast_nonneg _) ?_
      refine wp_iconst ⟨by decide, by decide⟩ ?_
      obtain ⟨x4, e5, h⟩ := d_bind h
      obtain ⟨r6, s7⟩ := t_X11_refuse hS e5
      refine y_callV (as := [(0, 1)]) (S1 := []) (Nat.le_of_ble_eq_true rfl) (by omega) r6 (Nat.le_of_ble_eq_true rfl) rfl (show ash 0 = (11, 15) from rfl) (Nat.lt_of_lt_of_le (show 0 < 154 by decide) hS.1.1) (Nat.le_of_ble_eq_true rfl) (Nat.le_of_ble_eq_true rfl) rfl ?_
      refine y_blk (t := 29) rfl (show fnd bk_X11_nets 29 = some _ from rfl) aB_X11_nets ?_
      cases h
      exact y_ret0 (Or.inl rfl) ⟨rfl, rfl, s7⟩
    · rw [if_neg c3] at h
      refine wp_aload_n (v := ((0 : Nat) : Int)) rfl (Int.natCast_nonneg _) ?_
      refine wp_aload_n (v := ((0 : Nat) : Int)) rfl (Int.natCast_nonneg _) ?_
      refine y_get (show ash 0 = (11, 15) from rfl) (Nat.lt_of_lt_of_le (show 0 < 154 by decide) hS.1.1) (v := ((53 : Nat) : Int)) (hS.at 0 10 53 (by decide +kernel)) rfl ?_
      obtain ⟨x8, e9, h⟩ := d_bind h
      obtain ⟨r10, s11⟩ := t_X6_fittingSets hS e9
      refine y_callV (as := []) (S1 := [(2, ((0 : Nat) : Int))]) (Nat.le_of_ble_eq_true rfl) (by omega) r10 (Nat.le_of_ble_eq_true rfl) rfl (show ash 53 = (6, 2) from rfl) (Nat.lt_of_lt_of_le (show 53 < 154 by decide) hS.1.1) (Nat.le_of_ble_eq_true rfl) (Nat.le_of_ble_eq_true rfl) rfl ?_
      obtain ⟨x12, e13, h⟩ := d_bind h
      refine y_callS (as := [(0, x8.1)]) (S1 := [(2, ((0 : Nat) : Int))]) (Nat.le_of_ble_eq_true rfl) (by omega) (t_J6_bitCount_0f7a4 s11 e13) (Nat.le_of_ble_eq_true rfl) rfl (Nat.le_of_ble_eq_true rfl) (Nat.le_of_ble_eq_true rfl) rfl ?_
      obtain ⟨x14, e15, h⟩ := d_bind h
      obtain ⟨r16, s17⟩ := t_X11_allow s11 e15
      refine y_callV (as := [(0, x12)]) (S1 := []) (Nat.le_of_ble_eq_true rfl) (by omega) r16 (Nat.le_of_ble_eq_true rfl) rfl (show ash 0 = (11, 15) from rfl) (Nat.lt_of_lt_of_le (show 0 < 154 by decide) hS.1.1) (Nat.le_of_ble_eq_true rfl) (Nat.le_of_ble_eq_true rfl) rfl ?_
      refine wp_goto ?_
      refine y_blk (t := 29) rfl (show fnd bk_X11_nets 29 = some _ from rfl) aB_X11_nets ?_
      cases h
      exact y_ret0 (Or.inl rfl) ⟨rfl, rfl, s17⟩
  exact ⟨fun d hd => Ms.of3 (key d hd), Ms.sh (key 5 (Nat.le_refl _))⟩
theorem aB_X11_netAt : ∀ pc, aB 147 pc = fnd bk_X11_netAt pc := fun _ => rfl
def f_X11_netAt (T : Nat) (v1 : Int) (M : aM) : Option (Int × aM) :=
 (f_X11_hasWell T M).bind fun x1 =>
 if x1 = 0 then
 (f_X11_refuse T 1 M).bind fun x5 =>
 some (x5.1, x5.2) else
 (f_X6_setAt T v1 M).bind fun x9 =>
 if x9.1 = (-1) then
 (f_X11_refuse T 1 x9.2).bind fun x18 =>
 some (x18.1, x18.2) else
 (f_X11_allow T x9.1 x9.2).bind fun x14 =>
 some (x14.1, x14.2)
theorem t_X11_netAt {T : T3} {v1 : Int} {M : aM} {y : (Int × aM)}  (hS : Sh T.1 M) (h : f_X11_netAt T.1 v1 M = some y) : Mr 6 147 [(2, ((0 : Nat) : Int)), (0, v1)] M (some (0, y.1)) y.2 T ∧ Sh T.1 y.2 := by
  have key : ∀ d, 6 ≤ d → Wp d 147 0 [] [(2, ((0 : Nat) : Int)), (0, v1), (9, 0)] [] (M, T) (fun r2 σ2 => r2 = some (0, y.1) ∧ σ2 = (y.2, T) ∧ Sh T.1 y.2) := by
    intro d hd
    rw [f_X11_netAt] at h
    refine y_blk (t := 0) rfl (show fnd bk_X11_netAt 0 = some _ from rfl) aB_X11_netAt ?_
    refine wp_aload_n (v := ((0 : Nat) : Int)) rfl (Int.natCast_nonneg _) ?_
    obtain ⟨x1, e2, h⟩ := d_bind h
    refine y_callV (as := []) (S1 := []) (Nat.le_of_ble_eq_true rfl) (by omega) (t_X11_hasWell hS e2) (Nat.le_of_ble_eq_true rfl) rfl (show ash 0 = (11, 15) from rfl) (Nat.lt_of_lt_of_le (show 0 < 154 by decide) hS.1.1) (Nat.le_of_ble_eq_true rfl) (Nat.le_of_ble_eq_true rfl) rfl ?_
    refine wp_if_eq (fun c3 => ?_) (fun c3 => ?_)
    · rw [if_pos c3] at h
      refine y_blk (t := 18) rfl (show fnd bk_X11_netAt 18 = some _ from rfl) aB_X11_netAt ?_
      refine wp_iconst ⟨by decide, by decide⟩ ?_
      refine y_blk (t := 19) rfl (show fnd bk_X11_netAt 19 = some _ from rfl) aB_X11_netAt ?_
      refine y_stn (L1 := [(2, ((0 : Nat) : Int)), (0, v1), (0, (-1))]) (Nat.le_of_ble_eq_true rfl) rfl ?_
      refine wp_iload_n (v := (-1)) rfl ?_
      refine wp_iconst ⟨by decide, by decide⟩ ?_
      refine y_ne (fun c4 => ?_) (fun c4 => ?_)
      · exact absurd (by decide) c4
      · refine wp_aload_n (v := ((0 : Nat) : Int)) rfl (Int.natCast_nonneg _) ?_
        refine wp_iconst ⟨by decide, by decide⟩ ?_
        obtain ⟨x5, e6, h⟩ := d_bind h
        obtain ⟨r7, s8⟩ := t_X11_refuse hS e6
        refine y_callV (as := [(0, 1)]) (S1 := []) (Nat.le_of_ble_eq_true rfl) (by omega) r7 (Nat.le_of_ble_eq_true rfl) rfl (show ash 0 = (11, 15) from rfl) (Nat.lt_of_lt_of_le (show 0 < 154 by decide) hS.1.1) (Nat.le_of_ble_eq_true rfl) (Nat.le_of_ble_eq_true rfl) rfl ?_
        refine wp_goto ?_
        refine y_blk (t := 38) rfl (show fnd bk_X11_netAt 38 = some _ from rfl) aB_X11_netAt ?_
        cases h
        exact y_ret0 (Or.inl rfl) ⟨rfl, rfl, s8⟩
    · rw [if_neg c3] at h
      refine wp_aload_n (v := ((0 : Nat) : Int)) rfl (Int.natCast_nonneg _) ?_
      refine y_get (show ash 0 = (11, 15) from rfl) (Nat.lt_of_lt_of_le (show 0 < 154 by decide) hS.1.1) (v := ((53 : Nat) : Int)) (hS.at 0 10 53 (by decide +kernel)) rfl ?_
      refine wp_iload_n (v := v1) rfl ?_
      obtain ⟨x9, e10, h⟩ := d_bind h
      obtain ⟨r11, s12⟩ := t_X6_setAt hS e10
      refine y_callV (as := [(0, v1)]) (S1 := []) (Nat.le_of_ble_eq_true rfl) (by omega) r11 (Nat.le_of_ble_eq_true rfl) rfl (show ash 53 = (6, 2) from rfl) (Nat.lt_of_lt_of_le (show 53 < 154 by decide) hS.1.1) (Nat.le_of_ble_eq_true rfl) (Nat.le_of_ble_eq_true rfl) rfl ?_
      refine wp_goto ?_
      refine y_blk (t := 19) rfl (show fnd bk_X11_netAt 19 = some _ from rfl) aB_X11_netAt ?_
      refine y_stn (L1 := [(2, ((0 : Nat) : Int)), (0, v1), (0, x9.1)]) (Nat.le_of_ble_eq_true rfl) rfl ?_
      refine wp_iload_n (v := x9.1) rfl ?_
      refine wp_iconst ⟨by decide, by decide⟩ ?_
      refine y_ne (fun c13 => ?_) (fun c13 => ?_)
      · rw [if_neg c13] at h
        refine y_blk (t := 33) rfl (show fnd bk_X11_netAt 33 = some _ from rfl) aB_X11_netAt ?_
        refine wp_aload_n (v := ((0 : Nat) : Int)) rfl (Int.natCast_nonneg _) ?_
        refine wp_iload_n (v := x9.1) rfl ?_
        obtain ⟨x14, e15, h⟩ := d_bind h
        obtain ⟨r16, s17⟩ := t_X11_allow s12 e15
        refine y_callV (as := [(0, x9.1)]) (S1 := []) (Nat.le_of_ble_eq_true rfl) (by omega) r16 (Nat.le_of_ble_eq_true rfl) rfl (show ash 0 = (11, 15) from rfl) (Nat.lt_of_lt_of_le (show 0 < 154 by decide) hS.1.1) (Nat.le_of_ble_eq_true rfl) (Nat.le_of_ble_eq_true rfl) rfl ?_
        refine y_blk (t := 38) rfl (show fnd bk_X11_netAt 38 = some _ from rfl) aB_X11_netAt ?_
        cases h
        exact y_ret0 (Or.inl rfl) ⟨rfl, rfl, s17⟩
      · rw [if_pos c13] at h
        refine wp_aload_n (v := ((0 : Nat) : Int)) rfl (Int.natCast_nonneg _) ?_
        refine wp_iconst ⟨by decide, by decide⟩ ?_
        obtain ⟨x18, e19, h⟩ := d_bind h
        obtain ⟨r20, s21⟩ := t_X11_refuse s12 e19
        refine y_callV (as := [(0, 1)]) (S1 := []) (Nat.le_of_ble_eq_true rfl) (by omega) r20 (Nat.le_of_ble_eq_true rfl) rfl (show ash 0 = (11, 15) from rfl) (Nat.lt_of_lt_of_le (show 0 < 154 by decide) hS.1.1) (Nat.le_of_ble_eq_true rfl) (Nat.le_of_ble_eq_true rfl) rfl ?_
        refine wp_goto ?_
        refine y_blk (t := 38) rfl (show fnd bk_X11_netAt 38 = some _ from rfl) aB_X11_netAt ?_
        cases h
        exact y_ret0 (Or.inl rfl) ⟨rfl, rfl, s21⟩
  exact ⟨fun d hd => Ms.of3 (key d hd), Ms.sh (key 6 (Nat.le_refl _))⟩

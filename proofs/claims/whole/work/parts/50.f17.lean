/-! ===== methods as functions ===== -/
theorem aB_X11_dryBy : ∀ pc, aB 148 pc = fnd bk_X11_dryBy pc := fun _ => rfl
def f_X11_dryBy (T : Nat) (v1 : Int) (M : aM) : Option (Int × aM) :=
 if v1 < 0 then
 (f_X11_refuse T 1 M).bind fun x2 =>
 some (x2.1, x2.2) else
 if v1 < (M 3 6) then
 (f_X6_setsWithDry T v1 M).bind fun x7 =>
 (f_X11_allow T x7.1 x7.2).bind fun x11 =>
 some (x11.1, x11.2) else
 (f_X11_refuse T 1 M).bind fun x15 =>
 some (x15.1, x15.2)
theorem t_X11_dryBy {T : T3} {v1 : Int} {M : aM} {y : (Int × aM)}  (hS : Sh T.1 M) (h : f_X11_dryBy T.1 v1 M = some y) : Mr 6 148 [(2, ((0 : Nat) : Int)), (0, v1)] M (some (0, y.1)) y.2 T ∧ Sh T.1 y.2 := by
  have key : ∀ d, 6 ≤ d → Wp d 148 0 [] [(2, ((0 : Nat) : Int)), (0, v1)] [] (M, T) (fun r2 σ2 => r2 = some (0, y.1) ∧ σ2 = (y.2, T) ∧ Sh T.1 y.2) := by
    intro d hd
    rw [f_X11_dryBy] at h
    refine y_blk (t := 0) rfl (show fnd bk_X11_dryBy 0 = some _ from rfl) aB_X11_dryBy ?_
    refine wp_iload_n (v := v1) rfl ?_
    refine wp_if_lt (fun c1 => ?_) (fun c1 => ?_)
    · rw [if_pos c1] at h
      refine y_blk (t := 18) rfl (show fnd bk_X11_dryBy 18 = some _ from rfl) aB_X11_dryBy ?_
      refine wp_aload_n (v := ((0 : Nat) : Int)) rfl (Int.natCast_nonneg _) ?_
      refine wp_iconst ⟨by decide, by decide⟩ ?_
      obtain ⟨x2, e3, h⟩ := d_bind h
      obtain ⟨r4, s5⟩ := t_X11_refuse hS e3
      refine y_callV (as := [(0, 1)]) (S1 := []) (Nat.le_of_ble_eq_true rfl) (by omega) r4 (Nat.le_of_ble_eq_true rfl) rfl (show ash 0 = (11, 15) from rfl) (Nat.lt_of_lt_of_le (show 0 < 154 by decide) hS.1.1) (Nat.le_of_ble_eq_true rfl) (Nat.le_of_ble_eq_true rfl) rfl ?_
      cases h
      exact y_ret0 (Or.inl rfl) ⟨rfl, rfl, s5⟩
    · rw [if_neg c1] at h
      refine wp_iload_n (v := v1) rfl ?_
      refine wp_aload_n (v := ((0 : Nat) : Int)) rfl (Int.natCast_nonneg _) ?_
      refine y_get (show ash 0 = (11, 15) from rfl) (Nat.lt_of_lt_of_le (show 0 < 154 by decide) hS.1.1) (v := ((2 : Nat) : Int)) (hS.at 0 2 2 (by decide +kernel)) rfl ?_
      refine y_get (show ash 2 = (10, 19) from rfl) (Nat.lt_of_lt_of_le (show 2 < 154 by decide) hS.1.1) (v := ((3 : Nat) : Int)) (hS.at 2 3 3 (by decide +kernel)) rfl ?_
      refine wp_bipush (by decide) ?_
      refine y_iald (show ash 3 = (100, 8) from rfl) (Or.inl (Nat.lt_of_lt_of_le (show 3 < 154 by decide) hS.1.1)) (Nat.ne_of_lt (Nat.lt_of_lt_of_le (Nat.lt_of_lt_of_le (show 3 < 154 by decide) hS.1.1) hS.1.2)) ⟨by decide, by decide⟩ (v := M 3 6) rfl ?_
      refine wp_icmp_lt (fun c6 => ?_) (fun c6 => ?_)
      · rw [if_pos c6] at h
        refine y_blk (t := 24) rfl (show fnd bk_X11_dryBy 24 = some _ from rfl) aB_X11_dryBy ?_
        refine wp_aload_n (v := ((0 : Nat) : Int)) rfl (Int.natCast_nonneg _) ?_
        refine wp_aload_n (v := ((0 : Nat) : Int)) rfl (Int.natCast_nonneg _) ?_
        refine y_get (show ash 0 = (11, 15) from rfl) (Nat.lt_of_lt_of_le (show 0 < 154 by decide) hS.1.1) (v := ((53 : Nat) : Int)) (hS.at 0 10 53 (by decide +kernel)) rfl ?_
        refine wp_iload_n (v := v1) rfl ?_
        obtain ⟨x7, e8, h⟩ := d_bind h
        obtain ⟨r9, s10⟩ := t_X6_setsWithDry hS e8
        refine y_callV (as := [(0, v1)]) (S1 := [(2, ((0 : Nat) : Int))]) (Nat.le_of_ble_eq_true rfl) (by omega) r9 (Nat.le_of_ble_eq_true rfl) rfl (show ash 53 = (6, 2) from rfl) (Nat.lt_of_lt_of_le (show 53 < 154 by decide) hS.1.1) (Nat.le_of_ble_eq_true rfl) (Nat.le_of_ble_eq_true rfl) rfl ?_
        obtain ⟨x11, e12, h⟩ := d_bind h
        obtain ⟨r13, s14⟩ := t_X11_allow s10 e12
        refine y_callV (as := [(0, x7.1)]) (S1 := []) (Nat.le_of_ble_eq_true rfl) (by omega) r13 (Nat.le_of_ble_eq_true rfl) rfl (show ash 0 = (11, 15) from rfl) (Nat.lt_of_lt_of_le (show 0 < 154 by decide) hS.1.1) (Nat.le_of_ble_eq_true rfl) (Nat.le_of_ble_eq_true rfl) rfl ?_
        cases h
        exact y_ret0 (Or.inl rfl) ⟨rfl, rfl, s14⟩
      · rw [if_neg c6] at h
        refine y_blk (t := 18) rfl (show fnd bk_X11_dryBy 18 = some _ from rfl) aB_X11_dryBy ?_
        refine wp_aload_n (v := ((0 : Nat) : Int)) rfl (Int.natCast_nonneg _) ?_
        refine wp_iconst ⟨by decide, by decide⟩ ?_
        obtain ⟨x15, e16, h⟩ := d_bind h
        obtain ⟨r17, s18⟩ := t_X11_refuse hS e16
        refine y_callV (as := [(0, 1)]) (S1 := []) (Nat.le_of_ble_eq_true rfl) (by omega) r17 (Nat.le_of_ble_eq_true rfl) rfl (show ash 0 = (11, 15) from rfl) (Nat.lt_of_lt_of_le (show 0 < 154 by decide) hS.1.1) (Nat.le_of_ble_eq_true rfl) (Nat.le_of_ble_eq_true rfl) rfl ?_
        cases h
        exact y_ret0 (Or.inl rfl) ⟨rfl, rfl, s18⟩
  exact ⟨fun d hd => Ms.of3 (key d hd), Ms.sh (key 6 (Nat.le_refl _))⟩
theorem aB_X11_liar : ∀ pc, aB 149 pc = fnd bk_X11_liar pc := fun _ => rfl
def f_X11_liar (T : Nat)  (M : aM) : Option (Int × aM) :=
 (f_X11_hasWell T M).bind fun x1 =>
 if x1 = 0 then
 (f_X11_refuse T 1 M).bind fun x4 =>
 some (x4.1, x4.2) else
 (f_X6_firstUntrueTalk T 0 M).bind fun x8 =>
 (f_X11_allow T x8.1 x8.2).bind fun x12 =>
 some (x12.1, x12.2)
theorem t_X11_liar {T : T3}  {M : aM} {y : (Int × aM)}  (hS : Sh T.1 M) (h : f_X11_liar T.1  M = some y) : Mr 4 149 [(2, ((0 : Nat) : Int))] M (some (0, y.1)) y.2 T ∧ Sh T.1 y.2 := by
  have key : ∀ d, 4 ≤ d → Wp d 149 0 [] [(2, ((0 : Nat) : Int))] [] (M, T) (fun r2 σ2 => r2 = some (0, y.1) ∧ σ2 = (y.2, T) ∧ Sh T.1 y.2) := by
    intro d hd
    rw [f_X11_liar] at h
    refine y_blk (t := 0) rfl (show fnd bk_X11_liar 0 = some _ from rfl) aB_X11_liar ?_
    refine wp_aload_n (v := ((0 : Nat) : Int)) rfl (Int.natCast_nonneg _) ?_
    obtain ⟨x1, e2, h⟩ := d_bind h
    refine y_callV (as := []) (S1 := []) (Nat.le_of_ble_eq_true rfl) (by omega) (t_X11_hasWell hS e2) (Nat.le_of_ble_eq_true rfl) rfl (show ash 0 = (11, 15) from rfl) (Nat.lt_of_lt_of_le (show 0 < 154 by decide) hS.1.1) (Nat.le_of_ble_eq_true rfl) (Nat.le_of_ble_eq_true rfl) rfl ?_
    refine wp_if_eq (fun c3 => ?_) (fun c3 => ?_)
    · rw [if_pos c3] at h
      refine y_blk (t := 22) rfl (show fnd bk_X11_liar 22 = some _ from rfl) aB_X11_liar ?_
      refine wp_aload_n (v := ((0 : Nat) : Int)) rfl (Int.natCast_nonneg _) ?_
      refine wp_iconst ⟨by decide, by decide⟩ ?_
      obtain ⟨x4, e5, h⟩ := d_bind h
      obtain ⟨r6, s7⟩ := t_X11_refuse hS e5
      refine y_callV (as := [(0, 1)]) (S1 := []) (Nat.le_of_ble_eq_true rfl) (by omega) r6 (Nat.le_of_ble_eq_true rfl) rfl (show ash 0 = (11, 15) from rfl) (Nat.lt_of_lt_of_le (show 0 < 154 by decide) hS.1.1) (Nat.le_of_ble_eq_true rfl) (Nat.le_of_ble_eq_true rfl) rfl ?_
      refine y_blk (t := 27) rfl (show fnd bk_X11_liar 27 = some _ from rfl) aB_X11_liar ?_
      cases h
      exact y_ret0 (Or.inl rfl) ⟨rfl, rfl, s7⟩
    · rw [if_neg c3] at h
      refine wp_aload_n (v := ((0 : Nat) : Int)) rfl (Int.natCast_nonneg _) ?_
      refine wp_aload_n (v := ((0 : Nat) : Int)) rfl (Int.natCast_nonneg _) ?_
      refine y_get (show ash 0 = (11, 15) from rfl) (Nat.lt_of_lt_of_le (show 0 < 154 by decide) hS.1.1) (v := ((53 : Nat) : Int)) (hS.at 0 10 53 (by decide +kernel)) rfl ?_
      refine wp_iconst ⟨by decide, by decide⟩ ?_
      obtain ⟨x8, e9, h⟩ := d_bind h
      obtain ⟨r10, s11⟩ := t_X6_firstUntrueTalk hS e9
      refine y_callV (as := [(0, 0)]) (S1 := [(2, ((0 : Nat) : Int))]) (Nat.le_of_ble_eq_true rfl) (by omega) r10 (Nat.le_of_ble_eq_true rfl) rfl (show ash 53 = (6, 2) from rfl) (Nat.lt_of_lt_of_le (show 53 < 154 by decide) hS.1.1) (Nat.le_of_ble_eq_true rfl) (Nat.le_of_ble_eq_true rfl) rfl ?_
      obtain ⟨x12, e13, h⟩ := d_bind h
      obtain ⟨r14, s15⟩ := t_X11_allow s11 e13
      refine y_callV (as := [(0, x8.1)]) (S1 := []) (Nat.le_of_ble_eq_true rfl) (by omega) r14 (Nat.le_of_ble_eq_true rfl) rfl (show ash 0 = (11, 15) from rfl) (Nat.lt_of_lt_of_le (show 0 < 154 by decide) hS.1.1) (Nat.le_of_ble_eq_true rfl) (Nat.le_of_ble_eq_true rfl) rfl ?_
      refine wp_goto ?_
      refine y_blk (t := 27) rfl (show fnd bk_X11_liar 27 = some _ from rfl) aB_X11_liar ?_
      cases h
      exact y_ret0 (Or.inl rfl) ⟨rfl, rfl, s15⟩
  exact ⟨fun d hd => Ms.of3 (key d hd), Ms.sh (key 4 (Nat.le_refl _))⟩
theorem aB_X11_chase : ∀ pc, aB 150 pc = fnd bk_X11_chase pc := fun _ => rfl
def f_X11_chase (T : Nat) (v1 : Int) (v2 : Int) (M : aM) : Option (Int × aM) :=
 (f_X11_isCave T v1 M).bind fun x1 =>
 if x1 = 0 then
 (f_X11_refuse T 1 M).bind fun x4 =>
 some (x4.1, x4.2) else
 (f_X11_isCave T v2 M).bind fun x8 =>
 if x8 = 0 then
 (f_X11_refuse T 1 M).bind fun x21 =>
 some (x21.1, x21.2) else
 (f_X3_goingsNeeded T v1 v2 M).bind fun x11 =>
 (f_X11_orNo T x11.1 x11.2).bind fun x15 =>
 (f_X11_allow T x15 x11.2).bind fun x17 =>
 some (x17.1, x17.2)
theorem t_X11_chase {T : T3} {v1 : Int} {v2 : Int} {M : aM} {y : (Int × aM)}  (hS : Sh T.1 M) (h : f_X11_chase T.1 v1 v2 M = some y) : Mr 4 150 [(2, ((0 : Nat) : Int)), (0, v1), (0, v2)] M (some (0, y.1)) y.2 T ∧ Sh T.1 y.2 := by
  have key : ∀ d, 4 ≤ d → Wp d 150 0 [] [(2, ((0 : Nat) : Int)), (0, v1), (0, v2)] [] (M, T) (fun r2 σ2 => r2 = some (0, y.1) ∧ σ2 = (y.2, T) ∧ Sh T.1 y.2) := by
    intro d hd
    rw [f_X11_chase] at h
    refine y_blk (t := 0) rfl (show fnd bk_X11_chase 0 = some _ from rfl) aB_X11_chase ?_
    refine wp_aload_n (v := ((0 : Nat) : Int)) rfl (Int.natCast_nonneg _) ?_
    refine wp_iload_n (v := v1) rfl ?_
    obtain ⟨x1, e2, h⟩ := d_bind h
    refine y_callV (as := [(0, v1)]) (S1 := []) (Nat.le_of_ble_eq_true rfl) (by omega) (t_X11_isCave hS e2) (Nat.le_of_ble_eq_true rfl) rfl (show ash 0 = (11, 15) from rfl) (Nat.lt_of_lt_of_le (show 0 < 154 by decide) hS.1.1) (Nat.le_of_ble_eq_true rfl) (Nat.le_of_ble_eq_true rfl) rfl ?_
    refine wp_if_eq (fun c3 => ?_) (fun c3 => ?_)
    · rw [if_pos c3] at h
      refine y_blk (t := 16) rfl (show fnd bk_X11_chase 16 = some _ from rfl) aB_X11_chase ?_
      refine wp_aload_n (v := ((0 : Nat) : Int)) rfl (Int.natCast_nonneg _) ?_
      refine wp_iconst ⟨by decide, by decide⟩ ?_
      obtain ⟨x4, e5, h⟩ := d_bind h
      obtain ⟨r6, s7⟩ := t_X11_refuse hS e5
      refine y_callV (as := [(0, 1)]) (S1 := []) (Nat.le_of_ble_eq_true rfl) (by omega) r6 (Nat.le_of_ble_eq_true rfl) rfl (show ash 0 = (11, 15) from rfl) (Nat.lt_of_lt_of_le (show 0 < 154 by decide) hS.1.1) (Nat.le_of_ble_eq_true rfl) (Nat.le_of_ble_eq_true rfl) rfl ?_
      cases h
      exact y_ret0 (Or.inl rfl) ⟨rfl, rfl, s7⟩
    · rw [if_neg c3] at h
      refine wp_aload_n (v := ((0 : Nat) : Int)) rfl (Int.natCast_nonneg _) ?_
      refine wp_iload_n (v := v2) rfl ?_
      obtain ⟨x8, e9, h⟩ := d_bind h
      refine y_callV (as := [(0, v2)]) (S1 := []) (Nat.le_of_ble_eq_true rfl) (by omega) (t_X11_isCave hS e9) (Nat.le_of_ble_eq_true rfl) rfl (show ash 0 = (11, 15) from rfl) (Nat.lt_of_lt_of_le (show 0 < 154 by decide) hS.1.1) (Nat.le_of_ble_eq_true rfl) (Nat.le_of_ble_eq_true rfl) rfl ?_
      refine y_nez (fun c10 => ?_) (fun c10 => ?_)
      · rw [if_neg c10] at h
        refine y_blk (t := 22) rfl (show fnd bk_X11_chase 22 = some _ from rfl) aB_X11_chase ?_
        refine wp_aload_n (v := ((0 : Nat) : Int)) rfl (Int.natCast_nonneg _) ?_
        refine wp_aload_n (v := ((0 : Nat) : Int)) rfl (Int.natCast_nonneg _) ?_
        refine y_get (show ash 0 = (11, 15) from rfl) (Nat.lt_of_lt_of_le (show 0 < 154 by decide) hS.1.1) (v := ((54 : Nat) : Int)) (hS.at 0 11 54 (by decide +kernel)) rfl ?_
        refine wp_iload_n (v := v1) rfl ?_
        refine wp_iload_n (v := v2) rfl ?_
        obtain ⟨x11, e12, h⟩ := d_bind h
        obtain ⟨r13, s14⟩ := t_X3_goingsNeeded hS e12
        refine y_callV (as := [(0, v1), (0, v2)]) (S1 := [(2, ((0 : Nat) : Int))]) (Nat.le_of_ble_eq_true rfl) (by omega) r13 (Nat.le_of_ble_eq_true rfl) rfl (show ash 54 = (3, 5) from rfl) (Nat.lt_of_lt_of_le (show 54 < 154 by decide) hS.1.1) (Nat.le_of_ble_eq_true rfl) (Nat.le_of_ble_eq_true rfl) rfl ?_
        obtain ⟨x15, e16, h⟩ := d_bind h
        refine y_callS (as := [(0, x11.1)]) (S1 := [(2, ((0 : Nat) : Int))]) (Nat.le_of_ble_eq_true rfl) (by omega) (t_X11_orNo s14 e16) (Nat.le_of_ble_eq_true rfl) rfl (Nat.le_of_ble_eq_true rfl) (Nat.le_of_ble_eq_true rfl) rfl ?_
        obtain ⟨x17, e18, h⟩ := d_bind h
        obtain ⟨r19, s20⟩ := t_X11_allow s14 e18
        refine y_callV (as := [(0, x15)]) (S1 := []) (Nat.le_of_ble_eq_true rfl) (by omega) r19 (Nat.le_of_ble_eq_true rfl) rfl (show ash 0 = (11, 15) from rfl) (Nat.lt_of_lt_of_le (show 0 < 154 by decide) hS.1.1) (Nat.le_of_ble_eq_true rfl) (Nat.le_of_ble_eq_true rfl) rfl ?_
        cases h
        exact y_ret0 (Or.inl rfl) ⟨rfl, rfl, s20⟩
      · rw [if_pos c10] at h
        refine y_blk (t := 16) rfl (show fnd bk_X11_chase 16 = some _ from rfl) aB_X11_chase ?_
        refine wp_aload_n (v := ((0 : Nat) : Int)) rfl (Int.natCast_nonneg _) ?_
        refine wp_iconst ⟨by decide, by decide⟩ ?_
        obtain ⟨x21, e22, h⟩ := d_bind h
        obtain ⟨r23, s24⟩ := t_X11_refuse hS e22
        refine y_callV (as := [(0, 1)]) (S1 := []) (Nat.le_of_ble_eq_true rfl) (by omega) r23 (Nat.le_of_ble_eq_true rfl) rfl (show ash 0 = (11, 15) from rfl) (Nat.lt_of_lt_of_le (show 0 < 154 by decide) hS.1.1) (Nat.le_of_ble_eq_true rfl) (Nat.le_of_ble_eq_true rfl) rfl ?_
        cases h
        exact y_ret0 (Or.inl rfl) ⟨rfl, rfl, s24⟩
  exact ⟨fun d hd => Ms.of3 (key d hd), Ms.sh (key 4 (Nat.le_refl _))⟩
theorem aB_X11_chaseBy : ∀ pc, aB 151 pc = fnd bk_X11_chaseBy pc := fun _ => rfl
def f_X11_chaseBy (T : Nat) (v1 : Int) (v2 : Int) (M : aM) : Option (Int × aM) :=
 (f_X11_isCave T v1 M).bind fun x1 =>
 if x1 = 0 then
 (f_X11_refuse T 1 M).bind fun x4 =>
 some (x4.1, x4.2) else
 (f_X11_isCave T v2 M).bind fun x8 =>
 if x8 = 0 then
 (f_X11_refuse T 1 M).bind fun x19 =>
 some (x19.1, x19.2) else
 (f_X3_firstGoing T v1 v2 M).bind fun x11 =>
 (f_X11_allow T x11.1 x11.2).bind fun x15 =>
 some (x15.1, x15.2)
theorem t_X11_chaseBy {T : T3} {v1 : Int} {v2 : Int} {M : aM} {y : (Int × aM)}  (hS : Sh T.1 M) (h : f_X11_chaseBy T.1 v1 v2 M = some y) : Mr 5 151 [(2, ((0 : Nat) : Int)), (0, v1), (0, v2)] M (some (0, y.1)) y.2 T ∧ Sh T.1 y.2 := by
  have key : ∀ d, 5 ≤ d → Wp d 151 0 [] [(2, ((0 : Nat) : Int)), (0, v1), (0, v2)] [] (M, T) (fun r2 σ2 => r2 = some (0, y.1) ∧ σ2 = (y.2, T) ∧ Sh T.1 y.2) := by
    intro d hd
    rw [f_X11_chaseBy] at h
    refine y_blk (t := 0) rfl (show fnd bk_X11_chaseBy 0 = some _ from rfl) aB_X11_chaseBy ?_
    refine wp_aload_n (v := ((0 : Nat) : Int)) rfl (Int.natCast_nonneg _) ?_
    refine wp_iload_n (v := v1) rfl ?_
    obtain ⟨x1, e2, h⟩ := d_bind h
    refine y_callV (as := [(0, v1)]) (S1 := []) (Nat.le_of_ble_eq_true rfl) (by omega) (t_X11_isCave hS e2) (Nat.le_of_ble_eq_true rfl) rfl (show ash 0 = (11, 15) from rfl) (Nat.lt_of_lt_of_le (show 0 < 154 by decide) hS.1.1) (Nat.le_of_ble_eq_true rfl) (Nat.le_of_ble_eq_true rfl) rfl ?_
    refine wp_if_eq (fun c3 => ?_) (fun c3 => ?_)
    · rw [if_pos c3] at h
      refine y_blk (t := 16) rfl (show fnd bk_X11_chaseBy 16 = some _ from rfl) aB_X11_chaseBy ?_
      refine wp_aload_n (v := ((0 : Nat) : Int)) rfl (Int.natCast_nonneg _) ?_
      refine wp_iconst ⟨by decide, by decide⟩ ?_
      obtain ⟨x4, e5, h⟩ := d_bind h
      obtain ⟨r6, s7⟩ := t_X11_refuse hS e5
      refine y_callV (as := [(0, 1)]) (S1 := []) (Nat.le_of_ble_eq_true rfl) (by omega) r6 (Nat.le_of_ble_eq_true rfl) rfl (show ash 0 = (11, 15) from rfl) (Nat.lt_of_lt_of_le (show 0 < 154 by decide) hS.1.1) (Nat.le_of_ble_eq_true rfl) (Nat.le_of_ble_eq_true rfl) rfl ?_
      cases h
      exact y_ret0 (Or.inl rfl) ⟨rfl, rfl, s7⟩
    · rw [if_neg c3] at h
      refine wp_aload_n (v := ((0 : Nat) : Int)) rfl (Int.natCast_nonneg _) ?_
      refine wp_iload_n (v := v2) rfl ?_
      obtain ⟨x8, e9, h⟩ := d_bind h
      refine y_callV (as := [(0, v2)]) (S1 := []) (Nat.le_of_ble_eq_true rfl) (by omega) (t_X11_isCave hS e9) (Nat.le_of_ble_eq_true rfl) rfl (show ash 0 = (11, 15) from rfl) (Nat.lt_of_lt_of_le (show 0 < 154 by decide) hS.1.1) (Nat.le_of_ble_eq_true rfl) (Nat.le_of_ble_eq_true rfl) rfl ?_
      refine y_nez (fun c10 => ?_) (fun c10 => ?_)
      · rw [if_neg c10] at h
        refine y_blk (t := 22) rfl (show fnd bk_X11_chaseBy 22 = some _ from rfl) aB_X11_chaseBy ?_
        refine wp_aload_n (v := ((0 : Nat) : Int)) rfl (Int.natCast_nonneg _) ?_
        refine wp_aload_n (v := ((0 : Nat) : Int)) rfl (Int.natCast_nonneg _) ?_
        refine y_get (show ash 0 = (11, 15) from rfl) (Nat.lt_of_lt_of_le (show 0 < 154 by decide) hS.1.1) (v := ((54 : Nat) : Int)) (hS.at 0 11 54 (by decide +kernel)) rfl ?_
        refine wp_iload_n (v := v1) rfl ?_
        refine wp_iload_n (v := v2) rfl ?_
        obtain ⟨x11, e12, h⟩ := d_bind h
        obtain ⟨r13, s14⟩ := t_X3_firstGoing hS e12
        refine y_callV (as := [(0, v1), (0, v2)]) (S1 := [(2, ((0 : Nat) : Int))]) (Nat.le_of_ble_eq_true rfl) (by omega) r13 (Nat.le_of_ble_eq_true rfl) rfl (show ash 54 = (3, 5) from rfl) (Nat.lt_of_lt_of_le (show 54 < 154 by decide) hS.1.1) (Nat.le_of_ble_eq_true rfl) (Nat.le_of_ble_eq_true rfl) rfl ?_
        obtain ⟨x15, e16, h⟩ := d_bind h
        obtain ⟨r17, s18⟩ := t_X11_allow s14 e16
        refine y_callV (as := [(0, x11.1)]) (S1 := []) (Nat.le_of_ble_eq_true rfl) (by omega) r17 (Nat.le_of_ble_eq_true rfl) rfl (show ash 0 = (11, 15) from rfl) (Nat.lt_of_lt_of_le (show 0 < 154 by decide) hS.1.1) (Nat.le_of_ble_eq_true rfl) (Nat.le_of_ble_eq_true rfl) rfl ?_
        cases h
        exact y_ret0 (Or.inl rfl) ⟨rfl, rfl, s18⟩
      · rw [if_pos c10] at h
        refine y_blk (t := 16) rfl (show fnd bk_X11_chaseBy 16 = some _ from rfl) aB_X11_chaseBy ?_
        refine wp_aload_n (v := ((0 : Nat) : Int)) rfl (Int.natCast_nonneg _) ?_
        refine wp_iconst ⟨by decide, by decide⟩ ?_
        obtain ⟨x19, e20, h⟩ := d_bind h
        obtain ⟨r21, s22⟩ := t_X11_refuse hS e20
        refine y_callV (as := [(0, 1)]) (S1 := []) (Nat.le_of_ble_eq_true rfl) (by omega) r21 (Nat.le_of_ble_eq_true rfl) rfl (show ash 0 = (11, 15) from rfl) (Nat.lt_of_lt_of_le (show 0 < 154 by decide) hS.1.1) (Nat.le_of_ble_eq_true rfl) (Nat.le_of_ble_eq_true rfl) rfl ?_
        cases h
        exact y_ret0 (Or.inl rfl) ⟨rfl, rfl, s22⟩
  exact ⟨fun d hd => Ms.of3 (key d hd), Ms.sh (key 5 (Nat.le_refl _))⟩
theorem aB_X11_refusesFear : ∀ pc, aB 174 pc = fnd bk_X11_refusesFear pc := fun _ => rfl
def b_X11_refusesFear_38 (T : Nat)  (M : aM) : Option (Int × aM) :=
 if (M 0 14) = 0 then
 some (0, M) else
 some (1, M)
theorem tb_X11_refusesFear_38 {d : Nat} (hd : 1 ≤ d) {T : T3}  {u1 : aV} {M : aM} {y : (Int × aM)}  (hS : Sh T.1 M) (h : b_X11_refusesFear_38 T.1  M = some y) : Wp d 174 38 [] [(2, ((0 : Nat) : Int)), u1] [] (M, T) (fun r2 σ2 => r2 = some (0, y.1) ∧ σ2 = (y.2, T) ∧ Sh T.1 y.2) := by
  rw [b_X11_refusesFear_38] at h
  refine y_blk (t := 38) rfl (show fnd bk_X11_refusesFear 38 = some _ from rfl) aB_X11_refusesFear ?_
  refine wp_aload_n (v := ((0 : Nat) : Int)) rfl (Int.natCast_nonneg _) ?_
  refine y_get (show ash 0 = (11, 15) from rfl) (Nat.lt_of_lt_of_le (show 0 < 154 by decide) hS.1.1) (v := M 0 14) rfl rfl ?_
  refine wp_if_eq (fun c7 => ?_) (fun c7 => ?_)
  · rw [if_pos c7] at h
    refine y_blk (t := 49) rfl (show fnd bk_X11_refusesFear 49 = some _ from rfl) aB_X11_refusesFear ?_
    refine wp_iconst ⟨by decide, by decide⟩ ?_
    refine y_blk (t := 50) rfl (show fnd bk_X11_refusesFear 50 = some _ from rfl) aB_X11_refusesFear ?_
    cases h
    exact y_ret0 (Or.inr (Or.inl rfl)) ⟨rfl, rfl, hS⟩
  · rw [if_neg c7] at h
    refine wp_iconst ⟨by decide, by decide⟩ ?_
    refine wp_goto ?_
    refine y_blk (t := 50) rfl (show fnd bk_X11_refusesFear 50 = some _ from rfl) aB_X11_refusesFear ?_
    cases h
    exact y_ret0 (Or.inr (Or.inr rfl)) ⟨rfl, rfl, hS⟩
def b_X11_refusesFear_25 (T : Nat)  (M : aM) : Option (Int × aM) :=
 (some (aup M 0 14 2)).bind fun m5 =>
 b_X11_refusesFear_38 T m5
theorem tb_X11_refusesFear_25 {d : Nat} (hd : 1 ≤ d) {T : T3}  {u1 : aV} {M : aM} {y : (Int × aM)}  (hS : Sh T.1 M) (h : b_X11_refusesFear_25 T.1  M = some y) : Wp d 174 25 [] [(2, ((0 : Nat) : Int)), u1] [] (M, T) (fun r2 σ2 => r2 = some (0, y.1) ∧ σ2 = (y.2, T) ∧ Sh T.1 y.2) := by
  rw [b_X11_refusesFear_25] at h
  refine y_blk (t := 25) rfl (show fnd bk_X11_refusesFear 25 = some _ from rfl) aB_X11_refusesFear ?_
  refine wp_aload_n (v := ((0 : Nat) : Int)) rfl (Int.natCast_nonneg _) ?_
  refine wp_iconst ⟨by decide, by decide⟩ ?_
  refine y_put (show ash 0 = (11, 15) from rfl) (Nat.lt_of_lt_of_le (show 0 < 154 by decide) hS.1.1) rfl ?_
  obtain ⟨m5, em5, h⟩ := d_bind h
  have em5 := Option.some.inj em5
  have s6 : Sh T.1 m5 := em5 ▸ hS.up (Or.inr ⟨by rw [(show ash 0 = (11, 15) from rfl)]; decide, by rw [(show ash 0 = (11, 15) from rfl)]; decide⟩) (by have := (Nat.lt_of_lt_of_le (show 0 < 154 by decide) hS.1.1); have := hS.1.2; omega)
  rw [em5]
  refine wp_goto ?_
  exact tb_X11_refusesFear_38 hd s6 h
def f_X11_refusesFear (T : Nat) (v1 : Int) (M : aM) : Option (Int × aM) :=
 (f_X11_hasWell T M).bind fun x1 =>
 if x1 = 0 then
 (some (aup M 0 14 1)).bind fun m11 =>
 b_X11_refusesFear_38 T m11 else
 if v1 < 0 then
 b_X11_refusesFear_25 T M else
 if v1 ≤ 9 then
 (some (aup M 0 14 0)).bind fun m9 =>
 b_X11_refusesFear_38 T m9 else
 b_X11_refusesFear_25 T M
theorem t_X11_refusesFear {T : T3} {v1 : Int} {M : aM} {y : (Int × aM)}  (hS : Sh T.1 M) (h : f_X11_refusesFear T.1 v1 M = some y) : Mr 1 174 [(2, ((0 : Nat) : Int)), (0, v1)] M (some (0, y.1)) y.2 T ∧ Sh T.1 y.2 := by
  have key : ∀ d, 1 ≤ d → Wp d 174 0 [] [(2, ((0 : Nat) : Int)), (0, v1)] [] (M, T) (fun r2 σ2 => r2 = some (0, y.1) ∧ σ2 = (y.2, T) ∧ Sh T.1 y.2) := by
    intro d hd
    rw [f_X11_refusesFear] at h
    refine y_blk (t := 0) rfl (show fnd bk_X11_refusesFear 0 = some _ from rfl) aB_X11_refusesFear ?_
    refine wp_aload_n (v := ((0 : Nat) : Int)) rfl (Int.natCast_nonneg _) ?_
    obtain ⟨x1, e2, h⟩ := d_bind h
    refine y_callV (as := []) (S1 := []) (Nat.le_of_ble_eq_true rfl) (by omega) (t_X11_hasWell hS e2) (Nat.le_of_ble_eq_true rfl) rfl (show ash 0 = (11, 15) from rfl) (Nat.lt_of_lt_of_le (show 0 < 154 by decide) hS.1.1) (Nat.le_of_ble_eq_true rfl) (Nat.le_of_ble_eq_true rfl) rfl ?_
    refine y_nez (fun c3 => ?_) (fun c3 => ?_)
    · rw [if_neg c3] at h
      refine y_blk (t := 15) rfl (show fnd bk_X11_refusesFear 15 = some _ from rfl) aB_X11_refusesFear ?_
      refine wp_iload_n (v := v1) rfl ?_
      refine wp_if_lt (fun c4 => ?_) (fun c4 => ?_)
      · rw [if_pos c4] at h
        exact tb_X11_refusesFear_25 hd hS h
      · rw [if_neg c4] at h
        refine wp_iload_n (v := v1) rfl ?_
        refine wp_bipush (by decide) ?_
        refine wp_icmp_le (fun c8 => ?_) (fun c8 => ?_)
        · rw [if_pos c8] at h
          refine y_blk (t := 33) rfl (show fnd bk_X11_refusesFear 33 = some _ from rfl) aB_X11_refusesFear ?_
          refine wp_aload_n (v := ((0 : Nat) : Int)) rfl (Int.natCast_nonneg _) ?_
          refine wp_iconst ⟨by decide, by decide⟩ ?_
          refine y_put (show ash 0 = (11, 15) from rfl) (Nat.lt_of_lt_of_le (show 0 < 154 by decide) hS.1.1) rfl ?_
          obtain ⟨m9, em9, h⟩ := d_bind h
          have em9 := Option.some.inj em9
          have s10 : Sh T.1 m9 := em9 ▸ hS.up (Or.inr ⟨by rw [(show ash 0 = (11, 15) from rfl)]; decide, by rw [(show ash 0 = (11, 15) from rfl)]; decide⟩) (by have := (Nat.lt_of_lt_of_le (show 0 < 154 by decide) hS.1.1); have := hS.1.2; omega)
          rw [em9]
          exact tb_X11_refusesFear_38 hd s10 h
        · rw [if_neg c8] at h
          exact tb_X11_refusesFear_25 hd hS h
    · rw [if_pos c3] at h
      refine wp_aload_n (v := ((0 : Nat) : Int)) rfl (Int.natCast_nonneg _) ?_
      refine wp_iconst ⟨by decide, by decide⟩ ?_
      refine y_put (show ash 0 = (11, 15) from rfl) (Nat.lt_of_lt_of_le (show 0 < 154 by decide) hS.1.1) rfl ?_
      obtain ⟨m11, em11, h⟩ := d_bind h
      have em11 := Option.some.inj em11
      have s12 : Sh T.1 m11 := em11 ▸ hS.up (Or.inr ⟨by rw [(show ash 0 = (11, 15) from rfl)]; decide, by rw [(show ash 0 = (11, 15) from rfl)]; decide⟩) (by have := (Nat.lt_of_lt_of_le (show 0 < 154 by decide) hS.1.1); have := hS.1.2; omega)
      rw [em11]
      refine wp_goto ?_
      exact tb_X11_refusesFear_38 hd s12 h
  exact ⟨fun d hd => Ms.of3 (key d hd), Ms.sh (key 1 (Nat.le_refl _))⟩
theorem aB_X11_gain : ∀ pc, aB 187 pc = fnd bk_X11_gain pc := fun _ => rfl
def f_X11_gain (T : Nat) (v0 : Int) (v1 : Int) (v2 : Int) (M : aM) : Option Int :=
 if v1 = 0 then
 if v2 = 0 then
 some 1 else
 if aIn (-v0) then
 some (-v0) else none else
 if v2 = 0 then
 some 3 else
 some 2
theorem t_X11_gain {T : T3} {v0 : Int} {v1 : Int} {v2 : Int} {M : aM} {y : Int}  (hS : Sh T.1 M) (h : f_X11_gain T.1 v0 v1 v2 M = some y) : Mr 0 187 [(0, v0), (0, v1), (0, v2)] M (some (0, y)) M T := by
  have key : ∀ d, 0 ≤ d → Wp d 187 0 [] [(0, v0), (0, v1), (0, v2)] [] (M, T) (fun r2 σ2 => r2 = some (0, y) ∧ σ2 = (M, T)) := by
    intro d hd
    rw [f_X11_gain] at h
    refine y_blk (t := 0) rfl (show fnd bk_X11_gain 0 = some _ from rfl) aB_X11_gain ?_
    refine wp_iload_n (v := v1) rfl ?_
    refine wp_if_eq (fun c1 => ?_) (fun c1 => ?_)
    · rw [if_pos c1] at h
      refine y_blk (t := 14) rfl (show fnd bk_X11_gain 14 = some _ from rfl) aB_X11_gain ?_
      refine wp_iload_n (v := v2) rfl ?_
      refine wp_if_eq (fun c2 => ?_) (fun c2 => ?_)
      · rw [if_pos c2] at h
        refine y_blk (t := 23) rfl (show fnd bk_X11_gain 23 = some _ from rfl) aB_X11_gain ?_
        refine wp_iconst ⟨by decide, by decide⟩ ?_
        refine y_blk (t := 24) rfl (show fnd bk_X11_gain 24 = some _ from rfl) aB_X11_gain ?_
        cases h
        exact y_ret0 (Or.inl rfl) ⟨rfl, rfl⟩
      · rw [if_neg c2] at h
        refine wp_iload_n (v := v0) rfl ?_
        obtain ⟨c3, h⟩ := d_ite h
        refine wp_ineg c3 ?_
        refine wp_goto ?_
        refine y_blk (t := 24) rfl (show fnd bk_X11_gain 24 = some _ from rfl) aB_X11_gain ?_
        cases h
        exact y_ret0 (Or.inl rfl) ⟨rfl, rfl⟩
    · rw [if_neg c1] at h
      refine wp_iload_n (v := v2) rfl ?_
      refine wp_if_eq (fun c4 => ?_) (fun c4 => ?_)
      · rw [if_pos c4] at h
        refine y_blk (t := 12) rfl (show fnd bk_X11_gain 12 = some _ from rfl) aB_X11_gain ?_
        refine wp_iconst ⟨by decide, by decide⟩ ?_
        refine y_blk (t := 13) rfl (show fnd bk_X11_gain 13 = some _ from rfl) aB_X11_gain ?_
        cases h
        exact y_ret0 (Or.inl rfl) ⟨rfl, rfl⟩
      · rw [if_neg c4] at h
        refine wp_iconst ⟨by decide, by decide⟩ ?_
        refine wp_goto ?_
        refine y_blk (t := 13) rfl (show fnd bk_X11_gain 13 = some _ from rfl) aB_X11_gain ?_
        cases h
        exact y_ret0 (Or.inl rfl) ⟨rfl, rfl⟩
  exact fun d hd => Ms.of (key d hd)
theorem aB_X11_answers : ∀ pc, aB 152 pc = fnd bk_X11_answers pc := fun _ => rfl
def f_X11_answers (T : Nat) (v1 : Int) (v2 : Int) (v3 : Int) (v4 : Int) (M : aM) : Option (Int × aM) :=
 (f_X11_refusesFear T v1 M).bind fun x1 =>
 if x1.1 = 0 then
 if v4 = 0 then
 (f_X11_gain T v1 v2 v3 x1.2).bind fun x7 =>
 some (x7, x1.2) else
 (f_X11_gain T v1 v3 v2 x1.2).bind fun x9 =>
 some (x9, x1.2) else
 some ((-100), x1.2)
theorem t_X11_answers {T : T3} {v1 : Int} {v2 : Int} {v3 : Int} {v4 : Int} {M : aM} {y : (Int × aM)}  (hS : Sh T.1 M) (h : f_X11_answers T.1 v1 v2 v3 v4 M = some y) : Mr 2 152 [(2, ((0 : Nat) : Int)), (0, v1), (0, v2), (0, v3), (0, v4)] M (some (0, y.1)) y.2 T ∧ Sh T.1 y.2 := by
  have key : ∀ d, 2 ≤ d → Wp d 152 0 [] [(2, ((0 : Nat) : Int)), (0, v1), (0, v2), (0, v3), (0, v4)] [] (M, T) (fun r2 σ2 => r2 = some (0, y.1) ∧ σ2 = (y.2, T) ∧ Sh T.1 y.2) := by
    intro d hd
    rw [f_X11_answers] at h
    refine y_blk (t := 0) rfl (show fnd bk_X11_answers 0 = some _ from rfl) aB_X11_answers ?_
    refine wp_aload_n (v := ((0 : Nat) : Int)) rfl (Int.natCast_nonneg _) ?_
    refine wp_iload_n (v := v1) rfl ?_
    obtain ⟨x1, e2, h⟩ := d_bind h
    obtain ⟨r3, s4⟩ := t_X11_refusesFear hS e2
    refine y_callV (as := [(0, v1)]) (S1 := []) (Nat.le_of_ble_eq_true rfl) (by omega) r3 (Nat.le_of_ble_eq_true rfl) rfl (show ash 0 = (11, 15) from rfl) (Nat.lt_of_lt_of_le (show 0 < 154 by decide) hS.1.1) (Nat.le_of_ble_eq_true rfl) (Nat.le_of_ble_eq_true rfl) rfl ?_
    refine wp_if_eq (fun c5 => ?_) (fun c5 => ?_)
    · rw [if_pos c5] at h
      refine y_blk (t := 11) rfl (show fnd bk_X11_answers 11 = some _ from rfl) aB_X11_answers ?_
      refine wp_iload (v := v4) rfl ?_
      refine wp_if_eq (fun c6 => ?_) (fun c6 => ?_)
      · rw [if_pos c6] at h
        refine y_blk (t := 25) rfl (show fnd bk_X11_answers 25 = some _ from rfl) aB_X11_answers ?_
        refine wp_iload_n (v := v1) rfl ?_
        refine wp_iload_n (v := v2) rfl ?_
        refine wp_iload_n (v := v3) rfl ?_
        obtain ⟨x7, e8, h⟩ := d_bind h
        refine y_callS (as := [(0, v1), (0, v2), (0, v3)]) (S1 := []) (Nat.le_of_ble_eq_true rfl) (by omega) (t_X11_gain s4 e8) (Nat.le_of_ble_eq_true rfl) rfl (Nat.le_of_ble_eq_true rfl) (Nat.le_of_ble_eq_true rfl) rfl ?_
        refine y_blk (t := 31) rfl (show fnd bk_X11_answers 31 = some _ from rfl) aB_X11_answers ?_
        cases h
        exact y_ret0 (Or.inl rfl) ⟨rfl, rfl, s4⟩
      · rw [if_neg c6] at h
        refine wp_iload_n (v := v1) rfl ?_
        refine wp_iload_n (v := v3) rfl ?_
        refine wp_iload_n (v := v2) rfl ?_
        obtain ⟨x9, e10, h⟩ := d_bind h
        refine y_callS (as := [(0, v1), (0, v3), (0, v2)]) (S1 := []) (Nat.le_of_ble_eq_true rfl) (by omega) (t_X11_gain s4 e10) (Nat.le_of_ble_eq_true rfl) rfl (Nat.le_of_ble_eq_true rfl) (Nat.le_of_ble_eq_true rfl) rfl ?_
        refine wp_goto ?_
        refine y_blk (t := 31) rfl (show fnd bk_X11_answers 31 = some _ from rfl) aB_X11_answers ?_
        cases h
        exact y_ret0 (Or.inl rfl) ⟨rfl, rfl, s4⟩
    · rw [if_neg c5] at h
      refine wp_bipush (by decide) ?_
      cases h
      exact y_ret0 (Or.inl rfl) ⟨rfl, rfl, s4⟩
  exact ⟨fun d hd => Ms.of3 (key d hd), Ms.sh (key 2 (Nat.le_refl _))⟩
theorem aB_X11_isRest : ∀ pc, aB 188 pc = fnd bk_X11_isRest pc := fun _ => rfl
def b_X11_isRest_33 (T : Nat) (v0 : Int) (v1 : Int) (v2 : Int) (z0 : Int) (z1 : Int) (M : aM) : Option Int :=
 (f_X11_gain T z0 z1 v1 M).bind fun x8 =>
 (f_X11_gain T v0 v2 v1 M).bind fun x10 =>
 if x10 < x8 then
 some 0 else
 some 1
theorem tb_X11_isRest_33 {d : Nat} (hd : 1 ≤ d) {T : T3} {v0 : Int} {v1 : Int} {v2 : Int} {z0 : Int} {z1 : Int} {M : aM} {y : Int}  (hS : Sh T.1 M) (h : b_X11_isRest_33 T.1 v0 v1 v2 z0 z1 M = some y) : Wp d 188 33 [] [(0, v0), (0, v1), (0, v2)] [(0, z1), (0, z0)] (M, T) (fun r2 σ2 => r2 = some (0, y) ∧ σ2 = (M, T)) := by
  rw [b_X11_isRest_33] at h
  refine y_blk (t := 33) rfl (show fnd bk_X11_isRest 33 = some _ from rfl) aB_X11_isRest ?_
  refine wp_iload_n (v := v1) rfl ?_
  obtain ⟨x8, e9, h⟩ := d_bind h
  refine y_callS (as := [(0, z0), (0, z1), (0, v1)]) (S1 := []) (Nat.le_of_ble_eq_true rfl) (by omega) (t_X11_gain hS e9) (Nat.le_of_ble_eq_true rfl) rfl (Nat.le_of_ble_eq_true rfl) (Nat.le_of_ble_eq_true rfl) rfl ?_
  refine wp_iload_n (v := v0) rfl ?_
  refine wp_iload_n (v := v2) rfl ?_
  refine wp_iload_n (v := v1) rfl ?_
  obtain ⟨x10, e11, h⟩ := d_bind h
  refine y_callS (as := [(0, v0), (0, v2), (0, v1)]) (S1 := [(0, x8)]) (Nat.le_of_ble_eq_true rfl) (by omega) (t_X11_gain hS e11) (Nat.le_of_ble_eq_true rfl) rfl (Nat.le_of_ble_eq_true rfl) (Nat.le_of_ble_eq_true rfl) rfl ?_
  refine wp_icmp_gt (fun c12 => ?_) (fun c12 => ?_)
  · rw [if_pos c12] at h
    refine y_blk (t := 50) rfl (show fnd bk_X11_isRest 50 = some _ from rfl) aB_X11_isRest ?_
    refine wp_iconst ⟨by decide, by decide⟩ ?_
    refine y_blk (t := 51) rfl (show fnd bk_X11_isRest 51 = some _ from rfl) aB_X11_isRest ?_
    cases h
    exact y_ret0 (Or.inr (Or.inl rfl)) ⟨rfl, rfl⟩
  · rw [if_neg c12] at h
    refine wp_iconst ⟨by decide, by decide⟩ ?_
    refine wp_goto ?_
    refine y_blk (t := 51) rfl (show fnd bk_X11_isRest 51 = some _ from rfl) aB_X11_isRest ?_
    cases h
    exact y_ret0 (Or.inr (Or.inr rfl)) ⟨rfl, rfl⟩
def b_X11_isRest_10 (T : Nat) (v0 : Int) (v1 : Int) (v2 : Int) (z0 : Int) (z1 : Int) (M : aM) : Option Int :=
 (f_X11_gain T z0 z1 v2 M).bind fun x2 =>
 (f_X11_gain T v0 v1 v2 M).bind fun x4 =>
 if x4 < x2 then
 some 0 else
 if v2 = 0 then
 b_X11_isRest_33 T v0 v1 v2 v0 1 M else
 b_X11_isRest_33 T v0 v1 v2 v0 0 M
theorem tb_X11_isRest_10 {d : Nat} (hd : 1 ≤ d) {T : T3} {v0 : Int} {v1 : Int} {v2 : Int} {z0 : Int} {z1 : Int} {M : aM} {y : Int}  (hS : Sh T.1 M) (h : b_X11_isRest_10 T.1 v0 v1 v2 z0 z1 M = some y) : Wp d 188 10 [] [(0, v0), (0, v1), (0, v2)] [(0, z1), (0, z0)] (M, T) (fun r2 σ2 => r2 = some (0, y) ∧ σ2 = (M, T)) := by
  rw [b_X11_isRest_10] at h
  refine y_blk (t := 10) rfl (show fnd bk_X11_isRest 10 = some _ from rfl) aB_X11_isRest ?_
  refine wp_iload_n (v := v2) rfl ?_
  obtain ⟨x2, e3, h⟩ := d_bind h
  refine y_callS (as := [(0, z0), (0, z1), (0, v2)]) (S1 := []) (Nat.le_of_ble_eq_true rfl) (by omega) (t_X11_gain hS e3) (Nat.le_of_ble_eq_true rfl) rfl (Nat.le_of_ble_eq_true rfl) (Nat.le_of_ble_eq_true rfl) rfl ?_
  refine wp_iload_n (v := v0) rfl ?_
  refine wp_iload_n (v := v1) rfl ?_
  refine wp_iload_n (v := v2) rfl ?_
  obtain ⟨x4, e5, h⟩ := d_bind h
  refine y_callS (as := [(0, v0), (0, v1), (0, v2)]) (S1 := [(0, x2)]) (Nat.le_of_ble_eq_true rfl) (by omega) (t_X11_gain hS e5) (Nat.le_of_ble_eq_true rfl) rfl (Nat.le_of_ble_eq_true rfl) (Nat.le_of_ble_eq_true rfl) rfl ?_
  refine wp_icmp_gt (fun c6 => ?_) (fun c6 => ?_)
  · rw [if_pos c6] at h
    refine y_blk (t := 50) rfl (show fnd bk_X11_isRest 50 = some _ from rfl) aB_X11_isRest ?_
    refine wp_iconst ⟨by decide, by decide⟩ ?_
    refine y_blk (t := 51) rfl (show fnd bk_X11_isRest 51 = some _ from rfl) aB_X11_isRest ?_
    cases h
    exact y_ret0 (Or.inr (Or.inl rfl)) ⟨rfl, rfl⟩
  · rw [if_neg c6] at h
    refine wp_iload_n (v := v0) rfl ?_
    refine wp_iload_n (v := v2) rfl ?_
    refine y_nez (fun c7 => ?_) (fun c7 => ?_)
    · rw [if_neg c7] at h
      refine y_blk (t := 32) rfl (show fnd bk_X11_isRest 32 = some _ from rfl) aB_X11_isRest ?_
      refine wp_iconst ⟨by decide, by decide⟩ ?_
      exact tb_X11_isRest_33 hd hS h
    · rw [if_pos c7] at h
      refine wp_iconst ⟨by decide, by decide⟩ ?_
      refine wp_goto ?_
      exact tb_X11_isRest_33 hd hS h
def f_X11_isRest (T : Nat) (v0 : Int) (v1 : Int) (v2 : Int) (M : aM) : Option Int :=
 if v1 = 0 then
 b_X11_isRest_10 T v0 v1 v2 v0 1 M else
 b_X11_isRest_10 T v0 v1 v2 v0 0 M
theorem t_X11_isRest {T : T3} {v0 : Int} {v1 : Int} {v2 : Int} {M : aM} {y : Int}  (hS : Sh T.1 M) (h : f_X11_isRest T.1 v0 v1 v2 M = some y) : Mr 1 188 [(0, v0), (0, v1), (0, v2)] M (some (0, y)) M T := by
  have key : ∀ d, 1 ≤ d → Wp d 188 0 [] [(0, v0), (0, v1), (0, v2)] [] (M, T) (fun r2 σ2 => r2 = some (0, y) ∧ σ2 = (M, T)) := by
    intro d hd
    rw [f_X11_isRest] at h
    refine y_blk (t := 0) rfl (show fnd bk_X11_isRest 0 = some _ from rfl) aB_X11_isRest ?_
    refine wp_iload_n (v := v0) rfl ?_
    refine wp_iload_n (v := v1) rfl ?_
    refine y_nez (fun c1 => ?_) (fun c1 => ?_)
    · rw [if_neg c1] at h
      refine y_blk (t := 9) rfl (show fnd bk_X11_isRest 9 = some _ from rfl) aB_X11_isRest ?_
      refine wp_iconst ⟨by decide, by decide⟩ ?_
      exact tb_X11_isRest_10 hd hS h
    · rw [if_pos c1] at h
      refine wp_iconst ⟨by decide, by decide⟩ ?_
      refine wp_goto ?_
      exact tb_X11_isRest_10 hd hS h
  exact fun d hd => Ms.of (key d hd)
theorem aB_X11_rests : ∀ pc, aB 153 pc = fnd bk_X11_rests pc := fun _ => rfl
def l_X11_rests_14 (T : Nat) (v1 : Int) (M : aM) (k : Int → Int → Option (Int × aM)) : Nat → Int → Int → Option (Int × aM)
| 0, _, _ => none
| n + 1, v2, v3 =>
 if 4 ≤ v3 then
 k v2 v3 else
 if v3 < 2 then
 if (arem v3 2) = 1 then
 (f_X11_isRest T v1 0 1 M).bind fun x15 =>
 if x15 = 0 then
 if aIn (v3 + 1) then
 l_X11_rests_14 T v1 M k n v2 (v3 + 1) else none else
 if aIn (v2 + 1) then
 if aIn (v3 + 1) then
 l_X11_rests_14 T v1 M k n (v2 + 1) (v3 + 1) else none else none else
 (f_X11_isRest T v1 0 0 M).bind fun x9 =>
 if x9 = 0 then
 if aIn (v3 + 1) then
 l_X11_rests_14 T v1 M k n v2 (v3 + 1) else none else
 if aIn (v2 + 1) then
 if aIn (v3 + 1) then
 l_X11_rests_14 T v1 M k n (v2 + 1) (v3 + 1) else none else none else
 if (arem v3 2) = 1 then
 (f_X11_isRest T v1 1 1 M).bind fun x28 =>
 if x28 = 0 then
 if aIn (v3 + 1) then
 l_X11_rests_14 T v1 M k n v2 (v3 + 1) else none else
 if aIn (v2 + 1) then
 if aIn (v3 + 1) then
 l_X11_rests_14 T v1 M k n (v2 + 1) (v3 + 1) else none else none else
 (f_X11_isRest T v1 1 0 M).bind fun x22 =>
 if x22 = 0 then
 if aIn (v3 + 1) then
 l_X11_rests_14 T v1 M k n v2 (v3 + 1) else none else
 if aIn (v2 + 1) then
 if aIn (v3 + 1) then
 l_X11_rests_14 T v1 M k n (v2 + 1) (v3 + 1) else none else none
theorem tl_X11_rests_14 {d : Nat} (hd : 2 ≤ d) {T : T3} {v1 : Int} {M : aM} {k : Int → Int → Option (Int × aM)} {y : (Int × aM)}  (hS : Sh T.1 M)
    (hk : ∀ (v2 v3 : Int) (u0 : aV), Sh T.1 M → k v2 v3 = some y → Wp d 153 57 [] [u0, (0, v1), (0, v2), (0, v3)] [] (M, T) (fun r2 σ2 => r2 = some (0, y.1) ∧ σ2 = (y.2, T) ∧ Sh T.1 y.2)) :
    ∀ (n : Nat) (v2 v3 : Int) (u0 : aV), Sh T.1 M → l_X11_rests_14 T.1 v1 M k n v2 v3 = some y → Wp d 153 14 [] [u0, (0, v1), (0, v2), (0, v3)] [] (M, T) (fun r2 σ2 => r2 = some (0, y.1) ∧ σ2 = (y.2, T) ∧ Sh T.1 y.2) := by
  intro n
  induction n with
  | zero =>
    intro v2 v3 u0 _ h
    exact nomatch (show (none : Option (Int × aM)) = some y from h)
  | succ n ih =>
    intro v2 v3 u0 sM h
    rw [l_X11_rests_14] at h
    refine y_blk (t := 14) rfl (show fnd bk_X11_rests 14 = some _ from rfl) aB_X11_rests ?_
    refine wp_iload_n (v := v3) rfl ?_
    refine wp_iconst ⟨by decide, by decide⟩ ?_
    refine wp_icmp_ge (fun c6 => ?_) (fun c6 => ?_)
    · rw [if_pos c6] at h
      exact hk v2 v3 u0  sM h
    · rw [if_neg c6] at h
      refine wp_iload_n (v := v1) rfl ?_
      refine wp_iload_n (v := v3) rfl ?_
      refine wp_iconst ⟨by decide, by decide⟩ ?_
      refine wp_icmp_lt (fun c7 => ?_) (fun c7 => ?_)
      · rw [if_pos c7] at h
        refine y_blk (t := 29) rfl (show fnd bk_X11_rests 29 = some _ from rfl) aB_X11_rests ?_
        refine wp_iconst ⟨by decide, by decide⟩ ?_
        refine y_blk (t := 30) rfl (show fnd bk_X11_rests 30 = some _ from rfl) aB_X11_rests ?_
        refine wp_iload_n (v := v3) rfl ?_
        refine wp_iconst ⟨by decide, by decide⟩ ?_
        refine wp_irem (by decide) ?_
        refine wp_iconst ⟨by decide, by decide⟩ ?_
        refine y_ne (fun c8 => ?_) (fun c8 => ?_)
        · rw [if_neg c8] at h
          refine y_blk (t := 41) rfl (show fnd bk_X11_rests 41 = some _ from rfl) aB_X11_rests ?_
          refine wp_iconst ⟨by decide, by decide⟩ ?_
          refine y_blk (t := 42) rfl (show fnd bk_X11_rests 42 = some _ from rfl) aB_X11_rests ?_
          obtain ⟨x9, e10, h⟩ := d_bind h
          refine y_callS (as := [(0, v1), (0, 0), (0, 0)]) (S1 := []) (Nat.le_of_ble_eq_true rfl) (by omega) (t_X11_isRest sM e10) (Nat.le_of_ble_eq_true rfl) rfl (Nat.le_of_ble_eq_true rfl) (Nat.le_of_ble_eq_true rfl) rfl ?_
          refine wp_if_eq (fun c11 => ?_) (fun c11 => ?_)
          · rw [if_pos c11] at h
            refine y_blk (t := 51) rfl (show fnd bk_X11_rests 51 = some _ from rfl) aB_X11_rests ?_
            obtain ⟨c12, h⟩ := d_ite h
            refine y_iinc (L1 := [u0, (0, v1), (0, v2), (0, (v3 + 1))]) rfl (Nat.le_of_ble_eq_true rfl) ⟨by decide, by decide⟩ c12 rfl ?_
            refine wp_goto ?_
            exact ih v2 (v3 + 1) u0  sM h
          · rw [if_neg c11] at h
            obtain ⟨c13, h⟩ := d_ite h
            refine y_iinc (L1 := [u0, (0, v1), (0, (v2 + 1)), (0, v3)]) rfl (Nat.le_of_ble_eq_true rfl) ⟨by decide, by decide⟩ c13 rfl ?_
            refine y_blk (t := 51) rfl (show fnd bk_X11_rests 51 = some _ from rfl) aB_X11_rests ?_
            obtain ⟨c14, h⟩ := d_ite h
            refine y_iinc (L1 := [u0, (0, v1), (0, (v2 + 1)), (0, (v3 + 1))]) rfl (Nat.le_of_ble_eq_true rfl) ⟨by decide, by decide⟩ c14 rfl ?_
            refine wp_goto ?_
            exact ih (v2 + 1) (v3 + 1) u0  sM h
        · rw [if_pos c8] at h
          refine wp_iconst ⟨by decide, by decide⟩ ?_
          refine wp_goto ?_
          refine y_blk (t := 42) rfl (show fnd bk_X11_rests 42 = some _ from rfl) aB_X11_rests ?_
          obtain ⟨x15, e16, h⟩ := d_bind h
          refine y_callS (as := [(0, v1), (0, 0), (0, 1)]) (S1 := []) (Nat.le_of_ble_eq_true rfl) (by omega) (t_X11_isRest sM e16) (Nat.le_of_ble_eq_true rfl) rfl (Nat.le_of_ble_eq_true rfl) (Nat.le_of_ble_eq_true rfl) rfl ?_
          refine wp_if_eq (fun c17 => ?_) (fun c17 => ?_)
          · rw [if_pos c17] at h
            refine y_blk (t := 51) rfl (show fnd bk_X11_rests 51 = some _ from rfl) aB_X11_rests ?_
            obtain ⟨c18, h⟩ := d_ite h
            refine y_iinc (L1 := [u0, (0, v1), (0, v2), (0, (v3 + 1))]) rfl (Nat.le_of_ble_eq_true rfl) ⟨by decide, by decide⟩ c18 rfl ?_
            refine wp_goto ?_
            exact ih v2 (v3 + 1) u0  sM h
          · rw [if_neg c17] at h
            obtain ⟨c19, h⟩ := d_ite h
            refine y_iinc (L1 := [u0, (0, v1), (0, (v2 + 1)), (0, v3)]) rfl (Nat.le_of_ble_eq_true rfl) ⟨by decide, by decide⟩ c19 rfl ?_
            refine y_blk (t := 51) rfl (show fnd bk_X11_rests 51 = some _ from rfl) aB_X11_rests ?_
            obtain ⟨c20, h⟩ := d_ite h
            refine y_iinc (L1 := [u0, (0, v1), (0, (v2 + 1)), (0, (v3 + 1))]) rfl (Nat.le_of_ble_eq_true rfl) ⟨by decide, by decide⟩ c20 rfl ?_
            refine wp_goto ?_
            exact ih (v2 + 1) (v3 + 1) u0  sM h
      · rw [if_neg c7] at h
        refine wp_iconst ⟨by decide, by decide⟩ ?_
        refine wp_goto ?_
        refine y_blk (t := 30) rfl (show fnd bk_X11_rests 30 = some _ from rfl) aB_X11_rests ?_
        refine wp_iload_n (v := v3) rfl ?_
        refine wp_iconst ⟨by decide, by decide⟩ ?_
        refine wp_irem (by decide) ?_
        refine wp_iconst ⟨by decide, by decide⟩ ?_
        refine y_ne (fun c21 => ?_) (fun c21 => ?_)
        · rw [if_neg c21] at h
          refine y_blk (t := 41) rfl (show fnd bk_X11_rests 41 = some _ from rfl) aB_X11_rests ?_
          refine wp_iconst ⟨by decide, by decide⟩ ?_
          refine y_blk (t := 42) rfl (show fnd bk_X11_rests 42 = some _ from rfl) aB_X11_rests ?_
          obtain ⟨x22, e23, h⟩ := d_bind h
          refine y_callS (as := [(0, v1), (0, 1), (0, 0)]) (S1 := []) (Nat.le_of_ble_eq_true rfl) (by omega) (t_X11_isRest sM e23) (Nat.le_of_ble_eq_true rfl) rfl (Nat.le_of_ble_eq_true rfl) (Nat.le_of_ble_eq_true rfl) rfl ?_
          refine wp_if_eq (fun c24 => ?_) (fun c24 => ?_)
          · rw [if_pos c24] at h
            refine y_blk (t := 51) rfl (show fnd bk_X11_rests 51 = some _ from rfl) aB_X11_rests ?_
            obtain ⟨c25, h⟩ := d_ite h
            refine y_iinc (L1 := [u0, (0, v1), (0, v2), (0, (v3 + 1))]) rfl (Nat.le_of_ble_eq_true rfl) ⟨by decide, by decide⟩ c25 rfl ?_
            refine wp_goto ?_
            exact ih v2 (v3 + 1) u0  sM h
          · rw [if_neg c24] at h
            obtain ⟨c26, h⟩ := d_ite h
            refine y_iinc (L1 := [u0, (0, v1), (0, (v2 + 1)), (0, v3)]) rfl (Nat.le_of_ble_eq_true rfl) ⟨by decide, by decide⟩ c26 rfl ?_
            refine y_blk (t := 51) rfl (show fnd bk_X11_rests 51 = some _ from rfl) aB_X11_rests ?_
            obtain ⟨c27, h⟩ := d_ite h
            refine y_iinc (L1 := [u0, (0, v1), (0, (v2 + 1)), (0, (v3 + 1))]) rfl (Nat.le_of_ble_eq_true rfl) ⟨by decide, by decide⟩ c27 rfl ?_
            refine wp_goto ?_
            exact ih (v2 + 1) (v3 + 1) u0  sM h
        · rw [if_pos c21] at h
          refine wp_iconst ⟨by decide, by decide⟩ ?_
          refine wp_goto ?_
          refine y_blk (t := 42) rfl (show fnd bk_X11_rests 42 = some _ from rfl) aB_X11_rests ?_
          obtain ⟨x28, e29, h⟩ := d_bind h
          refine y_callS (as := [(0, v1), (0, 1), (0, 1)]) (S1 := []) (Nat.le_of_ble_eq_true rfl) (by omega) (t_X11_isRest sM e29) (Nat.le_of_ble_eq_true rfl) rfl (Nat.le_of_ble_eq_true rfl) (Nat.le_of_ble_eq_true rfl) rfl ?_
          refine wp_if_eq (fun c30 => ?_) (fun c30 => ?_)
          · rw [if_pos c30] at h
            refine y_blk (t := 51) rfl (show fnd bk_X11_rests 51 = some _ from rfl) aB_X11_rests ?_
            obtain ⟨c31, h⟩ := d_ite h
            refine y_iinc (L1 := [u0, (0, v1), (0, v2), (0, (v3 + 1))]) rfl (Nat.le_of_ble_eq_true rfl) ⟨by decide, by decide⟩ c31 rfl ?_
            refine wp_goto ?_
            exact ih v2 (v3 + 1) u0  sM h
          · rw [if_neg c30] at h
            obtain ⟨c32, h⟩ := d_ite h
            refine y_iinc (L1 := [u0, (0, v1), (0, (v2 + 1)), (0, v3)]) rfl (Nat.le_of_ble_eq_true rfl) ⟨by decide, by decide⟩ c32 rfl ?_
            refine y_blk (t := 51) rfl (show fnd bk_X11_rests 51 = some _ from rfl) aB_X11_rests ?_
            obtain ⟨c33, h⟩ := d_ite h
            refine y_iinc (L1 := [u0, (0, v1), (0, (v2 + 1)), (0, (v3 + 1))]) rfl (Nat.le_of_ble_eq_true rfl) ⟨by decide, by decide⟩ c33 rfl ?_
            refine wp_goto ?_
            exact ih (v2 + 1) (v3 + 1) u0  sM h
def f_X11_rests (T : Nat) (v1 : Int) (M : aM) : Option (Int × aM) :=
 (f_X11_refusesFear T v1 M).bind fun x1 =>
 if x1.1 = 0 then
 l_X11_rests_14 T v1 x1.2 (fun w34 w35 =>
 some (w34, x1.2)) FU 0 0 else
 some ((-1), x1.2)
theorem t_X11_rests {T : T3} {v1 : Int} {M : aM} {y : (Int × aM)}  (hS : Sh T.1 M) (h : f_X11_rests T.1 v1 M = some y) : Mr 2 153 [(2, ((0 : Nat) : Int)), (0, v1)] M (some (0, y.1)) y.2 T ∧ Sh T.1 y.2 := by
  have key : ∀ d, 2 ≤ d → Wp d 153 0 [] [(2, ((0 : Nat) : Int)), (0, v1), (9, 0), (9, 0)] [] (M, T) (fun r2 σ2 => r2 = some (0, y.1) ∧ σ2 = (y.2, T) ∧ Sh T.1 y.2) := by
    intro d hd
    rw [f_X11_rests] at h
    refine y_blk (t := 0) rfl (show fnd bk_X11_rests 0 = some _ from rfl) aB_X11_rests ?_
    refine wp_aload_n (v := ((0 : Nat) : Int)) rfl (Int.natCast_nonneg _) ?_
    refine wp_iload_n (v := v1) rfl ?_
    obtain ⟨x1, e2, h⟩ := d_bind h
    obtain ⟨r3, s4⟩ := t_X11_refusesFear hS e2
    refine y_callV (as := [(0, v1)]) (S1 := []) (Nat.le_of_ble_eq_true rfl) (by omega) r3 (Nat.le_of_ble_eq_true rfl) rfl (show ash 0 = (11, 15) from rfl) (Nat.lt_of_lt_of_le (show 0 < 154 by decide) hS.1.1) (Nat.le_of_ble_eq_true rfl) (Nat.le_of_ble_eq_true rfl) rfl ?_
    refine wp_if_eq (fun c5 => ?_) (fun c5 => ?_)
    · rw [if_pos c5] at h
      refine y_blk (t := 10) rfl (show fnd bk_X11_rests 10 = some _ from rfl) aB_X11_rests ?_
      refine wp_iconst ⟨by decide, by decide⟩ ?_
      refine y_stn (L1 := [(2, ((0 : Nat) : Int)), (0, v1), (0, 0), (9, 0)]) (Nat.le_of_ble_eq_true rfl) rfl ?_
      refine wp_iconst ⟨by decide, by decide⟩ ?_
      refine y_stn (L1 := [(2, ((0 : Nat) : Int)), (0, v1), (0, 0), (0, 0)]) (Nat.le_of_ble_eq_true rfl) rfl ?_
      refine tl_X11_rests_14 (by omega) s4 (fun w34 w35 u36  s37 h => ?_) FU 0 0 (2, ((0 : Nat) : Int))  s4 h
      refine y_blk (t := 57) rfl (show fnd bk_X11_rests 57 = some _ from rfl) aB_X11_rests ?_
      refine wp_iload_n (v := w34) rfl ?_
      cases h
      exact y_ret0 (Or.inl rfl) ⟨rfl, rfl, s37⟩
    · rw [if_neg c5] at h
      refine wp_iconst ⟨by decide, by decide⟩ ?_
      cases h
      exact y_ret0 (Or.inl rfl) ⟨rfl, rfl, s4⟩
  exact ⟨fun d hd => Ms.of3 (key d hd), Ms.sh (key 2 (Nat.le_refl _))⟩
theorem aB_X11_rest : ∀ pc, aB 154 pc = fnd bk_X11_rest pc := fun _ => rfl
def l_X11_rest_12 (T : Nat) (v1 : Int) (M : aM) (k : Int → Option (Int × aM)) : Nat → Int → Option (Int × aM)
| 0, _ => none
| n + 1, v2 =>
 if 4 ≤ v2 then
 k v2 else
 if v2 < 2 then
 if (arem v2 2) = 1 then
 (f_X11_isRest T v1 0 1 M).bind fun x15 =>
 if x15 = 0 then
 if aIn (v2 + 1) then
 l_X11_rest_12 T v1 M k n (v2 + 1) else none else
 if aIn ((adiv v2 2) * 10) then
 if aIn (((adiv v2 2) * 10) + (arem v2 2)) then
 some ((((adiv v2 2) * 10) + (arem v2 2)), M) else none else none else
 (f_X11_isRest T v1 0 0 M).bind fun x9 =>
 if x9 = 0 then
 if aIn (v2 + 1) then
 l_X11_rest_12 T v1 M k n (v2 + 1) else none else
 if aIn ((adiv v2 2) * 10) then
 if aIn (((adiv v2 2) * 10) + (arem v2 2)) then
 some ((((adiv v2 2) * 10) + (arem v2 2)), M) else none else none else
 if (arem v2 2) = 1 then
 (f_X11_isRest T v1 1 1 M).bind fun x28 =>
 if x28 = 0 then
 if aIn (v2 + 1) then
 l_X11_rest_12 T v1 M k n (v2 + 1) else none else
 if aIn ((adiv v2 2) * 10) then
 if aIn (((adiv v2 2) * 10) + (arem v2 2)) then
 some ((((adiv v2 2) * 10) + (arem v2 2)), M) else none else none else
 (f_X11_isRest T v1 1 0 M).bind fun x22 =>
 if x22 = 0 then
 if aIn (v2 + 1) then
 l_X11_rest_12 T v1 M k n (v2 + 1) else none else
 if aIn ((adiv v2 2) * 10) then
 if aIn (((adiv v2 2) * 10) + (arem v2 2)) then
 some ((((adiv v2 2) * 10) + (arem v2 2)), M) else none else none
theorem tl_X11_rest_12 {d : Nat} (hd : 2 ≤ d) {T : T3} {v1 : Int} {M : aM} {k : Int → Option (Int × aM)} {y : (Int × aM)}  (hS : Sh T.1 M)
    (hk : ∀ (v2 : Int) (u0 : aV), Sh T.1 M → k v2 = some y → Wp d 154 63 [] [u0, (0, v1), (0, v2)] [] (M, T) (fun r2 σ2 => r2 = some (0, y.1) ∧ σ2 = (y.2, T) ∧ Sh T.1 y.2)) :
    ∀ (n : Nat) (v2 : Int) (u0 : aV), Sh T.1 M → l_X11_rest_12 T.1 v1 M k n v2 = some y → Wp d 154 12 [] [u0, (0, v1), (0, v2)] [] (M, T) (fun r2 σ2 => r2 = some (0, y.1) ∧ σ2 = (y.2, T) ∧ Sh T.1 y.2) := by
  intro n
  induction n with
  | zero =>
    intro v2 u0 _ h
    exact nomatch (show (none : Option (Int × aM)) = some y from h)
  | succ n ih =>
    intro v2 u0 sM h
    rw [l_X11_rest_12] at h
    refine y_blk (t := 12) rfl (show fnd bk_X11_rest 12 = some _ from rfl) aB_X11_rest ?_
    refine wp_iload_n (v := v2) rfl ?_
    refine wp_iconst ⟨by decide, by decide⟩ ?_
    refine wp_icmp_ge (fun c6 => ?_) (fun c6 => ?_)
    · rw [if_pos c6] at h
      exact hk v2 u0  sM h
    · rw [if_neg c6] at h
      refine wp_iload_n (v := v1) rfl ?_
      refine wp_iload_n (v := v2) rfl ?_
      refine wp_iconst ⟨by decide, by decide⟩ ?_
      refine wp_icmp_lt (fun c7 => ?_) (fun c7 => ?_)
      · rw [if_pos c7] at h
        refine y_blk (t := 27) rfl (show fnd bk_X11_rest 27 = some _ from rfl) aB_X11_rest ?_
        refine wp_iconst ⟨by decide, by decide⟩ ?_
        refine y_blk (t := 28) rfl (show fnd bk_X11_rest 28 = some _ from rfl) aB_X11_rest ?_
        refine wp_iload_n (v := v2) rfl ?_
        refine wp_iconst ⟨by decide, by decide⟩ ?_
        refine wp_irem (by decide) ?_
        refine wp_iconst ⟨by decide, by decide⟩ ?_
        refine y_ne (fun c8 => ?_) (fun c8 => ?_)
        · rw [if_neg c8] at h
          refine y_blk (t := 39) rfl (show fnd bk_X11_rest 39 = some _ from rfl) aB_X11_rest ?_
          refine wp_iconst ⟨by decide, by decide⟩ ?_
          refine y_blk (t := 40) rfl (show fnd bk_X11_rest 40 = some _ from rfl) aB_X11_rest ?_
          obtain ⟨x9, e10, h⟩ := d_bind h
          refine y_callS (as := [(0, v1), (0, 0), (0, 0)]) (S1 := []) (Nat.le_of_ble_eq_true rfl) (by omega) (t_X11_isRest sM e10) (Nat.le_of_ble_eq_true rfl) rfl (Nat.le_of_ble_eq_true rfl) (Nat.le_of_ble_eq_true rfl) rfl ?_
          refine wp_if_eq (fun c11 => ?_) (fun c11 => ?_)
          · rw [if_pos c11] at h
            refine y_blk (t := 57) rfl (show fnd bk_X11_rest 57 = some _ from rfl) aB_X11_rest ?_
            obtain ⟨c12, h⟩ := d_ite h
            refine y_iinc (L1 := [u0, (0, v1), (0, (v2 + 1))]) rfl (Nat.le_of_ble_eq_true rfl) ⟨by decide, by decide⟩ c12 rfl ?_
            refine wp_goto ?_
            exact ih (v2 + 1) u0  sM h
          · rw [if_neg c11] at h
            refine wp_iload_n (v := v2) rfl ?_
            refine wp_iconst ⟨by decide, by decide⟩ ?_
            refine wp_idiv (by decide) ?_
            refine wp_bipush (by decide) ?_
            obtain ⟨c13, h⟩ := d_ite h
            refine wp_imul c13 ?_
            refine wp_iload_n (v := v2) rfl ?_
            refine wp_iconst ⟨by decide, by decide⟩ ?_
            refine wp_irem (by decide) ?_
            obtain ⟨c14, h⟩ := d_ite h
            refine wp_iadd c14 ?_
            cases h
            exact y_ret0 (Or.inl rfl) ⟨rfl, rfl, sM⟩
        · rw [if_pos c8] at h
          refine wp_iconst ⟨by decide, by decide⟩ ?_
          refine wp_goto ?_
          refine y_blk (t := 40) rfl (show fnd bk_X11_rest 40 = some _ from rfl) aB_X11_rest ?_
          obtain ⟨x15, e16, h⟩ := d_bind h
          refine y_callS (as := [(0, v1), (0, 0), (0, 1)]) (S1 := []) (Nat.le_of_ble_eq_true rfl) (by omega) (t_X11_isRest sM e16) (Nat.le_of_ble_eq_true rfl) rfl (Nat.le_of_ble_eq_true rfl) (Nat.le_of_ble_eq_true rfl) rfl ?_
          refine wp_if_eq (fun c17 => ?_) (fun c17 => ?_)
          · rw [if_pos c17] at h
            refine y_blk (t := 57) rfl (show fnd bk_X11_rest 57 = some _ from rfl) aB_X11_rest ?_
            obtain ⟨c18, h⟩ := d_ite h
            refine y_iinc (L1 := [u0, (0, v1), (0, (v2 + 1))]) rfl (Nat.le_of_ble_eq_true rfl) ⟨by decide, by decide⟩ c18 rfl ?_
            refine wp_goto ?_
            exact ih (v2 + 1) u0  sM h
          · rw [if_neg c17] at h
            refine wp_iload_n (v := v2) rfl ?_
            refine wp_iconst ⟨by decide, by decide⟩ ?_
            refine wp_idiv (by decide) ?_
            refine wp_bipush (by decide) ?_
            obtain ⟨c19, h⟩ := d_ite h
            refine wp_imul c19 ?_
            refine wp_iload_n (v := v2) rfl ?_
            refine wp_iconst ⟨by decide, by decide⟩ ?_
            refine wp_irem (by decide) ?_
            obtain ⟨c20, h⟩ := d_ite h
            refine wp_iadd c20 ?_
            cases h
            exact y_ret0 (Or.inl rfl) ⟨rfl, rfl, sM⟩
      · rw [if_neg c7] at h
        refine wp_iconst ⟨by decide, by decide⟩ ?_
        refine wp_goto ?_
        refine y_blk (t := 28) rfl (show fnd bk_X11_rest 28 = some _ from rfl) aB_X11_rest ?_
        refine wp_iload_n (v := v2) rfl ?_
        refine wp_iconst ⟨by decide, by decide⟩ ?_
        refine wp_irem (by decide) ?_
        refine wp_iconst ⟨by decide, by decide⟩ ?_
        refine y_ne (fun c21 => ?_) (fun c21 => ?_)
        · rw [if_neg c21] at h
          refine y_blk (t := 39) rfl (show fnd bk_X11_rest 39 = some _ from rfl) aB_X11_rest ?_
          refine wp_iconst ⟨by decide, by decide⟩ ?_
          refine y_blk (t := 40) rfl (show fnd bk_X11_rest 40 = some _ from rfl) aB_X11_rest ?_
          obtain ⟨x22, e23, h⟩ := d_bind h
          refine y_callS (as := [(0, v1), (0, 1), (0, 0)]) (S1 := []) (Nat.le_of_ble_eq_true rfl) (by omega) (t_X11_isRest sM e23) (Nat.le_of_ble_eq_true rfl) rfl (Nat.le_of_ble_eq_true rfl) (Nat.le_of_ble_eq_true rfl) rfl ?_
          refine wp_if_eq (fun c24 => ?_) (fun c24 => ?_)
          · rw [if_pos c24] at h
            refine y_blk (t := 57) rfl (show fnd bk_X11_rest 57 = some _ from rfl) aB_X11_rest ?_
            obtain ⟨c25, h⟩ := d_ite h
            refine y_iinc (L1 := [u0, (0, v1), (0, (v2 + 1))]) rfl (Nat.le_of_ble_eq_true rfl) ⟨by decide, by decide⟩ c25 rfl ?_
            refine wp_goto ?_
            exact ih (v2 + 1) u0  sM h
          · rw [if_neg c24] at h
            refine wp_iload_n (v := v2) rfl ?_
            refine wp_iconst ⟨by decide, by decide⟩ ?_
            refine wp_idiv (by decide) ?_
            refine wp_bipush (by decide) ?_
            obtain ⟨c26, h⟩ := d_ite h
            refine wp_imul c26 ?_
            refine wp_iload_n (v := v2) rfl ?_
            refine wp_iconst ⟨by decide, by decide⟩ ?_
            refine wp_irem (by decide) ?_
            obtain ⟨c27, h⟩ := d_ite h
            refine wp_iadd c27 ?_
            cases h
            exact y_ret0 (Or.inl rfl) ⟨rfl, rfl, sM⟩
        · rw [if_pos c21] at h
          refine wp_iconst ⟨by decide, by decide⟩ ?_
          refine wp_goto ?_
          refine y_blk (t := 40) rfl (show fnd bk_X11_rest 40 = some _ from rfl) aB_X11_rest ?_
          obtain ⟨x28, e29, h⟩ := d_bind h
          refine y_callS (as := [(0, v1), (0, 1), (0, 1)]) (S1 := []) (Nat.le_of_ble_eq_true rfl) (by omega) (t_X11_isRest sM e29) (Nat.le_of_ble_eq_true rfl) rfl (Nat.le_of_ble_eq_true rfl) (Nat.le_of_ble_eq_true rfl) rfl ?_
          refine wp_if_eq (fun c30 => ?_) (fun c30 => ?_)
          · rw [if_pos c30] at h
            refine y_blk (t := 57) rfl (show fnd bk_X11_rest 57 = some _ from rfl) aB_X11_rest ?_
            obtain ⟨c31, h⟩ := d_ite h
            refine y_iinc (L1 := [u0, (0, v1), (0, (v2 + 1))]) rfl (Nat.le_of_ble_eq_true rfl) ⟨by decide, by decide⟩ c31 rfl ?_
            refine wp_goto ?_
            exact ih (v2 + 1) u0  sM h
          · rw [if_neg c30] at h
            refine wp_iload_n (v := v2) rfl ?_
            refine wp_iconst ⟨by decide, by decide⟩ ?_
            refine wp_idiv (by decide) ?_
            refine wp_bipush (by decide) ?_
            obtain ⟨c32, h⟩ := d_ite h
            refine wp_imul c32 ?_
            refine wp_iload_n (v := v2) rfl ?_
            refine wp_iconst ⟨by decide, by decide⟩ ?_
            refine wp_irem (by decide) ?_
            obtain ⟨c33, h⟩ := d_ite h
            refine wp_iadd c33 ?_
            cases h
            exact y_ret0 (Or.inl rfl) ⟨rfl, rfl, sM⟩
def f_X11_rest (T : Nat) (v1 : Int) (M : aM) : Option (Int × aM) :=
 (f_X11_refusesFear T v1 M).bind fun x1 =>
 if x1.1 = 0 then
 l_X11_rest_12 T v1 x1.2 (fun w34 =>
 some ((-2), x1.2)) FU 0 else
 some ((-1), x1.2)
theorem t_X11_rest {T : T3} {v1 : Int} {M : aM} {y : (Int × aM)}  (hS : Sh T.1 M) (h : f_X11_rest T.1 v1 M = some y) : Mr 2 154 [(2, ((0 : Nat) : Int)), (0, v1)] M (some (0, y.1)) y.2 T ∧ Sh T.1 y.2 := by
  have key : ∀ d, 2 ≤ d → Wp d 154 0 [] [(2, ((0 : Nat) : Int)), (0, v1), (9, 0)] [] (M, T) (fun r2 σ2 => r2 = some (0, y.1) ∧ σ2 = (y.2, T) ∧ Sh T.1 y.2) := by
    intro d hd
    rw [f_X11_rest] at h
    refine y_blk (t := 0) rfl (show fnd bk_X11_rest 0 = some _ from rfl) aB_X11_rest ?_
    refine wp_aload_n (v := ((0 : Nat) : Int)) rfl (Int.natCast_nonneg _) ?_
    refine wp_iload_n (v := v1) rfl ?_
    obtain ⟨x1, e2, h⟩ := d_bind h
    obtain ⟨r3, s4⟩ := t_X11_refusesFear hS e2
    refine y_callV (as := [(0, v1)]) (S1 := []) (Nat.le_of_ble_eq_true rfl) (by omega) r3 (Nat.le_of_ble_eq_true rfl) rfl (show ash 0 = (11, 15) from rfl) (Nat.lt_of_lt_of_le (show 0 < 154 by decide) hS.1.1) (Nat.le_of_ble_eq_true rfl) (Nat.le_of_ble_eq_true rfl) rfl ?_
    refine wp_if_eq (fun c5 => ?_) (fun c5 => ?_)
    · rw [if_pos c5] at h
      refine y_blk (t := 10) rfl (show fnd bk_X11_rest 10 = some _ from rfl) aB_X11_rest ?_
      refine wp_iconst ⟨by decide, by decide⟩ ?_
      refine y_stn (L1 := [(2, ((0 : Nat) : Int)), (0, v1), (0, 0)]) (Nat.le_of_ble_eq_true rfl) rfl ?_
      refine tl_X11_rest_12 (by omega) s4 (fun w34 u35  s36 h => ?_) FU 0 (2, ((0 : Nat) : Int))  s4 h
      refine y_blk (t := 63) rfl (show fnd bk_X11_rest 63 = some _ from rfl) aB_X11_rest ?_
      refine wp_bipush (by decide) ?_
      cases h
      exact y_ret0 (Or.inl rfl) ⟨rfl, rfl, s36⟩
    · rw [if_neg c5] at h
      refine wp_iconst ⟨by decide, by decide⟩ ?_
      cases h
      exact y_ret0 (Or.inl rfl) ⟨rfl, rfl, s4⟩
  exact ⟨fun d hd => Ms.of3 (key d hd), Ms.sh (key 2 (Nat.le_refl _))⟩

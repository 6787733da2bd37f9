/-! ===== methods as functions ===== -/
theorem aB_X11_allow : ∀ pc, aB 171 pc = fnd bk_X11_allow pc := fun _ => rfl
def f_X11_allow (T : Nat) (v1 : Int) (M : aM) : Option (Int × aM) :=
 (some (aup M 0 14 0)).bind fun m1 =>
 some (v1, m1)
theorem t_X11_allow {T : T3} {v1 : Int} {M : aM} {y : (Int × aM)}  (hS : Sh T.1 M) (h : f_X11_allow T.1 v1 M = some y) : Mr 0 171 [(2, ((0 : Nat) : Int)), (0, v1)] M (some (0, y.1)) y.2 T ∧ Sh T.1 y.2 := by
  have key : ∀ d, 0 ≤ d → Wp d 171 0 [] [(2, ((0 : Nat) : Int)), (0, v1)] [] (M, T) (fun r2 σ2 => r2 = some (0, y.1) ∧ σ2 = (y.2, T) ∧ Sh T.1 y.2) := by
    intro d hd
    rw [f_X11_allow] at h
    refine y_blk (t := 0) rfl (show fnd bk_X11_allow 0 = some _ from rfl) aB_X11_allow ?_
    refine wp_aload_n (v := ((0 : Nat) : Int)) rfl (Int.natCast_nonneg _) ?_
    refine wp_iconst ⟨by decide, by decide⟩ ?_
    refine y_put (show ash 0 = (11, 15) from rfl) (Nat.lt_of_lt_of_le (show 0 < 154 by decide) hS.1.1) rfl ?_
    obtain ⟨m1, em1, h⟩ := d_bind h
    have em1 := Option.some.inj em1
    have s2 : Sh T.1 m1 := em1 ▸ hS.up (Or.inr ⟨by rw [(show ash 0 = (11, 15) from rfl)]; decide, by rw [(show ash 0 = (11, 15) from rfl)]; decide⟩) (by have := (Nat.lt_of_lt_of_le (show 0 < 154 by decide) hS.1.1); have := hS.1.2; omega)
    rw [em1]
    refine wp_iload_n (v := v1) rfl ?_
    cases h
    exact y_ret0 (Or.inl rfl) ⟨rfl, rfl, s2⟩
  exact ⟨fun d hd => Ms.of3 (key d hd), Ms.sh (key 0 (Nat.le_refl _))⟩
theorem aB_X11_well : ∀ pc, aB 115 pc = fnd bk_X11_well pc := fun _ => rfl
def f_X11_well (T : Nat) (v1 : Int) (M : aM) : Option (Int × aM) :=
 if v1 < 0 then
 (f_X11_refuse T 2 M).bind fun x2 =>
 some (x2.1, x2.2) else
 if v1 ≤ (M 0 1) then
 (some (aup M 0 1 0)).bind fun m7 =>
 (f_X7_read T v1 m7).bind fun x9 =>
 if x9.1 = 0 then
 (f_X11_refuse T 4 x9.2).bind fun x38 =>
 some (x38.1, x38.2) else
 (f_X10_take T 2 17 x9.2).bind fun x14 =>
 (f_X8_begin T 35 2 x14.2).bind fun x18 =>
 (f_X5_lay T 42 (x18.2 2 9) x18.2).bind fun x22 =>
 (f_X5_lay T 39 (x22.2 35 3) x22.2).bind fun x26 =>
 (f_X4_empty T x26.2).bind fun x30 =>
 (f_X11_allow T (x30.2 3 1) x30.2).bind fun x34 =>
 some (x34.1, x34.2) else
 (f_X11_refuse T 2 M).bind fun x42 =>
 some (x42.1, x42.2)
theorem t_X11_well {T : T3} {v1 : Int} {M : aM} {y : (Int × aM)}  (hS : Sh T.1 M) (h : f_X11_well T.1 v1 M = some y) : Mr 10 115 [(2, ((0 : Nat) : Int)), (0, v1)] M (some (0, y.1)) y.2 T ∧ Sh T.1 y.2 := by
  have key : ∀ d, 10 ≤ d → Wp d 115 0 [] [(2, ((0 : Nat) : Int)), (0, v1)] [] (M, T) (fun r2 σ2 => r2 = some (0, y.1) ∧ σ2 = (y.2, T) ∧ Sh T.1 y.2) := by
    intro d hd
    rw [f_X11_well] at h
    refine y_blk (t := 0) rfl (show fnd bk_X11_well 0 = some _ from rfl) aB_X11_well ?_
    refine wp_iload_n (v := v1) rfl ?_
    refine wp_if_lt (fun c1 => ?_) (fun c1 => ?_)
    · rw [if_pos c1] at h
      refine y_blk (t := 12) rfl (show fnd bk_X11_well 12 = some _ from rfl) aB_X11_well ?_
      refine wp_aload_n (v := ((0 : Nat) : Int)) rfl (Int.natCast_nonneg _) ?_
      refine wp_iconst ⟨by decide, by decide⟩ ?_
      obtain ⟨x2, e3, h⟩ := d_bind h
      obtain ⟨r4, s5⟩ := t_X11_refuse hS e3
      refine y_callV (as := [(0, 2)]) (S1 := []) (Nat.le_of_ble_eq_true rfl) (by omega) r4 (Nat.le_of_ble_eq_true rfl) rfl (show ash 0 = (11, 15) from rfl) (Nat.lt_of_lt_of_le (show 0 < 154 by decide) hS.1.1) (Nat.le_of_ble_eq_true rfl) (Nat.le_of_ble_eq_true rfl) rfl ?_
      cases h
      exact y_ret0 (Or.inl rfl) ⟨rfl, rfl, s5⟩
    · rw [if_neg c1] at h
      refine wp_iload_n (v := v1) rfl ?_
      refine wp_aload_n (v := ((0 : Nat) : Int)) rfl (Int.natCast_nonneg _) ?_
      refine y_get (show ash 0 = (11, 15) from rfl) (Nat.lt_of_lt_of_le (show 0 < 154 by decide) hS.1.1) (v := M 0 1) rfl rfl ?_
      refine wp_icmp_le (fun c6 => ?_) (fun c6 => ?_)
      · rw [if_pos c6] at h
        refine y_blk (t := 18) rfl (show fnd bk_X11_well 18 = some _ from rfl) aB_X11_well ?_
        refine wp_aload_n (v := ((0 : Nat) : Int)) rfl (Int.natCast_nonneg _) ?_
        refine wp_iconst ⟨by decide, by decide⟩ ?_
        refine y_put (show ash 0 = (11, 15) from rfl) (Nat.lt_of_lt_of_le (show 0 < 154 by decide) hS.1.1) rfl ?_
        obtain ⟨m7, em7, h⟩ := d_bind h
        have em7 := Option.some.inj em7
        have s8 : Sh T.1 m7 := em7 ▸ hS.up (Or.inr ⟨by rw [(show ash 0 = (11, 15) from rfl)]; decide, by rw [(show ash 0 = (11, 15) from rfl)]; decide⟩) (by have := (Nat.lt_of_lt_of_le (show 0 < 154 by decide) hS.1.1); have := hS.1.2; omega)
        rw [em7]
        refine wp_aload_n (v := ((0 : Nat) : Int)) rfl (Int.natCast_nonneg _) ?_
        refine y_get (show ash 0 = (11, 15) from rfl) (Nat.lt_of_lt_of_le (show 0 < 154 by decide) hS.1.1) (v := ((16 : Nat) : Int)) (s8.at 0 3 16 (by decide +kernel)) rfl ?_
        refine wp_iload_n (v := v1) rfl ?_
        obtain ⟨x9, e10, h⟩ := d_bind h
        obtain ⟨r11, s12⟩ := t_X7_read s8 e10
        refine y_callV (as := [(0, v1)]) (S1 := []) (Nat.le_of_ble_eq_true rfl) (by omega) r11 (Nat.le_of_ble_eq_true rfl) rfl (show ash 16 = (7, 8) from rfl) (Nat.lt_of_lt_of_le (show 16 < 154 by decide) hS.1.1) (Nat.le_of_ble_eq_true rfl) (Nat.le_of_ble_eq_true rfl) rfl ?_
        refine y_nez (fun c13 => ?_) (fun c13 => ?_)
        · rw [if_neg c13] at h
          refine y_blk (t := 40) rfl (show fnd bk_X11_well 40 = some _ from rfl) aB_X11_well ?_
          refine wp_aload_n (v := ((0 : Nat) : Int)) rfl (Int.natCast_nonneg _) ?_
          refine y_get (show ash 0 = (11, 15) from rfl) (Nat.lt_of_lt_of_le (show 0 < 154 by decide) hS.1.1) (v := ((2 : Nat) : Int)) (s12.at 0 2 2 (by decide +kernel)) rfl ?_
          refine wp_aload_n (v := ((0 : Nat) : Int)) rfl (Int.natCast_nonneg _) ?_
          refine y_get (show ash 0 = (11, 15) from rfl) (Nat.lt_of_lt_of_le (show 0 < 154 by decide) hS.1.1) (v := ((16 : Nat) : Int)) (s12.at 0 3 16 (by decide +kernel)) rfl ?_
          refine y_get (show ash 16 = (7, 8) from rfl) (Nat.lt_of_lt_of_le (show 16 < 154 by decide) hS.1.1) (v := ((17 : Nat) : Int)) (s12.at 16 0 17 (by decide +kernel)) rfl ?_
          obtain ⟨x14, e15, h⟩ := d_bind h
          obtain ⟨r16, s17⟩ := t_X10_take (show isTold 2 by decide) (show isTold 17 by decide) s12 e15
          refine y_callVv (as := [(2, ((17 : Nat) : Int))]) (S1 := []) (Nat.le_of_ble_eq_true rfl) (by omega) r16 rfl (show ash 2 = (10, 19) from rfl) (Nat.lt_of_lt_of_le (show 2 < 154 by decide) hS.1.1) (Nat.le_of_ble_eq_true rfl) (Nat.le_of_ble_eq_true rfl) rfl ?_
          refine wp_aload_n (v := ((0 : Nat) : Int)) rfl (Int.natCast_nonneg _) ?_
          refine y_get (show ash 0 = (11, 15) from rfl) (Nat.lt_of_lt_of_le (show 0 < 154 by decide) hS.1.1) (v := ((35 : Nat) : Int)) (s17.at 0 4 35 (by decide +kernel)) rfl ?_
          refine wp_aload_n (v := ((0 : Nat) : Int)) rfl (Int.natCast_nonneg _) ?_
          refine y_get (show ash 0 = (11, 15) from rfl) (Nat.lt_of_lt_of_le (show 0 < 154 by decide) hS.1.1) (v := ((2 : Nat) : Int)) (s17.at 0 2 2 (by decide +kernel)) rfl ?_
          obtain ⟨x18, e19, h⟩ := d_bind h
          obtain ⟨r20, s21⟩ := t_X8_begin (show isSt 35 by decide) (show isTold 2 by decide) s17 e19
          refine y_callVv (as := [(2, ((2 : Nat) : Int))]) (S1 := []) (Nat.le_of_ble_eq_true rfl) (by omega) r20 rfl (show ash 35 = (8, 5) from rfl) (Nat.lt_of_lt_of_le (show 35 < 154 by decide) hS.1.1) (Nat.le_of_ble_eq_true rfl) (Nat.le_of_ble_eq_true rfl) rfl ?_
          refine wp_aload_n (v := ((0 : Nat) : Int)) rfl (Int.natCast_nonneg _) ?_
          refine y_get (show ash 0 = (11, 15) from rfl) (Nat.lt_of_lt_of_le (show 0 < 154 by decide) hS.1.1) (v := ((42 : Nat) : Int)) (s21.at 0 6 42 (by decide +kernel)) rfl ?_
          refine wp_aload_n (v := ((0 : Nat) : Int)) rfl (Int.natCast_nonneg _) ?_
          refine y_get (show ash 0 = (11, 15) from rfl) (Nat.lt_of_lt_of_le (show 0 < 154 by decide) hS.1.1) (v := ((2 : Nat) : Int)) (s21.at 0 2 2 (by decide +kernel)) rfl ?_
          refine y_get (show ash 2 = (10, 19) from rfl) (Nat.lt_of_lt_of_le (show 2 < 154 by decide) hS.1.1) (v := x18.2 2 9) rfl rfl ?_
          obtain ⟨x22, e23, h⟩ := d_bind h
          obtain ⟨r24, s25⟩ := t_X5_lay (show isLand 42 by decide) s21 e23
          refine y_callVv (as := [(0, (x18.2 2 9))]) (S1 := []) (Nat.le_of_ble_eq_true rfl) (by omega) r24 rfl (show ash 42 = (5, 4) from rfl) (Nat.lt_of_lt_of_le (show 42 < 154 by decide) hS.1.1) (Nat.le_of_ble_eq_true rfl) (Nat.le_of_ble_eq_true rfl) rfl ?_
          refine wp_aload_n (v := ((0 : Nat) : Int)) rfl (Int.natCast_nonneg _) ?_
          refine y_get (show ash 0 = (11, 15) from rfl) (Nat.lt_of_lt_of_le (show 0 < 154 by decide) hS.1.1) (v := ((39 : Nat) : Int)) (s25.at 0 5 39 (by decide +kernel)) rfl ?_
          refine wp_aload_n (v := ((0 : Nat) : Int)) rfl (Int.natCast_nonneg _) ?_
          refine y_get (show ash 0 = (11, 15) from rfl) (Nat.lt_of_lt_of_le (show 0 < 154 by decide) hS.1.1) (v := ((35 : Nat) : Int)) (s25.at 0 4 35 (by decide +kernel)) rfl ?_
          refine y_get (show ash 35 = (8, 5) from rfl) (Nat.lt_of_lt_of_le (show 35 < 154 by decide) hS.1.1) (v := x22.2 35 3) rfl rfl ?_
          obtain ⟨x26, e27, h⟩ := d_bind h
          obtain ⟨r28, s29⟩ := t_X5_lay (show isLand 39 by decide) s25 e27
          refine y_callVv (as := [(0, (x22.2 35 3))]) (S1 := []) (Nat.le_of_ble_eq_true rfl) (by omega) r28 rfl (show ash 39 = (5, 4) from rfl) (Nat.lt_of_lt_of_le (show 39 < 154 by decide) hS.1.1) (Nat.le_of_ble_eq_true rfl) (Nat.le_of_ble_eq_true rfl) rfl ?_
          refine wp_aload_n (v := ((0 : Nat) : Int)) rfl (Int.natCast_nonneg _) ?_
          refine y_get (show ash 0 = (11, 15) from rfl) (Nat.lt_of_lt_of_le (show 0 < 154 by decide) hS.1.1) (v := ((59 : Nat) : Int)) (s29.at 0 13 59 (by decide +kernel)) rfl ?_
          obtain ⟨x30, e31, h⟩ := d_bind h
          obtain ⟨r32, s33⟩ := t_X4_empty s29 e31
          refine y_callVv (as := []) (S1 := []) (Nat.le_of_ble_eq_true rfl) (by omega) r32 rfl (show ash 59 = (4, 5) from rfl) (Nat.lt_of_lt_of_le (show 59 < 154 by decide) hS.1.1) (Nat.le_of_ble_eq_true rfl) (Nat.le_of_ble_eq_true rfl) rfl ?_
          refine wp_aload_n (v := ((0 : Nat) : Int)) rfl (Int.natCast_nonneg _) ?_
          refine wp_aload_n (v := ((0 : Nat) : Int)) rfl (Int.natCast_nonneg _) ?_
          refine y_get (show ash 0 = (11, 15) from rfl) (Nat.lt_of_lt_of_le (show 0 < 154 by decide) hS.1.1) (v := ((2 : Nat) : Int)) (s33.at 0 2 2 (by decide +kernel)) rfl ?_
          refine y_get (show ash 2 = (10, 19) from rfl) (Nat.lt_of_lt_of_le (show 2 < 154 by decide) hS.1.1) (v := ((3 : Nat) : Int)) (s33.at 2 3 3 (by decide +kernel)) rfl ?_
          refine wp_iconst ⟨by decide, by decide⟩ ?_
          refine y_iald (show ash 3 = (100, 8) from rfl) (Or.inl (Nat.lt_of_lt_of_le (show 3 < 154 by decide) hS.1.1)) (Nat.ne_of_lt (Nat.lt_of_lt_of_le (Nat.lt_of_lt_of_le (show 3 < 154 by decide) hS.1.1) hS.1.2)) ⟨by decide, by decide⟩ (v := x30.2 3 1) rfl ?_
          obtain ⟨x34, e35, h⟩ := d_bind h
          obtain ⟨r36, s37⟩ := t_X11_allow s33 e35
          refine y_callV (as := [(0, (x30.2 3 1))]) (S1 := []) (Nat.le_of_ble_eq_true rfl) (by omega) r36 (Nat.le_of_ble_eq_true rfl) rfl (show ash 0 = (11, 15) from rfl) (Nat.lt_of_lt_of_le (show 0 < 154 by decide) hS.1.1) (Nat.le_of_ble_eq_true rfl) (Nat.le_of_ble_eq_true rfl) rfl ?_
          cases h
          exact y_ret0 (Or.inl rfl) ⟨rfl, rfl, s37⟩
        · rw [if_pos c13] at h
          refine wp_aload_n (v := ((0 : Nat) : Int)) rfl (Int.natCast_nonneg _) ?_
          refine wp_iconst ⟨by decide, by decide⟩ ?_
          obtain ⟨x38, e39, h⟩ := d_bind h
          obtain ⟨r40, s41⟩ := t_X11_refuse s12 e39
          refine y_callV (as := [(0, 4)]) (S1 := []) (Nat.le_of_ble_eq_true rfl) (by omega) r40 (Nat.le_of_ble_eq_true rfl) rfl (show ash 0 = (11, 15) from rfl) (Nat.lt_of_lt_of_le (show 0 < 154 by decide) hS.1.1) (Nat.le_of_ble_eq_true rfl) (Nat.le_of_ble_eq_true rfl) rfl ?_
          cases h
          exact y_ret0 (Or.inl rfl) ⟨rfl, rfl, s41⟩
      · rw [if_neg c6] at h
        refine y_blk (t := 12) rfl (show fnd bk_X11_well 12 = some _ from rfl) aB_X11_well ?_
        refine wp_aload_n (v := ((0 : Nat) : Int)) rfl (Int.natCast_nonneg _) ?_
        refine wp_iconst ⟨by decide, by decide⟩ ?_
        obtain ⟨x42, e43, h⟩ := d_bind h
        obtain ⟨r44, s45⟩ := t_X11_refuse hS e43
        refine y_callV (as := [(0, 2)]) (S1 := []) (Nat.le_of_ble_eq_true rfl) (by omega) r44 (Nat.le_of_ble_eq_true rfl) rfl (show ash 0 = (11, 15) from rfl) (Nat.lt_of_lt_of_le (show 0 < 154 by decide) hS.1.1) (Nat.le_of_ble_eq_true rfl) (Nat.le_of_ble_eq_true rfl) rfl ?_
        cases h
        exact y_ret0 (Or.inl rfl) ⟨rfl, rfl, s45⟩
  exact ⟨fun d hd => Ms.of3 (key d hd), Ms.sh (key 10 (Nat.le_refl _))⟩
theorem aB_X11_fault : ∀ pc, aB 116 pc = fnd bk_X11_fault pc := fun _ => rfl
def f_X11_fault (T : Nat)  (M : aM) : Option Int :=
 some (M 16 1)
theorem t_X11_fault {T : T3}  {M : aM} {y : Int}  (hS : Sh T.1 M) (h : f_X11_fault T.1  M = some y) : Mr 0 116 [(2, ((0 : Nat) : Int))] M (some (0, y)) M T := by
  have key : ∀ d, 0 ≤ d → Wp d 116 0 [] [(2, ((0 : Nat) : Int))] [] (M, T) (fun r2 σ2 => r2 = some (0, y) ∧ σ2 = (M, T)) := by
    intro d hd
    rw [f_X11_fault] at h
    refine y_blk (t := 0) rfl (show fnd bk_X11_fault 0 = some _ from rfl) aB_X11_fault ?_
    refine wp_aload_n (v := ((0 : Nat) : Int)) rfl (Int.natCast_nonneg _) ?_
    refine y_get (show ash 0 = (11, 15) from rfl) (Nat.lt_of_lt_of_le (show 0 < 154 by decide) hS.1.1) (v := ((16 : Nat) : Int)) (hS.at 0 3 16 (by decide +kernel)) rfl ?_
    refine y_get (show ash 16 = (7, 8) from rfl) (Nat.lt_of_lt_of_le (show 16 < 154 by decide) hS.1.1) (v := M 16 1) rfl rfl ?_
    cases h
    exact y_ret0 (Or.inl rfl) ⟨rfl, rfl⟩
  exact fun d hd => Ms.of (key d hd)
theorem aB_X11_where : ∀ pc, aB 117 pc = fnd bk_X11_where pc := fun _ => rfl
def f_X11_where (T : Nat)  (M : aM) : Option Int :=
 if (M 0 14) = 4 then
 some (M 16 2) else
 some (-1)
theorem t_X11_where {T : T3}  {M : aM} {y : Int}  (hS : Sh T.1 M) (h : f_X11_where T.1  M = some y) : Mr 0 117 [(2, ((0 : Nat) : Int))] M (some (0, y)) M T := by
  have key : ∀ d, 0 ≤ d → Wp d 117 0 [] [(2, ((0 : Nat) : Int))] [] (M, T) (fun r2 σ2 => r2 = some (0, y) ∧ σ2 = (M, T)) := by
    intro d hd
    rw [f_X11_where] at h
    refine y_blk (t := 0) rfl (show fnd bk_X11_where 0 = some _ from rfl) aB_X11_where ?_
    refine wp_aload_n (v := ((0 : Nat) : Int)) rfl (Int.natCast_nonneg _) ?_
    refine y_get (show ash 0 = (11, 15) from rfl) (Nat.lt_of_lt_of_le (show 0 < 154 by decide) hS.1.1) (v := M 0 14) rfl rfl ?_
    refine wp_iconst ⟨by decide, by decide⟩ ?_
    refine y_ne (fun c1 => ?_) (fun c1 => ?_)
    · rw [if_neg c1] at h
      refine y_blk (t := 18) rfl (show fnd bk_X11_where 18 = some _ from rfl) aB_X11_where ?_
      refine wp_iconst ⟨by decide, by decide⟩ ?_
      refine y_blk (t := 19) rfl (show fnd bk_X11_where 19 = some _ from rfl) aB_X11_where ?_
      cases h
      exact y_ret0 (Or.inl rfl) ⟨rfl, rfl⟩
    · rw [if_pos c1] at h
      refine wp_aload_n (v := ((0 : Nat) : Int)) rfl (Int.natCast_nonneg _) ?_
      refine y_get (show ash 0 = (11, 15) from rfl) (Nat.lt_of_lt_of_le (show 0 < 154 by decide) hS.1.1) (v := ((16 : Nat) : Int)) (hS.at 0 3 16 (by decide +kernel)) rfl ?_
      refine y_get (show ash 16 = (7, 8) from rfl) (Nat.lt_of_lt_of_le (show 16 < 154 by decide) hS.1.1) (v := M 16 2) rfl rfl ?_
      refine wp_goto ?_
      refine y_blk (t := 19) rfl (show fnd bk_X11_where 19 = some _ from rfl) aB_X11_where ?_
      cases h
      exact y_ret0 (Or.inl rfl) ⟨rfl, rfl⟩
  exact fun d hd => Ms.of (key d hd)
theorem aB_X11_isCave : ∀ pc, aB 176 pc = fnd bk_X11_isCave pc := fun _ => rfl
def f_X11_isCave (T : Nat) (v1 : Int) (M : aM) : Option Int :=
 if v1 < 0 then
 some 0 else
 if (M 3 1) ≤ v1 then
 some 0 else
 some 1
theorem t_X11_isCave {T : T3} {v1 : Int} {M : aM} {y : Int}  (hS : Sh T.1 M) (h : f_X11_isCave T.1 v1 M = some y) : Mr 0 176 [(2, ((0 : Nat) : Int)), (0, v1)] M (some (0, y)) M T := by
  have key : ∀ d, 0 ≤ d → Wp d 176 0 [] [(2, ((0 : Nat) : Int)), (0, v1)] [] (M, T) (fun r2 σ2 => r2 = some (0, y) ∧ σ2 = (M, T)) := by
    intro d hd
    rw [f_X11_isCave] at h
    refine y_blk (t := 0) rfl (show fnd bk_X11_isCave 0 = some _ from rfl) aB_X11_isCave ?_
    refine wp_iload_n (v := v1) rfl ?_
    refine wp_if_lt (fun c1 => ?_) (fun c1 => ?_)
    · rw [if_pos c1] at h
      refine y_blk (t := 21) rfl (show fnd bk_X11_isCave 21 = some _ from rfl) aB_X11_isCave ?_
      refine wp_iconst ⟨by decide, by decide⟩ ?_
      refine y_blk (t := 22) rfl (show fnd bk_X11_isCave 22 = some _ from rfl) aB_X11_isCave ?_
      cases h
      exact y_ret0 (Or.inr (Or.inl rfl)) ⟨rfl, rfl⟩
    · rw [if_neg c1] at h
      refine wp_iload_n (v := v1) rfl ?_
      refine wp_aload_n (v := ((0 : Nat) : Int)) rfl (Int.natCast_nonneg _) ?_
      refine y_get (show ash 0 = (11, 15) from rfl) (Nat.lt_of_lt_of_le (show 0 < 154 by decide) hS.1.1) (v := ((2 : Nat) : Int)) (hS.at 0 2 2 (by decide +kernel)) rfl ?_
      refine y_get (show ash 2 = (10, 19) from rfl) (Nat.lt_of_lt_of_le (show 2 < 154 by decide) hS.1.1) (v := ((3 : Nat) : Int)) (hS.at 2 3 3 (by decide +kernel)) rfl ?_
      refine wp_iconst ⟨by decide, by decide⟩ ?_
      refine y_iald (show ash 3 = (100, 8) from rfl) (Or.inl (Nat.lt_of_lt_of_le (show 3 < 154 by decide) hS.1.1)) (Nat.ne_of_lt (Nat.lt_of_lt_of_le (Nat.lt_of_lt_of_le (show 3 < 154 by decide) hS.1.1) hS.1.2)) ⟨by decide, by decide⟩ (v := M 3 1) rfl ?_
      refine wp_icmp_ge (fun c2 => ?_) (fun c2 => ?_)
      · rw [if_pos c2] at h
        refine y_blk (t := 21) rfl (show fnd bk_X11_isCave 21 = some _ from rfl) aB_X11_isCave ?_
        refine wp_iconst ⟨by decide, by decide⟩ ?_
        refine y_blk (t := 22) rfl (show fnd bk_X11_isCave 22 = some _ from rfl) aB_X11_isCave ?_
        cases h
        exact y_ret0 (Or.inr (Or.inl rfl)) ⟨rfl, rfl⟩
      · rw [if_neg c2] at h
        refine wp_iconst ⟨by decide, by decide⟩ ?_
        refine wp_goto ?_
        refine y_blk (t := 22) rfl (show fnd bk_X11_isCave 22 = some _ from rfl) aB_X11_isCave ?_
        cases h
        exact y_ret0 (Or.inr (Or.inr rfl)) ⟨rfl, rfl⟩
  exact fun d hd => Ms.of (key d hd)
theorem aB_X11_bitsIn : ∀ pc, aB 184 pc = fnd bk_X11_bitsIn pc := fun _ => rfl
def l_X11_bitsIn_5 (T : Nat) (r0 : Nat) (v1 : Int) (v2 : Int) (M : aM) (k : Int → Int → Option Int) : Nat → Int → Int → Option Int
| 0, _, _ => none
| n + 1, v3, v4 =>
 if v1 ≤ v4 then
 k v3 v4 else
 if ((ash r0).2 : Int) ≤ v4 then
 k v3 v4 else
 if 0 ≤ v4 ∧ v4 < ((ash r0).2 : Int) then
 if (M r0 (v4).toNat) = v2 then
 if aIn (v4 + 1) then
 l_X11_bitsIn_5 T r0 v1 v2 M k n (aor v3 (ashl 1 v4)) (v4 + 1) else none else
 if aIn (v4 + 1) then
 l_X11_bitsIn_5 T r0 v1 v2 M k n v3 (v4 + 1) else none else none
theorem tl_X11_bitsIn_5 {d : Nat} (hd : 0 ≤ d) {T : T3} {r0 : Nat} {v1 : Int} {v2 : Int} {M : aM} {k : Int → Int → Option Int} {y : Int} (har0 : (ash r0).1 = 100 ∧ r0 < 154) (hS : Sh T.1 M)
    (hk : ∀ (v3 v4 : Int), Sh T.1 M → k v3 v4 = some y → Wp d 184 39 [] [(2, ((r0 : Nat) : Int)), (0, v1), (0, v2), (0, v3), (0, v4)] [] (M, T) (fun r2 σ2 => r2 = some (0, y) ∧ σ2 = (M, T))) :
    ∀ (n : Nat) (v3 v4 : Int), Sh T.1 M → l_X11_bitsIn_5 T.1 r0 v1 v2 M k n v3 v4 = some y → Wp d 184 5 [] [(2, ((r0 : Nat) : Int)), (0, v1), (0, v2), (0, v3), (0, v4)] [] (M, T) (fun r2 σ2 => r2 = some (0, y) ∧ σ2 = (M, T)) := by
  intro n
  induction n with
  | zero =>
    intro v3 v4 _ h
    exact nomatch (show (none : Option Int) = some y from h)
  | succ n ih =>
    intro v3 v4 sM h
    rw [l_X11_bitsIn_5] at h
    refine y_blk (t := 5) rfl (show fnd bk_X11_bitsIn 5 = some _ from rfl) aB_X11_bitsIn ?_
    refine wp_iload (v := v4) rfl ?_
    refine wp_iload_n (v := v1) rfl ?_
    refine wp_icmp_ge (fun c1 => ?_) (fun c1 => ?_)
    · rw [if_pos c1] at h
      exact hk v3 v4   sM h
    · rw [if_neg c1] at h
      refine wp_iload (v := v4) rfl ?_
      refine wp_aload_n (v := ((r0 : Nat) : Int)) rfl (Int.natCast_nonneg _) ?_
      refine y_alen2 (v := ((ash r0).2 : Int)) (ash_eta har0.1) ⟨by decide, by decide⟩ (Nat.lt_of_lt_of_le har0.2 hS.1.1) (Nat.ne_of_lt (Nat.lt_of_lt_of_le (Nat.lt_of_lt_of_le har0.2 hS.1.1) hS.1.2)) (Nat.lt_trans (ash_small _ (by have := har0.2; omega)) (by decide)) rfl ?_
      refine wp_icmp_ge (fun c2 => ?_) (fun c2 => ?_)
      · rw [if_pos c2] at h
        exact hk v3 v4   sM h
      · rw [if_neg c2] at h
        refine wp_aload_n (v := ((r0 : Nat) : Int)) rfl (Int.natCast_nonneg _) ?_
        refine wp_iload (v := v4) rfl ?_
        obtain ⟨c3, h⟩ := d_ite h
        refine y_iald (ash_eta har0.1) (Or.inl (Nat.lt_of_lt_of_le har0.2 hS.1.1)) (Nat.ne_of_lt (Nat.lt_of_lt_of_le (Nat.lt_of_lt_of_le har0.2 hS.1.1) hS.1.2)) c3 (v := M r0 (v4).toNat) rfl ?_
        refine wp_iload_n (v := v2) rfl ?_
        refine y_ne (fun c4 => ?_) (fun c4 => ?_)
        · rw [if_neg c4] at h
          refine y_blk (t := 33) rfl (show fnd bk_X11_bitsIn 33 = some _ from rfl) aB_X11_bitsIn ?_
          obtain ⟨c5, h⟩ := d_ite h
          refine y_iinc (L1 := [(2, ((r0 : Nat) : Int)), (0, v1), (0, v2), (0, v3), (0, (v4 + 1))]) rfl (Nat.le_of_ble_eq_true rfl) ⟨by decide, by decide⟩ c5 rfl ?_
          refine wp_goto ?_
          exact ih v3 (v4 + 1)   sM h
        · rw [if_pos c4] at h
          refine wp_iload_n (v := v3) rfl ?_
          refine wp_iconst ⟨by decide, by decide⟩ ?_
          refine wp_iload (v := v4) rfl ?_
          refine wp_ishl ?_
          refine wp_ior ?_
          refine y_stn (L1 := [(2, ((r0 : Nat) : Int)), (0, v1), (0, v2), (0, (aor v3 (ashl 1 v4))), (0, v4)]) (Nat.le_of_ble_eq_true rfl) rfl ?_
          refine y_blk (t := 33) rfl (show fnd bk_X11_bitsIn 33 = some _ from rfl) aB_X11_bitsIn ?_
          obtain ⟨c6, h⟩ := d_ite h
          refine y_iinc (L1 := [(2, ((r0 : Nat) : Int)), (0, v1), (0, v2), (0, (aor v3 (ashl 1 v4))), (0, (v4 + 1))]) rfl (Nat.le_of_ble_eq_true rfl) ⟨by decide, by decide⟩ c6 rfl ?_
          refine wp_goto ?_
          exact ih (aor v3 (ashl 1 v4)) (v4 + 1)   sM h
def f_X11_bitsIn (T : Nat) (r0 : Nat) (v1 : Int) (v2 : Int) (M : aM) : Option Int :=
 if (ash r0).1 = 100 ∧ r0 < 154 then
 l_X11_bitsIn_5 T r0 v1 v2 M (fun w7 w8 =>
 some w7) FU 0 0 else none
theorem t_X11_bitsIn {T : T3} {r0 : Nat} {v1 : Int} {v2 : Int} {M : aM} {y : Int}  (hS : Sh T.1 M) (h : f_X11_bitsIn T.1 r0 v1 v2 M = some y) : Mr 0 184 [(2, ((r0 : Nat) : Int)), (0, v1), (0, v2)] M (some (0, y)) M T := by
  have key : ∀ d, 0 ≤ d → Wp d 184 0 [] [(2, ((r0 : Nat) : Int)), (0, v1), (0, v2), (9, 0), (9, 0)] [] (M, T) (fun r2 σ2 => r2 = some (0, y) ∧ σ2 = (M, T)) := by
    intro d hd
    rw [f_X11_bitsIn] at h
    obtain ⟨har0, h⟩ := d_ite h
    refine y_blk (t := 0) rfl (show fnd bk_X11_bitsIn 0 = some _ from rfl) aB_X11_bitsIn ?_
    refine wp_iconst ⟨by decide, by decide⟩ ?_
    refine y_stn (L1 := [(2, ((r0 : Nat) : Int)), (0, v1), (0, v2), (0, 0), (9, 0)]) (Nat.le_of_ble_eq_true rfl) rfl ?_
    refine wp_iconst ⟨by decide, by decide⟩ ?_
    refine y_st (L1 := [(2, ((r0 : Nat) : Int)), (0, v1), (0, v2), (0, 0), (0, 0)]) (Nat.le_of_ble_eq_true rfl) rfl ?_
    refine tl_X11_bitsIn_5 (by omega) har0 hS (fun w7 w8   s9 h => ?_) FU 0 0   hS h
    refine y_blk (t := 39) rfl (show fnd bk_X11_bitsIn 39 = some _ from rfl) aB_X11_bitsIn ?_
    refine wp_iload_n (v := w7) rfl ?_
    cases h
    exact y_ret0 (Or.inl rfl) ⟨rfl, rfl⟩
  exact fun d hd => Ms.of (key d hd)
theorem aB_X11_cave : ∀ pc, aB 118 pc = fnd bk_X11_cave pc := fun _ => rfl
def f_X11_cave (T : Nat) (v1 : Int) (v2 : Int) (M : aM) : Option (Int × aM) :=
 (f_X11_isCave T v1 M).bind fun x1 =>
 if x1 = 0 then
 (f_X11_refuse T 1 M).bind fun x4 =>
 some (x4.1, x4.2) else
 if v2 < 0 then
 (f_X11_refuse T 1 M).bind fun x9 =>
 some (x9.1, x9.2) else
 if v2 ≤ 4 then
 if v2 = 0 then
 (f_X11_hasBit T (M 2 4) v1 M).bind fun x41 =>
 if x41 = 0 then
 (f_X11_allow T 0 M).bind fun x44 =>
 some (x44.1, x44.2) else
 (f_X11_allow T 1 M).bind fun x48 =>
 some (x48.1, x48.2) else
 if v2 = 1 then
 if 0 ≤ v1 ∧ v1 < 8 then
 (f_X11_allow T (M 40 (v1).toNat) M).bind fun x37 =>
 some (x37.1, x37.2) else none else
 if v2 = 2 then
 (f_X11_bitsIn T 36 (M 3 3) v1 M).bind fun x30 =>
 (f_X11_allow T x30 M).bind fun x32 =>
 some (x32.1, x32.2) else
 if v2 = 3 then
 (f_X11_bitsIn T 38 (M 3 4) v1 M).bind fun x24 =>
 (f_X11_allow T x24 M).bind fun x26 =>
 some (x26.1, x26.2) else
 (f_X10_waysAt T 2 v1 M).bind fun x14 =>
 (f_X11_allow T x14 M).bind fun x16 =>
 some (x16.1, x16.2) else
 (f_X11_refuse T 1 M).bind fun x52 =>
 some (x52.1, x52.2)
theorem t_X11_cave {T : T3} {v1 : Int} {v2 : Int} {M : aM} {y : (Int × aM)}  (hS : Sh T.1 M) (h : f_X11_cave T.1 v1 v2 M = some y) : Mr 1 118 [(2, ((0 : Nat) : Int)), (0, v1), (0, v2)] M (some (0, y.1)) y.2 T ∧ Sh T.1 y.2 := by
  have key : ∀ d, 1 ≤ d → Wp d 118 0 [] [(2, ((0 : Nat) : Int)), (0, v1), (0, v2)] [] (M, T) (fun r2 σ2 => r2 = some (0, y.1) ∧ σ2 = (y.2, T) ∧ Sh T.1 y.2) := by
    intro d hd
    rw [f_X11_cave] at h
    refine y_blk (t := 0) rfl (show fnd bk_X11_cave 0 = some _ from rfl) aB_X11_cave ?_
    refine wp_aload_n (v := ((0 : Nat) : Int)) rfl (Int.natCast_nonneg _) ?_
    refine wp_iload_n (v := v1) rfl ?_
    obtain ⟨x1, e2, h⟩ := d_bind h
    refine y_callV (as := [(0, v1)]) (S1 := []) (Nat.le_of_ble_eq_true rfl) (by omega) (t_X11_isCave hS e2) (Nat.le_of_ble_eq_true rfl) rfl (show ash 0 = (11, 15) from rfl) (Nat.lt_of_lt_of_le (show 0 < 154 by decide) hS.1.1) (Nat.le_of_ble_eq_true rfl) (Nat.le_of_ble_eq_true rfl) rfl ?_
    refine wp_if_eq (fun c3 => ?_) (fun c3 => ?_)
    · rw [if_pos c3] at h
      refine y_blk (t := 17) rfl (show fnd bk_X11_cave 17 = some _ from rfl) aB_X11_cave ?_
      refine wp_aload_n (v := ((0 : Nat) : Int)) rfl (Int.natCast_nonneg _) ?_
      refine wp_iconst ⟨by decide, by decide⟩ ?_
      obtain ⟨x4, e5, h⟩ := d_bind h
      obtain ⟨r6, s7⟩ := t_X11_refuse hS e5
      refine y_callV (as := [(0, 1)]) (S1 := []) (Nat.le_of_ble_eq_true rfl) (by omega) r6 (Nat.le_of_ble_eq_true rfl) rfl (show ash 0 = (11, 15) from rfl) (Nat.lt_of_lt_of_le (show 0 < 154 by decide) hS.1.1) (Nat.le_of_ble_eq_true rfl) (Nat.le_of_ble_eq_true rfl) rfl ?_
      cases h
      exact y_ret0 (Or.inl rfl) ⟨rfl, rfl, s7⟩
    · rw [if_neg c3] at h
      refine wp_iload_n (v := v2) rfl ?_
      refine wp_if_lt (fun c8 => ?_) (fun c8 => ?_)
      · rw [if_pos c8] at h
        refine y_blk (t := 17) rfl (show fnd bk_X11_cave 17 = some _ from rfl) aB_X11_cave ?_
        refine wp_aload_n (v := ((0 : Nat) : Int)) rfl (Int.natCast_nonneg _) ?_
        refine wp_iconst ⟨by decide, by decide⟩ ?_
        obtain ⟨x9, e10, h⟩ := d_bind h
        obtain ⟨r11, s12⟩ := t_X11_refuse hS e10
        refine y_callV (as := [(0, 1)]) (S1 := []) (Nat.le_of_ble_eq_true rfl) (by omega) r11 (Nat.le_of_ble_eq_true rfl) rfl (show ash 0 = (11, 15) from rfl) (Nat.lt_of_lt_of_le (show 0 < 154 by decide) hS.1.1) (Nat.le_of_ble_eq_true rfl) (Nat.le_of_ble_eq_true rfl) rfl ?_
        cases h
        exact y_ret0 (Or.inl rfl) ⟨rfl, rfl, s12⟩
      · rw [if_neg c8] at h
        refine wp_iload_n (v := v2) rfl ?_
        refine wp_iconst ⟨by decide, by decide⟩ ?_
        refine wp_icmp_le (fun c13 => ?_) (fun c13 => ?_)
        · rw [if_pos c13] at h
          refine y_blk (t := 23) rfl (show fnd bk_X11_cave 23 = some _ from rfl) aB_X11_cave ?_
          refine wp_iload_n (v := v2) rfl ?_
          by_cases c20 : v2 = 0
          · rw [if_pos c20] at h
            refine y_ts (off := 32) (t := 56) (by omega) (by rw [c20]; rfl) rfl ?_
            refine y_blk (t := 56) rfl (show fnd bk_X11_cave 56 = some _ from rfl) aB_X11_cave ?_
            refine wp_aload_n (v := ((0 : Nat) : Int)) rfl (Int.natCast_nonneg _) ?_
            refine wp_aload_n (v := ((0 : Nat) : Int)) rfl (Int.natCast_nonneg _) ?_
            refine y_get (show ash 0 = (11, 15) from rfl) (Nat.lt_of_lt_of_le (show 0 < 154 by decide) hS.1.1) (v := ((2 : Nat) : Int)) (hS.at 0 2 2 (by decide +kernel)) rfl ?_
            refine y_get (show ash 2 = (10, 19) from rfl) (Nat.lt_of_lt_of_le (show 2 < 154 by decide) hS.1.1) (v := M 2 4) rfl rfl ?_
            refine wp_iload_n (v := v1) rfl ?_
            obtain ⟨x41, e42, h⟩ := d_bind h
            refine y_callS (as := [(0, (M 2 4)), (0, v1)]) (S1 := [(2, ((0 : Nat) : Int))]) (Nat.le_of_ble_eq_true rfl) (by omega) (t_X11_hasBit hS e42) (Nat.le_of_ble_eq_true rfl) rfl (Nat.le_of_ble_eq_true rfl) (Nat.le_of_ble_eq_true rfl) rfl ?_
            refine wp_if_eq (fun c43 => ?_) (fun c43 => ?_)
            · rw [if_pos c43] at h
              refine y_blk (t := 75) rfl (show fnd bk_X11_cave 75 = some _ from rfl) aB_X11_cave ?_
              refine wp_iconst ⟨by decide, by decide⟩ ?_
              refine y_blk (t := 76) rfl (show fnd bk_X11_cave 76 = some _ from rfl) aB_X11_cave ?_
              obtain ⟨x44, e45, h⟩ := d_bind h
              obtain ⟨r46, s47⟩ := t_X11_allow hS e45
              refine y_callV (as := [(0, 0)]) (S1 := []) (Nat.le_of_ble_eq_true rfl) (by omega) r46 (Nat.le_of_ble_eq_true rfl) rfl (show ash 0 = (11, 15) from rfl) (Nat.lt_of_lt_of_le (show 0 < 154 by decide) hS.1.1) (Nat.le_of_ble_eq_true rfl) (Nat.le_of_ble_eq_true rfl) rfl ?_
              cases h
              exact y_ret0 (Or.inl rfl) ⟨rfl, rfl, s47⟩
            · rw [if_neg c43] at h
              refine wp_iconst ⟨by decide, by decide⟩ ?_
              refine wp_goto ?_
              refine y_blk (t := 76) rfl (show fnd bk_X11_cave 76 = some _ from rfl) aB_X11_cave ?_
              obtain ⟨x48, e49, h⟩ := d_bind h
              obtain ⟨r50, s51⟩ := t_X11_allow hS e49
              refine y_callV (as := [(0, 1)]) (S1 := []) (Nat.le_of_ble_eq_true rfl) (by omega) r50 (Nat.le_of_ble_eq_true rfl) rfl (show ash 0 = (11, 15) from rfl) (Nat.lt_of_lt_of_le (show 0 < 154 by decide) hS.1.1) (Nat.le_of_ble_eq_true rfl) (Nat.le_of_ble_eq_true rfl) rfl ?_
              cases h
              exact y_ret0 (Or.inl rfl) ⟨rfl, rfl, s51⟩
          · rw [if_neg c20] at h
            by_cases c21 : v2 = 1
            · rw [if_pos c21] at h
              refine y_ts (off := 56) (t := 80) (by omega) (by rw [c21]; rfl) rfl ?_
              refine y_blk (t := 80) rfl (show fnd bk_X11_cave 80 = some _ from rfl) aB_X11_cave ?_
              refine wp_aload_n (v := ((0 : Nat) : Int)) rfl (Int.natCast_nonneg _) ?_
              refine wp_aload_n (v := ((0 : Nat) : Int)) rfl (Int.natCast_nonneg _) ?_
              refine y_get (show ash 0 = (11, 15) from rfl) (Nat.lt_of_lt_of_le (show 0 < 154 by decide) hS.1.1) (v := ((39 : Nat) : Int)) (hS.at 0 5 39 (by decide +kernel)) rfl ?_
              refine y_get (show ash 39 = (5, 4) from rfl) (Nat.lt_of_lt_of_le (show 39 < 154 by decide) hS.1.1) (v := ((40 : Nat) : Int)) (hS.at 39 1 40 (by decide +kernel)) rfl ?_
              refine wp_iload_n (v := v1) rfl ?_
              obtain ⟨c36, h⟩ := d_ite h
              refine y_iald (show ash 40 = (100, 8) from rfl) (Or.inl (Nat.lt_of_lt_of_le (show 40 < 154 by decide) hS.1.1)) (Nat.ne_of_lt (Nat.lt_of_lt_of_le (Nat.lt_of_lt_of_le (show 40 < 154 by decide) hS.1.1) hS.1.2)) c36 (v := M 40 (v1).toNat) rfl ?_
              obtain ⟨x37, e38, h⟩ := d_bind h
              obtain ⟨r39, s40⟩ := t_X11_allow hS e38
              refine y_callV (as := [(0, (M 40 (v1).toNat))]) (S1 := []) (Nat.le_of_ble_eq_true rfl) (by omega) r39 (Nat.le_of_ble_eq_true rfl) rfl (show ash 0 = (11, 15) from rfl) (Nat.lt_of_lt_of_le (show 0 < 154 by decide) hS.1.1) (Nat.le_of_ble_eq_true rfl) (Nat.le_of_ble_eq_true rfl) rfl ?_
              cases h
              exact y_ret0 (Or.inl rfl) ⟨rfl, rfl, s40⟩
            · rw [if_neg c21] at h
              by_cases c22 : v2 = 2
              · rw [if_pos c22] at h
                refine y_ts (off := 70) (t := 94) (by omega) (by rw [c22]; rfl) rfl ?_
                refine y_blk (t := 94) rfl (show fnd bk_X11_cave 94 = some _ from rfl) aB_X11_cave ?_
                refine wp_aload_n (v := ((0 : Nat) : Int)) rfl (Int.natCast_nonneg _) ?_
                refine wp_aload_n (v := ((0 : Nat) : Int)) rfl (Int.natCast_nonneg _) ?_
                refine y_get (show ash 0 = (11, 15) from rfl) (Nat.lt_of_lt_of_le (show 0 < 154 by decide) hS.1.1) (v := ((35 : Nat) : Int)) (hS.at 0 4 35 (by decide +kernel)) rfl ?_
                refine y_get (show ash 35 = (8, 5) from rfl) (Nat.lt_of_lt_of_le (show 35 < 154 by decide) hS.1.1) (v := ((36 : Nat) : Int)) (hS.at 35 0 36 (by decide +kernel)) rfl ?_
                refine wp_aload_n (v := ((0 : Nat) : Int)) rfl (Int.natCast_nonneg _) ?_
                refine y_get (show ash 0 = (11, 15) from rfl) (Nat.lt_of_lt_of_le (show 0 < 154 by decide) hS.1.1) (v := ((2 : Nat) : Int)) (hS.at 0 2 2 (by decide +kernel)) rfl ?_
                refine y_get (show ash 2 = (10, 19) from rfl) (Nat.lt_of_lt_of_le (show 2 < 154 by decide) hS.1.1) (v := ((3 : Nat) : Int)) (hS.at 2 3 3 (by decide +kernel)) rfl ?_
                refine wp_iconst ⟨by decide, by decide⟩ ?_
                refine y_iald (show ash 3 = (100, 8) from rfl) (Or.inl (Nat.lt_of_lt_of_le (show 3 < 154 by decide) hS.1.1)) (Nat.ne_of_lt (Nat.lt_of_lt_of_le (Nat.lt_of_lt_of_le (show 3 < 154 by decide) hS.1.1) hS.1.2)) ⟨by decide, by decide⟩ (v := M 3 3) rfl ?_
                refine wp_iload_n (v := v1) rfl ?_
                obtain ⟨x30, e31, h⟩ := d_bind h
                refine y_callS (as := [(2, ((36 : Nat) : Int)), (0, (M 3 3)), (0, v1)]) (S1 := [(2, ((0 : Nat) : Int))]) (Nat.le_of_ble_eq_true rfl) (by omega) (t_X11_bitsIn hS e31) (Nat.le_of_ble_eq_true rfl) rfl (Nat.le_of_ble_eq_true rfl) (Nat.le_of_ble_eq_true rfl) rfl ?_
                obtain ⟨x32, e33, h⟩ := d_bind h
                obtain ⟨r34, s35⟩ := t_X11_allow hS e33
                refine y_callV (as := [(0, x30)]) (S1 := []) (Nat.le_of_ble_eq_true rfl) (by omega) r34 (Nat.le_of_ble_eq_true rfl) rfl (show ash 0 = (11, 15) from rfl) (Nat.lt_of_lt_of_le (show 0 < 154 by decide) hS.1.1) (Nat.le_of_ble_eq_true rfl) (Nat.le_of_ble_eq_true rfl) rfl ?_
                cases h
                exact y_ret0 (Or.inl rfl) ⟨rfl, rfl, s35⟩
              · rw [if_neg c22] at h
                by_cases c23 : v2 = 3
                · rw [if_pos c23] at h
                  refine y_ts (off := 95) (t := 119) (by omega) (by rw [c23]; rfl) rfl ?_
                  refine y_blk (t := 119) rfl (show fnd bk_X11_cave 119 = some _ from rfl) aB_X11_cave ?_
                  refine wp_aload_n (v := ((0 : Nat) : Int)) rfl (Int.natCast_nonneg _) ?_
                  refine wp_aload_n (v := ((0 : Nat) : Int)) rfl (Int.natCast_nonneg _) ?_
                  refine y_get (show ash 0 = (11, 15) from rfl) (Nat.lt_of_lt_of_le (show 0 < 154 by decide) hS.1.1) (v := ((35 : Nat) : Int)) (hS.at 0 4 35 (by decide +kernel)) rfl ?_
                  refine y_get (show ash 35 = (8, 5) from rfl) (Nat.lt_of_lt_of_le (show 35 < 154 by decide) hS.1.1) (v := ((38 : Nat) : Int)) (hS.at 35 2 38 (by decide +kernel)) rfl ?_
                  refine wp_aload_n (v := ((0 : Nat) : Int)) rfl (Int.natCast_nonneg _) ?_
                  refine y_get (show ash 0 = (11, 15) from rfl) (Nat.lt_of_lt_of_le (show 0 < 154 by decide) hS.1.1) (v := ((2 : Nat) : Int)) (hS.at 0 2 2 (by decide +kernel)) rfl ?_
                  refine y_get (show ash 2 = (10, 19) from rfl) (Nat.lt_of_lt_of_le (show 2 < 154 by decide) hS.1.1) (v := ((3 : Nat) : Int)) (hS.at 2 3 3 (by decide +kernel)) rfl ?_
                  refine wp_iconst ⟨by decide, by decide⟩ ?_
                  refine y_iald (show ash 3 = (100, 8) from rfl) (Or.inl (Nat.lt_of_lt_of_le (show 3 < 154 by decide) hS.1.1)) (Nat.ne_of_lt (Nat.lt_of_lt_of_le (Nat.lt_of_lt_of_le (show 3 < 154 by decide) hS.1.1) hS.1.2)) ⟨by decide, by decide⟩ (v := M 3 4) rfl ?_
                  refine wp_iload_n (v := v1) rfl ?_
                  obtain ⟨x24, e25, h⟩ := d_bind h
                  refine y_callS (as := [(2, ((38 : Nat) : Int)), (0, (M 3 4)), (0, v1)]) (S1 := [(2, ((0 : Nat) : Int))]) (Nat.le_of_ble_eq_true rfl) (by omega) (t_X11_bitsIn hS e25) (Nat.le_of_ble_eq_true rfl) rfl (Nat.le_of_ble_eq_true rfl) (Nat.le_of_ble_eq_true rfl) rfl ?_
                  obtain ⟨x26, e27, h⟩ := d_bind h
                  obtain ⟨r28, s29⟩ := t_X11_allow hS e27
                  refine y_callV (as := [(0, x24)]) (S1 := []) (Nat.le_of_ble_eq_true rfl) (by omega) r28 (Nat.le_of_ble_eq_true rfl) rfl (show ash 0 = (11, 15) from rfl) (Nat.lt_of_lt_of_le (show 0 < 154 by decide) hS.1.1) (Nat.le_of_ble_eq_true rfl) (Nat.le_of_ble_eq_true rfl) rfl ?_
                  cases h
                  exact y_ret0 (Or.inl rfl) ⟨rfl, rfl, s29⟩
                · rw [if_neg c23] at h
                  refine y_td (t := 144) (by omega) rfl ?_
                  refine y_blk (t := 144) rfl (show fnd bk_X11_cave 144 = some _ from rfl) aB_X11_cave ?_
                  refine wp_aload_n (v := ((0 : Nat) : Int)) rfl (Int.natCast_nonneg _) ?_
                  refine wp_aload_n (v := ((0 : Nat) : Int)) rfl (Int.natCast_nonneg _) ?_
                  refine y_get (show ash 0 = (11, 15) from rfl) (Nat.lt_of_lt_of_le (show 0 < 154 by decide) hS.1.1) (v := ((2 : Nat) : Int)) (hS.at 0 2 2 (by decide +kernel)) rfl ?_
                  refine wp_iload_n (v := v1) rfl ?_
                  obtain ⟨x14, e15, h⟩ := d_bind h
                  refine y_callV (as := [(0, v1)]) (S1 := [(2, ((0 : Nat) : Int))]) (Nat.le_of_ble_eq_true rfl) (by omega) (t_X10_waysAt (show isTold 2 by decide) hS e15) (Nat.le_of_ble_eq_true rfl) rfl (show ash 2 = (10, 19) from rfl) (Nat.lt_of_lt_of_le (show 2 < 154 by decide) hS.1.1) (Nat.le_of_ble_eq_true rfl) (Nat.le_of_ble_eq_true rfl) rfl ?_
                  obtain ⟨x16, e17, h⟩ := d_bind h
                  obtain ⟨r18, s19⟩ := t_X11_allow hS e17
                  refine y_callV (as := [(0, x14)]) (S1 := []) (Nat.le_of_ble_eq_true rfl) (by omega) r18 (Nat.le_of_ble_eq_true rfl) rfl (show ash 0 = (11, 15) from rfl) (Nat.lt_of_lt_of_le (show 0 < 154 by decide) hS.1.1) (Nat.le_of_ble_eq_true rfl) (Nat.le_of_ble_eq_true rfl) rfl ?_
                  cases h
                  exact y_ret0 (Or.inl rfl) ⟨rfl, rfl, s19⟩
        · rw [if_neg c13] at h
          refine y_blk (t := 17) rfl (show fnd bk_X11_cave 17 = some _ from rfl) aB_X11_cave ?_
          refine wp_aload_n (v := ((0 : Nat) : Int)) rfl (Int.natCast_nonneg _) ?_
          refine wp_iconst ⟨by decide, by decide⟩ ?_
          obtain ⟨x52, e53, h⟩ := d_bind h
          obtain ⟨r54, s55⟩ := t_X11_refuse hS e53
          refine y_callV (as := [(0, 1)]) (S1 := []) (Nat.le_of_ble_eq_true rfl) (by omega) r54 (Nat.le_of_ble_eq_true rfl) rfl (show ash 0 = (11, 15) from rfl) (Nat.lt_of_lt_of_le (show 0 < 154 by decide) hS.1.1) (Nat.le_of_ble_eq_true rfl) (Nat.le_of_ble_eq_true rfl) rfl ?_
          cases h
          exact y_ret0 (Or.inl rfl) ⟨rfl, rfl, s55⟩
  exact ⟨fun d hd => Ms.of3 (key d hd), Ms.sh (key 1 (Nat.le_refl _))⟩
theorem aB_X11_isWay : ∀ pc, aB 177 pc = fnd bk_X11_isWay pc := fun _ => rfl
def f_X11_isWay (T : Nat) (v1 : Int) (M : aM) : Option Int :=
 if v1 < 0 then
 some 0 else
 if (M 3 2) ≤ v1 then
 some 0 else
 some 1
theorem t_X11_isWay {T : T3} {v1 : Int} {M : aM} {y : Int}  (hS : Sh T.1 M) (h : f_X11_isWay T.1 v1 M = some y) : Mr 0 177 [(2, ((0 : Nat) : Int)), (0, v1)] M (some (0, y)) M T := by
  have key : ∀ d, 0 ≤ d → Wp d 177 0 [] [(2, ((0 : Nat) : Int)), (0, v1)] [] (M, T) (fun r2 σ2 => r2 = some (0, y) ∧ σ2 = (M, T)) := by
    intro d hd
    rw [f_X11_isWay] at h
    refine y_blk (t := 0) rfl (show fnd bk_X11_isWay 0 = some _ from rfl) aB_X11_isWay ?_
    refine wp_iload_n (v := v1) rfl ?_
    refine wp_if_lt (fun c1 => ?_) (fun c1 => ?_)
    · rw [if_pos c1] at h
      refine y_blk (t := 21) rfl (show fnd bk_X11_isWay 21 = some _ from rfl) aB_X11_isWay ?_
      refine wp_iconst ⟨by decide, by decide⟩ ?_
      refine y_blk (t := 22) rfl (show fnd bk_X11_isWay 22 = some _ from rfl) aB_X11_isWay ?_
      cases h
      exact y_ret0 (Or.inr (Or.inl rfl)) ⟨rfl, rfl⟩
    · rw [if_neg c1] at h
      refine wp_iload_n (v := v1) rfl ?_
      refine wp_aload_n (v := ((0 : Nat) : Int)) rfl (Int.natCast_nonneg _) ?_
      refine y_get (show ash 0 = (11, 15) from rfl) (Nat.lt_of_lt_of_le (show 0 < 154 by decide) hS.1.1) (v := ((2 : Nat) : Int)) (hS.at 0 2 2 (by decide +kernel)) rfl ?_
      refine y_get (show ash 2 = (10, 19) from rfl) (Nat.lt_of_lt_of_le (show 2 < 154 by decide) hS.1.1) (v := ((3 : Nat) : Int)) (hS.at 2 3 3 (by decide +kernel)) rfl ?_
      refine wp_iconst ⟨by decide, by decide⟩ ?_
      refine y_iald (show ash 3 = (100, 8) from rfl) (Or.inl (Nat.lt_of_lt_of_le (show 3 < 154 by decide) hS.1.1)) (Nat.ne_of_lt (Nat.lt_of_lt_of_le (Nat.lt_of_lt_of_le (show 3 < 154 by decide) hS.1.1) hS.1.2)) ⟨by decide, by decide⟩ (v := M 3 2) rfl ?_
      refine wp_icmp_ge (fun c2 => ?_) (fun c2 => ?_)
      · rw [if_pos c2] at h
        refine y_blk (t := 21) rfl (show fnd bk_X11_isWay 21 = some _ from rfl) aB_X11_isWay ?_
        refine wp_iconst ⟨by decide, by decide⟩ ?_
        refine y_blk (t := 22) rfl (show fnd bk_X11_isWay 22 = some _ from rfl) aB_X11_isWay ?_
        cases h
        exact y_ret0 (Or.inr (Or.inl rfl)) ⟨rfl, rfl⟩
      · rw [if_neg c2] at h
        refine wp_iconst ⟨by decide, by decide⟩ ?_
        refine wp_goto ?_
        refine y_blk (t := 22) rfl (show fnd bk_X11_isWay 22 = some _ from rfl) aB_X11_isWay ?_
        cases h
        exact y_ret0 (Or.inr (Or.inr rfl)) ⟨rfl, rfl⟩
  exact fun d hd => Ms.of (key d hd)
theorem aB_X11_way : ∀ pc, aB 119 pc = fnd bk_X11_way pc := fun _ => rfl
def f_X11_way (T : Nat) (v1 : Int) (v2 : Int) (M : aM) : Option (Int × aM) :=
 (f_X11_isWay T v1 M).bind fun x1 =>
 if x1 = 0 then
 (f_X11_refuse T 1 M).bind fun x4 =>
 some (x4.1, x4.2) else
 if v2 < 0 then
 (f_X11_refuse T 1 M).bind fun x9 =>
 some (x9.1, x9.2) else
 if v2 ≤ 3 then
 if v2 = 0 then
 if 0 ≤ v1 ∧ v1 < 10 then
 (f_X11_allow T (M 4 (v1).toNat) M).bind fun x39 =>
 some (x39.1, x39.2) else none else
 if v2 = 1 then
 if 0 ≤ v1 ∧ v1 < 10 then
 (f_X11_allow T (M 5 (v1).toNat) M).bind fun x34 =>
 some (x34.1, x34.2) else none else
 if v2 = 2 then
 if 0 ≤ v1 ∧ v1 < 10 then
 (f_X11_allow T (M 6 (v1).toNat) M).bind fun x29 =>
 some (x29.1, x29.2) else none else
 (f_X11_hasBit T (M 35 3) v1 M).bind fun x14 =>
 if x14 = 0 then
 (f_X11_allow T 0 M).bind fun x17 =>
 some (x17.1, x17.2) else
 (f_X11_allow T 1 M).bind fun x21 =>
 some (x21.1, x21.2) else
 (f_X11_refuse T 1 M).bind fun x43 =>
 some (x43.1, x43.2)
theorem t_X11_way {T : T3} {v1 : Int} {v2 : Int} {M : aM} {y : (Int × aM)}  (hS : Sh T.1 M) (h : f_X11_way T.1 v1 v2 M = some y) : Mr 1 119 [(2, ((0 : Nat) : Int)), (0, v1), (0, v2)] M (some (0, y.1)) y.2 T ∧ Sh T.1 y.2 := by
  have key : ∀ d, 1 ≤ d → Wp d 119 0 [] [(2, ((0 : Nat) : Int)), (0, v1), (0, v2)] [] (M, T) (fun r2 σ2 => r2 = some (0, y.1) ∧ σ2 = (y.2, T) ∧ Sh T.1 y.2) := by
    intro d hd
    rw [f_X11_way] at h
    refine y_blk (t := 0) rfl (show fnd bk_X11_way 0 = some _ from rfl) aB_X11_way ?_
    refine wp_aload_n (v := ((0 : Nat) : Int)) rfl (Int.natCast_nonneg _) ?_
    refine wp_iload_n (v := v1) rfl ?_
    obtain ⟨x1, e2, h⟩ := d_bind h
    refine y_callV (as := [(0, v1)]) (S1 := []) (Nat.le_of_ble_eq_true rfl) (by omega) (t_X11_isWay hS e2) (Nat.le_of_ble_eq_true rfl) rfl (show ash 0 = (11, 15) from rfl) (Nat.lt_of_lt_of_le (show 0 < 154 by decide) hS.1.1) (Nat.le_of_ble_eq_true rfl) (Nat.le_of_ble_eq_true rfl) rfl ?_
    refine wp_if_eq (fun c3 => ?_) (fun c3 => ?_)
    · rw [if_pos c3] at h
      refine y_blk (t := 17) rfl (show fnd bk_X11_way 17 = some _ from rfl) aB_X11_way ?_
      refine wp_aload_n (v := ((0 : Nat) : Int)) rfl (Int.natCast_nonneg _) ?_
      refine wp_iconst ⟨by decide, by decide⟩ ?_
      obtain ⟨x4, e5, h⟩ := d_bind h
      obtain ⟨r6, s7⟩ := t_X11_refuse hS e5
      refine y_callV (as := [(0, 1)]) (S1 := []) (Nat.le_of_ble_eq_true rfl) (by omega) r6 (Nat.le_of_ble_eq_true rfl) rfl (show ash 0 = (11, 15) from rfl) (Nat.lt_of_lt_of_le (show 0 < 154 by decide) hS.1.1) (Nat.le_of_ble_eq_true rfl) (Nat.le_of_ble_eq_true rfl) rfl ?_
      cases h
      exact y_ret0 (Or.inl rfl) ⟨rfl, rfl, s7⟩
    · rw [if_neg c3] at h
      refine wp_iload_n (v := v2) rfl ?_
      refine wp_if_lt (fun c8 => ?_) (fun c8 => ?_)
      · rw [if_pos c8] at h
        refine y_blk (t := 17) rfl (show fnd bk_X11_way 17 = some _ from rfl) aB_X11_way ?_
        refine wp_aload_n (v := ((0 : Nat) : Int)) rfl (Int.natCast_nonneg _) ?_
        refine wp_iconst ⟨by decide, by decide⟩ ?_
        obtain ⟨x9, e10, h⟩ := d_bind h
        obtain ⟨r11, s12⟩ := t_X11_refuse hS e10
        refine y_callV (as := [(0, 1)]) (S1 := []) (Nat.le_of_ble_eq_true rfl) (by omega) r11 (Nat.le_of_ble_eq_true rfl) rfl (show ash 0 = (11, 15) from rfl) (Nat.lt_of_lt_of_le (show 0 < 154 by decide) hS.1.1) (Nat.le_of_ble_eq_true rfl) (Nat.le_of_ble_eq_true rfl) rfl ?_
        cases h
        exact y_ret0 (Or.inl rfl) ⟨rfl, rfl, s12⟩
      · rw [if_neg c8] at h
        refine wp_iload_n (v := v2) rfl ?_
        refine wp_iconst ⟨by decide, by decide⟩ ?_
        refine wp_icmp_le (fun c13 => ?_) (fun c13 => ?_)
        · rw [if_pos c13] at h
          refine y_blk (t := 23) rfl (show fnd bk_X11_way 23 = some _ from rfl) aB_X11_way ?_
          refine wp_iload_n (v := v2) rfl ?_
          by_cases c25 : v2 = 0
          · rw [if_pos c25] at h
            refine y_ts (off := 28) (t := 52) (by omega) (by rw [c25]; rfl) rfl ?_
            refine y_blk (t := 52) rfl (show fnd bk_X11_way 52 = some _ from rfl) aB_X11_way ?_
            refine wp_aload_n (v := ((0 : Nat) : Int)) rfl (Int.natCast_nonneg _) ?_
            refine wp_aload_n (v := ((0 : Nat) : Int)) rfl (Int.natCast_nonneg _) ?_
            refine y_get (show ash 0 = (11, 15) from rfl) (Nat.lt_of_lt_of_le (show 0 < 154 by decide) hS.1.1) (v := ((2 : Nat) : Int)) (hS.at 0 2 2 (by decide +kernel)) rfl ?_
            refine y_get (show ash 2 = (10, 19) from rfl) (Nat.lt_of_lt_of_le (show 2 < 154 by decide) hS.1.1) (v := ((4 : Nat) : Int)) (hS.at 2 5 4 (by decide +kernel)) rfl ?_
            refine wp_iload_n (v := v1) rfl ?_
            obtain ⟨c38, h⟩ := d_ite h
            refine y_iald (show ash 4 = (100, 10) from rfl) (Or.inl (Nat.lt_of_lt_of_le (show 4 < 154 by decide) hS.1.1)) (Nat.ne_of_lt (Nat.lt_of_lt_of_le (Nat.lt_of_lt_of_le (show 4 < 154 by decide) hS.1.1) hS.1.2)) c38 (v := M 4 (v1).toNat) rfl ?_
            obtain ⟨x39, e40, h⟩ := d_bind h
            obtain ⟨r41, s42⟩ := t_X11_allow hS e40
            refine y_callV (as := [(0, (M 4 (v1).toNat))]) (S1 := []) (Nat.le_of_ble_eq_true rfl) (by omega) r41 (Nat.le_of_ble_eq_true rfl) rfl (show ash 0 = (11, 15) from rfl) (Nat.lt_of_lt_of_le (show 0 < 154 by decide) hS.1.1) (Nat.le_of_ble_eq_true rfl) (Nat.le_of_ble_eq_true rfl) rfl ?_
            cases h
            exact y_ret0 (Or.inl rfl) ⟨rfl, rfl, s42⟩
          · rw [if_neg c25] at h
            by_cases c26 : v2 = 1
            · rw [if_pos c26] at h
              refine y_ts (off := 42) (t := 66) (by omega) (by rw [c26]; rfl) rfl ?_
              refine y_blk (t := 66) rfl (show fnd bk_X11_way 66 = some _ from rfl) aB_X11_way ?_
              refine wp_aload_n (v := ((0 : Nat) : Int)) rfl (Int.natCast_nonneg _) ?_
              refine wp_aload_n (v := ((0 : Nat) : Int)) rfl (Int.natCast_nonneg _) ?_
              refine y_get (show ash 0 = (11, 15) from rfl) (Nat.lt_of_lt_of_le (show 0 < 154 by decide) hS.1.1) (v := ((2 : Nat) : Int)) (hS.at 0 2 2 (by decide +kernel)) rfl ?_
              refine y_get (show ash 2 = (10, 19) from rfl) (Nat.lt_of_lt_of_le (show 2 < 154 by decide) hS.1.1) (v := ((5 : Nat) : Int)) (hS.at 2 6 5 (by decide +kernel)) rfl ?_
              refine wp_iload_n (v := v1) rfl ?_
              obtain ⟨c33, h⟩ := d_ite h
              refine y_iald (show ash 5 = (100, 10) from rfl) (Or.inl (Nat.lt_of_lt_of_le (show 5 < 154 by decide) hS.1.1)) (Nat.ne_of_lt (Nat.lt_of_lt_of_le (Nat.lt_of_lt_of_le (show 5 < 154 by decide) hS.1.1) hS.1.2)) c33 (v := M 5 (v1).toNat) rfl ?_
              obtain ⟨x34, e35, h⟩ := d_bind h
              obtain ⟨r36, s37⟩ := t_X11_allow hS e35
              refine y_callV (as := [(0, (M 5 (v1).toNat))]) (S1 := []) (Nat.le_of_ble_eq_true rfl) (by omega) r36 (Nat.le_of_ble_eq_true rfl) rfl (show ash 0 = (11, 15) from rfl) (Nat.lt_of_lt_of_le (show 0 < 154 by decide) hS.1.1) (Nat.le_of_ble_eq_true rfl) (Nat.le_of_ble_eq_true rfl) rfl ?_
              cases h
              exact y_ret0 (Or.inl rfl) ⟨rfl, rfl, s37⟩
            · rw [if_neg c26] at h
              by_cases c27 : v2 = 2
              · rw [if_pos c27] at h
                refine y_ts (off := 56) (t := 80) (by omega) (by rw [c27]; rfl) rfl ?_
                refine y_blk (t := 80) rfl (show fnd bk_X11_way 80 = some _ from rfl) aB_X11_way ?_
                refine wp_aload_n (v := ((0 : Nat) : Int)) rfl (Int.natCast_nonneg _) ?_
                refine wp_aload_n (v := ((0 : Nat) : Int)) rfl (Int.natCast_nonneg _) ?_
                refine y_get (show ash 0 = (11, 15) from rfl) (Nat.lt_of_lt_of_le (show 0 < 154 by decide) hS.1.1) (v := ((2 : Nat) : Int)) (hS.at 0 2 2 (by decide +kernel)) rfl ?_
                refine y_get (show ash 2 = (10, 19) from rfl) (Nat.lt_of_lt_of_le (show 2 < 154 by decide) hS.1.1) (v := ((6 : Nat) : Int)) (hS.at 2 7 6 (by decide +kernel)) rfl ?_
                refine wp_iload_n (v := v1) rfl ?_
                obtain ⟨c28, h⟩ := d_ite h
                refine y_iald (show ash 6 = (100, 10) from rfl) (Or.inl (Nat.lt_of_lt_of_le (show 6 < 154 by decide) hS.1.1)) (Nat.ne_of_lt (Nat.lt_of_lt_of_le (Nat.lt_of_lt_of_le (show 6 < 154 by decide) hS.1.1) hS.1.2)) c28 (v := M 6 (v1).toNat) rfl ?_
                obtain ⟨x29, e30, h⟩ := d_bind h
                obtain ⟨r31, s32⟩ := t_X11_allow hS e30
                refine y_callV (as := [(0, (M 6 (v1).toNat))]) (S1 := []) (Nat.le_of_ble_eq_true rfl) (by omega) r31 (Nat.le_of_ble_eq_true rfl) rfl (show ash 0 = (11, 15) from rfl) (Nat.lt_of_lt_of_le (show 0 < 154 by decide) hS.1.1) (Nat.le_of_ble_eq_true rfl) (Nat.le_of_ble_eq_true rfl) rfl ?_
                cases h
                exact y_ret0 (Or.inl rfl) ⟨rfl, rfl, s32⟩
              · rw [if_neg c27] at h
                refine y_td (t := 94) (by omega) rfl ?_
                refine y_blk (t := 94) rfl (show fnd bk_X11_way 94 = some _ from rfl) aB_X11_way ?_
                refine wp_aload_n (v := ((0 : Nat) : Int)) rfl (Int.natCast_nonneg _) ?_
                refine wp_aload_n (v := ((0 : Nat) : Int)) rfl (Int.natCast_nonneg _) ?_
                refine y_get (show ash 0 = (11, 15) from rfl) (Nat.lt_of_lt_of_le (show 0 < 154 by decide) hS.1.1) (v := ((35 : Nat) : Int)) (hS.at 0 4 35 (by decide +kernel)) rfl ?_
                refine y_get (show ash 35 = (8, 5) from rfl) (Nat.lt_of_lt_of_le (show 35 < 154 by decide) hS.1.1) (v := M 35 3) rfl rfl ?_
                refine wp_iload_n (v := v1) rfl ?_
                obtain ⟨x14, e15, h⟩ := d_bind h
                refine y_callS (as := [(0, (M 35 3)), (0, v1)]) (S1 := [(2, ((0 : Nat) : Int))]) (Nat.le_of_ble_eq_true rfl) (by omega) (t_X11_hasBit hS e15) (Nat.le_of_ble_eq_true rfl) rfl (Nat.le_of_ble_eq_true rfl) (Nat.le_of_ble_eq_true rfl) rfl ?_
                refine wp_if_eq (fun c16 => ?_) (fun c16 => ?_)
                · rw [if_pos c16] at h
                  refine y_blk (t := 113) rfl (show fnd bk_X11_way 113 = some _ from rfl) aB_X11_way ?_
                  refine wp_iconst ⟨by decide, by decide⟩ ?_
                  refine y_blk (t := 114) rfl (show fnd bk_X11_way 114 = some _ from rfl) aB_X11_way ?_
                  obtain ⟨x17, e18, h⟩ := d_bind h
                  obtain ⟨r19, s20⟩ := t_X11_allow hS e18
                  refine y_callV (as := [(0, 0)]) (S1 := []) (Nat.le_of_ble_eq_true rfl) (by omega) r19 (Nat.le_of_ble_eq_true rfl) rfl (show ash 0 = (11, 15) from rfl) (Nat.lt_of_lt_of_le (show 0 < 154 by decide) hS.1.1) (Nat.le_of_ble_eq_true rfl) (Nat.le_of_ble_eq_true rfl) rfl ?_
                  cases h
                  exact y_ret0 (Or.inl rfl) ⟨rfl, rfl, s20⟩
                · rw [if_neg c16] at h
                  refine wp_iconst ⟨by decide, by decide⟩ ?_
                  refine wp_goto ?_
                  refine y_blk (t := 114) rfl (show fnd bk_X11_way 114 = some _ from rfl) aB_X11_way ?_
                  obtain ⟨x21, e22, h⟩ := d_bind h
                  obtain ⟨r23, s24⟩ := t_X11_allow hS e22
                  refine y_callV (as := [(0, 1)]) (S1 := []) (Nat.le_of_ble_eq_true rfl) (by omega) r23 (Nat.le_of_ble_eq_true rfl) rfl (show ash 0 = (11, 15) from rfl) (Nat.lt_of_lt_of_le (show 0 < 154 by decide) hS.1.1) (Nat.le_of_ble_eq_true rfl) (Nat.le_of_ble_eq_true rfl) rfl ?_
                  cases h
                  exact y_ret0 (Or.inl rfl) ⟨rfl, rfl, s24⟩
        · rw [if_neg c13] at h
          refine y_blk (t := 17) rfl (show fnd bk_X11_way 17 = some _ from rfl) aB_X11_way ?_
          refine wp_aload_n (v := ((0 : Nat) : Int)) rfl (Int.natCast_nonneg _) ?_
          refine wp_iconst ⟨by decide, by decide⟩ ?_
          obtain ⟨x43, e44, h⟩ := d_bind h
          obtain ⟨r45, s46⟩ := t_X11_refuse hS e44
          refine y_callV (as := [(0, 1)]) (S1 := []) (Nat.le_of_ble_eq_true rfl) (by omega) r45 (Nat.le_of_ble_eq_true rfl) rfl (show ash 0 = (11, 15) from rfl) (Nat.lt_of_lt_of_le (show 0 < 154 by decide) hS.1.1) (Nat.le_of_ble_eq_true rfl) (Nat.le_of_ble_eq_true rfl) rfl ?_
          cases h
          exact y_ret0 (Or.inl rfl) ⟨rfl, rfl, s46⟩
  exact ⟨fun d hd => Ms.of3 (key d hd), Ms.sh (key 1 (Nat.le_refl _))⟩
theorem aB_X11_isVoice : ∀ pc, aB 178 pc = fnd bk_X11_isVoice pc := fun _ => rfl
def f_X11_isVoice (T : Nat) (v1 : Int) (M : aM) : Option Int :=
 if v1 < 0 then
 some 0 else
 if (M 3 3) ≤ v1 then
 some 0 else
 some 1
theorem t_X11_isVoice {T : T3} {v1 : Int} {M : aM} {y : Int}  (hS : Sh T.1 M) (h : f_X11_isVoice T.1 v1 M = some y) : Mr 0 178 [(2, ((0 : Nat) : Int)), (0, v1)] M (some (0, y)) M T := by
  have key : ∀ d, 0 ≤ d → Wp d 178 0 [] [(2, ((0 : Nat) : Int)), (0, v1)] [] (M, T) (fun r2 σ2 => r2 = some (0, y) ∧ σ2 = (M, T)) := by
    intro d hd
    rw [f_X11_isVoice] at h
    refine y_blk (t := 0) rfl (show fnd bk_X11_isVoice 0 = some _ from rfl) aB_X11_isVoice ?_
    refine wp_iload_n (v := v1) rfl ?_
    refine wp_if_lt (fun c1 => ?_) (fun c1 => ?_)
    · rw [if_pos c1] at h
      refine y_blk (t := 21) rfl (show fnd bk_X11_isVoice 21 = some _ from rfl) aB_X11_isVoice ?_
      refine wp_iconst ⟨by decide, by decide⟩ ?_
      refine y_blk (t := 22) rfl (show fnd bk_X11_isVoice 22 = some _ from rfl) aB_X11_isVoice ?_
      cases h
      exact y_ret0 (Or.inr (Or.inl rfl)) ⟨rfl, rfl⟩
    · rw [if_neg c1] at h
      refine wp_iload_n (v := v1) rfl ?_
      refine wp_aload_n (v := ((0 : Nat) : Int)) rfl (Int.natCast_nonneg _) ?_
      refine y_get (show ash 0 = (11, 15) from rfl) (Nat.lt_of_lt_of_le (show 0 < 154 by decide) hS.1.1) (v := ((2 : Nat) : Int)) (hS.at 0 2 2 (by decide +kernel)) rfl ?_
      refine y_get (show ash 2 = (10, 19) from rfl) (Nat.lt_of_lt_of_le (show 2 < 154 by decide) hS.1.1) (v := ((3 : Nat) : Int)) (hS.at 2 3 3 (by decide +kernel)) rfl ?_
      refine wp_iconst ⟨by decide, by decide⟩ ?_
      refine y_iald (show ash 3 = (100, 8) from rfl) (Or.inl (Nat.lt_of_lt_of_le (show 3 < 154 by decide) hS.1.1)) (Nat.ne_of_lt (Nat.lt_of_lt_of_le (Nat.lt_of_lt_of_le (show 3 < 154 by decide) hS.1.1) hS.1.2)) ⟨by decide, by decide⟩ (v := M 3 3) rfl ?_
      refine wp_icmp_ge (fun c2 => ?_) (fun c2 => ?_)
      · rw [if_pos c2] at h
        refine y_blk (t := 21) rfl (show fnd bk_X11_isVoice 21 = some _ from rfl) aB_X11_isVoice ?_
        refine wp_iconst ⟨by decide, by decide⟩ ?_
        refine y_blk (t := 22) rfl (show fnd bk_X11_isVoice 22 = some _ from rfl) aB_X11_isVoice ?_
        cases h
        exact y_ret0 (Or.inr (Or.inl rfl)) ⟨rfl, rfl⟩
      · rw [if_neg c2] at h
        refine wp_iconst ⟨by decide, by decide⟩ ?_
        refine wp_goto ?_
        refine y_blk (t := 22) rfl (show fnd bk_X11_isVoice 22 = some _ from rfl) aB_X11_isVoice ?_
        cases h
        exact y_ret0 (Or.inr (Or.inr rfl)) ⟨rfl, rfl⟩
  exact fun d hd => Ms.of (key d hd)

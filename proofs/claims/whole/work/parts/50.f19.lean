/-! ===== methods as functions ===== -/
theorem aB_X11_allowAct : ∀ pc, aB 173 pc = fnd bk_X11_allowAct pc := fun _ => rfl
def f_X11_allowAct (T : Nat)  (M : aM) : Option (Int × aM) :=
 (some (aup M 0 14 0)).bind fun m1 =>
 some (1, m1)
theorem t_X11_allowAct {T : T3}  {M : aM} {y : (Int × aM)}  (hS : Sh T.1 M) (h : f_X11_allowAct T.1  M = some y) : Mr 0 173 [(2, ((0 : Nat) : Int))] M (some (0, y.1)) y.2 T ∧ Sh T.1 y.2 := by
  have key : ∀ d, 0 ≤ d → Wp d 173 0 [] [(2, ((0 : Nat) : Int))] [] (M, T) (fun r2 σ2 => r2 = some (0, y.1) ∧ σ2 = (y.2, T) ∧ Sh T.1 y.2) := by
    intro d hd
    rw [f_X11_allowAct] at h
    refine y_blk (t := 0) rfl (show fnd bk_X11_allowAct 0 = some _ from rfl) aB_X11_allowAct ?_
    refine wp_aload_n (v := ((0 : Nat) : Int)) rfl (Int.natCast_nonneg _) ?_
    refine wp_iconst ⟨by decide, by decide⟩ ?_
    refine y_put (show ash 0 = (11, 15) from rfl) (Nat.lt_of_lt_of_le (show 0 < 154 by decide) hS.1.1) rfl ?_
    obtain ⟨m1, em1, h⟩ := d_bind h
    have em1 := Option.some.inj em1
    have s2 : Sh T.1 m1 := em1 ▸ hS.up (Or.inr ⟨by rw [(show ash 0 = (11, 15) from rfl)]; decide, by rw [(show ash 0 = (11, 15) from rfl)]; decide⟩) (by have := (Nat.lt_of_lt_of_le (show 0 < 154 by decide) hS.1.1); have := hS.1.2; omega)
    rw [em1]
    refine wp_iconst ⟨by decide, by decide⟩ ?_
    cases h
    exact y_ret0 (Or.inr (Or.inr rfl)) ⟨rfl, rfl, s2⟩
  exact ⟨fun d hd => Ms.of3 (key d hd), Ms.sh (key 0 (Nat.le_refl _))⟩
theorem aB_X11_walk : ∀ pc, aB 161 pc = fnd bk_X11_walk pc := fun _ => rfl
def f_X11_walk (T : Nat) (v1 : Int) (v2 : Int) (M : aM) : Option (Int × aM) :=
 (f_X11_isFolk T v1 M).bind fun x1 =>
 if x1 = 0 then
 (f_X11_refuseAct T 1 M).bind fun x4 =>
 if x4.1 = 0 ∨ x4.1 = 1 then
 some (x4.1, x4.2) else none else
 (f_X11_isCave T v2 M).bind fun x9 =>
 if x9 = 0 then
 (f_X11_refuseAct T 1 M).bind fun x33 =>
 if x33.1 = 0 ∨ x33.1 = 1 then
 some (x33.1, x33.2) else none else
 if 0 ≤ v1 ∧ v1 < 4 then
 if 0 ≤ (M 38 (v1).toNat) ∧ (M 38 (v1).toNat) < 8 then
 (f_X11_hasBit T (M 40 ((M 38 (v1).toNat)).toNat) v2 M).bind fun x14 =>
 if x14 = 0 then
 (f_X11_refuseAct T 5 M).bind fun x28 =>
 if x28.1 = 0 ∨ x28.1 = 1 then
 some (x28.1, x28.2) else none else
 (f_X4_keep T 35 M).bind fun x17 =>
 (some (aup x17.2 38 (v1).toNat v2)).bind fun m21 =>
 (f_X11_allowAct T m21).bind fun x23 =>
 if x23.1 = 0 ∨ x23.1 = 1 then
 some (x23.1, x23.2) else none else none else none
theorem t_X11_walk {T : T3} {v1 : Int} {v2 : Int} {M : aM} {y : (Int × aM)}  (hS : Sh T.1 M) (h : f_X11_walk T.1 v1 v2 M = some y) : Mr 3 161 [(2, ((0 : Nat) : Int)), (0, v1), (0, v2)] M (some (0, y.1)) y.2 T ∧ Sh T.1 y.2 := by
  have key : ∀ d, 3 ≤ d → Wp d 161 0 [] [(2, ((0 : Nat) : Int)), (0, v1), (0, v2)] [] (M, T) (fun r2 σ2 => r2 = some (0, y.1) ∧ σ2 = (y.2, T) ∧ Sh T.1 y.2) := by
    intro d hd
    rw [f_X11_walk] at h
    refine y_blk (t := 0) rfl (show fnd bk_X11_walk 0 = some _ from rfl) aB_X11_walk ?_
    refine wp_aload_n (v := ((0 : Nat) : Int)) rfl (Int.natCast_nonneg _) ?_
    refine wp_iload_n (v := v1) rfl ?_
    obtain ⟨x1, e2, h⟩ := d_bind h
    refine y_callV (as := [(0, v1)]) (S1 := []) (Nat.le_of_ble_eq_true rfl) (by omega) (t_X11_isFolk hS e2) (Nat.le_of_ble_eq_true rfl) rfl (show ash 0 = (11, 15) from rfl) (Nat.lt_of_lt_of_le (show 0 < 154 by decide) hS.1.1) (Nat.le_of_ble_eq_true rfl) (Nat.le_of_ble_eq_true rfl) rfl ?_
    refine wp_if_eq (fun c3 => ?_) (fun c3 => ?_)
    · rw [if_pos c3] at h
      refine y_blk (t := 16) rfl (show fnd bk_X11_walk 16 = some _ from rfl) aB_X11_walk ?_
      refine wp_aload_n (v := ((0 : Nat) : Int)) rfl (Int.natCast_nonneg _) ?_
      refine wp_iconst ⟨by decide, by decide⟩ ?_
      obtain ⟨x4, e5, h⟩ := d_bind h
      obtain ⟨r6, s7⟩ := t_X11_refuseAct hS e5
      refine y_callV (as := [(0, 1)]) (S1 := []) (Nat.le_of_ble_eq_true rfl) (by omega) r6 (Nat.le_of_ble_eq_true rfl) rfl (show ash 0 = (11, 15) from rfl) (Nat.lt_of_lt_of_le (show 0 < 154 by decide) hS.1.1) (Nat.le_of_ble_eq_true rfl) (Nat.le_of_ble_eq_true rfl) rfl ?_
      obtain ⟨c8, h⟩ := d_ite h
      cases h
      exact y_ret0 (Or.inr c8) ⟨rfl, rfl, s7⟩
    · rw [if_neg c3] at h
      refine wp_aload_n (v := ((0 : Nat) : Int)) rfl (Int.natCast_nonneg _) ?_
      refine wp_iload_n (v := v2) rfl ?_
      obtain ⟨x9, e10, h⟩ := d_bind h
      refine y_callV (as := [(0, v2)]) (S1 := []) (Nat.le_of_ble_eq_true rfl) (by omega) (t_X11_isCave hS e10) (Nat.le_of_ble_eq_true rfl) rfl (show ash 0 = (11, 15) from rfl) (Nat.lt_of_lt_of_le (show 0 < 154 by decide) hS.1.1) (Nat.le_of_ble_eq_true rfl) (Nat.le_of_ble_eq_true rfl) rfl ?_
      refine y_nez (fun c11 => ?_) (fun c11 => ?_)
      · rw [if_neg c11] at h
        refine y_blk (t := 22) rfl (show fnd bk_X11_walk 22 = some _ from rfl) aB_X11_walk ?_
        refine wp_aload_n (v := ((0 : Nat) : Int)) rfl (Int.natCast_nonneg _) ?_
        refine y_get (show ash 0 = (11, 15) from rfl) (Nat.lt_of_lt_of_le (show 0 < 154 by decide) hS.1.1) (v := ((39 : Nat) : Int)) (hS.at 0 5 39 (by decide +kernel)) rfl ?_
        refine y_get (show ash 39 = (5, 4) from rfl) (Nat.lt_of_lt_of_le (show 39 < 154 by decide) hS.1.1) (v := ((40 : Nat) : Int)) (hS.at 39 1 40 (by decide +kernel)) rfl ?_
        refine wp_aload_n (v := ((0 : Nat) : Int)) rfl (Int.natCast_nonneg _) ?_
        refine y_get (show ash 0 = (11, 15) from rfl) (Nat.lt_of_lt_of_le (show 0 < 154 by decide) hS.1.1) (v := ((35 : Nat) : Int)) (hS.at 0 4 35 (by decide +kernel)) rfl ?_
        refine y_get (show ash 35 = (8, 5) from rfl) (Nat.lt_of_lt_of_le (show 35 < 154 by decide) hS.1.1) (v := ((38 : Nat) : Int)) (hS.at 35 2 38 (by decide +kernel)) rfl ?_
        refine wp_iload_n (v := v1) rfl ?_
        obtain ⟨c12, h⟩ := d_ite h
        refine y_iald (show ash 38 = (100, 4) from rfl) (Or.inl (Nat.lt_of_lt_of_le (show 38 < 154 by decide) hS.1.1)) (Nat.ne_of_lt (Nat.lt_of_lt_of_le (Nat.lt_of_lt_of_le (show 38 < 154 by decide) hS.1.1) hS.1.2)) c12 (v := M 38 (v1).toNat) rfl ?_
        obtain ⟨c13, h⟩ := d_ite h
        refine y_iald (show ash 40 = (100, 8) from rfl) (Or.inl (Nat.lt_of_lt_of_le (show 40 < 154 by decide) hS.1.1)) (Nat.ne_of_lt (Nat.lt_of_lt_of_le (Nat.lt_of_lt_of_le (show 40 < 154 by decide) hS.1.1) hS.1.2)) c13 (v := M 40 ((M 38 (v1).toNat)).toNat) rfl ?_
        refine wp_iload_n (v := v2) rfl ?_
        obtain ⟨x14, e15, h⟩ := d_bind h
        refine y_callS (as := [(0, (M 40 ((M 38 (v1).toNat)).toNat)), (0, v2)]) (S1 := []) (Nat.le_of_ble_eq_true rfl) (by omega) (t_X11_hasBit hS e15) (Nat.le_of_ble_eq_true rfl) rfl (Nat.le_of_ble_eq_true rfl) (Nat.le_of_ble_eq_true rfl) rfl ?_
        refine y_nez (fun c16 => ?_) (fun c16 => ?_)
        · rw [if_neg c16] at h
          refine y_blk (t := 52) rfl (show fnd bk_X11_walk 52 = some _ from rfl) aB_X11_walk ?_
          refine wp_aload_n (v := ((0 : Nat) : Int)) rfl (Int.natCast_nonneg _) ?_
          refine y_get (show ash 0 = (11, 15) from rfl) (Nat.lt_of_lt_of_le (show 0 < 154 by decide) hS.1.1) (v := ((59 : Nat) : Int)) (hS.at 0 13 59 (by decide +kernel)) rfl ?_
          refine wp_aload_n (v := ((0 : Nat) : Int)) rfl (Int.natCast_nonneg _) ?_
          refine y_get (show ash 0 = (11, 15) from rfl) (Nat.lt_of_lt_of_le (show 0 < 154 by decide) hS.1.1) (v := ((35 : Nat) : Int)) (hS.at 0 4 35 (by decide +kernel)) rfl ?_
          obtain ⟨x17, e18, h⟩ := d_bind h
          obtain ⟨r19, s20⟩ := t_X4_keep (show isSt 35 by decide) hS e18
          refine y_callVv (as := [(2, ((35 : Nat) : Int))]) (S1 := []) (Nat.le_of_ble_eq_true rfl) (by omega) r19 rfl (show ash 59 = (4, 5) from rfl) (Nat.lt_of_lt_of_le (show 59 < 154 by decide) hS.1.1) (Nat.le_of_ble_eq_true rfl) (Nat.le_of_ble_eq_true rfl) rfl ?_
          refine wp_aload_n (v := ((0 : Nat) : Int)) rfl (Int.natCast_nonneg _) ?_
          refine y_get (show ash 0 = (11, 15) from rfl) (Nat.lt_of_lt_of_le (show 0 < 154 by decide) hS.1.1) (v := ((35 : Nat) : Int)) (s20.at 0 4 35 (by decide +kernel)) rfl ?_
          refine y_get (show ash 35 = (8, 5) from rfl) (Nat.lt_of_lt_of_le (show 35 < 154 by decide) hS.1.1) (v := ((38 : Nat) : Int)) (s20.at 35 2 38 (by decide +kernel)) rfl ?_
          refine wp_iload_n (v := v1) rfl ?_
          refine wp_iload_n (v := v2) rfl ?_
          refine y_iast (show ash 38 = (100, 4) from rfl) (Nat.lt_of_lt_of_le (show 38 < 154 by decide) hS.1.1) c12 ?_
          obtain ⟨m21, em21, h⟩ := d_bind h
          have em21 := Option.some.inj em21
          have s22 : Sh T.1 m21 := em21 ▸ s20.up (Or.inl ⟨by rw [(show ash 38 = (100, 4) from rfl)]; exact Nat.le_of_ble_eq_true rfl, by rw [(show ash 38 = (100, 4) from rfl)]; exact Nat.le_of_ble_eq_true rfl⟩) (by have := (Nat.lt_of_lt_of_le (show 38 < 154 by decide) hS.1.1); have := hS.1.2; omega)
          rw [em21]
          refine wp_aload_n (v := ((0 : Nat) : Int)) rfl (Int.natCast_nonneg _) ?_
          obtain ⟨x23, e24, h⟩ := d_bind h
          obtain ⟨r25, s26⟩ := t_X11_allowAct s22 e24
          refine y_callV (as := []) (S1 := []) (Nat.le_of_ble_eq_true rfl) (by omega) r25 (Nat.le_of_ble_eq_true rfl) rfl (show ash 0 = (11, 15) from rfl) (Nat.lt_of_lt_of_le (show 0 < 154 by decide) hS.1.1) (Nat.le_of_ble_eq_true rfl) (Nat.le_of_ble_eq_true rfl) rfl ?_
          obtain ⟨c27, h⟩ := d_ite h
          cases h
          exact y_ret0 (Or.inr c27) ⟨rfl, rfl, s26⟩
        · rw [if_pos c16] at h
          refine wp_aload_n (v := ((0 : Nat) : Int)) rfl (Int.natCast_nonneg _) ?_
          refine wp_iconst ⟨by decide, by decide⟩ ?_
          obtain ⟨x28, e29, h⟩ := d_bind h
          obtain ⟨r30, s31⟩ := t_X11_refuseAct hS e29
          refine y_callV (as := [(0, 5)]) (S1 := []) (Nat.le_of_ble_eq_true rfl) (by omega) r30 (Nat.le_of_ble_eq_true rfl) rfl (show ash 0 = (11, 15) from rfl) (Nat.lt_of_lt_of_le (show 0 < 154 by decide) hS.1.1) (Nat.le_of_ble_eq_true rfl) (Nat.le_of_ble_eq_true rfl) rfl ?_
          obtain ⟨c32, h⟩ := d_ite h
          cases h
          exact y_ret0 (Or.inr c32) ⟨rfl, rfl, s31⟩
      · rw [if_pos c11] at h
        refine y_blk (t := 16) rfl (show fnd bk_X11_walk 16 = some _ from rfl) aB_X11_walk ?_
        refine wp_aload_n (v := ((0 : Nat) : Int)) rfl (Int.natCast_nonneg _) ?_
        refine wp_iconst ⟨by decide, by decide⟩ ?_
        obtain ⟨x33, e34, h⟩ := d_bind h
        obtain ⟨r35, s36⟩ := t_X11_refuseAct hS e34
        refine y_callV (as := [(0, 1)]) (S1 := []) (Nat.le_of_ble_eq_true rfl) (by omega) r35 (Nat.le_of_ble_eq_true rfl) rfl (show ash 0 = (11, 15) from rfl) (Nat.lt_of_lt_of_le (show 0 < 154 by decide) hS.1.1) (Nat.le_of_ble_eq_true rfl) (Nat.le_of_ble_eq_true rfl) rfl ?_
        obtain ⟨c37, h⟩ := d_ite h
        cases h
        exact y_ret0 (Or.inr c37) ⟨rfl, rfl, s36⟩
  exact ⟨fun d hd => Ms.of3 (key d hd), Ms.sh (key 3 (Nat.le_refl _))⟩
theorem aB_X11_changeWays : ∀ pc, aB 186 pc = fnd bk_X11_changeWays pc := fun _ => rfl
def f_X11_changeWays (T : Nat) (v1 : Int) (M : aM) : Option (Int × aM) :=
 (f_X4_keep T 35 M).bind fun x1 =>
 (some (aup x1.2 35 3 v1)).bind fun m5 =>
 (f_X5_lay T 39 v1 m5).bind fun x7 =>
 some (0, x7.2)
theorem t_X11_changeWays {T : T3} {v1 : Int} {M : aM} {y : (Int × aM)}  (hS : Sh T.1 M) (h : f_X11_changeWays T.1 v1 M = some y) : Mr 3 186 [(2, ((0 : Nat) : Int)), (0, v1)] M (none) y.2 T ∧ Sh T.1 y.2 := by
  have key : ∀ d, 3 ≤ d → Wp d 186 0 [] [(2, ((0 : Nat) : Int)), (0, v1)] [] (M, T) (fun r2 σ2 => r2 = none ∧ σ2 = (y.2, T) ∧ Sh T.1 y.2) := by
    intro d hd
    rw [f_X11_changeWays] at h
    refine y_blk (t := 0) rfl (show fnd bk_X11_changeWays 0 = some _ from rfl) aB_X11_changeWays ?_
    refine wp_aload_n (v := ((0 : Nat) : Int)) rfl (Int.natCast_nonneg _) ?_
    refine y_get (show ash 0 = (11, 15) from rfl) (Nat.lt_of_lt_of_le (show 0 < 154 by decide) hS.1.1) (v := ((59 : Nat) : Int)) (hS.at 0 13 59 (by decide +kernel)) rfl ?_
    refine wp_aload_n (v := ((0 : Nat) : Int)) rfl (Int.natCast_nonneg _) ?_
    refine y_get (show ash 0 = (11, 15) from rfl) (Nat.lt_of_lt_of_le (show 0 < 154 by decide) hS.1.1) (v := ((35 : Nat) : Int)) (hS.at 0 4 35 (by decide +kernel)) rfl ?_
    obtain ⟨x1, e2, h⟩ := d_bind h
    obtain ⟨r3, s4⟩ := t_X4_keep (show isSt 35 by decide) hS e2
    refine y_callVv (as := [(2, ((35 : Nat) : Int))]) (S1 := []) (Nat.le_of_ble_eq_true rfl) (by omega) r3 rfl (show ash 59 = (4, 5) from rfl) (Nat.lt_of_lt_of_le (show 59 < 154 by decide) hS.1.1) (Nat.le_of_ble_eq_true rfl) (Nat.le_of_ble_eq_true rfl) rfl ?_
    refine wp_aload_n (v := ((0 : Nat) : Int)) rfl (Int.natCast_nonneg _) ?_
    refine y_get (show ash 0 = (11, 15) from rfl) (Nat.lt_of_lt_of_le (show 0 < 154 by decide) hS.1.1) (v := ((35 : Nat) : Int)) (s4.at 0 4 35 (by decide +kernel)) rfl ?_
    refine wp_iload_n (v := v1) rfl ?_
    refine y_put (show ash 35 = (8, 5) from rfl) (Nat.lt_of_lt_of_le (show 35 < 154 by decide) hS.1.1) rfl ?_
    obtain ⟨m5, em5, h⟩ := d_bind h
    have em5 := Option.some.inj em5
    have s6 : Sh T.1 m5 := em5 ▸ s4.up (Or.inr ⟨by rw [(show ash 35 = (8, 5) from rfl)]; decide, by rw [(show ash 35 = (8, 5) from rfl)]; decide⟩) (by have := (Nat.lt_of_lt_of_le (show 35 < 154 by decide) hS.1.1); have := hS.1.2; omega)
    rw [em5]
    refine wp_aload_n (v := ((0 : Nat) : Int)) rfl (Int.natCast_nonneg _) ?_
    refine y_get (show ash 0 = (11, 15) from rfl) (Nat.lt_of_lt_of_le (show 0 < 154 by decide) hS.1.1) (v := ((39 : Nat) : Int)) (s6.at 0 5 39 (by decide +kernel)) rfl ?_
    refine wp_iload_n (v := v1) rfl ?_
    obtain ⟨x7, e8, h⟩ := d_bind h
    obtain ⟨r9, s10⟩ := t_X5_lay (show isLand 39 by decide) s6 e8
    refine y_callVv (as := [(0, v1)]) (S1 := []) (Nat.le_of_ble_eq_true rfl) (by omega) r9 rfl (show ash 39 = (5, 4) from rfl) (Nat.lt_of_lt_of_le (show 39 < 154 by decide) hS.1.1) (Nat.le_of_ble_eq_true rfl) (Nat.le_of_ble_eq_true rfl) rfl ?_
    cases h
    exact wp_return ⟨rfl, rfl, s10⟩
  exact ⟨fun d hd => Ms.of3 (key d hd), Ms.sh (key 3 (Nat.le_refl _))⟩
theorem aB_X11_dig : ∀ pc, aB 162 pc = fnd bk_X11_dig pc := fun _ => rfl
def f_X11_dig (T : Nat) (v1 : Int) (M : aM) : Option (Int × aM) :=
 (f_X11_isWay T v1 M).bind fun x1 =>
 if x1 = 0 then
 (f_X11_refuseAct T 1 M).bind fun x21 =>
 if x21.1 = 0 ∨ x21.1 = 1 then
 some (x21.1, x21.2) else none else
 (f_X11_hasBit T (M 35 3) v1 M).bind fun x4 =>
 if x4 = 0 then
 (f_X11_refuseAct T 5 M).bind fun x16 =>
 if x16.1 = 0 ∨ x16.1 = 1 then
 some (x16.1, x16.2) else none else
 (f_X11_changeWays T (aand (M 35 3) (axor (ashl 1 v1) (-1))) M).bind fun x7 =>
 (f_X11_allowAct T x7.2).bind fun x11 =>
 if x11.1 = 0 ∨ x11.1 = 1 then
 some (x11.1, x11.2) else none
theorem t_X11_dig {T : T3} {v1 : Int} {M : aM} {y : (Int × aM)}  (hS : Sh T.1 M) (h : f_X11_dig T.1 v1 M = some y) : Mr 4 162 [(2, ((0 : Nat) : Int)), (0, v1)] M (some (0, y.1)) y.2 T ∧ Sh T.1 y.2 := by
  have key : ∀ d, 4 ≤ d → Wp d 162 0 [] [(2, ((0 : Nat) : Int)), (0, v1)] [] (M, T) (fun r2 σ2 => r2 = some (0, y.1) ∧ σ2 = (y.2, T) ∧ Sh T.1 y.2) := by
    intro d hd
    rw [f_X11_dig] at h
    refine y_blk (t := 0) rfl (show fnd bk_X11_dig 0 = some _ from rfl) aB_X11_dig ?_
    refine wp_aload_n (v := ((0 : Nat) : Int)) rfl (Int.natCast_nonneg _) ?_
    refine wp_iload_n (v := v1) rfl ?_
    obtain ⟨x1, e2, h⟩ := d_bind h
    refine y_callV (as := [(0, v1)]) (S1 := []) (Nat.le_of_ble_eq_true rfl) (by omega) (t_X11_isWay hS e2) (Nat.le_of_ble_eq_true rfl) rfl (show ash 0 = (11, 15) from rfl) (Nat.lt_of_lt_of_le (show 0 < 154 by decide) hS.1.1) (Nat.le_of_ble_eq_true rfl) (Nat.le_of_ble_eq_true rfl) rfl ?_
    refine y_nez (fun c3 => ?_) (fun c3 => ?_)
    · rw [if_neg c3] at h
      refine y_blk (t := 14) rfl (show fnd bk_X11_dig 14 = some _ from rfl) aB_X11_dig ?_
      refine wp_aload_n (v := ((0 : Nat) : Int)) rfl (Int.natCast_nonneg _) ?_
      refine y_get (show ash 0 = (11, 15) from rfl) (Nat.lt_of_lt_of_le (show 0 < 154 by decide) hS.1.1) (v := ((35 : Nat) : Int)) (hS.at 0 4 35 (by decide +kernel)) rfl ?_
      refine y_get (show ash 35 = (8, 5) from rfl) (Nat.lt_of_lt_of_le (show 35 < 154 by decide) hS.1.1) (v := M 35 3) rfl rfl ?_
      refine wp_iload_n (v := v1) rfl ?_
      obtain ⟨x4, e5, h⟩ := d_bind h
      refine y_callS (as := [(0, (M 35 3)), (0, v1)]) (S1 := []) (Nat.le_of_ble_eq_true rfl) (by omega) (t_X11_hasBit hS e5) (Nat.le_of_ble_eq_true rfl) rfl (Nat.le_of_ble_eq_true rfl) (Nat.le_of_ble_eq_true rfl) rfl ?_
      refine y_nez (fun c6 => ?_) (fun c6 => ?_)
      · rw [if_neg c6] at h
        refine y_blk (t := 34) rfl (show fnd bk_X11_dig 34 = some _ from rfl) aB_X11_dig ?_
        refine wp_aload_n (v := ((0 : Nat) : Int)) rfl (Int.natCast_nonneg _) ?_
        refine wp_aload_n (v := ((0 : Nat) : Int)) rfl (Int.natCast_nonneg _) ?_
        refine y_get (show ash 0 = (11, 15) from rfl) (Nat.lt_of_lt_of_le (show 0 < 154 by decide) hS.1.1) (v := ((35 : Nat) : Int)) (hS.at 0 4 35 (by decide +kernel)) rfl ?_
        refine y_get (show ash 35 = (8, 5) from rfl) (Nat.lt_of_lt_of_le (show 35 < 154 by decide) hS.1.1) (v := M 35 3) rfl rfl ?_
        refine wp_iconst ⟨by decide, by decide⟩ ?_
        refine wp_iload_n (v := v1) rfl ?_
        refine wp_ishl ?_
        refine wp_iconst ⟨by decide, by decide⟩ ?_
        refine wp_ixor ?_
        refine wp_iand ?_
        obtain ⟨x7, e8, h⟩ := d_bind h
        obtain ⟨r9, s10⟩ := t_X11_changeWays hS e8
        refine y_callVv (as := [(0, (aand (M 35 3) (axor (ashl 1 v1) (-1))))]) (S1 := []) (Nat.le_of_ble_eq_true rfl) (by omega) r9 rfl (show ash 0 = (11, 15) from rfl) (Nat.lt_of_lt_of_le (show 0 < 154 by decide) hS.1.1) (Nat.le_of_ble_eq_true rfl) (Nat.le_of_ble_eq_true rfl) rfl ?_
        refine wp_aload_n (v := ((0 : Nat) : Int)) rfl (Int.natCast_nonneg _) ?_
        obtain ⟨x11, e12, h⟩ := d_bind h
        obtain ⟨r13, s14⟩ := t_X11_allowAct s10 e12
        refine y_callV (as := []) (S1 := []) (Nat.le_of_ble_eq_true rfl) (by omega) r13 (Nat.le_of_ble_eq_true rfl) rfl (show ash 0 = (11, 15) from rfl) (Nat.lt_of_lt_of_le (show 0 < 154 by decide) hS.1.1) (Nat.le_of_ble_eq_true rfl) (Nat.le_of_ble_eq_true rfl) rfl ?_
        obtain ⟨c15, h⟩ := d_ite h
        cases h
        exact y_ret0 (Or.inr c15) ⟨rfl, rfl, s14⟩
      · rw [if_pos c6] at h
        refine wp_aload_n (v := ((0 : Nat) : Int)) rfl (Int.natCast_nonneg _) ?_
        refine wp_iconst ⟨by decide, by decide⟩ ?_
        obtain ⟨x16, e17, h⟩ := d_bind h
        obtain ⟨r18, s19⟩ := t_X11_refuseAct hS e17
        refine y_callV (as := [(0, 5)]) (S1 := []) (Nat.le_of_ble_eq_true rfl) (by omega) r18 (Nat.le_of_ble_eq_true rfl) rfl (show ash 0 = (11, 15) from rfl) (Nat.lt_of_lt_of_le (show 0 < 154 by decide) hS.1.1) (Nat.le_of_ble_eq_true rfl) (Nat.le_of_ble_eq_true rfl) rfl ?_
        obtain ⟨c20, h⟩ := d_ite h
        cases h
        exact y_ret0 (Or.inr c20) ⟨rfl, rfl, s19⟩
    · rw [if_pos c3] at h
      refine wp_aload_n (v := ((0 : Nat) : Int)) rfl (Int.natCast_nonneg _) ?_
      refine wp_iconst ⟨by decide, by decide⟩ ?_
      obtain ⟨x21, e22, h⟩ := d_bind h
      obtain ⟨r23, s24⟩ := t_X11_refuseAct hS e22
      refine y_callV (as := [(0, 1)]) (S1 := []) (Nat.le_of_ble_eq_true rfl) (by omega) r23 (Nat.le_of_ble_eq_true rfl) rfl (show ash 0 = (11, 15) from rfl) (Nat.lt_of_lt_of_le (show 0 < 154 by decide) hS.1.1) (Nat.le_of_ble_eq_true rfl) (Nat.le_of_ble_eq_true rfl) rfl ?_
      obtain ⟨c25, h⟩ := d_ite h
      cases h
      exact y_ret0 (Or.inr c25) ⟨rfl, rfl, s24⟩
  exact ⟨fun d hd => Ms.of3 (key d hd), Ms.sh (key 4 (Nat.le_refl _))⟩
theorem aB_X11_flood : ∀ pc, aB 163 pc = fnd bk_X11_flood pc := fun _ => rfl
def f_X11_flood (T : Nat) (v1 : Int) (M : aM) : Option (Int × aM) :=
 (f_X11_isWay T v1 M).bind fun x1 =>
 if x1 = 0 then
 (f_X11_refuseAct T 1 M).bind fun x29 =>
 if x29.1 = 0 ∨ x29.1 = 1 then
 some (x29.1, x29.2) else none else
 (f_X11_hasBit T (M 35 3) v1 M).bind fun x4 =>
 if x4 = 0 then
 (f_J6_bitCount_0f7a4 T (M 35 3) M).bind fun x7 =>
 if x7 < 6 then
 (f_X11_changeWays T (aor (M 35 3) (ashl 1 v1)) M).bind fun x10 =>
 (f_X11_allowAct T x10.2).bind fun x14 =>
 if x14.1 = 0 ∨ x14.1 = 1 then
 some (x14.1, x14.2) else none else
 (f_X11_refuseAct T 3 M).bind fun x19 =>
 if x19.1 = 0 ∨ x19.1 = 1 then
 some (x19.1, x19.2) else none else
 (f_X11_refuseAct T 5 M).bind fun x24 =>
 if x24.1 = 0 ∨ x24.1 = 1 then
 some (x24.1, x24.2) else none
theorem t_X11_flood {T : T3} {v1 : Int} {M : aM} {y : (Int × aM)}  (hS : Sh T.1 M) (h : f_X11_flood T.1 v1 M = some y) : Mr 4 163 [(2, ((0 : Nat) : Int)), (0, v1)] M (some (0, y.1)) y.2 T ∧ Sh T.1 y.2 := by
  have key : ∀ d, 4 ≤ d → Wp d 163 0 [] [(2, ((0 : Nat) : Int)), (0, v1)] [] (M, T) (fun r2 σ2 => r2 = some (0, y.1) ∧ σ2 = (y.2, T) ∧ Sh T.1 y.2) := by
    intro d hd
    rw [f_X11_flood] at h
    refine y_blk (t := 0) rfl (show fnd bk_X11_flood 0 = some _ from rfl) aB_X11_flood ?_
    refine wp_aload_n (v := ((0 : Nat) : Int)) rfl (Int.natCast_nonneg _) ?_
    refine wp_iload_n (v := v1) rfl ?_
    obtain ⟨x1, e2, h⟩ := d_bind h
    refine y_callV (as := [(0, v1)]) (S1 := []) (Nat.le_of_ble_eq_true rfl) (by omega) (t_X11_isWay hS e2) (Nat.le_of_ble_eq_true rfl) rfl (show ash 0 = (11, 15) from rfl) (Nat.lt_of_lt_of_le (show 0 < 154 by decide) hS.1.1) (Nat.le_of_ble_eq_true rfl) (Nat.le_of_ble_eq_true rfl) rfl ?_
    refine y_nez (fun c3 => ?_) (fun c3 => ?_)
    · rw [if_neg c3] at h
      refine y_blk (t := 14) rfl (show fnd bk_X11_flood 14 = some _ from rfl) aB_X11_flood ?_
      refine wp_aload_n (v := ((0 : Nat) : Int)) rfl (Int.natCast_nonneg _) ?_
      refine y_get (show ash 0 = (11, 15) from rfl) (Nat.lt_of_lt_of_le (show 0 < 154 by decide) hS.1.1) (v := ((35 : Nat) : Int)) (hS.at 0 4 35 (by decide +kernel)) rfl ?_
      refine y_get (show ash 35 = (8, 5) from rfl) (Nat.lt_of_lt_of_le (show 35 < 154 by decide) hS.1.1) (v := M 35 3) rfl rfl ?_
      refine wp_iload_n (v := v1) rfl ?_
      obtain ⟨x4, e5, h⟩ := d_bind h
      refine y_callS (as := [(0, (M 35 3)), (0, v1)]) (S1 := []) (Nat.le_of_ble_eq_true rfl) (by omega) (t_X11_hasBit hS e5) (Nat.le_of_ble_eq_true rfl) rfl (Nat.le_of_ble_eq_true rfl) (Nat.le_of_ble_eq_true rfl) rfl ?_
      refine wp_if_eq (fun c6 => ?_) (fun c6 => ?_)
      · rw [if_pos c6] at h
        refine y_blk (t := 34) rfl (show fnd bk_X11_flood 34 = some _ from rfl) aB_X11_flood ?_
        refine wp_aload_n (v := ((0 : Nat) : Int)) rfl (Int.natCast_nonneg _) ?_
        refine y_get (show ash 0 = (11, 15) from rfl) (Nat.lt_of_lt_of_le (show 0 < 154 by decide) hS.1.1) (v := ((35 : Nat) : Int)) (hS.at 0 4 35 (by decide +kernel)) rfl ?_
        refine y_get (show ash 35 = (8, 5) from rfl) (Nat.lt_of_lt_of_le (show 35 < 154 by decide) hS.1.1) (v := M 35 3) rfl rfl ?_
        obtain ⟨x7, e8, h⟩ := d_bind h
        refine y_callS (as := [(0, (M 35 3))]) (S1 := []) (Nat.le_of_ble_eq_true rfl) (by omega) (t_J6_bitCount_0f7a4 hS e8) (Nat.le_of_ble_eq_true rfl) rfl (Nat.le_of_ble_eq_true rfl) (Nat.le_of_ble_eq_true rfl) rfl ?_
        refine wp_bipush (by decide) ?_
        refine wp_icmp_lt (fun c9 => ?_) (fun c9 => ?_)
        · rw [if_pos c9] at h
          refine y_blk (t := 55) rfl (show fnd bk_X11_flood 55 = some _ from rfl) aB_X11_flood ?_
          refine wp_aload_n (v := ((0 : Nat) : Int)) rfl (Int.natCast_nonneg _) ?_
          refine wp_aload_n (v := ((0 : Nat) : Int)) rfl (Int.natCast_nonneg _) ?_
          refine y_get (show ash 0 = (11, 15) from rfl) (Nat.lt_of_lt_of_le (show 0 < 154 by decide) hS.1.1) (v := ((35 : Nat) : Int)) (hS.at 0 4 35 (by decide +kernel)) rfl ?_
          refine y_get (show ash 35 = (8, 5) from rfl) (Nat.lt_of_lt_of_le (show 35 < 154 by decide) hS.1.1) (v := M 35 3) rfl rfl ?_
          refine wp_iconst ⟨by decide, by decide⟩ ?_
          refine wp_iload_n (v := v1) rfl ?_
          refine wp_ishl ?_
          refine wp_ior ?_
          obtain ⟨x10, e11, h⟩ := d_bind h
          obtain ⟨r12, s13⟩ := t_X11_changeWays hS e11
          refine y_callVv (as := [(0, (aor (M 35 3) (ashl 1 v1)))]) (S1 := []) (Nat.le_of_ble_eq_true rfl) (by omega) r12 rfl (show ash 0 = (11, 15) from rfl) (Nat.lt_of_lt_of_le (show 0 < 154 by decide) hS.1.1) (Nat.le_of_ble_eq_true rfl) (Nat.le_of_ble_eq_true rfl) rfl ?_
          refine wp_aload_n (v := ((0 : Nat) : Int)) rfl (Int.natCast_nonneg _) ?_
          obtain ⟨x14, e15, h⟩ := d_bind h
          obtain ⟨r16, s17⟩ := t_X11_allowAct s13 e15
          refine y_callV (as := []) (S1 := []) (Nat.le_of_ble_eq_true rfl) (by omega) r16 (Nat.le_of_ble_eq_true rfl) rfl (show ash 0 = (11, 15) from rfl) (Nat.lt_of_lt_of_le (show 0 < 154 by decide) hS.1.1) (Nat.le_of_ble_eq_true rfl) (Nat.le_of_ble_eq_true rfl) rfl ?_
          obtain ⟨c18, h⟩ := d_ite h
          cases h
          exact y_ret0 (Or.inr c18) ⟨rfl, rfl, s17⟩
        · rw [if_neg c9] at h
          refine wp_aload_n (v := ((0 : Nat) : Int)) rfl (Int.natCast_nonneg _) ?_
          refine wp_iconst ⟨by decide, by decide⟩ ?_
          obtain ⟨x19, e20, h⟩ := d_bind h
          obtain ⟨r21, s22⟩ := t_X11_refuseAct hS e20
          refine y_callV (as := [(0, 3)]) (S1 := []) (Nat.le_of_ble_eq_true rfl) (by omega) r21 (Nat.le_of_ble_eq_true rfl) rfl (show ash 0 = (11, 15) from rfl) (Nat.lt_of_lt_of_le (show 0 < 154 by decide) hS.1.1) (Nat.le_of_ble_eq_true rfl) (Nat.le_of_ble_eq_true rfl) rfl ?_
          obtain ⟨c23, h⟩ := d_ite h
          cases h
          exact y_ret0 (Or.inr c23) ⟨rfl, rfl, s22⟩
      · rw [if_neg c6] at h
        refine wp_aload_n (v := ((0 : Nat) : Int)) rfl (Int.natCast_nonneg _) ?_
        refine wp_iconst ⟨by decide, by decide⟩ ?_
        obtain ⟨x24, e25, h⟩ := d_bind h
        obtain ⟨r26, s27⟩ := t_X11_refuseAct hS e25
        refine y_callV (as := [(0, 5)]) (S1 := []) (Nat.le_of_ble_eq_true rfl) (by omega) r26 (Nat.le_of_ble_eq_true rfl) rfl (show ash 0 = (11, 15) from rfl) (Nat.lt_of_lt_of_le (show 0 < 154 by decide) hS.1.1) (Nat.le_of_ble_eq_true rfl) (Nat.le_of_ble_eq_true rfl) rfl ?_
        obtain ⟨c28, h⟩ := d_ite h
        cases h
        exact y_ret0 (Or.inr c28) ⟨rfl, rfl, s27⟩
    · rw [if_pos c3] at h
      refine wp_aload_n (v := ((0 : Nat) : Int)) rfl (Int.natCast_nonneg _) ?_
      refine wp_iconst ⟨by decide, by decide⟩ ?_
      obtain ⟨x29, e30, h⟩ := d_bind h
      obtain ⟨r31, s32⟩ := t_X11_refuseAct hS e30
      refine y_callV (as := [(0, 1)]) (S1 := []) (Nat.le_of_ble_eq_true rfl) (by omega) r31 (Nat.le_of_ble_eq_true rfl) rfl (show ash 0 = (11, 15) from rfl) (Nat.lt_of_lt_of_le (show 0 < 154 by decide) hS.1.1) (Nat.le_of_ble_eq_true rfl) (Nat.le_of_ble_eq_true rfl) rfl ?_
      obtain ⟨c33, h⟩ := d_ite h
      cases h
      exact y_ret0 (Or.inr c33) ⟨rfl, rfl, s32⟩
  exact ⟨fun d hd => Ms.of3 (key d hd), Ms.sh (key 4 (Nat.le_refl _))⟩
theorem aB_X11_undo : ∀ pc, aB 164 pc = fnd bk_X11_undo pc := fun _ => rfl
def f_X11_undo (T : Nat)  (M : aM) : Option (Int × aM) :=
 if (M 59 3) = 0 then
 (f_X11_refuseAct T 6 M).bind fun x15 =>
 if x15.1 = 0 ∨ x15.1 = 1 then
 some (x15.1, x15.2) else none else
 (f_X4_giveBack T 35 M).bind fun x2 =>
 (f_X5_lay T 39 (x2.2 35 3) x2.2).bind fun x6 =>
 (f_X11_allowAct T x6.2).bind fun x10 =>
 if x10.1 = 0 ∨ x10.1 = 1 then
 some (x10.1, x10.2) else none
theorem t_X11_undo {T : T3}  {M : aM} {y : (Int × aM)}  (hS : Sh T.1 M) (h : f_X11_undo T.1  M = some y) : Mr 3 164 [(2, ((0 : Nat) : Int))] M (some (0, y.1)) y.2 T ∧ Sh T.1 y.2 := by
  have key : ∀ d, 3 ≤ d → Wp d 164 0 [] [(2, ((0 : Nat) : Int))] [] (M, T) (fun r2 σ2 => r2 = some (0, y.1) ∧ σ2 = (y.2, T) ∧ Sh T.1 y.2) := by
    intro d hd
    rw [f_X11_undo] at h
    refine y_blk (t := 0) rfl (show fnd bk_X11_undo 0 = some _ from rfl) aB_X11_undo ?_
    refine wp_aload_n (v := ((0 : Nat) : Int)) rfl (Int.natCast_nonneg _) ?_
    refine y_get (show ash 0 = (11, 15) from rfl) (Nat.lt_of_lt_of_le (show 0 < 154 by decide) hS.1.1) (v := ((59 : Nat) : Int)) (hS.at 0 13 59 (by decide +kernel)) rfl ?_
    refine y_get (show ash 59 = (4, 5) from rfl) (Nat.lt_of_lt_of_le (show 59 < 154 by decide) hS.1.1) (v := M 59 3) rfl rfl ?_
    refine y_nez (fun c1 => ?_) (fun c1 => ?_)
    · rw [if_neg c1] at h
      refine y_blk (t := 17) rfl (show fnd bk_X11_undo 17 = some _ from rfl) aB_X11_undo ?_
      refine wp_aload_n (v := ((0 : Nat) : Int)) rfl (Int.natCast_nonneg _) ?_
      refine y_get (show ash 0 = (11, 15) from rfl) (Nat.lt_of_lt_of_le (show 0 < 154 by decide) hS.1.1) (v := ((59 : Nat) : Int)) (hS.at 0 13 59 (by decide +kernel)) rfl ?_
      refine wp_aload_n (v := ((0 : Nat) : Int)) rfl (Int.natCast_nonneg _) ?_
      refine y_get (show ash 0 = (11, 15) from rfl) (Nat.lt_of_lt_of_le (show 0 < 154 by decide) hS.1.1) (v := ((35 : Nat) : Int)) (hS.at 0 4 35 (by decide +kernel)) rfl ?_
      obtain ⟨x2, e3, h⟩ := d_bind h
      obtain ⟨r4, s5⟩ := t_X4_giveBack (show isSt 35 by decide) hS e3
      refine y_callVv (as := [(2, ((35 : Nat) : Int))]) (S1 := []) (Nat.le_of_ble_eq_true rfl) (by omega) r4 rfl (show ash 59 = (4, 5) from rfl) (Nat.lt_of_lt_of_le (show 59 < 154 by decide) hS.1.1) (Nat.le_of_ble_eq_true rfl) (Nat.le_of_ble_eq_true rfl) rfl ?_
      refine wp_aload_n (v := ((0 : Nat) : Int)) rfl (Int.natCast_nonneg _) ?_
      refine y_get (show ash 0 = (11, 15) from rfl) (Nat.lt_of_lt_of_le (show 0 < 154 by decide) hS.1.1) (v := ((39 : Nat) : Int)) (s5.at 0 5 39 (by decide +kernel)) rfl ?_
      refine wp_aload_n (v := ((0 : Nat) : Int)) rfl (Int.natCast_nonneg _) ?_
      refine y_get (show ash 0 = (11, 15) from rfl) (Nat.lt_of_lt_of_le (show 0 < 154 by decide) hS.1.1) (v := ((35 : Nat) : Int)) (s5.at 0 4 35 (by decide +kernel)) rfl ?_
      refine y_get (show ash 35 = (8, 5) from rfl) (Nat.lt_of_lt_of_le (show 35 < 154 by decide) hS.1.1) (v := x2.2 35 3) rfl rfl ?_
      obtain ⟨x6, e7, h⟩ := d_bind h
      obtain ⟨r8, s9⟩ := t_X5_lay (show isLand 39 by decide) s5 e7
      refine y_callVv (as := [(0, (x2.2 35 3))]) (S1 := []) (Nat.le_of_ble_eq_true rfl) (by omega) r8 rfl (show ash 39 = (5, 4) from rfl) (Nat.lt_of_lt_of_le (show 39 < 154 by decide) hS.1.1) (Nat.le_of_ble_eq_true rfl) (Nat.le_of_ble_eq_true rfl) rfl ?_
      refine wp_aload_n (v := ((0 : Nat) : Int)) rfl (Int.natCast_nonneg _) ?_
      obtain ⟨x10, e11, h⟩ := d_bind h
      obtain ⟨r12, s13⟩ := t_X11_allowAct s9 e11
      refine y_callV (as := []) (S1 := []) (Nat.le_of_ble_eq_true rfl) (by omega) r12 (Nat.le_of_ble_eq_true rfl) rfl (show ash 0 = (11, 15) from rfl) (Nat.lt_of_lt_of_le (show 0 < 154 by decide) hS.1.1) (Nat.le_of_ble_eq_true rfl) (Nat.le_of_ble_eq_true rfl) rfl ?_
      obtain ⟨c14, h⟩ := d_ite h
      cases h
      exact y_ret0 (Or.inr c14) ⟨rfl, rfl, s13⟩
    · rw [if_pos c1] at h
      refine wp_aload_n (v := ((0 : Nat) : Int)) rfl (Int.natCast_nonneg _) ?_
      refine wp_bipush (by decide) ?_
      obtain ⟨x15, e16, h⟩ := d_bind h
      obtain ⟨r17, s18⟩ := t_X11_refuseAct hS e16
      refine y_callV (as := [(0, 6)]) (S1 := []) (Nat.le_of_ble_eq_true rfl) (by omega) r17 (Nat.le_of_ble_eq_true rfl) rfl (show ash 0 = (11, 15) from rfl) (Nat.lt_of_lt_of_le (show 0 < 154 by decide) hS.1.1) (Nat.le_of_ble_eq_true rfl) (Nat.le_of_ble_eq_true rfl) rfl ?_
      obtain ⟨c19, h⟩ := d_ite h
      cases h
      exact y_ret0 (Or.inr c19) ⟨rfl, rfl, s18⟩
  exact ⟨fun d hd => Ms.of3 (key d hd), Ms.sh (key 3 (Nat.le_refl _))⟩
theorem aB_X11_image : ∀ pc, aB 165 pc = fnd bk_X11_image pc := fun _ => rfl
def f_X11_image (T : Nat)  (M : aM) : Option (Int × aM) :=
 (f_X11_hasWell T M).bind fun x1 =>
 if x1 = 0 then
 (f_X11_refuse T 1 M).bind fun x17 =>
 some (x17.1, x17.2) else
 if (M 59 4) < 3 then
 (f_X4_addImage T 35 M).bind fun x5 =>
 (f_X11_allow T x5.1 x5.2).bind fun x9 =>
 some (x9.1, x9.2) else
 (f_X11_refuse T 3 M).bind fun x13 =>
 some (x13.1, x13.2)
theorem t_X11_image {T : T3}  {M : aM} {y : (Int × aM)}  (hS : Sh T.1 M) (h : f_X11_image T.1  M = some y) : Mr 3 165 [(2, ((0 : Nat) : Int))] M (some (0, y.1)) y.2 T ∧ Sh T.1 y.2 := by
  have key : ∀ d, 3 ≤ d → Wp d 165 0 [] [(2, ((0 : Nat) : Int))] [] (M, T) (fun r2 σ2 => r2 = some (0, y.1) ∧ σ2 = (y.2, T) ∧ Sh T.1 y.2) := by
    intro d hd
    rw [f_X11_image] at h
    refine y_blk (t := 0) rfl (show fnd bk_X11_image 0 = some _ from rfl) aB_X11_image ?_
    refine wp_aload_n (v := ((0 : Nat) : Int)) rfl (Int.natCast_nonneg _) ?_
    obtain ⟨x1, e2, h⟩ := d_bind h
    refine y_callV (as := []) (S1 := []) (Nat.le_of_ble_eq_true rfl) (by omega) (t_X11_hasWell hS e2) (Nat.le_of_ble_eq_true rfl) rfl (show ash 0 = (11, 15) from rfl) (Nat.lt_of_lt_of_le (show 0 < 154 by decide) hS.1.1) (Nat.le_of_ble_eq_true rfl) (Nat.le_of_ble_eq_true rfl) rfl ?_
    refine y_nez (fun c3 => ?_) (fun c3 => ?_)
    · rw [if_neg c3] at h
      refine y_blk (t := 13) rfl (show fnd bk_X11_image 13 = some _ from rfl) aB_X11_image ?_
      refine wp_aload_n (v := ((0 : Nat) : Int)) rfl (Int.natCast_nonneg _) ?_
      refine y_get (show ash 0 = (11, 15) from rfl) (Nat.lt_of_lt_of_le (show 0 < 154 by decide) hS.1.1) (v := ((59 : Nat) : Int)) (hS.at 0 13 59 (by decide +kernel)) rfl ?_
      refine y_get (show ash 59 = (4, 5) from rfl) (Nat.lt_of_lt_of_le (show 59 < 154 by decide) hS.1.1) (v := M 59 4) rfl rfl ?_
      refine wp_iconst ⟨by decide, by decide⟩ ?_
      refine wp_icmp_lt (fun c4 => ?_) (fun c4 => ?_)
      · rw [if_pos c4] at h
        refine y_blk (t := 30) rfl (show fnd bk_X11_image 30 = some _ from rfl) aB_X11_image ?_
        refine wp_aload_n (v := ((0 : Nat) : Int)) rfl (Int.natCast_nonneg _) ?_
        refine wp_aload_n (v := ((0 : Nat) : Int)) rfl (Int.natCast_nonneg _) ?_
        refine y_get (show ash 0 = (11, 15) from rfl) (Nat.lt_of_lt_of_le (show 0 < 154 by decide) hS.1.1) (v := ((59 : Nat) : Int)) (hS.at 0 13 59 (by decide +kernel)) rfl ?_
        refine wp_aload_n (v := ((0 : Nat) : Int)) rfl (Int.natCast_nonneg _) ?_
        refine y_get (show ash 0 = (11, 15) from rfl) (Nat.lt_of_lt_of_le (show 0 < 154 by decide) hS.1.1) (v := ((35 : Nat) : Int)) (hS.at 0 4 35 (by decide +kernel)) rfl ?_
        obtain ⟨x5, e6, h⟩ := d_bind h
        obtain ⟨r7, s8⟩ := t_X4_addImage (show isSt 35 by decide) hS e6
        refine y_callV (as := [(2, ((35 : Nat) : Int))]) (S1 := [(2, ((0 : Nat) : Int))]) (Nat.le_of_ble_eq_true rfl) (by omega) r7 (Nat.le_of_ble_eq_true rfl) rfl (show ash 59 = (4, 5) from rfl) (Nat.lt_of_lt_of_le (show 59 < 154 by decide) hS.1.1) (Nat.le_of_ble_eq_true rfl) (Nat.le_of_ble_eq_true rfl) rfl ?_
        obtain ⟨x9, e10, h⟩ := d_bind h
        obtain ⟨r11, s12⟩ := t_X11_allow s8 e10
        refine y_callV (as := [(0, x5.1)]) (S1 := []) (Nat.le_of_ble_eq_true rfl) (by omega) r11 (Nat.le_of_ble_eq_true rfl) rfl (show ash 0 = (11, 15) from rfl) (Nat.lt_of_lt_of_le (show 0 < 154 by decide) hS.1.1) (Nat.le_of_ble_eq_true rfl) (Nat.le_of_ble_eq_true rfl) rfl ?_
        cases h
        exact y_ret0 (Or.inl rfl) ⟨rfl, rfl, s12⟩
      · rw [if_neg c4] at h
        refine wp_aload_n (v := ((0 : Nat) : Int)) rfl (Int.natCast_nonneg _) ?_
        refine wp_iconst ⟨by decide, by decide⟩ ?_
        obtain ⟨x13, e14, h⟩ := d_bind h
        obtain ⟨r15, s16⟩ := t_X11_refuse hS e14
        refine y_callV (as := [(0, 3)]) (S1 := []) (Nat.le_of_ble_eq_true rfl) (by omega) r15 (Nat.le_of_ble_eq_true rfl) rfl (show ash 0 = (11, 15) from rfl) (Nat.lt_of_lt_of_le (show 0 < 154 by decide) hS.1.1) (Nat.le_of_ble_eq_true rfl) (Nat.le_of_ble_eq_true rfl) rfl ?_
        cases h
        exact y_ret0 (Or.inl rfl) ⟨rfl, rfl, s16⟩
    · rw [if_pos c3] at h
      refine wp_aload_n (v := ((0 : Nat) : Int)) rfl (Int.natCast_nonneg _) ?_
      refine wp_iconst ⟨by decide, by decide⟩ ?_
      obtain ⟨x17, e18, h⟩ := d_bind h
      obtain ⟨r19, s20⟩ := t_X11_refuse hS e18
      refine y_callV (as := [(0, 1)]) (S1 := []) (Nat.le_of_ble_eq_true rfl) (by omega) r19 (Nat.le_of_ble_eq_true rfl) rfl (show ash 0 = (11, 15) from rfl) (Nat.lt_of_lt_of_le (show 0 < 154 by decide) hS.1.1) (Nat.le_of_ble_eq_true rfl) (Nat.le_of_ble_eq_true rfl) rfl ?_
      cases h
      exact y_ret0 (Or.inl rfl) ⟨rfl, rfl, s20⟩
  exact ⟨fun d hd => Ms.of3 (key d hd), Ms.sh (key 3 (Nat.le_refl _))⟩
theorem aB_X11_back : ∀ pc, aB 166 pc = fnd bk_X11_back pc := fun _ => rfl
def f_X11_back (T : Nat) (v1 : Int) (M : aM) : Option (Int × aM) :=
 if v1 < 0 then
 (f_X11_refuseAct T 1 M).bind fun x2 =>
 if x2.1 = 0 ∨ x2.1 = 1 then
 some (x2.1, x2.2) else none else
 if v1 < (M 59 4) then
 (f_X4_goBack T 35 v1 M).bind fun x8 =>
 (f_X5_lay T 39 (x8.2 35 3) x8.2).bind fun x12 =>
 (f_X11_allowAct T x12.2).bind fun x16 =>
 if x16.1 = 0 ∨ x16.1 = 1 then
 some (x16.1, x16.2) else none else
 (f_X11_refuseAct T 1 M).bind fun x21 =>
 if x21.1 = 0 ∨ x21.1 = 1 then
 some (x21.1, x21.2) else none
theorem t_X11_back {T : T3} {v1 : Int} {M : aM} {y : (Int × aM)}  (hS : Sh T.1 M) (h : f_X11_back T.1 v1 M = some y) : Mr 3 166 [(2, ((0 : Nat) : Int)), (0, v1)] M (some (0, y.1)) y.2 T ∧ Sh T.1 y.2 := by
  have key : ∀ d, 3 ≤ d → Wp d 166 0 [] [(2, ((0 : Nat) : Int)), (0, v1)] [] (M, T) (fun r2 σ2 => r2 = some (0, y.1) ∧ σ2 = (y.2, T) ∧ Sh T.1 y.2) := by
    intro d hd
    rw [f_X11_back] at h
    refine y_blk (t := 0) rfl (show fnd bk_X11_back 0 = some _ from rfl) aB_X11_back ?_
    refine wp_iload_n (v := v1) rfl ?_
    refine wp_if_lt (fun c1 => ?_) (fun c1 => ?_)
    · rw [if_pos c1] at h
      refine y_blk (t := 15) rfl (show fnd bk_X11_back 15 = some _ from rfl) aB_X11_back ?_
      refine wp_aload_n (v := ((0 : Nat) : Int)) rfl (Int.natCast_nonneg _) ?_
      refine wp_iconst ⟨by decide, by decide⟩ ?_
      obtain ⟨x2, e3, h⟩ := d_bind h
      obtain ⟨r4, s5⟩ := t_X11_refuseAct hS e3
      refine y_callV (as := [(0, 1)]) (S1 := []) (Nat.le_of_ble_eq_true rfl) (by omega) r4 (Nat.le_of_ble_eq_true rfl) rfl (show ash 0 = (11, 15) from rfl) (Nat.lt_of_lt_of_le (show 0 < 154 by decide) hS.1.1) (Nat.le_of_ble_eq_true rfl) (Nat.le_of_ble_eq_true rfl) rfl ?_
      obtain ⟨c6, h⟩ := d_ite h
      cases h
      exact y_ret0 (Or.inr c6) ⟨rfl, rfl, s5⟩
    · rw [if_neg c1] at h
      refine wp_iload_n (v := v1) rfl ?_
      refine wp_aload_n (v := ((0 : Nat) : Int)) rfl (Int.natCast_nonneg _) ?_
      refine y_get (show ash 0 = (11, 15) from rfl) (Nat.lt_of_lt_of_le (show 0 < 154 by decide) hS.1.1) (v := ((59 : Nat) : Int)) (hS.at 0 13 59 (by decide +kernel)) rfl ?_
      refine y_get (show ash 59 = (4, 5) from rfl) (Nat.lt_of_lt_of_le (show 59 < 154 by decide) hS.1.1) (v := M 59 4) rfl rfl ?_
      refine wp_icmp_lt (fun c7 => ?_) (fun c7 => ?_)
      · rw [if_pos c7] at h
        refine y_blk (t := 21) rfl (show fnd bk_X11_back 21 = some _ from rfl) aB_X11_back ?_
        refine wp_aload_n (v := ((0 : Nat) : Int)) rfl (Int.natCast_nonneg _) ?_
        refine y_get (show ash 0 = (11, 15) from rfl) (Nat.lt_of_lt_of_le (show 0 < 154 by decide) hS.1.1) (v := ((59 : Nat) : Int)) (hS.at 0 13 59 (by decide +kernel)) rfl ?_
        refine wp_aload_n (v := ((0 : Nat) : Int)) rfl (Int.natCast_nonneg _) ?_
        refine y_get (show ash 0 = (11, 15) from rfl) (Nat.lt_of_lt_of_le (show 0 < 154 by decide) hS.1.1) (v := ((35 : Nat) : Int)) (hS.at 0 4 35 (by decide +kernel)) rfl ?_
        refine wp_iload_n (v := v1) rfl ?_
        obtain ⟨x8, e9, h⟩ := d_bind h
        obtain ⟨r10, s11⟩ := t_X4_goBack (show isSt 35 by decide) hS e9
        refine y_callVv (as := [(2, ((35 : Nat) : Int)), (0, v1)]) (S1 := []) (Nat.le_of_ble_eq_true rfl) (by omega) r10 rfl (show ash 59 = (4, 5) from rfl) (Nat.lt_of_lt_of_le (show 59 < 154 by decide) hS.1.1) (Nat.le_of_ble_eq_true rfl) (Nat.le_of_ble_eq_true rfl) rfl ?_
        refine wp_aload_n (v := ((0 : Nat) : Int)) rfl (Int.natCast_nonneg _) ?_
        refine y_get (show ash 0 = (11, 15) from rfl) (Nat.lt_of_lt_of_le (show 0 < 154 by decide) hS.1.1) (v := ((39 : Nat) : Int)) (s11.at 0 5 39 (by decide +kernel)) rfl ?_
        refine wp_aload_n (v := ((0 : Nat) : Int)) rfl (Int.natCast_nonneg _) ?_
        refine y_get (show ash 0 = (11, 15) from rfl) (Nat.lt_of_lt_of_le (show 0 < 154 by decide) hS.1.1) (v := ((35 : Nat) : Int)) (s11.at 0 4 35 (by decide +kernel)) rfl ?_
        refine y_get (show ash 35 = (8, 5) from rfl) (Nat.lt_of_lt_of_le (show 35 < 154 by decide) hS.1.1) (v := x8.2 35 3) rfl rfl ?_
        obtain ⟨x12, e13, h⟩ := d_bind h
        obtain ⟨r14, s15⟩ := t_X5_lay (show isLand 39 by decide) s11 e13
        refine y_callVv (as := [(0, (x8.2 35 3))]) (S1 := []) (Nat.le_of_ble_eq_true rfl) (by omega) r14 rfl (show ash 39 = (5, 4) from rfl) (Nat.lt_of_lt_of_le (show 39 < 154 by decide) hS.1.1) (Nat.le_of_ble_eq_true rfl) (Nat.le_of_ble_eq_true rfl) rfl ?_
        refine wp_aload_n (v := ((0 : Nat) : Int)) rfl (Int.natCast_nonneg _) ?_
        obtain ⟨x16, e17, h⟩ := d_bind h
        obtain ⟨r18, s19⟩ := t_X11_allowAct s15 e17
        refine y_callV (as := []) (S1 := []) (Nat.le_of_ble_eq_true rfl) (by omega) r18 (Nat.le_of_ble_eq_true rfl) rfl (show ash 0 = (11, 15) from rfl) (Nat.lt_of_lt_of_le (show 0 < 154 by decide) hS.1.1) (Nat.le_of_ble_eq_true rfl) (Nat.le_of_ble_eq_true rfl) rfl ?_
        obtain ⟨c20, h⟩ := d_ite h
        cases h
        exact y_ret0 (Or.inr c20) ⟨rfl, rfl, s19⟩
      · rw [if_neg c7] at h
        refine y_blk (t := 15) rfl (show fnd bk_X11_back 15 = some _ from rfl) aB_X11_back ?_
        refine wp_aload_n (v := ((0 : Nat) : Int)) rfl (Int.natCast_nonneg _) ?_
        refine wp_iconst ⟨by decide, by decide⟩ ?_
        obtain ⟨x21, e22, h⟩ := d_bind h
        obtain ⟨r23, s24⟩ := t_X11_refuseAct hS e22
        refine y_callV (as := [(0, 1)]) (S1 := []) (Nat.le_of_ble_eq_true rfl) (by omega) r23 (Nat.le_of_ble_eq_true rfl) rfl (show ash 0 = (11, 15) from rfl) (Nat.lt_of_lt_of_le (show 0 < 154 by decide) hS.1.1) (Nat.le_of_ble_eq_true rfl) (Nat.le_of_ble_eq_true rfl) rfl ?_
        obtain ⟨c25, h⟩ := d_ite h
        cases h
        exact y_ret0 (Or.inr c25) ⟨rfl, rfl, s24⟩
  exact ⟨fun d hd => Ms.of3 (key d hd), Ms.sh (key 3 (Nat.le_refl _))⟩
theorem aB_X11_size : ∀ pc, aB 168 pc = fnd bk_X11_size pc := fun _ => rfl
def b_X11_size_125 (T : Nat) (v1 : Int) (M : aM) : Option Int :=
 if v1 < 3 then
 some (-1) else
 if 9 < v1 then
 some (-1) else
 if aIn (v1 - 3) then
 if aIn ((v1 - 3) + 1) then
 if 0 ≤ ((v1 - 3) + 1) ∧ ((v1 - 3) + 1) < 8 then
 some (M 3 (((v1 - 3) + 1)).toNat) else none else none else none
theorem tb_X11_size_125 {d : Nat} (hd : 0 ≤ d) {T : T3} {v1 : Int} {M : aM} {y : Int}  (hS : Sh T.1 M) (h : b_X11_size_125 T.1 v1 M = some y) : Wp d 168 125 [] [(2, ((0 : Nat) : Int)), (0, v1)] [] (M, T) (fun r2 σ2 => r2 = some (0, y) ∧ σ2 = (M, T)) := by
  rw [b_X11_size_125] at h
  refine y_blk (t := 125) rfl (show fnd bk_X11_size 125 = some _ from rfl) aB_X11_size ?_
  refine wp_iload_n (v := v1) rfl ?_
  refine wp_iconst ⟨by decide, by decide⟩ ?_
  refine wp_icmp_lt (fun c1 => ?_) (fun c1 => ?_)
  · rw [if_pos c1] at h
    refine y_blk (t := 152) rfl (show fnd bk_X11_size 152 = some _ from rfl) aB_X11_size ?_
    refine wp_iconst ⟨by decide, by decide⟩ ?_
    refine y_blk (t := 153) rfl (show fnd bk_X11_size 153 = some _ from rfl) aB_X11_size ?_
    cases h
    exact y_ret0 (Or.inl rfl) ⟨rfl, rfl⟩
  · rw [if_neg c1] at h
    refine wp_iload_n (v := v1) rfl ?_
    refine wp_bipush (by decide) ?_
    refine wp_icmp_gt (fun c2 => ?_) (fun c2 => ?_)
    · rw [if_pos c2] at h
      refine y_blk (t := 152) rfl (show fnd bk_X11_size 152 = some _ from rfl) aB_X11_size ?_
      refine wp_iconst ⟨by decide, by decide⟩ ?_
      refine y_blk (t := 153) rfl (show fnd bk_X11_size 153 = some _ from rfl) aB_X11_size ?_
      cases h
      exact y_ret0 (Or.inl rfl) ⟨rfl, rfl⟩
    · rw [if_neg c2] at h
      refine wp_aload_n (v := ((0 : Nat) : Int)) rfl (Int.natCast_nonneg _) ?_
      refine y_get (show ash 0 = (11, 15) from rfl) (Nat.lt_of_lt_of_le (show 0 < 154 by decide) hS.1.1) (v := ((2 : Nat) : Int)) (hS.at 0 2 2 (by decide +kernel)) rfl ?_
      refine y_get (show ash 2 = (10, 19) from rfl) (Nat.lt_of_lt_of_le (show 2 < 154 by decide) hS.1.1) (v := ((3 : Nat) : Int)) (hS.at 2 3 3 (by decide +kernel)) rfl ?_
      refine wp_iload_n (v := v1) rfl ?_
      refine wp_iconst ⟨by decide, by decide⟩ ?_
      obtain ⟨c3, h⟩ := d_ite h
      refine wp_isub c3 ?_
      refine wp_iconst ⟨by decide, by decide⟩ ?_
      obtain ⟨c4, h⟩ := d_ite h
      refine wp_iadd c4 ?_
      obtain ⟨c5, h⟩ := d_ite h
      refine y_iald (show ash 3 = (100, 8) from rfl) (Or.inl (Nat.lt_of_lt_of_le (show 3 < 154 by decide) hS.1.1)) (Nat.ne_of_lt (Nat.lt_of_lt_of_le (Nat.lt_of_lt_of_le (show 3 < 154 by decide) hS.1.1) hS.1.2)) c5 (v := M 3 (((v1 - 3) + 1)).toNat) rfl ?_
      refine wp_goto ?_
      refine y_blk (t := 153) rfl (show fnd bk_X11_size 153 = some _ from rfl) aB_X11_size ?_
      cases h
      exact y_ret0 (Or.inl rfl) ⟨rfl, rfl⟩
def f_X11_size (T : Nat) (v1 : Int) (M : aM) : Option Int :=
 if v1 = 0 then
 some (M 2 0) else
 if v1 = 1 then
 some (M 2 1) else
 if v1 = 2 then
 some (M 2 2) else
 if v1 = 3 then
 b_X11_size_125 T v1 M else
 if v1 = 4 then
 b_X11_size_125 T v1 M else
 if v1 = 5 then
 b_X11_size_125 T v1 M else
 if v1 = 6 then
 b_X11_size_125 T v1 M else
 if v1 = 7 then
 b_X11_size_125 T v1 M else
 if v1 = 8 then
 b_X11_size_125 T v1 M else
 if v1 = 9 then
 b_X11_size_125 T v1 M else
 if v1 = 10 then
 some (M 35 4) else
 if v1 = 11 then
 some (M 59 3) else
 if v1 = 12 then
 some (M 59 4) else
 if v1 = 13 then
 some (M 0 1) else
 b_X11_size_125 T v1 M
theorem t_X11_size {T : T3} {v1 : Int} {M : aM} {y : Int}  (hS : Sh T.1 M) (h : f_X11_size T.1 v1 M = some y) : Mr 0 168 [(2, ((0 : Nat) : Int)), (0, v1)] M (some (0, y)) M T := by
  have key : ∀ d, 0 ≤ d → Wp d 168 0 [] [(2, ((0 : Nat) : Int)), (0, v1)] [] (M, T) (fun r2 σ2 => r2 = some (0, y) ∧ σ2 = (M, T)) := by
    intro d hd
    rw [f_X11_size] at h
    refine y_blk (t := 0) rfl (show fnd bk_X11_size 0 = some _ from rfl) aB_X11_size ?_
    refine wp_iload_n (v := v1) rfl ?_
    by_cases c6 : v1 = 0
    · rw [if_pos c6] at h
      refine y_ts (off := 71) (t := 72) (by omega) (by rw [c6]; rfl) rfl ?_
      refine y_blk (t := 72) rfl (show fnd bk_X11_size 72 = some _ from rfl) aB_X11_size ?_
      refine wp_aload_n (v := ((0 : Nat) : Int)) rfl (Int.natCast_nonneg _) ?_
      refine y_get (show ash 0 = (11, 15) from rfl) (Nat.lt_of_lt_of_le (show 0 < 154 by decide) hS.1.1) (v := ((2 : Nat) : Int)) (hS.at 0 2 2 (by decide +kernel)) rfl ?_
      refine y_get (show ash 2 = (10, 19) from rfl) (Nat.lt_of_lt_of_le (show 2 < 154 by decide) hS.1.1) (v := M 2 0) rfl rfl ?_
      cases h
      exact y_ret0 (Or.inl rfl) ⟨rfl, rfl⟩
    · rw [if_neg c6] at h
      by_cases c7 : v1 = 1
      · rw [if_pos c7] at h
        refine y_ts (off := 79) (t := 80) (by omega) (by rw [c7]; rfl) rfl ?_
        refine y_blk (t := 80) rfl (show fnd bk_X11_size 80 = some _ from rfl) aB_X11_size ?_
        refine wp_aload_n (v := ((0 : Nat) : Int)) rfl (Int.natCast_nonneg _) ?_
        refine y_get (show ash 0 = (11, 15) from rfl) (Nat.lt_of_lt_of_le (show 0 < 154 by decide) hS.1.1) (v := ((2 : Nat) : Int)) (hS.at 0 2 2 (by decide +kernel)) rfl ?_
        refine y_get (show ash 2 = (10, 19) from rfl) (Nat.lt_of_lt_of_le (show 2 < 154 by decide) hS.1.1) (v := M 2 1) rfl rfl ?_
        cases h
        exact y_ret0 (Or.inl rfl) ⟨rfl, rfl⟩
      · rw [if_neg c7] at h
        by_cases c8 : v1 = 2
        · rw [if_pos c8] at h
          refine y_ts (off := 87) (t := 88) (by omega) (by rw [c8]; rfl) rfl ?_
          refine y_blk (t := 88) rfl (show fnd bk_X11_size 88 = some _ from rfl) aB_X11_size ?_
          refine wp_aload_n (v := ((0 : Nat) : Int)) rfl (Int.natCast_nonneg _) ?_
          refine y_get (show ash 0 = (11, 15) from rfl) (Nat.lt_of_lt_of_le (show 0 < 154 by decide) hS.1.1) (v := ((2 : Nat) : Int)) (hS.at 0 2 2 (by decide +kernel)) rfl ?_
          refine y_get (show ash 2 = (10, 19) from rfl) (Nat.lt_of_lt_of_le (show 2 < 154 by decide) hS.1.1) (v := M 2 2) rfl rfl ?_
          cases h
          exact y_ret0 (Or.inl rfl) ⟨rfl, rfl⟩
        · rw [if_neg c8] at h
          by_cases c9 : v1 = 3
          · rw [if_pos c9] at h
            refine y_ts (off := 124) (t := 125) (by omega) (by rw [c9]; rfl) rfl ?_
            exact tb_X11_size_125 hd hS h
          · rw [if_neg c9] at h
            by_cases c10 : v1 = 4
            · rw [if_pos c10] at h
              refine y_ts (off := 124) (t := 125) (by omega) (by rw [c10]; rfl) rfl ?_
              exact tb_X11_size_125 hd hS h
            · rw [if_neg c10] at h
              by_cases c11 : v1 = 5
              · rw [if_pos c11] at h
                refine y_ts (off := 124) (t := 125) (by omega) (by rw [c11]; rfl) rfl ?_
                exact tb_X11_size_125 hd hS h
              · rw [if_neg c11] at h
                by_cases c12 : v1 = 6
                · rw [if_pos c12] at h
                  refine y_ts (off := 124) (t := 125) (by omega) (by rw [c12]; rfl) rfl ?_
                  exact tb_X11_size_125 hd hS h
                · rw [if_neg c12] at h
                  by_cases c13 : v1 = 7
                  · rw [if_pos c13] at h
                    refine y_ts (off := 124) (t := 125) (by omega) (by rw [c13]; rfl) rfl ?_
                    exact tb_X11_size_125 hd hS h
                  · rw [if_neg c13] at h
                    by_cases c14 : v1 = 8
                    · rw [if_pos c14] at h
                      refine y_ts (off := 124) (t := 125) (by omega) (by rw [c14]; rfl) rfl ?_
                      exact tb_X11_size_125 hd hS h
                    · rw [if_neg c14] at h
                      by_cases c15 : v1 = 9
                      · rw [if_pos c15] at h
                        refine y_ts (off := 124) (t := 125) (by omega) (by rw [c15]; rfl) rfl ?_
                        exact tb_X11_size_125 hd hS h
                      · rw [if_neg c15] at h
                        by_cases c16 : v1 = 10
                        · rw [if_pos c16] at h
                          refine y_ts (off := 95) (t := 96) (by omega) (by rw [c16]; rfl) rfl ?_
                          refine y_blk (t := 96) rfl (show fnd bk_X11_size 96 = some _ from rfl) aB_X11_size ?_
                          refine wp_aload_n (v := ((0 : Nat) : Int)) rfl (Int.natCast_nonneg _) ?_
                          refine y_get (show ash 0 = (11, 15) from rfl) (Nat.lt_of_lt_of_le (show 0 < 154 by decide) hS.1.1) (v := ((35 : Nat) : Int)) (hS.at 0 4 35 (by decide +kernel)) rfl ?_
                          refine y_get (show ash 35 = (8, 5) from rfl) (Nat.lt_of_lt_of_le (show 35 < 154 by decide) hS.1.1) (v := M 35 4) rfl rfl ?_
                          cases h
                          exact y_ret0 (Or.inl rfl) ⟨rfl, rfl⟩
                        · rw [if_neg c16] at h
                          by_cases c17 : v1 = 11
                          · rw [if_pos c17] at h
                            refine y_ts (off := 103) (t := 104) (by omega) (by rw [c17]; rfl) rfl ?_
                            refine y_blk (t := 104) rfl (show fnd bk_X11_size 104 = some _ from rfl) aB_X11_size ?_
                            refine wp_aload_n (v := ((0 : Nat) : Int)) rfl (Int.natCast_nonneg _) ?_
                            refine y_get (show ash 0 = (11, 15) from rfl) (Nat.lt_of_lt_of_le (show 0 < 154 by decide) hS.1.1) (v := ((59 : Nat) : Int)) (hS.at 0 13 59 (by decide +kernel)) rfl ?_
                            refine y_get (show ash 59 = (4, 5) from rfl) (Nat.lt_of_lt_of_le (show 59 < 154 by decide) hS.1.1) (v := M 59 3) rfl rfl ?_
                            cases h
                            exact y_ret0 (Or.inl rfl) ⟨rfl, rfl⟩
                          · rw [if_neg c17] at h
                            by_cases c18 : v1 = 12
                            · rw [if_pos c18] at h
                              refine y_ts (off := 111) (t := 112) (by omega) (by rw [c18]; rfl) rfl ?_
                              refine y_blk (t := 112) rfl (show fnd bk_X11_size 112 = some _ from rfl) aB_X11_size ?_
                              refine wp_aload_n (v := ((0 : Nat) : Int)) rfl (Int.natCast_nonneg _) ?_
                              refine y_get (show ash 0 = (11, 15) from rfl) (Nat.lt_of_lt_of_le (show 0 < 154 by decide) hS.1.1) (v := ((59 : Nat) : Int)) (hS.at 0 13 59 (by decide +kernel)) rfl ?_
                              refine y_get (show ash 59 = (4, 5) from rfl) (Nat.lt_of_lt_of_le (show 59 < 154 by decide) hS.1.1) (v := M 59 4) rfl rfl ?_
                              cases h
                              exact y_ret0 (Or.inl rfl) ⟨rfl, rfl⟩
                            · rw [if_neg c18] at h
                              by_cases c19 : v1 = 13
                              · rw [if_pos c19] at h
                                refine y_ts (off := 119) (t := 120) (by omega) (by rw [c19]; rfl) rfl ?_
                                refine y_blk (t := 120) rfl (show fnd bk_X11_size 120 = some _ from rfl) aB_X11_size ?_
                                refine wp_aload_n (v := ((0 : Nat) : Int)) rfl (Int.natCast_nonneg _) ?_
                                refine y_get (show ash 0 = (11, 15) from rfl) (Nat.lt_of_lt_of_le (show 0 < 154 by decide) hS.1.1) (v := M 0 1) rfl rfl ?_
                                cases h
                                exact y_ret0 (Or.inl rfl) ⟨rfl, rfl⟩
                              · rw [if_neg c19] at h
                                refine y_td (t := 125) (by omega) rfl ?_
                                exact tb_X11_size_125 hd hS h
  exact fun d hd => Ms.of (key d hd)
theorem aB_X11_trouble : ∀ pc, aB 169 pc = fnd bk_X11_trouble pc := fun _ => rfl
def f_X11_trouble (T : Nat)  (M : aM) : Option Int :=
 some (M 0 14)
theorem t_X11_trouble {T : T3}  {M : aM} {y : Int}  (hS : Sh T.1 M) (h : f_X11_trouble T.1  M = some y) : Mr 0 169 [(2, ((0 : Nat) : Int))] M (some (0, y)) M T := by
  have key : ∀ d, 0 ≤ d → Wp d 169 0 [] [(2, ((0 : Nat) : Int))] [] (M, T) (fun r2 σ2 => r2 = some (0, y) ∧ σ2 = (M, T)) := by
    intro d hd
    rw [f_X11_trouble] at h
    refine y_blk (t := 0) rfl (show fnd bk_X11_trouble 0 = some _ from rfl) aB_X11_trouble ?_
    refine wp_aload_n (v := ((0 : Nat) : Int)) rfl (Int.natCast_nonneg _) ?_
    refine y_get (show ash 0 = (11, 15) from rfl) (Nat.lt_of_lt_of_le (show 0 < 154 by decide) hS.1.1) (v := M 0 14) rfl rfl ?_
    cases h
    exact y_ret0 (Or.inl rfl) ⟨rfl, rfl⟩
  exact fun d hd => Ms.of (key d hd)
theorem aB_X12_find : ∀ pc, aB 191 pc = fnd bk_X12_find pc := fun _ => rfl
def l_X12_find_2 (T : Nat) (e0 : Nat) (v1 : Int) (M : aM) (k : Int → Option Int) : Nat → Int → Option Int
| 0, _ => none
| n + 1, v3 =>
 if (M e0 13) ≤ v3 then
 k v3 else
 if 0 ≤ v3 ∧ v3 < 15 then
 if (alcmp (M (e0 + 12) (v3).toNat) v1) = 0 then
 some v3 else
 if aIn (v3 + 1) then
 l_X12_find_2 T e0 v1 M k n (v3 + 1) else none else none
theorem tl_X12_find_2 {d : Nat} (hd : 0 ≤ d) {T : T3} {e0 : Nat} {v1 : Int} {M : aM} {k : Int → Option Int} {y : Int} (he0 : isW T.1 e0) (hS : Sh T.1 M)
    (hk : ∀ (v3 : Int), Sh T.1 M → k v3 = some y → Wp d 191 29 [] [(2, ((e0 : Nat) : Int)), (1, v1), (9, 0), (0, v3)] [] (M, T) (fun r2 σ2 => r2 = some (0, y) ∧ σ2 = (M, T))) :
    ∀ (n : Nat) (v3 : Int), Sh T.1 M → l_X12_find_2 T.1 e0 v1 M k n v3 = some y → Wp d 191 2 [] [(2, ((e0 : Nat) : Int)), (1, v1), (9, 0), (0, v3)] [] (M, T) (fun r2 σ2 => r2 = some (0, y) ∧ σ2 = (M, T)) := by
  intro n
  induction n with
  | zero =>
    intro v3 _ h
    exact nomatch (show (none : Option Int) = some y from h)
  | succ n ih =>
    intro v3 sM h
    rw [l_X12_find_2] at h
    refine y_blk (t := 2) rfl (show fnd bk_X12_find 2 = some _ from rfl) aB_X12_find ?_
    refine wp_iload_n (v := v3) rfl ?_
    refine wp_aload_n (v := ((e0 : Nat) : Int)) rfl (Int.natCast_nonneg _) ?_
    refine y_get (aW0 hS.1.2 he0) (ltW he0 0 (by decide)) (v := M e0 13) rfl rfl ?_
    refine wp_icmp_ge (fun c1 => ?_) (fun c1 => ?_)
    · rw [if_pos c1] at h
      exact hk v3   sM h
    · rw [if_neg c1] at h
      refine wp_aload_n (v := ((e0 : Nat) : Int)) rfl (Int.natCast_nonneg _) ?_
      refine y_get (aW0 hS.1.2 he0) (ltW he0 0 (by decide)) (v := (((e0 + 12) : Nat) : Int)) (rW25 sM he0) rfl ?_
      refine wp_iload_n (v := v3) rfl ?_
      obtain ⟨c2, h⟩ := d_ite h
      refine y_lald (aW12 hS.1.2 he0) (ltW he0 12 (by decide)) (Nat.ne_of_lt (Nat.lt_of_lt_of_le (ltW he0 12 (by decide)) hS.1.2)) c2 (v := M (e0 + 12) (v3).toNat) rfl ?_
      refine wp_lload_n (v := v1) rfl ?_
      refine wp_lcmp ?_
      refine y_nez (fun c3 => ?_) (fun c3 => ?_)
      · rw [if_neg c3] at h
        refine y_blk (t := 23) rfl (show fnd bk_X12_find 23 = some _ from rfl) aB_X12_find ?_
        obtain ⟨c4, h⟩ := d_ite h
        refine y_iinc (L1 := [(2, ((e0 : Nat) : Int)), (1, v1), (9, 0), (0, (v3 + 1))]) rfl (Nat.le_of_ble_eq_true rfl) ⟨by decide, by decide⟩ c4 rfl ?_
        refine wp_goto ?_
        exact ih (v3 + 1)   sM h
      · rw [if_pos c3] at h
        refine wp_iload_n (v := v3) rfl ?_
        cases h
        exact y_ret0 (Or.inl rfl) ⟨rfl, rfl⟩
def f_X12_find (T : Nat) (e0 : Nat) (v1 : Int) (M : aM) : Option Int :=
 l_X12_find_2 T e0 v1 M (fun w5 =>
 some (-1)) FU 0
theorem t_X12_find {T : T3} {e0 : Nat} {v1 : Int} {M : aM} {y : Int} (he0 : isW T.1 e0) (hS : Sh T.1 M) (h : f_X12_find T.1 e0 v1 M = some y) : Mr 0 191 [(2, ((e0 : Nat) : Int)), (1, v1)] M (some (0, y)) M T := by
  have key : ∀ d, 0 ≤ d → Wp d 191 0 [] [(2, ((e0 : Nat) : Int)), (1, v1), (9, 0), (9, 0)] [] (M, T) (fun r2 σ2 => r2 = some (0, y) ∧ σ2 = (M, T)) := by
    intro d hd
    rw [f_X12_find] at h
    refine y_blk (t := 0) rfl (show fnd bk_X12_find 0 = some _ from rfl) aB_X12_find ?_
    refine wp_iconst ⟨by decide, by decide⟩ ?_
    refine y_stn (L1 := [(2, ((e0 : Nat) : Int)), (1, v1), (9, 0), (0, 0)]) (Nat.le_of_ble_eq_true rfl) rfl ?_
    refine tl_X12_find_2 (by omega) he0 hS (fun w5   s6 h => ?_) FU 0   hS h
    refine y_blk (t := 29) rfl (show fnd bk_X12_find 29 = some _ from rfl) aB_X12_find ?_
    refine wp_iconst ⟨by decide, by decide⟩ ?_
    cases h
    exact y_ret0 (Or.inl rfl) ⟨rfl, rfl⟩
  exact fun d hd => Ms.of (key d hd)

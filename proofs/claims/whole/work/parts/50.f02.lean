/-! ===== methods as functions ===== -/
theorem aB_X10_wayBetween : ∀ pc, aB 109 pc = fnd bk_X10_wayBetween pc := fun _ => rfl
def f_X10_wayBetween (T : Nat) (e0 : Nat) (v1 : Int) (v2 : Int) (M : aM) : Option Int :=
 if aIn (v1 * 8) then
 if aIn ((v1 * 8) + v2) then
 if 0 ≤ ((v1 * 8) + v2) ∧ ((v1 * 8) + v2) < 64 then
 if aIn ((M (e0 + 5) (((v1 * 8) + v2)).toNat) - 1) then
 some ((M (e0 + 5) (((v1 * 8) + v2)).toNat) - 1) else none else none else none else none
theorem t_X10_wayBetween {T : T3} {e0 : Nat} {v1 : Int} {v2 : Int} {M : aM} {y : Int} (he0 : isTold e0) (hS : Sh T.1 M) (h : f_X10_wayBetween T.1 e0 v1 v2 M = some y) : Mr 0 109 [(2, ((e0 : Nat) : Int)), (0, v1), (0, v2)] M (some (0, y)) M T := by
  have key : ∀ d, 0 ≤ d → Wp d 109 0 [] [(2, ((e0 : Nat) : Int)), (0, v1), (0, v2)] [] (M, T) (fun r2 σ2 => r2 = some (0, y) ∧ σ2 = (M, T)) := by
    intro d hd
    rw [f_X10_wayBetween] at h
    refine y_blk (t := 0) rfl (show fnd bk_X10_wayBetween 0 = some _ from rfl) aB_X10_wayBetween ?_
    refine wp_aload_n (v := ((e0 : Nat) : Int)) rfl (Int.natCast_nonneg _) ?_
    refine y_get (aTold0 he0) (ltTold hS.1.1 he0 0 (by decide)) (v := (((e0 + 5) : Nat) : Int)) (rTold8 hS he0) rfl ?_
    refine wp_iload_n (v := v1) rfl ?_
    refine wp_bipush (by decide) ?_
    obtain ⟨c1, h⟩ := d_ite h
    refine wp_imul c1 ?_
    refine wp_iload_n (v := v2) rfl ?_
    obtain ⟨c2, h⟩ := d_ite h
    refine wp_iadd c2 ?_
    obtain ⟨c3, h⟩ := d_ite h
    refine y_iald (aTold5 he0) (Or.inl (ltTold hS.1.1 he0 5 (by decide))) (Nat.ne_of_lt (Nat.lt_of_lt_of_le (ltTold hS.1.1 he0 5 (by decide)) hS.1.2)) c3 (v := M (e0 + 5) (((v1 * 8) + v2)).toNat) rfl ?_
    refine wp_iconst ⟨by decide, by decide⟩ ?_
    obtain ⟨c4, h⟩ := d_ite h
    refine wp_isub c4 ?_
    cases h
    exact y_ret0 (Or.inl rfl) ⟨rfl, rfl⟩
  exact fun d hd => Ms.of (key d hd)
theorem aB_X5_firstStep : ∀ pc, aB 55 pc = fnd bk_X5_firstStep pc := fun _ => rfl
def l_X5_firstStep_21 (T : Nat) (e0 : Nat) (v1 : Int) (v2 : Int) (M : aM) (k : Int → Option Int) : Nat → Int → Option Int
| 0, _ => none
| n + 1, v3 =>
 if (M 3 1) ≤ v3 then
 k v3 else
 if 0 ≤ v1 ∧ v1 < 8 then
 (f_X11_hasBit T (M (e0 + 1) (v1).toNat) v3 M).bind fun x7 =>
 if x7 = 0 then
 if aIn (v3 + 1) then
 l_X5_firstStep_21 T e0 v1 v2 M k n (v3 + 1) else none else
 (f_X10_wayBetween T 2 v1 v3 M).bind fun x11 =>
 if x11 < 0 then
 if aIn (v3 + 1) then
 l_X5_firstStep_21 T e0 v1 v2 M k n (v3 + 1) else none else
 if 0 ≤ x11 ∧ x11 < 10 then
 (f_X5_span T e0 v3 v2 M).bind fun x16 =>
 if aIn ((M 6 (x11).toNat) + x16) then
 (f_X5_span T e0 v1 v2 M).bind fun x19 =>
 if ((M 6 (x11).toNat) + x16) = x19 then
 some v3 else
 if aIn (v3 + 1) then
 l_X5_firstStep_21 T e0 v1 v2 M k n (v3 + 1) else none else none else none else none
theorem tl_X5_firstStep_21 {d : Nat} (hd : 1 ≤ d) {T : T3} {e0 : Nat} {v1 : Int} {v2 : Int} {M : aM} {k : Int → Option Int} {y : Int} (he0 : isLand e0) (hS : Sh T.1 M)
    (hk : ∀ (v3 : Int) (u4 : aV), Sh T.1 M → k v3 = some y → Wp d 55 97 [] [(2, ((e0 : Nat) : Int)), (0, v1), (0, v2), (0, v3), u4] [] (M, T) (fun r2 σ2 => r2 = some (0, y) ∧ σ2 = (M, T))) :
    ∀ (n : Nat) (v3 : Int) (u4 : aV), Sh T.1 M → l_X5_firstStep_21 T.1 e0 v1 v2 M k n v3 = some y → Wp d 55 21 [] [(2, ((e0 : Nat) : Int)), (0, v1), (0, v2), (0, v3), u4] [] (M, T) (fun r2 σ2 => r2 = some (0, y) ∧ σ2 = (M, T)) := by
  intro n
  induction n with
  | zero =>
    intro v3 u4 _ h
    exact nomatch (show (none : Option Int) = some y from h)
  | succ n ih =>
    intro v3 u4 sM h
    rw [l_X5_firstStep_21] at h
    refine y_blk (t := 21) rfl (show fnd bk_X5_firstStep 21 = some _ from rfl) aB_X5_firstStep ?_
    refine wp_iload_n (v := v3) rfl ?_
    refine wp_aload_n (v := ((e0 : Nat) : Int)) rfl (Int.natCast_nonneg _) ?_
    refine y_get (aLand0 he0) (ltLand hS.1.1 he0 0 (by decide)) (v := ((2 : Nat) : Int)) (rLand0 sM he0) rfl ?_
    refine y_get (show ash 2 = (10, 19) from rfl) (Nat.lt_of_lt_of_le (show 2 < 154 by decide) hS.1.1) (v := ((3 : Nat) : Int)) (sM.at 2 3 3 (by decide +kernel)) rfl ?_
    refine wp_iconst ⟨by decide, by decide⟩ ?_
    refine y_iald (show ash 3 = (100, 8) from rfl) (Or.inl (Nat.lt_of_lt_of_le (show 3 < 154 by decide) hS.1.1)) (Nat.ne_of_lt (Nat.lt_of_lt_of_le (Nat.lt_of_lt_of_le (show 3 < 154 by decide) hS.1.1) hS.1.2)) ⟨by decide, by decide⟩ (v := M 3 1) rfl ?_
    refine wp_icmp_ge (fun c5 => ?_) (fun c5 => ?_)
    · rw [if_pos c5] at h
      exact hk v3 u4  sM h
    · rw [if_neg c5] at h
      refine wp_aload_n (v := ((e0 : Nat) : Int)) rfl (Int.natCast_nonneg _) ?_
      refine y_get (aLand0 he0) (ltLand hS.1.1 he0 0 (by decide)) (v := (((e0 + 1) : Nat) : Int)) (rLand1 sM he0) rfl ?_
      refine wp_iload_n (v := v1) rfl ?_
      obtain ⟨c6, h⟩ := d_ite h
      refine y_iald (aLand1 he0) (Or.inl (ltLand hS.1.1 he0 1 (by decide))) (Nat.ne_of_lt (Nat.lt_of_lt_of_le (ltLand hS.1.1 he0 1 (by decide)) hS.1.2)) c6 (v := M (e0 + 1) (v1).toNat) rfl ?_
      refine wp_iload_n (v := v3) rfl ?_
      obtain ⟨x7, e8, h⟩ := d_bind h
      refine y_callS (as := [(0, (M (e0 + 1) (v1).toNat)), (0, v3)]) (S1 := []) (Nat.le_of_ble_eq_true rfl) (by omega) (t_X11_hasBit sM e8) (Nat.le_of_ble_eq_true rfl) rfl (Nat.le_of_ble_eq_true rfl) (Nat.le_of_ble_eq_true rfl) rfl ?_
      refine wp_if_eq (fun c9 => ?_) (fun c9 => ?_)
      · rw [if_pos c9] at h
        refine y_blk (t := 91) rfl (show fnd bk_X5_firstStep 91 = some _ from rfl) aB_X5_firstStep ?_
        obtain ⟨c10, h⟩ := d_ite h
        refine y_iinc (L1 := [(2, ((e0 : Nat) : Int)), (0, v1), (0, v2), (0, (v3 + 1)), u4]) rfl (Nat.le_of_ble_eq_true rfl) ⟨by decide, by decide⟩ c10 rfl ?_
        refine wp_goto ?_
        exact ih (v3 + 1) u4  sM h
      · rw [if_neg c9] at h
        refine wp_aload_n (v := ((e0 : Nat) : Int)) rfl (Int.natCast_nonneg _) ?_
        refine y_get (aLand0 he0) (ltLand hS.1.1 he0 0 (by decide)) (v := ((2 : Nat) : Int)) (rLand0 sM he0) rfl ?_
        refine wp_iload_n (v := v1) rfl ?_
        refine wp_iload_n (v := v3) rfl ?_
        obtain ⟨x11, e12, h⟩ := d_bind h
        refine y_callV (as := [(0, v1), (0, v3)]) (S1 := []) (Nat.le_of_ble_eq_true rfl) (by omega) (t_X10_wayBetween (show isTold 2 by decide) sM e12) (Nat.le_of_ble_eq_true rfl) rfl (show ash 2 = (10, 19) from rfl) (Nat.lt_of_lt_of_le (show 2 < 154 by decide) hS.1.1) (Nat.le_of_ble_eq_true rfl) (Nat.le_of_ble_eq_true rfl) rfl ?_
        refine y_st (L1 := [(2, ((e0 : Nat) : Int)), (0, v1), (0, v2), (0, v3), (0, x11)]) (Nat.le_of_ble_eq_true rfl) rfl ?_
        refine wp_iload (v := x11) rfl ?_
        refine wp_if_lt (fun c13 => ?_) (fun c13 => ?_)
        · rw [if_pos c13] at h
          refine y_blk (t := 91) rfl (show fnd bk_X5_firstStep 91 = some _ from rfl) aB_X5_firstStep ?_
          obtain ⟨c14, h⟩ := d_ite h
          refine y_iinc (L1 := [(2, ((e0 : Nat) : Int)), (0, v1), (0, v2), (0, (v3 + 1)), (0, x11)]) rfl (Nat.le_of_ble_eq_true rfl) ⟨by decide, by decide⟩ c14 rfl ?_
          refine wp_goto ?_
          exact ih (v3 + 1) (0, x11)  sM h
        · rw [if_neg c13] at h
          refine wp_aload_n (v := ((e0 : Nat) : Int)) rfl (Int.natCast_nonneg _) ?_
          refine y_get (aLand0 he0) (ltLand hS.1.1 he0 0 (by decide)) (v := ((2 : Nat) : Int)) (rLand0 sM he0) rfl ?_
          refine y_get (show ash 2 = (10, 19) from rfl) (Nat.lt_of_lt_of_le (show 2 < 154 by decide) hS.1.1) (v := ((6 : Nat) : Int)) (sM.at 2 7 6 (by decide +kernel)) rfl ?_
          refine wp_iload (v := x11) rfl ?_
          obtain ⟨c15, h⟩ := d_ite h
          refine y_iald (show ash 6 = (100, 10) from rfl) (Or.inl (Nat.lt_of_lt_of_le (show 6 < 154 by decide) hS.1.1)) (Nat.ne_of_lt (Nat.lt_of_lt_of_le (Nat.lt_of_lt_of_le (show 6 < 154 by decide) hS.1.1) hS.1.2)) c15 (v := M 6 (x11).toNat) rfl ?_
          refine wp_aload_n (v := ((e0 : Nat) : Int)) rfl (Int.natCast_nonneg _) ?_
          refine wp_iload_n (v := v3) rfl ?_
          refine wp_iload_n (v := v2) rfl ?_
          obtain ⟨x16, e17, h⟩ := d_bind h
          refine y_callV (as := [(0, v3), (0, v2)]) (S1 := [(0, (M 6 (x11).toNat))]) (Nat.le_of_ble_eq_true rfl) (by omega) (t_X5_span he0 sM e17) (Nat.le_of_ble_eq_true rfl) rfl (aLand0 he0) (ltLand hS.1.1 he0 0 (by decide)) (Nat.le_of_ble_eq_true rfl) (Nat.le_of_ble_eq_true rfl) rfl ?_
          obtain ⟨c18, h⟩ := d_ite h
          refine wp_iadd c18 ?_
          refine wp_aload_n (v := ((e0 : Nat) : Int)) rfl (Int.natCast_nonneg _) ?_
          refine wp_iload_n (v := v1) rfl ?_
          refine wp_iload_n (v := v2) rfl ?_
          obtain ⟨x19, e20, h⟩ := d_bind h
          refine y_callV (as := [(0, v1), (0, v2)]) (S1 := [(0, ((M 6 (x11).toNat) + x16))]) (Nat.le_of_ble_eq_true rfl) (by omega) (t_X5_span he0 sM e20) (Nat.le_of_ble_eq_true rfl) rfl (aLand0 he0) (ltLand hS.1.1 he0 0 (by decide)) (Nat.le_of_ble_eq_true rfl) (Nat.le_of_ble_eq_true rfl) rfl ?_
          refine y_ne (fun c21 => ?_) (fun c21 => ?_)
          · rw [if_neg c21] at h
            refine y_blk (t := 91) rfl (show fnd bk_X5_firstStep 91 = some _ from rfl) aB_X5_firstStep ?_
            obtain ⟨c22, h⟩ := d_ite h
            refine y_iinc (L1 := [(2, ((e0 : Nat) : Int)), (0, v1), (0, v2), (0, (v3 + 1)), (0, x11)]) rfl (Nat.le_of_ble_eq_true rfl) ⟨by decide, by decide⟩ c22 rfl ?_
            refine wp_goto ?_
            exact ih (v3 + 1) (0, x11)  sM h
          · rw [if_pos c21] at h
            refine wp_iload_n (v := v3) rfl ?_
            cases h
            exact y_ret0 (Or.inl rfl) ⟨rfl, rfl⟩
def f_X5_firstStep (T : Nat) (e0 : Nat) (v1 : Int) (v2 : Int) (M : aM) : Option Int :=
 if v1 = v2 then
 some (-2) else
 (f_X5_span T e0 v1 v2 M).bind fun x2 =>
 if x2 < 1000000 then
 l_X5_firstStep_21 T e0 v1 v2 M (fun w23 =>
 some (-2)) FU 0 else
 some (-2)
theorem t_X5_firstStep {T : T3} {e0 : Nat} {v1 : Int} {v2 : Int} {M : aM} {y : Int} (he0 : isLand e0) (hS : Sh T.1 M) (h : f_X5_firstStep T.1 e0 v1 v2 M = some y) : Mr 1 55 [(2, ((e0 : Nat) : Int)), (0, v1), (0, v2)] M (some (0, y)) M T := by
  have key : ∀ d, 1 ≤ d → Wp d 55 0 [] [(2, ((e0 : Nat) : Int)), (0, v1), (0, v2), (9, 0), (9, 0)] [] (M, T) (fun r2 σ2 => r2 = some (0, y) ∧ σ2 = (M, T)) := by
    intro d hd
    rw [f_X5_firstStep] at h
    refine y_blk (t := 0) rfl (show fnd bk_X5_firstStep 0 = some _ from rfl) aB_X5_firstStep ?_
    refine wp_iload_n (v := v1) rfl ?_
    refine wp_iload_n (v := v2) rfl ?_
    refine wp_icmp_eq (fun c1 => ?_) (fun c1 => ?_)
    · rw [if_pos c1] at h
      refine y_blk (t := 16) rfl (show fnd bk_X5_firstStep 16 = some _ from rfl) aB_X5_firstStep ?_
      refine wp_bipush (by decide) ?_
      cases h
      exact y_ret0 (Or.inl rfl) ⟨rfl, rfl⟩
    · rw [if_neg c1] at h
      refine wp_aload_n (v := ((e0 : Nat) : Int)) rfl (Int.natCast_nonneg _) ?_
      refine wp_iload_n (v := v1) rfl ?_
      refine wp_iload_n (v := v2) rfl ?_
      obtain ⟨x2, e3, h⟩ := d_bind h
      refine y_callV (as := [(0, v1), (0, v2)]) (S1 := []) (Nat.le_of_ble_eq_true rfl) (by omega) (t_X5_span he0 hS e3) (Nat.le_of_ble_eq_true rfl) rfl (aLand0 he0) (ltLand hS.1.1 he0 0 (by decide)) (Nat.le_of_ble_eq_true rfl) (Nat.le_of_ble_eq_true rfl) rfl ?_
      refine y_ldc (v := 1000000) (by decide) rfl ?_
      refine wp_icmp_lt (fun c4 => ?_) (fun c4 => ?_)
      · rw [if_pos c4] at h
        refine y_blk (t := 19) rfl (show fnd bk_X5_firstStep 19 = some _ from rfl) aB_X5_firstStep ?_
        refine wp_iconst ⟨by decide, by decide⟩ ?_
        refine y_stn (L1 := [(2, ((e0 : Nat) : Int)), (0, v1), (0, v2), (0, 0), (9, 0)]) (Nat.le_of_ble_eq_true rfl) rfl ?_
        refine tl_X5_firstStep_21 (by omega) he0 hS (fun w23 u24  s25 h => ?_) FU 0 (9, 0)  hS h
        refine y_blk (t := 97) rfl (show fnd bk_X5_firstStep 97 = some _ from rfl) aB_X5_firstStep ?_
        refine wp_bipush (by decide) ?_
        cases h
        exact y_ret0 (Or.inl rfl) ⟨rfl, rfl⟩
      · rw [if_neg c4] at h
        refine y_blk (t := 16) rfl (show fnd bk_X5_firstStep 16 = some _ from rfl) aB_X5_firstStep ?_
        refine wp_bipush (by decide) ?_
        cases h
        exact y_ret0 (Or.inl rfl) ⟨rfl, rfl⟩
  exact fun d hd => Ms.of (key d hd)
theorem aB_X1_callStep : ∀ pc, aB 12 pc = fnd bk_X1_callStep pc := fun _ => rfl
def f_X1_callStep (T : Nat) (v1 : Int) (v2 : Int) (v3 : Int) (M : aM) : Option Int :=
 if v1 = 0 then
 some v2 else
 if v2 = v3 then
 some v2 else
 (f_X5_span T 39 v2 v3 M).bind fun x3 =>
 if x3 ≤ (M 2 0) then
 (f_X5_firstStep T 39 v2 v3 M).bind fun x6 =>
 if 0 ≤ x6 then
 some x6 else
 some v2 else
 some v2
theorem t_X1_callStep {T : T3} {v1 : Int} {v2 : Int} {v3 : Int} {M : aM} {y : Int}  (hS : Sh T.1 M) (h : f_X1_callStep T.1 v1 v2 v3 M = some y) : Mr 2 12 [(2, ((48 : Nat) : Int)), (0, v1), (0, v2), (0, v3)] M (some (0, y)) M T := by
  have key : ∀ d, 2 ≤ d → Wp d 12 0 [] [(2, ((48 : Nat) : Int)), (0, v1), (0, v2), (0, v3), (9, 0)] [] (M, T) (fun r2 σ2 => r2 = some (0, y) ∧ σ2 = (M, T)) := by
    intro d hd
    rw [f_X1_callStep] at h
    refine y_blk (t := 0) rfl (show fnd bk_X1_callStep 0 = some _ from rfl) aB_X1_callStep ?_
    refine wp_iload_n (v := v1) rfl ?_
    refine wp_if_eq (fun c1 => ?_) (fun c1 => ?_)
    · rw [if_pos c1] at h
      refine y_blk (t := 28) rfl (show fnd bk_X1_callStep 28 = some _ from rfl) aB_X1_callStep ?_
      refine wp_iload_n (v := v2) rfl ?_
      cases h
      exact y_ret0 (Or.inl rfl) ⟨rfl, rfl⟩
    · rw [if_neg c1] at h
      refine wp_iload_n (v := v2) rfl ?_
      refine wp_iload_n (v := v3) rfl ?_
      refine wp_icmp_eq (fun c2 => ?_) (fun c2 => ?_)
      · rw [if_pos c2] at h
        refine y_blk (t := 28) rfl (show fnd bk_X1_callStep 28 = some _ from rfl) aB_X1_callStep ?_
        refine wp_iload_n (v := v2) rfl ?_
        cases h
        exact y_ret0 (Or.inl rfl) ⟨rfl, rfl⟩
      · rw [if_neg c2] at h
        refine wp_aload_n (v := ((48 : Nat) : Int)) rfl (Int.natCast_nonneg _) ?_
        refine y_get (show ash 48 = (1, 6) from rfl) (Nat.lt_of_lt_of_le (show 48 < 154 by decide) hS.1.1) (v := ((39 : Nat) : Int)) (hS.at 48 2 39 (by decide +kernel)) rfl ?_
        refine wp_iload_n (v := v2) rfl ?_
        refine wp_iload_n (v := v3) rfl ?_
        obtain ⟨x3, e4, h⟩ := d_bind h
        refine y_callV (as := [(0, v2), (0, v3)]) (S1 := []) (Nat.le_of_ble_eq_true rfl) (by omega) (t_X5_span (show isLand 39 by decide) hS e4) (Nat.le_of_ble_eq_true rfl) rfl (show ash 39 = (5, 4) from rfl) (Nat.lt_of_lt_of_le (show 39 < 154 by decide) hS.1.1) (Nat.le_of_ble_eq_true rfl) (Nat.le_of_ble_eq_true rfl) rfl ?_
        refine wp_aload_n (v := ((48 : Nat) : Int)) rfl (Int.natCast_nonneg _) ?_
        refine y_get (show ash 48 = (1, 6) from rfl) (Nat.lt_of_lt_of_le (show 48 < 154 by decide) hS.1.1) (v := ((2 : Nat) : Int)) (hS.at 48 0 2 (by decide +kernel)) rfl ?_
        refine y_get (show ash 2 = (10, 19) from rfl) (Nat.lt_of_lt_of_le (show 2 < 154 by decide) hS.1.1) (v := M 2 0) rfl rfl ?_
        refine wp_icmp_le (fun c5 => ?_) (fun c5 => ?_)
        · rw [if_pos c5] at h
          refine y_blk (t := 30) rfl (show fnd bk_X1_callStep 30 = some _ from rfl) aB_X1_callStep ?_
          refine wp_aload_n (v := ((48 : Nat) : Int)) rfl (Int.natCast_nonneg _) ?_
          refine y_get (show ash 48 = (1, 6) from rfl) (Nat.lt_of_lt_of_le (show 48 < 154 by decide) hS.1.1) (v := ((39 : Nat) : Int)) (hS.at 48 2 39 (by decide +kernel)) rfl ?_
          refine wp_iload_n (v := v2) rfl ?_
          refine wp_iload_n (v := v3) rfl ?_
          obtain ⟨x6, e7, h⟩ := d_bind h
          refine y_callV (as := [(0, v2), (0, v3)]) (S1 := []) (Nat.le_of_ble_eq_true rfl) (by omega) (t_X5_firstStep (show isLand 39 by decide) hS e7) (Nat.le_of_ble_eq_true rfl) rfl (show ash 39 = (5, 4) from rfl) (Nat.lt_of_lt_of_le (show 39 < 154 by decide) hS.1.1) (Nat.le_of_ble_eq_true rfl) (Nat.le_of_ble_eq_true rfl) rfl ?_
          refine y_st (L1 := [(2, ((48 : Nat) : Int)), (0, v1), (0, v2), (0, v3), (0, x6)]) (Nat.le_of_ble_eq_true rfl) rfl ?_
          refine wp_iload (v := x6) rfl ?_
          refine wp_if_ge (fun c8 => ?_) (fun c8 => ?_)
          · rw [if_pos c8] at h
            refine y_blk (t := 50) rfl (show fnd bk_X1_callStep 50 = some _ from rfl) aB_X1_callStep ?_
            refine wp_iload (v := x6) rfl ?_
            refine y_blk (t := 52) rfl (show fnd bk_X1_callStep 52 = some _ from rfl) aB_X1_callStep ?_
            cases h
            exact y_ret0 (Or.inl rfl) ⟨rfl, rfl⟩
          · rw [if_neg c8] at h
            refine wp_iload_n (v := v2) rfl ?_
            refine wp_goto ?_
            refine y_blk (t := 52) rfl (show fnd bk_X1_callStep 52 = some _ from rfl) aB_X1_callStep ?_
            cases h
            exact y_ret0 (Or.inl rfl) ⟨rfl, rfl⟩
        · rw [if_neg c5] at h
          refine y_blk (t := 28) rfl (show fnd bk_X1_callStep 28 = some _ from rfl) aB_X1_callStep ?_
          refine wp_iload_n (v := v2) rfl ?_
          cases h
          exact y_ret0 (Or.inl rfl) ⟨rfl, rfl⟩
  exact fun d hd => Ms.of (key d hd)
theorem aB_X1_follow : ∀ pc, aB 13 pc = fnd bk_X1_follow pc := fun _ => rfl
def l_X1_follow_30 (T : Nat) (v1 : Int) (v2 : Int) (r3 : Nat) (k : Int → Int → Int → aM → Option (Int × aM)) : Nat → Int → Int → Int → aM → Option (Int × aM)
| 0, _, _, _, _ => none
| n + 1, v4, v5, v6, M =>
 if v2 < v6 then
 k v4 v5 v6 M else
 if ((ash r3).2 : Int) ≤ v6 then
 k v4 v5 v6 M else
 if 0 ≤ v1 ∧ v1 < 3 then
 (f_X1_yearStep T (M 8 (v1).toNat) v4 v5 M).bind fun x8 =>
 if x8 = v4 then
 if 0 ≤ v6 ∧ v6 < ((ash r3).2 : Int) then
 (some (aup M r3 (v6).toNat v4)).bind fun m12 =>
 if aIn (v6 + 1) then
 l_X1_follow_30 T v1 v2 r3 k n v4 v5 (v6 + 1) m12 else none else none else
 if 0 ≤ v6 ∧ v6 < ((ash r3).2 : Int) then
 (some (aup M r3 (v6).toNat x8)).bind fun m16 =>
 if aIn (v6 + 1) then
 l_X1_follow_30 T v1 v2 r3 k n x8 v4 (v6 + 1) m16 else none else none else none
theorem tl_X1_follow_30 {d : Nat} (hd : 4 ≤ d) {T : T3} {v1 : Int} {v2 : Int} {r3 : Nat} {k : Int → Int → Int → aM → Option (Int × aM)} {y : (Int × aM)} (har3 : (ash r3).1 = 100 ∧ r3 < 154) {M0 : aM} (hS : Sh T.1 M0)
    (hk : ∀ (v4 v5 v6 : Int) (u7 : aV) (M : aM), Sh T.1 M → k v4 v5 v6 M = some y → Wp d 13 89 [] [(2, ((48 : Nat) : Int)), (0, v1), (0, v2), (2, ((r3 : Nat) : Int)), (0, v4), (0, v5), (0, v6), u7] [] (M, T) (fun r2 σ2 => r2 = none ∧ σ2 = (y.2, T) ∧ Sh T.1 y.2)) :
    ∀ (n : Nat) (v4 v5 v6 : Int) (u7 : aV) (M : aM), Sh T.1 M → l_X1_follow_30 T.1 v1 v2 r3 k n v4 v5 v6 M = some y → Wp d 13 30 [] [(2, ((48 : Nat) : Int)), (0, v1), (0, v2), (2, ((r3 : Nat) : Int)), (0, v4), (0, v5), (0, v6), u7] [] (M, T) (fun r2 σ2 => r2 = none ∧ σ2 = (y.2, T) ∧ Sh T.1 y.2) := by
  intro n
  induction n with
  | zero =>
    intro v4 v5 v6 u7 M _ h
    exact nomatch (show (none : Option (Int × aM)) = some y from h)
  | succ n ih =>
    intro v4 v5 v6 u7 M sM h
    rw [l_X1_follow_30] at h
    refine y_blk (t := 30) rfl (show fnd bk_X1_follow 30 = some _ from rfl) aB_X1_follow ?_
    refine wp_iload (v := v6) rfl ?_
    refine wp_iload_n (v := v2) rfl ?_
    refine wp_icmp_gt (fun c5 => ?_) (fun c5 => ?_)
    · rw [if_pos c5] at h
      exact hk v4 v5 v6 u7 M sM h
    · rw [if_neg c5] at h
      refine wp_iload (v := v6) rfl ?_
      refine wp_aload_n (v := ((r3 : Nat) : Int)) rfl (Int.natCast_nonneg _) ?_
      refine y_alen2 (v := ((ash r3).2 : Int)) (ash_eta har3.1) ⟨by decide, by decide⟩ (Nat.lt_of_lt_of_le har3.2 hS.1.1) (Nat.ne_of_lt (Nat.lt_of_lt_of_le (Nat.lt_of_lt_of_le har3.2 hS.1.1) hS.1.2)) (Nat.lt_trans (ash_small _ (by have := har3.2; omega)) (by decide)) rfl ?_
      refine wp_icmp_ge (fun c6 => ?_) (fun c6 => ?_)
      · rw [if_pos c6] at h
        exact hk v4 v5 v6 u7 M sM h
      · rw [if_neg c6] at h
        refine wp_aload_n (v := ((48 : Nat) : Int)) rfl (Int.natCast_nonneg _) ?_
        refine wp_aload_n (v := ((48 : Nat) : Int)) rfl (Int.natCast_nonneg _) ?_
        refine y_get (show ash 48 = (1, 6) from rfl) (Nat.lt_of_lt_of_le (show 48 < 154 by decide) hS.1.1) (v := ((2 : Nat) : Int)) (sM.at 48 0 2 (by decide +kernel)) rfl ?_
        refine y_get (show ash 2 = (10, 19) from rfl) (Nat.lt_of_lt_of_le (show 2 < 154 by decide) hS.1.1) (v := ((8 : Nat) : Int)) (sM.at 2 10 8 (by decide +kernel)) rfl ?_
        refine wp_iload_n (v := v1) rfl ?_
        obtain ⟨c7, h⟩ := d_ite h
        refine y_iald (show ash 8 = (100, 3) from rfl) (Or.inl (Nat.lt_of_lt_of_le (show 8 < 154 by decide) hS.1.1)) (Nat.ne_of_lt (Nat.lt_of_lt_of_le (Nat.lt_of_lt_of_le (show 8 < 154 by decide) hS.1.1) hS.1.2)) c7 (v := M 8 (v1).toNat) rfl ?_
        refine wp_iload (v := v4) rfl ?_
        refine wp_iload (v := v5) rfl ?_
        obtain ⟨x8, e9, h⟩ := d_bind h
        refine y_callV (as := [(0, (M 8 (v1).toNat)), (0, v4), (0, v5)]) (S1 := []) (Nat.le_of_ble_eq_true rfl) (by omega) (t_X1_yearStep sM e9) (Nat.le_of_ble_eq_true rfl) rfl (show ash 48 = (1, 6) from rfl) (Nat.lt_of_lt_of_le (show 48 < 154 by decide) hS.1.1) (Nat.le_of_ble_eq_true rfl) (Nat.le_of_ble_eq_true rfl) rfl ?_
        refine y_st (L1 := [(2, ((48 : Nat) : Int)), (0, v1), (0, v2), (2, ((r3 : Nat) : Int)), (0, v4), (0, v5), (0, v6), (0, x8)]) (Nat.le_of_ble_eq_true rfl) rfl ?_
        refine wp_iload (v := x8) rfl ?_
        refine wp_iload (v := v4) rfl ?_
        refine wp_icmp_eq (fun c10 => ?_) (fun c10 => ?_)
        · rw [if_pos c10] at h
          refine y_blk (t := 77) rfl (show fnd bk_X1_follow 77 = some _ from rfl) aB_X1_follow ?_
          refine wp_aload_n (v := ((r3 : Nat) : Int)) rfl (Int.natCast_nonneg _) ?_
          refine wp_iload (v := v6) rfl ?_
          refine wp_iload (v := v4) rfl ?_
          obtain ⟨c11, h⟩ := d_ite h
          refine y_iast (ash_eta har3.1) (Nat.lt_of_lt_of_le har3.2 hS.1.1) c11 ?_
          obtain ⟨m12, em12, h⟩ := d_bind h
          have em12 := Option.some.inj em12
          have s13 : Sh T.1 m12 := em12 ▸ sM.up (Or.inl ⟨by rw [(ash_eta har3.1)]; exact Nat.le_of_ble_eq_true rfl, by rw [(ash_eta har3.1)]; exact Nat.le_of_ble_eq_true rfl⟩) (by have := (Nat.lt_of_lt_of_le har3.2 hS.1.1); have := hS.1.2; omega)
          rw [em12]
          obtain ⟨c14, h⟩ := d_ite h
          refine y_iinc (L1 := [(2, ((48 : Nat) : Int)), (0, v1), (0, v2), (2, ((r3 : Nat) : Int)), (0, v4), (0, v5), (0, (v6 + 1)), (0, x8)]) rfl (Nat.le_of_ble_eq_true rfl) ⟨by decide, by decide⟩ c14 rfl ?_
          refine wp_goto ?_
          exact ih v4 v5 (v6 + 1) (0, x8) m12 s13 h
        · rw [if_neg c10] at h
          refine wp_iload (v := v4) rfl ?_
          refine y_st (L1 := [(2, ((48 : Nat) : Int)), (0, v1), (0, v2), (2, ((r3 : Nat) : Int)), (0, v4), (0, v4), (0, v6), (0, x8)]) (Nat.le_of_ble_eq_true rfl) rfl ?_
          refine wp_iload (v := x8) rfl ?_
          refine y_st (L1 := [(2, ((48 : Nat) : Int)), (0, v1), (0, v2), (2, ((r3 : Nat) : Int)), (0, x8), (0, v4), (0, v6), (0, x8)]) (Nat.le_of_ble_eq_true rfl) rfl ?_
          refine y_blk (t := 77) rfl (show fnd bk_X1_follow 77 = some _ from rfl) aB_X1_follow ?_
          refine wp_aload_n (v := ((r3 : Nat) : Int)) rfl (Int.natCast_nonneg _) ?_
          refine wp_iload (v := v6) rfl ?_
          refine wp_iload (v := x8) rfl ?_
          obtain ⟨c15, h⟩ := d_ite h
          refine y_iast (ash_eta har3.1) (Nat.lt_of_lt_of_le har3.2 hS.1.1) c15 ?_
          obtain ⟨m16, em16, h⟩ := d_bind h
          have em16 := Option.some.inj em16
          have s17 : Sh T.1 m16 := em16 ▸ sM.up (Or.inl ⟨by rw [(ash_eta har3.1)]; exact Nat.le_of_ble_eq_true rfl, by rw [(ash_eta har3.1)]; exact Nat.le_of_ble_eq_true rfl⟩) (by have := (Nat.lt_of_lt_of_le har3.2 hS.1.1); have := hS.1.2; omega)
          rw [em16]
          obtain ⟨c18, h⟩ := d_ite h
          refine y_iinc (L1 := [(2, ((48 : Nat) : Int)), (0, v1), (0, v2), (2, ((r3 : Nat) : Int)), (0, x8), (0, v4), (0, (v6 + 1)), (0, x8)]) rfl (Nat.le_of_ble_eq_true rfl) ⟨by decide, by decide⟩ c18 rfl ?_
          refine wp_goto ?_
          exact ih x8 v4 (v6 + 1) (0, x8) m16 s17 h
def f_X1_follow (T : Nat) (v1 : Int) (v2 : Int) (r3 : Nat) (M : aM) : Option (Int × aM) :=
 if (ash r3).1 = 100 ∧ r3 < 154 then
 if 0 ≤ v1 ∧ v1 < 3 then
 if (0 : Int) ≤ 0 ∧ (0 : Int) < ((ash r3).2 : Int) then
 (some (aup M r3 0 (M 36 (v1).toNat))).bind fun m3 =>
 l_X1_follow_30 T v1 v2 r3 (fun w19 w20 w21 m23 =>
 some (0, m23)) FU (M 36 (v1).toNat) (M 37 (v1).toNat) 1 m3 else none else none else none
theorem t_X1_follow {T : T3} {v1 : Int} {v2 : Int} {r3 : Nat} {M : aM} {y : (Int × aM)}  (hS : Sh T.1 M) (h : f_X1_follow T.1 v1 v2 r3 M = some y) : Mr 4 13 [(2, ((48 : Nat) : Int)), (0, v1), (0, v2), (2, ((r3 : Nat) : Int))] M (none) y.2 T ∧ Sh T.1 y.2 := by
  have key : ∀ d, 4 ≤ d → Wp d 13 0 [] [(2, ((48 : Nat) : Int)), (0, v1), (0, v2), (2, ((r3 : Nat) : Int)), (9, 0), (9, 0), (9, 0), (9, 0)] [] (M, T) (fun r2 σ2 => r2 = none ∧ σ2 = (y.2, T) ∧ Sh T.1 y.2) := by
    intro d hd
    rw [f_X1_follow] at h
    obtain ⟨har3, h⟩ := d_ite h
    refine y_blk (t := 0) rfl (show fnd bk_X1_follow 0 = some _ from rfl) aB_X1_follow ?_
    refine wp_aload_n (v := ((48 : Nat) : Int)) rfl (Int.natCast_nonneg _) ?_
    refine y_get (show ash 48 = (1, 6) from rfl) (Nat.lt_of_lt_of_le (show 48 < 154 by decide) hS.1.1) (v := ((35 : Nat) : Int)) (hS.at 48 1 35 (by decide +kernel)) rfl ?_
    refine y_get (show ash 35 = (8, 5) from rfl) (Nat.lt_of_lt_of_le (show 35 < 154 by decide) hS.1.1) (v := ((36 : Nat) : Int)) (hS.at 35 0 36 (by decide +kernel)) rfl ?_
    refine wp_iload_n (v := v1) rfl ?_
    obtain ⟨c1, h⟩ := d_ite h
    refine y_iald (show ash 36 = (100, 3) from rfl) (Or.inl (Nat.lt_of_lt_of_le (show 36 < 154 by decide) hS.1.1)) (Nat.ne_of_lt (Nat.lt_of_lt_of_le (Nat.lt_of_lt_of_le (show 36 < 154 by decide) hS.1.1) hS.1.2)) c1 (v := M 36 (v1).toNat) rfl ?_
    refine y_st (L1 := [(2, ((48 : Nat) : Int)), (0, v1), (0, v2), (2, ((r3 : Nat) : Int)), (0, (M 36 (v1).toNat)), (9, 0), (9, 0), (9, 0)]) (Nat.le_of_ble_eq_true rfl) rfl ?_
    refine wp_aload_n (v := ((48 : Nat) : Int)) rfl (Int.natCast_nonneg _) ?_
    refine y_get (show ash 48 = (1, 6) from rfl) (Nat.lt_of_lt_of_le (show 48 < 154 by decide) hS.1.1) (v := ((35 : Nat) : Int)) (hS.at 48 1 35 (by decide +kernel)) rfl ?_
    refine y_get (show ash 35 = (8, 5) from rfl) (Nat.lt_of_lt_of_le (show 35 < 154 by decide) hS.1.1) (v := ((37 : Nat) : Int)) (hS.at 35 1 37 (by decide +kernel)) rfl ?_
    refine wp_iload_n (v := v1) rfl ?_
    refine y_iald (show ash 37 = (100, 3) from rfl) (Or.inl (Nat.lt_of_lt_of_le (show 37 < 154 by decide) hS.1.1)) (Nat.ne_of_lt (Nat.lt_of_lt_of_le (Nat.lt_of_lt_of_le (show 37 < 154 by decide) hS.1.1) hS.1.2)) c1 (v := M 37 (v1).toNat) rfl ?_
    refine y_st (L1 := [(2, ((48 : Nat) : Int)), (0, v1), (0, v2), (2, ((r3 : Nat) : Int)), (0, (M 36 (v1).toNat)), (0, (M 37 (v1).toNat)), (9, 0), (9, 0)]) (Nat.le_of_ble_eq_true rfl) rfl ?_
    refine wp_aload_n (v := ((r3 : Nat) : Int)) rfl (Int.natCast_nonneg _) ?_
    refine wp_iconst ⟨by decide, by decide⟩ ?_
    refine wp_iload (v := (M 36 (v1).toNat)) rfl ?_
    obtain ⟨c2, h⟩ := d_ite h
    refine y_iast (ash_eta har3.1) (Nat.lt_of_lt_of_le har3.2 hS.1.1) c2 ?_
    obtain ⟨m3, em3, h⟩ := d_bind h
    have em3 := Option.some.inj em3
    have s4 : Sh T.1 m3 := em3 ▸ hS.up (Or.inl ⟨by rw [(ash_eta har3.1)]; exact Nat.le_of_ble_eq_true rfl, by rw [(ash_eta har3.1)]; exact Nat.le_of_ble_eq_true rfl⟩) (by have := (Nat.lt_of_lt_of_le har3.2 hS.1.1); have := hS.1.2; omega)
    rw [show ((0 : Int)).toNat = 0 from rfl, em3]
    refine wp_iconst ⟨by decide, by decide⟩ ?_
    refine y_st (L1 := [(2, ((48 : Nat) : Int)), (0, v1), (0, v2), (2, ((r3 : Nat) : Int)), (0, (M 36 (v1).toNat)), (0, (M 37 (v1).toNat)), (0, 1), (9, 0)]) (Nat.le_of_ble_eq_true rfl) rfl ?_
    refine tl_X1_follow_30 (by omega) har3 hS (fun w19 w20 w21 u22 m23 s24 h => ?_) FU (M 36 (v1).toNat) (M 37 (v1).toNat) 1 (9, 0) m3 s4 h
    refine y_blk (t := 89) rfl (show fnd bk_X1_follow 89 = some _ from rfl) aB_X1_follow ?_
    cases h
    exact wp_return ⟨rfl, rfl, s24⟩
  exact ⟨fun d hd => Ms.of3 (key d hd), Ms.sh (key 4 (Nat.le_refl _))⟩
theorem aB_X1_comesAgain : ∀ pc, aB 15 pc = fnd bk_X1_comesAgain pc := fun _ => rfl
def l_X1_comesAgain_3 (T : Nat) (v1 : Int) (M : aM) (k : Int → Option Int) : Nat → Int → Option Int
| 0, _ => none
| n + 1, v2 =>
 if 144 ≤ v2 then
 k v2 else
 if 0 ≤ v2 ∧ v2 < 217 then
 if aIn (v2 + v1) then
 if 0 ≤ (v2 + v1) ∧ (v2 + v1) < 217 then
 if (M 49 (v2).toNat) = (M 49 ((v2 + v1)).toNat) then
 if aIn (v2 + 1) then
 l_X1_comesAgain_3 T v1 M k n (v2 + 1) else none else
 some 0 else none else none else none
theorem tl_X1_comesAgain_3 {d : Nat} (hd : 0 ≤ d) {T : T3} {v1 : Int} {M : aM} {k : Int → Option Int} {y : Int}  (hS : Sh T.1 M)
    (hk : ∀ (v2 : Int), Sh T.1 M → k v2 = some y → Wp d 15 35 [] [(2, ((48 : Nat) : Int)), (0, v1), (0, v2)] [] (M, T) (fun r2 σ2 => r2 = some (0, y) ∧ σ2 = (M, T))) :
    ∀ (n : Nat) (v2 : Int), Sh T.1 M → l_X1_comesAgain_3 T.1 v1 M k n v2 = some y → Wp d 15 3 [] [(2, ((48 : Nat) : Int)), (0, v1), (0, v2)] [] (M, T) (fun r2 σ2 => r2 = some (0, y) ∧ σ2 = (M, T)) := by
  intro n
  induction n with
  | zero =>
    intro v2 _ h
    exact nomatch (show (none : Option Int) = some y from h)
  | succ n ih =>
    intro v2 sM h
    rw [l_X1_comesAgain_3] at h
    refine y_blk (t := 3) rfl (show fnd bk_X1_comesAgain 3 = some _ from rfl) aB_X1_comesAgain ?_
    refine wp_iload_n (v := v2) rfl ?_
    refine wp_sipush (by decide) ?_
    refine wp_icmp_ge (fun c1 => ?_) (fun c1 => ?_)
    · rw [if_pos c1] at h
      exact hk v2   sM h
    · rw [if_neg c1] at h
      refine wp_aload_n (v := ((48 : Nat) : Int)) rfl (Int.natCast_nonneg _) ?_
      refine y_get (show ash 48 = (1, 6) from rfl) (Nat.lt_of_lt_of_le (show 48 < 154 by decide) hS.1.1) (v := ((49 : Nat) : Int)) (sM.at 48 3 49 (by decide +kernel)) rfl ?_
      refine wp_iload_n (v := v2) rfl ?_
      obtain ⟨c2, h⟩ := d_ite h
      refine y_iald (show ash 49 = (100, 217) from rfl) (Or.inl (Nat.lt_of_lt_of_le (show 49 < 154 by decide) hS.1.1)) (Nat.ne_of_lt (Nat.lt_of_lt_of_le (Nat.lt_of_lt_of_le (show 49 < 154 by decide) hS.1.1) hS.1.2)) c2 (v := M 49 (v2).toNat) rfl ?_
      refine wp_aload_n (v := ((48 : Nat) : Int)) rfl (Int.natCast_nonneg _) ?_
      refine y_get (show ash 48 = (1, 6) from rfl) (Nat.lt_of_lt_of_le (show 48 < 154 by decide) hS.1.1) (v := ((49 : Nat) : Int)) (sM.at 48 3 49 (by decide +kernel)) rfl ?_
      refine wp_iload_n (v := v2) rfl ?_
      refine wp_iload_n (v := v1) rfl ?_
      obtain ⟨c3, h⟩ := d_ite h
      refine wp_iadd c3 ?_
      obtain ⟨c4, h⟩ := d_ite h
      refine y_iald (show ash 49 = (100, 217) from rfl) (Or.inl (Nat.lt_of_lt_of_le (show 49 < 154 by decide) hS.1.1)) (Nat.ne_of_lt (Nat.lt_of_lt_of_le (Nat.lt_of_lt_of_le (show 49 < 154 by decide) hS.1.1) hS.1.2)) c4 (v := M 49 ((v2 + v1)).toNat) rfl ?_
      refine wp_icmp_eq (fun c5 => ?_) (fun c5 => ?_)
      · rw [if_pos c5] at h
        refine y_blk (t := 29) rfl (show fnd bk_X1_comesAgain 29 = some _ from rfl) aB_X1_comesAgain ?_
        obtain ⟨c6, h⟩ := d_ite h
        refine y_iinc (L1 := [(2, ((48 : Nat) : Int)), (0, v1), (0, (v2 + 1))]) rfl (Nat.le_of_ble_eq_true rfl) ⟨by decide, by decide⟩ c6 rfl ?_
        refine wp_goto ?_
        exact ih (v2 + 1)   sM h
      · rw [if_neg c5] at h
        refine wp_iconst ⟨by decide, by decide⟩ ?_
        cases h
        exact y_ret0 (Or.inr (Or.inl rfl)) ⟨rfl, rfl⟩
def f_X1_comesAgain (T : Nat) (v1 : Int) (M : aM) : Option Int :=
 l_X1_comesAgain_3 T v1 M (fun w7 =>
 some 1) FU 72
theorem t_X1_comesAgain {T : T3} {v1 : Int} {M : aM} {y : Int}  (hS : Sh T.1 M) (h : f_X1_comesAgain T.1 v1 M = some y) : Mr 0 15 [(2, ((48 : Nat) : Int)), (0, v1)] M (some (0, y)) M T := by
  have key : ∀ d, 0 ≤ d → Wp d 15 0 [] [(2, ((48 : Nat) : Int)), (0, v1), (9, 0)] [] (M, T) (fun r2 σ2 => r2 = some (0, y) ∧ σ2 = (M, T)) := by
    intro d hd
    rw [f_X1_comesAgain] at h
    refine y_blk (t := 0) rfl (show fnd bk_X1_comesAgain 0 = some _ from rfl) aB_X1_comesAgain ?_
    refine wp_bipush (by decide) ?_
    refine y_stn (L1 := [(2, ((48 : Nat) : Int)), (0, v1), (0, 72)]) (Nat.le_of_ble_eq_true rfl) rfl ?_
    refine tl_X1_comesAgain_3 (by omega) hS (fun w7   s8 h => ?_) FU 72   hS h
    refine y_blk (t := 35) rfl (show fnd bk_X1_comesAgain 35 = some _ from rfl) aB_X1_comesAgain ?_
    refine wp_iconst ⟨by decide, by decide⟩ ?_
    cases h
    exact y_ret0 (Or.inr (Or.inr rfl)) ⟨rfl, rfl⟩
  exact fun d hd => Ms.of (key d hd)
theorem aB_X1_roundLength : ∀ pc, aB 14 pc = fnd bk_X1_roundLength pc := fun _ => rfl
def l_X1_roundLength_14 (T : Nat)  (M : aM) (k : Int → Option (Int × aM)) : Nat → Int → Option (Int × aM)
| 0, _ => none
| n + 1, v2 =>
 if 72 ≤ v2 then
 k v2 else
 (f_X1_comesAgain T v2 M).bind fun x6 =>
 if x6 = 0 then
 if aIn (v2 + 1) then
 l_X1_roundLength_14 T M k n (v2 + 1) else none else
 some (v2, M)
theorem tl_X1_roundLength_14 {d : Nat} (hd : 5 ≤ d) {T : T3}  {M : aM} {k : Int → Option (Int × aM)} {y : (Int × aM)}  (hS : Sh T.1 M)
    (hk : ∀ (v2 : Int) (u1 : aV), Sh T.1 M → k v2 = some y → Wp d 14 36 [] [(2, ((48 : Nat) : Int)), u1, (0, v2)] [] (M, T) (fun r2 σ2 => r2 = some (0, y.1) ∧ σ2 = (y.2, T) ∧ Sh T.1 y.2)) :
    ∀ (n : Nat) (v2 : Int) (u1 : aV), Sh T.1 M → l_X1_roundLength_14 T.1 M k n v2 = some y → Wp d 14 14 [] [(2, ((48 : Nat) : Int)), u1, (0, v2)] [] (M, T) (fun r2 σ2 => r2 = some (0, y.1) ∧ σ2 = (y.2, T) ∧ Sh T.1 y.2) := by
  intro n
  induction n with
  | zero =>
    intro v2 u1 _ h
    exact nomatch (show (none : Option (Int × aM)) = some y from h)
  | succ n ih =>
    intro v2 u1 sM h
    rw [l_X1_roundLength_14] at h
    refine y_blk (t := 14) rfl (show fnd bk_X1_roundLength 14 = some _ from rfl) aB_X1_roundLength ?_
    refine wp_iload_n (v := v2) rfl ?_
    refine wp_bipush (by decide) ?_
    refine wp_icmp_ge (fun c5 => ?_) (fun c5 => ?_)
    · rw [if_pos c5] at h
      exact hk v2 u1  sM h
    · rw [if_neg c5] at h
      refine wp_aload_n (v := ((48 : Nat) : Int)) rfl (Int.natCast_nonneg _) ?_
      refine wp_iload_n (v := v2) rfl ?_
      obtain ⟨x6, e7, h⟩ := d_bind h
      refine y_callV (as := [(0, v2)]) (S1 := []) (Nat.le_of_ble_eq_true rfl) (by omega) (t_X1_comesAgain sM e7) (Nat.le_of_ble_eq_true rfl) rfl (show ash 48 = (1, 6) from rfl) (Nat.lt_of_lt_of_le (show 48 < 154 by decide) hS.1.1) (Nat.le_of_ble_eq_true rfl) (Nat.le_of_ble_eq_true rfl) rfl ?_
      refine wp_if_eq (fun c8 => ?_) (fun c8 => ?_)
      · rw [if_pos c8] at h
        refine y_blk (t := 30) rfl (show fnd bk_X1_roundLength 30 = some _ from rfl) aB_X1_roundLength ?_
        obtain ⟨c9, h⟩ := d_ite h
        refine y_iinc (L1 := [(2, ((48 : Nat) : Int)), (ajk u1), (0, (v2 + 1))]) rfl (Nat.le_of_ble_eq_true rfl) ⟨by decide, by decide⟩ c9 (aset_jk (q := 1) (u := u1) rfl) ?_
        refine wp_goto ?_
        exact ih (v2 + 1) (ajk u1)  sM h
      · rw [if_neg c8] at h
        refine wp_iload_n (v := v2) rfl ?_
        cases h
        exact y_ret0 (Or.inl rfl) ⟨rfl, rfl, sM⟩
def f_X1_roundLength (T : Nat) (v1 : Int) (M : aM) : Option (Int × aM) :=
 (f_X1_follow T v1 216 49 M).bind fun x1 =>
 l_X1_roundLength_14 T x1.2 (fun w10 =>
 some (72, x1.2)) FU 1
theorem t_X1_roundLength {T : T3} {v1 : Int} {M : aM} {y : (Int × aM)}  (hS : Sh T.1 M) (h : f_X1_roundLength T.1 v1 M = some y) : Mr 5 14 [(2, ((48 : Nat) : Int)), (0, v1)] M (some (0, y.1)) y.2 T ∧ Sh T.1 y.2 := by
  have key : ∀ d, 5 ≤ d → Wp d 14 0 [] [(2, ((48 : Nat) : Int)), (0, v1), (9, 0)] [] (M, T) (fun r2 σ2 => r2 = some (0, y.1) ∧ σ2 = (y.2, T) ∧ Sh T.1 y.2) := by
    intro d hd
    rw [f_X1_roundLength] at h
    refine y_blk (t := 0) rfl (show fnd bk_X1_roundLength 0 = some _ from rfl) aB_X1_roundLength ?_
    refine wp_aload_n (v := ((48 : Nat) : Int)) rfl (Int.natCast_nonneg _) ?_
    refine wp_iload_n (v := v1) rfl ?_
    refine wp_sipush (by decide) ?_
    refine wp_aload_n (v := ((48 : Nat) : Int)) rfl (Int.natCast_nonneg _) ?_
    refine y_get (show ash 48 = (1, 6) from rfl) (Nat.lt_of_lt_of_le (show 48 < 154 by decide) hS.1.1) (v := ((49 : Nat) : Int)) (hS.at 48 3 49 (by decide +kernel)) rfl ?_
    obtain ⟨x1, e2, h⟩ := d_bind h
    obtain ⟨r3, s4⟩ := t_X1_follow hS e2
    refine y_callVv (as := [(0, v1), (0, 216), (2, ((49 : Nat) : Int))]) (S1 := []) (Nat.le_of_ble_eq_true rfl) (by omega) r3 rfl (show ash 48 = (1, 6) from rfl) (Nat.lt_of_lt_of_le (show 48 < 154 by decide) hS.1.1) (Nat.le_of_ble_eq_true rfl) (Nat.le_of_ble_eq_true rfl) rfl ?_
    refine wp_iconst ⟨by decide, by decide⟩ ?_
    refine y_stn (L1 := [(2, ((48 : Nat) : Int)), (0, v1), (0, 1)]) (Nat.le_of_ble_eq_true rfl) rfl ?_
    refine tl_X1_roundLength_14 (by omega) s4 (fun w10 u11  s12 h => ?_) FU 1 (0, v1)  s4 h
    refine y_blk (t := 36) rfl (show fnd bk_X1_roundLength 36 = some _ from rfl) aB_X1_roundLength ?_
    refine wp_bipush (by decide) ?_
    cases h
    exact y_ret0 (Or.inl rfl) ⟨rfl, rfl, s12⟩
  exact ⟨fun d hd => Ms.of3 (key d hd), Ms.sh (key 5 (Nat.le_refl _))⟩
theorem aB_X1_roundStart : ∀ pc, aB 16 pc = fnd bk_X1_roundStart pc := fun _ => rfl
def l_X1_roundStart_9 (T : Nat) (v2 : Int) (M : aM) (k : Int → Option (Int × aM)) : Nat → Int → Option (Int × aM)
| 0, _ => none
| n + 1, v3 =>
 if v3 ≤ 0 then
 k v3 else
 if aIn (v3 - 1) then
 if 0 ≤ (v3 - 1) ∧ (v3 - 1) < 217 then
 if aIn ((v3 - 1) + v2) then
 if 0 ≤ ((v3 - 1) + v2) ∧ ((v3 - 1) + v2) < 217 then
 if (M 49 ((v3 - 1)).toNat) = (M 49 (((v3 - 1) + v2)).toNat) then
 if aIn (v3 + (-1)) then
 l_X1_roundStart_9 T v2 M k n (v3 + (-1)) else none else
 k v3 else none else none else none else none
theorem tl_X1_roundStart_9 {d : Nat} (hd : 6 ≤ d) {T : T3} {v2 : Int} {M : aM} {k : Int → Option (Int × aM)} {y : (Int × aM)}  (hS : Sh T.1 M)
    (hk : ∀ (v3 : Int) (u1 : aV), Sh T.1 M → k v3 = some y → Wp d 16 40 [] [(2, ((48 : Nat) : Int)), u1, (0, v2), (0, v3)] [] (M, T) (fun r2 σ2 => r2 = some (0, y.1) ∧ σ2 = (y.2, T) ∧ Sh T.1 y.2)) :
    ∀ (n : Nat) (v3 : Int) (u1 : aV), Sh T.1 M → l_X1_roundStart_9 T.1 v2 M k n v3 = some y → Wp d 16 9 [] [(2, ((48 : Nat) : Int)), u1, (0, v2), (0, v3)] [] (M, T) (fun r2 σ2 => r2 = some (0, y.1) ∧ σ2 = (y.2, T) ∧ Sh T.1 y.2) := by
  intro n
  induction n with
  | zero =>
    intro v3 u1 _ h
    exact nomatch (show (none : Option (Int × aM)) = some y from h)
  | succ n ih =>
    intro v3 u1 sM h
    rw [l_X1_roundStart_9] at h
    refine y_blk (t := 9) rfl (show fnd bk_X1_roundStart 9 = some _ from rfl) aB_X1_roundStart ?_
    refine wp_iload_n (v := v3) rfl ?_
    refine wp_if_le (fun c5 => ?_) (fun c5 => ?_)
    · rw [if_pos c5] at h
      exact hk v3 u1  sM h
    · rw [if_neg c5] at h
      refine wp_aload_n (v := ((48 : Nat) : Int)) rfl (Int.natCast_nonneg _) ?_
      refine y_get (show ash 48 = (1, 6) from rfl) (Nat.lt_of_lt_of_le (show 48 < 154 by decide) hS.1.1) (v := ((49 : Nat) : Int)) (sM.at 48 3 49 (by decide +kernel)) rfl ?_
      refine wp_iload_n (v := v3) rfl ?_
      refine wp_iconst ⟨by decide, by decide⟩ ?_
      obtain ⟨c6, h⟩ := d_ite h
      refine wp_isub c6 ?_
      obtain ⟨c7, h⟩ := d_ite h
      refine y_iald (show ash 49 = (100, 217) from rfl) (Or.inl (Nat.lt_of_lt_of_le (show 49 < 154 by decide) hS.1.1)) (Nat.ne_of_lt (Nat.lt_of_lt_of_le (Nat.lt_of_lt_of_le (show 49 < 154 by decide) hS.1.1) hS.1.2)) c7 (v := M 49 ((v3 - 1)).toNat) rfl ?_
      refine wp_aload_n (v := ((48 : Nat) : Int)) rfl (Int.natCast_nonneg _) ?_
      refine y_get (show ash 48 = (1, 6) from rfl) (Nat.lt_of_lt_of_le (show 48 < 154 by decide) hS.1.1) (v := ((49 : Nat) : Int)) (sM.at 48 3 49 (by decide +kernel)) rfl ?_
      refine wp_iload_n (v := v3) rfl ?_
      refine wp_iconst ⟨by decide, by decide⟩ ?_
      refine wp_isub c6 ?_
      refine wp_iload_n (v := v2) rfl ?_
      obtain ⟨c8, h⟩ := d_ite h
      refine wp_iadd c8 ?_
      obtain ⟨c9, h⟩ := d_ite h
      refine y_iald (show ash 49 = (100, 217) from rfl) (Or.inl (Nat.lt_of_lt_of_le (show 49 < 154 by decide) hS.1.1)) (Nat.ne_of_lt (Nat.lt_of_lt_of_le (Nat.lt_of_lt_of_le (show 49 < 154 by decide) hS.1.1) hS.1.2)) c9 (v := M 49 (((v3 - 1) + v2)).toNat) rfl ?_
      refine y_ne (fun c10 => ?_) (fun c10 => ?_)
      · rw [if_neg c10] at h
        exact hk v3 u1  sM h
      · rw [if_pos c10] at h
        obtain ⟨c11, h⟩ := d_ite h
        refine y_iinc (L1 := [(2, ((48 : Nat) : Int)), u1, (0, v2), (0, (v3 + (-1)))]) rfl (Nat.le_of_ble_eq_true rfl) ⟨by decide, by decide⟩ c11 rfl ?_
        refine wp_goto ?_
        exact ih (v3 + (-1)) u1  sM h
def f_X1_roundStart (T : Nat) (v1 : Int) (M : aM) : Option (Int × aM) :=
 (f_X1_roundLength T v1 M).bind fun x1 =>
 l_X1_roundStart_9 T x1.1 x1.2 (fun w12 =>
 some (w12, x1.2)) FU 72
theorem t_X1_roundStart {T : T3} {v1 : Int} {M : aM} {y : (Int × aM)}  (hS : Sh T.1 M) (h : f_X1_roundStart T.1 v1 M = some y) : Mr 6 16 [(2, ((48 : Nat) : Int)), (0, v1)] M (some (0, y.1)) y.2 T ∧ Sh T.1 y.2 := by
  have key : ∀ d, 6 ≤ d → Wp d 16 0 [] [(2, ((48 : Nat) : Int)), (0, v1), (9, 0), (9, 0)] [] (M, T) (fun r2 σ2 => r2 = some (0, y.1) ∧ σ2 = (y.2, T) ∧ Sh T.1 y.2) := by
    intro d hd
    rw [f_X1_roundStart] at h
    refine y_blk (t := 0) rfl (show fnd bk_X1_roundStart 0 = some _ from rfl) aB_X1_roundStart ?_
    refine wp_aload_n (v := ((48 : Nat) : Int)) rfl (Int.natCast_nonneg _) ?_
    refine wp_iload_n (v := v1) rfl ?_
    obtain ⟨x1, e2, h⟩ := d_bind h
    obtain ⟨r3, s4⟩ := t_X1_roundLength hS e2
    refine y_callV (as := [(0, v1)]) (S1 := []) (Nat.le_of_ble_eq_true rfl) (by omega) r3 (Nat.le_of_ble_eq_true rfl) rfl (show ash 48 = (1, 6) from rfl) (Nat.lt_of_lt_of_le (show 48 < 154 by decide) hS.1.1) (Nat.le_of_ble_eq_true rfl) (Nat.le_of_ble_eq_true rfl) rfl ?_
    refine y_stn (L1 := [(2, ((48 : Nat) : Int)), (0, v1), (0, x1.1), (9, 0)]) (Nat.le_of_ble_eq_true rfl) rfl ?_
    refine wp_bipush (by decide) ?_
    refine y_stn (L1 := [(2, ((48 : Nat) : Int)), (0, v1), (0, x1.1), (0, 72)]) (Nat.le_of_ble_eq_true rfl) rfl ?_
    refine tl_X1_roundStart_9 (by omega) s4 (fun w12 u13  s14 h => ?_) FU 72 (0, v1)  s4 h
    refine y_blk (t := 40) rfl (show fnd bk_X1_roundStart 40 = some _ from rfl) aB_X1_roundStart ?_
    refine wp_iload_n (v := w12) rfl ?_
    cases h
    exact y_ret0 (Or.inl rfl) ⟨rfl, rfl, s14⟩
  exact ⟨fun d hd => Ms.of3 (key d hd), Ms.sh (key 6 (Nat.le_refl _))⟩
theorem aB_X1_isMouth : ∀ pc, aB 19 pc = fnd bk_X1_isMouth pc := fun _ => rfl
def f_X1_isMouth (T : Nat) (v1 : Int) (M : aM) : Option Int :=
 (f_X11_hasBit T (M 2 4) v1 M).bind fun x1 =>
 if x1 = 0 ∨ x1 = 1 then
 some x1 else none
theorem t_X1_isMouth {T : T3} {v1 : Int} {M : aM} {y : Int}  (hS : Sh T.1 M) (h : f_X1_isMouth T.1 v1 M = some y) : Mr 1 19 [(2, ((48 : Nat) : Int)), (0, v1)] M (some (0, y)) M T := by
  have key : ∀ d, 1 ≤ d → Wp d 19 0 [] [(2, ((48 : Nat) : Int)), (0, v1)] [] (M, T) (fun r2 σ2 => r2 = some (0, y) ∧ σ2 = (M, T)) := by
    intro d hd
    rw [f_X1_isMouth] at h
    refine y_blk (t := 0) rfl (show fnd bk_X1_isMouth 0 = some _ from rfl) aB_X1_isMouth ?_
    refine wp_aload_n (v := ((48 : Nat) : Int)) rfl (Int.natCast_nonneg _) ?_
    refine y_get (show ash 48 = (1, 6) from rfl) (Nat.lt_of_lt_of_le (show 48 < 154 by decide) hS.1.1) (v := ((2 : Nat) : Int)) (hS.at 48 0 2 (by decide +kernel)) rfl ?_
    refine y_get (show ash 2 = (10, 19) from rfl) (Nat.lt_of_lt_of_le (show 2 < 154 by decide) hS.1.1) (v := M 2 4) rfl rfl ?_
    refine wp_iload_n (v := v1) rfl ?_
    obtain ⟨x1, e2, h⟩ := d_bind h
    refine y_callS (as := [(0, (M 2 4)), (0, v1)]) (S1 := []) (Nat.le_of_ble_eq_true rfl) (by omega) (t_X11_hasBit hS e2) (Nat.le_of_ble_eq_true rfl) rfl (Nat.le_of_ble_eq_true rfl) (Nat.le_of_ble_eq_true rfl) rfl ?_
    obtain ⟨c3, h⟩ := d_ite h
    cases h
    exact y_ret0 (Or.inr c3) ⟨rfl, rfl⟩
  exact fun d hd => Ms.of (key d hd)
theorem aB_X1_lessensCalls : ∀ pc, aB 18 pc = fnd bk_X1_lessensCalls pc := fun _ => rfl
def l_X1_lessensCalls_5 (T : Nat) (v1 : Int) (v2 : Int) (k : Int → Int → aM → Option (Int × aM)) : Nat → Int → Int → aM → Option (Int × aM)
| 0, _, _, _ => none
| n + 1, v3, v4, M =>
 if (M 3 1) ≤ v4 then
 k v3 v4 M else
 (f_X1_isMouth T v4 M).bind fun x2 =>
 if x2 = 0 then
 if aIn (v4 + 1) then
 l_X1_lessensCalls_5 T v1 v2 k n v3 (v4 + 1) M else none else
 (f_X1_callStep T v1 v2 v4 M).bind fun x6 =>
 if 0 ≤ x6 ∧ x6 < 8 then
 if aIn ((M 51 (x6).toNat) + 1) then
 if 0 ≤ v2 ∧ v2 < 8 then
 if (M 51 (v2).toNat) ≤ ((M 51 (x6).toNat) + 1) then
 if aIn (v4 + 1) then
 l_X1_lessensCalls_5 T v1 v2 k n v3 (v4 + 1) M else none else
 (some (aup M 51 (v2).toNat ((M 51 (x6).toNat) + 1))).bind fun m13 =>
 if aIn (v4 + 1) then
 l_X1_lessensCalls_5 T v1 v2 k n 1 (v4 + 1) m13 else none else none else none else none
theorem tl_X1_lessensCalls_5 {d : Nat} (hd : 3 ≤ d) {T : T3} {v1 : Int} {v2 : Int} {k : Int → Int → aM → Option (Int × aM)} {y : (Int × aM)}  {M0 : aM} (hS : Sh T.1 M0)
    (hk : ∀ (v3 v4 : Int) (u5 : aV) (M : aM), Sh T.1 M → k v3 v4 M = some y → Wp d 18 72 [] [(2, ((48 : Nat) : Int)), (0, v1), (0, v2), (0, v3), (0, v4), u5] [] (M, T) (fun r2 σ2 => r2 = some (0, y.1) ∧ σ2 = (y.2, T) ∧ Sh T.1 y.2)) :
    ∀ (n : Nat) (v3 v4 : Int) (u5 : aV) (M : aM), Sh T.1 M → l_X1_lessensCalls_5 T.1 v1 v2 k n v3 v4 M = some y → Wp d 18 5 [] [(2, ((48 : Nat) : Int)), (0, v1), (0, v2), (0, v3), (0, v4), u5] [] (M, T) (fun r2 σ2 => r2 = some (0, y.1) ∧ σ2 = (y.2, T) ∧ Sh T.1 y.2) := by
  intro n
  induction n with
  | zero =>
    intro v3 v4 u5 M _ h
    exact nomatch (show (none : Option (Int × aM)) = some y from h)
  | succ n ih =>
    intro v3 v4 u5 M sM h
    rw [l_X1_lessensCalls_5] at h
    refine y_blk (t := 5) rfl (show fnd bk_X1_lessensCalls 5 = some _ from rfl) aB_X1_lessensCalls ?_
    refine wp_iload (v := v4) rfl ?_
    refine wp_aload_n (v := ((48 : Nat) : Int)) rfl (Int.natCast_nonneg _) ?_
    refine y_get (show ash 48 = (1, 6) from rfl) (Nat.lt_of_lt_of_le (show 48 < 154 by decide) hS.1.1) (v := ((2 : Nat) : Int)) (sM.at 48 0 2 (by decide +kernel)) rfl ?_
    refine y_get (show ash 2 = (10, 19) from rfl) (Nat.lt_of_lt_of_le (show 2 < 154 by decide) hS.1.1) (v := ((3 : Nat) : Int)) (sM.at 2 3 3 (by decide +kernel)) rfl ?_
    refine wp_iconst ⟨by decide, by decide⟩ ?_
    refine y_iald (show ash 3 = (100, 8) from rfl) (Or.inl (Nat.lt_of_lt_of_le (show 3 < 154 by decide) hS.1.1)) (Nat.ne_of_lt (Nat.lt_of_lt_of_le (Nat.lt_of_lt_of_le (show 3 < 154 by decide) hS.1.1) hS.1.2)) ⟨by decide, by decide⟩ (v := M 3 1) rfl ?_
    refine wp_icmp_ge (fun c1 => ?_) (fun c1 => ?_)
    · rw [if_pos c1] at h
      exact hk v3 v4 u5 M sM h
    · rw [if_neg c1] at h
      refine wp_aload_n (v := ((48 : Nat) : Int)) rfl (Int.natCast_nonneg _) ?_
      refine wp_iload (v := v4) rfl ?_
      obtain ⟨x2, e3, h⟩ := d_bind h
      refine y_callV (as := [(0, v4)]) (S1 := []) (Nat.le_of_ble_eq_true rfl) (by omega) (t_X1_isMouth sM e3) (Nat.le_of_ble_eq_true rfl) rfl (show ash 48 = (1, 6) from rfl) (Nat.lt_of_lt_of_le (show 48 < 154 by decide) hS.1.1) (Nat.le_of_ble_eq_true rfl) (Nat.le_of_ble_eq_true rfl) rfl ?_
      refine wp_if_eq (fun c4 => ?_) (fun c4 => ?_)
      · rw [if_pos c4] at h
        refine y_blk (t := 66) rfl (show fnd bk_X1_lessensCalls 66 = some _ from rfl) aB_X1_lessensCalls ?_
        obtain ⟨c5, h⟩ := d_ite h
        refine y_iinc (L1 := [(2, ((48 : Nat) : Int)), (0, v1), (0, v2), (0, v3), (0, (v4 + 1)), u5]) rfl (Nat.le_of_ble_eq_true rfl) ⟨by decide, by decide⟩ c5 rfl ?_
        refine wp_goto ?_
        exact ih v3 (v4 + 1) u5 M sM h
      · rw [if_neg c4] at h
        refine wp_aload_n (v := ((48 : Nat) : Int)) rfl (Int.natCast_nonneg _) ?_
        refine y_get (show ash 48 = (1, 6) from rfl) (Nat.lt_of_lt_of_le (show 48 < 154 by decide) hS.1.1) (v := ((51 : Nat) : Int)) (sM.at 48 5 51 (by decide +kernel)) rfl ?_
        refine wp_aload_n (v := ((48 : Nat) : Int)) rfl (Int.natCast_nonneg _) ?_
        refine wp_iload_n (v := v1) rfl ?_
        refine wp_iload_n (v := v2) rfl ?_
        refine wp_iload (v := v4) rfl ?_
        obtain ⟨x6, e7, h⟩ := d_bind h
        refine y_callV (as := [(0, v1), (0, v2), (0, v4)]) (S1 := [(2, ((51 : Nat) : Int))]) (Nat.le_of_ble_eq_true rfl) (by omega) (t_X1_callStep sM e7) (Nat.le_of_ble_eq_true rfl) rfl (show ash 48 = (1, 6) from rfl) (Nat.lt_of_lt_of_le (show 48 < 154 by decide) hS.1.1) (Nat.le_of_ble_eq_true rfl) (Nat.le_of_ble_eq_true rfl) rfl ?_
        obtain ⟨c8, h⟩ := d_ite h
        refine y_iald (show ash 51 = (100, 8) from rfl) (Or.inl (Nat.lt_of_lt_of_le (show 51 < 154 by decide) hS.1.1)) (Nat.ne_of_lt (Nat.lt_of_lt_of_le (Nat.lt_of_lt_of_le (show 51 < 154 by decide) hS.1.1) hS.1.2)) c8 (v := M 51 (x6).toNat) rfl ?_
        refine wp_iconst ⟨by decide, by decide⟩ ?_
        obtain ⟨c9, h⟩ := d_ite h
        refine wp_iadd c9 ?_
        refine y_st (L1 := [(2, ((48 : Nat) : Int)), (0, v1), (0, v2), (0, v3), (0, v4), (0, ((M 51 (x6).toNat) + 1))]) (Nat.le_of_ble_eq_true rfl) rfl ?_
        refine wp_iload (v := ((M 51 (x6).toNat) + 1)) rfl ?_
        refine wp_aload_n (v := ((48 : Nat) : Int)) rfl (Int.natCast_nonneg _) ?_
        refine y_get (show ash 48 = (1, 6) from rfl) (Nat.lt_of_lt_of_le (show 48 < 154 by decide) hS.1.1) (v := ((51 : Nat) : Int)) (sM.at 48 5 51 (by decide +kernel)) rfl ?_
        refine wp_iload_n (v := v2) rfl ?_
        obtain ⟨c10, h⟩ := d_ite h
        refine y_iald (show ash 51 = (100, 8) from rfl) (Or.inl (Nat.lt_of_lt_of_le (show 51 < 154 by decide) hS.1.1)) (Nat.ne_of_lt (Nat.lt_of_lt_of_le (Nat.lt_of_lt_of_le (show 51 < 154 by decide) hS.1.1) hS.1.2)) c10 (v := M 51 (v2).toNat) rfl ?_
        refine wp_icmp_ge (fun c11 => ?_) (fun c11 => ?_)
        · rw [if_pos c11] at h
          refine y_blk (t := 66) rfl (show fnd bk_X1_lessensCalls 66 = some _ from rfl) aB_X1_lessensCalls ?_
          obtain ⟨c12, h⟩ := d_ite h
          refine y_iinc (L1 := [(2, ((48 : Nat) : Int)), (0, v1), (0, v2), (0, v3), (0, (v4 + 1)), (0, ((M 51 (x6).toNat) + 1))]) rfl (Nat.le_of_ble_eq_true rfl) ⟨by decide, by decide⟩ c12 rfl ?_
          refine wp_goto ?_
          exact ih v3 (v4 + 1) (0, ((M 51 (x6).toNat) + 1)) M sM h
        · rw [if_neg c11] at h
          refine wp_aload_n (v := ((48 : Nat) : Int)) rfl (Int.natCast_nonneg _) ?_
          refine y_get (show ash 48 = (1, 6) from rfl) (Nat.lt_of_lt_of_le (show 48 < 154 by decide) hS.1.1) (v := ((51 : Nat) : Int)) (sM.at 48 5 51 (by decide +kernel)) rfl ?_
          refine wp_iload_n (v := v2) rfl ?_
          refine wp_iload (v := ((M 51 (x6).toNat) + 1)) rfl ?_
          refine y_iast (show ash 51 = (100, 8) from rfl) (Nat.lt_of_lt_of_le (show 51 < 154 by decide) hS.1.1) c10 ?_
          obtain ⟨m13, em13, h⟩ := d_bind h
          have em13 := Option.some.inj em13
          have s14 : Sh T.1 m13 := em13 ▸ sM.up (Or.inl ⟨by rw [(show ash 51 = (100, 8) from rfl)]; exact Nat.le_of_ble_eq_true rfl, by rw [(show ash 51 = (100, 8) from rfl)]; exact Nat.le_of_ble_eq_true rfl⟩) (by have := (Nat.lt_of_lt_of_le (show 51 < 154 by decide) hS.1.1); have := hS.1.2; omega)
          rw [em13]
          refine wp_iconst ⟨by decide, by decide⟩ ?_
          refine y_stn (L1 := [(2, ((48 : Nat) : Int)), (0, v1), (0, v2), (0, 1), (0, v4), (0, ((M 51 (x6).toNat) + 1))]) (Nat.le_of_ble_eq_true rfl) rfl ?_
          refine y_blk (t := 66) rfl (show fnd bk_X1_lessensCalls 66 = some _ from rfl) aB_X1_lessensCalls ?_
          obtain ⟨c15, h⟩ := d_ite h
          refine y_iinc (L1 := [(2, ((48 : Nat) : Int)), (0, v1), (0, v2), (0, 1), (0, (v4 + 1)), (0, ((M 51 (x6).toNat) + 1))]) rfl (Nat.le_of_ble_eq_true rfl) ⟨by decide, by decide⟩ c15 rfl ?_
          refine wp_goto ?_
          exact ih 1 (v4 + 1) (0, ((M 51 (x6).toNat) + 1)) m13 s14 h
def f_X1_lessensCalls (T : Nat) (v1 : Int) (v2 : Int) (M : aM) : Option (Int × aM) :=
 l_X1_lessensCalls_5 T v1 v2 (fun w16 w17 m19 =>
 if w16 = 0 ∨ w16 = 1 then
 some (w16, m19) else none) FU 0 0 M
theorem t_X1_lessensCalls {T : T3} {v1 : Int} {v2 : Int} {M : aM} {y : (Int × aM)}  (hS : Sh T.1 M) (h : f_X1_lessensCalls T.1 v1 v2 M = some y) : Mr 3 18 [(2, ((48 : Nat) : Int)), (0, v1), (0, v2)] M (some (0, y.1)) y.2 T ∧ Sh T.1 y.2 := by
  have key : ∀ d, 3 ≤ d → Wp d 18 0 [] [(2, ((48 : Nat) : Int)), (0, v1), (0, v2), (9, 0), (9, 0), (9, 0)] [] (M, T) (fun r2 σ2 => r2 = some (0, y.1) ∧ σ2 = (y.2, T) ∧ Sh T.1 y.2) := by
    intro d hd
    rw [f_X1_lessensCalls] at h
    refine y_blk (t := 0) rfl (show fnd bk_X1_lessensCalls 0 = some _ from rfl) aB_X1_lessensCalls ?_
    refine wp_iconst ⟨by decide, by decide⟩ ?_
    refine y_stn (L1 := [(2, ((48 : Nat) : Int)), (0, v1), (0, v2), (0, 0), (9, 0), (9, 0)]) (Nat.le_of_ble_eq_true rfl) rfl ?_
    refine wp_iconst ⟨by decide, by decide⟩ ?_
    refine y_st (L1 := [(2, ((48 : Nat) : Int)), (0, v1), (0, v2), (0, 0), (0, 0), (9, 0)]) (Nat.le_of_ble_eq_true rfl) rfl ?_
    refine tl_X1_lessensCalls_5 (by omega) hS (fun w16 w17 u18 m19 s20 h => ?_) FU 0 0 (9, 0) M hS h
    refine y_blk (t := 72) rfl (show fnd bk_X1_lessensCalls 72 = some _ from rfl) aB_X1_lessensCalls ?_
    refine wp_iload_n (v := w16) rfl ?_
    obtain ⟨c21, h⟩ := d_ite h
    cases h
    exact y_ret0 (Or.inr c21) ⟨rfl, rfl, s20⟩
  exact ⟨fun d hd => Ms.of3 (key d hd), Ms.sh (key 3 (Nat.le_refl _))⟩

/-! ===== methods as functions ===== -/
theorem aB_X13_flees : ∀ pc, aB 248 pc = fnd bk_X13_flees pc := fun _ => rfl
def l_X13_flees_5 (T : Nat) (v1 : Int) (v2 : Int) (M : aM) (k : Int → Int → Option Int) : Nat → Int → Int → Option Int
| 0, _, _ => none
| n + 1, v3, v4 =>
 if okW T (M 138 3) then
 if (M (M 138 3).toNat 3) ≤ v4 then
 k v3 v4 else
 if 0 ≤ v1 ∧ v1 < 8 then
 (f_X13_bit T (M 145 (v1).toNat) v4 M).bind fun x4 =>
 if x4 = 0 then
 if aIn (v4 + 1) then
 l_X13_flees_5 T v1 v2 M k n v3 (v4 + 1) else none else
 if v2 = 0 then
 (f_X13_nearest T v4 M).bind fun x9 =>
 (f_X13_nearest T v3 M).bind fun x11 =>
 if x11 ≤ x9 then
 if aIn (v4 + 1) then
 l_X13_flees_5 T v1 v2 M k n v3 (v4 + 1) else none else
 if aIn (v4 + 1) then
 l_X13_flees_5 T v1 v2 M k n v4 (v4 + 1) else none else
 (f_X13_nearest T v4 M).bind fun x16 =>
 (f_X13_nearest T v3 M).bind fun x18 =>
 if x16 ≤ x18 then
 if aIn (v4 + 1) then
 l_X13_flees_5 T v1 v2 M k n v3 (v4 + 1) else none else
 if aIn (v4 + 1) then
 l_X13_flees_5 T v1 v2 M k n v4 (v4 + 1) else none else none else none
theorem tl_X13_flees_5 {d : Nat} (hd : 2 ≤ d) {T : T3} {v1 : Int} {v2 : Int} {M : aM} {k : Int → Int → Option Int} {y : Int}  (hS : Sh T.1 M)
    (hk : ∀ (v3 v4 : Int), Sh T.1 M → k v3 v4 = some y → Wp d 248 75 [] [(2, ((138 : Nat) : Int)), (0, v1), (0, v2), (0, v3), (0, v4)] [] (M, T) (fun r2 σ2 => r2 = some (0, y) ∧ σ2 = (M, T))) :
    ∀ (n : Nat) (v3 v4 : Int), Sh T.1 M → l_X13_flees_5 T.1 v1 v2 M k n v3 v4 = some y → Wp d 248 5 [] [(2, ((138 : Nat) : Int)), (0, v1), (0, v2), (0, v3), (0, v4)] [] (M, T) (fun r2 σ2 => r2 = some (0, y) ∧ σ2 = (M, T)) := by
  intro n
  induction n with
  | zero =>
    intro v3 v4 _ h
    exact nomatch (show (none : Option Int) = some y from h)
  | succ n ih =>
    intro v3 v4 sM h
    rw [l_X13_flees_5] at h
    refine y_blk (t := 5) rfl (show fnd bk_X13_flees 5 = some _ from rfl) aB_X13_flees ?_
    refine wp_iload (v := v4) rfl ?_
    refine wp_aload_n (v := ((138 : Nat) : Int)) rfl (Int.natCast_nonneg _) ?_
    obtain ⟨c1, h⟩ := d_ite h
    refine y_get (show ash 138 = (13, 38) from rfl) (Nat.lt_of_lt_of_le (show 138 < 154 by decide) hS.1.1) (v := (((M 138 3).toNat : Nat) : Int)) c1.eq rfl ?_
    refine y_get (aW0 hS.1.2 c1.is) (ltW c1.is 0 (by decide)) (v := M (M 138 3).toNat 3) rfl rfl ?_
    refine wp_icmp_ge (fun c2 => ?_) (fun c2 => ?_)
    · rw [if_pos c2] at h
      exact hk v3 v4   sM h
    · rw [if_neg c2] at h
      refine wp_aload_n (v := ((138 : Nat) : Int)) rfl (Int.natCast_nonneg _) ?_
      refine y_get (show ash 138 = (13, 38) from rfl) (Nat.lt_of_lt_of_le (show 138 < 154 by decide) hS.1.1) (v := ((145 : Nat) : Int)) (sM.at 138 23 145 (by decide +kernel)) rfl ?_
      refine wp_iload_n (v := v1) rfl ?_
      obtain ⟨c3, h⟩ := d_ite h
      refine y_iald (show ash 145 = (100, 8) from rfl) (Or.inl (Nat.lt_of_lt_of_le (show 145 < 154 by decide) hS.1.1)) (Nat.ne_of_lt (Nat.lt_of_lt_of_le (Nat.lt_of_lt_of_le (show 145 < 154 by decide) hS.1.1) hS.1.2)) c3 (v := M 145 (v1).toNat) rfl ?_
      refine wp_iload (v := v4) rfl ?_
      obtain ⟨x4, e5, h⟩ := d_bind h
      refine y_callS (as := [(0, (M 145 (v1).toNat)), (0, v4)]) (S1 := []) (Nat.le_of_ble_eq_true rfl) (by omega) (t_X13_bit sM e5) (Nat.le_of_ble_eq_true rfl) rfl (Nat.le_of_ble_eq_true rfl) (Nat.le_of_ble_eq_true rfl) rfl ?_
      refine wp_if_eq (fun c6 => ?_) (fun c6 => ?_)
      · rw [if_pos c6] at h
        refine y_blk (t := 69) rfl (show fnd bk_X13_flees 69 = some _ from rfl) aB_X13_flees ?_
        obtain ⟨c7, h⟩ := d_ite h
        refine y_iinc (L1 := [(2, ((138 : Nat) : Int)), (0, v1), (0, v2), (0, v3), (0, (v4 + 1))]) rfl (Nat.le_of_ble_eq_true rfl) ⟨by decide, by decide⟩ c7 rfl ?_
        refine wp_goto ?_
        exact ih v3 (v4 + 1)   sM h
      · rw [if_neg c6] at h
        refine wp_iload_n (v := v2) rfl ?_
        refine wp_if_eq (fun c8 => ?_) (fun c8 => ?_)
        · rw [if_pos c8] at h
          refine y_blk (t := 52) rfl (show fnd bk_X13_flees 52 = some _ from rfl) aB_X13_flees ?_
          refine wp_aload_n (v := ((138 : Nat) : Int)) rfl (Int.natCast_nonneg _) ?_
          refine wp_iload (v := v4) rfl ?_
          obtain ⟨x9, e10, h⟩ := d_bind h
          refine y_callV (as := [(0, v4)]) (S1 := []) (Nat.le_of_ble_eq_true rfl) (by omega) (t_X13_nearest sM e10) (Nat.le_of_ble_eq_true rfl) rfl (show ash 138 = (13, 38) from rfl) (Nat.lt_of_lt_of_le (show 138 < 154 by decide) hS.1.1) (Nat.le_of_ble_eq_true rfl) (Nat.le_of_ble_eq_true rfl) rfl ?_
          refine wp_aload_n (v := ((138 : Nat) : Int)) rfl (Int.natCast_nonneg _) ?_
          refine wp_iload_n (v := v3) rfl ?_
          obtain ⟨x11, e12, h⟩ := d_bind h
          refine y_callV (as := [(0, v3)]) (S1 := [(0, x9)]) (Nat.le_of_ble_eq_true rfl) (by omega) (t_X13_nearest sM e12) (Nat.le_of_ble_eq_true rfl) rfl (show ash 138 = (13, 38) from rfl) (Nat.lt_of_lt_of_le (show 138 < 154 by decide) hS.1.1) (Nat.le_of_ble_eq_true rfl) (Nat.le_of_ble_eq_true rfl) rfl ?_
          refine wp_icmp_ge (fun c13 => ?_) (fun c13 => ?_)
          · rw [if_pos c13] at h
            refine y_blk (t := 69) rfl (show fnd bk_X13_flees 69 = some _ from rfl) aB_X13_flees ?_
            obtain ⟨c14, h⟩ := d_ite h
            refine y_iinc (L1 := [(2, ((138 : Nat) : Int)), (0, v1), (0, v2), (0, v3), (0, (v4 + 1))]) rfl (Nat.le_of_ble_eq_true rfl) ⟨by decide, by decide⟩ c14 rfl ?_
            refine wp_goto ?_
            exact ih v3 (v4 + 1)   sM h
          · rw [if_neg c13] at h
            refine y_blk (t := 66) rfl (show fnd bk_X13_flees 66 = some _ from rfl) aB_X13_flees ?_
            refine wp_iload (v := v4) rfl ?_
            refine y_stn (L1 := [(2, ((138 : Nat) : Int)), (0, v1), (0, v2), (0, v4), (0, v4)]) (Nat.le_of_ble_eq_true rfl) rfl ?_
            refine y_blk (t := 69) rfl (show fnd bk_X13_flees 69 = some _ from rfl) aB_X13_flees ?_
            obtain ⟨c15, h⟩ := d_ite h
            refine y_iinc (L1 := [(2, ((138 : Nat) : Int)), (0, v1), (0, v2), (0, v4), (0, (v4 + 1))]) rfl (Nat.le_of_ble_eq_true rfl) ⟨by decide, by decide⟩ c15 rfl ?_
            refine wp_goto ?_
            exact ih v4 (v4 + 1)   sM h
        · rw [if_neg c8] at h
          refine wp_aload_n (v := ((138 : Nat) : Int)) rfl (Int.natCast_nonneg _) ?_
          refine wp_iload (v := v4) rfl ?_
          obtain ⟨x16, e17, h⟩ := d_bind h
          refine y_callV (as := [(0, v4)]) (S1 := []) (Nat.le_of_ble_eq_true rfl) (by omega) (t_X13_nearest sM e17) (Nat.le_of_ble_eq_true rfl) rfl (show ash 138 = (13, 38) from rfl) (Nat.lt_of_lt_of_le (show 138 < 154 by decide) hS.1.1) (Nat.le_of_ble_eq_true rfl) (Nat.le_of_ble_eq_true rfl) rfl ?_
          refine wp_aload_n (v := ((138 : Nat) : Int)) rfl (Int.natCast_nonneg _) ?_
          refine wp_iload_n (v := v3) rfl ?_
          obtain ⟨x18, e19, h⟩ := d_bind h
          refine y_callV (as := [(0, v3)]) (S1 := [(0, x16)]) (Nat.le_of_ble_eq_true rfl) (by omega) (t_X13_nearest sM e19) (Nat.le_of_ble_eq_true rfl) rfl (show ash 138 = (13, 38) from rfl) (Nat.lt_of_lt_of_le (show 138 < 154 by decide) hS.1.1) (Nat.le_of_ble_eq_true rfl) (Nat.le_of_ble_eq_true rfl) rfl ?_
          refine wp_icmp_le (fun c20 => ?_) (fun c20 => ?_)
          · rw [if_pos c20] at h
            refine y_blk (t := 69) rfl (show fnd bk_X13_flees 69 = some _ from rfl) aB_X13_flees ?_
            obtain ⟨c21, h⟩ := d_ite h
            refine y_iinc (L1 := [(2, ((138 : Nat) : Int)), (0, v1), (0, v2), (0, v3), (0, (v4 + 1))]) rfl (Nat.le_of_ble_eq_true rfl) ⟨by decide, by decide⟩ c21 rfl ?_
            refine wp_goto ?_
            exact ih v3 (v4 + 1)   sM h
          · rw [if_neg c20] at h
            refine wp_goto ?_
            refine y_blk (t := 66) rfl (show fnd bk_X13_flees 66 = some _ from rfl) aB_X13_flees ?_
            refine wp_iload (v := v4) rfl ?_
            refine y_stn (L1 := [(2, ((138 : Nat) : Int)), (0, v1), (0, v2), (0, v4), (0, v4)]) (Nat.le_of_ble_eq_true rfl) rfl ?_
            refine y_blk (t := 69) rfl (show fnd bk_X13_flees 69 = some _ from rfl) aB_X13_flees ?_
            obtain ⟨c22, h⟩ := d_ite h
            refine y_iinc (L1 := [(2, ((138 : Nat) : Int)), (0, v1), (0, v2), (0, v4), (0, (v4 + 1))]) rfl (Nat.le_of_ble_eq_true rfl) ⟨by decide, by decide⟩ c22 rfl ?_
            refine wp_goto ?_
            exact ih v4 (v4 + 1)   sM h
def f_X13_flees (T : Nat) (v1 : Int) (v2 : Int) (M : aM) : Option Int :=
 l_X13_flees_5 T v1 v2 M (fun w23 w24 =>
 some w23) FU v1 0
theorem t_X13_flees {T : T3} {v1 : Int} {v2 : Int} {M : aM} {y : Int}  (hS : Sh T.1 M) (h : f_X13_flees T.1 v1 v2 M = some y) : Mr 2 248 [(2, ((138 : Nat) : Int)), (0, v1), (0, v2)] M (some (0, y)) M T := by
  have key : ∀ d, 2 ≤ d → Wp d 248 0 [] [(2, ((138 : Nat) : Int)), (0, v1), (0, v2), (9, 0), (9, 0)] [] (M, T) (fun r2 σ2 => r2 = some (0, y) ∧ σ2 = (M, T)) := by
    intro d hd
    rw [f_X13_flees] at h
    refine y_blk (t := 0) rfl (show fnd bk_X13_flees 0 = some _ from rfl) aB_X13_flees ?_
    refine wp_iload_n (v := v1) rfl ?_
    refine y_stn (L1 := [(2, ((138 : Nat) : Int)), (0, v1), (0, v2), (0, v1), (9, 0)]) (Nat.le_of_ble_eq_true rfl) rfl ?_
    refine wp_iconst ⟨by decide, by decide⟩ ?_
    refine y_st (L1 := [(2, ((138 : Nat) : Int)), (0, v1), (0, v2), (0, v1), (0, 0)]) (Nat.le_of_ble_eq_true rfl) rfl ?_
    refine tl_X13_flees_5 (by omega) hS (fun w23 w24   s25 h => ?_) FU v1 0   hS h
    refine y_blk (t := 75) rfl (show fnd bk_X13_flees 75 = some _ from rfl) aB_X13_flees ?_
    refine wp_iload_n (v := w23) rfl ?_
    cases h
    exact y_ret0 (Or.inl rfl) ⟨rfl, rfl⟩
  exact fun d hd => Ms.of (key d hd)
theorem aB_X13_roves : ∀ pc, aB 249 pc = fnd bk_X13_roves pc := fun _ => rfl
def l_X13_roves_2 (T : Nat) (v1 : Int) (v2 : Int) (M : aM) (k : Int → Option Int) : Nat → Int → Option Int
| 0, _ => none
| n + 1, v3 =>
 if okW T (M 138 3) then
 if (M (M 138 3).toNat 3) ≤ v3 then
 k v3 else
 if 0 ≤ v1 ∧ v1 < 8 then
 (f_X13_bit T (M 145 (v1).toNat) v3 M).bind fun x4 =>
 if x4 = 0 then
 if aIn (v3 + 1) then
 l_X13_roves_2 T v1 v2 M k n (v3 + 1) else none else
 if v3 = v2 then
 if aIn (v3 + 1) then
 l_X13_roves_2 T v1 v2 M k n (v3 + 1) else none else
 some v3 else none else none
theorem tl_X13_roves_2 {d : Nat} (hd : 1 ≤ d) {T : T3} {v1 : Int} {v2 : Int} {M : aM} {k : Int → Option Int} {y : Int}  (hS : Sh T.1 M)
    (hk : ∀ (v3 : Int), Sh T.1 M → k v3 = some y → Wp d 249 39 [] [(2, ((138 : Nat) : Int)), (0, v1), (0, v2), (0, v3)] [] (M, T) (fun r2 σ2 => r2 = some (0, y) ∧ σ2 = (M, T))) :
    ∀ (n : Nat) (v3 : Int), Sh T.1 M → l_X13_roves_2 T.1 v1 v2 M k n v3 = some y → Wp d 249 2 [] [(2, ((138 : Nat) : Int)), (0, v1), (0, v2), (0, v3)] [] (M, T) (fun r2 σ2 => r2 = some (0, y) ∧ σ2 = (M, T)) := by
  intro n
  induction n with
  | zero =>
    intro v3 _ h
    exact nomatch (show (none : Option Int) = some y from h)
  | succ n ih =>
    intro v3 sM h
    rw [l_X13_roves_2] at h
    refine y_blk (t := 2) rfl (show fnd bk_X13_roves 2 = some _ from rfl) aB_X13_roves ?_
    refine wp_iload_n (v := v3) rfl ?_
    refine wp_aload_n (v := ((138 : Nat) : Int)) rfl (Int.natCast_nonneg _) ?_
    obtain ⟨c1, h⟩ := d_ite h
    refine y_get (show ash 138 = (13, 38) from rfl) (Nat.lt_of_lt_of_le (show 138 < 154 by decide) hS.1.1) (v := (((M 138 3).toNat : Nat) : Int)) c1.eq rfl ?_
    refine y_get (aW0 hS.1.2 c1.is) (ltW c1.is 0 (by decide)) (v := M (M 138 3).toNat 3) rfl rfl ?_
    refine wp_icmp_ge (fun c2 => ?_) (fun c2 => ?_)
    · rw [if_pos c2] at h
      exact hk v3   sM h
    · rw [if_neg c2] at h
      refine wp_aload_n (v := ((138 : Nat) : Int)) rfl (Int.natCast_nonneg _) ?_
      refine y_get (show ash 138 = (13, 38) from rfl) (Nat.lt_of_lt_of_le (show 138 < 154 by decide) hS.1.1) (v := ((145 : Nat) : Int)) (sM.at 138 23 145 (by decide +kernel)) rfl ?_
      refine wp_iload_n (v := v1) rfl ?_
      obtain ⟨c3, h⟩ := d_ite h
      refine y_iald (show ash 145 = (100, 8) from rfl) (Or.inl (Nat.lt_of_lt_of_le (show 145 < 154 by decide) hS.1.1)) (Nat.ne_of_lt (Nat.lt_of_lt_of_le (Nat.lt_of_lt_of_le (show 145 < 154 by decide) hS.1.1) hS.1.2)) c3 (v := M 145 (v1).toNat) rfl ?_
      refine wp_iload_n (v := v3) rfl ?_
      obtain ⟨x4, e5, h⟩ := d_bind h
      refine y_callS (as := [(0, (M 145 (v1).toNat)), (0, v3)]) (S1 := []) (Nat.le_of_ble_eq_true rfl) (by omega) (t_X13_bit sM e5) (Nat.le_of_ble_eq_true rfl) rfl (Nat.le_of_ble_eq_true rfl) (Nat.le_of_ble_eq_true rfl) rfl ?_
      refine wp_if_eq (fun c6 => ?_) (fun c6 => ?_)
      · rw [if_pos c6] at h
        refine y_blk (t := 33) rfl (show fnd bk_X13_roves 33 = some _ from rfl) aB_X13_roves ?_
        obtain ⟨c7, h⟩ := d_ite h
        refine y_iinc (L1 := [(2, ((138 : Nat) : Int)), (0, v1), (0, v2), (0, (v3 + 1))]) rfl (Nat.le_of_ble_eq_true rfl) ⟨by decide, by decide⟩ c7 rfl ?_
        refine wp_goto ?_
        exact ih (v3 + 1)   sM h
      · rw [if_neg c6] at h
        refine wp_iload_n (v := v3) rfl ?_
        refine wp_iload_n (v := v2) rfl ?_
        refine wp_icmp_eq (fun c8 => ?_) (fun c8 => ?_)
        · rw [if_pos c8] at h
          refine y_blk (t := 33) rfl (show fnd bk_X13_roves 33 = some _ from rfl) aB_X13_roves ?_
          obtain ⟨c9, h⟩ := d_ite h
          refine y_iinc (L1 := [(2, ((138 : Nat) : Int)), (0, v1), (0, v2), (0, (v3 + 1))]) rfl (Nat.le_of_ble_eq_true rfl) ⟨by decide, by decide⟩ c9 rfl ?_
          refine wp_goto ?_
          exact ih (v3 + 1)   sM h
        · rw [if_neg c8] at h
          refine wp_iload_n (v := v3) rfl ?_
          cases h
          exact y_ret0 (Or.inl rfl) ⟨rfl, rfl⟩
def f_X13_roves (T : Nat) (v1 : Int) (v2 : Int) (M : aM) : Option Int :=
 l_X13_roves_2 T v1 v2 M (fun w10 =>
 if 0 ≤ v1 ∧ v1 < 8 then
 if (M 145 (v1).toNat) = 0 then
 some v1 else
 some v2 else none) FU 0
theorem t_X13_roves {T : T3} {v1 : Int} {v2 : Int} {M : aM} {y : Int}  (hS : Sh T.1 M) (h : f_X13_roves T.1 v1 v2 M = some y) : Mr 1 249 [(2, ((138 : Nat) : Int)), (0, v1), (0, v2)] M (some (0, y)) M T := by
  have key : ∀ d, 1 ≤ d → Wp d 249 0 [] [(2, ((138 : Nat) : Int)), (0, v1), (0, v2), (9, 0)] [] (M, T) (fun r2 σ2 => r2 = some (0, y) ∧ σ2 = (M, T)) := by
    intro d hd
    rw [f_X13_roves] at h
    refine y_blk (t := 0) rfl (show fnd bk_X13_roves 0 = some _ from rfl) aB_X13_roves ?_
    refine wp_iconst ⟨by decide, by decide⟩ ?_
    refine y_stn (L1 := [(2, ((138 : Nat) : Int)), (0, v1), (0, v2), (0, 0)]) (Nat.le_of_ble_eq_true rfl) rfl ?_
    refine tl_X13_roves_2 (by omega) hS (fun w10   s11 h => ?_) FU 0   hS h
    refine y_blk (t := 39) rfl (show fnd bk_X13_roves 39 = some _ from rfl) aB_X13_roves ?_
    refine wp_aload_n (v := ((138 : Nat) : Int)) rfl (Int.natCast_nonneg _) ?_
    refine y_get (show ash 138 = (13, 38) from rfl) (Nat.lt_of_lt_of_le (show 138 < 154 by decide) hS.1.1) (v := ((145 : Nat) : Int)) (s11.at 138 23 145 (by decide +kernel)) rfl ?_
    refine wp_iload_n (v := v1) rfl ?_
    obtain ⟨c12, h⟩ := d_ite h
    refine y_iald (show ash 145 = (100, 8) from rfl) (Or.inl (Nat.lt_of_lt_of_le (show 145 < 154 by decide) hS.1.1)) (Nat.ne_of_lt (Nat.lt_of_lt_of_le (Nat.lt_of_lt_of_le (show 145 < 154 by decide) hS.1.1) hS.1.2)) c12 (v := M 145 (v1).toNat) rfl ?_
    refine y_nez (fun c13 => ?_) (fun c13 => ?_)
    · rw [if_neg c13] at h
      refine y_blk (t := 52) rfl (show fnd bk_X13_roves 52 = some _ from rfl) aB_X13_roves ?_
      refine wp_iload_n (v := v2) rfl ?_
      refine y_blk (t := 53) rfl (show fnd bk_X13_roves 53 = some _ from rfl) aB_X13_roves ?_
      cases h
      exact y_ret0 (Or.inl rfl) ⟨rfl, rfl⟩
    · rw [if_pos c13] at h
      refine wp_iload_n (v := v1) rfl ?_
      refine wp_goto ?_
      refine y_blk (t := 53) rfl (show fnd bk_X13_roves 53 = some _ from rfl) aB_X13_roves ?_
      cases h
      exact y_ret0 (Or.inl rfl) ⟨rfl, rfl⟩
  exact fun d hd => Ms.of (key d hd)
theorem aB_X13_goesTo : ∀ pc, aB 250 pc = fnd bk_X13_goesTo pc := fun _ => rfl
def f_X13_goesTo (T : Nat) (v1 : Int) (M : aM) : Option Int :=
 if okW T (M 138 3) then
 if 0 ≤ v1 ∧ v1 < 3 then
 if (M ((M 138 3).toNat + 4) (v1).toNat) = 0 then
 if 0 ≤ v1 ∧ v1 < 12 then
 some (M 141 (v1).toNat) else none else
 if (M ((M 138 3).toNat + 4) (v1).toNat) = 3 then
 if 0 ≤ v1 ∧ v1 < 12 then
 if aIn (3 + v1) then
 if 0 ≤ (3 + v1) ∧ (3 + v1) < 12 then
 (f_X13_roves T (M 141 (v1).toNat) (M 141 ((3 + v1)).toNat) M).bind fun x14 =>
 some x14 else none else none else none else
 if 0 ≤ v1 ∧ v1 < 12 then
 if (M ((M 138 3).toNat + 4) (v1).toNat) = 1 then
 (f_X13_flees T (M 141 (v1).toNat) 1 M).bind fun x9 =>
 some x9 else
 (f_X13_flees T (M 141 (v1).toNat) 0 M).bind fun x7 =>
 some x7 else none else none else none
theorem t_X13_goesTo {T : T3} {v1 : Int} {M : aM} {y : Int}  (hS : Sh T.1 M) (h : f_X13_goesTo T.1 v1 M = some y) : Mr 3 250 [(2, ((138 : Nat) : Int)), (0, v1)] M (some (0, y)) M T := by
  have key : ∀ d, 3 ≤ d → Wp d 250 0 [] [(2, ((138 : Nat) : Int)), (0, v1), (9, 0)] [] (M, T) (fun r2 σ2 => r2 = some (0, y) ∧ σ2 = (M, T)) := by
    intro d hd
    rw [f_X13_goesTo] at h
    refine y_blk (t := 0) rfl (show fnd bk_X13_goesTo 0 = some _ from rfl) aB_X13_goesTo ?_
    refine wp_aload_n (v := ((138 : Nat) : Int)) rfl (Int.natCast_nonneg _) ?_
    obtain ⟨c1, h⟩ := d_ite h
    refine y_get (show ash 138 = (13, 38) from rfl) (Nat.lt_of_lt_of_le (show 138 < 154 by decide) hS.1.1) (v := (((M 138 3).toNat : Nat) : Int)) c1.eq rfl ?_
    refine y_get (aW0 hS.1.2 c1.is) (ltW c1.is 0 (by decide)) (v := ((((M 138 3).toNat + 4) : Nat) : Int)) (rW17 hS c1.is) rfl ?_
    refine wp_iload_n (v := v1) rfl ?_
    obtain ⟨c2, h⟩ := d_ite h
    refine y_iald (aW4 hS.1.2 c1.is) (Or.inl (ltW c1.is 4 (by decide))) (Nat.ne_of_lt (Nat.lt_of_lt_of_le (ltW c1.is 4 (by decide)) hS.1.2)) c2 (v := M ((M 138 3).toNat + 4) (v1).toNat) rfl ?_
    refine y_stn (L1 := [(2, ((138 : Nat) : Int)), (0, v1), (0, (M ((M 138 3).toNat + 4) (v1).toNat))]) (Nat.le_of_ble_eq_true rfl) rfl ?_
    refine wp_iload_n (v := (M ((M 138 3).toNat + 4) (v1).toNat)) rfl ?_
    refine y_nez (fun c3 => ?_) (fun c3 => ?_)
    · rw [if_neg c3] at h
      refine y_blk (t := 23) rfl (show fnd bk_X13_goesTo 23 = some _ from rfl) aB_X13_goesTo ?_
      refine wp_iload_n (v := (M ((M 138 3).toNat + 4) (v1).toNat)) rfl ?_
      refine wp_iconst ⟨by decide, by decide⟩ ?_
      refine y_ne (fun c4 => ?_) (fun c4 => ?_)
      · rw [if_neg c4] at h
        refine y_blk (t := 49) rfl (show fnd bk_X13_goesTo 49 = some _ from rfl) aB_X13_goesTo ?_
        refine wp_aload_n (v := ((138 : Nat) : Int)) rfl (Int.natCast_nonneg _) ?_
        refine wp_aload_n (v := ((138 : Nat) : Int)) rfl (Int.natCast_nonneg _) ?_
        refine y_get (show ash 138 = (13, 38) from rfl) (Nat.lt_of_lt_of_le (show 138 < 154 by decide) hS.1.1) (v := ((141 : Nat) : Int)) (hS.at 138 17 141 (by decide +kernel)) rfl ?_
        refine wp_iload_n (v := v1) rfl ?_
        obtain ⟨c5, h⟩ := d_ite h
        refine y_iald (show ash 141 = (100, 12) from rfl) (Or.inl (Nat.lt_of_lt_of_le (show 141 < 154 by decide) hS.1.1)) (Nat.ne_of_lt (Nat.lt_of_lt_of_le (Nat.lt_of_lt_of_le (show 141 < 154 by decide) hS.1.1) hS.1.2)) c5 (v := M 141 (v1).toNat) rfl ?_
        refine wp_iload_n (v := (M ((M 138 3).toNat + 4) (v1).toNat)) rfl ?_
        refine wp_iconst ⟨by decide, by decide⟩ ?_
        refine y_ne (fun c6 => ?_) (fun c6 => ?_)
        · rw [if_neg c6] at h
          refine y_blk (t := 65) rfl (show fnd bk_X13_goesTo 65 = some _ from rfl) aB_X13_goesTo ?_
          refine wp_iconst ⟨by decide, by decide⟩ ?_
          refine y_blk (t := 66) rfl (show fnd bk_X13_goesTo 66 = some _ from rfl) aB_X13_goesTo ?_
          obtain ⟨x7, e8, h⟩ := d_bind h
          refine y_callV (as := [(0, (M 141 (v1).toNat)), (0, 0)]) (S1 := []) (Nat.le_of_ble_eq_true rfl) (by omega) (t_X13_flees hS e8) (Nat.le_of_ble_eq_true rfl) rfl (show ash 138 = (13, 38) from rfl) (Nat.lt_of_lt_of_le (show 138 < 154 by decide) hS.1.1) (Nat.le_of_ble_eq_true rfl) (Nat.le_of_ble_eq_true rfl) rfl ?_
          refine y_blk (t := 69) rfl (show fnd bk_X13_goesTo 69 = some _ from rfl) aB_X13_goesTo ?_
          cases h
          exact y_ret0 (Or.inl rfl) ⟨rfl, rfl⟩
        · rw [if_pos c6] at h
          refine wp_iconst ⟨by decide, by decide⟩ ?_
          refine wp_goto ?_
          refine y_blk (t := 66) rfl (show fnd bk_X13_goesTo 66 = some _ from rfl) aB_X13_goesTo ?_
          obtain ⟨x9, e10, h⟩ := d_bind h
          refine y_callV (as := [(0, (M 141 (v1).toNat)), (0, 1)]) (S1 := []) (Nat.le_of_ble_eq_true rfl) (by omega) (t_X13_flees hS e10) (Nat.le_of_ble_eq_true rfl) rfl (show ash 138 = (13, 38) from rfl) (Nat.lt_of_lt_of_le (show 138 < 154 by decide) hS.1.1) (Nat.le_of_ble_eq_true rfl) (Nat.le_of_ble_eq_true rfl) rfl ?_
          refine y_blk (t := 69) rfl (show fnd bk_X13_goesTo 69 = some _ from rfl) aB_X13_goesTo ?_
          cases h
          exact y_ret0 (Or.inl rfl) ⟨rfl, rfl⟩
      · rw [if_pos c4] at h
        refine wp_aload_n (v := ((138 : Nat) : Int)) rfl (Int.natCast_nonneg _) ?_
        refine wp_aload_n (v := ((138 : Nat) : Int)) rfl (Int.natCast_nonneg _) ?_
        refine y_get (show ash 138 = (13, 38) from rfl) (Nat.lt_of_lt_of_le (show 138 < 154 by decide) hS.1.1) (v := ((141 : Nat) : Int)) (hS.at 138 17 141 (by decide +kernel)) rfl ?_
        refine wp_iload_n (v := v1) rfl ?_
        obtain ⟨c11, h⟩ := d_ite h
        refine y_iald (show ash 141 = (100, 12) from rfl) (Or.inl (Nat.lt_of_lt_of_le (show 141 < 154 by decide) hS.1.1)) (Nat.ne_of_lt (Nat.lt_of_lt_of_le (Nat.lt_of_lt_of_le (show 141 < 154 by decide) hS.1.1) hS.1.2)) c11 (v := M 141 (v1).toNat) rfl ?_
        refine wp_aload_n (v := ((138 : Nat) : Int)) rfl (Int.natCast_nonneg _) ?_
        refine y_get (show ash 138 = (13, 38) from rfl) (Nat.lt_of_lt_of_le (show 138 < 154 by decide) hS.1.1) (v := ((141 : Nat) : Int)) (hS.at 138 17 141 (by decide +kernel)) rfl ?_
        refine wp_iconst ⟨by decide, by decide⟩ ?_
        refine wp_iload_n (v := v1) rfl ?_
        obtain ⟨c12, h⟩ := d_ite h
        refine wp_iadd c12 ?_
        obtain ⟨c13, h⟩ := d_ite h
        refine y_iald (show ash 141 = (100, 12) from rfl) (Or.inl (Nat.lt_of_lt_of_le (show 141 < 154 by decide) hS.1.1)) (Nat.ne_of_lt (Nat.lt_of_lt_of_le (Nat.lt_of_lt_of_le (show 141 < 154 by decide) hS.1.1) hS.1.2)) c13 (v := M 141 ((3 + v1)).toNat) rfl ?_
        obtain ⟨x14, e15, h⟩ := d_bind h
        refine y_callV (as := [(0, (M 141 (v1).toNat)), (0, (M 141 ((3 + v1)).toNat))]) (S1 := []) (Nat.le_of_ble_eq_true rfl) (by omega) (t_X13_roves hS e15) (Nat.le_of_ble_eq_true rfl) rfl (show ash 138 = (13, 38) from rfl) (Nat.lt_of_lt_of_le (show 138 < 154 by decide) hS.1.1) (Nat.le_of_ble_eq_true rfl) (Nat.le_of_ble_eq_true rfl) rfl ?_
        refine wp_goto ?_
        refine y_blk (t := 69) rfl (show fnd bk_X13_goesTo 69 = some _ from rfl) aB_X13_goesTo ?_
        cases h
        exact y_ret0 (Or.inl rfl) ⟨rfl, rfl⟩
    · rw [if_pos c3] at h
      refine wp_aload_n (v := ((138 : Nat) : Int)) rfl (Int.natCast_nonneg _) ?_
      refine y_get (show ash 138 = (13, 38) from rfl) (Nat.lt_of_lt_of_le (show 138 < 154 by decide) hS.1.1) (v := ((141 : Nat) : Int)) (hS.at 138 17 141 (by decide +kernel)) rfl ?_
      refine wp_iload_n (v := v1) rfl ?_
      obtain ⟨c16, h⟩ := d_ite h
      refine y_iald (show ash 141 = (100, 12) from rfl) (Or.inl (Nat.lt_of_lt_of_le (show 141 < 154 by decide) hS.1.1)) (Nat.ne_of_lt (Nat.lt_of_lt_of_le (Nat.lt_of_lt_of_le (show 141 < 154 by decide) hS.1.1) hS.1.2)) c16 (v := M 141 (v1).toNat) rfl ?_
      refine wp_goto ?_
      refine y_blk (t := 69) rfl (show fnd bk_X13_goesTo 69 = some _ from rfl) aB_X13_goesTo ?_
      cases h
      exact y_ret0 (Or.inl rfl) ⟨rfl, rfl⟩
  exact fun d hd => Ms.of (key d hd)
theorem aB_X13_comesTo : ∀ pc, aB 251 pc = fnd bk_X13_comesTo pc := fun _ => rfl
def f_X13_comesTo (T : Nat) (v1 : Int) (v2 : Int) (M : aM) : Option (Int × aM) :=
 if 0 ≤ v1 ∧ v1 < 12 then
 if v2 = (M 141 (v1).toNat) then
 some (0, M) else
 if aIn (3 + v1) then
 if 0 ≤ (3 + v1) ∧ (3 + v1) < 12 then
 (some (aup M 141 ((3 + v1)).toNat (M 141 (v1).toNat))).bind fun m7 =>
 (some (aup m7 141 (v1).toNat v2)).bind fun m9 =>
 some (1, m9) else none else none else none
theorem t_X13_comesTo {T : T3} {v1 : Int} {v2 : Int} {M : aM} {y : (Int × aM)}  (hS : Sh T.1 M) (h : f_X13_comesTo T.1 v1 v2 M = some y) : Mr 0 251 [(2, ((138 : Nat) : Int)), (0, v1), (0, v2)] M (some (0, y.1)) y.2 T ∧ Sh T.1 y.2 := by
  have key : ∀ d, 0 ≤ d → Wp d 251 0 [] [(2, ((138 : Nat) : Int)), (0, v1), (0, v2), (9, 0)] [] (M, T) (fun r2 σ2 => r2 = some (0, y.1) ∧ σ2 = (y.2, T) ∧ Sh T.1 y.2) := by
    intro d hd
    rw [f_X13_comesTo] at h
    refine y_blk (t := 0) rfl (show fnd bk_X13_comesTo 0 = some _ from rfl) aB_X13_comesTo ?_
    refine wp_iload_n (v := v2) rfl ?_
    refine wp_aload_n (v := ((138 : Nat) : Int)) rfl (Int.natCast_nonneg _) ?_
    refine y_get (show ash 138 = (13, 38) from rfl) (Nat.lt_of_lt_of_le (show 138 < 154 by decide) hS.1.1) (v := ((141 : Nat) : Int)) (hS.at 138 17 141 (by decide +kernel)) rfl ?_
    refine wp_iload_n (v := v1) rfl ?_
    obtain ⟨c1, h⟩ := d_ite h
    refine y_iald (show ash 141 = (100, 12) from rfl) (Or.inl (Nat.lt_of_lt_of_le (show 141 < 154 by decide) hS.1.1)) (Nat.ne_of_lt (Nat.lt_of_lt_of_le (Nat.lt_of_lt_of_le (show 141 < 154 by decide) hS.1.1) hS.1.2)) c1 (v := M 141 (v1).toNat) rfl ?_
    refine wp_icmp_eq (fun c2 => ?_) (fun c2 => ?_)
    · rw [if_pos c2] at h
      refine y_blk (t := 14) rfl (show fnd bk_X13_comesTo 14 = some _ from rfl) aB_X13_comesTo ?_
      refine wp_iconst ⟨by decide, by decide⟩ ?_
      refine y_blk (t := 15) rfl (show fnd bk_X13_comesTo 15 = some _ from rfl) aB_X13_comesTo ?_
      refine y_stn (L1 := [(2, ((138 : Nat) : Int)), (0, v1), (0, v2), (0, 0)]) (Nat.le_of_ble_eq_true rfl) rfl ?_
      refine wp_iload_n (v := 0) rfl ?_
      refine wp_if_eq (fun c3 => ?_) (fun c3 => ?_)
      · refine y_blk (t := 41) rfl (show fnd bk_X13_comesTo 41 = some _ from rfl) aB_X13_comesTo ?_
        refine wp_iload_n (v := 0) rfl ?_
        cases h
        exact y_ret0 (Or.inr (Or.inl rfl)) ⟨rfl, rfl, hS⟩
      · exact absurd (by decide) c3
    · rw [if_neg c2] at h
      refine wp_iconst ⟨by decide, by decide⟩ ?_
      refine wp_goto ?_
      refine y_blk (t := 15) rfl (show fnd bk_X13_comesTo 15 = some _ from rfl) aB_X13_comesTo ?_
      refine y_stn (L1 := [(2, ((138 : Nat) : Int)), (0, v1), (0, v2), (0, 1)]) (Nat.le_of_ble_eq_true rfl) rfl ?_
      refine wp_iload_n (v := 1) rfl ?_
      refine wp_if_eq (fun c4 => ?_) (fun c4 => ?_)
      · exact absurd c4 (by decide)
      · refine wp_aload_n (v := ((138 : Nat) : Int)) rfl (Int.natCast_nonneg _) ?_
        refine y_get (show ash 138 = (13, 38) from rfl) (Nat.lt_of_lt_of_le (show 138 < 154 by decide) hS.1.1) (v := ((141 : Nat) : Int)) (hS.at 138 17 141 (by decide +kernel)) rfl ?_
        refine wp_iconst ⟨by decide, by decide⟩ ?_
        refine wp_iload_n (v := v1) rfl ?_
        obtain ⟨c5, h⟩ := d_ite h
        refine wp_iadd c5 ?_
        refine wp_aload_n (v := ((138 : Nat) : Int)) rfl (Int.natCast_nonneg _) ?_
        refine y_get (show ash 138 = (13, 38) from rfl) (Nat.lt_of_lt_of_le (show 138 < 154 by decide) hS.1.1) (v := ((141 : Nat) : Int)) (hS.at 138 17 141 (by decide +kernel)) rfl ?_
        refine wp_iload_n (v := v1) rfl ?_
        refine y_iald (show ash 141 = (100, 12) from rfl) (Or.inl (Nat.lt_of_lt_of_le (show 141 < 154 by decide) hS.1.1)) (Nat.ne_of_lt (Nat.lt_of_lt_of_le (Nat.lt_of_lt_of_le (show 141 < 154 by decide) hS.1.1) hS.1.2)) c1 (v := M 141 (v1).toNat) rfl ?_
        obtain ⟨c6, h⟩ := d_ite h
        refine y_iast (show ash 141 = (100, 12) from rfl) (Nat.lt_of_lt_of_le (show 141 < 154 by decide) hS.1.1) c6 ?_
        obtain ⟨m7, em7, h⟩ := d_bind h
        have em7 := Option.some.inj em7
        have s8 : Sh T.1 m7 := em7 ▸ hS.up (Or.inl ⟨by rw [(show ash 141 = (100, 12) from rfl)]; exact Nat.le_of_ble_eq_true rfl, by rw [(show ash 141 = (100, 12) from rfl)]; exact Nat.le_of_ble_eq_true rfl⟩) (by have := (Nat.lt_of_lt_of_le (show 141 < 154 by decide) hS.1.1); have := hS.1.2; omega)
        rw [em7]
        refine wp_aload_n (v := ((138 : Nat) : Int)) rfl (Int.natCast_nonneg _) ?_
        refine y_get (show ash 138 = (13, 38) from rfl) (Nat.lt_of_lt_of_le (show 138 < 154 by decide) hS.1.1) (v := ((141 : Nat) : Int)) (s8.at 138 17 141 (by decide +kernel)) rfl ?_
        refine wp_iload_n (v := v1) rfl ?_
        refine wp_iload_n (v := v2) rfl ?_
        refine y_iast (show ash 141 = (100, 12) from rfl) (Nat.lt_of_lt_of_le (show 141 < 154 by decide) hS.1.1) c1 ?_
        obtain ⟨m9, em9, h⟩ := d_bind h
        have em9 := Option.some.inj em9
        have s10 : Sh T.1 m9 := em9 ▸ s8.up (Or.inl ⟨by rw [(show ash 141 = (100, 12) from rfl)]; exact Nat.le_of_ble_eq_true rfl, by rw [(show ash 141 = (100, 12) from rfl)]; exact Nat.le_of_ble_eq_true rfl⟩) (by have := (Nat.lt_of_lt_of_le (show 141 < 154 by decide) hS.1.1); have := hS.1.2; omega)
        rw [em9]
        refine y_blk (t := 41) rfl (show fnd bk_X13_comesTo 41 = some _ from rfl) aB_X13_comesTo ?_
        refine wp_iload_n (v := 1) rfl ?_
        cases h
        exact y_ret0 (Or.inr (Or.inr rfl)) ⟨rfl, rfl, s10⟩
  exact ⟨fun d hd => Ms.of3 (key d hd), Ms.sh (key 0 (Nat.le_refl _))⟩
theorem aB_X13_aYear : ∀ pc, aB 252 pc = fnd bk_X13_aYear pc := fun _ => rfl
def l_X13_aYear_4 (T : Nat)  (k : Int → Int → aM → Option (Int × aM)) : Nat → Int → Int → aM → Option (Int × aM)
| 0, _, _, _ => none
| n + 1, v1, v2, M =>
 if okW T (M 138 3) then
 if (M (M 138 3).toNat 7) ≤ v2 then
 k v1 v2 M else
 (f_X13_goesTo T v2 M).bind fun x3 =>
 (f_X13_comesTo T v2 x3 M).bind fun x5 =>
 if x5.1 = 0 then
 if aIn (v2 + 1) then
 l_X13_aYear_4 T k n (aor v1 0) (v2 + 1) x5.2 else none else
 if aIn (v2 + 1) then
 l_X13_aYear_4 T k n (aor v1 (ashl 1 v2)) (v2 + 1) x5.2 else none else none
theorem tl_X13_aYear_4 {d : Nat} (hd : 4 ≤ d) {T : T3}  {k : Int → Int → aM → Option (Int × aM)} {y : (Int × aM)}  {M0 : aM} (hS : Sh T.1 M0)
    (hk : ∀ (v1 v2 : Int) (M : aM), Sh T.1 M → k v1 v2 M = some y → Wp d 252 44 [] [(2, ((138 : Nat) : Int)), (0, v1), (0, v2)] [] (M, T) (fun r2 σ2 => r2 = some (0, y.1) ∧ σ2 = (y.2, T) ∧ Sh T.1 y.2)) :
    ∀ (n : Nat) (v1 v2 : Int) (M : aM), Sh T.1 M → l_X13_aYear_4 T.1 k n v1 v2 M = some y → Wp d 252 4 [] [(2, ((138 : Nat) : Int)), (0, v1), (0, v2)] [] (M, T) (fun r2 σ2 => r2 = some (0, y.1) ∧ σ2 = (y.2, T) ∧ Sh T.1 y.2) := by
  intro n
  induction n with
  | zero =>
    intro v1 v2 M _ h
    exact nomatch (show (none : Option (Int × aM)) = some y from h)
  | succ n ih =>
    intro v1 v2 M sM h
    rw [l_X13_aYear_4] at h
    refine y_blk (t := 4) rfl (show fnd bk_X13_aYear 4 = some _ from rfl) aB_X13_aYear ?_
    refine wp_iload_n (v := v2) rfl ?_
    refine wp_aload_n (v := ((138 : Nat) : Int)) rfl (Int.natCast_nonneg _) ?_
    obtain ⟨c1, h⟩ := d_ite h
    refine y_get (show ash 138 = (13, 38) from rfl) (Nat.lt_of_lt_of_le (show 138 < 154 by decide) hS.1.1) (v := (((M 138 3).toNat : Nat) : Int)) c1.eq rfl ?_
    refine y_get (aW0 hS.1.2 c1.is) (ltW c1.is 0 (by decide)) (v := M (M 138 3).toNat 7) rfl rfl ?_
    refine wp_icmp_ge (fun c2 => ?_) (fun c2 => ?_)
    · rw [if_pos c2] at h
      exact hk v1 v2  M sM h
    · rw [if_neg c2] at h
      refine wp_iload_n (v := v1) rfl ?_
      refine wp_aload_n (v := ((138 : Nat) : Int)) rfl (Int.natCast_nonneg _) ?_
      refine wp_iload_n (v := v2) rfl ?_
      refine wp_aload_n (v := ((138 : Nat) : Int)) rfl (Int.natCast_nonneg _) ?_
      refine wp_iload_n (v := v2) rfl ?_
      obtain ⟨x3, e4, h⟩ := d_bind h
      refine y_callV (as := [(0, v2)]) (S1 := [(0, v2), (2, ((138 : Nat) : Int)), (0, v1)]) (Nat.le_of_ble_eq_true rfl) (by omega) (t_X13_goesTo sM e4) (Nat.le_of_ble_eq_true rfl) rfl (show ash 138 = (13, 38) from rfl) (Nat.lt_of_lt_of_le (show 138 < 154 by decide) hS.1.1) (Nat.le_of_ble_eq_true rfl) (Nat.le_of_ble_eq_true rfl) rfl ?_
      obtain ⟨x5, e6, h⟩ := d_bind h
      obtain ⟨r7, s8⟩ := t_X13_comesTo sM e6
      refine y_callV (as := [(0, v2), (0, x3)]) (S1 := [(0, v1)]) (Nat.le_of_ble_eq_true rfl) (by omega) r7 (Nat.le_of_ble_eq_true rfl) rfl (show ash 138 = (13, 38) from rfl) (Nat.lt_of_lt_of_le (show 138 < 154 by decide) hS.1.1) (Nat.le_of_ble_eq_true rfl) (Nat.le_of_ble_eq_true rfl) rfl ?_
      refine wp_if_eq (fun c9 => ?_) (fun c9 => ?_)
      · rw [if_pos c9] at h
        refine y_blk (t := 35) rfl (show fnd bk_X13_aYear 35 = some _ from rfl) aB_X13_aYear ?_
        refine wp_iconst ⟨by decide, by decide⟩ ?_
        refine y_blk (t := 36) rfl (show fnd bk_X13_aYear 36 = some _ from rfl) aB_X13_aYear ?_
        refine wp_ior ?_
        refine y_stn (L1 := [(2, ((138 : Nat) : Int)), (0, (aor v1 0)), (0, v2)]) (Nat.le_of_ble_eq_true rfl) rfl ?_
        obtain ⟨c10, h⟩ := d_ite h
        refine y_iinc (L1 := [(2, ((138 : Nat) : Int)), (0, (aor v1 0)), (0, (v2 + 1))]) rfl (Nat.le_of_ble_eq_true rfl) ⟨by decide, by decide⟩ c10 rfl ?_
        refine wp_goto ?_
        exact ih (aor v1 0) (v2 + 1)  x5.2 s8 h
      · rw [if_neg c9] at h
        refine wp_iconst ⟨by decide, by decide⟩ ?_
        refine wp_iload_n (v := v2) rfl ?_
        refine wp_ishl ?_
        refine wp_goto ?_
        refine y_blk (t := 36) rfl (show fnd bk_X13_aYear 36 = some _ from rfl) aB_X13_aYear ?_
        refine wp_ior ?_
        refine y_stn (L1 := [(2, ((138 : Nat) : Int)), (0, (aor v1 (ashl 1 v2))), (0, v2)]) (Nat.le_of_ble_eq_true rfl) rfl ?_
        obtain ⟨c11, h⟩ := d_ite h
        refine y_iinc (L1 := [(2, ((138 : Nat) : Int)), (0, (aor v1 (ashl 1 v2))), (0, (v2 + 1))]) rfl (Nat.le_of_ble_eq_true rfl) ⟨by decide, by decide⟩ c11 rfl ?_
        refine wp_goto ?_
        exact ih (aor v1 (ashl 1 v2)) (v2 + 1)  x5.2 s8 h
def f_X13_aYear (T : Nat)  (M : aM) : Option (Int × aM) :=
 l_X13_aYear_4 T (fun w12 w13 m14 =>
 if aIn ((m14 141 11) + 1) then
 (some (aup m14 141 11 ((m14 141 11) + 1))).bind fun m17 =>
 some (w12, m17) else none) FU 0 0 M
theorem t_X13_aYear {T : T3}  {M : aM} {y : (Int × aM)}  (hS : Sh T.1 M) (h : f_X13_aYear T.1  M = some y) : Mr 4 252 [(2, ((138 : Nat) : Int))] M (some (0, y.1)) y.2 T ∧ Sh T.1 y.2 := by
  have key : ∀ d, 4 ≤ d → Wp d 252 0 [] [(2, ((138 : Nat) : Int)), (9, 0), (9, 0)] [] (M, T) (fun r2 σ2 => r2 = some (0, y.1) ∧ σ2 = (y.2, T) ∧ Sh T.1 y.2) := by
    intro d hd
    rw [f_X13_aYear] at h
    refine y_blk (t := 0) rfl (show fnd bk_X13_aYear 0 = some _ from rfl) aB_X13_aYear ?_
    refine wp_iconst ⟨by decide, by decide⟩ ?_
    refine y_stn (L1 := [(2, ((138 : Nat) : Int)), (0, 0), (9, 0)]) (Nat.le_of_ble_eq_true rfl) rfl ?_
    refine wp_iconst ⟨by decide, by decide⟩ ?_
    refine y_stn (L1 := [(2, ((138 : Nat) : Int)), (0, 0), (0, 0)]) (Nat.le_of_ble_eq_true rfl) rfl ?_
    refine tl_X13_aYear_4 (by omega) hS (fun w12 w13  m14 s15 h => ?_) FU 0 0  M hS h
    refine y_blk (t := 44) rfl (show fnd bk_X13_aYear 44 = some _ from rfl) aB_X13_aYear ?_
    refine wp_aload_n (v := ((138 : Nat) : Int)) rfl (Int.natCast_nonneg _) ?_
    refine y_get (show ash 138 = (13, 38) from rfl) (Nat.lt_of_lt_of_le (show 138 < 154 by decide) hS.1.1) (v := ((141 : Nat) : Int)) (s15.at 138 17 141 (by decide +kernel)) rfl ?_
    refine wp_bipush (by decide) ?_
    refine wp_dup2 ⟨Or.inl rfl, Or.inr rfl⟩ ?_
    refine y_iald (show ash 141 = (100, 12) from rfl) (Or.inl (Nat.lt_of_lt_of_le (show 141 < 154 by decide) hS.1.1)) (Nat.ne_of_lt (Nat.lt_of_lt_of_le (Nat.lt_of_lt_of_le (show 141 < 154 by decide) hS.1.1) hS.1.2)) ⟨by decide, by decide⟩ (v := m14 141 11) rfl ?_
    refine wp_iconst ⟨by decide, by decide⟩ ?_
    obtain ⟨c16, h⟩ := d_ite h
    refine wp_iadd c16 ?_
    refine y_iast (show ash 141 = (100, 12) from rfl) (Nat.lt_of_lt_of_le (show 141 < 154 by decide) hS.1.1) ⟨by decide, by decide⟩ ?_
    obtain ⟨m17, em17, h⟩ := d_bind h
    have em17 := Option.some.inj em17
    have s18 : Sh T.1 m17 := em17 ▸ s15.up (Or.inl ⟨by rw [(show ash 141 = (100, 12) from rfl)]; exact Nat.le_of_ble_eq_true rfl, by rw [(show ash 141 = (100, 12) from rfl)]; exact Nat.le_of_ble_eq_true rfl⟩) (by have := (Nat.lt_of_lt_of_le (show 141 < 154 by decide) hS.1.1); have := hS.1.2; omega)
    rw [show ((11 : Int)).toNat = 11 from rfl, em17]
    refine wp_iload_n (v := w12) rfl ?_
    cases h
    exact y_ret0 (Or.inl rfl) ⟨rfl, rfl, s18⟩
  exact ⟨fun d hd => Ms.of3 (key d hd), Ms.sh (key 4 (Nat.le_refl _))⟩
theorem aB_X13_calledTo : ∀ pc, aB 253 pc = fnd bk_X13_calledTo pc := fun _ => rfl
def f_X13_calledTo (T : Nat) (v1 : Int) (v2 : Int) (v3 : Int) (M : aM) : Option Int :=
 if v1 = 0 then
 some v2 else
 if v2 = v3 then
 some v2 else
 (f_X13_apart T v2 v3 M).bind fun x3 =>
 if okW T (M 138 3) then
 if x3 ≤ (M (M 138 3).toNat 0) then
 (f_X13_towards T v2 v3 M).bind fun x7 =>
 some x7 else
 some v2 else none
theorem t_X13_calledTo {T : T3} {v1 : Int} {v2 : Int} {v3 : Int} {M : aM} {y : Int}  (hS : Sh T.1 M) (h : f_X13_calledTo T.1 v1 v2 v3 M = some y) : Mr 3 253 [(2, ((138 : Nat) : Int)), (0, v1), (0, v2), (0, v3)] M (some (0, y)) M T := by
  have key : ∀ d, 3 ≤ d → Wp d 253 0 [] [(2, ((138 : Nat) : Int)), (0, v1), (0, v2), (0, v3)] [] (M, T) (fun r2 σ2 => r2 = some (0, y) ∧ σ2 = (M, T)) := by
    intro d hd
    rw [f_X13_calledTo] at h
    refine y_blk (t := 0) rfl (show fnd bk_X13_calledTo 0 = some _ from rfl) aB_X13_calledTo ?_
    refine wp_iload_n (v := v1) rfl ?_
    refine wp_if_eq (fun c1 => ?_) (fun c1 => ?_)
    · rw [if_pos c1] at h
      refine y_blk (t := 25) rfl (show fnd bk_X13_calledTo 25 = some _ from rfl) aB_X13_calledTo ?_
      refine wp_iload_n (v := v2) rfl ?_
      refine wp_goto ?_
      refine y_blk (t := 35) rfl (show fnd bk_X13_calledTo 35 = some _ from rfl) aB_X13_calledTo ?_
      cases h
      exact y_ret0 (Or.inl rfl) ⟨rfl, rfl⟩
    · rw [if_neg c1] at h
      refine wp_iload_n (v := v2) rfl ?_
      refine wp_iload_n (v := v3) rfl ?_
      refine wp_icmp_eq (fun c2 => ?_) (fun c2 => ?_)
      · rw [if_pos c2] at h
        refine y_blk (t := 25) rfl (show fnd bk_X13_calledTo 25 = some _ from rfl) aB_X13_calledTo ?_
        refine wp_iload_n (v := v2) rfl ?_
        refine wp_goto ?_
        refine y_blk (t := 35) rfl (show fnd bk_X13_calledTo 35 = some _ from rfl) aB_X13_calledTo ?_
        cases h
        exact y_ret0 (Or.inl rfl) ⟨rfl, rfl⟩
      · rw [if_neg c2] at h
        refine wp_aload_n (v := ((138 : Nat) : Int)) rfl (Int.natCast_nonneg _) ?_
        refine wp_iload_n (v := v2) rfl ?_
        refine wp_iload_n (v := v3) rfl ?_
        obtain ⟨x3, e4, h⟩ := d_bind h
        refine y_callV (as := [(0, v2), (0, v3)]) (S1 := []) (Nat.le_of_ble_eq_true rfl) (by omega) (t_X13_apart hS e4) (Nat.le_of_ble_eq_true rfl) rfl (show ash 138 = (13, 38) from rfl) (Nat.lt_of_lt_of_le (show 138 < 154 by decide) hS.1.1) (Nat.le_of_ble_eq_true rfl) (Nat.le_of_ble_eq_true rfl) rfl ?_
        refine wp_aload_n (v := ((138 : Nat) : Int)) rfl (Int.natCast_nonneg _) ?_
        obtain ⟨c5, h⟩ := d_ite h
        refine y_get (show ash 138 = (13, 38) from rfl) (Nat.lt_of_lt_of_le (show 138 < 154 by decide) hS.1.1) (v := (((M 138 3).toNat : Nat) : Int)) c5.eq rfl ?_
        refine y_get (aW0 hS.1.2 c5.is) (ltW c5.is 0 (by decide)) (v := M (M 138 3).toNat 0) rfl rfl ?_
        refine wp_icmp_le (fun c6 => ?_) (fun c6 => ?_)
        · rw [if_pos c6] at h
          refine y_blk (t := 29) rfl (show fnd bk_X13_calledTo 29 = some _ from rfl) aB_X13_calledTo ?_
          refine wp_aload_n (v := ((138 : Nat) : Int)) rfl (Int.natCast_nonneg _) ?_
          refine wp_iload_n (v := v2) rfl ?_
          refine wp_iload_n (v := v3) rfl ?_
          obtain ⟨x7, e8, h⟩ := d_bind h
          refine y_callV (as := [(0, v2), (0, v3)]) (S1 := []) (Nat.le_of_ble_eq_true rfl) (by omega) (t_X13_towards hS e8) (Nat.le_of_ble_eq_true rfl) rfl (show ash 138 = (13, 38) from rfl) (Nat.lt_of_lt_of_le (show 138 < 154 by decide) hS.1.1) (Nat.le_of_ble_eq_true rfl) (Nat.le_of_ble_eq_true rfl) rfl ?_
          refine y_blk (t := 35) rfl (show fnd bk_X13_calledTo 35 = some _ from rfl) aB_X13_calledTo ?_
          cases h
          exact y_ret0 (Or.inl rfl) ⟨rfl, rfl⟩
        · rw [if_neg c6] at h
          refine y_blk (t := 25) rfl (show fnd bk_X13_calledTo 25 = some _ from rfl) aB_X13_calledTo ?_
          refine wp_iload_n (v := v2) rfl ?_
          refine wp_goto ?_
          refine y_blk (t := 35) rfl (show fnd bk_X13_calledTo 35 = some _ from rfl) aB_X13_calledTo ?_
          cases h
          exact y_ret0 (Or.inl rfl) ⟨rfl, rfl⟩
  exact fun d hd => Ms.of (key d hd)
theorem aB_X13_isSilent : ∀ pc, aB 254 pc = fnd bk_X13_isSilent pc := fun _ => rfl
def f_X13_isSilent (T : Nat) (v1 : Int) (M : aM) : Option Int :=
 if 0 ≤ v1 ∧ v1 < 12 then
 (f_X13_nearest T (M 141 (v1).toNat) M).bind fun x2 =>
 if okW T (M 138 3) then
 if x2 ≤ (M (M 138 3).toNat 0) then
 some 0 else
 some 1 else none else none
theorem t_X13_isSilent {T : T3} {v1 : Int} {M : aM} {y : Int}  (hS : Sh T.1 M) (h : f_X13_isSilent T.1 v1 M = some y) : Mr 2 254 [(2, ((138 : Nat) : Int)), (0, v1)] M (some (0, y)) M T := by
  have key : ∀ d, 2 ≤ d → Wp d 254 0 [] [(2, ((138 : Nat) : Int)), (0, v1)] [] (M, T) (fun r2 σ2 => r2 = some (0, y) ∧ σ2 = (M, T)) := by
    intro d hd
    rw [f_X13_isSilent] at h
    refine y_blk (t := 0) rfl (show fnd bk_X13_isSilent 0 = some _ from rfl) aB_X13_isSilent ?_
    refine wp_aload_n (v := ((138 : Nat) : Int)) rfl (Int.natCast_nonneg _) ?_
    refine wp_aload_n (v := ((138 : Nat) : Int)) rfl (Int.natCast_nonneg _) ?_
    refine y_get (show ash 138 = (13, 38) from rfl) (Nat.lt_of_lt_of_le (show 138 < 154 by decide) hS.1.1) (v := ((141 : Nat) : Int)) (hS.at 138 17 141 (by decide +kernel)) rfl ?_
    refine wp_iload_n (v := v1) rfl ?_
    obtain ⟨c1, h⟩ := d_ite h
    refine y_iald (show ash 141 = (100, 12) from rfl) (Or.inl (Nat.lt_of_lt_of_le (show 141 < 154 by decide) hS.1.1)) (Nat.ne_of_lt (Nat.lt_of_lt_of_le (Nat.lt_of_lt_of_le (show 141 < 154 by decide) hS.1.1) hS.1.2)) c1 (v := M 141 (v1).toNat) rfl ?_
    obtain ⟨x2, e3, h⟩ := d_bind h
    refine y_callV (as := [(0, (M 141 (v1).toNat))]) (S1 := []) (Nat.le_of_ble_eq_true rfl) (by omega) (t_X13_nearest hS e3) (Nat.le_of_ble_eq_true rfl) rfl (show ash 138 = (13, 38) from rfl) (Nat.lt_of_lt_of_le (show 138 < 154 by decide) hS.1.1) (Nat.le_of_ble_eq_true rfl) (Nat.le_of_ble_eq_true rfl) rfl ?_
    refine wp_aload_n (v := ((138 : Nat) : Int)) rfl (Int.natCast_nonneg _) ?_
    obtain ⟨c4, h⟩ := d_ite h
    refine y_get (show ash 138 = (13, 38) from rfl) (Nat.lt_of_lt_of_le (show 138 < 154 by decide) hS.1.1) (v := (((M 138 3).toNat : Nat) : Int)) c4.eq rfl ?_
    refine y_get (aW0 hS.1.2 c4.is) (ltW c4.is 0 (by decide)) (v := M (M 138 3).toNat 0) rfl rfl ?_
    refine wp_icmp_le (fun c5 => ?_) (fun c5 => ?_)
    · rw [if_pos c5] at h
      refine y_blk (t := 24) rfl (show fnd bk_X13_isSilent 24 = some _ from rfl) aB_X13_isSilent ?_
      refine wp_iconst ⟨by decide, by decide⟩ ?_
      refine y_blk (t := 25) rfl (show fnd bk_X13_isSilent 25 = some _ from rfl) aB_X13_isSilent ?_
      cases h
      exact y_ret0 (Or.inr (Or.inl rfl)) ⟨rfl, rfl⟩
    · rw [if_neg c5] at h
      refine wp_iconst ⟨by decide, by decide⟩ ?_
      refine wp_goto ?_
      refine y_blk (t := 25) rfl (show fnd bk_X13_isSilent 25 = some _ from rfl) aB_X13_isSilent ?_
      cases h
      exact y_ret0 (Or.inr (Or.inr rfl)) ⟨rfl, rfl⟩
  exact fun d hd => Ms.of (key d hd)

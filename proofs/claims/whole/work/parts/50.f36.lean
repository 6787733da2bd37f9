/-! ===== methods as functions ===== -/
theorem aB_X13_isRest : ∀ pc, aB 310 pc = fnd bk_X13_isRest pc := fun _ => rfl
def b_X13_isRest_57 (T : Nat) (v0 : Int) (v2 : Int) (v3 : Int) (z0 : Int) (z1 : Int) (M : aM) : Option Int :=
 (f_X13_answered T z0 z1 v2 M).bind fun x10 =>
 (f_X13_answered T v0 v3 v2 M).bind fun x12 =>
 if x12 < x10 then
 some 0 else
 some 1
theorem tb_X13_isRest_57 {d : Nat} (hd : 1 ≤ d) {T : T3} {v0 : Int} {v2 : Int} {v3 : Int} {z0 : Int} {z1 : Int} {u1 : aV} {M : aM} {y : Int}  (hS : Sh T.1 M) (h : b_X13_isRest_57 T.1 v0 v2 v3 z0 z1 M = some y) : Wp d 310 57 [] [(0, v0), u1, (0, v2), (0, v3)] [(0, z1), (0, z0)] (M, T) (fun r2 σ2 => r2 = some (0, y) ∧ σ2 = (M, T)) := by
  rw [b_X13_isRest_57] at h
  refine y_blk (t := 57) rfl (show fnd bk_X13_isRest 57 = some _ from rfl) aB_X13_isRest ?_
  refine wp_iload_n (v := v2) rfl ?_
  obtain ⟨x10, e11, h⟩ := d_bind h
  refine y_callS (as := [(0, z0), (0, z1), (0, v2)]) (S1 := []) (Nat.le_of_ble_eq_true rfl) (by omega) (t_X13_answered hS e11) (Nat.le_of_ble_eq_true rfl) rfl (Nat.le_of_ble_eq_true rfl) (Nat.le_of_ble_eq_true rfl) rfl ?_
  refine wp_iload_n (v := v0) rfl ?_
  refine wp_iload_n (v := v3) rfl ?_
  refine wp_iload_n (v := v2) rfl ?_
  obtain ⟨x12, e13, h⟩ := d_bind h
  refine y_callS (as := [(0, v0), (0, v3), (0, v2)]) (S1 := [(0, x10)]) (Nat.le_of_ble_eq_true rfl) (by omega) (t_X13_answered hS e13) (Nat.le_of_ble_eq_true rfl) rfl (Nat.le_of_ble_eq_true rfl) (Nat.le_of_ble_eq_true rfl) rfl ?_
  refine wp_icmp_gt (fun c14 => ?_) (fun c14 => ?_)
  · rw [if_pos c14] at h
    refine y_blk (t := 74) rfl (show fnd bk_X13_isRest 74 = some _ from rfl) aB_X13_isRest ?_
    refine wp_iconst ⟨by decide, by decide⟩ ?_
    refine y_blk (t := 75) rfl (show fnd bk_X13_isRest 75 = some _ from rfl) aB_X13_isRest ?_
    cases h
    exact y_ret0 (Or.inr (Or.inl rfl)) ⟨rfl, rfl⟩
  · rw [if_neg c14] at h
    refine wp_iconst ⟨by decide, by decide⟩ ?_
    refine wp_goto ?_
    refine y_blk (t := 75) rfl (show fnd bk_X13_isRest 75 = some _ from rfl) aB_X13_isRest ?_
    cases h
    exact y_ret0 (Or.inr (Or.inr rfl)) ⟨rfl, rfl⟩
def b_X13_isRest_34 (T : Nat) (v0 : Int) (v2 : Int) (v3 : Int) (z0 : Int) (z1 : Int) (M : aM) : Option Int :=
 (f_X13_answered T z0 z1 v3 M).bind fun x4 =>
 (f_X13_answered T v0 v2 v3 M).bind fun x6 =>
 if x6 < x4 then
 some 0 else
 if v3 = 0 then
 b_X13_isRest_57 T v0 v2 v3 v0 1 M else
 b_X13_isRest_57 T v0 v2 v3 v0 0 M
theorem tb_X13_isRest_34 {d : Nat} (hd : 1 ≤ d) {T : T3} {v0 : Int} {v2 : Int} {v3 : Int} {z0 : Int} {z1 : Int} {u1 : aV} {M : aM} {y : Int}  (hS : Sh T.1 M) (h : b_X13_isRest_34 T.1 v0 v2 v3 z0 z1 M = some y) : Wp d 310 34 [] [(0, v0), u1, (0, v2), (0, v3)] [(0, z1), (0, z0)] (M, T) (fun r2 σ2 => r2 = some (0, y) ∧ σ2 = (M, T)) := by
  rw [b_X13_isRest_34] at h
  refine y_blk (t := 34) rfl (show fnd bk_X13_isRest 34 = some _ from rfl) aB_X13_isRest ?_
  refine wp_iload_n (v := v3) rfl ?_
  obtain ⟨x4, e5, h⟩ := d_bind h
  refine y_callS (as := [(0, z0), (0, z1), (0, v3)]) (S1 := []) (Nat.le_of_ble_eq_true rfl) (by omega) (t_X13_answered hS e5) (Nat.le_of_ble_eq_true rfl) rfl (Nat.le_of_ble_eq_true rfl) (Nat.le_of_ble_eq_true rfl) rfl ?_
  refine wp_iload_n (v := v0) rfl ?_
  refine wp_iload_n (v := v2) rfl ?_
  refine wp_iload_n (v := v3) rfl ?_
  obtain ⟨x6, e7, h⟩ := d_bind h
  refine y_callS (as := [(0, v0), (0, v2), (0, v3)]) (S1 := [(0, x4)]) (Nat.le_of_ble_eq_true rfl) (by omega) (t_X13_answered hS e7) (Nat.le_of_ble_eq_true rfl) rfl (Nat.le_of_ble_eq_true rfl) (Nat.le_of_ble_eq_true rfl) rfl ?_
  refine wp_icmp_gt (fun c8 => ?_) (fun c8 => ?_)
  · rw [if_pos c8] at h
    refine y_blk (t := 74) rfl (show fnd bk_X13_isRest 74 = some _ from rfl) aB_X13_isRest ?_
    refine wp_iconst ⟨by decide, by decide⟩ ?_
    refine y_blk (t := 75) rfl (show fnd bk_X13_isRest 75 = some _ from rfl) aB_X13_isRest ?_
    cases h
    exact y_ret0 (Or.inr (Or.inl rfl)) ⟨rfl, rfl⟩
  · rw [if_neg c8] at h
    refine wp_iload_n (v := v0) rfl ?_
    refine wp_iload_n (v := v3) rfl ?_
    refine y_nez (fun c9 => ?_) (fun c9 => ?_)
    · rw [if_neg c9] at h
      refine y_blk (t := 56) rfl (show fnd bk_X13_isRest 56 = some _ from rfl) aB_X13_isRest ?_
      refine wp_iconst ⟨by decide, by decide⟩ ?_
      exact tb_X13_isRest_57 hd hS h
    · rw [if_pos c9] at h
      refine wp_iconst ⟨by decide, by decide⟩ ?_
      refine wp_goto ?_
      exact tb_X13_isRest_57 hd hS h
def b_X13_isRest_23 (T : Nat) (v0 : Int) (v2 : Int) (z0 : Int) (M : aM) : Option Int :=
 if v2 = 0 then
 b_X13_isRest_34 T v0 v2 z0 v0 1 M else
 b_X13_isRest_34 T v0 v2 z0 v0 0 M
theorem tb_X13_isRest_23 {d : Nat} (hd : 1 ≤ d) {T : T3} {v0 : Int} {v2 : Int} {z0 : Int} {u1 u3 : aV} {M : aM} {y : Int}  (hS : Sh T.1 M) (h : b_X13_isRest_23 T.1 v0 v2 z0 M = some y) : Wp d 310 23 [] [(0, v0), u1, (0, v2), u3] [(0, z0)] (M, T) (fun r2 σ2 => r2 = some (0, y) ∧ σ2 = (M, T)) := by
  rw [b_X13_isRest_23] at h
  refine y_blk (t := 23) rfl (show fnd bk_X13_isRest 23 = some _ from rfl) aB_X13_isRest ?_
  refine y_stn (L1 := [(0, v0), u1, (0, v2), (0, z0)]) (Nat.le_of_ble_eq_true rfl) rfl ?_
  refine wp_iload_n (v := v0) rfl ?_
  refine wp_iload_n (v := v2) rfl ?_
  refine y_nez (fun c3 => ?_) (fun c3 => ?_)
  · rw [if_neg c3] at h
    refine y_blk (t := 33) rfl (show fnd bk_X13_isRest 33 = some _ from rfl) aB_X13_isRest ?_
    refine wp_iconst ⟨by decide, by decide⟩ ?_
    exact tb_X13_isRest_34 hd hS h
  · rw [if_pos c3] at h
    refine wp_iconst ⟨by decide, by decide⟩ ?_
    refine wp_goto ?_
    exact tb_X13_isRest_34 hd hS h
def b_X13_isRest_10 (T : Nat) (v0 : Int) (v1 : Int) (z0 : Int) (M : aM) : Option Int :=
 if (arem v1 2) = 1 then
 b_X13_isRest_23 T v0 z0 1 M else
 b_X13_isRest_23 T v0 z0 0 M
theorem tb_X13_isRest_10 {d : Nat} (hd : 1 ≤ d) {T : T3} {v0 : Int} {v1 : Int} {z0 : Int} {u2 u3 : aV} {M : aM} {y : Int}  (hS : Sh T.1 M) (h : b_X13_isRest_10 T.1 v0 v1 z0 M = some y) : Wp d 310 10 [] [(0, v0), (0, v1), u2, u3] [(0, z0)] (M, T) (fun r2 σ2 => r2 = some (0, y) ∧ σ2 = (M, T)) := by
  rw [b_X13_isRest_10] at h
  refine y_blk (t := 10) rfl (show fnd bk_X13_isRest 10 = some _ from rfl) aB_X13_isRest ?_
  refine y_stn (L1 := [(0, v0), (0, v1), (0, z0), u3]) (Nat.le_of_ble_eq_true rfl) rfl ?_
  refine wp_iload_n (v := v1) rfl ?_
  refine wp_iconst ⟨by decide, by decide⟩ ?_
  refine wp_irem (by decide) ?_
  refine wp_iconst ⟨by decide, by decide⟩ ?_
  refine y_ne (fun c2 => ?_) (fun c2 => ?_)
  · rw [if_neg c2] at h
    refine y_blk (t := 22) rfl (show fnd bk_X13_isRest 22 = some _ from rfl) aB_X13_isRest ?_
    refine wp_iconst ⟨by decide, by decide⟩ ?_
    exact tb_X13_isRest_23 hd hS h
  · rw [if_pos c2] at h
    refine wp_iconst ⟨by decide, by decide⟩ ?_
    refine wp_goto ?_
    exact tb_X13_isRest_23 hd hS h
def f_X13_isRest (T : Nat) (v0 : Int) (v1 : Int) (M : aM) : Option Int :=
 if v1 ≤ 1 then
 b_X13_isRest_10 T v0 v1 0 M else
 b_X13_isRest_10 T v0 v1 1 M
theorem t_X13_isRest {T : T3} {v0 : Int} {v1 : Int} {M : aM} {y : Int}  (hS : Sh T.1 M) (h : f_X13_isRest T.1 v0 v1 M = some y) : Mr 1 310 [(0, v0), (0, v1)] M (some (0, y)) M T := by
  have key : ∀ d, 1 ≤ d → Wp d 310 0 [] [(0, v0), (0, v1), (9, 0), (9, 0)] [] (M, T) (fun r2 σ2 => r2 = some (0, y) ∧ σ2 = (M, T)) := by
    intro d hd
    rw [f_X13_isRest] at h
    refine y_blk (t := 0) rfl (show fnd bk_X13_isRest 0 = some _ from rfl) aB_X13_isRest ?_
    refine wp_iload_n (v := v1) rfl ?_
    refine wp_iconst ⟨by decide, by decide⟩ ?_
    refine wp_icmp_le (fun c1 => ?_) (fun c1 => ?_)
    · rw [if_pos c1] at h
      refine y_blk (t := 9) rfl (show fnd bk_X13_isRest 9 = some _ from rfl) aB_X13_isRest ?_
      refine wp_iconst ⟨by decide, by decide⟩ ?_
      exact tb_X13_isRest_10 hd hS h
    · rw [if_neg c1] at h
      refine wp_iconst ⟨by decide, by decide⟩ ?_
      refine wp_goto ?_
      exact tb_X13_isRest_10 hd hS h
  exact fun d hd => Ms.of (key d hd)
theorem aB_X13_rests : ∀ pc, aB 311 pc = fnd bk_X13_rests pc := fun _ => rfl
def l_X13_rests_26 (T : Nat) (v1 : Int) (M : aM) (k : Int → Int → Option (Int × aM)) : Nat → Int → Int → Option (Int × aM)
| 0, _, _ => none
| n + 1, v3, v4 =>
 if 4 ≤ v4 then
 k v3 v4 else
 (f_X13_isRest T v1 v4 M).bind fun x7 =>
 if x7 = 0 then
 if aIn (v3 + 0) then
 if aIn (v4 + 1) then
 l_X13_rests_26 T v1 M k n (v3 + 0) (v4 + 1) else none else none else
 if aIn (v3 + 1) then
 if aIn (v4 + 1) then
 l_X13_rests_26 T v1 M k n (v3 + 1) (v4 + 1) else none else none
theorem tl_X13_rests_26 {d : Nat} (hd : 2 ≤ d) {T : T3} {v1 : Int} {M : aM} {k : Int → Int → Option (Int × aM)} {y : (Int × aM)}  (hS : Sh T.1 M)
    (hk : ∀ (v3 v4 : Int) (u2 : aV), Sh T.1 M → k v3 v4 = some y → Wp d 311 55 [] [(2, ((138 : Nat) : Int)), (0, v1), u2, (0, v3), (0, v4)] [] (M, T) (fun r2 σ2 => r2 = some (0, y.1) ∧ σ2 = (y.2, T) ∧ Sh T.1 y.2)) :
    ∀ (n : Nat) (v3 v4 : Int) (u2 : aV), Sh T.1 M → l_X13_rests_26 T.1 v1 M k n v3 v4 = some y → Wp d 311 26 [] [(2, ((138 : Nat) : Int)), (0, v1), u2, (0, v3), (0, v4)] [] (M, T) (fun r2 σ2 => r2 = some (0, y.1) ∧ σ2 = (y.2, T) ∧ Sh T.1 y.2) := by
  intro n
  induction n with
  | zero =>
    intro v3 v4 u2 _ h
    exact nomatch (show (none : Option (Int × aM)) = some y from h)
  | succ n ih =>
    intro v3 v4 u2 sM h
    rw [l_X13_rests_26] at h
    refine y_blk (t := 26) rfl (show fnd bk_X13_rests 26 = some _ from rfl) aB_X13_rests ?_
    refine wp_iload (v := v4) rfl ?_
    refine wp_iconst ⟨by decide, by decide⟩ ?_
    refine wp_icmp_ge (fun c6 => ?_) (fun c6 => ?_)
    · rw [if_pos c6] at h
      exact hk v3 v4 u2  sM h
    · rw [if_neg c6] at h
      refine wp_iload_n (v := v3) rfl ?_
      refine wp_iload_n (v := v1) rfl ?_
      refine wp_iload (v := v4) rfl ?_
      obtain ⟨x7, e8, h⟩ := d_bind h
      refine y_callS (as := [(0, v1), (0, v4)]) (S1 := [(0, v3)]) (Nat.le_of_ble_eq_true rfl) (by omega) (t_X13_isRest sM e8) (Nat.le_of_ble_eq_true rfl) rfl (Nat.le_of_ble_eq_true rfl) (Nat.le_of_ble_eq_true rfl) rfl ?_
      refine wp_if_eq (fun c9 => ?_) (fun c9 => ?_)
      · rw [if_pos c9] at h
        refine y_blk (t := 46) rfl (show fnd bk_X13_rests 46 = some _ from rfl) aB_X13_rests ?_
        refine wp_iconst ⟨by decide, by decide⟩ ?_
        refine y_blk (t := 47) rfl (show fnd bk_X13_rests 47 = some _ from rfl) aB_X13_rests ?_
        obtain ⟨c10, h⟩ := d_ite h
        refine wp_iadd c10 ?_
        refine y_stn (L1 := [(2, ((138 : Nat) : Int)), (0, v1), (ajk u2), (0, (v3 + 0)), (0, v4)]) (Nat.le_of_ble_eq_true rfl) (aset_jk (q := 2) (u := u2) rfl) ?_
        obtain ⟨c11, h⟩ := d_ite h
        refine y_iinc (L1 := [(2, ((138 : Nat) : Int)), (0, v1), (ajk u2), (0, (v3 + 0)), (0, (v4 + 1))]) rfl (Nat.le_of_ble_eq_true rfl) ⟨by decide, by decide⟩ c11 rfl ?_
        refine wp_goto ?_
        exact ih (v3 + 0) (v4 + 1) (ajk u2)  sM h
      · rw [if_neg c9] at h
        refine wp_iconst ⟨by decide, by decide⟩ ?_
        refine wp_goto ?_
        refine y_blk (t := 47) rfl (show fnd bk_X13_rests 47 = some _ from rfl) aB_X13_rests ?_
        obtain ⟨c12, h⟩ := d_ite h
        refine wp_iadd c12 ?_
        refine y_stn (L1 := [(2, ((138 : Nat) : Int)), (0, v1), (ajk u2), (0, (v3 + 1)), (0, v4)]) (Nat.le_of_ble_eq_true rfl) (aset_jk (q := 2) (u := u2) rfl) ?_
        obtain ⟨c13, h⟩ := d_ite h
        refine y_iinc (L1 := [(2, ((138 : Nat) : Int)), (0, v1), (ajk u2), (0, (v3 + 1)), (0, (v4 + 1))]) rfl (Nat.le_of_ble_eq_true rfl) ⟨by decide, by decide⟩ c13 rfl ?_
        refine wp_goto ?_
        exact ih (v3 + 1) (v4 + 1) (ajk u2)  sM h
def f_X13_rests (T : Nat) (v1 : Int) (M : aM) : Option (Int × aM) :=
 (some (aup M 138 0 0)).bind fun m1 =>
 (f_X13_refusesFear T v1 m1).bind fun x3 =>
 if x3 ≤ 0 then
 l_X13_rests_26 T v1 m1 (fun w14 w15 =>
 (f_X13_good T w14 m1).bind fun x18 =>
 some (x18.1, x18.2)) FU 0 0 else
 (f_X13_refused T x3 m1).bind fun x22 =>
 some (x22.1, x22.2)
theorem t_X13_rests {T : T3} {v1 : Int} {M : aM} {y : (Int × aM)}  (hS : Sh T.1 M) (h : f_X13_rests T.1 v1 M = some y) : Mr 2 311 [(2, ((138 : Nat) : Int)), (0, v1)] M (some (0, y.1)) y.2 T ∧ Sh T.1 y.2 := by
  have key : ∀ d, 2 ≤ d → Wp d 311 0 [] [(2, ((138 : Nat) : Int)), (0, v1), (9, 0), (9, 0), (9, 0)] [] (M, T) (fun r2 σ2 => r2 = some (0, y.1) ∧ σ2 = (y.2, T) ∧ Sh T.1 y.2) := by
    intro d hd
    rw [f_X13_rests] at h
    refine y_blk (t := 0) rfl (show fnd bk_X13_rests 0 = some _ from rfl) aB_X13_rests ?_
    refine wp_aload_n (v := ((138 : Nat) : Int)) rfl (Int.natCast_nonneg _) ?_
    refine wp_iconst ⟨by decide, by decide⟩ ?_
    refine y_put (show ash 138 = (13, 38) from rfl) (Nat.lt_of_lt_of_le (show 138 < 154 by decide) hS.1.1) rfl ?_
    obtain ⟨m1, em1, h⟩ := d_bind h
    have em1 := Option.some.inj em1
    have s2 : Sh T.1 m1 := em1 ▸ hS.up (Or.inr ⟨by rw [(show ash 138 = (13, 38) from rfl)]; decide, by rw [(show ash 138 = (13, 38) from rfl)]; decide⟩) (by have := (Nat.lt_of_lt_of_le (show 138 < 154 by decide) hS.1.1); have := hS.1.2; omega)
    rw [em1]
    refine wp_aload_n (v := ((138 : Nat) : Int)) rfl (Int.natCast_nonneg _) ?_
    refine wp_iload_n (v := v1) rfl ?_
    obtain ⟨x3, e4, h⟩ := d_bind h
    refine y_callV (as := [(0, v1)]) (S1 := []) (Nat.le_of_ble_eq_true rfl) (by omega) (t_X13_refusesFear s2 e4) (Nat.le_of_ble_eq_true rfl) rfl (show ash 138 = (13, 38) from rfl) (Nat.lt_of_lt_of_le (show 138 < 154 by decide) hS.1.1) (Nat.le_of_ble_eq_true rfl) (Nat.le_of_ble_eq_true rfl) rfl ?_
    refine y_stn (L1 := [(2, ((138 : Nat) : Int)), (0, v1), (0, x3), (9, 0), (9, 0)]) (Nat.le_of_ble_eq_true rfl) rfl ?_
    refine wp_iload_n (v := x3) rfl ?_
    refine wp_if_le (fun c5 => ?_) (fun c5 => ?_)
    · rw [if_pos c5] at h
      refine y_blk (t := 21) rfl (show fnd bk_X13_rests 21 = some _ from rfl) aB_X13_rests ?_
      refine wp_iconst ⟨by decide, by decide⟩ ?_
      refine y_stn (L1 := [(2, ((138 : Nat) : Int)), (0, v1), (0, x3), (0, 0), (9, 0)]) (Nat.le_of_ble_eq_true rfl) rfl ?_
      refine wp_iconst ⟨by decide, by decide⟩ ?_
      refine y_st (L1 := [(2, ((138 : Nat) : Int)), (0, v1), (0, x3), (0, 0), (0, 0)]) (Nat.le_of_ble_eq_true rfl) rfl ?_
      refine tl_X13_rests_26 (by omega) s2 (fun w14 w15 u16  s17 h => ?_) FU 0 0 (0, x3)  s2 h
      refine y_blk (t := 55) rfl (show fnd bk_X13_rests 55 = some _ from rfl) aB_X13_rests ?_
      refine wp_aload_n (v := ((138 : Nat) : Int)) rfl (Int.natCast_nonneg _) ?_
      refine wp_iload_n (v := w14) rfl ?_
      obtain ⟨x18, e19, h⟩ := d_bind h
      obtain ⟨r20, s21⟩ := t_X13_good s17 e19
      refine y_callV (as := [(0, w14)]) (S1 := []) (Nat.le_of_ble_eq_true rfl) (by omega) r20 (Nat.le_of_ble_eq_true rfl) rfl (show ash 138 = (13, 38) from rfl) (Nat.lt_of_lt_of_le (show 138 < 154 by decide) hS.1.1) (Nat.le_of_ble_eq_true rfl) (Nat.le_of_ble_eq_true rfl) rfl ?_
      cases h
      exact y_ret0 (Or.inl rfl) ⟨rfl, rfl, s21⟩
    · rw [if_neg c5] at h
      refine wp_aload_n (v := ((138 : Nat) : Int)) rfl (Int.natCast_nonneg _) ?_
      refine wp_iload_n (v := x3) rfl ?_
      obtain ⟨x22, e23, h⟩ := d_bind h
      obtain ⟨r24, s25⟩ := t_X13_refused s2 e23
      refine y_callV (as := [(0, x3)]) (S1 := []) (Nat.le_of_ble_eq_true rfl) (by omega) r24 (Nat.le_of_ble_eq_true rfl) rfl (show ash 138 = (13, 38) from rfl) (Nat.lt_of_lt_of_le (show 138 < 154 by decide) hS.1.1) (Nat.le_of_ble_eq_true rfl) (Nat.le_of_ble_eq_true rfl) rfl ?_
      cases h
      exact y_ret0 (Or.inl rfl) ⟨rfl, rfl, s25⟩
  exact ⟨fun d hd => Ms.of3 (key d hd), Ms.sh (key 2 (Nat.le_refl _))⟩
theorem aB_X13_rest : ∀ pc, aB 312 pc = fnd bk_X13_rest pc := fun _ => rfl
def l_X13_rest_23 (T : Nat) (v1 : Int) (M : aM) (k : Int → Option (Int × aM)) : Nat → Int → Option (Int × aM)
| 0, _ => none
| n + 1, v3 =>
 if 4 ≤ v3 then
 k v3 else
 (f_X13_isRest T v1 v3 M).bind fun x7 =>
 if x7 = 0 then
 if aIn (v3 + 1) then
 l_X13_rest_23 T v1 M k n (v3 + 1) else none else
 if aIn (10 * (adiv v3 2)) then
 if aIn ((10 * (adiv v3 2)) + (arem v3 2)) then
 (f_X13_good T ((10 * (adiv v3 2)) + (arem v3 2)) M).bind fun x13 =>
 some (x13.1, x13.2) else none else none
theorem tl_X13_rest_23 {d : Nat} (hd : 2 ≤ d) {T : T3} {v1 : Int} {M : aM} {k : Int → Option (Int × aM)} {y : (Int × aM)}  (hS : Sh T.1 M)
    (hk : ∀ (v3 : Int) (u2 : aV), Sh T.1 M → k v3 = some y → Wp d 312 57 [] [(2, ((138 : Nat) : Int)), (0, v1), u2, (0, v3)] [] (M, T) (fun r2 σ2 => r2 = some (0, y.1) ∧ σ2 = (y.2, T) ∧ Sh T.1 y.2)) :
    ∀ (n : Nat) (v3 : Int) (u2 : aV), Sh T.1 M → l_X13_rest_23 T.1 v1 M k n v3 = some y → Wp d 312 23 [] [(2, ((138 : Nat) : Int)), (0, v1), u2, (0, v3)] [] (M, T) (fun r2 σ2 => r2 = some (0, y.1) ∧ σ2 = (y.2, T) ∧ Sh T.1 y.2) := by
  intro n
  induction n with
  | zero =>
    intro v3 u2 _ h
    exact nomatch (show (none : Option (Int × aM)) = some y from h)
  | succ n ih =>
    intro v3 u2 sM h
    rw [l_X13_rest_23] at h
    refine y_blk (t := 23) rfl (show fnd bk_X13_rest 23 = some _ from rfl) aB_X13_rest ?_
    refine wp_iload_n (v := v3) rfl ?_
    refine wp_iconst ⟨by decide, by decide⟩ ?_
    refine wp_icmp_ge (fun c6 => ?_) (fun c6 => ?_)
    · rw [if_pos c6] at h
      exact hk v3 u2  sM h
    · rw [if_neg c6] at h
      refine wp_iload_n (v := v1) rfl ?_
      refine wp_iload_n (v := v3) rfl ?_
      obtain ⟨x7, e8, h⟩ := d_bind h
      refine y_callS (as := [(0, v1), (0, v3)]) (S1 := []) (Nat.le_of_ble_eq_true rfl) (by omega) (t_X13_isRest sM e8) (Nat.le_of_ble_eq_true rfl) rfl (Nat.le_of_ble_eq_true rfl) (Nat.le_of_ble_eq_true rfl) rfl ?_
      refine wp_if_eq (fun c9 => ?_) (fun c9 => ?_)
      · rw [if_pos c9] at h
        refine y_blk (t := 51) rfl (show fnd bk_X13_rest 51 = some _ from rfl) aB_X13_rest ?_
        obtain ⟨c10, h⟩ := d_ite h
        refine y_iinc (L1 := [(2, ((138 : Nat) : Int)), (0, v1), (ajk u2), (0, (v3 + 1))]) rfl (Nat.le_of_ble_eq_true rfl) ⟨by decide, by decide⟩ c10 (aset_jk (q := 2) (u := u2) rfl) ?_
        refine wp_goto ?_
        exact ih (v3 + 1) (ajk u2)  sM h
      · rw [if_neg c9] at h
        refine wp_aload_n (v := ((138 : Nat) : Int)) rfl (Int.natCast_nonneg _) ?_
        refine wp_bipush (by decide) ?_
        refine wp_iload_n (v := v3) rfl ?_
        refine wp_iconst ⟨by decide, by decide⟩ ?_
        refine wp_idiv (by decide) ?_
        obtain ⟨c11, h⟩ := d_ite h
        refine wp_imul c11 ?_
        refine wp_iload_n (v := v3) rfl ?_
        refine wp_iconst ⟨by decide, by decide⟩ ?_
        refine wp_irem (by decide) ?_
        obtain ⟨c12, h⟩ := d_ite h
        refine wp_iadd c12 ?_
        obtain ⟨x13, e14, h⟩ := d_bind h
        obtain ⟨r15, s16⟩ := t_X13_good sM e14
        refine y_callV (as := [(0, ((10 * (adiv v3 2)) + (arem v3 2)))]) (S1 := []) (Nat.le_of_ble_eq_true rfl) (by omega) r15 (Nat.le_of_ble_eq_true rfl) rfl (show ash 138 = (13, 38) from rfl) (Nat.lt_of_lt_of_le (show 138 < 154 by decide) hS.1.1) (Nat.le_of_ble_eq_true rfl) (Nat.le_of_ble_eq_true rfl) rfl ?_
        cases h
        exact y_ret0 (Or.inl rfl) ⟨rfl, rfl, s16⟩
def f_X13_rest (T : Nat) (v1 : Int) (M : aM) : Option (Int × aM) :=
 (some (aup M 138 0 0)).bind fun m1 =>
 (f_X13_refusesFear T v1 m1).bind fun x3 =>
 if x3 ≤ 0 then
 l_X13_rest_23 T v1 m1 (fun w17 =>
 (f_X13_good T (-2) m1).bind fun x20 =>
 some (x20.1, x20.2)) FU 0 else
 (f_X13_refused T x3 m1).bind fun x24 =>
 some (x24.1, x24.2)
theorem t_X13_rest {T : T3} {v1 : Int} {M : aM} {y : (Int × aM)}  (hS : Sh T.1 M) (h : f_X13_rest T.1 v1 M = some y) : Mr 2 312 [(2, ((138 : Nat) : Int)), (0, v1)] M (some (0, y.1)) y.2 T ∧ Sh T.1 y.2 := by
  have key : ∀ d, 2 ≤ d → Wp d 312 0 [] [(2, ((138 : Nat) : Int)), (0, v1), (9, 0), (9, 0)] [] (M, T) (fun r2 σ2 => r2 = some (0, y.1) ∧ σ2 = (y.2, T) ∧ Sh T.1 y.2) := by
    intro d hd
    rw [f_X13_rest] at h
    refine y_blk (t := 0) rfl (show fnd bk_X13_rest 0 = some _ from rfl) aB_X13_rest ?_
    refine wp_aload_n (v := ((138 : Nat) : Int)) rfl (Int.natCast_nonneg _) ?_
    refine wp_iconst ⟨by decide, by decide⟩ ?_
    refine y_put (show ash 138 = (13, 38) from rfl) (Nat.lt_of_lt_of_le (show 138 < 154 by decide) hS.1.1) rfl ?_
    obtain ⟨m1, em1, h⟩ := d_bind h
    have em1 := Option.some.inj em1
    have s2 : Sh T.1 m1 := em1 ▸ hS.up (Or.inr ⟨by rw [(show ash 138 = (13, 38) from rfl)]; decide, by rw [(show ash 138 = (13, 38) from rfl)]; decide⟩) (by have := (Nat.lt_of_lt_of_le (show 138 < 154 by decide) hS.1.1); have := hS.1.2; omega)
    rw [em1]
    refine wp_aload_n (v := ((138 : Nat) : Int)) rfl (Int.natCast_nonneg _) ?_
    refine wp_iload_n (v := v1) rfl ?_
    obtain ⟨x3, e4, h⟩ := d_bind h
    refine y_callV (as := [(0, v1)]) (S1 := []) (Nat.le_of_ble_eq_true rfl) (by omega) (t_X13_refusesFear s2 e4) (Nat.le_of_ble_eq_true rfl) rfl (show ash 138 = (13, 38) from rfl) (Nat.lt_of_lt_of_le (show 138 < 154 by decide) hS.1.1) (Nat.le_of_ble_eq_true rfl) (Nat.le_of_ble_eq_true rfl) rfl ?_
    refine y_stn (L1 := [(2, ((138 : Nat) : Int)), (0, v1), (0, x3), (9, 0)]) (Nat.le_of_ble_eq_true rfl) rfl ?_
    refine wp_iload_n (v := x3) rfl ?_
    refine wp_if_le (fun c5 => ?_) (fun c5 => ?_)
    · rw [if_pos c5] at h
      refine y_blk (t := 21) rfl (show fnd bk_X13_rest 21 = some _ from rfl) aB_X13_rest ?_
      refine wp_iconst ⟨by decide, by decide⟩ ?_
      refine y_stn (L1 := [(2, ((138 : Nat) : Int)), (0, v1), (0, x3), (0, 0)]) (Nat.le_of_ble_eq_true rfl) rfl ?_
      refine tl_X13_rest_23 (by omega) s2 (fun w17 u18  s19 h => ?_) FU 0 (0, x3)  s2 h
      refine y_blk (t := 57) rfl (show fnd bk_X13_rest 57 = some _ from rfl) aB_X13_rest ?_
      refine wp_aload_n (v := ((138 : Nat) : Int)) rfl (Int.natCast_nonneg _) ?_
      refine wp_bipush (by decide) ?_
      obtain ⟨x20, e21, h⟩ := d_bind h
      obtain ⟨r22, s23⟩ := t_X13_good s19 e21
      refine y_callV (as := [(0, (-2))]) (S1 := []) (Nat.le_of_ble_eq_true rfl) (by omega) r22 (Nat.le_of_ble_eq_true rfl) rfl (show ash 138 = (13, 38) from rfl) (Nat.lt_of_lt_of_le (show 138 < 154 by decide) hS.1.1) (Nat.le_of_ble_eq_true rfl) (Nat.le_of_ble_eq_true rfl) rfl ?_
      cases h
      exact y_ret0 (Or.inl rfl) ⟨rfl, rfl, s23⟩
    · rw [if_neg c5] at h
      refine wp_aload_n (v := ((138 : Nat) : Int)) rfl (Int.natCast_nonneg _) ?_
      refine wp_iload_n (v := x3) rfl ?_
      obtain ⟨x24, e25, h⟩ := d_bind h
      obtain ⟨r26, s27⟩ := t_X13_refused s2 e25
      refine y_callV (as := [(0, x3)]) (S1 := []) (Nat.le_of_ble_eq_true rfl) (by omega) r26 (Nat.le_of_ble_eq_true rfl) rfl (show ash 138 = (13, 38) from rfl) (Nat.lt_of_lt_of_le (show 138 < 154 by decide) hS.1.1) (Nat.le_of_ble_eq_true rfl) (Nat.le_of_ble_eq_true rfl) rfl ?_
      cases h
      exact y_ret0 (Or.inl rfl) ⟨rfl, rfl, s27⟩
  exact ⟨fun d hd => Ms.of3 (key d hd), Ms.sh (key 2 (Nat.le_refl _))⟩
theorem aB_X13_partOf : ∀ pc, aB 313 pc = fnd bk_X13_partOf pc := fun _ => rfl
def l_X13_partOf_10 (T : Nat) (v1 : Int) (k : Int → Int → aM → Option (Int × aM)) : Nat → Int → Int → aM → Option (Int × aM)
| 0, _, _, _ => none
| n + 1, v2, v4, M =>
 if okW T (M 138 3) then
 if (M (M 138 3).toNat 5) ≤ v4 then
 k v2 v4 M else
 (f_X13_bit T (M 140 10) v4 M).bind fun x5 =>
 if x5 = 0 then
 if aIn (v4 + 1) then
 l_X13_partOf_10 T v1 k n v2 (v4 + 1) M else none else
 (f_X13_bit T v1 v4 M).bind fun x8 =>
 if x8 = 0 then
 if aInL (v2 * (M (M 138 3).toNat 2)) then
 if aInL ((M 138 36) * 100) then
 (some (aup M 138 36 ((M 138 36) * 100))).bind fun m13 =>
 if aIn (v4 + 1) then
 l_X13_partOf_10 T v1 k n (v2 * (M (M 138 3).toNat 2)) (v4 + 1) m13 else none else none else none else
 if aIn (100 - (M (M 138 3).toNat 2)) then
 if aInL (v2 * (100 - (M (M 138 3).toNat 2))) then
 if aInL ((M 138 36) * 100) then
 (some (aup M 138 36 ((M 138 36) * 100))).bind fun m19 =>
 if aIn (v4 + 1) then
 l_X13_partOf_10 T v1 k n (v2 * (100 - (M (M 138 3).toNat 2))) (v4 + 1) m19 else none else none else none else none else none
theorem tl_X13_partOf_10 {d : Nat} (hd : 1 ≤ d) {T : T3} {v1 : Int} {k : Int → Int → aM → Option (Int × aM)} {y : (Int × aM)}  {M0 : aM} (hS : Sh T.1 M0)
    (hk : ∀ (v2 v4 : Int) (M : aM), Sh T.1 M → k v2 v4 M = some y → Wp d 313 92 [] [(2, ((138 : Nat) : Int)), (0, v1), (1, v2), (9, 0), (0, v4)] [] (M, T) (fun r2 σ2 => r2 = some (1, y.1) ∧ σ2 = (y.2, T) ∧ Sh T.1 y.2)) :
    ∀ (n : Nat) (v2 v4 : Int) (M : aM), Sh T.1 M → l_X13_partOf_10 T.1 v1 k n v2 v4 M = some y → Wp d 313 10 [] [(2, ((138 : Nat) : Int)), (0, v1), (1, v2), (9, 0), (0, v4)] [] (M, T) (fun r2 σ2 => r2 = some (1, y.1) ∧ σ2 = (y.2, T) ∧ Sh T.1 y.2) := by
  intro n
  induction n with
  | zero =>
    intro v2 v4 M _ h
    exact nomatch (show (none : Option (Int × aM)) = some y from h)
  | succ n ih =>
    intro v2 v4 M sM h
    rw [l_X13_partOf_10] at h
    refine y_blk (t := 10) rfl (show fnd bk_X13_partOf 10 = some _ from rfl) aB_X13_partOf ?_
    refine wp_iload (v := v4) rfl ?_
    refine wp_aload_n (v := ((138 : Nat) : Int)) rfl (Int.natCast_nonneg _) ?_
    obtain ⟨c3, h⟩ := d_ite h
    refine y_get (show ash 138 = (13, 38) from rfl) (Nat.lt_of_lt_of_le (show 138 < 154 by decide) hS.1.1) (v := (((M 138 3).toNat : Nat) : Int)) c3.eq rfl ?_
    refine y_get (aW0 hS.1.2 c3.is) (ltW c3.is 0 (by decide)) (v := M (M 138 3).toNat 5) rfl rfl ?_
    refine wp_icmp_ge (fun c4 => ?_) (fun c4 => ?_)
    · rw [if_pos c4] at h
      exact hk v2 v4  M sM h
    · rw [if_neg c4] at h
      refine wp_aload_n (v := ((138 : Nat) : Int)) rfl (Int.natCast_nonneg _) ?_
      refine y_get (show ash 138 = (13, 38) from rfl) (Nat.lt_of_lt_of_le (show 138 < 154 by decide) hS.1.1) (v := ((140 : Nat) : Int)) (sM.at 138 16 140 (by decide +kernel)) rfl ?_
      refine wp_bipush (by decide) ?_
      refine y_iald (show ash 140 = (100, 12) from rfl) (Or.inl (Nat.lt_of_lt_of_le (show 140 < 154 by decide) hS.1.1)) (Nat.ne_of_lt (Nat.lt_of_lt_of_le (Nat.lt_of_lt_of_le (show 140 < 154 by decide) hS.1.1) hS.1.2)) ⟨by decide, by decide⟩ (v := M 140 10) rfl ?_
      refine wp_iload (v := v4) rfl ?_
      obtain ⟨x5, e6, h⟩ := d_bind h
      refine y_callS (as := [(0, (M 140 10)), (0, v4)]) (S1 := []) (Nat.le_of_ble_eq_true rfl) (by omega) (t_X13_bit sM e6) (Nat.le_of_ble_eq_true rfl) rfl (Nat.le_of_ble_eq_true rfl) (Nat.le_of_ble_eq_true rfl) rfl ?_
      refine y_nez (fun c7 => ?_) (fun c7 => ?_)
      · rw [if_neg c7] at h
        refine y_blk (t := 40) rfl (show fnd bk_X13_partOf 40 = some _ from rfl) aB_X13_partOf ?_
        refine wp_lload_n (v := v2) rfl ?_
        refine wp_iload_n (v := v1) rfl ?_
        refine wp_iload (v := v4) rfl ?_
        obtain ⟨x8, e9, h⟩ := d_bind h
        refine y_callS (as := [(0, v1), (0, v4)]) (S1 := [(1, v2)]) (Nat.le_of_ble_eq_true rfl) (by omega) (t_X13_bit sM e9) (Nat.le_of_ble_eq_true rfl) rfl (Nat.le_of_ble_eq_true rfl) (Nat.le_of_ble_eq_true rfl) rfl ?_
        refine wp_if_eq (fun c10 => ?_) (fun c10 => ?_)
        · rw [if_pos c10] at h
          refine y_blk (t := 64) rfl (show fnd bk_X13_partOf 64 = some _ from rfl) aB_X13_partOf ?_
          refine wp_aload_n (v := ((138 : Nat) : Int)) rfl (Int.natCast_nonneg _) ?_
          refine y_get (show ash 138 = (13, 38) from rfl) (Nat.lt_of_lt_of_le (show 138 < 154 by decide) hS.1.1) (v := (((M 138 3).toNat : Nat) : Int)) c3.eq rfl ?_
          refine y_get (aW0 hS.1.2 c3.is) (ltW c3.is 0 (by decide)) (v := M (M 138 3).toNat 2) rfl rfl ?_
          refine wp_i2l ?_
          refine y_blk (t := 72) rfl (show fnd bk_X13_partOf 72 = some _ from rfl) aB_X13_partOf ?_
          obtain ⟨c11, h⟩ := d_ite h
          refine wp_lmul c11 ?_
          refine y_lstn (L1 := [(2, ((138 : Nat) : Int)), (0, v1), (1, (v2 * (M (M 138 3).toNat 2))), (9, 0), (0, v4)]) (Nat.le_of_ble_eq_true rfl) rfl ?_
          refine wp_aload_n (v := ((138 : Nat) : Int)) rfl (Int.natCast_nonneg _) ?_
          refine wp_dup (Or.inr rfl) ?_
          refine y_get (show ash 138 = (13, 38) from rfl) (Nat.lt_of_lt_of_le (show 138 < 154 by decide) hS.1.1) (v := M 138 36) rfl rfl ?_
          refine y_ldc2 (v := 100) (by decide) rfl ?_
          obtain ⟨c12, h⟩ := d_ite h
          refine wp_lmul c12 ?_
          refine y_put (show ash 138 = (13, 38) from rfl) (Nat.lt_of_lt_of_le (show 138 < 154 by decide) hS.1.1) rfl ?_
          obtain ⟨m13, em13, h⟩ := d_bind h
          have em13 := Option.some.inj em13
          have s14 : Sh T.1 m13 := em13 ▸ sM.up (Or.inr ⟨by rw [(show ash 138 = (13, 38) from rfl)]; decide, by rw [(show ash 138 = (13, 38) from rfl)]; decide⟩) (by have := (Nat.lt_of_lt_of_le (show 138 < 154 by decide) hS.1.1); have := hS.1.2; omega)
          rw [em13]
          refine y_blk (t := 86) rfl (show fnd bk_X13_partOf 86 = some _ from rfl) aB_X13_partOf ?_
          obtain ⟨c15, h⟩ := d_ite h
          refine y_iinc (L1 := [(2, ((138 : Nat) : Int)), (0, v1), (1, (v2 * (M (M 138 3).toNat 2))), (9, 0), (0, (v4 + 1))]) rfl (Nat.le_of_ble_eq_true rfl) ⟨by decide, by decide⟩ c15 rfl ?_
          refine wp_goto ?_
          exact ih (v2 * (M (M 138 3).toNat 2)) (v4 + 1)  m13 s14 h
        · rw [if_neg c10] at h
          refine wp_bipush (by decide) ?_
          refine wp_aload_n (v := ((138 : Nat) : Int)) rfl (Int.natCast_nonneg _) ?_
          refine y_get (show ash 138 = (13, 38) from rfl) (Nat.lt_of_lt_of_le (show 138 < 154 by decide) hS.1.1) (v := (((M 138 3).toNat : Nat) : Int)) c3.eq rfl ?_
          refine y_get (aW0 hS.1.2 c3.is) (ltW c3.is 0 (by decide)) (v := M (M 138 3).toNat 2) rfl rfl ?_
          obtain ⟨c16, h⟩ := d_ite h
          refine wp_isub c16 ?_
          refine wp_i2l ?_
          refine wp_goto ?_
          refine y_blk (t := 72) rfl (show fnd bk_X13_partOf 72 = some _ from rfl) aB_X13_partOf ?_
          obtain ⟨c17, h⟩ := d_ite h
          refine wp_lmul c17 ?_
          refine y_lstn (L1 := [(2, ((138 : Nat) : Int)), (0, v1), (1, (v2 * (100 - (M (M 138 3).toNat 2)))), (9, 0), (0, v4)]) (Nat.le_of_ble_eq_true rfl) rfl ?_
          refine wp_aload_n (v := ((138 : Nat) : Int)) rfl (Int.natCast_nonneg _) ?_
          refine wp_dup (Or.inr rfl) ?_
          refine y_get (show ash 138 = (13, 38) from rfl) (Nat.lt_of_lt_of_le (show 138 < 154 by decide) hS.1.1) (v := M 138 36) rfl rfl ?_
          refine y_ldc2 (v := 100) (by decide) rfl ?_
          obtain ⟨c18, h⟩ := d_ite h
          refine wp_lmul c18 ?_
          refine y_put (show ash 138 = (13, 38) from rfl) (Nat.lt_of_lt_of_le (show 138 < 154 by decide) hS.1.1) rfl ?_
          obtain ⟨m19, em19, h⟩ := d_bind h
          have em19 := Option.some.inj em19
          have s20 : Sh T.1 m19 := em19 ▸ sM.up (Or.inr ⟨by rw [(show ash 138 = (13, 38) from rfl)]; decide, by rw [(show ash 138 = (13, 38) from rfl)]; decide⟩) (by have := (Nat.lt_of_lt_of_le (show 138 < 154 by decide) hS.1.1); have := hS.1.2; omega)
          rw [em19]
          refine y_blk (t := 86) rfl (show fnd bk_X13_partOf 86 = some _ from rfl) aB_X13_partOf ?_
          obtain ⟨c21, h⟩ := d_ite h
          refine y_iinc (L1 := [(2, ((138 : Nat) : Int)), (0, v1), (1, (v2 * (100 - (M (M 138 3).toNat 2)))), (9, 0), (0, (v4 + 1))]) rfl (Nat.le_of_ble_eq_true rfl) ⟨by decide, by decide⟩ c21 rfl ?_
          refine wp_goto ?_
          exact ih (v2 * (100 - (M (M 138 3).toNat 2))) (v4 + 1)  m19 s20 h
      · rw [if_pos c7] at h
        refine wp_goto ?_
        refine y_blk (t := 86) rfl (show fnd bk_X13_partOf 86 = some _ from rfl) aB_X13_partOf ?_
        obtain ⟨c22, h⟩ := d_ite h
        refine y_iinc (L1 := [(2, ((138 : Nat) : Int)), (0, v1), (1, v2), (9, 0), (0, (v4 + 1))]) rfl (Nat.le_of_ble_eq_true rfl) ⟨by decide, by decide⟩ c22 rfl ?_
        refine wp_goto ?_
        exact ih v2 (v4 + 1)  M sM h
def f_X13_partOf (T : Nat) (v1 : Int) (M : aM) : Option (Int × aM) :=
 (some (aup M 138 36 1)).bind fun m1 =>
 l_X13_partOf_10 T v1 (fun w23 w24 m25 =>
 some (w23, m25)) FU 1 0 m1
theorem t_X13_partOf {T : T3} {v1 : Int} {M : aM} {y : (Int × aM)}  (hS : Sh T.1 M) (h : f_X13_partOf T.1 v1 M = some y) : Mr 1 313 [(2, ((138 : Nat) : Int)), (0, v1)] M (some (1, y.1)) y.2 T ∧ Sh T.1 y.2 := by
  have key : ∀ d, 1 ≤ d → Wp d 313 0 [] [(2, ((138 : Nat) : Int)), (0, v1), (9, 0), (9, 0), (9, 0)] [] (M, T) (fun r2 σ2 => r2 = some (1, y.1) ∧ σ2 = (y.2, T) ∧ Sh T.1 y.2) := by
    intro d hd
    rw [f_X13_partOf] at h
    refine y_blk (t := 0) rfl (show fnd bk_X13_partOf 0 = some _ from rfl) aB_X13_partOf ?_
    refine y_lconst (v := 1) rfl ?_
    refine y_lstn (L1 := [(2, ((138 : Nat) : Int)), (0, v1), (1, 1), (9, 0), (9, 0)]) (Nat.le_of_ble_eq_true rfl) rfl ?_
    refine wp_aload_n (v := ((138 : Nat) : Int)) rfl (Int.natCast_nonneg _) ?_
    refine y_lconst (v := 1) rfl ?_
    refine y_put (show ash 138 = (13, 38) from rfl) (Nat.lt_of_lt_of_le (show 138 < 154 by decide) hS.1.1) rfl ?_
    obtain ⟨m1, em1, h⟩ := d_bind h
    have em1 := Option.some.inj em1
    have s2 : Sh T.1 m1 := em1 ▸ hS.up (Or.inr ⟨by rw [(show ash 138 = (13, 38) from rfl)]; decide, by rw [(show ash 138 = (13, 38) from rfl)]; decide⟩) (by have := (Nat.lt_of_lt_of_le (show 138 < 154 by decide) hS.1.1); have := hS.1.2; omega)
    rw [em1]
    refine wp_iconst ⟨by decide, by decide⟩ ?_
    refine y_st (L1 := [(2, ((138 : Nat) : Int)), (0, v1), (1, 1), (9, 0), (0, 0)]) (Nat.le_of_ble_eq_true rfl) rfl ?_
    refine tl_X13_partOf_10 (by omega) hS (fun w23 w24  m25 s26 h => ?_) FU 1 0  m1 s2 h
    refine y_blk (t := 92) rfl (show fnd bk_X13_partOf 92 = some _ from rfl) aB_X13_partOf ?_
    refine wp_lload_n (v := w23) rfl ?_
    cases h
    exact wp_lreturn ⟨rfl, rfl, s26⟩
  exact ⟨fun d hd => Ms.of3 (key d hd), Ms.sh (key 1 (Nat.le_refl _))⟩
theorem aB_X13_within : ∀ pc, aB 314 pc = fnd bk_X13_within pc := fun _ => rfl
def l_X13_within_52 (T : Nat) (v1 : Int) (v2 : Int) (v3 : Int) (v4 : Int) (k : Int → Int → aM → Option (Int × aM)) : Nat → Int → Int → aM → Option (Int × aM)
| 0, _, _, _ => none
| n + 1, v5, v7, M =>
 if (M 140 10) < v7 then
 k v5 v7 M else
 if (aand v7 (axor (M 140 10) (-1))) = 0 then
 (f_X13_partOf T v7 M).bind fun x18 =>
 (f_X13_lays T v7 (-1) x18.2).bind fun x22 =>
 (f_X13_apart T v1 v2 x22.2).bind fun x26 =>
 if v3 < x26 then
 if aInL (v5 + 0) then
 if aIn (v7 + 1) then
 l_X13_within_52 T v1 v2 v3 v4 k n (v5 + 0) (v7 + 1) x22.2 else none else none else
 if aInL (v5 + x18.1) then
 if aIn (v7 + 1) then
 l_X13_within_52 T v1 v2 v3 v4 k n (v5 + x18.1) (v7 + 1) x22.2 else none else none else
 if aIn (v7 + 1) then
 l_X13_within_52 T v1 v2 v3 v4 k n v5 (v7 + 1) M else none
theorem tl_X13_within_52 {d : Nat} (hd : 2 ≤ d) {T : T3} {v1 : Int} {v2 : Int} {v3 : Int} {v4 : Int} {k : Int → Int → aM → Option (Int × aM)} {y : (Int × aM)}  {M0 : aM} (hS : Sh T.1 M0)
    (hk : ∀ (v5 v7 : Int) (u8 u9 : aV) (M : aM), Sh T.1 M → k v5 v7 M = some y → Wp d 314 124 [] [(2, ((138 : Nat) : Int)), (0, v1), (0, v2), (0, v3), (0, v4), (1, v5), (9, 0), (0, v7), u8, u9] [] (M, T) (fun r2 σ2 => r2 = some (1, y.1) ∧ σ2 = (y.2, T) ∧ Sh T.1 y.2)) :
    ∀ (n : Nat) (v5 v7 : Int) (u8 u9 : aV) (M : aM), Sh T.1 M → l_X13_within_52 T.1 v1 v2 v3 v4 k n v5 v7 M = some y → Wp d 314 52 [] [(2, ((138 : Nat) : Int)), (0, v1), (0, v2), (0, v3), (0, v4), (1, v5), (9, 0), (0, v7), u8, u9] [] (M, T) (fun r2 σ2 => r2 = some (1, y.1) ∧ σ2 = (y.2, T) ∧ Sh T.1 y.2) := by
  intro n
  induction n with
  | zero =>
    intro v5 v7 u8 u9 M _ h
    exact nomatch (show (none : Option (Int × aM)) = some y from h)
  | succ n ih =>
    intro v5 v7 u8 u9 M sM h
    rw [l_X13_within_52] at h
    refine y_blk (t := 52) rfl (show fnd bk_X13_within 52 = some _ from rfl) aB_X13_within ?_
    refine wp_iload (v := v7) rfl ?_
    refine wp_aload_n (v := ((138 : Nat) : Int)) rfl (Int.natCast_nonneg _) ?_
    refine y_get (show ash 138 = (13, 38) from rfl) (Nat.lt_of_lt_of_le (show 138 < 154 by decide) hS.1.1) (v := ((140 : Nat) : Int)) (sM.at 138 16 140 (by decide +kernel)) rfl ?_
    refine wp_bipush (by decide) ?_
    refine y_iald (show ash 140 = (100, 12) from rfl) (Or.inl (Nat.lt_of_lt_of_le (show 140 < 154 by decide) hS.1.1)) (Nat.ne_of_lt (Nat.lt_of_lt_of_le (Nat.lt_of_lt_of_le (show 140 < 154 by decide) hS.1.1) hS.1.2)) ⟨by decide, by decide⟩ (v := M 140 10) rfl ?_
    refine wp_icmp_gt (fun c16 => ?_) (fun c16 => ?_)
    · rw [if_pos c16] at h
      exact hk v5 v7 u8 u9 M sM h
    · rw [if_neg c16] at h
      refine wp_iload (v := v7) rfl ?_
      refine wp_aload_n (v := ((138 : Nat) : Int)) rfl (Int.natCast_nonneg _) ?_
      refine y_get (show ash 138 = (13, 38) from rfl) (Nat.lt_of_lt_of_le (show 138 < 154 by decide) hS.1.1) (v := ((140 : Nat) : Int)) (sM.at 138 16 140 (by decide +kernel)) rfl ?_
      refine wp_bipush (by decide) ?_
      refine y_iald (show ash 140 = (100, 12) from rfl) (Or.inl (Nat.lt_of_lt_of_le (show 140 < 154 by decide) hS.1.1)) (Nat.ne_of_lt (Nat.lt_of_lt_of_le (Nat.lt_of_lt_of_le (show 140 < 154 by decide) hS.1.1) hS.1.2)) ⟨by decide, by decide⟩ (v := M 140 10) rfl ?_
      refine wp_iconst ⟨by decide, by decide⟩ ?_
      refine wp_ixor ?_
      refine wp_iand ?_
      refine wp_if_eq (fun c17 => ?_) (fun c17 => ?_)
      · rw [if_pos c17] at h
        refine y_blk (t := 82) rfl (show fnd bk_X13_within 82 = some _ from rfl) aB_X13_within ?_
        refine wp_aload_n (v := ((138 : Nat) : Int)) rfl (Int.natCast_nonneg _) ?_
        refine wp_iload (v := v7) rfl ?_
        obtain ⟨x18, e19, h⟩ := d_bind h
        obtain ⟨r20, s21⟩ := t_X13_partOf sM e19
        refine y_callV (as := [(0, v7)]) (S1 := []) (Nat.le_of_ble_eq_true rfl) (by omega) r20 (Nat.le_of_ble_eq_true rfl) rfl (show ash 138 = (13, 38) from rfl) (Nat.lt_of_lt_of_le (show 138 < 154 by decide) hS.1.1) (Nat.le_of_ble_eq_true rfl) (Nat.le_of_ble_eq_true rfl) rfl ?_
        refine y_lst (L1 := [(2, ((138 : Nat) : Int)), (0, v1), (0, v2), (0, v3), (0, v4), (1, v5), (9, 0), (0, v7), (1, x18.1), (9, 0)]) (Nat.le_of_ble_eq_true rfl) rfl ?_
        refine wp_aload_n (v := ((138 : Nat) : Int)) rfl (Int.natCast_nonneg _) ?_
        refine wp_iload (v := v7) rfl ?_
        refine wp_iconst ⟨by decide, by decide⟩ ?_
        obtain ⟨x22, e23, h⟩ := d_bind h
        obtain ⟨r24, s25⟩ := t_X13_lays s21 e23
        refine y_callVv (as := [(0, v7), (0, (-1))]) (S1 := []) (Nat.le_of_ble_eq_true rfl) (by omega) r24 rfl (show ash 138 = (13, 38) from rfl) (Nat.lt_of_lt_of_le (show 138 < 154 by decide) hS.1.1) (Nat.le_of_ble_eq_true rfl) (Nat.le_of_ble_eq_true rfl) rfl ?_
        refine wp_lload (v := v5) rfl ?_
        refine wp_aload_n (v := ((138 : Nat) : Int)) rfl (Int.natCast_nonneg _) ?_
        refine wp_iload_n (v := v1) rfl ?_
        refine wp_iload_n (v := v2) rfl ?_
        obtain ⟨x26, e27, h⟩ := d_bind h
        refine y_callV (as := [(0, v1), (0, v2)]) (S1 := [(1, v5)]) (Nat.le_of_ble_eq_true rfl) (by omega) (t_X13_apart s25 e27) (Nat.le_of_ble_eq_true rfl) rfl (show ash 138 = (13, 38) from rfl) (Nat.lt_of_lt_of_le (show 138 < 154 by decide) hS.1.1) (Nat.le_of_ble_eq_true rfl) (Nat.le_of_ble_eq_true rfl) rfl ?_
        refine wp_iload_n (v := v3) rfl ?_
        refine wp_icmp_gt (fun c28 => ?_) (fun c28 => ?_)
        · rw [if_pos c28] at h
          refine y_blk (t := 114) rfl (show fnd bk_X13_within 114 = some _ from rfl) aB_X13_within ?_
          refine y_lconst (v := 0) rfl ?_
          refine y_blk (t := 115) rfl (show fnd bk_X13_within 115 = some _ from rfl) aB_X13_within ?_
          obtain ⟨c29, h⟩ := d_ite h
          refine wp_ladd c29 ?_
          refine y_lst (L1 := [(2, ((138 : Nat) : Int)), (0, v1), (0, v2), (0, v3), (0, v4), (1, (v5 + 0)), (9, 0), (0, v7), (1, x18.1), (9, 0)]) (Nat.le_of_ble_eq_true rfl) rfl ?_
          refine y_blk (t := 118) rfl (show fnd bk_X13_within 118 = some _ from rfl) aB_X13_within ?_
          obtain ⟨c30, h⟩ := d_ite h
          refine y_iinc (L1 := [(2, ((138 : Nat) : Int)), (0, v1), (0, v2), (0, v3), (0, v4), (1, (v5 + 0)), (9, 0), (0, (v7 + 1)), (1, x18.1), (9, 0)]) rfl (Nat.le_of_ble_eq_true rfl) ⟨by decide, by decide⟩ c30 rfl ?_
          refine wp_goto ?_
          exact ih (v5 + 0) (v7 + 1) (1, x18.1) (9, 0) x22.2 s25 h
        · rw [if_neg c28] at h
          refine wp_lload (v := x18.1) rfl ?_
          refine wp_goto ?_
          refine y_blk (t := 115) rfl (show fnd bk_X13_within 115 = some _ from rfl) aB_X13_within ?_
          obtain ⟨c31, h⟩ := d_ite h
          refine wp_ladd c31 ?_
          refine y_lst (L1 := [(2, ((138 : Nat) : Int)), (0, v1), (0, v2), (0, v3), (0, v4), (1, (v5 + x18.1)), (9, 0), (0, v7), (1, x18.1), (9, 0)]) (Nat.le_of_ble_eq_true rfl) rfl ?_
          refine y_blk (t := 118) rfl (show fnd bk_X13_within 118 = some _ from rfl) aB_X13_within ?_
          obtain ⟨c32, h⟩ := d_ite h
          refine y_iinc (L1 := [(2, ((138 : Nat) : Int)), (0, v1), (0, v2), (0, v3), (0, v4), (1, (v5 + x18.1)), (9, 0), (0, (v7 + 1)), (1, x18.1), (9, 0)]) rfl (Nat.le_of_ble_eq_true rfl) ⟨by decide, by decide⟩ c32 rfl ?_
          refine wp_goto ?_
          exact ih (v5 + x18.1) (v7 + 1) (1, x18.1) (9, 0) x22.2 s25 h
      · rw [if_neg c17] at h
        refine wp_goto ?_
        refine y_blk (t := 118) rfl (show fnd bk_X13_within 118 = some _ from rfl) aB_X13_within ?_
        obtain ⟨c33, h⟩ := d_ite h
        refine y_iinc (L1 := [(2, ((138 : Nat) : Int)), (0, v1), (0, v2), (0, v3), (0, v4), (1, v5), (9, 0), (0, (v7 + 1)), u8, u9]) rfl (Nat.le_of_ble_eq_true rfl) ⟨by decide, by decide⟩ c33 rfl ?_
        refine wp_goto ?_
        exact ih v5 (v7 + 1) u8 u9 M sM h
def f_X13_within (T : Nat) (v1 : Int) (v2 : Int) (v3 : Int) (v4 : Int) (M : aM) : Option (Int × aM) :=
 (some (aup M 138 0 0)).bind fun m1 =>
 (f_X13_isCave T v1 m1).bind fun x3 =>
 if x3 = 0 then
 (f_X13_refused T 1 m1).bind fun x6 =>
 some (x6.1, x6.2) else
 (f_X13_isCave T v2 m1).bind fun x10 =>
 if x10 = 0 then
 (f_X13_refused T 1 m1).bind fun x48 =>
 some (x48.1, x48.2) else
 (f_X13_in T v3 0 200 m1).bind fun x13 =>
 if x13 = 0 then
 (f_X13_refused T 2 m1).bind fun x44 =>
 some (x44.1, x44.2) else
 l_X13_within_52 T v1 v2 v3 v4 (fun w34 w35 m38 =>
 (f_X13_fraction T w34 (m38 138 36) v4 m38).bind fun x40 =>
 some (x40.1, x40.2)) FU 0 0 m1
theorem t_X13_within {T : T3} {v1 : Int} {v2 : Int} {v3 : Int} {v4 : Int} {M : aM} {y : (Int × aM)}  (hS : Sh T.1 M) (h : f_X13_within T.1 v1 v2 v3 v4 M = some y) : Mr 2 314 [(2, ((138 : Nat) : Int)), (0, v1), (0, v2), (0, v3), (0, v4)] M (some (1, y.1)) y.2 T ∧ Sh T.1 y.2 := by
  have key : ∀ d, 2 ≤ d → Wp d 314 0 [] [(2, ((138 : Nat) : Int)), (0, v1), (0, v2), (0, v3), (0, v4), (9, 0), (9, 0), (9, 0), (9, 0), (9, 0)] [] (M, T) (fun r2 σ2 => r2 = some (1, y.1) ∧ σ2 = (y.2, T) ∧ Sh T.1 y.2) := by
    intro d hd
    rw [f_X13_within] at h
    refine y_blk (t := 0) rfl (show fnd bk_X13_within 0 = some _ from rfl) aB_X13_within ?_
    refine wp_aload_n (v := ((138 : Nat) : Int)) rfl (Int.natCast_nonneg _) ?_
    refine wp_iconst ⟨by decide, by decide⟩ ?_
    refine y_put (show ash 138 = (13, 38) from rfl) (Nat.lt_of_lt_of_le (show 138 < 154 by decide) hS.1.1) rfl ?_
    obtain ⟨m1, em1, h⟩ := d_bind h
    have em1 := Option.some.inj em1
    have s2 : Sh T.1 m1 := em1 ▸ hS.up (Or.inr ⟨by rw [(show ash 138 = (13, 38) from rfl)]; decide, by rw [(show ash 138 = (13, 38) from rfl)]; decide⟩) (by have := (Nat.lt_of_lt_of_le (show 138 < 154 by decide) hS.1.1); have := hS.1.2; omega)
    rw [em1]
    refine wp_aload_n (v := ((138 : Nat) : Int)) rfl (Int.natCast_nonneg _) ?_
    refine wp_iload_n (v := v1) rfl ?_
    obtain ⟨x3, e4, h⟩ := d_bind h
    refine y_callV (as := [(0, v1)]) (S1 := []) (Nat.le_of_ble_eq_true rfl) (by omega) (t_X13_isCave s2 e4) (Nat.le_of_ble_eq_true rfl) rfl (show ash 138 = (13, 38) from rfl) (Nat.lt_of_lt_of_le (show 138 < 154 by decide) hS.1.1) (Nat.le_of_ble_eq_true rfl) (Nat.le_of_ble_eq_true rfl) rfl ?_
    refine wp_if_eq (fun c5 => ?_) (fun c5 => ?_)
    · rw [if_pos c5] at h
      refine y_blk (t := 21) rfl (show fnd bk_X13_within 21 = some _ from rfl) aB_X13_within ?_
      refine wp_aload_n (v := ((138 : Nat) : Int)) rfl (Int.natCast_nonneg _) ?_
      refine wp_iconst ⟨by decide, by decide⟩ ?_
      obtain ⟨x6, e7, h⟩ := d_bind h
      obtain ⟨r8, s9⟩ := t_X13_refused s2 e7
      refine y_callV (as := [(0, 1)]) (S1 := []) (Nat.le_of_ble_eq_true rfl) (by omega) r8 (Nat.le_of_ble_eq_true rfl) rfl (show ash 138 = (13, 38) from rfl) (Nat.lt_of_lt_of_le (show 138 < 154 by decide) hS.1.1) (Nat.le_of_ble_eq_true rfl) (Nat.le_of_ble_eq_true rfl) rfl ?_
      refine wp_i2l ?_
      cases h
      exact wp_lreturn ⟨rfl, rfl, s9⟩
    · rw [if_neg c5] at h
      refine wp_aload_n (v := ((138 : Nat) : Int)) rfl (Int.natCast_nonneg _) ?_
      refine wp_iload_n (v := v2) rfl ?_
      obtain ⟨x10, e11, h⟩ := d_bind h
      refine y_callV (as := [(0, v2)]) (S1 := []) (Nat.le_of_ble_eq_true rfl) (by omega) (t_X13_isCave s2 e11) (Nat.le_of_ble_eq_true rfl) rfl (show ash 138 = (13, 38) from rfl) (Nat.lt_of_lt_of_le (show 138 < 154 by decide) hS.1.1) (Nat.le_of_ble_eq_true rfl) (Nat.le_of_ble_eq_true rfl) rfl ?_
      refine y_nez (fun c12 => ?_) (fun c12 => ?_)
      · rw [if_neg c12] at h
        refine y_blk (t := 28) rfl (show fnd bk_X13_within 28 = some _ from rfl) aB_X13_within ?_
        refine wp_iload_n (v := v3) rfl ?_
        refine wp_iconst ⟨by decide, by decide⟩ ?_
        refine wp_sipush (by decide) ?_
        obtain ⟨x13, e14, h⟩ := d_bind h
        refine y_callS (as := [(0, v3), (0, 0), (0, 200)]) (S1 := []) (Nat.le_of_ble_eq_true rfl) (by omega) (t_X13_in s2 e14) (Nat.le_of_ble_eq_true rfl) rfl (Nat.le_of_ble_eq_true rfl) (Nat.le_of_ble_eq_true rfl) rfl ?_
        refine y_nez (fun c15 => ?_) (fun c15 => ?_)
        · rw [if_neg c15] at h
          refine y_blk (t := 46) rfl (show fnd bk_X13_within 46 = some _ from rfl) aB_X13_within ?_
          refine y_lconst (v := 0) rfl ?_
          refine y_lst (L1 := [(2, ((138 : Nat) : Int)), (0, v1), (0, v2), (0, v3), (0, v4), (1, 0), (9, 0), (9, 0), (9, 0), (9, 0)]) (Nat.le_of_ble_eq_true rfl) rfl ?_
          refine wp_iconst ⟨by decide, by decide⟩ ?_
          refine y_st (L1 := [(2, ((138 : Nat) : Int)), (0, v1), (0, v2), (0, v3), (0, v4), (1, 0), (9, 0), (0, 0), (9, 0), (9, 0)]) (Nat.le_of_ble_eq_true rfl) rfl ?_
          refine tl_X13_within_52 (by omega) hS (fun w34 w35 u36 u37 m38 s39 h => ?_) FU 0 0 (9, 0) (9, 0) m1 s2 h
          refine y_blk (t := 124) rfl (show fnd bk_X13_within 124 = some _ from rfl) aB_X13_within ?_
          refine wp_aload_n (v := ((138 : Nat) : Int)) rfl (Int.natCast_nonneg _) ?_
          refine wp_lload (v := w34) rfl ?_
          refine wp_aload_n (v := ((138 : Nat) : Int)) rfl (Int.natCast_nonneg _) ?_
          refine y_get (show ash 138 = (13, 38) from rfl) (Nat.lt_of_lt_of_le (show 138 < 154 by decide) hS.1.1) (v := m38 138 36) rfl rfl ?_
          refine wp_iload (v := v4) rfl ?_
          obtain ⟨x40, e41, h⟩ := d_bind h
          obtain ⟨r42, s43⟩ := t_X13_fraction s39 e41
          refine y_callV (as := [(1, w34), (1, (m38 138 36)), (0, v4)]) (S1 := []) (Nat.le_of_ble_eq_true rfl) (by omega) r42 (Nat.le_of_ble_eq_true rfl) rfl (show ash 138 = (13, 38) from rfl) (Nat.lt_of_lt_of_le (show 138 < 154 by decide) hS.1.1) (Nat.le_of_ble_eq_true rfl) (Nat.le_of_ble_eq_true rfl) rfl ?_
          cases h
          exact wp_lreturn ⟨rfl, rfl, s43⟩
        · rw [if_pos c15] at h
          refine wp_aload_n (v := ((138 : Nat) : Int)) rfl (Int.natCast_nonneg _) ?_
          refine wp_iconst ⟨by decide, by decide⟩ ?_
          obtain ⟨x44, e45, h⟩ := d_bind h
          obtain ⟨r46, s47⟩ := t_X13_refused s2 e45
          refine y_callV (as := [(0, 2)]) (S1 := []) (Nat.le_of_ble_eq_true rfl) (by omega) r46 (Nat.le_of_ble_eq_true rfl) rfl (show ash 138 = (13, 38) from rfl) (Nat.lt_of_lt_of_le (show 138 < 154 by decide) hS.1.1) (Nat.le_of_ble_eq_true rfl) (Nat.le_of_ble_eq_true rfl) rfl ?_
          refine wp_i2l ?_
          cases h
          exact wp_lreturn ⟨rfl, rfl, s47⟩
      · rw [if_pos c12] at h
        refine y_blk (t := 21) rfl (show fnd bk_X13_within 21 = some _ from rfl) aB_X13_within ?_
        refine wp_aload_n (v := ((138 : Nat) : Int)) rfl (Int.natCast_nonneg _) ?_
        refine wp_iconst ⟨by decide, by decide⟩ ?_
        obtain ⟨x48, e49, h⟩ := d_bind h
        obtain ⟨r50, s51⟩ := t_X13_refused s2 e49
        refine y_callV (as := [(0, 1)]) (S1 := []) (Nat.le_of_ble_eq_true rfl) (by omega) r50 (Nat.le_of_ble_eq_true rfl) rfl (show ash 138 = (13, 38) from rfl) (Nat.lt_of_lt_of_le (show 138 < 154 by decide) hS.1.1) (Nat.le_of_ble_eq_true rfl) (Nat.le_of_ble_eq_true rfl) rfl ?_
        refine wp_i2l ?_
        cases h
        exact wp_lreturn ⟨rfl, rfl, s51⟩
  exact ⟨fun d hd => Ms.of3 (key d hd), Ms.sh (key 2 (Nat.le_refl _))⟩
theorem aB_X13_mean : ∀ pc, aB 315 pc = fnd bk_X13_mean pc := fun _ => rfl
def l_X13_mean_25 (T : Nat) (v1 : Int) (v2 : Int) (k : Int → Int → aM → Option (Int × aM)) : Nat → Int → Int → aM → Option (Int × aM)
| 0, _, _, _ => none
| n + 1, v3, v5, M =>
 if (M 140 10) < v5 then
 k v3 v5 M else
 if (aand v5 (axor (M 140 10) (-1))) = 0 then
 (f_X13_partOf T v5 M).bind fun x8 =>
 (f_X13_lays T v5 (-1) x8.2).bind fun x12 =>
 (f_X13_reached T v1 9998 x12.2).bind fun x16 =>
 (f_X13_bits T x16 x12.2).bind fun x18 =>
 if aInL (x8.1 * x18) then
 if aInL (v3 + (x8.1 * x18)) then
 if aIn (v5 + 1) then
 l_X13_mean_25 T v1 v2 k n (v3 + (x8.1 * x18)) (v5 + 1) x12.2 else none else none else none else
 if aIn (v5 + 1) then
 l_X13_mean_25 T v1 v2 k n v3 (v5 + 1) M else none
theorem tl_X13_mean_25 {d : Nat} (hd : 2 ≤ d) {T : T3} {v1 : Int} {v2 : Int} {k : Int → Int → aM → Option (Int × aM)} {y : (Int × aM)}  {M0 : aM} (hS : Sh T.1 M0)
    (hk : ∀ (v3 v5 : Int) (u6 u7 : aV) (M : aM), Sh T.1 M → k v3 v5 M = some y → Wp d 315 94 [] [(2, ((138 : Nat) : Int)), (0, v1), (0, v2), (1, v3), (9, 0), (0, v5), u6, u7] [] (M, T) (fun r2 σ2 => r2 = some (1, y.1) ∧ σ2 = (y.2, T) ∧ Sh T.1 y.2)) :
    ∀ (n : Nat) (v3 v5 : Int) (u6 u7 : aV) (M : aM), Sh T.1 M → l_X13_mean_25 T.1 v1 v2 k n v3 v5 M = some y → Wp d 315 25 [] [(2, ((138 : Nat) : Int)), (0, v1), (0, v2), (1, v3), (9, 0), (0, v5), u6, u7] [] (M, T) (fun r2 σ2 => r2 = some (1, y.1) ∧ σ2 = (y.2, T) ∧ Sh T.1 y.2) := by
  intro n
  induction n with
  | zero =>
    intro v3 v5 u6 u7 M _ h
    exact nomatch (show (none : Option (Int × aM)) = some y from h)
  | succ n ih =>
    intro v3 v5 u6 u7 M sM h
    rw [l_X13_mean_25] at h
    refine y_blk (t := 25) rfl (show fnd bk_X13_mean 25 = some _ from rfl) aB_X13_mean ?_
    refine wp_iload (v := v5) rfl ?_
    refine wp_aload_n (v := ((138 : Nat) : Int)) rfl (Int.natCast_nonneg _) ?_
    refine y_get (show ash 138 = (13, 38) from rfl) (Nat.lt_of_lt_of_le (show 138 < 154 by decide) hS.1.1) (v := ((140 : Nat) : Int)) (sM.at 138 16 140 (by decide +kernel)) rfl ?_
    refine wp_bipush (by decide) ?_
    refine y_iald (show ash 140 = (100, 12) from rfl) (Or.inl (Nat.lt_of_lt_of_le (show 140 < 154 by decide) hS.1.1)) (Nat.ne_of_lt (Nat.lt_of_lt_of_le (Nat.lt_of_lt_of_le (show 140 < 154 by decide) hS.1.1) hS.1.2)) ⟨by decide, by decide⟩ (v := M 140 10) rfl ?_
    refine wp_icmp_gt (fun c6 => ?_) (fun c6 => ?_)
    · rw [if_pos c6] at h
      exact hk v3 v5 u6 u7 M sM h
    · rw [if_neg c6] at h
      refine wp_iload (v := v5) rfl ?_
      refine wp_aload_n (v := ((138 : Nat) : Int)) rfl (Int.natCast_nonneg _) ?_
      refine y_get (show ash 138 = (13, 38) from rfl) (Nat.lt_of_lt_of_le (show 138 < 154 by decide) hS.1.1) (v := ((140 : Nat) : Int)) (sM.at 138 16 140 (by decide +kernel)) rfl ?_
      refine wp_bipush (by decide) ?_
      refine y_iald (show ash 140 = (100, 12) from rfl) (Or.inl (Nat.lt_of_lt_of_le (show 140 < 154 by decide) hS.1.1)) (Nat.ne_of_lt (Nat.lt_of_lt_of_le (Nat.lt_of_lt_of_le (show 140 < 154 by decide) hS.1.1) hS.1.2)) ⟨by decide, by decide⟩ (v := M 140 10) rfl ?_
      refine wp_iconst ⟨by decide, by decide⟩ ?_
      refine wp_ixor ?_
      refine wp_iand ?_
      refine wp_if_eq (fun c7 => ?_) (fun c7 => ?_)
      · rw [if_pos c7] at h
        refine y_blk (t := 55) rfl (show fnd bk_X13_mean 55 = some _ from rfl) aB_X13_mean ?_
        refine wp_aload_n (v := ((138 : Nat) : Int)) rfl (Int.natCast_nonneg _) ?_
        refine wp_iload (v := v5) rfl ?_
        obtain ⟨x8, e9, h⟩ := d_bind h
        obtain ⟨r10, s11⟩ := t_X13_partOf sM e9
        refine y_callV (as := [(0, v5)]) (S1 := []) (Nat.le_of_ble_eq_true rfl) (by omega) r10 (Nat.le_of_ble_eq_true rfl) rfl (show ash 138 = (13, 38) from rfl) (Nat.lt_of_lt_of_le (show 138 < 154 by decide) hS.1.1) (Nat.le_of_ble_eq_true rfl) (Nat.le_of_ble_eq_true rfl) rfl ?_
        refine y_lst (L1 := [(2, ((138 : Nat) : Int)), (0, v1), (0, v2), (1, v3), (9, 0), (0, v5), (1, x8.1), (9, 0)]) (Nat.le_of_ble_eq_true rfl) rfl ?_
        refine wp_aload_n (v := ((138 : Nat) : Int)) rfl (Int.natCast_nonneg _) ?_
        refine wp_iload (v := v5) rfl ?_
        refine wp_iconst ⟨by decide, by decide⟩ ?_
        obtain ⟨x12, e13, h⟩ := d_bind h
        obtain ⟨r14, s15⟩ := t_X13_lays s11 e13
        refine y_callVv (as := [(0, v5), (0, (-1))]) (S1 := []) (Nat.le_of_ble_eq_true rfl) (by omega) r14 rfl (show ash 138 = (13, 38) from rfl) (Nat.lt_of_lt_of_le (show 138 < 154 by decide) hS.1.1) (Nat.le_of_ble_eq_true rfl) (Nat.le_of_ble_eq_true rfl) rfl ?_
        refine wp_lload_n (v := v3) rfl ?_
        refine wp_lload (v := x8.1) rfl ?_
        refine wp_aload_n (v := ((138 : Nat) : Int)) rfl (Int.natCast_nonneg _) ?_
        refine wp_iload_n (v := v1) rfl ?_
        refine wp_sipush (by decide) ?_
        obtain ⟨x16, e17, h⟩ := d_bind h
        refine y_callV (as := [(0, v1), (0, 9998)]) (S1 := [(1, x8.1), (1, v3)]) (Nat.le_of_ble_eq_true rfl) (by omega) (t_X13_reached s15 e17) (Nat.le_of_ble_eq_true rfl) rfl (show ash 138 = (13, 38) from rfl) (Nat.lt_of_lt_of_le (show 138 < 154 by decide) hS.1.1) (Nat.le_of_ble_eq_true rfl) (Nat.le_of_ble_eq_true rfl) rfl ?_
        obtain ⟨x18, e19, h⟩ := d_bind h
        refine y_callS (as := [(0, x16)]) (S1 := [(1, x8.1), (1, v3)]) (Nat.le_of_ble_eq_true rfl) (by omega) (t_X13_bits s15 e19) (Nat.le_of_ble_eq_true rfl) rfl (Nat.le_of_ble_eq_true rfl) (Nat.le_of_ble_eq_true rfl) rfl ?_
        refine wp_i2l ?_
        obtain ⟨c20, h⟩ := d_ite h
        refine wp_lmul c20 ?_
        obtain ⟨c21, h⟩ := d_ite h
        refine wp_ladd c21 ?_
        refine y_lstn (L1 := [(2, ((138 : Nat) : Int)), (0, v1), (0, v2), (1, (v3 + (x8.1 * x18))), (9, 0), (0, v5), (1, x8.1), (9, 0)]) (Nat.le_of_ble_eq_true rfl) rfl ?_
        refine y_blk (t := 88) rfl (show fnd bk_X13_mean 88 = some _ from rfl) aB_X13_mean ?_
        obtain ⟨c22, h⟩ := d_ite h
        refine y_iinc (L1 := [(2, ((138 : Nat) : Int)), (0, v1), (0, v2), (1, (v3 + (x8.1 * x18))), (9, 0), (0, (v5 + 1)), (1, x8.1), (9, 0)]) rfl (Nat.le_of_ble_eq_true rfl) ⟨by decide, by decide⟩ c22 rfl ?_
        refine wp_goto ?_
        exact ih (v3 + (x8.1 * x18)) (v5 + 1) (1, x8.1) (9, 0) x12.2 s15 h
      · rw [if_neg c7] at h
        refine wp_goto ?_
        refine y_blk (t := 88) rfl (show fnd bk_X13_mean 88 = some _ from rfl) aB_X13_mean ?_
        obtain ⟨c23, h⟩ := d_ite h
        refine y_iinc (L1 := [(2, ((138 : Nat) : Int)), (0, v1), (0, v2), (1, v3), (9, 0), (0, (v5 + 1)), u6, u7]) rfl (Nat.le_of_ble_eq_true rfl) ⟨by decide, by decide⟩ c23 rfl ?_
        refine wp_goto ?_
        exact ih v3 (v5 + 1) u6 u7 M sM h
def f_X13_mean (T : Nat) (v1 : Int) (v2 : Int) (M : aM) : Option (Int × aM) :=
 (some (aup M 138 0 0)).bind fun m1 =>
 (f_X13_isCave T v1 m1).bind fun x3 =>
 if x3 = 0 then
 (f_X13_refused T 1 m1).bind fun x34 =>
 some (x34.1, x34.2) else
 l_X13_mean_25 T v1 v2 (fun w24 w25 m28 =>
 (f_X13_fraction T w24 (m28 138 36) v2 m28).bind fun x30 =>
 some (x30.1, x30.2)) FU 0 0 m1
theorem t_X13_mean {T : T3} {v1 : Int} {v2 : Int} {M : aM} {y : (Int × aM)}  (hS : Sh T.1 M) (h : f_X13_mean T.1 v1 v2 M = some y) : Mr 2 315 [(2, ((138 : Nat) : Int)), (0, v1), (0, v2)] M (some (1, y.1)) y.2 T ∧ Sh T.1 y.2 := by
  have key : ∀ d, 2 ≤ d → Wp d 315 0 [] [(2, ((138 : Nat) : Int)), (0, v1), (0, v2), (9, 0), (9, 0), (9, 0), (9, 0), (9, 0)] [] (M, T) (fun r2 σ2 => r2 = some (1, y.1) ∧ σ2 = (y.2, T) ∧ Sh T.1 y.2) := by
    intro d hd
    rw [f_X13_mean] at h
    refine y_blk (t := 0) rfl (show fnd bk_X13_mean 0 = some _ from rfl) aB_X13_mean ?_
    refine wp_aload_n (v := ((138 : Nat) : Int)) rfl (Int.natCast_nonneg _) ?_
    refine wp_iconst ⟨by decide, by decide⟩ ?_
    refine y_put (show ash 138 = (13, 38) from rfl) (Nat.lt_of_lt_of_le (show 138 < 154 by decide) hS.1.1) rfl ?_
    obtain ⟨m1, em1, h⟩ := d_bind h
    have em1 := Option.some.inj em1
    have s2 : Sh T.1 m1 := em1 ▸ hS.up (Or.inr ⟨by rw [(show ash 138 = (13, 38) from rfl)]; decide, by rw [(show ash 138 = (13, 38) from rfl)]; decide⟩) (by have := (Nat.lt_of_lt_of_le (show 138 < 154 by decide) hS.1.1); have := hS.1.2; omega)
    rw [em1]
    refine wp_aload_n (v := ((138 : Nat) : Int)) rfl (Int.natCast_nonneg _) ?_
    refine wp_iload_n (v := v1) rfl ?_
    obtain ⟨x3, e4, h⟩ := d_bind h
    refine y_callV (as := [(0, v1)]) (S1 := []) (Nat.le_of_ble_eq_true rfl) (by omega) (t_X13_isCave s2 e4) (Nat.le_of_ble_eq_true rfl) rfl (show ash 138 = (13, 38) from rfl) (Nat.lt_of_lt_of_le (show 138 < 154 by decide) hS.1.1) (Nat.le_of_ble_eq_true rfl) (Nat.le_of_ble_eq_true rfl) rfl ?_
    refine y_nez (fun c5 => ?_) (fun c5 => ?_)
    · rw [if_neg c5] at h
      refine y_blk (t := 20) rfl (show fnd bk_X13_mean 20 = some _ from rfl) aB_X13_mean ?_
      refine y_lconst (v := 0) rfl ?_
      refine y_lstn (L1 := [(2, ((138 : Nat) : Int)), (0, v1), (0, v2), (1, 0), (9, 0), (9, 0), (9, 0), (9, 0)]) (Nat.le_of_ble_eq_true rfl) rfl ?_
      refine wp_iconst ⟨by decide, by decide⟩ ?_
      refine y_st (L1 := [(2, ((138 : Nat) : Int)), (0, v1), (0, v2), (1, 0), (9, 0), (0, 0), (9, 0), (9, 0)]) (Nat.le_of_ble_eq_true rfl) rfl ?_
      refine tl_X13_mean_25 (by omega) hS (fun w24 w25 u26 u27 m28 s29 h => ?_) FU 0 0 (9, 0) (9, 0) m1 s2 h
      refine y_blk (t := 94) rfl (show fnd bk_X13_mean 94 = some _ from rfl) aB_X13_mean ?_
      refine wp_aload_n (v := ((138 : Nat) : Int)) rfl (Int.natCast_nonneg _) ?_
      refine wp_lload_n (v := w24) rfl ?_
      refine wp_aload_n (v := ((138 : Nat) : Int)) rfl (Int.natCast_nonneg _) ?_
      refine y_get (show ash 138 = (13, 38) from rfl) (Nat.lt_of_lt_of_le (show 138 < 154 by decide) hS.1.1) (v := m28 138 36) rfl rfl ?_
      refine wp_iload_n (v := v2) rfl ?_
      obtain ⟨x30, e31, h⟩ := d_bind h
      obtain ⟨r32, s33⟩ := t_X13_fraction s29 e31
      refine y_callV (as := [(1, w24), (1, (m28 138 36)), (0, v2)]) (S1 := []) (Nat.le_of_ble_eq_true rfl) (by omega) r32 (Nat.le_of_ble_eq_true rfl) rfl (show ash 138 = (13, 38) from rfl) (Nat.lt_of_lt_of_le (show 138 < 154 by decide) hS.1.1) (Nat.le_of_ble_eq_true rfl) (Nat.le_of_ble_eq_true rfl) rfl ?_
      cases h
      exact wp_lreturn ⟨rfl, rfl, s33⟩
    · rw [if_pos c5] at h
      refine wp_aload_n (v := ((138 : Nat) : Int)) rfl (Int.natCast_nonneg _) ?_
      refine wp_iconst ⟨by decide, by decide⟩ ?_
      obtain ⟨x34, e35, h⟩ := d_bind h
      obtain ⟨r36, s37⟩ := t_X13_refused s2 e35
      refine y_callV (as := [(0, 1)]) (S1 := []) (Nat.le_of_ble_eq_true rfl) (by omega) r36 (Nat.le_of_ble_eq_true rfl) rfl (show ash 138 = (13, 38) from rfl) (Nat.lt_of_lt_of_le (show 138 < 154 by decide) hS.1.1) (Nat.le_of_ble_eq_true rfl) (Nat.le_of_ble_eq_true rfl) rfl ?_
      refine wp_i2l ?_
      cases h
      exact wp_lreturn ⟨rfl, rfl, s37⟩
  exact ⟨fun d hd => Ms.of3 (key d hd), Ms.sh (key 2 (Nat.le_refl _))⟩

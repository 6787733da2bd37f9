/-! ===== methods as functions ===== -/
theorem aB_X13_apart : ∀ pc, aB 242 pc = fnd bk_X13_apart pc := fun _ => rfl
def f_X13_apart (T : Nat) (v1 : Int) (v2 : Int) (M : aM) : Option Int :=
 if aIn (8 * v1) then
 if aIn ((8 * v1) + v2) then
 if 0 ≤ ((8 * v1) + v2) ∧ ((8 * v1) + v2) < 64 then
 some (M 144 (((8 * v1) + v2)).toNat) else none else none else none
theorem t_X13_apart {T : T3} {v1 : Int} {v2 : Int} {M : aM} {y : Int}  (hS : Sh T.1 M) (h : f_X13_apart T.1 v1 v2 M = some y) : Mr 0 242 [(2, ((138 : Nat) : Int)), (0, v1), (0, v2)] M (some (0, y)) M T := by
  have key : ∀ d, 0 ≤ d → Wp d 242 0 [] [(2, ((138 : Nat) : Int)), (0, v1), (0, v2)] [] (M, T) (fun r2 σ2 => r2 = some (0, y) ∧ σ2 = (M, T)) := by
    intro d hd
    rw [f_X13_apart] at h
    refine y_blk (t := 0) rfl (show fnd bk_X13_apart 0 = some _ from rfl) aB_X13_apart ?_
    refine wp_aload_n (v := ((138 : Nat) : Int)) rfl (Int.natCast_nonneg _) ?_
    refine y_get (show ash 138 = (13, 38) from rfl) (Nat.lt_of_lt_of_le (show 138 < 154 by decide) hS.1.1) (v := ((144 : Nat) : Int)) (hS.at 138 22 144 (by decide +kernel)) rfl ?_
    refine wp_bipush (by decide) ?_
    refine wp_iload_n (v := v1) rfl ?_
    obtain ⟨c1, h⟩ := d_ite h
    refine wp_imul c1 ?_
    refine wp_iload_n (v := v2) rfl ?_
    obtain ⟨c2, h⟩ := d_ite h
    refine wp_iadd c2 ?_
    obtain ⟨c3, h⟩ := d_ite h
    refine y_iald (show ash 144 = (100, 64) from rfl) (Or.inl (Nat.lt_of_lt_of_le (show 144 < 154 by decide) hS.1.1)) (Nat.ne_of_lt (Nat.lt_of_lt_of_le (Nat.lt_of_lt_of_le (show 144 < 154 by decide) hS.1.1) hS.1.2)) c3 (v := M 144 (((8 * v1) + v2)).toNat) rfl ?_
    cases h
    exact y_ret0 (Or.inl rfl) ⟨rfl, rfl⟩
  exact fun d hd => Ms.of (key d hd)
theorem aB_X13_lays : ∀ pc, aB 243 pc = fnd bk_X13_lays pc := fun _ => rfl
def l_X13_lays_2 (T : Nat) (v1 : Int) (v2 : Int) (k : Int → aM → Option (Int × aM)) : Nat → Int → aM → Option (Int × aM)
| 0, _, _ => none
| n + 1, v3, M =>
 if 64 ≤ v3 then
 k v3 M else
 if (adiv v3 8) = (arem v3 8) then
 if 0 ≤ v3 ∧ v3 < 64 then
 (some (aup M 144 (v3).toNat 0)).bind fun m8 =>
 if aIn (v3 + 1) then
 l_X13_lays_2 T v1 v2 k n (v3 + 1) m8 else none else none else
 if 0 ≤ v3 ∧ v3 < 64 then
 (some (aup M 144 (v3).toNat 9999)).bind fun m4 =>
 if aIn (v3 + 1) then
 l_X13_lays_2 T v1 v2 k n (v3 + 1) m4 else none else none
theorem tl_X13_lays_2 {d : Nat} (hd : 1 ≤ d) {T : T3} {v1 : Int} {v2 : Int} {k : Int → aM → Option (Int × aM)} {y : (Int × aM)}  {M0 : aM} (hS : Sh T.1 M0)
    (hk : ∀ (v3 : Int) (u4 u5 u6 : aV) (M : aM), Sh T.1 M → k v3 M = some y → Wp d 243 38 [] [(2, ((138 : Nat) : Int)), (0, v1), (0, v2), (0, v3), u4, u5, u6] [] (M, T) (fun r2 σ2 => r2 = none ∧ σ2 = (y.2, T) ∧ Sh T.1 y.2)) :
    ∀ (n : Nat) (v3 : Int) (u4 u5 u6 : aV) (M : aM), Sh T.1 M → l_X13_lays_2 T.1 v1 v2 k n v3 M = some y → Wp d 243 2 [] [(2, ((138 : Nat) : Int)), (0, v1), (0, v2), (0, v3), u4, u5, u6] [] (M, T) (fun r2 σ2 => r2 = none ∧ σ2 = (y.2, T) ∧ Sh T.1 y.2) := by
  intro n
  induction n with
  | zero =>
    intro v3 u4 u5 u6 M _ h
    exact nomatch (show (none : Option (Int × aM)) = some y from h)
  | succ n ih =>
    intro v3 u4 u5 u6 M sM h
    rw [l_X13_lays_2] at h
    refine y_blk (t := 2) rfl (show fnd bk_X13_lays 2 = some _ from rfl) aB_X13_lays ?_
    refine wp_iload_n (v := v3) rfl ?_
    refine wp_bipush (by decide) ?_
    refine wp_icmp_ge (fun c1 => ?_) (fun c1 => ?_)
    · rw [if_pos c1] at h
      exact hk v3 u4 u5 u6 M sM h
    · rw [if_neg c1] at h
      refine wp_aload_n (v := ((138 : Nat) : Int)) rfl (Int.natCast_nonneg _) ?_
      refine y_get (show ash 138 = (13, 38) from rfl) (Nat.lt_of_lt_of_le (show 138 < 154 by decide) hS.1.1) (v := ((144 : Nat) : Int)) (sM.at 138 22 144 (by decide +kernel)) rfl ?_
      refine wp_iload_n (v := v3) rfl ?_
      refine wp_iload_n (v := v3) rfl ?_
      refine wp_bipush (by decide) ?_
      refine wp_idiv (by decide) ?_
      refine wp_iload_n (v := v3) rfl ?_
      refine wp_bipush (by decide) ?_
      refine wp_irem (by decide) ?_
      refine y_ne (fun c2 => ?_) (fun c2 => ?_)
      · rw [if_neg c2] at h
        refine y_blk (t := 28) rfl (show fnd bk_X13_lays 28 = some _ from rfl) aB_X13_lays ?_
        refine wp_sipush (by decide) ?_
        refine y_blk (t := 31) rfl (show fnd bk_X13_lays 31 = some _ from rfl) aB_X13_lays ?_
        obtain ⟨c3, h⟩ := d_ite h
        refine y_iast (show ash 144 = (100, 64) from rfl) (Nat.lt_of_lt_of_le (show 144 < 154 by decide) hS.1.1) c3 ?_
        obtain ⟨m4, em4, h⟩ := d_bind h
        have em4 := Option.some.inj em4
        have s5 : Sh T.1 m4 := em4 ▸ sM.up (Or.inl ⟨by rw [(show ash 144 = (100, 64) from rfl)]; exact Nat.le_of_ble_eq_true rfl, by rw [(show ash 144 = (100, 64) from rfl)]; exact Nat.le_of_ble_eq_true rfl⟩) (by have := (Nat.lt_of_lt_of_le (show 144 < 154 by decide) hS.1.1); have := hS.1.2; omega)
        rw [em4]
        obtain ⟨c6, h⟩ := d_ite h
        refine y_iinc (L1 := [(2, ((138 : Nat) : Int)), (0, v1), (0, v2), (0, (v3 + 1)), u4, u5, u6]) rfl (Nat.le_of_ble_eq_true rfl) ⟨by decide, by decide⟩ c6 rfl ?_
        refine wp_goto ?_
        exact ih (v3 + 1) u4 u5 u6 m4 s5 h
      · rw [if_pos c2] at h
        refine wp_iconst ⟨by decide, by decide⟩ ?_
        refine wp_goto ?_
        refine y_blk (t := 31) rfl (show fnd bk_X13_lays 31 = some _ from rfl) aB_X13_lays ?_
        obtain ⟨c7, h⟩ := d_ite h
        refine y_iast (show ash 144 = (100, 64) from rfl) (Nat.lt_of_lt_of_le (show 144 < 154 by decide) hS.1.1) c7 ?_
        obtain ⟨m8, em8, h⟩ := d_bind h
        have em8 := Option.some.inj em8
        have s9 : Sh T.1 m8 := em8 ▸ sM.up (Or.inl ⟨by rw [(show ash 144 = (100, 64) from rfl)]; exact Nat.le_of_ble_eq_true rfl, by rw [(show ash 144 = (100, 64) from rfl)]; exact Nat.le_of_ble_eq_true rfl⟩) (by have := (Nat.lt_of_lt_of_le (show 144 < 154 by decide) hS.1.1); have := hS.1.2; omega)
        rw [em8]
        obtain ⟨c10, h⟩ := d_ite h
        refine y_iinc (L1 := [(2, ((138 : Nat) : Int)), (0, v1), (0, v2), (0, (v3 + 1)), u4, u5, u6]) rfl (Nat.le_of_ble_eq_true rfl) ⟨by decide, by decide⟩ c10 rfl ?_
        refine wp_goto ?_
        exact ih (v3 + 1) u4 u5 u6 m8 s9 h
def l_X13_lays_40 (T : Nat) (v1 : Int) (v2 : Int) (k : Int → aM → Option (Int × aM)) : Nat → Int → aM → Option (Int × aM)
| 0, _, _ => none
| n + 1, v3, M =>
 if 8 ≤ v3 then
 k v3 M else
 if 0 ≤ v3 ∧ v3 < 8 then
 (some (aup M 145 (v3).toNat 0)).bind fun m19 =>
 if aIn (v3 + 1) then
 l_X13_lays_40 T v1 v2 k n (v3 + 1) m19 else none else none
theorem tl_X13_lays_40 {d : Nat} (hd : 1 ≤ d) {T : T3} {v1 : Int} {v2 : Int} {k : Int → aM → Option (Int × aM)} {y : (Int × aM)}  {M0 : aM} (hS : Sh T.1 M0)
    (hk : ∀ (v3 : Int) (u4 u5 u6 : aV) (M : aM), Sh T.1 M → k v3 M = some y → Wp d 243 59 [] [(2, ((138 : Nat) : Int)), (0, v1), (0, v2), (0, v3), u4, u5, u6] [] (M, T) (fun r2 σ2 => r2 = none ∧ σ2 = (y.2, T) ∧ Sh T.1 y.2)) :
    ∀ (n : Nat) (v3 : Int) (u4 u5 u6 : aV) (M : aM), Sh T.1 M → l_X13_lays_40 T.1 v1 v2 k n v3 M = some y → Wp d 243 40 [] [(2, ((138 : Nat) : Int)), (0, v1), (0, v2), (0, v3), u4, u5, u6] [] (M, T) (fun r2 σ2 => r2 = none ∧ σ2 = (y.2, T) ∧ Sh T.1 y.2) := by
  intro n
  induction n with
  | zero =>
    intro v3 u4 u5 u6 M _ h
    exact nomatch (show (none : Option (Int × aM)) = some y from h)
  | succ n ih =>
    intro v3 u4 u5 u6 M sM h
    rw [l_X13_lays_40] at h
    refine y_blk (t := 40) rfl (show fnd bk_X13_lays 40 = some _ from rfl) aB_X13_lays ?_
    refine wp_iload_n (v := v3) rfl ?_
    refine wp_bipush (by decide) ?_
    refine wp_icmp_ge (fun c17 => ?_) (fun c17 => ?_)
    · rw [if_pos c17] at h
      exact hk v3 u4 u5 u6 M sM h
    · rw [if_neg c17] at h
      refine wp_aload_n (v := ((138 : Nat) : Int)) rfl (Int.natCast_nonneg _) ?_
      refine y_get (show ash 138 = (13, 38) from rfl) (Nat.lt_of_lt_of_le (show 138 < 154 by decide) hS.1.1) (v := ((145 : Nat) : Int)) (sM.at 138 23 145 (by decide +kernel)) rfl ?_
      refine wp_iload_n (v := v3) rfl ?_
      refine wp_iconst ⟨by decide, by decide⟩ ?_
      obtain ⟨c18, h⟩ := d_ite h
      refine y_iast (show ash 145 = (100, 8) from rfl) (Nat.lt_of_lt_of_le (show 145 < 154 by decide) hS.1.1) c18 ?_
      obtain ⟨m19, em19, h⟩ := d_bind h
      have em19 := Option.some.inj em19
      have s20 : Sh T.1 m19 := em19 ▸ sM.up (Or.inl ⟨by rw [(show ash 145 = (100, 8) from rfl)]; exact Nat.le_of_ble_eq_true rfl, by rw [(show ash 145 = (100, 8) from rfl)]; exact Nat.le_of_ble_eq_true rfl⟩) (by have := (Nat.lt_of_lt_of_le (show 145 < 154 by decide) hS.1.1); have := hS.1.2; omega)
      rw [em19]
      obtain ⟨c21, h⟩ := d_ite h
      refine y_iinc (L1 := [(2, ((138 : Nat) : Int)), (0, v1), (0, v2), (0, (v3 + 1)), u4, u5, u6]) rfl (Nat.le_of_ble_eq_true rfl) ⟨by decide, by decide⟩ c21 rfl ?_
      refine wp_goto ?_
      exact ih (v3 + 1) u4 u5 u6 m19 s20 h
def l_X13_lays_61 (T : Nat) (v1 : Int) (v2 : Int) (k : Int → aM → Option (Int × aM)) : Nat → Int → aM → Option (Int × aM)
| 0, _, _ => none
| n + 1, v3, M =>
 if okW T (M 138 3) then
 if (M (M 138 3).toNat 5) ≤ v3 then
 k v3 M else
 if 0 ≤ v3 ∧ v3 < 10 then
 (f_X13_bit T v1 v3 M).bind fun x31 =>
 if x31 = 0 then
 if (M ((M 138 3).toNat + 1) (v3).toNat) = v2 then
 if aIn (v3 + 1) then
 l_X13_lays_61 T v1 v2 k n (v3 + 1) M else none else
 if (M ((M 138 3).toNat + 2) (v3).toNat) = v2 then
 if aIn (v3 + 1) then
 l_X13_lays_61 T v1 v2 k n (v3 + 1) M else none else
 if aIn (8 * (M ((M 138 3).toNat + 1) (v3).toNat)) then
 if aIn ((8 * (M ((M 138 3).toNat + 1) (v3).toNat)) + (M ((M 138 3).toNat + 2) (v3).toNat)) then
 if 0 ≤ ((8 * (M ((M 138 3).toNat + 1) (v3).toNat)) + (M ((M 138 3).toNat + 2) (v3).toNat)) ∧ ((8 * (M ((M 138 3).toNat + 1) (v3).toNat)) + (M ((M 138 3).toNat + 2) (v3).toNat)) < 64 then
 (some (aup M 144 (((8 * (M ((M 138 3).toNat + 1) (v3).toNat)) + (M ((M 138 3).toNat + 2) (v3).toNat))).toNat (M ((M 138 3).toNat + 3) (v3).toNat))).bind fun m41 =>
 if aIn (8 * (M ((M 138 3).toNat + 2) (v3).toNat)) then
 if aIn ((8 * (M ((M 138 3).toNat + 2) (v3).toNat)) + (M ((M 138 3).toNat + 1) (v3).toNat)) then
 if okW T (m41 138 3) then
 if 0 ≤ ((8 * (M ((M 138 3).toNat + 2) (v3).toNat)) + (M ((M 138 3).toNat + 1) (v3).toNat)) ∧ ((8 * (M ((M 138 3).toNat + 2) (v3).toNat)) + (M ((M 138 3).toNat + 1) (v3).toNat)) < 64 then
 (some (aup m41 144 (((8 * (M ((M 138 3).toNat + 2) (v3).toNat)) + (M ((M 138 3).toNat + 1) (v3).toNat))).toNat (m41 ((m41 138 3).toNat + 3) (v3).toNat))).bind fun m47 =>
 if 0 ≤ (M ((M 138 3).toNat + 1) (v3).toNat) ∧ (M ((M 138 3).toNat + 1) (v3).toNat) < 8 then
 (some (aup m47 145 ((M ((M 138 3).toNat + 1) (v3).toNat)).toNat (aor (m47 145 ((M ((M 138 3).toNat + 1) (v3).toNat)).toNat) (ashl 1 (M ((M 138 3).toNat + 2) (v3).toNat))))).bind fun m50 =>
 if 0 ≤ (M ((M 138 3).toNat + 2) (v3).toNat) ∧ (M ((M 138 3).toNat + 2) (v3).toNat) < 8 then
 (some (aup m50 145 ((M ((M 138 3).toNat + 2) (v3).toNat)).toNat (aor (m50 145 ((M ((M 138 3).toNat + 2) (v3).toNat)).toNat) (ashl 1 (M ((M 138 3).toNat + 1) (v3).toNat))))).bind fun m53 =>
 if aIn (v3 + 1) then
 l_X13_lays_61 T v1 v2 k n (v3 + 1) m53 else none else none else none else none else none else none else none else none else none else none else
 if aIn (v3 + 1) then
 l_X13_lays_61 T v1 v2 k n (v3 + 1) M else none else none else none
theorem tl_X13_lays_61 {d : Nat} (hd : 1 ≤ d) {T : T3} {v1 : Int} {v2 : Int} {k : Int → aM → Option (Int × aM)} {y : (Int × aM)}  {M0 : aM} (hS : Sh T.1 M0)
    (hk : ∀ (v3 : Int) (u4 u5 u6 : aV) (M : aM), Sh T.1 M → k v3 M = some y → Wp d 243 195 [] [(2, ((138 : Nat) : Int)), (0, v1), (0, v2), (0, v3), u4, u5, u6] [] (M, T) (fun r2 σ2 => r2 = none ∧ σ2 = (y.2, T) ∧ Sh T.1 y.2)) :
    ∀ (n : Nat) (v3 : Int) (u4 u5 u6 : aV) (M : aM), Sh T.1 M → l_X13_lays_61 T.1 v1 v2 k n v3 M = some y → Wp d 243 61 [] [(2, ((138 : Nat) : Int)), (0, v1), (0, v2), (0, v3), u4, u5, u6] [] (M, T) (fun r2 σ2 => r2 = none ∧ σ2 = (y.2, T) ∧ Sh T.1 y.2) := by
  intro n
  induction n with
  | zero =>
    intro v3 u4 u5 u6 M _ h
    exact nomatch (show (none : Option (Int × aM)) = some y from h)
  | succ n ih =>
    intro v3 u4 u5 u6 M sM h
    rw [l_X13_lays_61] at h
    refine y_blk (t := 61) rfl (show fnd bk_X13_lays 61 = some _ from rfl) aB_X13_lays ?_
    refine wp_iload_n (v := v3) rfl ?_
    refine wp_aload_n (v := ((138 : Nat) : Int)) rfl (Int.natCast_nonneg _) ?_
    obtain ⟨c28, h⟩ := d_ite h
    refine y_get (show ash 138 = (13, 38) from rfl) (Nat.lt_of_lt_of_le (show 138 < 154 by decide) hS.1.1) (v := (((M 138 3).toNat : Nat) : Int)) c28.eq rfl ?_
    refine y_get (aW0 hS.1.2 c28.is) (ltW c28.is 0 (by decide)) (v := M (M 138 3).toNat 5) rfl rfl ?_
    refine wp_icmp_ge (fun c29 => ?_) (fun c29 => ?_)
    · rw [if_pos c29] at h
      exact hk v3 u4 u5 u6 M sM h
    · rw [if_neg c29] at h
      refine wp_aload_n (v := ((138 : Nat) : Int)) rfl (Int.natCast_nonneg _) ?_
      refine y_get (show ash 138 = (13, 38) from rfl) (Nat.lt_of_lt_of_le (show 138 < 154 by decide) hS.1.1) (v := (((M 138 3).toNat : Nat) : Int)) c28.eq rfl ?_
      refine y_get (aW0 hS.1.2 c28.is) (ltW c28.is 0 (by decide)) (v := ((((M 138 3).toNat + 1) : Nat) : Int)) (rW14 sM c28.is) rfl ?_
      refine wp_iload_n (v := v3) rfl ?_
      obtain ⟨c30, h⟩ := d_ite h
      refine y_iald (aW1 hS.1.2 c28.is) (Or.inl (ltW c28.is 1 (by decide))) (Nat.ne_of_lt (Nat.lt_of_lt_of_le (ltW c28.is 1 (by decide)) hS.1.2)) c30 (v := M ((M 138 3).toNat + 1) (v3).toNat) rfl ?_
      refine y_st (L1 := [(2, ((138 : Nat) : Int)), (0, v1), (0, v2), (0, v3), (0, (M ((M 138 3).toNat + 1) (v3).toNat)), u5, u6]) (Nat.le_of_ble_eq_true rfl) rfl ?_
      refine wp_aload_n (v := ((138 : Nat) : Int)) rfl (Int.natCast_nonneg _) ?_
      refine y_get (show ash 138 = (13, 38) from rfl) (Nat.lt_of_lt_of_le (show 138 < 154 by decide) hS.1.1) (v := (((M 138 3).toNat : Nat) : Int)) c28.eq rfl ?_
      refine y_get (aW0 hS.1.2 c28.is) (ltW c28.is 0 (by decide)) (v := ((((M 138 3).toNat + 2) : Nat) : Int)) (rW15 sM c28.is) rfl ?_
      refine wp_iload_n (v := v3) rfl ?_
      refine y_iald (aW2 hS.1.2 c28.is) (Or.inl (ltW c28.is 2 (by decide))) (Nat.ne_of_lt (Nat.lt_of_lt_of_le (ltW c28.is 2 (by decide)) hS.1.2)) c30 (v := M ((M 138 3).toNat + 2) (v3).toNat) rfl ?_
      refine y_st (L1 := [(2, ((138 : Nat) : Int)), (0, v1), (0, v2), (0, v3), (0, (M ((M 138 3).toNat + 1) (v3).toNat)), (0, (M ((M 138 3).toNat + 2) (v3).toNat)), u6]) (Nat.le_of_ble_eq_true rfl) rfl ?_
      refine wp_iload_n (v := v1) rfl ?_
      refine wp_iload_n (v := v3) rfl ?_
      obtain ⟨x31, e32, h⟩ := d_bind h
      refine y_callS (as := [(0, v1), (0, v3)]) (S1 := []) (Nat.le_of_ble_eq_true rfl) (by omega) (t_X13_bit sM e32) (Nat.le_of_ble_eq_true rfl) rfl (Nat.le_of_ble_eq_true rfl) (Nat.le_of_ble_eq_true rfl) rfl ?_
      refine y_nez (fun c33 => ?_) (fun c33 => ?_)
      · rw [if_neg c33] at h
        refine y_blk (t := 189) rfl (show fnd bk_X13_lays 189 = some _ from rfl) aB_X13_lays ?_
        obtain ⟨c34, h⟩ := d_ite h
        refine y_iinc (L1 := [(2, ((138 : Nat) : Int)), (0, v1), (0, v2), (0, (v3 + 1)), (0, (M ((M 138 3).toNat + 1) (v3).toNat)), (0, (M ((M 138 3).toNat + 2) (v3).toNat)), u6]) rfl (Nat.le_of_ble_eq_true rfl) ⟨by decide, by decide⟩ c34 rfl ?_
        refine wp_goto ?_
        exact ih (v3 + 1) (0, (M ((M 138 3).toNat + 1) (v3).toNat)) (0, (M ((M 138 3).toNat + 2) (v3).toNat)) u6 M sM h
      · rw [if_pos c33] at h
        refine wp_iload (v := (M ((M 138 3).toNat + 1) (v3).toNat)) rfl ?_
        refine wp_iload_n (v := v2) rfl ?_
        refine wp_icmp_eq (fun c35 => ?_) (fun c35 => ?_)
        · rw [if_pos c35] at h
          refine y_blk (t := 189) rfl (show fnd bk_X13_lays 189 = some _ from rfl) aB_X13_lays ?_
          obtain ⟨c36, h⟩ := d_ite h
          refine y_iinc (L1 := [(2, ((138 : Nat) : Int)), (0, v1), (0, v2), (0, (v3 + 1)), (0, (M ((M 138 3).toNat + 1) (v3).toNat)), (0, (M ((M 138 3).toNat + 2) (v3).toNat)), u6]) rfl (Nat.le_of_ble_eq_true rfl) ⟨by decide, by decide⟩ c36 rfl ?_
          refine wp_goto ?_
          exact ih (v3 + 1) (0, (M ((M 138 3).toNat + 1) (v3).toNat)) (0, (M ((M 138 3).toNat + 2) (v3).toNat)) u6 M sM h
        · rw [if_neg c35] at h
          refine wp_iload (v := (M ((M 138 3).toNat + 2) (v3).toNat)) rfl ?_
          refine wp_iload_n (v := v2) rfl ?_
          refine y_ne (fun c37 => ?_) (fun c37 => ?_)
          · rw [if_neg c37] at h
            refine y_blk (t := 117) rfl (show fnd bk_X13_lays 117 = some _ from rfl) aB_X13_lays ?_
            refine wp_aload_n (v := ((138 : Nat) : Int)) rfl (Int.natCast_nonneg _) ?_
            refine y_get (show ash 138 = (13, 38) from rfl) (Nat.lt_of_lt_of_le (show 138 < 154 by decide) hS.1.1) (v := ((144 : Nat) : Int)) (sM.at 138 22 144 (by decide +kernel)) rfl ?_
            refine wp_bipush (by decide) ?_
            refine wp_iload (v := (M ((M 138 3).toNat + 1) (v3).toNat)) rfl ?_
            obtain ⟨c38, h⟩ := d_ite h
            refine wp_imul c38 ?_
            refine wp_iload (v := (M ((M 138 3).toNat + 2) (v3).toNat)) rfl ?_
            obtain ⟨c39, h⟩ := d_ite h
            refine wp_iadd c39 ?_
            refine wp_aload_n (v := ((138 : Nat) : Int)) rfl (Int.natCast_nonneg _) ?_
            refine y_get (show ash 138 = (13, 38) from rfl) (Nat.lt_of_lt_of_le (show 138 < 154 by decide) hS.1.1) (v := (((M 138 3).toNat : Nat) : Int)) c28.eq rfl ?_
            refine y_get (aW0 hS.1.2 c28.is) (ltW c28.is 0 (by decide)) (v := ((((M 138 3).toNat + 3) : Nat) : Int)) (rW16 sM c28.is) rfl ?_
            refine wp_iload_n (v := v3) rfl ?_
            refine y_iald (aW3 hS.1.2 c28.is) (Or.inl (ltW c28.is 3 (by decide))) (Nat.ne_of_lt (Nat.lt_of_lt_of_le (ltW c28.is 3 (by decide)) hS.1.2)) c30 (v := M ((M 138 3).toNat + 3) (v3).toNat) rfl ?_
            obtain ⟨c40, h⟩ := d_ite h
            refine y_iast (show ash 144 = (100, 64) from rfl) (Nat.lt_of_lt_of_le (show 144 < 154 by decide) hS.1.1) c40 ?_
            obtain ⟨m41, em41, h⟩ := d_bind h
            have em41 := Option.some.inj em41
            have s42 : Sh T.1 m41 := em41 ▸ sM.up (Or.inl ⟨by rw [(show ash 144 = (100, 64) from rfl)]; exact Nat.le_of_ble_eq_true rfl, by rw [(show ash 144 = (100, 64) from rfl)]; exact Nat.le_of_ble_eq_true rfl⟩) (by have := (Nat.lt_of_lt_of_le (show 144 < 154 by decide) hS.1.1); have := hS.1.2; omega)
            rw [em41]
            refine wp_aload_n (v := ((138 : Nat) : Int)) rfl (Int.natCast_nonneg _) ?_
            refine y_get (show ash 138 = (13, 38) from rfl) (Nat.lt_of_lt_of_le (show 138 < 154 by decide) hS.1.1) (v := ((144 : Nat) : Int)) (s42.at 138 22 144 (by decide +kernel)) rfl ?_
            refine wp_bipush (by decide) ?_
            refine wp_iload (v := (M ((M 138 3).toNat + 2) (v3).toNat)) rfl ?_
            obtain ⟨c43, h⟩ := d_ite h
            refine wp_imul c43 ?_
            refine wp_iload (v := (M ((M 138 3).toNat + 1) (v3).toNat)) rfl ?_
            obtain ⟨c44, h⟩ := d_ite h
            refine wp_iadd c44 ?_
            refine wp_aload_n (v := ((138 : Nat) : Int)) rfl (Int.natCast_nonneg _) ?_
            obtain ⟨c45, h⟩ := d_ite h
            refine y_get (show ash 138 = (13, 38) from rfl) (Nat.lt_of_lt_of_le (show 138 < 154 by decide) hS.1.1) (v := (((m41 138 3).toNat : Nat) : Int)) c45.eq rfl ?_
            refine y_get (aW0 hS.1.2 c45.is) (ltW c45.is 0 (by decide)) (v := ((((m41 138 3).toNat + 3) : Nat) : Int)) (rW16 s42 c45.is) rfl ?_
            refine wp_iload_n (v := v3) rfl ?_
            refine y_iald (aW3 hS.1.2 c45.is) (Or.inl (ltW c45.is 3 (by decide))) (Nat.ne_of_lt (Nat.lt_of_lt_of_le (ltW c45.is 3 (by decide)) hS.1.2)) c30 (v := m41 ((m41 138 3).toNat + 3) (v3).toNat) rfl ?_
            obtain ⟨c46, h⟩ := d_ite h
            refine y_iast (show ash 144 = (100, 64) from rfl) (Nat.lt_of_lt_of_le (show 144 < 154 by decide) hS.1.1) c46 ?_
            obtain ⟨m47, em47, h⟩ := d_bind h
            have em47 := Option.some.inj em47
            have s48 : Sh T.1 m47 := em47 ▸ s42.up (Or.inl ⟨by rw [(show ash 144 = (100, 64) from rfl)]; exact Nat.le_of_ble_eq_true rfl, by rw [(show ash 144 = (100, 64) from rfl)]; exact Nat.le_of_ble_eq_true rfl⟩) (by have := (Nat.lt_of_lt_of_le (show 144 < 154 by decide) hS.1.1); have := hS.1.2; omega)
            rw [em47]
            refine wp_aload_n (v := ((138 : Nat) : Int)) rfl (Int.natCast_nonneg _) ?_
            refine y_get (show ash 138 = (13, 38) from rfl) (Nat.lt_of_lt_of_le (show 138 < 154 by decide) hS.1.1) (v := ((145 : Nat) : Int)) (s48.at 138 23 145 (by decide +kernel)) rfl ?_
            refine wp_iload (v := (M ((M 138 3).toNat + 1) (v3).toNat)) rfl ?_
            refine wp_dup2 ⟨Or.inl rfl, Or.inr rfl⟩ ?_
            obtain ⟨c49, h⟩ := d_ite h
            refine y_iald (show ash 145 = (100, 8) from rfl) (Or.inl (Nat.lt_of_lt_of_le (show 145 < 154 by decide) hS.1.1)) (Nat.ne_of_lt (Nat.lt_of_lt_of_le (Nat.lt_of_lt_of_le (show 145 < 154 by decide) hS.1.1) hS.1.2)) c49 (v := m47 145 ((M ((M 138 3).toNat + 1) (v3).toNat)).toNat) rfl ?_
            refine wp_iconst ⟨by decide, by decide⟩ ?_
            refine wp_iload (v := (M ((M 138 3).toNat + 2) (v3).toNat)) rfl ?_
            refine wp_ishl ?_
            refine wp_ior ?_
            refine y_iast (show ash 145 = (100, 8) from rfl) (Nat.lt_of_lt_of_le (show 145 < 154 by decide) hS.1.1) c49 ?_
            obtain ⟨m50, em50, h⟩ := d_bind h
            have em50 := Option.some.inj em50
            have s51 : Sh T.1 m50 := em50 ▸ s48.up (Or.inl ⟨by rw [(show ash 145 = (100, 8) from rfl)]; exact Nat.le_of_ble_eq_true rfl, by rw [(show ash 145 = (100, 8) from rfl)]; exact Nat.le_of_ble_eq_true rfl⟩) (by have := (Nat.lt_of_lt_of_le (show 145 < 154 by decide) hS.1.1); have := hS.1.2; omega)
            rw [em50]
            refine wp_aload_n (v := ((138 : Nat) : Int)) rfl (Int.natCast_nonneg _) ?_
            refine y_get (show ash 138 = (13, 38) from rfl) (Nat.lt_of_lt_of_le (show 138 < 154 by decide) hS.1.1) (v := ((145 : Nat) : Int)) (s51.at 138 23 145 (by decide +kernel)) rfl ?_
            refine wp_iload (v := (M ((M 138 3).toNat + 2) (v3).toNat)) rfl ?_
            refine wp_dup2 ⟨Or.inl rfl, Or.inr rfl⟩ ?_
            obtain ⟨c52, h⟩ := d_ite h
            refine y_iald (show ash 145 = (100, 8) from rfl) (Or.inl (Nat.lt_of_lt_of_le (show 145 < 154 by decide) hS.1.1)) (Nat.ne_of_lt (Nat.lt_of_lt_of_le (Nat.lt_of_lt_of_le (show 145 < 154 by decide) hS.1.1) hS.1.2)) c52 (v := m50 145 ((M ((M 138 3).toNat + 2) (v3).toNat)).toNat) rfl ?_
            refine wp_iconst ⟨by decide, by decide⟩ ?_
            refine wp_iload (v := (M ((M 138 3).toNat + 1) (v3).toNat)) rfl ?_
            refine wp_ishl ?_
            refine wp_ior ?_
            refine y_iast (show ash 145 = (100, 8) from rfl) (Nat.lt_of_lt_of_le (show 145 < 154 by decide) hS.1.1) c52 ?_
            obtain ⟨m53, em53, h⟩ := d_bind h
            have em53 := Option.some.inj em53
            have s54 : Sh T.1 m53 := em53 ▸ s51.up (Or.inl ⟨by rw [(show ash 145 = (100, 8) from rfl)]; exact Nat.le_of_ble_eq_true rfl, by rw [(show ash 145 = (100, 8) from rfl)]; exact Nat.le_of_ble_eq_true rfl⟩) (by have := (Nat.lt_of_lt_of_le (show 145 < 154 by decide) hS.1.1); have := hS.1.2; omega)
            rw [em53]
            refine y_blk (t := 189) rfl (show fnd bk_X13_lays 189 = some _ from rfl) aB_X13_lays ?_
            obtain ⟨c55, h⟩ := d_ite h
            refine y_iinc (L1 := [(2, ((138 : Nat) : Int)), (0, v1), (0, v2), (0, (v3 + 1)), (0, (M ((M 138 3).toNat + 1) (v3).toNat)), (0, (M ((M 138 3).toNat + 2) (v3).toNat)), u6]) rfl (Nat.le_of_ble_eq_true rfl) ⟨by decide, by decide⟩ c55 rfl ?_
            refine wp_goto ?_
            exact ih (v3 + 1) (0, (M ((M 138 3).toNat + 1) (v3).toNat)) (0, (M ((M 138 3).toNat + 2) (v3).toNat)) u6 m53 s54 h
          · rw [if_pos c37] at h
            refine wp_goto ?_
            refine y_blk (t := 189) rfl (show fnd bk_X13_lays 189 = some _ from rfl) aB_X13_lays ?_
            obtain ⟨c56, h⟩ := d_ite h
            refine y_iinc (L1 := [(2, ((138 : Nat) : Int)), (0, v1), (0, v2), (0, (v3 + 1)), (0, (M ((M 138 3).toNat + 1) (v3).toNat)), (0, (M ((M 138 3).toNat + 2) (v3).toNat)), u6]) rfl (Nat.le_of_ble_eq_true rfl) ⟨by decide, by decide⟩ c56 rfl ?_
            refine wp_goto ?_
            exact ih (v3 + 1) (0, (M ((M 138 3).toNat + 1) (v3).toNat)) (0, (M ((M 138 3).toNat + 2) (v3).toNat)) u6 M sM h
def l_X13_lays_226 (T : Nat) (v3 : Int) (v4 : Int) (k : Int → aM → Option (Int × aM)) : Nat → Int → aM → Option (Int × aM)
| 0, _, _ => none
| n + 1, v5, M =>
 if okW T (M 138 3) then
 if (M (M 138 3).toNat 3) ≤ v5 then
 k v5 M else
 (f_X13_apart T v4 v3 M).bind fun x69 =>
 (f_X13_apart T v3 v5 M).bind fun x71 =>
 if aIn (x69 + x71) then
 (f_X13_apart T v4 v5 M).bind fun x74 =>
 if x74 ≤ (x69 + x71) then
 if aIn (v5 + 1) then
 l_X13_lays_226 T v3 v4 k n (v5 + 1) M else none else
 if aIn (8 * v4) then
 if aIn ((8 * v4) + v5) then
 if 0 ≤ ((8 * v4) + v5) ∧ ((8 * v4) + v5) < 64 then
 (some (aup M 144 (((8 * v4) + v5)).toNat (x69 + x71))).bind fun m81 =>
 if aIn (v5 + 1) then
 l_X13_lays_226 T v3 v4 k n (v5 + 1) m81 else none else none else none else none else none else none
theorem tl_X13_lays_226 {d : Nat} (hd : 1 ≤ d) {T : T3} {v3 : Int} {v4 : Int} {k : Int → aM → Option (Int × aM)} {y : (Int × aM)}  {M0 : aM} (hS : Sh T.1 M0)
    (hk : ∀ (v5 : Int) (u1 u2 u6 : aV) (M : aM), Sh T.1 M → k v5 M = some y → Wp d 243 289 [] [(2, ((138 : Nat) : Int)), u1, u2, (0, v3), (0, v4), (0, v5), u6] [] (M, T) (fun r2 σ2 => r2 = none ∧ σ2 = (y.2, T) ∧ Sh T.1 y.2)) :
    ∀ (n : Nat) (v5 : Int) (u1 u2 u6 : aV) (M : aM), Sh T.1 M → l_X13_lays_226 T.1 v3 v4 k n v5 M = some y → Wp d 243 226 [] [(2, ((138 : Nat) : Int)), u1, u2, (0, v3), (0, v4), (0, v5), u6] [] (M, T) (fun r2 σ2 => r2 = none ∧ σ2 = (y.2, T) ∧ Sh T.1 y.2) := by
  intro n
  induction n with
  | zero =>
    intro v5 u1 u2 u6 M _ h
    exact nomatch (show (none : Option (Int × aM)) = some y from h)
  | succ n ih =>
    intro v5 u1 u2 u6 M sM h
    rw [l_X13_lays_226] at h
    refine y_blk (t := 226) rfl (show fnd bk_X13_lays 226 = some _ from rfl) aB_X13_lays ?_
    refine wp_iload (v := v5) rfl ?_
    refine wp_aload_n (v := ((138 : Nat) : Int)) rfl (Int.natCast_nonneg _) ?_
    obtain ⟨c67, h⟩ := d_ite h
    refine y_get (show ash 138 = (13, 38) from rfl) (Nat.lt_of_lt_of_le (show 138 < 154 by decide) hS.1.1) (v := (((M 138 3).toNat : Nat) : Int)) c67.eq rfl ?_
    refine y_get (aW0 hS.1.2 c67.is) (ltW c67.is 0 (by decide)) (v := M (M 138 3).toNat 3) rfl rfl ?_
    refine wp_icmp_ge (fun c68 => ?_) (fun c68 => ?_)
    · rw [if_pos c68] at h
      exact hk v5 u1 u2 u6 M sM h
    · rw [if_neg c68] at h
      refine wp_aload_n (v := ((138 : Nat) : Int)) rfl (Int.natCast_nonneg _) ?_
      refine wp_iload (v := v4) rfl ?_
      refine wp_iload_n (v := v3) rfl ?_
      obtain ⟨x69, e70, h⟩ := d_bind h
      refine y_callV (as := [(0, v4), (0, v3)]) (S1 := []) (Nat.le_of_ble_eq_true rfl) (by omega) (t_X13_apart sM e70) (Nat.le_of_ble_eq_true rfl) rfl (show ash 138 = (13, 38) from rfl) (Nat.lt_of_lt_of_le (show 138 < 154 by decide) hS.1.1) (Nat.le_of_ble_eq_true rfl) (Nat.le_of_ble_eq_true rfl) rfl ?_
      refine wp_aload_n (v := ((138 : Nat) : Int)) rfl (Int.natCast_nonneg _) ?_
      refine wp_iload_n (v := v3) rfl ?_
      refine wp_iload (v := v5) rfl ?_
      obtain ⟨x71, e72, h⟩ := d_bind h
      refine y_callV (as := [(0, v3), (0, v5)]) (S1 := [(0, x69)]) (Nat.le_of_ble_eq_true rfl) (by omega) (t_X13_apart sM e72) (Nat.le_of_ble_eq_true rfl) rfl (show ash 138 = (13, 38) from rfl) (Nat.lt_of_lt_of_le (show 138 < 154 by decide) hS.1.1) (Nat.le_of_ble_eq_true rfl) (Nat.le_of_ble_eq_true rfl) rfl ?_
      obtain ⟨c73, h⟩ := d_ite h
      refine wp_iadd c73 ?_
      refine y_st (L1 := [(2, ((138 : Nat) : Int)), u1, u2, (0, v3), (0, v4), (0, v5), (0, (x69 + x71))]) (Nat.le_of_ble_eq_true rfl) rfl ?_
      refine wp_iload (v := (x69 + x71)) rfl ?_
      refine wp_aload_n (v := ((138 : Nat) : Int)) rfl (Int.natCast_nonneg _) ?_
      refine wp_iload (v := v4) rfl ?_
      refine wp_iload (v := v5) rfl ?_
      obtain ⟨x74, e75, h⟩ := d_bind h
      refine y_callV (as := [(0, v4), (0, v5)]) (S1 := [(0, (x69 + x71))]) (Nat.le_of_ble_eq_true rfl) (by omega) (t_X13_apart sM e75) (Nat.le_of_ble_eq_true rfl) rfl (show ash 138 = (13, 38) from rfl) (Nat.lt_of_lt_of_le (show 138 < 154 by decide) hS.1.1) (Nat.le_of_ble_eq_true rfl) (Nat.le_of_ble_eq_true rfl) rfl ?_
      refine wp_icmp_ge (fun c76 => ?_) (fun c76 => ?_)
      · rw [if_pos c76] at h
        refine y_blk (t := 283) rfl (show fnd bk_X13_lays 283 = some _ from rfl) aB_X13_lays ?_
        obtain ⟨c77, h⟩ := d_ite h
        refine y_iinc (L1 := [(2, ((138 : Nat) : Int)), u1, u2, (0, v3), (0, v4), (0, (v5 + 1)), (0, (x69 + x71))]) rfl (Nat.le_of_ble_eq_true rfl) ⟨by decide, by decide⟩ c77 rfl ?_
        refine wp_goto ?_
        exact ih (v5 + 1) u1 u2 (0, (x69 + x71)) M sM h
      · rw [if_neg c76] at h
        refine wp_aload_n (v := ((138 : Nat) : Int)) rfl (Int.natCast_nonneg _) ?_
        refine y_get (show ash 138 = (13, 38) from rfl) (Nat.lt_of_lt_of_le (show 138 < 154 by decide) hS.1.1) (v := ((144 : Nat) : Int)) (sM.at 138 22 144 (by decide +kernel)) rfl ?_
        refine wp_bipush (by decide) ?_
        refine wp_iload (v := v4) rfl ?_
        obtain ⟨c78, h⟩ := d_ite h
        refine wp_imul c78 ?_
        refine wp_iload (v := v5) rfl ?_
        obtain ⟨c79, h⟩ := d_ite h
        refine wp_iadd c79 ?_
        refine wp_iload (v := (x69 + x71)) rfl ?_
        obtain ⟨c80, h⟩ := d_ite h
        refine y_iast (show ash 144 = (100, 64) from rfl) (Nat.lt_of_lt_of_le (show 144 < 154 by decide) hS.1.1) c80 ?_
        obtain ⟨m81, em81, h⟩ := d_bind h
        have em81 := Option.some.inj em81
        have s82 : Sh T.1 m81 := em81 ▸ sM.up (Or.inl ⟨by rw [(show ash 144 = (100, 64) from rfl)]; exact Nat.le_of_ble_eq_true rfl, by rw [(show ash 144 = (100, 64) from rfl)]; exact Nat.le_of_ble_eq_true rfl⟩) (by have := (Nat.lt_of_lt_of_le (show 144 < 154 by decide) hS.1.1); have := hS.1.2; omega)
        rw [em81]
        refine y_blk (t := 283) rfl (show fnd bk_X13_lays 283 = some _ from rfl) aB_X13_lays ?_
        obtain ⟨c83, h⟩ := d_ite h
        refine y_iinc (L1 := [(2, ((138 : Nat) : Int)), u1, u2, (0, v3), (0, v4), (0, (v5 + 1)), (0, (x69 + x71))]) rfl (Nat.le_of_ble_eq_true rfl) ⟨by decide, by decide⟩ c83 rfl ?_
        refine wp_goto ?_
        exact ih (v5 + 1) u1 u2 (0, (x69 + x71)) m81 s82 h
def l_X13_lays_211 (T : Nat) (v3 : Int) (k : Int → aM → Option (Int × aM)) : Nat → Int → aM → Option (Int × aM)
| 0, _, _ => none
| n + 1, v4, M =>
 if okW T (M 138 3) then
 if (M (M 138 3).toNat 3) ≤ v4 then
 k v4 M else
 l_X13_lays_226 T v3 v4 (fun w84 m88 =>
 if aIn (v4 + 1) then
 l_X13_lays_211 T v3 k n (v4 + 1) m88 else none) FU 0 M else none
theorem tl_X13_lays_211 {d : Nat} (hd : 1 ≤ d) {T : T3} {v3 : Int} {k : Int → aM → Option (Int × aM)} {y : (Int × aM)}  {M0 : aM} (hS : Sh T.1 M0)
    (hk : ∀ (v4 : Int) (u1 u2 u5 u6 : aV) (M : aM), Sh T.1 M → k v4 M = some y → Wp d 243 295 [] [(2, ((138 : Nat) : Int)), u1, u2, (0, v3), (0, v4), u5, u6] [] (M, T) (fun r2 σ2 => r2 = none ∧ σ2 = (y.2, T) ∧ Sh T.1 y.2)) :
    ∀ (n : Nat) (v4 : Int) (u1 u2 u5 u6 : aV) (M : aM), Sh T.1 M → l_X13_lays_211 T.1 v3 k n v4 M = some y → Wp d 243 211 [] [(2, ((138 : Nat) : Int)), u1, u2, (0, v3), (0, v4), u5, u6] [] (M, T) (fun r2 σ2 => r2 = none ∧ σ2 = (y.2, T) ∧ Sh T.1 y.2) := by
  intro n
  induction n with
  | zero =>
    intro v4 u1 u2 u5 u6 M _ h
    exact nomatch (show (none : Option (Int × aM)) = some y from h)
  | succ n ih =>
    intro v4 u1 u2 u5 u6 M sM h
    rw [l_X13_lays_211] at h
    refine y_blk (t := 211) rfl (show fnd bk_X13_lays 211 = some _ from rfl) aB_X13_lays ?_
    refine wp_iload (v := v4) rfl ?_
    refine wp_aload_n (v := ((138 : Nat) : Int)) rfl (Int.natCast_nonneg _) ?_
    obtain ⟨c65, h⟩ := d_ite h
    refine y_get (show ash 138 = (13, 38) from rfl) (Nat.lt_of_lt_of_le (show 138 < 154 by decide) hS.1.1) (v := (((M 138 3).toNat : Nat) : Int)) c65.eq rfl ?_
    refine y_get (aW0 hS.1.2 c65.is) (ltW c65.is 0 (by decide)) (v := M (M 138 3).toNat 3) rfl rfl ?_
    refine wp_icmp_ge (fun c66 => ?_) (fun c66 => ?_)
    · rw [if_pos c66] at h
      exact hk v4 u1 u2 u5 u6 M sM h
    · rw [if_neg c66] at h
      refine wp_iconst ⟨by decide, by decide⟩ ?_
      refine y_st (L1 := [(2, ((138 : Nat) : Int)), u1, u2, (0, v3), (0, v4), (0, 0), u6]) (Nat.le_of_ble_eq_true rfl) rfl ?_
      refine tl_X13_lays_226 (by omega) hS (fun w84 u85 u86 u87 m88 s89 h => ?_) FU 0 u1 u2 u6 M sM h
      refine y_blk (t := 289) rfl (show fnd bk_X13_lays 289 = some _ from rfl) aB_X13_lays ?_
      obtain ⟨c90, h⟩ := d_ite h
      refine y_iinc (L1 := [(2, ((138 : Nat) : Int)), u85, u86, (0, v3), (0, (v4 + 1)), (0, w84), u87]) rfl (Nat.le_of_ble_eq_true rfl) ⟨by decide, by decide⟩ c90 rfl ?_
      refine wp_goto ?_
      exact ih (v4 + 1) u85 u86 (0, w84) u87 m88 s89 h
def l_X13_lays_197 (T : Nat)  (k : Int → aM → Option (Int × aM)) : Nat → Int → aM → Option (Int × aM)
| 0, _, _ => none
| n + 1, v3, M =>
 if okW T (M 138 3) then
 if (M (M 138 3).toNat 3) ≤ v3 then
 k v3 M else
 l_X13_lays_211 T v3 (fun w91 m96 =>
 if aIn (v3 + 1) then
 l_X13_lays_197 T k n (v3 + 1) m96 else none) FU 0 M else none
theorem tl_X13_lays_197 {d : Nat} (hd : 1 ≤ d) {T : T3}  {k : Int → aM → Option (Int × aM)} {y : (Int × aM)}  {M0 : aM} (hS : Sh T.1 M0)
    (hk : ∀ (v3 : Int) (u1 u2 u4 u5 u6 : aV) (M : aM), Sh T.1 M → k v3 M = some y → Wp d 243 301 [] [(2, ((138 : Nat) : Int)), u1, u2, (0, v3), u4, u5, u6] [] (M, T) (fun r2 σ2 => r2 = none ∧ σ2 = (y.2, T) ∧ Sh T.1 y.2)) :
    ∀ (n : Nat) (v3 : Int) (u1 u2 u4 u5 u6 : aV) (M : aM), Sh T.1 M → l_X13_lays_197 T.1 k n v3 M = some y → Wp d 243 197 [] [(2, ((138 : Nat) : Int)), u1, u2, (0, v3), u4, u5, u6] [] (M, T) (fun r2 σ2 => r2 = none ∧ σ2 = (y.2, T) ∧ Sh T.1 y.2) := by
  intro n
  induction n with
  | zero =>
    intro v3 u1 u2 u4 u5 u6 M _ h
    exact nomatch (show (none : Option (Int × aM)) = some y from h)
  | succ n ih =>
    intro v3 u1 u2 u4 u5 u6 M sM h
    rw [l_X13_lays_197] at h
    refine y_blk (t := 197) rfl (show fnd bk_X13_lays 197 = some _ from rfl) aB_X13_lays ?_
    refine wp_iload_n (v := v3) rfl ?_
    refine wp_aload_n (v := ((138 : Nat) : Int)) rfl (Int.natCast_nonneg _) ?_
    obtain ⟨c63, h⟩ := d_ite h
    refine y_get (show ash 138 = (13, 38) from rfl) (Nat.lt_of_lt_of_le (show 138 < 154 by decide) hS.1.1) (v := (((M 138 3).toNat : Nat) : Int)) c63.eq rfl ?_
    refine y_get (aW0 hS.1.2 c63.is) (ltW c63.is 0 (by decide)) (v := M (M 138 3).toNat 3) rfl rfl ?_
    refine wp_icmp_ge (fun c64 => ?_) (fun c64 => ?_)
    · rw [if_pos c64] at h
      exact hk v3 u1 u2 u4 u5 u6 M sM h
    · rw [if_neg c64] at h
      refine wp_iconst ⟨by decide, by decide⟩ ?_
      refine y_st (L1 := [(2, ((138 : Nat) : Int)), u1, u2, (0, v3), (0, 0), u5, u6]) (Nat.le_of_ble_eq_true rfl) rfl ?_
      refine tl_X13_lays_211 (by omega) hS (fun w91 u92 u93 u94 u95 m96 s97 h => ?_) FU 0 u1 u2 u5 u6 M sM h
      refine y_blk (t := 295) rfl (show fnd bk_X13_lays 295 = some _ from rfl) aB_X13_lays ?_
      obtain ⟨c98, h⟩ := d_ite h
      refine y_iinc (L1 := [(2, ((138 : Nat) : Int)), u92, (ajk u93), (0, (v3 + 1)), (0, w91), u94, u95]) rfl (Nat.le_of_ble_eq_true rfl) ⟨by decide, by decide⟩ c98 (aset_jk (q := 2) (u := u93) rfl) ?_
      refine wp_goto ?_
      exact ih (v3 + 1) u92 (ajk u93) (0, w91) u94 u95 m96 s97 h
def f_X13_lays (T : Nat) (v1 : Int) (v2 : Int) (M : aM) : Option (Int × aM) :=
 l_X13_lays_2 T v1 v2 (fun w11 m15 =>
 l_X13_lays_40 T v1 v2 (fun w22 m26 =>
 l_X13_lays_61 T v1 v2 (fun w57 m61 =>
 l_X13_lays_197 T (fun w99 m105 =>
 some (0, m105)) FU 0 m61) FU 0 m26) FU 0 m15) FU 0 M
theorem t_X13_lays {T : T3} {v1 : Int} {v2 : Int} {M : aM} {y : (Int × aM)}  (hS : Sh T.1 M) (h : f_X13_lays T.1 v1 v2 M = some y) : Mr 1 243 [(2, ((138 : Nat) : Int)), (0, v1), (0, v2)] M (none) y.2 T ∧ Sh T.1 y.2 := by
  have key : ∀ d, 1 ≤ d → Wp d 243 0 [] [(2, ((138 : Nat) : Int)), (0, v1), (0, v2), (9, 0), (9, 0), (9, 0), (9, 0)] [] (M, T) (fun r2 σ2 => r2 = none ∧ σ2 = (y.2, T) ∧ Sh T.1 y.2) := by
    intro d hd
    rw [f_X13_lays] at h
    refine y_blk (t := 0) rfl (show fnd bk_X13_lays 0 = some _ from rfl) aB_X13_lays ?_
    refine wp_iconst ⟨by decide, by decide⟩ ?_
    refine y_stn (L1 := [(2, ((138 : Nat) : Int)), (0, v1), (0, v2), (0, 0), (9, 0), (9, 0), (9, 0)]) (Nat.le_of_ble_eq_true rfl) rfl ?_
    refine tl_X13_lays_2 (by omega) hS (fun w11 u12 u13 u14 m15 s16 h => ?_) FU 0 (9, 0) (9, 0) (9, 0) M hS h
    refine y_blk (t := 38) rfl (show fnd bk_X13_lays 38 = some _ from rfl) aB_X13_lays ?_
    refine wp_iconst ⟨by decide, by decide⟩ ?_
    refine y_stn (L1 := [(2, ((138 : Nat) : Int)), (0, v1), (0, v2), (0, 0), u12, u13, u14]) (Nat.le_of_ble_eq_true rfl) rfl ?_
    refine tl_X13_lays_40 (by omega) hS (fun w22 u23 u24 u25 m26 s27 h => ?_) FU 0 u12 u13 u14 m15 s16 h
    refine y_blk (t := 59) rfl (show fnd bk_X13_lays 59 = some _ from rfl) aB_X13_lays ?_
    refine wp_iconst ⟨by decide, by decide⟩ ?_
    refine y_stn (L1 := [(2, ((138 : Nat) : Int)), (0, v1), (0, v2), (0, 0), u23, u24, u25]) (Nat.le_of_ble_eq_true rfl) rfl ?_
    refine tl_X13_lays_61 (by omega) hS (fun w57 u58 u59 u60 m61 s62 h => ?_) FU 0 u23 u24 u25 m26 s27 h
    refine y_blk (t := 195) rfl (show fnd bk_X13_lays 195 = some _ from rfl) aB_X13_lays ?_
    refine wp_iconst ⟨by decide, by decide⟩ ?_
    refine y_stn (L1 := [(2, ((138 : Nat) : Int)), (0, v1), (0, v2), (0, 0), u58, u59, u60]) (Nat.le_of_ble_eq_true rfl) rfl ?_
    refine tl_X13_lays_197 (by omega) hS (fun w99 u100 u101 u102 u103 u104 m105 s106 h => ?_) FU 0 (0, v1) (0, v2) u58 u59 u60 m61 s62 h
    refine y_blk (t := 301) rfl (show fnd bk_X13_lays 301 = some _ from rfl) aB_X13_lays ?_
    cases h
    exact wp_return ⟨rfl, rfl, s106⟩
  exact ⟨fun d hd => Ms.of3 (key d hd), Ms.sh (key 1 (Nat.le_refl _))⟩
theorem aB_X13_lengthOf : ∀ pc, aB 244 pc = fnd bk_X13_lengthOf pc := fun _ => rfl
def f_X13_lengthOf (T : Nat) (v1 : Int) (v2 : Int) (M : aM) : Option Int :=
 if okW T (M 138 3) then
 (f_X12_way T (M 138 3).toNat v1 v2 M).bind fun x2 =>
 if 0 ≤ x2 ∧ x2 < 10 then
 some (M ((M 138 3).toNat + 3) (x2).toNat) else none else none
theorem t_X13_lengthOf {T : T3} {v1 : Int} {v2 : Int} {M : aM} {y : Int}  (hS : Sh T.1 M) (h : f_X13_lengthOf T.1 v1 v2 M = some y) : Mr 1 244 [(2, ((138 : Nat) : Int)), (0, v1), (0, v2)] M (some (0, y)) M T := by
  have key : ∀ d, 1 ≤ d → Wp d 244 0 [] [(2, ((138 : Nat) : Int)), (0, v1), (0, v2)] [] (M, T) (fun r2 σ2 => r2 = some (0, y) ∧ σ2 = (M, T)) := by
    intro d hd
    rw [f_X13_lengthOf] at h
    refine y_blk (t := 0) rfl (show fnd bk_X13_lengthOf 0 = some _ from rfl) aB_X13_lengthOf ?_
    refine wp_aload_n (v := ((138 : Nat) : Int)) rfl (Int.natCast_nonneg _) ?_
    obtain ⟨c1, h⟩ := d_ite h
    refine y_get (show ash 138 = (13, 38) from rfl) (Nat.lt_of_lt_of_le (show 138 < 154 by decide) hS.1.1) (v := (((M 138 3).toNat : Nat) : Int)) c1.eq rfl ?_
    refine y_get (aW0 hS.1.2 c1.is) (ltW c1.is 0 (by decide)) (v := ((((M 138 3).toNat + 3) : Nat) : Int)) (rW16 hS c1.is) rfl ?_
    refine wp_aload_n (v := ((138 : Nat) : Int)) rfl (Int.natCast_nonneg _) ?_
    refine y_get (show ash 138 = (13, 38) from rfl) (Nat.lt_of_lt_of_le (show 138 < 154 by decide) hS.1.1) (v := (((M 138 3).toNat : Nat) : Int)) c1.eq rfl ?_
    refine wp_iload_n (v := v1) rfl ?_
    refine wp_iload_n (v := v2) rfl ?_
    obtain ⟨x2, e3, h⟩ := d_bind h
    refine y_callV (as := [(0, v1), (0, v2)]) (S1 := [(2, ((((M 138 3).toNat + 3) : Nat) : Int))]) (Nat.le_of_ble_eq_true rfl) (by omega) (t_X12_way c1.is hS e3) (Nat.le_of_ble_eq_true rfl) rfl (aW0 hS.1.2 c1.is) (ltW c1.is 0 (by decide)) (Nat.le_of_ble_eq_true rfl) (Nat.le_of_ble_eq_true rfl) rfl ?_
    obtain ⟨c4, h⟩ := d_ite h
    refine y_iald (aW3 hS.1.2 c1.is) (Or.inl (ltW c1.is 3 (by decide))) (Nat.ne_of_lt (Nat.lt_of_lt_of_le (ltW c1.is 3 (by decide)) hS.1.2)) c4 (v := M ((M 138 3).toNat + 3) (x2).toNat) rfl ?_
    cases h
    exact y_ret0 (Or.inl rfl) ⟨rfl, rfl⟩
  exact fun d hd => Ms.of (key d hd)
theorem aB_X13_works : ∀ pc, aB 245 pc = fnd bk_X13_works pc := fun _ => rfl
def l_X13_works_2 (T : Nat)  (k : Int → aM → Option (Int × aM)) : Nat → Int → aM → Option (Int × aM)
| 0, _, _ => none
| n + 1, v1, M =>
 if 12 ≤ v1 then
 k v1 M else
 if 0 ≤ v1 ∧ v1 < 12 then
 (some (aup M 141 (v1).toNat (M 140 (v1).toNat))).bind fun m3 =>
 if aIn (v1 + 1) then
 l_X13_works_2 T k n (v1 + 1) m3 else none else none
theorem tl_X13_works_2 {d : Nat} (hd : 2 ≤ d) {T : T3}  {k : Int → aM → Option (Int × aM)} {y : (Int × aM)}  {M0 : aM} (hS : Sh T.1 M0)
    (hk : ∀ (v1 : Int) (M : aM), Sh T.1 M → k v1 M = some y → Wp d 245 26 [] [(2, ((138 : Nat) : Int)), (0, v1)] [] (M, T) (fun r2 σ2 => r2 = none ∧ σ2 = (y.2, T) ∧ Sh T.1 y.2)) :
    ∀ (n : Nat) (v1 : Int) (M : aM), Sh T.1 M → l_X13_works_2 T.1 k n v1 M = some y → Wp d 245 2 [] [(2, ((138 : Nat) : Int)), (0, v1)] [] (M, T) (fun r2 σ2 => r2 = none ∧ σ2 = (y.2, T) ∧ Sh T.1 y.2) := by
  intro n
  induction n with
  | zero =>
    intro v1 M _ h
    exact nomatch (show (none : Option (Int × aM)) = some y from h)
  | succ n ih =>
    intro v1 M sM h
    rw [l_X13_works_2] at h
    refine y_blk (t := 2) rfl (show fnd bk_X13_works 2 = some _ from rfl) aB_X13_works ?_
    refine wp_iload_n (v := v1) rfl ?_
    refine wp_bipush (by decide) ?_
    refine wp_icmp_ge (fun c1 => ?_) (fun c1 => ?_)
    · rw [if_pos c1] at h
      exact hk v1  M sM h
    · rw [if_neg c1] at h
      refine wp_aload_n (v := ((138 : Nat) : Int)) rfl (Int.natCast_nonneg _) ?_
      refine y_get (show ash 138 = (13, 38) from rfl) (Nat.lt_of_lt_of_le (show 138 < 154 by decide) hS.1.1) (v := ((141 : Nat) : Int)) (sM.at 138 17 141 (by decide +kernel)) rfl ?_
      refine wp_iload_n (v := v1) rfl ?_
      refine wp_aload_n (v := ((138 : Nat) : Int)) rfl (Int.natCast_nonneg _) ?_
      refine y_get (show ash 138 = (13, 38) from rfl) (Nat.lt_of_lt_of_le (show 138 < 154 by decide) hS.1.1) (v := ((140 : Nat) : Int)) (sM.at 138 16 140 (by decide +kernel)) rfl ?_
      refine wp_iload_n (v := v1) rfl ?_
      obtain ⟨c2, h⟩ := d_ite h
      refine y_iald (show ash 140 = (100, 12) from rfl) (Or.inl (Nat.lt_of_lt_of_le (show 140 < 154 by decide) hS.1.1)) (Nat.ne_of_lt (Nat.lt_of_lt_of_le (Nat.lt_of_lt_of_le (show 140 < 154 by decide) hS.1.1) hS.1.2)) c2 (v := M 140 (v1).toNat) rfl ?_
      refine y_iast (show ash 141 = (100, 12) from rfl) (Nat.lt_of_lt_of_le (show 141 < 154 by decide) hS.1.1) c2 ?_
      obtain ⟨m3, em3, h⟩ := d_bind h
      have em3 := Option.some.inj em3
      have s4 : Sh T.1 m3 := em3 ▸ sM.up (Or.inl ⟨by rw [(show ash 141 = (100, 12) from rfl)]; exact Nat.le_of_ble_eq_true rfl, by rw [(show ash 141 = (100, 12) from rfl)]; exact Nat.le_of_ble_eq_true rfl⟩) (by have := (Nat.lt_of_lt_of_le (show 141 < 154 by decide) hS.1.1); have := hS.1.2; omega)
      rw [em3]
      obtain ⟨c5, h⟩ := d_ite h
      refine y_iinc (L1 := [(2, ((138 : Nat) : Int)), (0, (v1 + 1))]) rfl (Nat.le_of_ble_eq_true rfl) ⟨by decide, by decide⟩ c5 rfl ?_
      refine wp_goto ?_
      exact ih (v1 + 1)  m3 s4 h
def f_X13_works (T : Nat)  (M : aM) : Option (Int × aM) :=
 l_X13_works_2 T (fun w6 m7 =>
 (f_X13_lays T (m7 140 10) (-1) m7).bind fun x9 =>
 some (0, x9.2)) FU 0 M
theorem t_X13_works {T : T3}  {M : aM} {y : (Int × aM)}  (hS : Sh T.1 M) (h : f_X13_works T.1  M = some y) : Mr 2 245 [(2, ((138 : Nat) : Int))] M (none) y.2 T ∧ Sh T.1 y.2 := by
  have key : ∀ d, 2 ≤ d → Wp d 245 0 [] [(2, ((138 : Nat) : Int)), (9, 0)] [] (M, T) (fun r2 σ2 => r2 = none ∧ σ2 = (y.2, T) ∧ Sh T.1 y.2) := by
    intro d hd
    rw [f_X13_works] at h
    refine y_blk (t := 0) rfl (show fnd bk_X13_works 0 = some _ from rfl) aB_X13_works ?_
    refine wp_iconst ⟨by decide, by decide⟩ ?_
    refine y_stn (L1 := [(2, ((138 : Nat) : Int)), (0, 0)]) (Nat.le_of_ble_eq_true rfl) rfl ?_
    refine tl_X13_works_2 (by omega) hS (fun w6  m7 s8 h => ?_) FU 0  M hS h
    refine y_blk (t := 26) rfl (show fnd bk_X13_works 26 = some _ from rfl) aB_X13_works ?_
    refine wp_aload_n (v := ((138 : Nat) : Int)) rfl (Int.natCast_nonneg _) ?_
    refine wp_aload_n (v := ((138 : Nat) : Int)) rfl (Int.natCast_nonneg _) ?_
    refine y_get (show ash 138 = (13, 38) from rfl) (Nat.lt_of_lt_of_le (show 138 < 154 by decide) hS.1.1) (v := ((140 : Nat) : Int)) (s8.at 138 16 140 (by decide +kernel)) rfl ?_
    refine wp_bipush (by decide) ?_
    refine y_iald (show ash 140 = (100, 12) from rfl) (Or.inl (Nat.lt_of_lt_of_le (show 140 < 154 by decide) hS.1.1)) (Nat.ne_of_lt (Nat.lt_of_lt_of_le (Nat.lt_of_lt_of_le (show 140 < 154 by decide) hS.1.1) hS.1.2)) ⟨by decide, by decide⟩ (v := m7 140 10) rfl ?_
    refine wp_iconst ⟨by decide, by decide⟩ ?_
    obtain ⟨x9, e10, h⟩ := d_bind h
    obtain ⟨r11, s12⟩ := t_X13_lays s8 e10
    refine y_callVv (as := [(0, (m7 140 10)), (0, (-1))]) (S1 := []) (Nat.le_of_ble_eq_true rfl) (by omega) r11 rfl (show ash 138 = (13, 38) from rfl) (Nat.lt_of_lt_of_le (show 138 < 154 by decide) hS.1.1) (Nat.le_of_ble_eq_true rfl) (Nat.le_of_ble_eq_true rfl) rfl ?_
    cases h
    exact wp_return ⟨rfl, rfl, s12⟩
  exact ⟨fun d hd => Ms.of3 (key d hd), Ms.sh (key 2 (Nat.le_refl _))⟩
theorem aB_X13_towards : ∀ pc, aB 246 pc = fnd bk_X13_towards pc := fun _ => rfl
def l_X13_towards_22 (T : Nat) (v1 : Int) (v2 : Int) (M : aM) (k : Int → Option Int) : Nat → Int → Option Int
| 0, _ => none
| n + 1, v3 =>
 if 0 ≤ v1 ∧ v1 < 8 then
 (f_X13_bit T (M 145 (v1).toNat) v3 M).bind fun x6 =>
 if x6 = 0 then
 if aIn (v3 + 1) then
 l_X13_towards_22 T v1 v2 M k n (v3 + 1) else none else
 (f_X13_lengthOf T v1 v3 M).bind fun x10 =>
 (f_X13_apart T v3 v2 M).bind fun x12 =>
 if aIn (x10 + x12) then
 (f_X13_apart T v1 v2 M).bind fun x15 =>
 if (x10 + x12) = x15 then
 k v3 else
 if aIn (v3 + 1) then
 l_X13_towards_22 T v1 v2 M k n (v3 + 1) else none else none else none
theorem tl_X13_towards_22 {d : Nat} (hd : 2 ≤ d) {T : T3} {v1 : Int} {v2 : Int} {M : aM} {k : Int → Option Int} {y : Int}  (hS : Sh T.1 M)
    (hk : ∀ (v3 : Int), Sh T.1 M → k v3 = some y → Wp d 246 63 [] [(2, ((138 : Nat) : Int)), (0, v1), (0, v2), (0, v3)] [] (M, T) (fun r2 σ2 => r2 = some (0, y) ∧ σ2 = (M, T))) :
    ∀ (n : Nat) (v3 : Int), Sh T.1 M → l_X13_towards_22 T.1 v1 v2 M k n v3 = some y → Wp d 246 22 [] [(2, ((138 : Nat) : Int)), (0, v1), (0, v2), (0, v3)] [] (M, T) (fun r2 σ2 => r2 = some (0, y) ∧ σ2 = (M, T)) := by
  intro n
  induction n with
  | zero =>
    intro v3 _ h
    exact nomatch (show (none : Option Int) = some y from h)
  | succ n ih =>
    intro v3 sM h
    rw [l_X13_towards_22] at h
    refine y_blk (t := 22) rfl (show fnd bk_X13_towards 22 = some _ from rfl) aB_X13_towards ?_
    refine wp_aload_n (v := ((138 : Nat) : Int)) rfl (Int.natCast_nonneg _) ?_
    refine y_get (show ash 138 = (13, 38) from rfl) (Nat.lt_of_lt_of_le (show 138 < 154 by decide) hS.1.1) (v := ((145 : Nat) : Int)) (sM.at 138 23 145 (by decide +kernel)) rfl ?_
    refine wp_iload_n (v := v1) rfl ?_
    obtain ⟨c5, h⟩ := d_ite h
    refine y_iald (show ash 145 = (100, 8) from rfl) (Or.inl (Nat.lt_of_lt_of_le (show 145 < 154 by decide) hS.1.1)) (Nat.ne_of_lt (Nat.lt_of_lt_of_le (Nat.lt_of_lt_of_le (show 145 < 154 by decide) hS.1.1) hS.1.2)) c5 (v := M 145 (v1).toNat) rfl ?_
    refine wp_iload_n (v := v3) rfl ?_
    obtain ⟨x6, e7, h⟩ := d_bind h
    refine y_callS (as := [(0, (M 145 (v1).toNat)), (0, v3)]) (S1 := []) (Nat.le_of_ble_eq_true rfl) (by omega) (t_X13_bit sM e7) (Nat.le_of_ble_eq_true rfl) rfl (Nat.le_of_ble_eq_true rfl) (Nat.le_of_ble_eq_true rfl) rfl ?_
    refine wp_if_eq (fun c8 => ?_) (fun c8 => ?_)
    · rw [if_pos c8] at h
      refine y_blk (t := 57) rfl (show fnd bk_X13_towards 57 = some _ from rfl) aB_X13_towards ?_
      obtain ⟨c9, h⟩ := d_ite h
      refine y_iinc (L1 := [(2, ((138 : Nat) : Int)), (0, v1), (0, v2), (0, (v3 + 1))]) rfl (Nat.le_of_ble_eq_true rfl) ⟨by decide, by decide⟩ c9 rfl ?_
      refine wp_goto ?_
      exact ih (v3 + 1)   sM h
    · rw [if_neg c8] at h
      refine wp_aload_n (v := ((138 : Nat) : Int)) rfl (Int.natCast_nonneg _) ?_
      refine wp_iload_n (v := v1) rfl ?_
      refine wp_iload_n (v := v3) rfl ?_
      obtain ⟨x10, e11, h⟩ := d_bind h
      refine y_callV (as := [(0, v1), (0, v3)]) (S1 := []) (Nat.le_of_ble_eq_true rfl) (by omega) (t_X13_lengthOf sM e11) (Nat.le_of_ble_eq_true rfl) rfl (show ash 138 = (13, 38) from rfl) (Nat.lt_of_lt_of_le (show 138 < 154 by decide) hS.1.1) (Nat.le_of_ble_eq_true rfl) (Nat.le_of_ble_eq_true rfl) rfl ?_
      refine wp_aload_n (v := ((138 : Nat) : Int)) rfl (Int.natCast_nonneg _) ?_
      refine wp_iload_n (v := v3) rfl ?_
      refine wp_iload_n (v := v2) rfl ?_
      obtain ⟨x12, e13, h⟩ := d_bind h
      refine y_callV (as := [(0, v3), (0, v2)]) (S1 := [(0, x10)]) (Nat.le_of_ble_eq_true rfl) (by omega) (t_X13_apart sM e13) (Nat.le_of_ble_eq_true rfl) rfl (show ash 138 = (13, 38) from rfl) (Nat.lt_of_lt_of_le (show 138 < 154 by decide) hS.1.1) (Nat.le_of_ble_eq_true rfl) (Nat.le_of_ble_eq_true rfl) rfl ?_
      obtain ⟨c14, h⟩ := d_ite h
      refine wp_iadd c14 ?_
      refine wp_aload_n (v := ((138 : Nat) : Int)) rfl (Int.natCast_nonneg _) ?_
      refine wp_iload_n (v := v1) rfl ?_
      refine wp_iload_n (v := v2) rfl ?_
      obtain ⟨x15, e16, h⟩ := d_bind h
      refine y_callV (as := [(0, v1), (0, v2)]) (S1 := [(0, (x10 + x12))]) (Nat.le_of_ble_eq_true rfl) (by omega) (t_X13_apart sM e16) (Nat.le_of_ble_eq_true rfl) rfl (show ash 138 = (13, 38) from rfl) (Nat.lt_of_lt_of_le (show 138 < 154 by decide) hS.1.1) (Nat.le_of_ble_eq_true rfl) (Nat.le_of_ble_eq_true rfl) rfl ?_
      refine wp_icmp_eq (fun c17 => ?_) (fun c17 => ?_)
      · rw [if_pos c17] at h
        exact hk v3   sM h
      · rw [if_neg c17] at h
        refine y_blk (t := 57) rfl (show fnd bk_X13_towards 57 = some _ from rfl) aB_X13_towards ?_
        obtain ⟨c18, h⟩ := d_ite h
        refine y_iinc (L1 := [(2, ((138 : Nat) : Int)), (0, v1), (0, v2), (0, (v3 + 1))]) rfl (Nat.le_of_ble_eq_true rfl) ⟨by decide, by decide⟩ c18 rfl ?_
        refine wp_goto ?_
        exact ih (v3 + 1)   sM h
def f_X13_towards (T : Nat) (v1 : Int) (v2 : Int) (M : aM) : Option Int :=
 if v1 = v2 then
 some (-2) else
 (f_X13_apart T v1 v2 M).bind fun x2 =>
 if x2 < 9999 then
 l_X13_towards_22 T v1 v2 M (fun w19 =>
 some w19) FU 0 else
 some (-2)
theorem t_X13_towards {T : T3} {v1 : Int} {v2 : Int} {M : aM} {y : Int}  (hS : Sh T.1 M) (h : f_X13_towards T.1 v1 v2 M = some y) : Mr 2 246 [(2, ((138 : Nat) : Int)), (0, v1), (0, v2)] M (some (0, y)) M T := by
  have key : ∀ d, 2 ≤ d → Wp d 246 0 [] [(2, ((138 : Nat) : Int)), (0, v1), (0, v2), (9, 0)] [] (M, T) (fun r2 σ2 => r2 = some (0, y) ∧ σ2 = (M, T)) := by
    intro d hd
    rw [f_X13_towards] at h
    refine y_blk (t := 0) rfl (show fnd bk_X13_towards 0 = some _ from rfl) aB_X13_towards ?_
    refine wp_iload_n (v := v1) rfl ?_
    refine wp_iload_n (v := v2) rfl ?_
    refine wp_icmp_eq (fun c1 => ?_) (fun c1 => ?_)
    · rw [if_pos c1] at h
      refine y_blk (t := 17) rfl (show fnd bk_X13_towards 17 = some _ from rfl) aB_X13_towards ?_
      refine wp_bipush (by decide) ?_
      cases h
      exact y_ret0 (Or.inl rfl) ⟨rfl, rfl⟩
    · rw [if_neg c1] at h
      refine wp_aload_n (v := ((138 : Nat) : Int)) rfl (Int.natCast_nonneg _) ?_
      refine wp_iload_n (v := v1) rfl ?_
      refine wp_iload_n (v := v2) rfl ?_
      obtain ⟨x2, e3, h⟩ := d_bind h
      refine y_callV (as := [(0, v1), (0, v2)]) (S1 := []) (Nat.le_of_ble_eq_true rfl) (by omega) (t_X13_apart hS e3) (Nat.le_of_ble_eq_true rfl) rfl (show ash 138 = (13, 38) from rfl) (Nat.lt_of_lt_of_le (show 138 < 154 by decide) hS.1.1) (Nat.le_of_ble_eq_true rfl) (Nat.le_of_ble_eq_true rfl) rfl ?_
      refine wp_sipush (by decide) ?_
      refine wp_icmp_lt (fun c4 => ?_) (fun c4 => ?_)
      · rw [if_pos c4] at h
        refine y_blk (t := 20) rfl (show fnd bk_X13_towards 20 = some _ from rfl) aB_X13_towards ?_
        refine wp_iconst ⟨by decide, by decide⟩ ?_
        refine y_stn (L1 := [(2, ((138 : Nat) : Int)), (0, v1), (0, v2), (0, 0)]) (Nat.le_of_ble_eq_true rfl) rfl ?_
        refine tl_X13_towards_22 (by omega) hS (fun w19   s20 h => ?_) FU 0   hS h
        refine y_blk (t := 63) rfl (show fnd bk_X13_towards 63 = some _ from rfl) aB_X13_towards ?_
        refine wp_iload_n (v := w19) rfl ?_
        cases h
        exact y_ret0 (Or.inl rfl) ⟨rfl, rfl⟩
      · rw [if_neg c4] at h
        refine y_blk (t := 17) rfl (show fnd bk_X13_towards 17 = some _ from rfl) aB_X13_towards ?_
        refine wp_bipush (by decide) ?_
        cases h
        exact y_ret0 (Or.inl rfl) ⟨rfl, rfl⟩
  exact fun d hd => Ms.of (key d hd)
theorem aB_X13_nearest : ∀ pc, aB 247 pc = fnd bk_X13_nearest pc := fun _ => rfl
def l_X13_nearest_6 (T : Nat) (v1 : Int) (M : aM) (k : Int → Int → Option Int) : Nat → Int → Int → Option Int
| 0, _, _ => none
| n + 1, v2, v3 =>
 if okW T (M 138 3) then
 if (M (M 138 3).toNat 8) ≤ v3 then
 k v2 v3 else
 if aIn (6 + v3) then
 if 0 ≤ (6 + v3) ∧ (6 + v3) < 12 then
 (f_X13_apart T v1 (M 141 ((6 + v3)).toNat) M).bind fun x5 =>
 if v2 ≤ x5 then
 if aIn (v3 + 1) then
 l_X13_nearest_6 T v1 M k n v2 (v3 + 1) else none else
 (f_X13_apart T v1 (M 141 ((6 + v3)).toNat) M).bind fun x9 =>
 if aIn (v3 + 1) then
 l_X13_nearest_6 T v1 M k n x9 (v3 + 1) else none else none else none else none
theorem tl_X13_nearest_6 {d : Nat} (hd : 1 ≤ d) {T : T3} {v1 : Int} {M : aM} {k : Int → Int → Option Int} {y : Int}  (hS : Sh T.1 M)
    (hk : ∀ (v2 v3 : Int), Sh T.1 M → k v2 v3 = some y → Wp d 247 56 [] [(2, ((138 : Nat) : Int)), (0, v1), (0, v2), (0, v3)] [] (M, T) (fun r2 σ2 => r2 = some (0, y) ∧ σ2 = (M, T))) :
    ∀ (n : Nat) (v2 v3 : Int), Sh T.1 M → l_X13_nearest_6 T.1 v1 M k n v2 v3 = some y → Wp d 247 6 [] [(2, ((138 : Nat) : Int)), (0, v1), (0, v2), (0, v3)] [] (M, T) (fun r2 σ2 => r2 = some (0, y) ∧ σ2 = (M, T)) := by
  intro n
  induction n with
  | zero =>
    intro v2 v3 _ h
    exact nomatch (show (none : Option Int) = some y from h)
  | succ n ih =>
    intro v2 v3 sM h
    rw [l_X13_nearest_6] at h
    refine y_blk (t := 6) rfl (show fnd bk_X13_nearest 6 = some _ from rfl) aB_X13_nearest ?_
    refine wp_iload_n (v := v3) rfl ?_
    refine wp_aload_n (v := ((138 : Nat) : Int)) rfl (Int.natCast_nonneg _) ?_
    obtain ⟨c1, h⟩ := d_ite h
    refine y_get (show ash 138 = (13, 38) from rfl) (Nat.lt_of_lt_of_le (show 138 < 154 by decide) hS.1.1) (v := (((M 138 3).toNat : Nat) : Int)) c1.eq rfl ?_
    refine y_get (aW0 hS.1.2 c1.is) (ltW c1.is 0 (by decide)) (v := M (M 138 3).toNat 8) rfl rfl ?_
    refine wp_icmp_ge (fun c2 => ?_) (fun c2 => ?_)
    · rw [if_pos c2] at h
      exact hk v2 v3   sM h
    · rw [if_neg c2] at h
      refine wp_aload_n (v := ((138 : Nat) : Int)) rfl (Int.natCast_nonneg _) ?_
      refine wp_iload_n (v := v1) rfl ?_
      refine wp_aload_n (v := ((138 : Nat) : Int)) rfl (Int.natCast_nonneg _) ?_
      refine y_get (show ash 138 = (13, 38) from rfl) (Nat.lt_of_lt_of_le (show 138 < 154 by decide) hS.1.1) (v := ((141 : Nat) : Int)) (sM.at 138 17 141 (by decide +kernel)) rfl ?_
      refine wp_bipush (by decide) ?_
      refine wp_iload_n (v := v3) rfl ?_
      obtain ⟨c3, h⟩ := d_ite h
      refine wp_iadd c3 ?_
      obtain ⟨c4, h⟩ := d_ite h
      refine y_iald (show ash 141 = (100, 12) from rfl) (Or.inl (Nat.lt_of_lt_of_le (show 141 < 154 by decide) hS.1.1)) (Nat.ne_of_lt (Nat.lt_of_lt_of_le (Nat.lt_of_lt_of_le (show 141 < 154 by decide) hS.1.1) hS.1.2)) c4 (v := M 141 ((6 + v3)).toNat) rfl ?_
      obtain ⟨x5, e6, h⟩ := d_bind h
      refine y_callV (as := [(0, v1), (0, (M 141 ((6 + v3)).toNat))]) (S1 := []) (Nat.le_of_ble_eq_true rfl) (by omega) (t_X13_apart sM e6) (Nat.le_of_ble_eq_true rfl) rfl (show ash 138 = (13, 38) from rfl) (Nat.lt_of_lt_of_le (show 138 < 154 by decide) hS.1.1) (Nat.le_of_ble_eq_true rfl) (Nat.le_of_ble_eq_true rfl) rfl ?_
      refine wp_iload_n (v := v2) rfl ?_
      refine wp_icmp_ge (fun c7 => ?_) (fun c7 => ?_)
      · rw [if_pos c7] at h
        refine y_blk (t := 50) rfl (show fnd bk_X13_nearest 50 = some _ from rfl) aB_X13_nearest ?_
        obtain ⟨c8, h⟩ := d_ite h
        refine y_iinc (L1 := [(2, ((138 : Nat) : Int)), (0, v1), (0, v2), (0, (v3 + 1))]) rfl (Nat.le_of_ble_eq_true rfl) ⟨by decide, by decide⟩ c8 rfl ?_
        refine wp_goto ?_
        exact ih v2 (v3 + 1)   sM h
      · rw [if_neg c7] at h
        refine wp_aload_n (v := ((138 : Nat) : Int)) rfl (Int.natCast_nonneg _) ?_
        refine wp_iload_n (v := v1) rfl ?_
        refine wp_aload_n (v := ((138 : Nat) : Int)) rfl (Int.natCast_nonneg _) ?_
        refine y_get (show ash 138 = (13, 38) from rfl) (Nat.lt_of_lt_of_le (show 138 < 154 by decide) hS.1.1) (v := ((141 : Nat) : Int)) (sM.at 138 17 141 (by decide +kernel)) rfl ?_
        refine wp_bipush (by decide) ?_
        refine wp_iload_n (v := v3) rfl ?_
        refine wp_iadd c3 ?_
        refine y_iald (show ash 141 = (100, 12) from rfl) (Or.inl (Nat.lt_of_lt_of_le (show 141 < 154 by decide) hS.1.1)) (Nat.ne_of_lt (Nat.lt_of_lt_of_le (Nat.lt_of_lt_of_le (show 141 < 154 by decide) hS.1.1) hS.1.2)) c4 (v := M 141 ((6 + v3)).toNat) rfl ?_
        obtain ⟨x9, e10, h⟩ := d_bind h
        refine y_callV (as := [(0, v1), (0, (M 141 ((6 + v3)).toNat))]) (S1 := []) (Nat.le_of_ble_eq_true rfl) (by omega) (t_X13_apart sM e10) (Nat.le_of_ble_eq_true rfl) rfl (show ash 138 = (13, 38) from rfl) (Nat.lt_of_lt_of_le (show 138 < 154 by decide) hS.1.1) (Nat.le_of_ble_eq_true rfl) (Nat.le_of_ble_eq_true rfl) rfl ?_
        refine y_stn (L1 := [(2, ((138 : Nat) : Int)), (0, v1), (0, x9), (0, v3)]) (Nat.le_of_ble_eq_true rfl) rfl ?_
        refine y_blk (t := 50) rfl (show fnd bk_X13_nearest 50 = some _ from rfl) aB_X13_nearest ?_
        obtain ⟨c11, h⟩ := d_ite h
        refine y_iinc (L1 := [(2, ((138 : Nat) : Int)), (0, v1), (0, x9), (0, (v3 + 1))]) rfl (Nat.le_of_ble_eq_true rfl) ⟨by decide, by decide⟩ c11 rfl ?_
        refine wp_goto ?_
        exact ih x9 (v3 + 1)   sM h
def f_X13_nearest (T : Nat) (v1 : Int) (M : aM) : Option Int :=
 l_X13_nearest_6 T v1 M (fun w12 w13 =>
 some w12) FU 9999 0
theorem t_X13_nearest {T : T3} {v1 : Int} {M : aM} {y : Int}  (hS : Sh T.1 M) (h : f_X13_nearest T.1 v1 M = some y) : Mr 1 247 [(2, ((138 : Nat) : Int)), (0, v1)] M (some (0, y)) M T := by
  have key : ∀ d, 1 ≤ d → Wp d 247 0 [] [(2, ((138 : Nat) : Int)), (0, v1), (9, 0), (9, 0)] [] (M, T) (fun r2 σ2 => r2 = some (0, y) ∧ σ2 = (M, T)) := by
    intro d hd
    rw [f_X13_nearest] at h
    refine y_blk (t := 0) rfl (show fnd bk_X13_nearest 0 = some _ from rfl) aB_X13_nearest ?_
    refine wp_sipush (by decide) ?_
    refine y_stn (L1 := [(2, ((138 : Nat) : Int)), (0, v1), (0, 9999), (9, 0)]) (Nat.le_of_ble_eq_true rfl) rfl ?_
    refine wp_iconst ⟨by decide, by decide⟩ ?_
    refine y_stn (L1 := [(2, ((138 : Nat) : Int)), (0, v1), (0, 9999), (0, 0)]) (Nat.le_of_ble_eq_true rfl) rfl ?_
    refine tl_X13_nearest_6 (by omega) hS (fun w12 w13   s14 h => ?_) FU 9999 0   hS h
    refine y_blk (t := 56) rfl (show fnd bk_X13_nearest 56 = some _ from rfl) aB_X13_nearest ?_
    refine wp_iload_n (v := w12) rfl ?_
    cases h
    exact y_ret0 (Or.inl rfl) ⟨rfl, rfl⟩
  exact fun d hd => Ms.of (key d hd)

/-! ===== the model's call of well: its code ===== -/
theorem aB_X13_well : ∀ pc, aB 235 pc = fnd bk_X13_well pc := fun _ => rfl
def l_X13_well_99 (T : Nat)  (k : Int → aM → Option (Int × aM)) : Nat → Int → aM → Option (Int × aM)
| 0, _, _ => none
| n + 1, v2, M =>
 if 12 ≤ v2 then
 k v2 M else
 if 0 ≤ v2 ∧ v2 < 12 then
 (some (aup M 140 (v2).toNat 0)).bind fun m6 =>
 if aIn (v2 + 1) then
 l_X13_well_99 T k n (v2 + 1) m6 else none else none
theorem tl_X13_well_99 {d : Nat} (hd : 13 ≤ d) {T : T3}  {k : Int → aM → Option (Int × aM)} {y : (Int × aM)}  {M0 : aM} (hS : Sh T.1 M0)
    (hk : ∀ (v2 : Int) (u1 : aV) (M : aM), Sh T.1 M → k v2 M = some y → Wp d 235 118 [] [(2, ((138 : Nat) : Int)), u1, (0, v2)] [] (M, T) (fun r2 σ2 => r2 = some (0, y.1) ∧ σ2 = (y.2, T) ∧ Sh T.1 y.2)) :
    ∀ (n : Nat) (v2 : Int) (u1 : aV) (M : aM), Sh T.1 M → l_X13_well_99 T.1 k n v2 M = some y → Wp d 235 99 [] [(2, ((138 : Nat) : Int)), u1, (0, v2)] [] (M, T) (fun r2 σ2 => r2 = some (0, y.1) ∧ σ2 = (y.2, T) ∧ Sh T.1 y.2) := by
  intro n
  induction n with
  | zero =>
    intro v2 u1 M _ h
    exact nomatch (show (none : Option (Int × aM)) = some y from h)
  | succ n ih =>
    intro v2 u1 M sM h
    rw [l_X13_well_99] at h
    refine y_blk (t := 99) rfl (show fnd bk_X13_well 99 = some _ from rfl) aB_X13_well ?_
    refine wp_iload_n (v := v2) rfl ?_
    refine wp_bipush (by decide) ?_
    refine wp_icmp_ge (fun c4 => ?_) (fun c4 => ?_)
    · rw [if_pos c4] at h
      exact hk v2 u1 M sM h
    · rw [if_neg c4] at h
      refine wp_aload_n (v := ((138 : Nat) : Int)) rfl (Int.natCast_nonneg _) ?_
      refine y_get (show ash 138 = (13, 38) from rfl) (Nat.lt_of_lt_of_le (show 138 < 154 by decide) hS.1.1) (v := ((140 : Nat) : Int)) (sM.at 138 16 140 (by decide +kernel)) rfl ?_
      refine wp_iload_n (v := v2) rfl ?_
      refine wp_iconst ⟨by decide, by decide⟩ ?_
      obtain ⟨c5, h⟩ := d_ite h
      refine y_iast (show ash 140 = (100, 12) from rfl) (Nat.lt_of_lt_of_le (show 140 < 154 by decide) hS.1.1) c5 ?_
      obtain ⟨m6, em6, h⟩ := d_bind h
      have em6 := Option.some.inj em6
      have s7 : Sh T.1 m6 := em6 ▸ sM.up (Or.inl ⟨by rw [(show ash 140 = (100, 12) from rfl)]; exact Nat.le_of_ble_eq_true rfl, by rw [(show ash 140 = (100, 12) from rfl)]; exact Nat.le_of_ble_eq_true rfl⟩) (by have := (Nat.lt_of_lt_of_le (show 140 < 154 by decide) hS.1.1); have := hS.1.2; omega)
      rw [em6]
      obtain ⟨c8, h⟩ := d_ite h
      refine y_iinc (L1 := [(2, ((138 : Nat) : Int)), (ajk u1), (0, (v2 + 1))]) rfl (Nat.le_of_ble_eq_true rfl) ⟨by decide, by decide⟩ c8 (aset_jk (q := 1) (u := u1) rfl) ?_
      refine wp_goto ?_
      exact ih (v2 + 1) (ajk u1) m6 s7 h
def l_X13_well_120 (T : Nat)  (k : Int → aM → Option (Int × aM)) : Nat → Int → aM → Option (Int × aM)
| 0, _, _ => none
| n + 1, v2, M =>
 if 3 ≤ v2 then
 k v2 M else
 if okW T (M 138 3) then
 if 0 ≤ v2 ∧ v2 < 3 then
 if 0 ≤ v2 ∧ v2 < 12 then
 (some (aup M 140 (v2).toNat (M ((M 138 3).toNat + 5) (v2).toNat))).bind fun m17 =>
 if aIn (3 + v2) then
 if 0 ≤ (3 + v2) ∧ (3 + v2) < 12 then
 (some (aup m17 140 ((3 + v2)).toNat (-2))).bind fun m21 =>
 if aIn (v2 + 1) then
 l_X13_well_120 T k n (v2 + 1) m21 else none else none else none else none else none else none
theorem tl_X13_well_120 {d : Nat} (hd : 13 ≤ d) {T : T3}  {k : Int → aM → Option (Int × aM)} {y : (Int × aM)}  {M0 : aM} (hS : Sh T.1 M0)
    (hk : ∀ (v2 : Int) (u1 : aV) (M : aM), Sh T.1 M → k v2 M = some y → Wp d 235 156 [] [(2, ((138 : Nat) : Int)), u1, (0, v2)] [] (M, T) (fun r2 σ2 => r2 = some (0, y.1) ∧ σ2 = (y.2, T) ∧ Sh T.1 y.2)) :
    ∀ (n : Nat) (v2 : Int) (u1 : aV) (M : aM), Sh T.1 M → l_X13_well_120 T.1 k n v2 M = some y → Wp d 235 120 [] [(2, ((138 : Nat) : Int)), u1, (0, v2)] [] (M, T) (fun r2 σ2 => r2 = some (0, y.1) ∧ σ2 = (y.2, T) ∧ Sh T.1 y.2) := by
  intro n
  induction n with
  | zero =>
    intro v2 u1 M _ h
    exact nomatch (show (none : Option (Int × aM)) = some y from h)
  | succ n ih =>
    intro v2 u1 M sM h
    rw [l_X13_well_120] at h
    refine y_blk (t := 120) rfl (show fnd bk_X13_well 120 = some _ from rfl) aB_X13_well ?_
    refine wp_iload_n (v := v2) rfl ?_
    refine wp_iconst ⟨by decide, by decide⟩ ?_
    refine wp_icmp_ge (fun c13 => ?_) (fun c13 => ?_)
    · rw [if_pos c13] at h
      exact hk v2 u1 M sM h
    · rw [if_neg c13] at h
      refine wp_aload_n (v := ((138 : Nat) : Int)) rfl (Int.natCast_nonneg _) ?_
      refine y_get (show ash 138 = (13, 38) from rfl) (Nat.lt_of_lt_of_le (show 138 < 154 by decide) hS.1.1) (v := ((140 : Nat) : Int)) (sM.at 138 16 140 (by decide +kernel)) rfl ?_
      refine wp_iload_n (v := v2) rfl ?_
      refine wp_aload_n (v := ((138 : Nat) : Int)) rfl (Int.natCast_nonneg _) ?_
      obtain ⟨c14, h⟩ := d_ite h
      refine y_get (show ash 138 = (13, 38) from rfl) (Nat.lt_of_lt_of_le (show 138 < 154 by decide) hS.1.1) (v := (((M 138 3).toNat : Nat) : Int)) c14.eq rfl ?_
      refine y_get (aW0 hS.1.2 c14.is) (ltW c14.is 0 (by decide)) (v := ((((M 138 3).toNat + 5) : Nat) : Int)) (rW18 sM c14.is) rfl ?_
      refine wp_iload_n (v := v2) rfl ?_
      obtain ⟨c15, h⟩ := d_ite h
      refine y_iald (aW5 hS.1.2 c14.is) (Or.inl (ltW c14.is 5 (by decide))) (Nat.ne_of_lt (Nat.lt_of_lt_of_le (ltW c14.is 5 (by decide)) hS.1.2)) c15 (v := M ((M 138 3).toNat + 5) (v2).toNat) rfl ?_
      obtain ⟨c16, h⟩ := d_ite h
      refine y_iast (show ash 140 = (100, 12) from rfl) (Nat.lt_of_lt_of_le (show 140 < 154 by decide) hS.1.1) c16 ?_
      obtain ⟨m17, em17, h⟩ := d_bind h
      have em17 := Option.some.inj em17
      have s18 : Sh T.1 m17 := em17 ▸ sM.up (Or.inl ⟨by rw [(show ash 140 = (100, 12) from rfl)]; exact Nat.le_of_ble_eq_true rfl, by rw [(show ash 140 = (100, 12) from rfl)]; exact Nat.le_of_ble_eq_true rfl⟩) (by have := (Nat.lt_of_lt_of_le (show 140 < 154 by decide) hS.1.1); have := hS.1.2; omega)
      rw [em17]
      refine wp_aload_n (v := ((138 : Nat) : Int)) rfl (Int.natCast_nonneg _) ?_
      refine y_get (show ash 138 = (13, 38) from rfl) (Nat.lt_of_lt_of_le (show 138 < 154 by decide) hS.1.1) (v := ((140 : Nat) : Int)) (s18.at 138 16 140 (by decide +kernel)) rfl ?_
      refine wp_iconst ⟨by decide, by decide⟩ ?_
      refine wp_iload_n (v := v2) rfl ?_
      obtain ⟨c19, h⟩ := d_ite h
      refine wp_iadd c19 ?_
      refine wp_bipush (by decide) ?_
      obtain ⟨c20, h⟩ := d_ite h
      refine y_iast (show ash 140 = (100, 12) from rfl) (Nat.lt_of_lt_of_le (show 140 < 154 by decide) hS.1.1) c20 ?_
      obtain ⟨m21, em21, h⟩ := d_bind h
      have em21 := Option.some.inj em21
      have s22 : Sh T.1 m21 := em21 ▸ s18.up (Or.inl ⟨by rw [(show ash 140 = (100, 12) from rfl)]; exact Nat.le_of_ble_eq_true rfl, by rw [(show ash 140 = (100, 12) from rfl)]; exact Nat.le_of_ble_eq_true rfl⟩) (by have := (Nat.lt_of_lt_of_le (show 140 < 154 by decide) hS.1.1); have := hS.1.2; omega)
      rw [em21]
      obtain ⟨c23, h⟩ := d_ite h
      refine y_iinc (L1 := [(2, ((138 : Nat) : Int)), (ajk u1), (0, (v2 + 1))]) rfl (Nat.le_of_ble_eq_true rfl) ⟨by decide, by decide⟩ c23 (aset_jk (q := 1) (u := u1) rfl) ?_
      refine wp_goto ?_
      exact ih (v2 + 1) (ajk u1) m21 s22 h
def l_X13_well_158 (T : Nat)  (k : Int → aM → Option (Int × aM)) : Nat → Int → aM → Option (Int × aM)
| 0, _, _ => none
| n + 1, v2, M =>
 if 4 ≤ v2 then
 k v2 M else
 if aIn (6 + v2) then
 if okW T (M 138 3) then
 if 0 ≤ v2 ∧ v2 < 4 then
 if 0 ≤ (6 + v2) ∧ (6 + v2) < 12 then
 (some (aup M 140 ((6 + v2)).toNat (M ((M 138 3).toNat + 6) (v2).toNat))).bind fun m33 =>
 if aIn (v2 + 1) then
 l_X13_well_158 T k n (v2 + 1) m33 else none else none else none else none else none
theorem tl_X13_well_158 {d : Nat} (hd : 13 ≤ d) {T : T3}  {k : Int → aM → Option (Int × aM)} {y : (Int × aM)}  {M0 : aM} (hS : Sh T.1 M0)
    (hk : ∀ (v2 : Int) (u1 : aV) (M : aM), Sh T.1 M → k v2 M = some y → Wp d 235 187 [] [(2, ((138 : Nat) : Int)), u1, (0, v2)] [] (M, T) (fun r2 σ2 => r2 = some (0, y.1) ∧ σ2 = (y.2, T) ∧ Sh T.1 y.2)) :
    ∀ (n : Nat) (v2 : Int) (u1 : aV) (M : aM), Sh T.1 M → l_X13_well_158 T.1 k n v2 M = some y → Wp d 235 158 [] [(2, ((138 : Nat) : Int)), u1, (0, v2)] [] (M, T) (fun r2 σ2 => r2 = some (0, y.1) ∧ σ2 = (y.2, T) ∧ Sh T.1 y.2) := by
  intro n
  induction n with
  | zero =>
    intro v2 u1 M _ h
    exact nomatch (show (none : Option (Int × aM)) = some y from h)
  | succ n ih =>
    intro v2 u1 M sM h
    rw [l_X13_well_158] at h
    refine y_blk (t := 158) rfl (show fnd bk_X13_well 158 = some _ from rfl) aB_X13_well ?_
    refine wp_iload_n (v := v2) rfl ?_
    refine wp_iconst ⟨by decide, by decide⟩ ?_
    refine wp_icmp_ge (fun c28 => ?_) (fun c28 => ?_)
    · rw [if_pos c28] at h
      exact hk v2 u1 M sM h
    · rw [if_neg c28] at h
      refine wp_aload_n (v := ((138 : Nat) : Int)) rfl (Int.natCast_nonneg _) ?_
      refine y_get (show ash 138 = (13, 38) from rfl) (Nat.lt_of_lt_of_le (show 138 < 154 by decide) hS.1.1) (v := ((140 : Nat) : Int)) (sM.at 138 16 140 (by decide +kernel)) rfl ?_
      refine wp_bipush (by decide) ?_
      refine wp_iload_n (v := v2) rfl ?_
      obtain ⟨c29, h⟩ := d_ite h
      refine wp_iadd c29 ?_
      refine wp_aload_n (v := ((138 : Nat) : Int)) rfl (Int.natCast_nonneg _) ?_
      obtain ⟨c30, h⟩ := d_ite h
      refine y_get (show ash 138 = (13, 38) from rfl) (Nat.lt_of_lt_of_le (show 138 < 154 by decide) hS.1.1) (v := (((M 138 3).toNat : Nat) : Int)) c30.eq rfl ?_
      refine y_get (aW0 hS.1.2 c30.is) (ltW c30.is 0 (by decide)) (v := ((((M 138 3).toNat + 6) : Nat) : Int)) (rW19 sM c30.is) rfl ?_
      refine wp_iload_n (v := v2) rfl ?_
      obtain ⟨c31, h⟩ := d_ite h
      refine y_iald (aW6 hS.1.2 c30.is) (Or.inl (ltW c30.is 6 (by decide))) (Nat.ne_of_lt (Nat.lt_of_lt_of_le (ltW c30.is 6 (by decide)) hS.1.2)) c31 (v := M ((M 138 3).toNat + 6) (v2).toNat) rfl ?_
      obtain ⟨c32, h⟩ := d_ite h
      refine y_iast (show ash 140 = (100, 12) from rfl) (Nat.lt_of_lt_of_le (show 140 < 154 by decide) hS.1.1) c32 ?_
      obtain ⟨m33, em33, h⟩ := d_bind h
      have em33 := Option.some.inj em33
      have s34 : Sh T.1 m33 := em33 ▸ sM.up (Or.inl ⟨by rw [(show ash 140 = (100, 12) from rfl)]; exact Nat.le_of_ble_eq_true rfl, by rw [(show ash 140 = (100, 12) from rfl)]; exact Nat.le_of_ble_eq_true rfl⟩) (by have := (Nat.lt_of_lt_of_le (show 140 < 154 by decide) hS.1.1); have := hS.1.2; omega)
      rw [em33]
      obtain ⟨c35, h⟩ := d_ite h
      refine y_iinc (L1 := [(2, ((138 : Nat) : Int)), (ajk u1), (0, (v2 + 1))]) rfl (Nat.le_of_ble_eq_true rfl) ⟨by decide, by decide⟩ c35 (aset_jk (q := 1) (u := u1) rfl) ?_
      refine wp_goto ?_
      exact ih (v2 + 1) (ajk u1) m33 s34 h
def b_X13_well_89 (T : Nat)  (M : aM) : Option (Int × aM) :=
 if okW T (M 138 4) then
 (some (aup M 138 3 (((M 138 4).toNat : Nat) : Int))).bind fun m2 =>
 l_X13_well_99 T (fun w9 m11 =>
 l_X13_well_120 T (fun w24 m26 =>
 l_X13_well_158 T (fun w36 m38 =>
 if okW T (m38 138 3) then
 (some (aup m38 140 10 (m38 (m38 138 3).toNat 6))).bind fun m41 =>
 (some (aup m41 138 20 0)).bind fun m43 =>
 (some (aup m43 138 21 0)).bind fun m45 =>
 if okW T (m45 138 3) then
 (f_X13_good T (m45 (m45 138 3).toNat 3) m45).bind fun x48 =>
 some (x48.1, x48.2) else none else none) FU 0 m26) FU 0 m11) FU 0 m2 else none
theorem tb_X13_well_89 {d : Nat} (hd : 13 ≤ d) {T : T3}  {u1 u2 : aV} {M : aM} {y : (Int × aM)}  (hS : Sh T.1 M) (h : b_X13_well_89 T.1  M = some y) : Wp d 235 89 [] [(2, ((138 : Nat) : Int)), u1, u2] [] (M, T) (fun r2 σ2 => r2 = some (0, y.1) ∧ σ2 = (y.2, T) ∧ Sh T.1 y.2) := by
  rw [b_X13_well_89] at h
  refine y_blk (t := 89) rfl (show fnd bk_X13_well 89 = some _ from rfl) aB_X13_well ?_
  refine wp_aload_n (v := ((138 : Nat) : Int)) rfl (Int.natCast_nonneg _) ?_
  refine wp_aload_n (v := ((138 : Nat) : Int)) rfl (Int.natCast_nonneg _) ?_
  obtain ⟨c1, h⟩ := d_ite h
  refine y_get (show ash 138 = (13, 38) from rfl) (Nat.lt_of_lt_of_le (show 138 < 154 by decide) hS.1.1) (v := (((M 138 4).toNat : Nat) : Int)) c1.eq rfl ?_
  refine y_put (show ash 138 = (13, 38) from rfl) (Nat.lt_of_lt_of_le (show 138 < 154 by decide) hS.1.1) rfl ?_
  obtain ⟨m2, em2, h⟩ := d_bind h
  have em2 := Option.some.inj em2
  have s3 : Sh T.1 m2 := em2 ▸ hS.read (by decide)
  rw [em2]
  refine wp_iconst ⟨by decide, by decide⟩ ?_
  refine y_stn (L1 := [(2, ((138 : Nat) : Int)), (ajk u1), (0, 0)]) (Nat.le_of_ble_eq_true rfl) (aset_jk (q := 1) (u := u1) rfl) ?_
  refine tl_X13_well_99 (by omega) hS (fun w9 u10 m11 s12 h => ?_) FU 0 (ajk u1) m2 s3 h
  refine y_blk (t := 118) rfl (show fnd bk_X13_well 118 = some _ from rfl) aB_X13_well ?_
  refine wp_iconst ⟨by decide, by decide⟩ ?_
  refine y_stn (L1 := [(2, ((138 : Nat) : Int)), (ajk u10), (0, 0)]) (Nat.le_of_ble_eq_true rfl) (aset_jk (q := 1) (u := u10) rfl) ?_
  refine tl_X13_well_120 (by omega) hS (fun w24 u25 m26 s27 h => ?_) FU 0 (ajk u10) m11 s12 h
  refine y_blk (t := 156) rfl (show fnd bk_X13_well 156 = some _ from rfl) aB_X13_well ?_
  refine wp_iconst ⟨by decide, by decide⟩ ?_
  refine y_stn (L1 := [(2, ((138 : Nat) : Int)), (ajk u25), (0, 0)]) (Nat.le_of_ble_eq_true rfl) (aset_jk (q := 1) (u := u25) rfl) ?_
  refine tl_X13_well_158 (by omega) hS (fun w36 u37 m38 s39 h => ?_) FU 0 (ajk u25) m26 s27 h
  refine y_blk (t := 187) rfl (show fnd bk_X13_well 187 = some _ from rfl) aB_X13_well ?_
  refine wp_aload_n (v := ((138 : Nat) : Int)) rfl (Int.natCast_nonneg _) ?_
  refine y_get (show ash 138 = (13, 38) from rfl) (Nat.lt_of_lt_of_le (show 138 < 154 by decide) hS.1.1) (v := ((140 : Nat) : Int)) (s39.at 138 16 140 (by decide +kernel)) rfl ?_
  refine wp_bipush (by decide) ?_
  refine wp_aload_n (v := ((138 : Nat) : Int)) rfl (Int.natCast_nonneg _) ?_
  obtain ⟨c40, h⟩ := d_ite h
  refine y_get (show ash 138 = (13, 38) from rfl) (Nat.lt_of_lt_of_le (show 138 < 154 by decide) hS.1.1) (v := (((m38 138 3).toNat : Nat) : Int)) c40.eq rfl ?_
  refine y_get (aW0 hS.1.2 c40.is) (ltW c40.is 0 (by decide)) (v := m38 (m38 138 3).toNat 6) rfl rfl ?_
  refine y_iast (show ash 140 = (100, 12) from rfl) (Nat.lt_of_lt_of_le (show 140 < 154 by decide) hS.1.1) ⟨by decide, by decide⟩ ?_
  obtain ⟨m41, em41, h⟩ := d_bind h
  have em41 := Option.some.inj em41
  have s42 : Sh T.1 m41 := em41 ▸ s39.up (Or.inl ⟨by rw [(show ash 140 = (100, 12) from rfl)]; exact Nat.le_of_ble_eq_true rfl, by rw [(show ash 140 = (100, 12) from rfl)]; exact Nat.le_of_ble_eq_true rfl⟩) (by have := (Nat.lt_of_lt_of_le (show 140 < 154 by decide) hS.1.1); have := hS.1.2; omega)
  rw [show ((10 : Int)).toNat = 10 from rfl, em41]
  refine wp_aload_n (v := ((138 : Nat) : Int)) rfl (Int.natCast_nonneg _) ?_
  refine wp_iconst ⟨by decide, by decide⟩ ?_
  refine y_put (show ash 138 = (13, 38) from rfl) (Nat.lt_of_lt_of_le (show 138 < 154 by decide) hS.1.1) rfl ?_
  obtain ⟨m43, em43, h⟩ := d_bind h
  have em43 := Option.some.inj em43
  have s44 : Sh T.1 m43 := em43 ▸ s42.up (Or.inr ⟨by rw [(show ash 138 = (13, 38) from rfl)]; decide, by rw [(show ash 138 = (13, 38) from rfl)]; decide⟩) (by have := (Nat.lt_of_lt_of_le (show 138 < 154 by decide) hS.1.1); have := hS.1.2; omega)
  rw [em43]
  refine wp_aload_n (v := ((138 : Nat) : Int)) rfl (Int.natCast_nonneg _) ?_
  refine wp_iconst ⟨by decide, by decide⟩ ?_
  refine y_put (show ash 138 = (13, 38) from rfl) (Nat.lt_of_lt_of_le (show 138 < 154 by decide) hS.1.1) rfl ?_
  obtain ⟨m45, em45, h⟩ := d_bind h
  have em45 := Option.some.inj em45
  have s46 : Sh T.1 m45 := em45 ▸ s44.up (Or.inr ⟨by rw [(show ash 138 = (13, 38) from rfl)]; decide, by rw [(show ash 138 = (13, 38) from rfl)]; decide⟩) (by have := (Nat.lt_of_lt_of_le (show 138 < 154 by decide) hS.1.1); have := hS.1.2; omega)
  rw [em45]
  refine wp_aload_n (v := ((138 : Nat) : Int)) rfl (Int.natCast_nonneg _) ?_
  refine wp_aload_n (v := ((138 : Nat) : Int)) rfl (Int.natCast_nonneg _) ?_
  obtain ⟨c47, h⟩ := d_ite h
  refine y_get (show ash 138 = (13, 38) from rfl) (Nat.lt_of_lt_of_le (show 138 < 154 by decide) hS.1.1) (v := (((m45 138 3).toNat : Nat) : Int)) c47.eq rfl ?_
  refine y_get (aW0 hS.1.2 c47.is) (ltW c47.is 0 (by decide)) (v := m45 (m45 138 3).toNat 3) rfl rfl ?_
  obtain ⟨x48, e49, h⟩ := d_bind h
  obtain ⟨r50, s51⟩ := t_X13_good s46 e49
  refine y_callV (as := [(0, (m45 (m45 138 3).toNat 3))]) (S1 := []) (Nat.le_of_ble_eq_true rfl) (by omega) r50 (Nat.le_of_ble_eq_true rfl) rfl (show ash 138 = (13, 38) from rfl) (Nat.lt_of_lt_of_le (show 138 < 154 by decide) hS.1.1) (Nat.le_of_ble_eq_true rfl) (Nat.le_of_ble_eq_true rfl) rfl ?_
  cases h
  exact y_ret0 (Or.inl rfl) ⟨rfl, rfl, s51⟩
/-- before the new well is made; after -/
def wlA (v : Int) (M : aM) : aM := aup (aup (aup (aup (aup M 138 0 0) 138 7 v) 138 6 0) 138 8 0) 138 12 0
def wlB (T : Nat) (v : Int) (M : aM) : aM := aup (aup (nwz (wlA v M) T 14) 138 4 ((T : Nat) : Int)) 138 9 0
def f_X13_wellG (T : Nat) (v : Int) (M : aM) : Option (Int × aM) :=
 (f_X13_goesOn (T + 15) (wlB T v M)).bind fun x =>
 (f_X13_readAll (T + 15) x.2).bind fun x2 =>
 if x2.2 138 12 ≤ 0 then b_X13_well_89 (T + 15) x2.2 else some (-1, aup (aup x2.2 138 1 4) 138 2 (x2.2 138 13))
theorem Sh.fld {T : Nat} {M : aM} {k : Nat} {v : Int} (h : Sh T M) (hk : aft 13 k ≠ 2) : Sh T (aup M 138 k v) := h.up (Or.inr ⟨by rw [show ash 138 = (13, 38) from rfl]; decide, by rw [show ash 138 = (13, 38) from rfl]; exact hk⟩) (by decide)
theorem t_X13_wellR {T : T3} {v : Int} {M : aM} (hS : Sh T.1 M) (hv : v < 0 ∨ M 138 6 < v) : ∀ d, 1 ≤ d → Ms d 235 [(2, ((138 : Nat) : Int)), (0, v)] (M, T) (some (0, -1)) (aup (aup (aup M 138 0 0) 138 1 2) 138 2 (-1), T) := by
  intro d hd
  have h138 : 138 < T.1 := Nat.lt_of_lt_of_le (show 138 < 154 by decide) hS.1.1
  have hS1 : Sh T.1 (aup M 138 0 0) := hS.fld (by decide)
  obtain ⟨r1, -⟩ := t_X13_refused (T := T) (v1 := 2) (y := (-1, aup (aup (aup M 138 0 0) 138 1 2) 138 2 (-1))) hS1 rfl
  have tail : Wp d 235 17 [] [(2, ((138 : Nat) : Int)), (0, v), (9, 0)] [] (aup M 138 0 0, T) (fun r2 σ2 => r2 = some (0, -1) ∧ σ2 = (aup (aup (aup M 138 0 0) 138 1 2) 138 2 (-1), T)) := by
    refine y_blk (t := 17) rfl (show fnd bk_X13_well 17 = some _ from rfl) aB_X13_well ?_
    refine wp_aload_n (v := ((138 : Nat) : Int)) rfl (Int.natCast_nonneg _) ?_
    refine wp_iconst ⟨by decide, by decide⟩ ?_
    refine y_callV (as := [(0, 2)]) (S1 := []) (Nat.le_of_ble_eq_true rfl) (by omega) r1 (Nat.le_of_ble_eq_true rfl) rfl (show ash 138 = (13, 38) from rfl) h138 (Nat.le_of_ble_eq_true rfl) (Nat.le_of_ble_eq_true rfl) rfl ?_
    exact y_ret0 (Or.inl rfl) ⟨rfl, rfl⟩
  refine Ms.of ?_
  show Wp d 235 0 [] [(2, ((138 : Nat) : Int)), (0, v), (9, 0)] [] (M, T) _
  refine y_blk (t := 0) rfl (show fnd bk_X13_well 0 = some _ from rfl) aB_X13_well ?_
  refine wp_aload_n (v := ((138 : Nat) : Int)) rfl (Int.natCast_nonneg _) ?_
  refine wp_iconst ⟨by decide, by decide⟩ ?_
  refine y_put (show ash 138 = (13, 38) from rfl) h138 rfl ?_
  refine wp_iload_n (v := v) rfl ?_
  refine wp_if_lt (fun c => tail) (fun c => ?_)
  refine wp_iload_n (v := v) rfl ?_
  refine wp_aload_n (v := ((138 : Nat) : Int)) rfl (Int.natCast_nonneg _) ?_
  refine y_get (show ash 138 = (13, 38) from rfl) h138 (v := M 138 6) (aup_ne2 (by decide)) rfl ?_
  refine wp_icmp_le (fun c2 => absurd hv (by omega)) (fun c2 => ?_)
  exact tail
theorem t_X13_wellG {T : T3} {v : Int} {M : aM} {y : Int × aM} (hS : Sh T.1 M) (hT : (T.1 - 154) % 15 = 0) (hT2 : T.1 + 15 ≤ 1000000) (hv : 0 ≤ v) (hv2 : v ≤ M 138 6) (h : f_X13_wellG T.1 v M = some y) : (∀ d, 13 ≤ d → Ms d 235 [(2, ((138 : Nat) : Int)), (0, v)] (M, T) (some (0, y.1)) (y.2, nwT T 14)) ∧ Sh (T.1 + 15) y.2 := by
  have h138 : 138 < T.1 := Nat.lt_of_lt_of_le (show 138 < 154 by decide) hS.1.1
  have a138 : ash 138 = (13, 38) := rfl
  have hW : isW (T.1 + 15) T.1 := ⟨hS.1.1, hT, Nat.le_refl _⟩
  have hSA : Sh T.1 (wlA v M) := ((((hS.fld (by decide)).fld (by decide)).fld (by decide)).fld (by decide)).fld (by decide)
  have hSB : Sh (nwT T 14).1 (wlB T.1 v M) := ((hSA.nw hT hT2).read (Or.inr rfl)).fld (by decide)
  unfold f_X13_wellG at h
  obtain ⟨x1, e1, h⟩ := d_bind h
  obtain ⟨x2, e2, h⟩ := d_bind h
  obtain ⟨r1, s1⟩ := t_X13_goesOn (T := nwT T 14) hSB e1
  obtain ⟨r2, s2⟩ := t_X13_readAll (T := nwT T 14) s1 e2
  have l138 : 138 < (nwT T 14).1 := Nat.lt_of_lt_of_le h138 (show T.1 ≤ T.1 + 1 + 14 by omega)
  have key : ∀ d, 13 ≤ d → Wp d 235 0 [] [(2, ((138 : Nat) : Int)), (0, v), (9, 0)] [] (M, T) (fun r2 σ2 => r2 = some (0, y.1) ∧ σ2 = (y.2, nwT T 14) ∧ Sh (nwT T 14).1 y.2) := by
    intro d hd
    refine y_blk (t := 0) rfl (show fnd bk_X13_well 0 = some _ from rfl) aB_X13_well ?_
    refine wp_aload_n (v := ((138 : Nat) : Int)) rfl (Int.natCast_nonneg _) ?_
    refine wp_iconst ⟨by decide, by decide⟩ ?_
    refine y_put a138 h138 rfl ?_
    refine wp_iload_n (v := v) rfl ?_
    refine wp_if_lt (fun c => absurd c (by omega)) (fun c => ?_)
    refine wp_iload_n (v := v) rfl ?_
    refine wp_aload_n (v := ((138 : Nat) : Int)) rfl (Int.natCast_nonneg _) ?_
    refine y_get a138 h138 (v := M 138 6) (aup_ne2 (by decide)) rfl ?_
    refine wp_icmp_le (fun c2 => ?_) (fun c2 => absurd hv2 c2)
    refine y_blk (t := 23) rfl (show fnd bk_X13_well 23 = some _ from rfl) aB_X13_well ?_
    refine wp_aload_n (v := ((138 : Nat) : Int)) rfl (Int.natCast_nonneg _) ?_
    refine wp_iload_n (v := v) rfl ?_
    refine y_put a138 h138 rfl ?_
    refine wp_aload_n (v := ((138 : Nat) : Int)) rfl (Int.natCast_nonneg _) ?_
    refine wp_iconst ⟨by decide, by decide⟩ ?_
    refine y_put a138 h138 rfl ?_
    refine wp_aload_n (v := ((138 : Nat) : Int)) rfl (Int.natCast_nonneg _) ?_
    refine wp_iconst ⟨by decide, by decide⟩ ?_
    refine y_put a138 h138 rfl ?_
    refine wp_aload_n (v := ((138 : Nat) : Int)) rfl (Int.natCast_nonneg _) ?_
    refine wp_iconst ⟨by decide, by decide⟩ ?_
    refine y_put a138 h138 rfl ?_
    refine wp_aload_n (v := ((138 : Nat) : Int)) rfl (Int.natCast_nonneg _) ?_
    refine y_new (M1 := nwn (wlA v M) T.1) (T1 := nwT T 0) (aW0 hT2 hW) (by decide) (by omega) rfl rfl ?_
    refine wp_dup (Or.inr rfl) ?_
    refine y_callI (Nat.le_of_ble_eq_true rfl) (by omega) (t_X12_init (M := wlA v M) ⟨hS.1.1, hT⟩ hT2) (Nat.le_of_ble_eq_true rfl) (Nat.le_of_ble_eq_true rfl) ?_
    refine y_put a138 l138 rfl ?_
    refine wp_aload_n (v := ((138 : Nat) : Int)) rfl (Int.natCast_nonneg _) ?_
    refine wp_iconst ⟨by decide, by decide⟩ ?_
    refine y_put a138 l138 rfl ?_
    refine wp_aload_n (v := ((138 : Nat) : Int)) rfl (Int.natCast_nonneg _) ?_
    refine y_callVv (as := []) (S1 := []) (Nat.le_of_ble_eq_true rfl) (by omega) r1 rfl a138 l138 (Nat.le_of_ble_eq_true rfl) (Nat.le_of_ble_eq_true rfl) rfl ?_
    refine wp_aload_n (v := ((138 : Nat) : Int)) rfl (Int.natCast_nonneg _) ?_
    refine y_callVv (as := []) (S1 := []) (Nat.le_of_ble_eq_true rfl) (by omega) r2 rfl a138 l138 (Nat.le_of_ble_eq_true rfl) (Nat.le_of_ble_eq_true rfl) rfl ?_
    refine wp_aload_n (v := ((138 : Nat) : Int)) rfl (Int.natCast_nonneg _) ?_
    refine y_get a138 l138 (v := x2.2 138 12) rfl rfl ?_
    refine wp_if_le (fun c3 => ?_) (fun c3 => ?_)
    · rw [if_pos c3] at h
      exact tb_X13_well_89 (T := nwT T 14) hd s2 h
    · rw [if_neg c3] at h
      refine wp_aload_n (v := ((138 : Nat) : Int)) rfl (Int.natCast_nonneg _) ?_
      refine wp_iconst ⟨by decide, by decide⟩ ?_
      refine y_put a138 l138 rfl ?_
      refine wp_aload_n (v := ((138 : Nat) : Int)) rfl (Int.natCast_nonneg _) ?_
      refine wp_aload_n (v := ((138 : Nat) : Int)) rfl (Int.natCast_nonneg _) ?_
      refine y_get a138 l138 (v := x2.2 138 13) (aup_ne2 (by decide)) rfl ?_
      refine y_put a138 l138 rfl ?_
      refine wp_iconst ⟨by decide, by decide⟩ ?_
      cases h
      exact y_ret0 (Or.inl rfl) ⟨rfl, rfl, (s2.fld (by decide)).fld (by decide)⟩
  exact ⟨fun d hd => Ms.of3 (key d hd), Ms.sh (key 13 (Nat.le_refl _))⟩

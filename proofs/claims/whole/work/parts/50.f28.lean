/-! ===== methods as functions ===== -/
theorem aB_X13_cave : ∀ pc, aB 255 pc = fnd bk_X13_cave pc := fun _ => rfl
def l_X13_cave_177 (T : Nat) (v1 : Int) (M : aM) (k : Int → Int → Option (Int × aM)) : Nat → Int → Int → Option (Int × aM)
| 0, _, _ => none
| n + 1, v3, v4 =>
 if okW T (M 138 3) then
 if (M (M 138 3).toNat 5) ≤ v4 then
 k v3 v4 else
 if 0 ≤ v4 ∧ v4 < 10 then
 if (M ((M 138 3).toNat + 1) (v4).toNat) = v1 then
 if aIn (v3 + 1) then
 if aIn (v4 + 1) then
 l_X13_cave_177 T v1 M k n (v3 + 1) (v4 + 1) else none else none else
 if (M ((M 138 3).toNat + 2) (v4).toNat) = v1 then
 if aIn (v3 + 1) then
 if aIn (v4 + 1) then
 l_X13_cave_177 T v1 M k n (v3 + 1) (v4 + 1) else none else none else
 if aIn (v3 + 0) then
 if aIn (v4 + 1) then
 l_X13_cave_177 T v1 M k n (v3 + 0) (v4 + 1) else none else none else none else none
theorem tl_X13_cave_177 {d : Nat} (hd : 3 ≤ d) {T : T3} {v1 : Int} {M : aM} {k : Int → Int → Option (Int × aM)} {y : (Int × aM)}  (hS : Sh T.1 M)
    (hk : ∀ (v3 v4 : Int) (u2 : aV), Sh T.1 M → k v3 v4 = some y → Wp d 255 231 [] [(2, ((138 : Nat) : Int)), (0, v1), u2, (0, v3), (0, v4)] [] (M, T) (fun r2 σ2 => r2 = some (0, y.1) ∧ σ2 = (y.2, T) ∧ Sh T.1 y.2)) :
    ∀ (n : Nat) (v3 v4 : Int) (u2 : aV), Sh T.1 M → l_X13_cave_177 T.1 v1 M k n v3 v4 = some y → Wp d 255 177 [] [(2, ((138 : Nat) : Int)), (0, v1), u2, (0, v3), (0, v4)] [] (M, T) (fun r2 σ2 => r2 = some (0, y.1) ∧ σ2 = (y.2, T) ∧ Sh T.1 y.2) := by
  intro n
  induction n with
  | zero =>
    intro v3 v4 u2 _ h
    exact nomatch (show (none : Option (Int × aM)) = some y from h)
  | succ n ih =>
    intro v3 v4 u2 sM h
    rw [l_X13_cave_177] at h
    refine y_blk (t := 177) rfl (show fnd bk_X13_cave 177 = some _ from rfl) aB_X13_cave ?_
    refine wp_iload (v := v4) rfl ?_
    refine wp_aload_n (v := ((138 : Nat) : Int)) rfl (Int.natCast_nonneg _) ?_
    obtain ⟨c26, h⟩ := d_ite h
    refine y_get (show ash 138 = (13, 38) from rfl) (Nat.lt_of_lt_of_le (show 138 < 154 by decide) hS.1.1) (v := (((M 138 3).toNat : Nat) : Int)) c26.eq rfl ?_
    refine y_get (aW0 hS.1.2 c26.is) (ltW c26.is 0 (by decide)) (v := M (M 138 3).toNat 5) rfl rfl ?_
    refine wp_icmp_ge (fun c27 => ?_) (fun c27 => ?_)
    · rw [if_pos c27] at h
      exact hk v3 v4 u2  sM h
    · rw [if_neg c27] at h
      refine wp_iload_n (v := v3) rfl ?_
      refine wp_aload_n (v := ((138 : Nat) : Int)) rfl (Int.natCast_nonneg _) ?_
      refine y_get (show ash 138 = (13, 38) from rfl) (Nat.lt_of_lt_of_le (show 138 < 154 by decide) hS.1.1) (v := (((M 138 3).toNat : Nat) : Int)) c26.eq rfl ?_
      refine y_get (aW0 hS.1.2 c26.is) (ltW c26.is 0 (by decide)) (v := ((((M 138 3).toNat + 1) : Nat) : Int)) (rW14 sM c26.is) rfl ?_
      refine wp_iload (v := v4) rfl ?_
      obtain ⟨c28, h⟩ := d_ite h
      refine y_iald (aW1 hS.1.2 c26.is) (Or.inl (ltW c26.is 1 (by decide))) (Nat.ne_of_lt (Nat.lt_of_lt_of_le (ltW c26.is 1 (by decide)) hS.1.2)) c28 (v := M ((M 138 3).toNat + 1) (v4).toNat) rfl ?_
      refine wp_iload_n (v := v1) rfl ?_
      refine wp_icmp_eq (fun c29 => ?_) (fun c29 => ?_)
      · rw [if_pos c29] at h
        refine y_blk (t := 218) rfl (show fnd bk_X13_cave 218 = some _ from rfl) aB_X13_cave ?_
        refine wp_iconst ⟨by decide, by decide⟩ ?_
        refine wp_goto ?_
        refine y_blk (t := 223) rfl (show fnd bk_X13_cave 223 = some _ from rfl) aB_X13_cave ?_
        obtain ⟨c30, h⟩ := d_ite h
        refine wp_iadd c30 ?_
        refine y_stn (L1 := [(2, ((138 : Nat) : Int)), (0, v1), (ajk u2), (0, (v3 + 1)), (0, v4)]) (Nat.le_of_ble_eq_true rfl) (aset_jk (q := 2) (u := u2) rfl) ?_
        obtain ⟨c31, h⟩ := d_ite h
        refine y_iinc (L1 := [(2, ((138 : Nat) : Int)), (0, v1), (ajk u2), (0, (v3 + 1)), (0, (v4 + 1))]) rfl (Nat.le_of_ble_eq_true rfl) ⟨by decide, by decide⟩ c31 rfl ?_
        refine wp_goto ?_
        exact ih (v3 + 1) (v4 + 1) (ajk u2)  sM h
      · rw [if_neg c29] at h
        refine wp_aload_n (v := ((138 : Nat) : Int)) rfl (Int.natCast_nonneg _) ?_
        refine y_get (show ash 138 = (13, 38) from rfl) (Nat.lt_of_lt_of_le (show 138 < 154 by decide) hS.1.1) (v := (((M 138 3).toNat : Nat) : Int)) c26.eq rfl ?_
        refine y_get (aW0 hS.1.2 c26.is) (ltW c26.is 0 (by decide)) (v := ((((M 138 3).toNat + 2) : Nat) : Int)) (rW15 sM c26.is) rfl ?_
        refine wp_iload (v := v4) rfl ?_
        refine y_iald (aW2 hS.1.2 c26.is) (Or.inl (ltW c26.is 2 (by decide))) (Nat.ne_of_lt (Nat.lt_of_lt_of_le (ltW c26.is 2 (by decide)) hS.1.2)) c28 (v := M ((M 138 3).toNat + 2) (v4).toNat) rfl ?_
        refine wp_iload_n (v := v1) rfl ?_
        refine y_ne (fun c32 => ?_) (fun c32 => ?_)
        · rw [if_neg c32] at h
          refine y_blk (t := 222) rfl (show fnd bk_X13_cave 222 = some _ from rfl) aB_X13_cave ?_
          refine wp_iconst ⟨by decide, by decide⟩ ?_
          refine y_blk (t := 223) rfl (show fnd bk_X13_cave 223 = some _ from rfl) aB_X13_cave ?_
          obtain ⟨c33, h⟩ := d_ite h
          refine wp_iadd c33 ?_
          refine y_stn (L1 := [(2, ((138 : Nat) : Int)), (0, v1), (ajk u2), (0, (v3 + 0)), (0, v4)]) (Nat.le_of_ble_eq_true rfl) (aset_jk (q := 2) (u := u2) rfl) ?_
          obtain ⟨c34, h⟩ := d_ite h
          refine y_iinc (L1 := [(2, ((138 : Nat) : Int)), (0, v1), (ajk u2), (0, (v3 + 0)), (0, (v4 + 1))]) rfl (Nat.le_of_ble_eq_true rfl) ⟨by decide, by decide⟩ c34 rfl ?_
          refine wp_goto ?_
          exact ih (v3 + 0) (v4 + 1) (ajk u2)  sM h
        · rw [if_pos c32] at h
          refine y_blk (t := 218) rfl (show fnd bk_X13_cave 218 = some _ from rfl) aB_X13_cave ?_
          refine wp_iconst ⟨by decide, by decide⟩ ?_
          refine wp_goto ?_
          refine y_blk (t := 223) rfl (show fnd bk_X13_cave 223 = some _ from rfl) aB_X13_cave ?_
          obtain ⟨c35, h⟩ := d_ite h
          refine wp_iadd c35 ?_
          refine y_stn (L1 := [(2, ((138 : Nat) : Int)), (0, v1), (ajk u2), (0, (v3 + 1)), (0, v4)]) (Nat.le_of_ble_eq_true rfl) (aset_jk (q := 2) (u := u2) rfl) ?_
          obtain ⟨c36, h⟩ := d_ite h
          refine y_iinc (L1 := [(2, ((138 : Nat) : Int)), (0, v1), (ajk u2), (0, (v3 + 1)), (0, (v4 + 1))]) rfl (Nat.le_of_ble_eq_true rfl) ⟨by decide, by decide⟩ c36 rfl ?_
          refine wp_goto ?_
          exact ih (v3 + 1) (v4 + 1) (ajk u2)  sM h
def b_X13_cave_169 (T : Nat) (v1 : Int) (v2 : Int) (v3 : Int) (M : aM) : Option (Int × aM) :=
 if v2 = 4 then
 l_X13_cave_177 T v1 M (fun w37 w38 =>
 (f_X13_good T w37 M).bind fun x41 =>
 some (x41.1, x41.2)) FU v3 0 else
 (f_X13_good T v3 M).bind fun x22 =>
 some (x22.1, x22.2)
theorem tb_X13_cave_169 {d : Nat} (hd : 3 ≤ d) {T : T3} {v1 : Int} {v2 : Int} {v3 : Int} {u4 : aV} {M : aM} {y : (Int × aM)}  (hS : Sh T.1 M) (h : b_X13_cave_169 T.1 v1 v2 v3 M = some y) : Wp d 255 169 [] [(2, ((138 : Nat) : Int)), (0, v1), (0, v2), (0, v3), u4] [] (M, T) (fun r2 σ2 => r2 = some (0, y.1) ∧ σ2 = (y.2, T) ∧ Sh T.1 y.2) := by
  rw [b_X13_cave_169] at h
  refine y_blk (t := 169) rfl (show fnd bk_X13_cave 169 = some _ from rfl) aB_X13_cave ?_
  refine wp_iload_n (v := v2) rfl ?_
  refine wp_iconst ⟨by decide, by decide⟩ ?_
  refine y_ne (fun c21 => ?_) (fun c21 => ?_)
  · rw [if_neg c21] at h
    refine y_blk (t := 231) rfl (show fnd bk_X13_cave 231 = some _ from rfl) aB_X13_cave ?_
    refine wp_aload_n (v := ((138 : Nat) : Int)) rfl (Int.natCast_nonneg _) ?_
    refine wp_iload_n (v := v3) rfl ?_
    obtain ⟨x22, e23, h⟩ := d_bind h
    obtain ⟨r24, s25⟩ := t_X13_good hS e23
    refine y_callV (as := [(0, v3)]) (S1 := []) (Nat.le_of_ble_eq_true rfl) (by omega) r24 (Nat.le_of_ble_eq_true rfl) rfl (show ash 138 = (13, 38) from rfl) (Nat.lt_of_lt_of_le (show 138 < 154 by decide) hS.1.1) (Nat.le_of_ble_eq_true rfl) (Nat.le_of_ble_eq_true rfl) rfl ?_
    cases h
    exact y_ret0 (Or.inl rfl) ⟨rfl, rfl, s25⟩
  · rw [if_pos c21] at h
    refine wp_iconst ⟨by decide, by decide⟩ ?_
    refine y_st (L1 := [(2, ((138 : Nat) : Int)), (0, v1), (0, v2), (0, v3), (0, 0)]) (Nat.le_of_ble_eq_true rfl) rfl ?_
    refine tl_X13_cave_177 (by omega) hS (fun w37 w38 u39  s40 h => ?_) FU v3 0 (0, v2)  hS h
    refine y_blk (t := 231) rfl (show fnd bk_X13_cave 231 = some _ from rfl) aB_X13_cave ?_
    refine wp_aload_n (v := ((138 : Nat) : Int)) rfl (Int.natCast_nonneg _) ?_
    refine wp_iload_n (v := w37) rfl ?_
    obtain ⟨x41, e42, h⟩ := d_bind h
    obtain ⟨r43, s44⟩ := t_X13_good s40 e42
    refine y_callV (as := [(0, w37)]) (S1 := []) (Nat.le_of_ble_eq_true rfl) (by omega) r43 (Nat.le_of_ble_eq_true rfl) rfl (show ash 138 = (13, 38) from rfl) (Nat.lt_of_lt_of_le (show 138 < 154 by decide) hS.1.1) (Nat.le_of_ble_eq_true rfl) (Nat.le_of_ble_eq_true rfl) rfl ?_
    cases h
    exact y_ret0 (Or.inl rfl) ⟨rfl, rfl, s44⟩
def l_X13_cave_126 (T : Nat) (v1 : Int) (v2 : Int) (M : aM) (k : Int → Int → Option (Int × aM)) : Nat → Int → Int → Option (Int × aM)
| 0, _, _ => none
| n + 1, v3, v4 =>
 if okW T (M 138 3) then
 if (M (M 138 3).toNat 8) ≤ v4 then
 k v3 v4 else
 if aIn (6 + v4) then
 if 0 ≤ (6 + v4) ∧ (6 + v4) < 12 then
 if (M 140 ((6 + v4)).toNat) = v1 then
 if aIn (v4 + 1) then
 l_X13_cave_126 T v1 v2 M k n (aor v3 (ashl 1 v4)) (v4 + 1) else none else
 if aIn (v4 + 1) then
 l_X13_cave_126 T v1 v2 M k n (aor v3 0) (v4 + 1) else none else none else none else none
theorem tl_X13_cave_126 {d : Nat} (hd : 3 ≤ d) {T : T3} {v1 : Int} {v2 : Int} {M : aM} {k : Int → Int → Option (Int × aM)} {y : (Int × aM)}  (hS : Sh T.1 M)
    (hk : ∀ (v3 v4 : Int), Sh T.1 M → k v3 v4 = some y → Wp d 255 169 [] [(2, ((138 : Nat) : Int)), (0, v1), (0, v2), (0, v3), (0, v4)] [] (M, T) (fun r2 σ2 => r2 = some (0, y.1) ∧ σ2 = (y.2, T) ∧ Sh T.1 y.2)) :
    ∀ (n : Nat) (v3 v4 : Int), Sh T.1 M → l_X13_cave_126 T.1 v1 v2 M k n v3 v4 = some y → Wp d 255 126 [] [(2, ((138 : Nat) : Int)), (0, v1), (0, v2), (0, v3), (0, v4)] [] (M, T) (fun r2 σ2 => r2 = some (0, y.1) ∧ σ2 = (y.2, T) ∧ Sh T.1 y.2) := by
  intro n
  induction n with
  | zero =>
    intro v3 v4 _ h
    exact nomatch (show (none : Option (Int × aM)) = some y from h)
  | succ n ih =>
    intro v3 v4 sM h
    rw [l_X13_cave_126] at h
    refine y_blk (t := 126) rfl (show fnd bk_X13_cave 126 = some _ from rfl) aB_X13_cave ?_
    refine wp_iload (v := v4) rfl ?_
    refine wp_aload_n (v := ((138 : Nat) : Int)) rfl (Int.natCast_nonneg _) ?_
    obtain ⟨c45, h⟩ := d_ite h
    refine y_get (show ash 138 = (13, 38) from rfl) (Nat.lt_of_lt_of_le (show 138 < 154 by decide) hS.1.1) (v := (((M 138 3).toNat : Nat) : Int)) c45.eq rfl ?_
    refine y_get (aW0 hS.1.2 c45.is) (ltW c45.is 0 (by decide)) (v := M (M 138 3).toNat 8) rfl rfl ?_
    refine wp_icmp_ge (fun c46 => ?_) (fun c46 => ?_)
    · rw [if_pos c46] at h
      exact hk v3 v4   sM h
    · rw [if_neg c46] at h
      refine wp_iload_n (v := v3) rfl ?_
      refine wp_aload_n (v := ((138 : Nat) : Int)) rfl (Int.natCast_nonneg _) ?_
      refine y_get (show ash 138 = (13, 38) from rfl) (Nat.lt_of_lt_of_le (show 138 < 154 by decide) hS.1.1) (v := ((140 : Nat) : Int)) (sM.at 138 16 140 (by decide +kernel)) rfl ?_
      refine wp_bipush (by decide) ?_
      refine wp_iload (v := v4) rfl ?_
      obtain ⟨c47, h⟩ := d_ite h
      refine wp_iadd c47 ?_
      obtain ⟨c48, h⟩ := d_ite h
      refine y_iald (show ash 140 = (100, 12) from rfl) (Or.inl (Nat.lt_of_lt_of_le (show 140 < 154 by decide) hS.1.1)) (Nat.ne_of_lt (Nat.lt_of_lt_of_le (Nat.lt_of_lt_of_le (show 140 < 154 by decide) hS.1.1) hS.1.2)) c48 (v := M 140 ((6 + v4)).toNat) rfl ?_
      refine wp_iload_n (v := v1) rfl ?_
      refine y_ne (fun c49 => ?_) (fun c49 => ?_)
      · rw [if_neg c49] at h
        refine y_blk (t := 160) rfl (show fnd bk_X13_cave 160 = some _ from rfl) aB_X13_cave ?_
        refine wp_iconst ⟨by decide, by decide⟩ ?_
        refine y_blk (t := 161) rfl (show fnd bk_X13_cave 161 = some _ from rfl) aB_X13_cave ?_
        refine wp_ior ?_
        refine y_stn (L1 := [(2, ((138 : Nat) : Int)), (0, v1), (0, v2), (0, (aor v3 0)), (0, v4)]) (Nat.le_of_ble_eq_true rfl) rfl ?_
        obtain ⟨c50, h⟩ := d_ite h
        refine y_iinc (L1 := [(2, ((138 : Nat) : Int)), (0, v1), (0, v2), (0, (aor v3 0)), (0, (v4 + 1))]) rfl (Nat.le_of_ble_eq_true rfl) ⟨by decide, by decide⟩ c50 rfl ?_
        refine wp_goto ?_
        exact ih (aor v3 0) (v4 + 1)   sM h
      · rw [if_pos c49] at h
        refine wp_iconst ⟨by decide, by decide⟩ ?_
        refine wp_iload (v := v4) rfl ?_
        refine wp_ishl ?_
        refine wp_goto ?_
        refine y_blk (t := 161) rfl (show fnd bk_X13_cave 161 = some _ from rfl) aB_X13_cave ?_
        refine wp_ior ?_
        refine y_stn (L1 := [(2, ((138 : Nat) : Int)), (0, v1), (0, v2), (0, (aor v3 (ashl 1 v4))), (0, v4)]) (Nat.le_of_ble_eq_true rfl) rfl ?_
        obtain ⟨c51, h⟩ := d_ite h
        refine y_iinc (L1 := [(2, ((138 : Nat) : Int)), (0, v1), (0, v2), (0, (aor v3 (ashl 1 v4))), (0, (v4 + 1))]) rfl (Nat.le_of_ble_eq_true rfl) ⟨by decide, by decide⟩ c51 rfl ?_
        refine wp_goto ?_
        exact ih (aor v3 (ashl 1 v4)) (v4 + 1)   sM h
def b_X13_cave_118 (T : Nat) (v1 : Int) (v2 : Int) (v3 : Int) (M : aM) : Option (Int × aM) :=
 if v2 = 3 then
 l_X13_cave_126 T v1 v2 M (fun w52 w53 =>
 b_X13_cave_169 T v1 v2 w52 M) FU v3 0 else
 b_X13_cave_169 T v1 v2 v3 M
theorem tb_X13_cave_118 {d : Nat} (hd : 3 ≤ d) {T : T3} {v1 : Int} {v2 : Int} {v3 : Int} {u4 : aV} {M : aM} {y : (Int × aM)}  (hS : Sh T.1 M) (h : b_X13_cave_118 T.1 v1 v2 v3 M = some y) : Wp d 255 118 [] [(2, ((138 : Nat) : Int)), (0, v1), (0, v2), (0, v3), u4] [] (M, T) (fun r2 σ2 => r2 = some (0, y.1) ∧ σ2 = (y.2, T) ∧ Sh T.1 y.2) := by
  rw [b_X13_cave_118] at h
  refine y_blk (t := 118) rfl (show fnd bk_X13_cave 118 = some _ from rfl) aB_X13_cave ?_
  refine wp_iload_n (v := v2) rfl ?_
  refine wp_iconst ⟨by decide, by decide⟩ ?_
  refine y_ne (fun c20 => ?_) (fun c20 => ?_)
  · rw [if_neg c20] at h
    exact tb_X13_cave_169 hd hS h
  · rw [if_pos c20] at h
    refine wp_iconst ⟨by decide, by decide⟩ ?_
    refine y_st (L1 := [(2, ((138 : Nat) : Int)), (0, v1), (0, v2), (0, v3), (0, 0)]) (Nat.le_of_ble_eq_true rfl) rfl ?_
    refine tl_X13_cave_126 (by omega) hS (fun w52 w53   s54 h => ?_) FU v3 0   hS h
    exact tb_X13_cave_169 hd s54 h
def l_X13_cave_78 (T : Nat) (v1 : Int) (v2 : Int) (M : aM) (k : Int → Int → Option (Int × aM)) : Nat → Int → Int → Option (Int × aM)
| 0, _, _ => none
| n + 1, v3, v4 =>
 if okW T (M 138 3) then
 if (M (M 138 3).toNat 7) ≤ v4 then
 k v3 v4 else
 if 0 ≤ v4 ∧ v4 < 12 then
 if (M 140 (v4).toNat) = v1 then
 if aIn (v4 + 1) then
 l_X13_cave_78 T v1 v2 M k n (aor v3 (ashl 1 v4)) (v4 + 1) else none else
 if aIn (v4 + 1) then
 l_X13_cave_78 T v1 v2 M k n (aor v3 0) (v4 + 1) else none else none else none
theorem tl_X13_cave_78 {d : Nat} (hd : 3 ≤ d) {T : T3} {v1 : Int} {v2 : Int} {M : aM} {k : Int → Int → Option (Int × aM)} {y : (Int × aM)}  (hS : Sh T.1 M)
    (hk : ∀ (v3 v4 : Int), Sh T.1 M → k v3 v4 = some y → Wp d 255 118 [] [(2, ((138 : Nat) : Int)), (0, v1), (0, v2), (0, v3), (0, v4)] [] (M, T) (fun r2 σ2 => r2 = some (0, y.1) ∧ σ2 = (y.2, T) ∧ Sh T.1 y.2)) :
    ∀ (n : Nat) (v3 v4 : Int), Sh T.1 M → l_X13_cave_78 T.1 v1 v2 M k n v3 v4 = some y → Wp d 255 78 [] [(2, ((138 : Nat) : Int)), (0, v1), (0, v2), (0, v3), (0, v4)] [] (M, T) (fun r2 σ2 => r2 = some (0, y.1) ∧ σ2 = (y.2, T) ∧ Sh T.1 y.2) := by
  intro n
  induction n with
  | zero =>
    intro v3 v4 _ h
    exact nomatch (show (none : Option (Int × aM)) = some y from h)
  | succ n ih =>
    intro v3 v4 sM h
    rw [l_X13_cave_78] at h
    refine y_blk (t := 78) rfl (show fnd bk_X13_cave 78 = some _ from rfl) aB_X13_cave ?_
    refine wp_iload (v := v4) rfl ?_
    refine wp_aload_n (v := ((138 : Nat) : Int)) rfl (Int.natCast_nonneg _) ?_
    obtain ⟨c55, h⟩ := d_ite h
    refine y_get (show ash 138 = (13, 38) from rfl) (Nat.lt_of_lt_of_le (show 138 < 154 by decide) hS.1.1) (v := (((M 138 3).toNat : Nat) : Int)) c55.eq rfl ?_
    refine y_get (aW0 hS.1.2 c55.is) (ltW c55.is 0 (by decide)) (v := M (M 138 3).toNat 7) rfl rfl ?_
    refine wp_icmp_ge (fun c56 => ?_) (fun c56 => ?_)
    · rw [if_pos c56] at h
      exact hk v3 v4   sM h
    · rw [if_neg c56] at h
      refine wp_iload_n (v := v3) rfl ?_
      refine wp_aload_n (v := ((138 : Nat) : Int)) rfl (Int.natCast_nonneg _) ?_
      refine y_get (show ash 138 = (13, 38) from rfl) (Nat.lt_of_lt_of_le (show 138 < 154 by decide) hS.1.1) (v := ((140 : Nat) : Int)) (sM.at 138 16 140 (by decide +kernel)) rfl ?_
      refine wp_iload (v := v4) rfl ?_
      obtain ⟨c57, h⟩ := d_ite h
      refine y_iald (show ash 140 = (100, 12) from rfl) (Or.inl (Nat.lt_of_lt_of_le (show 140 < 154 by decide) hS.1.1)) (Nat.ne_of_lt (Nat.lt_of_lt_of_le (Nat.lt_of_lt_of_le (show 140 < 154 by decide) hS.1.1) hS.1.2)) c57 (v := M 140 (v4).toNat) rfl ?_
      refine wp_iload_n (v := v1) rfl ?_
      refine y_ne (fun c58 => ?_) (fun c58 => ?_)
      · rw [if_neg c58] at h
        refine y_blk (t := 109) rfl (show fnd bk_X13_cave 109 = some _ from rfl) aB_X13_cave ?_
        refine wp_iconst ⟨by decide, by decide⟩ ?_
        refine y_blk (t := 110) rfl (show fnd bk_X13_cave 110 = some _ from rfl) aB_X13_cave ?_
        refine wp_ior ?_
        refine y_stn (L1 := [(2, ((138 : Nat) : Int)), (0, v1), (0, v2), (0, (aor v3 0)), (0, v4)]) (Nat.le_of_ble_eq_true rfl) rfl ?_
        obtain ⟨c59, h⟩ := d_ite h
        refine y_iinc (L1 := [(2, ((138 : Nat) : Int)), (0, v1), (0, v2), (0, (aor v3 0)), (0, (v4 + 1))]) rfl (Nat.le_of_ble_eq_true rfl) ⟨by decide, by decide⟩ c59 rfl ?_
        refine wp_goto ?_
        exact ih (aor v3 0) (v4 + 1)   sM h
      · rw [if_pos c58] at h
        refine wp_iconst ⟨by decide, by decide⟩ ?_
        refine wp_iload (v := v4) rfl ?_
        refine wp_ishl ?_
        refine wp_goto ?_
        refine y_blk (t := 110) rfl (show fnd bk_X13_cave 110 = some _ from rfl) aB_X13_cave ?_
        refine wp_ior ?_
        refine y_stn (L1 := [(2, ((138 : Nat) : Int)), (0, v1), (0, v2), (0, (aor v3 (ashl 1 v4))), (0, v4)]) (Nat.le_of_ble_eq_true rfl) rfl ?_
        obtain ⟨c60, h⟩ := d_ite h
        refine y_iinc (L1 := [(2, ((138 : Nat) : Int)), (0, v1), (0, v2), (0, (aor v3 (ashl 1 v4))), (0, (v4 + 1))]) rfl (Nat.le_of_ble_eq_true rfl) ⟨by decide, by decide⟩ c60 rfl ?_
        refine wp_goto ?_
        exact ih (aor v3 (ashl 1 v4)) (v4 + 1)   sM h
def f_X13_cave (T : Nat) (v1 : Int) (v2 : Int) (M : aM) : Option (Int × aM) :=
 (some (aup M 138 0 0)).bind fun m1 =>
 (f_X13_isCave T v1 m1).bind fun x3 =>
 if x3 = 0 then
 (f_X13_refused T 1 m1).bind fun x6 =>
 some (x6.1, x6.2) else
 (f_X13_in T v2 0 4 m1).bind fun x10 =>
 if x10 = 0 then
 (f_X13_refused T 1 m1).bind fun x74 =>
 some (x74.1, x74.2) else
 (f_X13_works T m1).bind fun x13 =>
 if v2 = 0 then
 if okW T (x13.2 138 3) then
 (f_X13_good T (aand (ashr (x13.2 (x13.2 138 3).toNat 4) v1) 1) x13.2).bind fun x70 =>
 some (x70.1, x70.2) else none else
 if v2 = 1 then
 if 0 ≤ v1 ∧ v1 < 8 then
 (f_X13_good T (x13.2 145 (v1).toNat) x13.2).bind fun x65 =>
 some (x65.1, x65.2) else none else
 if v2 = 2 then
 l_X13_cave_78 T v1 v2 x13.2 (fun w61 w62 =>
 b_X13_cave_118 T v1 v2 w61 x13.2) FU 0 0 else
 b_X13_cave_118 T v1 v2 0 x13.2
theorem t_X13_cave {T : T3} {v1 : Int} {v2 : Int} {M : aM} {y : (Int × aM)}  (hS : Sh T.1 M) (h : f_X13_cave T.1 v1 v2 M = some y) : Mr 3 255 [(2, ((138 : Nat) : Int)), (0, v1), (0, v2)] M (some (0, y.1)) y.2 T ∧ Sh T.1 y.2 := by
  have key : ∀ d, 3 ≤ d → Wp d 255 0 [] [(2, ((138 : Nat) : Int)), (0, v1), (0, v2), (9, 0), (9, 0)] [] (M, T) (fun r2 σ2 => r2 = some (0, y.1) ∧ σ2 = (y.2, T) ∧ Sh T.1 y.2) := by
    intro d hd
    rw [f_X13_cave] at h
    refine y_blk (t := 0) rfl (show fnd bk_X13_cave 0 = some _ from rfl) aB_X13_cave ?_
    refine wp_aload_n (v := ((138 : Nat) : Int)) rfl (Int.natCast_nonneg _) ?_
    refine wp_iconst ⟨by decide, by decide⟩ ?_
    refine y_put (show ash 138 = (13, 38) from rfl) (Nat.lt_of_lt_of_le (show 138 < 154 by decide) hS.1.1) rfl ?_
    obtain ⟨m1, em1, h⟩ := d_bind h
    have em1 := Option.some.inj em1
    have s2 : Sh T.1 m1 := em1 ▸ hS.up (Or.inr ⟨by rw [(show ash 138 = (13, 38) from rfl)]; decide, by rw [(show ash 138 = (13, 38) from rfl)]; decide⟩) (by have := (Nat.lt_of_lt_of_le (show 138 < 154 by decide) hS.1.1); have := hS.1.2; omega)
    rw [em1]
    refine wp_aload_n (v := ((138 : Nat) : Int)) rfl (Int.natCast_nonneg _) ?_
    refine wp_iload_n (v := v1) rfl ?_
    obtain ⟨x3, e4, h⟩ := d_bind h
    refine y_callV (as := [(0, v1)]) (S1 := []) (Nat.le_of_ble_eq_true rfl) (by omega) (t_X13_isCave s2 e4) (Nat.le_of_ble_eq_true rfl) rfl (show ash 138 = (13, 38) from rfl) (Nat.lt_of_lt_of_le (show 138 < 154 by decide) hS.1.1) (Nat.le_of_ble_eq_true rfl) (Nat.le_of_ble_eq_true rfl) rfl ?_
    refine wp_if_eq (fun c5 => ?_) (fun c5 => ?_)
    · rw [if_pos c5] at h
      refine y_blk (t := 22) rfl (show fnd bk_X13_cave 22 = some _ from rfl) aB_X13_cave ?_
      refine wp_aload_n (v := ((138 : Nat) : Int)) rfl (Int.natCast_nonneg _) ?_
      refine wp_iconst ⟨by decide, by decide⟩ ?_
      obtain ⟨x6, e7, h⟩ := d_bind h
      obtain ⟨r8, s9⟩ := t_X13_refused s2 e7
      refine y_callV (as := [(0, 1)]) (S1 := []) (Nat.le_of_ble_eq_true rfl) (by omega) r8 (Nat.le_of_ble_eq_true rfl) rfl (show ash 138 = (13, 38) from rfl) (Nat.lt_of_lt_of_le (show 138 < 154 by decide) hS.1.1) (Nat.le_of_ble_eq_true rfl) (Nat.le_of_ble_eq_true rfl) rfl ?_
      cases h
      exact y_ret0 (Or.inl rfl) ⟨rfl, rfl, s9⟩
    · rw [if_neg c5] at h
      refine wp_iload_n (v := v2) rfl ?_
      refine wp_iconst ⟨by decide, by decide⟩ ?_
      refine wp_iconst ⟨by decide, by decide⟩ ?_
      obtain ⟨x10, e11, h⟩ := d_bind h
      refine y_callS (as := [(0, v2), (0, 0), (0, 4)]) (S1 := []) (Nat.le_of_ble_eq_true rfl) (by omega) (t_X13_in s2 e11) (Nat.le_of_ble_eq_true rfl) rfl (Nat.le_of_ble_eq_true rfl) (Nat.le_of_ble_eq_true rfl) rfl ?_
      refine y_nez (fun c12 => ?_) (fun c12 => ?_)
      · rw [if_neg c12] at h
        refine y_blk (t := 28) rfl (show fnd bk_X13_cave 28 = some _ from rfl) aB_X13_cave ?_
        refine wp_aload_n (v := ((138 : Nat) : Int)) rfl (Int.natCast_nonneg _) ?_
        obtain ⟨x13, e14, h⟩ := d_bind h
        obtain ⟨r15, s16⟩ := t_X13_works s2 e14
        refine y_callVv (as := []) (S1 := []) (Nat.le_of_ble_eq_true rfl) (by omega) r15 rfl (show ash 138 = (13, 38) from rfl) (Nat.lt_of_lt_of_le (show 138 < 154 by decide) hS.1.1) (Nat.le_of_ble_eq_true rfl) (Nat.le_of_ble_eq_true rfl) rfl ?_
        refine wp_iconst ⟨by decide, by decide⟩ ?_
        refine y_stn (L1 := [(2, ((138 : Nat) : Int)), (0, v1), (0, v2), (0, 0), (9, 0)]) (Nat.le_of_ble_eq_true rfl) rfl ?_
        refine wp_iload_n (v := v2) rfl ?_
        refine y_nez (fun c17 => ?_) (fun c17 => ?_)
        · rw [if_neg c17] at h
          refine y_blk (t := 54) rfl (show fnd bk_X13_cave 54 = some _ from rfl) aB_X13_cave ?_
          refine wp_iload_n (v := v2) rfl ?_
          refine wp_iconst ⟨by decide, by decide⟩ ?_
          refine y_ne (fun c18 => ?_) (fun c18 => ?_)
          · rw [if_neg c18] at h
            refine y_blk (t := 70) rfl (show fnd bk_X13_cave 70 = some _ from rfl) aB_X13_cave ?_
            refine wp_iload_n (v := v2) rfl ?_
            refine wp_iconst ⟨by decide, by decide⟩ ?_
            refine y_ne (fun c19 => ?_) (fun c19 => ?_)
            · rw [if_neg c19] at h
              exact tb_X13_cave_118 hd s16 h
            · rw [if_pos c19] at h
              refine wp_iconst ⟨by decide, by decide⟩ ?_
              refine y_st (L1 := [(2, ((138 : Nat) : Int)), (0, v1), (0, v2), (0, 0), (0, 0)]) (Nat.le_of_ble_eq_true rfl) rfl ?_
              refine tl_X13_cave_78 (by omega) s16 (fun w61 w62   s63 h => ?_) FU 0 0   s16 h
              exact tb_X13_cave_118 hd s63 h
          · rw [if_pos c18] at h
            refine wp_aload_n (v := ((138 : Nat) : Int)) rfl (Int.natCast_nonneg _) ?_
            refine wp_aload_n (v := ((138 : Nat) : Int)) rfl (Int.natCast_nonneg _) ?_
            refine y_get (show ash 138 = (13, 38) from rfl) (Nat.lt_of_lt_of_le (show 138 < 154 by decide) hS.1.1) (v := ((145 : Nat) : Int)) (s16.at 138 23 145 (by decide +kernel)) rfl ?_
            refine wp_iload_n (v := v1) rfl ?_
            obtain ⟨c64, h⟩ := d_ite h
            refine y_iald (show ash 145 = (100, 8) from rfl) (Or.inl (Nat.lt_of_lt_of_le (show 145 < 154 by decide) hS.1.1)) (Nat.ne_of_lt (Nat.lt_of_lt_of_le (Nat.lt_of_lt_of_le (show 145 < 154 by decide) hS.1.1) hS.1.2)) c64 (v := x13.2 145 (v1).toNat) rfl ?_
            obtain ⟨x65, e66, h⟩ := d_bind h
            obtain ⟨r67, s68⟩ := t_X13_good s16 e66
            refine y_callV (as := [(0, (x13.2 145 (v1).toNat))]) (S1 := []) (Nat.le_of_ble_eq_true rfl) (by omega) r67 (Nat.le_of_ble_eq_true rfl) rfl (show ash 138 = (13, 38) from rfl) (Nat.lt_of_lt_of_le (show 138 < 154 by decide) hS.1.1) (Nat.le_of_ble_eq_true rfl) (Nat.le_of_ble_eq_true rfl) rfl ?_
            cases h
            exact y_ret0 (Or.inl rfl) ⟨rfl, rfl, s68⟩
        · rw [if_pos c17] at h
          refine wp_aload_n (v := ((138 : Nat) : Int)) rfl (Int.natCast_nonneg _) ?_
          refine wp_aload_n (v := ((138 : Nat) : Int)) rfl (Int.natCast_nonneg _) ?_
          obtain ⟨c69, h⟩ := d_ite h
          refine y_get (show ash 138 = (13, 38) from rfl) (Nat.lt_of_lt_of_le (show 138 < 154 by decide) hS.1.1) (v := (((x13.2 138 3).toNat : Nat) : Int)) c69.eq rfl ?_
          refine y_get (aW0 hS.1.2 c69.is) (ltW c69.is 0 (by decide)) (v := x13.2 (x13.2 138 3).toNat 4) rfl rfl ?_
          refine wp_iload_n (v := v1) rfl ?_
          refine wp_ishr ?_
          refine wp_iconst ⟨by decide, by decide⟩ ?_
          refine wp_iand ?_
          obtain ⟨x70, e71, h⟩ := d_bind h
          obtain ⟨r72, s73⟩ := t_X13_good s16 e71
          refine y_callV (as := [(0, (aand (ashr (x13.2 (x13.2 138 3).toNat 4) v1) 1))]) (S1 := []) (Nat.le_of_ble_eq_true rfl) (by omega) r72 (Nat.le_of_ble_eq_true rfl) rfl (show ash 138 = (13, 38) from rfl) (Nat.lt_of_lt_of_le (show 138 < 154 by decide) hS.1.1) (Nat.le_of_ble_eq_true rfl) (Nat.le_of_ble_eq_true rfl) rfl ?_
          cases h
          exact y_ret0 (Or.inl rfl) ⟨rfl, rfl, s73⟩
      · rw [if_pos c12] at h
        refine y_blk (t := 22) rfl (show fnd bk_X13_cave 22 = some _ from rfl) aB_X13_cave ?_
        refine wp_aload_n (v := ((138 : Nat) : Int)) rfl (Int.natCast_nonneg _) ?_
        refine wp_iconst ⟨by decide, by decide⟩ ?_
        obtain ⟨x74, e75, h⟩ := d_bind h
        obtain ⟨r76, s77⟩ := t_X13_refused s2 e75
        refine y_callV (as := [(0, 1)]) (S1 := []) (Nat.le_of_ble_eq_true rfl) (by omega) r76 (Nat.le_of_ble_eq_true rfl) rfl (show ash 138 = (13, 38) from rfl) (Nat.lt_of_lt_of_le (show 138 < 154 by decide) hS.1.1) (Nat.le_of_ble_eq_true rfl) (Nat.le_of_ble_eq_true rfl) rfl ?_
        cases h
        exact y_ret0 (Or.inl rfl) ⟨rfl, rfl, s77⟩
  exact ⟨fun d hd => Ms.of3 (key d hd), Ms.sh (key 3 (Nat.le_refl _))⟩
theorem aB_X13_way : ∀ pc, aB 256 pc = fnd bk_X13_way pc := fun _ => rfl
def f_X13_way (T : Nat) (v1 : Int) (v2 : Int) (M : aM) : Option (Int × aM) :=
 (some (aup M 138 0 0)).bind fun m1 =>
 (f_X13_isWay T v1 m1).bind fun x3 =>
 if x3 = 0 then
 (f_X13_refused T 1 m1).bind fun x6 =>
 some (x6.1, x6.2) else
 (f_X13_in T v2 0 3 m1).bind fun x10 =>
 if x10 = 0 then
 (f_X13_refused T 1 m1).bind fun x38 =>
 some (x38.1, x38.2) else
 if v2 = 0 then
 if okW T (m1 138 3) then
 if 0 ≤ v1 ∧ v1 < 10 then
 (f_X13_good T (m1 ((m1 138 3).toNat + 1) (v1).toNat) m1).bind fun x34 =>
 some (x34.1, x34.2) else none else none else
 if v2 = 1 then
 if okW T (m1 138 3) then
 if 0 ≤ v1 ∧ v1 < 10 then
 (f_X13_good T (m1 ((m1 138 3).toNat + 2) (v1).toNat) m1).bind fun x28 =>
 some (x28.1, x28.2) else none else none else
 if v2 = 2 then
 if okW T (m1 138 3) then
 if 0 ≤ v1 ∧ v1 < 10 then
 (f_X13_good T (m1 ((m1 138 3).toNat + 3) (v1).toNat) m1).bind fun x22 =>
 some (x22.1, x22.2) else none else none else
 (f_X13_good T (aand (ashr (m1 140 10) v1) 1) m1).bind fun x16 =>
 some (x16.1, x16.2)
theorem t_X13_way {T : T3} {v1 : Int} {v2 : Int} {M : aM} {y : (Int × aM)}  (hS : Sh T.1 M) (h : f_X13_way T.1 v1 v2 M = some y) : Mr 1 256 [(2, ((138 : Nat) : Int)), (0, v1), (0, v2)] M (some (0, y.1)) y.2 T ∧ Sh T.1 y.2 := by
  have key : ∀ d, 1 ≤ d → Wp d 256 0 [] [(2, ((138 : Nat) : Int)), (0, v1), (0, v2)] [] (M, T) (fun r2 σ2 => r2 = some (0, y.1) ∧ σ2 = (y.2, T) ∧ Sh T.1 y.2) := by
    intro d hd
    rw [f_X13_way] at h
    refine y_blk (t := 0) rfl (show fnd bk_X13_way 0 = some _ from rfl) aB_X13_way ?_
    refine wp_aload_n (v := ((138 : Nat) : Int)) rfl (Int.natCast_nonneg _) ?_
    refine wp_iconst ⟨by decide, by decide⟩ ?_
    refine y_put (show ash 138 = (13, 38) from rfl) (Nat.lt_of_lt_of_le (show 138 < 154 by decide) hS.1.1) rfl ?_
    obtain ⟨m1, em1, h⟩ := d_bind h
    have em1 := Option.some.inj em1
    have s2 : Sh T.1 m1 := em1 ▸ hS.up (Or.inr ⟨by rw [(show ash 138 = (13, 38) from rfl)]; decide, by rw [(show ash 138 = (13, 38) from rfl)]; decide⟩) (by have := (Nat.lt_of_lt_of_le (show 138 < 154 by decide) hS.1.1); have := hS.1.2; omega)
    rw [em1]
    refine wp_aload_n (v := ((138 : Nat) : Int)) rfl (Int.natCast_nonneg _) ?_
    refine wp_iload_n (v := v1) rfl ?_
    obtain ⟨x3, e4, h⟩ := d_bind h
    refine y_callV (as := [(0, v1)]) (S1 := []) (Nat.le_of_ble_eq_true rfl) (by omega) (t_X13_isWay s2 e4) (Nat.le_of_ble_eq_true rfl) rfl (show ash 138 = (13, 38) from rfl) (Nat.lt_of_lt_of_le (show 138 < 154 by decide) hS.1.1) (Nat.le_of_ble_eq_true rfl) (Nat.le_of_ble_eq_true rfl) rfl ?_
    refine wp_if_eq (fun c5 => ?_) (fun c5 => ?_)
    · rw [if_pos c5] at h
      refine y_blk (t := 22) rfl (show fnd bk_X13_way 22 = some _ from rfl) aB_X13_way ?_
      refine wp_aload_n (v := ((138 : Nat) : Int)) rfl (Int.natCast_nonneg _) ?_
      refine wp_iconst ⟨by decide, by decide⟩ ?_
      obtain ⟨x6, e7, h⟩ := d_bind h
      obtain ⟨r8, s9⟩ := t_X13_refused s2 e7
      refine y_callV (as := [(0, 1)]) (S1 := []) (Nat.le_of_ble_eq_true rfl) (by omega) r8 (Nat.le_of_ble_eq_true rfl) rfl (show ash 138 = (13, 38) from rfl) (Nat.lt_of_lt_of_le (show 138 < 154 by decide) hS.1.1) (Nat.le_of_ble_eq_true rfl) (Nat.le_of_ble_eq_true rfl) rfl ?_
      cases h
      exact y_ret0 (Or.inl rfl) ⟨rfl, rfl, s9⟩
    · rw [if_neg c5] at h
      refine wp_iload_n (v := v2) rfl ?_
      refine wp_iconst ⟨by decide, by decide⟩ ?_
      refine wp_iconst ⟨by decide, by decide⟩ ?_
      obtain ⟨x10, e11, h⟩ := d_bind h
      refine y_callS (as := [(0, v2), (0, 0), (0, 3)]) (S1 := []) (Nat.le_of_ble_eq_true rfl) (by omega) (t_X13_in s2 e11) (Nat.le_of_ble_eq_true rfl) rfl (Nat.le_of_ble_eq_true rfl) (Nat.le_of_ble_eq_true rfl) rfl ?_
      refine y_nez (fun c12 => ?_) (fun c12 => ?_)
      · rw [if_neg c12] at h
        refine y_blk (t := 28) rfl (show fnd bk_X13_way 28 = some _ from rfl) aB_X13_way ?_
        refine wp_aload_n (v := ((138 : Nat) : Int)) rfl (Int.natCast_nonneg _) ?_
        refine wp_iload_n (v := v2) rfl ?_
        refine y_nez (fun c13 => ?_) (fun c13 => ?_)
        · rw [if_neg c13] at h
          refine y_blk (t := 45) rfl (show fnd bk_X13_way 45 = some _ from rfl) aB_X13_way ?_
          refine wp_iload_n (v := v2) rfl ?_
          refine wp_iconst ⟨by decide, by decide⟩ ?_
          refine y_ne (fun c14 => ?_) (fun c14 => ?_)
          · rw [if_neg c14] at h
            refine y_blk (t := 62) rfl (show fnd bk_X13_way 62 = some _ from rfl) aB_X13_way ?_
            refine wp_iload_n (v := v2) rfl ?_
            refine wp_iconst ⟨by decide, by decide⟩ ?_
            refine y_ne (fun c15 => ?_) (fun c15 => ?_)
            · rw [if_neg c15] at h
              refine y_blk (t := 79) rfl (show fnd bk_X13_way 79 = some _ from rfl) aB_X13_way ?_
              refine wp_aload_n (v := ((138 : Nat) : Int)) rfl (Int.natCast_nonneg _) ?_
              refine y_get (show ash 138 = (13, 38) from rfl) (Nat.lt_of_lt_of_le (show 138 < 154 by decide) hS.1.1) (v := ((140 : Nat) : Int)) (s2.at 138 16 140 (by decide +kernel)) rfl ?_
              refine wp_bipush (by decide) ?_
              refine y_iald (show ash 140 = (100, 12) from rfl) (Or.inl (Nat.lt_of_lt_of_le (show 140 < 154 by decide) hS.1.1)) (Nat.ne_of_lt (Nat.lt_of_lt_of_le (Nat.lt_of_lt_of_le (show 140 < 154 by decide) hS.1.1) hS.1.2)) ⟨by decide, by decide⟩ (v := m1 140 10) rfl ?_
              refine wp_iload_n (v := v1) rfl ?_
              refine wp_ishr ?_
              refine wp_iconst ⟨by decide, by decide⟩ ?_
              refine wp_iand ?_
              refine y_blk (t := 90) rfl (show fnd bk_X13_way 90 = some _ from rfl) aB_X13_way ?_
              obtain ⟨x16, e17, h⟩ := d_bind h
              obtain ⟨r18, s19⟩ := t_X13_good s2 e17
              refine y_callV (as := [(0, (aand (ashr (m1 140 10) v1) 1))]) (S1 := []) (Nat.le_of_ble_eq_true rfl) (by omega) r18 (Nat.le_of_ble_eq_true rfl) rfl (show ash 138 = (13, 38) from rfl) (Nat.lt_of_lt_of_le (show 138 < 154 by decide) hS.1.1) (Nat.le_of_ble_eq_true rfl) (Nat.le_of_ble_eq_true rfl) rfl ?_
              cases h
              exact y_ret0 (Or.inl rfl) ⟨rfl, rfl, s19⟩
            · rw [if_pos c15] at h
              refine wp_aload_n (v := ((138 : Nat) : Int)) rfl (Int.natCast_nonneg _) ?_
              obtain ⟨c20, h⟩ := d_ite h
              refine y_get (show ash 138 = (13, 38) from rfl) (Nat.lt_of_lt_of_le (show 138 < 154 by decide) hS.1.1) (v := (((m1 138 3).toNat : Nat) : Int)) c20.eq rfl ?_
              refine y_get (aW0 hS.1.2 c20.is) (ltW c20.is 0 (by decide)) (v := ((((m1 138 3).toNat + 3) : Nat) : Int)) (rW16 s2 c20.is) rfl ?_
              refine wp_iload_n (v := v1) rfl ?_
              obtain ⟨c21, h⟩ := d_ite h
              refine y_iald (aW3 hS.1.2 c20.is) (Or.inl (ltW c20.is 3 (by decide))) (Nat.ne_of_lt (Nat.lt_of_lt_of_le (ltW c20.is 3 (by decide)) hS.1.2)) c21 (v := m1 ((m1 138 3).toNat + 3) (v1).toNat) rfl ?_
              refine wp_goto ?_
              refine y_blk (t := 90) rfl (show fnd bk_X13_way 90 = some _ from rfl) aB_X13_way ?_
              obtain ⟨x22, e23, h⟩ := d_bind h
              obtain ⟨r24, s25⟩ := t_X13_good s2 e23
              refine y_callV (as := [(0, (m1 ((m1 138 3).toNat + 3) (v1).toNat))]) (S1 := []) (Nat.le_of_ble_eq_true rfl) (by omega) r24 (Nat.le_of_ble_eq_true rfl) rfl (show ash 138 = (13, 38) from rfl) (Nat.lt_of_lt_of_le (show 138 < 154 by decide) hS.1.1) (Nat.le_of_ble_eq_true rfl) (Nat.le_of_ble_eq_true rfl) rfl ?_
              cases h
              exact y_ret0 (Or.inl rfl) ⟨rfl, rfl, s25⟩
          · rw [if_pos c14] at h
            refine wp_aload_n (v := ((138 : Nat) : Int)) rfl (Int.natCast_nonneg _) ?_
            obtain ⟨c26, h⟩ := d_ite h
            refine y_get (show ash 138 = (13, 38) from rfl) (Nat.lt_of_lt_of_le (show 138 < 154 by decide) hS.1.1) (v := (((m1 138 3).toNat : Nat) : Int)) c26.eq rfl ?_
            refine y_get (aW0 hS.1.2 c26.is) (ltW c26.is 0 (by decide)) (v := ((((m1 138 3).toNat + 2) : Nat) : Int)) (rW15 s2 c26.is) rfl ?_
            refine wp_iload_n (v := v1) rfl ?_
            obtain ⟨c27, h⟩ := d_ite h
            refine y_iald (aW2 hS.1.2 c26.is) (Or.inl (ltW c26.is 2 (by decide))) (Nat.ne_of_lt (Nat.lt_of_lt_of_le (ltW c26.is 2 (by decide)) hS.1.2)) c27 (v := m1 ((m1 138 3).toNat + 2) (v1).toNat) rfl ?_
            refine wp_goto ?_
            refine y_blk (t := 90) rfl (show fnd bk_X13_way 90 = some _ from rfl) aB_X13_way ?_
            obtain ⟨x28, e29, h⟩ := d_bind h
            obtain ⟨r30, s31⟩ := t_X13_good s2 e29
            refine y_callV (as := [(0, (m1 ((m1 138 3).toNat + 2) (v1).toNat))]) (S1 := []) (Nat.le_of_ble_eq_true rfl) (by omega) r30 (Nat.le_of_ble_eq_true rfl) rfl (show ash 138 = (13, 38) from rfl) (Nat.lt_of_lt_of_le (show 138 < 154 by decide) hS.1.1) (Nat.le_of_ble_eq_true rfl) (Nat.le_of_ble_eq_true rfl) rfl ?_
            cases h
            exact y_ret0 (Or.inl rfl) ⟨rfl, rfl, s31⟩
        · rw [if_pos c13] at h
          refine wp_aload_n (v := ((138 : Nat) : Int)) rfl (Int.natCast_nonneg _) ?_
          obtain ⟨c32, h⟩ := d_ite h
          refine y_get (show ash 138 = (13, 38) from rfl) (Nat.lt_of_lt_of_le (show 138 < 154 by decide) hS.1.1) (v := (((m1 138 3).toNat : Nat) : Int)) c32.eq rfl ?_
          refine y_get (aW0 hS.1.2 c32.is) (ltW c32.is 0 (by decide)) (v := ((((m1 138 3).toNat + 1) : Nat) : Int)) (rW14 s2 c32.is) rfl ?_
          refine wp_iload_n (v := v1) rfl ?_
          obtain ⟨c33, h⟩ := d_ite h
          refine y_iald (aW1 hS.1.2 c32.is) (Or.inl (ltW c32.is 1 (by decide))) (Nat.ne_of_lt (Nat.lt_of_lt_of_le (ltW c32.is 1 (by decide)) hS.1.2)) c33 (v := m1 ((m1 138 3).toNat + 1) (v1).toNat) rfl ?_
          refine wp_goto ?_
          refine y_blk (t := 90) rfl (show fnd bk_X13_way 90 = some _ from rfl) aB_X13_way ?_
          obtain ⟨x34, e35, h⟩ := d_bind h
          obtain ⟨r36, s37⟩ := t_X13_good s2 e35
          refine y_callV (as := [(0, (m1 ((m1 138 3).toNat + 1) (v1).toNat))]) (S1 := []) (Nat.le_of_ble_eq_true rfl) (by omega) r36 (Nat.le_of_ble_eq_true rfl) rfl (show ash 138 = (13, 38) from rfl) (Nat.lt_of_lt_of_le (show 138 < 154 by decide) hS.1.1) (Nat.le_of_ble_eq_true rfl) (Nat.le_of_ble_eq_true rfl) rfl ?_
          cases h
          exact y_ret0 (Or.inl rfl) ⟨rfl, rfl, s37⟩
      · rw [if_pos c12] at h
        refine y_blk (t := 22) rfl (show fnd bk_X13_way 22 = some _ from rfl) aB_X13_way ?_
        refine wp_aload_n (v := ((138 : Nat) : Int)) rfl (Int.natCast_nonneg _) ?_
        refine wp_iconst ⟨by decide, by decide⟩ ?_
        obtain ⟨x38, e39, h⟩ := d_bind h
        obtain ⟨r40, s41⟩ := t_X13_refused s2 e39
        refine y_callV (as := [(0, 1)]) (S1 := []) (Nat.le_of_ble_eq_true rfl) (by omega) r40 (Nat.le_of_ble_eq_true rfl) rfl (show ash 138 = (13, 38) from rfl) (Nat.lt_of_lt_of_le (show 138 < 154 by decide) hS.1.1) (Nat.le_of_ble_eq_true rfl) (Nat.le_of_ble_eq_true rfl) rfl ?_
        cases h
        exact y_ret0 (Or.inl rfl) ⟨rfl, rfl, s41⟩
  exact ⟨fun d hd => Ms.of3 (key d hd), Ms.sh (key 1 (Nat.le_refl _))⟩
theorem aB_X13_voice : ∀ pc, aB 257 pc = fnd bk_X13_voice pc := fun _ => rfl
def f_X13_voice (T : Nat) (v1 : Int) (v2 : Int) (M : aM) : Option (Int × aM) :=
 (some (aup M 138 0 0)).bind fun m1 =>
 (f_X13_isVoice T v1 m1).bind fun x3 =>
 if x3 = 0 then
 (f_X13_refused T 1 m1).bind fun x6 =>
 some (x6.1, x6.2) else
 (f_X13_in T v2 0 2 m1).bind fun x10 =>
 if x10 = 0 then
 (f_X13_refused T 1 m1).bind fun x32 =>
 some (x32.1, x32.2) else
 if v2 = 0 then
 if okW T (m1 138 3) then
 if 0 ≤ v1 ∧ v1 < 3 then
 (f_X13_good T (m1 ((m1 138 3).toNat + 4) (v1).toNat) m1).bind fun x28 =>
 some (x28.1, x28.2) else none else none else
 if v2 = 1 then
 if 0 ≤ v1 ∧ v1 < 12 then
 (f_X13_good T (m1 140 (v1).toNat) m1).bind fun x22 =>
 some (x22.1, x22.2) else none else
 if aIn (3 + v1) then
 if 0 ≤ (3 + v1) ∧ (3 + v1) < 12 then
 (f_X13_good T (m1 140 ((3 + v1)).toNat) m1).bind fun x17 =>
 some (x17.1, x17.2) else none else none
theorem t_X13_voice {T : T3} {v1 : Int} {v2 : Int} {M : aM} {y : (Int × aM)}  (hS : Sh T.1 M) (h : f_X13_voice T.1 v1 v2 M = some y) : Mr 1 257 [(2, ((138 : Nat) : Int)), (0, v1), (0, v2)] M (some (0, y.1)) y.2 T ∧ Sh T.1 y.2 := by
  have key : ∀ d, 1 ≤ d → Wp d 257 0 [] [(2, ((138 : Nat) : Int)), (0, v1), (0, v2)] [] (M, T) (fun r2 σ2 => r2 = some (0, y.1) ∧ σ2 = (y.2, T) ∧ Sh T.1 y.2) := by
    intro d hd
    rw [f_X13_voice] at h
    refine y_blk (t := 0) rfl (show fnd bk_X13_voice 0 = some _ from rfl) aB_X13_voice ?_
    refine wp_aload_n (v := ((138 : Nat) : Int)) rfl (Int.natCast_nonneg _) ?_
    refine wp_iconst ⟨by decide, by decide⟩ ?_
    refine y_put (show ash 138 = (13, 38) from rfl) (Nat.lt_of_lt_of_le (show 138 < 154 by decide) hS.1.1) rfl ?_
    obtain ⟨m1, em1, h⟩ := d_bind h
    have em1 := Option.some.inj em1
    have s2 : Sh T.1 m1 := em1 ▸ hS.up (Or.inr ⟨by rw [(show ash 138 = (13, 38) from rfl)]; decide, by rw [(show ash 138 = (13, 38) from rfl)]; decide⟩) (by have := (Nat.lt_of_lt_of_le (show 138 < 154 by decide) hS.1.1); have := hS.1.2; omega)
    rw [em1]
    refine wp_aload_n (v := ((138 : Nat) : Int)) rfl (Int.natCast_nonneg _) ?_
    refine wp_iload_n (v := v1) rfl ?_
    obtain ⟨x3, e4, h⟩ := d_bind h
    refine y_callV (as := [(0, v1)]) (S1 := []) (Nat.le_of_ble_eq_true rfl) (by omega) (t_X13_isVoice s2 e4) (Nat.le_of_ble_eq_true rfl) rfl (show ash 138 = (13, 38) from rfl) (Nat.lt_of_lt_of_le (show 138 < 154 by decide) hS.1.1) (Nat.le_of_ble_eq_true rfl) (Nat.le_of_ble_eq_true rfl) rfl ?_
    refine wp_if_eq (fun c5 => ?_) (fun c5 => ?_)
    · rw [if_pos c5] at h
      refine y_blk (t := 22) rfl (show fnd bk_X13_voice 22 = some _ from rfl) aB_X13_voice ?_
      refine wp_aload_n (v := ((138 : Nat) : Int)) rfl (Int.natCast_nonneg _) ?_
      refine wp_iconst ⟨by decide, by decide⟩ ?_
      obtain ⟨x6, e7, h⟩ := d_bind h
      obtain ⟨r8, s9⟩ := t_X13_refused s2 e7
      refine y_callV (as := [(0, 1)]) (S1 := []) (Nat.le_of_ble_eq_true rfl) (by omega) r8 (Nat.le_of_ble_eq_true rfl) rfl (show ash 138 = (13, 38) from rfl) (Nat.lt_of_lt_of_le (show 138 < 154 by decide) hS.1.1) (Nat.le_of_ble_eq_true rfl) (Nat.le_of_ble_eq_true rfl) rfl ?_
      cases h
      exact y_ret0 (Or.inl rfl) ⟨rfl, rfl, s9⟩
    · rw [if_neg c5] at h
      refine wp_iload_n (v := v2) rfl ?_
      refine wp_iconst ⟨by decide, by decide⟩ ?_
      refine wp_iconst ⟨by decide, by decide⟩ ?_
      obtain ⟨x10, e11, h⟩ := d_bind h
      refine y_callS (as := [(0, v2), (0, 0), (0, 2)]) (S1 := []) (Nat.le_of_ble_eq_true rfl) (by omega) (t_X13_in s2 e11) (Nat.le_of_ble_eq_true rfl) rfl (Nat.le_of_ble_eq_true rfl) (Nat.le_of_ble_eq_true rfl) rfl ?_
      refine y_nez (fun c12 => ?_) (fun c12 => ?_)
      · rw [if_neg c12] at h
        refine y_blk (t := 28) rfl (show fnd bk_X13_voice 28 = some _ from rfl) aB_X13_voice ?_
        refine wp_aload_n (v := ((138 : Nat) : Int)) rfl (Int.natCast_nonneg _) ?_
        refine wp_iload_n (v := v2) rfl ?_
        refine y_nez (fun c13 => ?_) (fun c13 => ?_)
        · rw [if_neg c13] at h
          refine y_blk (t := 45) rfl (show fnd bk_X13_voice 45 = some _ from rfl) aB_X13_voice ?_
          refine wp_iload_n (v := v2) rfl ?_
          refine wp_iconst ⟨by decide, by decide⟩ ?_
          refine y_ne (fun c14 => ?_) (fun c14 => ?_)
          · rw [if_neg c14] at h
            refine y_blk (t := 59) rfl (show fnd bk_X13_voice 59 = some _ from rfl) aB_X13_voice ?_
            refine wp_aload_n (v := ((138 : Nat) : Int)) rfl (Int.natCast_nonneg _) ?_
            refine y_get (show ash 138 = (13, 38) from rfl) (Nat.lt_of_lt_of_le (show 138 < 154 by decide) hS.1.1) (v := ((140 : Nat) : Int)) (s2.at 138 16 140 (by decide +kernel)) rfl ?_
            refine wp_iconst ⟨by decide, by decide⟩ ?_
            refine wp_iload_n (v := v1) rfl ?_
            obtain ⟨c15, h⟩ := d_ite h
            refine wp_iadd c15 ?_
            obtain ⟨c16, h⟩ := d_ite h
            refine y_iald (show ash 140 = (100, 12) from rfl) (Or.inl (Nat.lt_of_lt_of_le (show 140 < 154 by decide) hS.1.1)) (Nat.ne_of_lt (Nat.lt_of_lt_of_le (Nat.lt_of_lt_of_le (show 140 < 154 by decide) hS.1.1) hS.1.2)) c16 (v := m1 140 ((3 + v1)).toNat) rfl ?_
            refine y_blk (t := 67) rfl (show fnd bk_X13_voice 67 = some _ from rfl) aB_X13_voice ?_
            obtain ⟨x17, e18, h⟩ := d_bind h
            obtain ⟨r19, s20⟩ := t_X13_good s2 e18
            refine y_callV (as := [(0, (m1 140 ((3 + v1)).toNat))]) (S1 := []) (Nat.le_of_ble_eq_true rfl) (by omega) r19 (Nat.le_of_ble_eq_true rfl) rfl (show ash 138 = (13, 38) from rfl) (Nat.lt_of_lt_of_le (show 138 < 154 by decide) hS.1.1) (Nat.le_of_ble_eq_true rfl) (Nat.le_of_ble_eq_true rfl) rfl ?_
            cases h
            exact y_ret0 (Or.inl rfl) ⟨rfl, rfl, s20⟩
          · rw [if_pos c14] at h
            refine wp_aload_n (v := ((138 : Nat) : Int)) rfl (Int.natCast_nonneg _) ?_
            refine y_get (show ash 138 = (13, 38) from rfl) (Nat.lt_of_lt_of_le (show 138 < 154 by decide) hS.1.1) (v := ((140 : Nat) : Int)) (s2.at 138 16 140 (by decide +kernel)) rfl ?_
            refine wp_iload_n (v := v1) rfl ?_
            obtain ⟨c21, h⟩ := d_ite h
            refine y_iald (show ash 140 = (100, 12) from rfl) (Or.inl (Nat.lt_of_lt_of_le (show 140 < 154 by decide) hS.1.1)) (Nat.ne_of_lt (Nat.lt_of_lt_of_le (Nat.lt_of_lt_of_le (show 140 < 154 by decide) hS.1.1) hS.1.2)) c21 (v := m1 140 (v1).toNat) rfl ?_
            refine wp_goto ?_
            refine y_blk (t := 67) rfl (show fnd bk_X13_voice 67 = some _ from rfl) aB_X13_voice ?_
            obtain ⟨x22, e23, h⟩ := d_bind h
            obtain ⟨r24, s25⟩ := t_X13_good s2 e23
            refine y_callV (as := [(0, (m1 140 (v1).toNat))]) (S1 := []) (Nat.le_of_ble_eq_true rfl) (by omega) r24 (Nat.le_of_ble_eq_true rfl) rfl (show ash 138 = (13, 38) from rfl) (Nat.lt_of_lt_of_le (show 138 < 154 by decide) hS.1.1) (Nat.le_of_ble_eq_true rfl) (Nat.le_of_ble_eq_true rfl) rfl ?_
            cases h
            exact y_ret0 (Or.inl rfl) ⟨rfl, rfl, s25⟩
        · rw [if_pos c13] at h
          refine wp_aload_n (v := ((138 : Nat) : Int)) rfl (Int.natCast_nonneg _) ?_
          obtain ⟨c26, h⟩ := d_ite h
          refine y_get (show ash 138 = (13, 38) from rfl) (Nat.lt_of_lt_of_le (show 138 < 154 by decide) hS.1.1) (v := (((m1 138 3).toNat : Nat) : Int)) c26.eq rfl ?_
          refine y_get (aW0 hS.1.2 c26.is) (ltW c26.is 0 (by decide)) (v := ((((m1 138 3).toNat + 4) : Nat) : Int)) (rW17 s2 c26.is) rfl ?_
          refine wp_iload_n (v := v1) rfl ?_
          obtain ⟨c27, h⟩ := d_ite h
          refine y_iald (aW4 hS.1.2 c26.is) (Or.inl (ltW c26.is 4 (by decide))) (Nat.ne_of_lt (Nat.lt_of_lt_of_le (ltW c26.is 4 (by decide)) hS.1.2)) c27 (v := m1 ((m1 138 3).toNat + 4) (v1).toNat) rfl ?_
          refine wp_goto ?_
          refine y_blk (t := 67) rfl (show fnd bk_X13_voice 67 = some _ from rfl) aB_X13_voice ?_
          obtain ⟨x28, e29, h⟩ := d_bind h
          obtain ⟨r30, s31⟩ := t_X13_good s2 e29
          refine y_callV (as := [(0, (m1 ((m1 138 3).toNat + 4) (v1).toNat))]) (S1 := []) (Nat.le_of_ble_eq_true rfl) (by omega) r30 (Nat.le_of_ble_eq_true rfl) rfl (show ash 138 = (13, 38) from rfl) (Nat.lt_of_lt_of_le (show 138 < 154 by decide) hS.1.1) (Nat.le_of_ble_eq_true rfl) (Nat.le_of_ble_eq_true rfl) rfl ?_
          cases h
          exact y_ret0 (Or.inl rfl) ⟨rfl, rfl, s31⟩
      · rw [if_pos c12] at h
        refine y_blk (t := 22) rfl (show fnd bk_X13_voice 22 = some _ from rfl) aB_X13_voice ?_
        refine wp_aload_n (v := ((138 : Nat) : Int)) rfl (Int.natCast_nonneg _) ?_
        refine wp_iconst ⟨by decide, by decide⟩ ?_
        obtain ⟨x32, e33, h⟩ := d_bind h
        obtain ⟨r34, s35⟩ := t_X13_refused s2 e33
        refine y_callV (as := [(0, 1)]) (S1 := []) (Nat.le_of_ble_eq_true rfl) (by omega) r34 (Nat.le_of_ble_eq_true rfl) rfl (show ash 138 = (13, 38) from rfl) (Nat.lt_of_lt_of_le (show 138 < 154 by decide) hS.1.1) (Nat.le_of_ble_eq_true rfl) (Nat.le_of_ble_eq_true rfl) rfl ?_
        cases h
        exact y_ret0 (Or.inl rfl) ⟨rfl, rfl, s35⟩
  exact ⟨fun d hd => Ms.of3 (key d hd), Ms.sh (key 1 (Nat.le_refl _))⟩
theorem aB_X13_folk : ∀ pc, aB 258 pc = fnd bk_X13_folk pc := fun _ => rfl
def f_X13_folk (T : Nat) (v1 : Int) (M : aM) : Option (Int × aM) :=
 (some (aup M 138 0 0)).bind fun m1 =>
 (f_X13_isFolk T v1 m1).bind fun x3 =>
 if x3 = 0 then
 (f_X13_refused T 1 m1).bind fun x6 =>
 some (x6.1, x6.2) else
 if aIn (6 + v1) then
 if 0 ≤ (6 + v1) ∧ (6 + v1) < 12 then
 (f_X13_good T (m1 140 ((6 + v1)).toNat) m1).bind fun x12 =>
 some (x12.1, x12.2) else none else none
theorem t_X13_folk {T : T3} {v1 : Int} {M : aM} {y : (Int × aM)}  (hS : Sh T.1 M) (h : f_X13_folk T.1 v1 M = some y) : Mr 1 258 [(2, ((138 : Nat) : Int)), (0, v1)] M (some (0, y.1)) y.2 T ∧ Sh T.1 y.2 := by
  have key : ∀ d, 1 ≤ d → Wp d 258 0 [] [(2, ((138 : Nat) : Int)), (0, v1)] [] (M, T) (fun r2 σ2 => r2 = some (0, y.1) ∧ σ2 = (y.2, T) ∧ Sh T.1 y.2) := by
    intro d hd
    rw [f_X13_folk] at h
    refine y_blk (t := 0) rfl (show fnd bk_X13_folk 0 = some _ from rfl) aB_X13_folk ?_
    refine wp_aload_n (v := ((138 : Nat) : Int)) rfl (Int.natCast_nonneg _) ?_
    refine wp_iconst ⟨by decide, by decide⟩ ?_
    refine y_put (show ash 138 = (13, 38) from rfl) (Nat.lt_of_lt_of_le (show 138 < 154 by decide) hS.1.1) rfl ?_
    obtain ⟨m1, em1, h⟩ := d_bind h
    have em1 := Option.some.inj em1
    have s2 : Sh T.1 m1 := em1 ▸ hS.up (Or.inr ⟨by rw [(show ash 138 = (13, 38) from rfl)]; decide, by rw [(show ash 138 = (13, 38) from rfl)]; decide⟩) (by have := (Nat.lt_of_lt_of_le (show 138 < 154 by decide) hS.1.1); have := hS.1.2; omega)
    rw [em1]
    refine wp_aload_n (v := ((138 : Nat) : Int)) rfl (Int.natCast_nonneg _) ?_
    refine wp_iload_n (v := v1) rfl ?_
    obtain ⟨x3, e4, h⟩ := d_bind h
    refine y_callV (as := [(0, v1)]) (S1 := []) (Nat.le_of_ble_eq_true rfl) (by omega) (t_X13_isFolk s2 e4) (Nat.le_of_ble_eq_true rfl) rfl (show ash 138 = (13, 38) from rfl) (Nat.lt_of_lt_of_le (show 138 < 154 by decide) hS.1.1) (Nat.le_of_ble_eq_true rfl) (Nat.le_of_ble_eq_true rfl) rfl ?_
    refine wp_if_eq (fun c5 => ?_) (fun c5 => ?_)
    · rw [if_pos c5] at h
      refine y_blk (t := 29) rfl (show fnd bk_X13_folk 29 = some _ from rfl) aB_X13_folk ?_
      refine wp_aload_n (v := ((138 : Nat) : Int)) rfl (Int.natCast_nonneg _) ?_
      refine wp_iconst ⟨by decide, by decide⟩ ?_
      obtain ⟨x6, e7, h⟩ := d_bind h
      obtain ⟨r8, s9⟩ := t_X13_refused s2 e7
      refine y_callV (as := [(0, 1)]) (S1 := []) (Nat.le_of_ble_eq_true rfl) (by omega) r8 (Nat.le_of_ble_eq_true rfl) rfl (show ash 138 = (13, 38) from rfl) (Nat.lt_of_lt_of_le (show 138 < 154 by decide) hS.1.1) (Nat.le_of_ble_eq_true rfl) (Nat.le_of_ble_eq_true rfl) rfl ?_
      refine y_blk (t := 34) rfl (show fnd bk_X13_folk 34 = some _ from rfl) aB_X13_folk ?_
      cases h
      exact y_ret0 (Or.inl rfl) ⟨rfl, rfl, s9⟩
    · rw [if_neg c5] at h
      refine wp_aload_n (v := ((138 : Nat) : Int)) rfl (Int.natCast_nonneg _) ?_
      refine wp_aload_n (v := ((138 : Nat) : Int)) rfl (Int.natCast_nonneg _) ?_
      refine y_get (show ash 138 = (13, 38) from rfl) (Nat.lt_of_lt_of_le (show 138 < 154 by decide) hS.1.1) (v := ((140 : Nat) : Int)) (s2.at 138 16 140 (by decide +kernel)) rfl ?_
      refine wp_bipush (by decide) ?_
      refine wp_iload_n (v := v1) rfl ?_
      obtain ⟨c10, h⟩ := d_ite h
      refine wp_iadd c10 ?_
      obtain ⟨c11, h⟩ := d_ite h
      refine y_iald (show ash 140 = (100, 12) from rfl) (Or.inl (Nat.lt_of_lt_of_le (show 140 < 154 by decide) hS.1.1)) (Nat.ne_of_lt (Nat.lt_of_lt_of_le (Nat.lt_of_lt_of_le (show 140 < 154 by decide) hS.1.1) hS.1.2)) c11 (v := m1 140 ((6 + v1)).toNat) rfl ?_
      obtain ⟨x12, e13, h⟩ := d_bind h
      obtain ⟨r14, s15⟩ := t_X13_good s2 e13
      refine y_callV (as := [(0, (m1 140 ((6 + v1)).toNat))]) (S1 := []) (Nat.le_of_ble_eq_true rfl) (by omega) r14 (Nat.le_of_ble_eq_true rfl) rfl (show ash 138 = (13, 38) from rfl) (Nat.lt_of_lt_of_le (show 138 < 154 by decide) hS.1.1) (Nat.le_of_ble_eq_true rfl) (Nat.le_of_ble_eq_true rfl) rfl ?_
      refine wp_goto ?_
      refine y_blk (t := 34) rfl (show fnd bk_X13_folk 34 = some _ from rfl) aB_X13_folk ?_
      cases h
      exact y_ret0 (Or.inl rfl) ⟨rfl, rfl, s15⟩
  exact ⟨fun d hd => Ms.of3 (key d hd), Ms.sh (key 1 (Nat.le_refl _))⟩
theorem aB_X13_told : ∀ pc, aB 259 pc = fnd bk_X13_told pc := fun _ => rfl
def f_X13_told (T : Nat) (v1 : Int) (M : aM) : Option Int :=
 if v1 < 9999 then
 some v1 else
 some (-2)
theorem t_X13_told {T : T3} {v1 : Int} {M : aM} {y : Int}  (hS : Sh T.1 M) (h : f_X13_told T.1 v1 M = some y) : Mr 0 259 [(2, ((138 : Nat) : Int)), (0, v1)] M (some (0, y)) M T := by
  have key : ∀ d, 0 ≤ d → Wp d 259 0 [] [(2, ((138 : Nat) : Int)), (0, v1)] [] (M, T) (fun r2 σ2 => r2 = some (0, y) ∧ σ2 = (M, T)) := by
    intro d hd
    rw [f_X13_told] at h
    refine y_blk (t := 0) rfl (show fnd bk_X13_told 0 = some _ from rfl) aB_X13_told ?_
    refine wp_iload_n (v := v1) rfl ?_
    refine wp_sipush (by decide) ?_
    refine wp_icmp_lt (fun c1 => ?_) (fun c1 => ?_)
    · rw [if_pos c1] at h
      refine y_blk (t := 12) rfl (show fnd bk_X13_told 12 = some _ from rfl) aB_X13_told ?_
      refine wp_iload_n (v := v1) rfl ?_
      refine y_blk (t := 13) rfl (show fnd bk_X13_told 13 = some _ from rfl) aB_X13_told ?_
      cases h
      exact y_ret0 (Or.inl rfl) ⟨rfl, rfl⟩
    · rw [if_neg c1] at h
      refine wp_bipush (by decide) ?_
      refine wp_goto ?_
      refine y_blk (t := 13) rfl (show fnd bk_X13_told 13 = some _ from rfl) aB_X13_told ?_
      cases h
      exact y_ret0 (Or.inl rfl) ⟨rfl, rfl⟩
  exact fun d hd => Ms.of (key d hd)
theorem aB_X13_far : ∀ pc, aB 260 pc = fnd bk_X13_far pc := fun _ => rfl
def f_X13_far (T : Nat) (v1 : Int) (v2 : Int) (M : aM) : Option (Int × aM) :=
 (some (aup M 138 0 0)).bind fun m1 =>
 (f_X13_isCave T v1 m1).bind fun x3 =>
 if x3 = 0 then
 (f_X13_refused T 1 m1).bind fun x6 =>
 some (x6.1, x6.2) else
 (f_X13_isCave T v2 m1).bind fun x10 =>
 if x10 = 0 then
 (f_X13_refused T 1 m1).bind fun x25 =>
 some (x25.1, x25.2) else
 (f_X13_works T m1).bind fun x13 =>
 (f_X13_apart T v1 v2 x13.2).bind fun x17 =>
 (f_X13_told T x17 x13.2).bind fun x19 =>
 (f_X13_good T x19 x13.2).bind fun x21 =>
 some (x21.1, x21.2)
theorem t_X13_far {T : T3} {v1 : Int} {v2 : Int} {M : aM} {y : (Int × aM)}  (hS : Sh T.1 M) (h : f_X13_far T.1 v1 v2 M = some y) : Mr 3 260 [(2, ((138 : Nat) : Int)), (0, v1), (0, v2)] M (some (0, y.1)) y.2 T ∧ Sh T.1 y.2 := by
  have key : ∀ d, 3 ≤ d → Wp d 260 0 [] [(2, ((138 : Nat) : Int)), (0, v1), (0, v2)] [] (M, T) (fun r2 σ2 => r2 = some (0, y.1) ∧ σ2 = (y.2, T) ∧ Sh T.1 y.2) := by
    intro d hd
    rw [f_X13_far] at h
    refine y_blk (t := 0) rfl (show fnd bk_X13_far 0 = some _ from rfl) aB_X13_far ?_
    refine wp_aload_n (v := ((138 : Nat) : Int)) rfl (Int.natCast_nonneg _) ?_
    refine wp_iconst ⟨by decide, by decide⟩ ?_
    refine y_put (show ash 138 = (13, 38) from rfl) (Nat.lt_of_lt_of_le (show 138 < 154 by decide) hS.1.1) rfl ?_
    obtain ⟨m1, em1, h⟩ := d_bind h
    have em1 := Option.some.inj em1
    have s2 : Sh T.1 m1 := em1 ▸ hS.up (Or.inr ⟨by rw [(show ash 138 = (13, 38) from rfl)]; decide, by rw [(show ash 138 = (13, 38) from rfl)]; decide⟩) (by have := (Nat.lt_of_lt_of_le (show 138 < 154 by decide) hS.1.1); have := hS.1.2; omega)
    rw [em1]
    refine wp_aload_n (v := ((138 : Nat) : Int)) rfl (Int.natCast_nonneg _) ?_
    refine wp_iload_n (v := v1) rfl ?_
    obtain ⟨x3, e4, h⟩ := d_bind h
    refine y_callV (as := [(0, v1)]) (S1 := []) (Nat.le_of_ble_eq_true rfl) (by omega) (t_X13_isCave s2 e4) (Nat.le_of_ble_eq_true rfl) rfl (show ash 138 = (13, 38) from rfl) (Nat.lt_of_lt_of_le (show 138 < 154 by decide) hS.1.1) (Nat.le_of_ble_eq_true rfl) (Nat.le_of_ble_eq_true rfl) rfl ?_
    refine wp_if_eq (fun c5 => ?_) (fun c5 => ?_)
    · rw [if_pos c5] at h
      refine y_blk (t := 21) rfl (show fnd bk_X13_far 21 = some _ from rfl) aB_X13_far ?_
      refine wp_aload_n (v := ((138 : Nat) : Int)) rfl (Int.natCast_nonneg _) ?_
      refine wp_iconst ⟨by decide, by decide⟩ ?_
      obtain ⟨x6, e7, h⟩ := d_bind h
      obtain ⟨r8, s9⟩ := t_X13_refused s2 e7
      refine y_callV (as := [(0, 1)]) (S1 := []) (Nat.le_of_ble_eq_true rfl) (by omega) r8 (Nat.le_of_ble_eq_true rfl) rfl (show ash 138 = (13, 38) from rfl) (Nat.lt_of_lt_of_le (show 138 < 154 by decide) hS.1.1) (Nat.le_of_ble_eq_true rfl) (Nat.le_of_ble_eq_true rfl) rfl ?_
      cases h
      exact y_ret0 (Or.inl rfl) ⟨rfl, rfl, s9⟩
    · rw [if_neg c5] at h
      refine wp_aload_n (v := ((138 : Nat) : Int)) rfl (Int.natCast_nonneg _) ?_
      refine wp_iload_n (v := v2) rfl ?_
      obtain ⟨x10, e11, h⟩ := d_bind h
      refine y_callV (as := [(0, v2)]) (S1 := []) (Nat.le_of_ble_eq_true rfl) (by omega) (t_X13_isCave s2 e11) (Nat.le_of_ble_eq_true rfl) rfl (show ash 138 = (13, 38) from rfl) (Nat.lt_of_lt_of_le (show 138 < 154 by decide) hS.1.1) (Nat.le_of_ble_eq_true rfl) (Nat.le_of_ble_eq_true rfl) rfl ?_
      refine y_nez (fun c12 => ?_) (fun c12 => ?_)
      · rw [if_neg c12] at h
        refine y_blk (t := 27) rfl (show fnd bk_X13_far 27 = some _ from rfl) aB_X13_far ?_
        refine wp_aload_n (v := ((138 : Nat) : Int)) rfl (Int.natCast_nonneg _) ?_
        obtain ⟨x13, e14, h⟩ := d_bind h
        obtain ⟨r15, s16⟩ := t_X13_works s2 e14
        refine y_callVv (as := []) (S1 := []) (Nat.le_of_ble_eq_true rfl) (by omega) r15 rfl (show ash 138 = (13, 38) from rfl) (Nat.lt_of_lt_of_le (show 138 < 154 by decide) hS.1.1) (Nat.le_of_ble_eq_true rfl) (Nat.le_of_ble_eq_true rfl) rfl ?_
        refine wp_aload_n (v := ((138 : Nat) : Int)) rfl (Int.natCast_nonneg _) ?_
        refine wp_aload_n (v := ((138 : Nat) : Int)) rfl (Int.natCast_nonneg _) ?_
        refine wp_aload_n (v := ((138 : Nat) : Int)) rfl (Int.natCast_nonneg _) ?_
        refine wp_iload_n (v := v1) rfl ?_
        refine wp_iload_n (v := v2) rfl ?_
        obtain ⟨x17, e18, h⟩ := d_bind h
        refine y_callV (as := [(0, v1), (0, v2)]) (S1 := [(2, ((138 : Nat) : Int)), (2, ((138 : Nat) : Int))]) (Nat.le_of_ble_eq_true rfl) (by omega) (t_X13_apart s16 e18) (Nat.le_of_ble_eq_true rfl) rfl (show ash 138 = (13, 38) from rfl) (Nat.lt_of_lt_of_le (show 138 < 154 by decide) hS.1.1) (Nat.le_of_ble_eq_true rfl) (Nat.le_of_ble_eq_true rfl) rfl ?_
        obtain ⟨x19, e20, h⟩ := d_bind h
        refine y_callV (as := [(0, x17)]) (S1 := [(2, ((138 : Nat) : Int))]) (Nat.le_of_ble_eq_true rfl) (by omega) (t_X13_told s16 e20) (Nat.le_of_ble_eq_true rfl) rfl (show ash 138 = (13, 38) from rfl) (Nat.lt_of_lt_of_le (show 138 < 154 by decide) hS.1.1) (Nat.le_of_ble_eq_true rfl) (Nat.le_of_ble_eq_true rfl) rfl ?_
        obtain ⟨x21, e22, h⟩ := d_bind h
        obtain ⟨r23, s24⟩ := t_X13_good s16 e22
        refine y_callV (as := [(0, x19)]) (S1 := []) (Nat.le_of_ble_eq_true rfl) (by omega) r23 (Nat.le_of_ble_eq_true rfl) rfl (show ash 138 = (13, 38) from rfl) (Nat.lt_of_lt_of_le (show 138 < 154 by decide) hS.1.1) (Nat.le_of_ble_eq_true rfl) (Nat.le_of_ble_eq_true rfl) rfl ?_
        cases h
        exact y_ret0 (Or.inl rfl) ⟨rfl, rfl, s24⟩
      · rw [if_pos c12] at h
        refine y_blk (t := 21) rfl (show fnd bk_X13_far 21 = some _ from rfl) aB_X13_far ?_
        refine wp_aload_n (v := ((138 : Nat) : Int)) rfl (Int.natCast_nonneg _) ?_
        refine wp_iconst ⟨by decide, by decide⟩ ?_
        obtain ⟨x25, e26, h⟩ := d_bind h
        obtain ⟨r27, s28⟩ := t_X13_refused s2 e26
        refine y_callV (as := [(0, 1)]) (S1 := []) (Nat.le_of_ble_eq_true rfl) (by omega) r27 (Nat.le_of_ble_eq_true rfl) rfl (show ash 138 = (13, 38) from rfl) (Nat.lt_of_lt_of_le (show 138 < 154 by decide) hS.1.1) (Nat.le_of_ble_eq_true rfl) (Nat.le_of_ble_eq_true rfl) rfl ?_
        cases h
        exact y_ret0 (Or.inl rfl) ⟨rfl, rfl, s28⟩
  exact ⟨fun d hd => Ms.of3 (key d hd), Ms.sh (key 3 (Nat.le_refl _))⟩

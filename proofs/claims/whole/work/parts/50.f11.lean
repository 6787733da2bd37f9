/-! ===== methods as functions ===== -/
theorem aB_X7_readEcho : ∀ pc, aB 77 pc = fnd bk_X7_readEcho pc := fun _ => rfl
def f_X7_readEcho (T : Nat)  (M : aM) : Option (Int × aM) :=
 (f_X7_caveHere T M).bind fun x1 =>
 if x1.1 = (-1) then
 some (0, x1.2) else
 (f_X10_hasEcho T 17 x1.1 x1.2).bind fun x6 =>
 if x6 = 0 then
 (f_X9_advance T x1.2).bind fun x9 =>
 if 0 ≤ (M 18 5) ∧ (M 18 5) < 4 then
 (some (aup x9.2 26 ((M 18 5)).toNat x1.1)).bind fun m14 =>
 (f_X7_readNumber T 2000009 0 400 m14).bind fun x16 =>
 (some (aup x16.2 27 ((M 18 5)).toNat x16.1)).bind fun m20 =>
 if (m20 27 ((M 18 5)).toNat) = (-1) then
 some (0, m20) else
 some (1, m20) else none else
 (f_X7_fails T 3 x1.2).bind fun x23 =>
 if x23.1 = 0 ∨ x23.1 = 1 then
 some (x23.1, x23.2) else none
theorem t_X7_readEcho {T : T3}  {M : aM} {y : (Int × aM)}  (hS : Sh T.1 M) (h : f_X7_readEcho T.1  M = some y) : Mr 7 77 [(2, ((16 : Nat) : Int))] M (some (0, y.1)) y.2 T ∧ Sh T.1 y.2 := by
  have key : ∀ d, 7 ≤ d → Wp d 77 0 [] [(2, ((16 : Nat) : Int)), (9, 0), (9, 0)] [] (M, T) (fun r2 σ2 => r2 = some (0, y.1) ∧ σ2 = (y.2, T) ∧ Sh T.1 y.2) := by
    intro d hd
    rw [f_X7_readEcho] at h
    refine y_blk (t := 0) rfl (show fnd bk_X7_readEcho 0 = some _ from rfl) aB_X7_readEcho ?_
    refine wp_aload_n (v := ((16 : Nat) : Int)) rfl (Int.natCast_nonneg _) ?_
    refine y_get (show ash 16 = (7, 8) from rfl) (Nat.lt_of_lt_of_le (show 16 < 154 by decide) hS.1.1) (v := ((17 : Nat) : Int)) (hS.at 16 0 17 (by decide +kernel)) rfl ?_
    refine y_get (show ash 17 = (10, 19) from rfl) (Nat.lt_of_lt_of_le (show 17 < 154 by decide) hS.1.1) (v := ((18 : Nat) : Int)) (hS.at 17 3 18 (by decide +kernel)) rfl ?_
    refine wp_iconst ⟨by decide, by decide⟩ ?_
    refine y_iald (show ash 18 = (100, 8) from rfl) (Or.inl (Nat.lt_of_lt_of_le (show 18 < 154 by decide) hS.1.1)) (Nat.ne_of_lt (Nat.lt_of_lt_of_le (Nat.lt_of_lt_of_le (show 18 < 154 by decide) hS.1.1) hS.1.2)) ⟨by decide, by decide⟩ (v := M 18 5) rfl ?_
    refine y_stn (L1 := [(2, ((16 : Nat) : Int)), (0, (M 18 5)), (9, 0)]) (Nat.le_of_ble_eq_true rfl) rfl ?_
    refine wp_aload_n (v := ((16 : Nat) : Int)) rfl (Int.natCast_nonneg _) ?_
    obtain ⟨x1, e2, h⟩ := d_bind h
    obtain ⟨r3, s4⟩ := t_X7_caveHere hS e2
    refine y_callV (as := []) (S1 := []) (Nat.le_of_ble_eq_true rfl) (by omega) r3 (Nat.le_of_ble_eq_true rfl) rfl (show ash 16 = (7, 8) from rfl) (Nat.lt_of_lt_of_le (show 16 < 154 by decide) hS.1.1) (Nat.le_of_ble_eq_true rfl) (Nat.le_of_ble_eq_true rfl) rfl ?_
    refine y_stn (L1 := [(2, ((16 : Nat) : Int)), (0, (M 18 5)), (0, x1.1)]) (Nat.le_of_ble_eq_true rfl) rfl ?_
    refine wp_iload_n (v := x1.1) rfl ?_
    refine wp_iconst ⟨by decide, by decide⟩ ?_
    refine y_ne (fun c5 => ?_) (fun c5 => ?_)
    · rw [if_neg c5] at h
      refine y_blk (t := 22) rfl (show fnd bk_X7_readEcho 22 = some _ from rfl) aB_X7_readEcho ?_
      refine wp_aload_n (v := ((16 : Nat) : Int)) rfl (Int.natCast_nonneg _) ?_
      refine y_get (show ash 16 = (7, 8) from rfl) (Nat.lt_of_lt_of_le (show 16 < 154 by decide) hS.1.1) (v := ((17 : Nat) : Int)) (s4.at 16 0 17 (by decide +kernel)) rfl ?_
      refine wp_iload_n (v := x1.1) rfl ?_
      obtain ⟨x6, e7, h⟩ := d_bind h
      refine y_callV (as := [(0, x1.1)]) (S1 := []) (Nat.le_of_ble_eq_true rfl) (by omega) (t_X10_hasEcho (show isTold 17 by decide) s4 e7) (Nat.le_of_ble_eq_true rfl) rfl (show ash 17 = (10, 19) from rfl) (Nat.lt_of_lt_of_le (show 17 < 154 by decide) hS.1.1) (Nat.le_of_ble_eq_true rfl) (Nat.le_of_ble_eq_true rfl) rfl ?_
      refine wp_if_eq (fun c8 => ?_) (fun c8 => ?_)
      · rw [if_pos c8] at h
        refine y_blk (t := 39) rfl (show fnd bk_X7_readEcho 39 = some _ from rfl) aB_X7_readEcho ?_
        refine wp_aload_n (v := ((16 : Nat) : Int)) rfl (Int.natCast_nonneg _) ?_
        refine y_get (show ash 16 = (7, 8) from rfl) (Nat.lt_of_lt_of_le (show 16 < 154 by decide) hS.1.1) (v := ((34 : Nat) : Int)) (s4.at 16 3 34 (by decide +kernel)) rfl ?_
        obtain ⟨x9, e10, h⟩ := d_bind h
        obtain ⟨r11, s12⟩ := t_X9_advance s4 e10
        refine y_callVv (as := []) (S1 := []) (Nat.le_of_ble_eq_true rfl) (by omega) r11 rfl (show ash 34 = (9, 5) from rfl) (Nat.lt_of_lt_of_le (show 34 < 154 by decide) hS.1.1) (Nat.le_of_ble_eq_true rfl) (Nat.le_of_ble_eq_true rfl) rfl ?_
        refine wp_aload_n (v := ((16 : Nat) : Int)) rfl (Int.natCast_nonneg _) ?_
        refine y_get (show ash 16 = (7, 8) from rfl) (Nat.lt_of_lt_of_le (show 16 < 154 by decide) hS.1.1) (v := ((17 : Nat) : Int)) (s12.at 16 0 17 (by decide +kernel)) rfl ?_
        refine y_get (show ash 17 = (10, 19) from rfl) (Nat.lt_of_lt_of_le (show 17 < 154 by decide) hS.1.1) (v := ((26 : Nat) : Int)) (s12.at 17 13 26 (by decide +kernel)) rfl ?_
        refine wp_iload_n (v := (M 18 5)) rfl ?_
        refine wp_iload_n (v := x1.1) rfl ?_
        obtain ⟨c13, h⟩ := d_ite h
        refine y_iast (show ash 26 = (100, 4) from rfl) (Nat.lt_of_lt_of_le (show 26 < 154 by decide) hS.1.1) c13 ?_
        obtain ⟨m14, em14, h⟩ := d_bind h
        have em14 := Option.some.inj em14
        have s15 : Sh T.1 m14 := em14 ▸ s12.up (Or.inl ⟨by rw [(show ash 26 = (100, 4) from rfl)]; exact Nat.le_of_ble_eq_true rfl, by rw [(show ash 26 = (100, 4) from rfl)]; exact Nat.le_of_ble_eq_true rfl⟩) (by have := (Nat.lt_of_lt_of_le (show 26 < 154 by decide) hS.1.1); have := hS.1.2; omega)
        rw [em14]
        refine wp_aload_n (v := ((16 : Nat) : Int)) rfl (Int.natCast_nonneg _) ?_
        refine y_get (show ash 16 = (7, 8) from rfl) (Nat.lt_of_lt_of_le (show 16 < 154 by decide) hS.1.1) (v := ((17 : Nat) : Int)) (s15.at 16 0 17 (by decide +kernel)) rfl ?_
        refine y_get (show ash 17 = (10, 19) from rfl) (Nat.lt_of_lt_of_le (show 17 < 154 by decide) hS.1.1) (v := ((27 : Nat) : Int)) (s15.at 17 14 27 (by decide +kernel)) rfl ?_
        refine wp_iload_n (v := (M 18 5)) rfl ?_
        refine wp_aload_n (v := ((16 : Nat) : Int)) rfl (Int.natCast_nonneg _) ?_
        refine y_ldcS (v := 2000009) rfl ?_
        refine wp_iconst ⟨by decide, by decide⟩ ?_
        refine wp_sipush (by decide) ?_
        obtain ⟨x16, e17, h⟩ := d_bind h
        obtain ⟨r18, s19⟩ := t_X7_readNumber s15 e17
        refine y_callV (as := [(2, 2000009), (0, 0), (0, 400)]) (S1 := [(0, (M 18 5)), (2, ((27 : Nat) : Int))]) (Nat.le_of_ble_eq_true rfl) (by omega) r18 (Nat.le_of_ble_eq_true rfl) rfl (show ash 16 = (7, 8) from rfl) (Nat.lt_of_lt_of_le (show 16 < 154 by decide) hS.1.1) (Nat.le_of_ble_eq_true rfl) (Nat.le_of_ble_eq_true rfl) rfl ?_
        refine y_iast (show ash 27 = (100, 4) from rfl) (Nat.lt_of_lt_of_le (show 27 < 154 by decide) hS.1.1) c13 ?_
        obtain ⟨m20, em20, h⟩ := d_bind h
        have em20 := Option.some.inj em20
        have s21 : Sh T.1 m20 := em20 ▸ s19.up (Or.inl ⟨by rw [(show ash 27 = (100, 4) from rfl)]; exact Nat.le_of_ble_eq_true rfl, by rw [(show ash 27 = (100, 4) from rfl)]; exact Nat.le_of_ble_eq_true rfl⟩) (by have := (Nat.lt_of_lt_of_le (show 27 < 154 by decide) hS.1.1); have := hS.1.2; omega)
        rw [em20]
        refine wp_aload_n (v := ((16 : Nat) : Int)) rfl (Int.natCast_nonneg _) ?_
        refine y_get (show ash 16 = (7, 8) from rfl) (Nat.lt_of_lt_of_le (show 16 < 154 by decide) hS.1.1) (v := ((17 : Nat) : Int)) (s21.at 16 0 17 (by decide +kernel)) rfl ?_
        refine y_get (show ash 17 = (10, 19) from rfl) (Nat.lt_of_lt_of_le (show 17 < 154 by decide) hS.1.1) (v := ((27 : Nat) : Int)) (s21.at 17 14 27 (by decide +kernel)) rfl ?_
        refine wp_iload_n (v := (M 18 5)) rfl ?_
        refine y_iald (show ash 27 = (100, 4) from rfl) (Or.inl (Nat.lt_of_lt_of_le (show 27 < 154 by decide) hS.1.1)) (Nat.ne_of_lt (Nat.lt_of_lt_of_le (Nat.lt_of_lt_of_le (show 27 < 154 by decide) hS.1.1) hS.1.2)) c13 (v := m20 27 ((M 18 5)).toNat) rfl ?_
        refine wp_iconst ⟨by decide, by decide⟩ ?_
        refine wp_icmp_eq (fun c22 => ?_) (fun c22 => ?_)
        · rw [if_pos c22] at h
          refine y_blk (t := 92) rfl (show fnd bk_X7_readEcho 92 = some _ from rfl) aB_X7_readEcho ?_
          refine wp_iconst ⟨by decide, by decide⟩ ?_
          refine y_blk (t := 93) rfl (show fnd bk_X7_readEcho 93 = some _ from rfl) aB_X7_readEcho ?_
          cases h
          exact y_ret0 (Or.inr (Or.inl rfl)) ⟨rfl, rfl, s21⟩
        · rw [if_neg c22] at h
          refine wp_iconst ⟨by decide, by decide⟩ ?_
          refine wp_goto ?_
          refine y_blk (t := 93) rfl (show fnd bk_X7_readEcho 93 = some _ from rfl) aB_X7_readEcho ?_
          cases h
          exact y_ret0 (Or.inr (Or.inr rfl)) ⟨rfl, rfl, s21⟩
      · rw [if_neg c8] at h
        refine wp_aload_n (v := ((16 : Nat) : Int)) rfl (Int.natCast_nonneg _) ?_
        refine wp_iconst ⟨by decide, by decide⟩ ?_
        obtain ⟨x23, e24, h⟩ := d_bind h
        obtain ⟨r25, s26⟩ := t_X7_fails s4 e24
        refine y_callV (as := [(0, 3)]) (S1 := []) (Nat.le_of_ble_eq_true rfl) (by omega) r25 (Nat.le_of_ble_eq_true rfl) rfl (show ash 16 = (7, 8) from rfl) (Nat.lt_of_lt_of_le (show 16 < 154 by decide) hS.1.1) (Nat.le_of_ble_eq_true rfl) (Nat.le_of_ble_eq_true rfl) rfl ?_
        obtain ⟨c27, h⟩ := d_ite h
        cases h
        exact y_ret0 (Or.inr c27) ⟨rfl, rfl, s26⟩
    · rw [if_pos c5] at h
      refine wp_iconst ⟨by decide, by decide⟩ ?_
      cases h
      exact y_ret0 (Or.inr (Or.inl rfl)) ⟨rfl, rfl, s4⟩
  exact ⟨fun d hd => Ms.of3 (key d hd), Ms.sh (key 7 (Nat.le_refl _))⟩
theorem aB_X10_isUnsure : ∀ pc, aB 111 pc = fnd bk_X10_isUnsure pc := fun _ => rfl
def l_X10_isUnsure_2 (T : Nat) (e0 : Nat) (v1 : Int) (M : aM) (k : Int → Option Int) : Nat → Int → Option Int
| 0, _ => none
| n + 1, v2 =>
 if (M (e0 + 1) 6) ≤ v2 then
 k v2 else
 if 0 ≤ v2 ∧ v2 < 4 then
 if (M (e0 + 11) (v2).toNat) = v1 then
 some 1 else
 if aIn (v2 + 1) then
 l_X10_isUnsure_2 T e0 v1 M k n (v2 + 1) else none else none
theorem tl_X10_isUnsure_2 {d : Nat} (hd : 0 ≤ d) {T : T3} {e0 : Nat} {v1 : Int} {M : aM} {k : Int → Option Int} {y : Int} (he0 : isTold e0) (hS : Sh T.1 M)
    (hk : ∀ (v2 : Int), Sh T.1 M → k v2 = some y → Wp d 111 31 [] [(2, ((e0 : Nat) : Int)), (0, v1), (0, v2)] [] (M, T) (fun r2 σ2 => r2 = some (0, y) ∧ σ2 = (M, T))) :
    ∀ (n : Nat) (v2 : Int), Sh T.1 M → l_X10_isUnsure_2 T.1 e0 v1 M k n v2 = some y → Wp d 111 2 [] [(2, ((e0 : Nat) : Int)), (0, v1), (0, v2)] [] (M, T) (fun r2 σ2 => r2 = some (0, y) ∧ σ2 = (M, T)) := by
  intro n
  induction n with
  | zero =>
    intro v2 _ h
    exact nomatch (show (none : Option Int) = some y from h)
  | succ n ih =>
    intro v2 sM h
    rw [l_X10_isUnsure_2] at h
    refine y_blk (t := 2) rfl (show fnd bk_X10_isUnsure 2 = some _ from rfl) aB_X10_isUnsure ?_
    refine wp_iload_n (v := v2) rfl ?_
    refine wp_aload_n (v := ((e0 : Nat) : Int)) rfl (Int.natCast_nonneg _) ?_
    refine y_get (aTold0 he0) (ltTold hS.1.1 he0 0 (by decide)) (v := (((e0 + 1) : Nat) : Int)) (rTold3 sM he0) rfl ?_
    refine wp_bipush (by decide) ?_
    refine y_iald (aTold1 he0) (Or.inl (ltTold hS.1.1 he0 1 (by decide))) (Nat.ne_of_lt (Nat.lt_of_lt_of_le (ltTold hS.1.1 he0 1 (by decide)) hS.1.2)) ⟨by decide, by decide⟩ (v := M (e0 + 1) 6) rfl ?_
    refine wp_icmp_ge (fun c1 => ?_) (fun c1 => ?_)
    · rw [if_pos c1] at h
      exact hk v2   sM h
    · rw [if_neg c1] at h
      refine wp_aload_n (v := ((e0 : Nat) : Int)) rfl (Int.natCast_nonneg _) ?_
      refine y_get (aTold0 he0) (ltTold hS.1.1 he0 0 (by decide)) (v := (((e0 + 11) : Nat) : Int)) (rTold15 sM he0) rfl ?_
      refine wp_iload_n (v := v2) rfl ?_
      obtain ⟨c2, h⟩ := d_ite h
      refine y_iald (aTold11 he0) (Or.inl (ltTold hS.1.1 he0 11 (by decide))) (Nat.ne_of_lt (Nat.lt_of_lt_of_le (ltTold hS.1.1 he0 11 (by decide)) hS.1.2)) c2 (v := M (e0 + 11) (v2).toNat) rfl ?_
      refine wp_iload_n (v := v1) rfl ?_
      refine y_ne (fun c3 => ?_) (fun c3 => ?_)
      · rw [if_neg c3] at h
        refine y_blk (t := 25) rfl (show fnd bk_X10_isUnsure 25 = some _ from rfl) aB_X10_isUnsure ?_
        obtain ⟨c4, h⟩ := d_ite h
        refine y_iinc (L1 := [(2, ((e0 : Nat) : Int)), (0, v1), (0, (v2 + 1))]) rfl (Nat.le_of_ble_eq_true rfl) ⟨by decide, by decide⟩ c4 rfl ?_
        refine wp_goto ?_
        exact ih (v2 + 1)   sM h
      · rw [if_pos c3] at h
        refine wp_iconst ⟨by decide, by decide⟩ ?_
        cases h
        exact y_ret0 (Or.inr (Or.inr rfl)) ⟨rfl, rfl⟩
def f_X10_isUnsure (T : Nat) (e0 : Nat) (v1 : Int) (M : aM) : Option Int :=
 l_X10_isUnsure_2 T e0 v1 M (fun w5 =>
 some 0) FU 0
theorem t_X10_isUnsure {T : T3} {e0 : Nat} {v1 : Int} {M : aM} {y : Int} (he0 : isTold e0) (hS : Sh T.1 M) (h : f_X10_isUnsure T.1 e0 v1 M = some y) : Mr 0 111 [(2, ((e0 : Nat) : Int)), (0, v1)] M (some (0, y)) M T := by
  have key : ∀ d, 0 ≤ d → Wp d 111 0 [] [(2, ((e0 : Nat) : Int)), (0, v1), (9, 0)] [] (M, T) (fun r2 σ2 => r2 = some (0, y) ∧ σ2 = (M, T)) := by
    intro d hd
    rw [f_X10_isUnsure] at h
    refine y_blk (t := 0) rfl (show fnd bk_X10_isUnsure 0 = some _ from rfl) aB_X10_isUnsure ?_
    refine wp_iconst ⟨by decide, by decide⟩ ?_
    refine y_stn (L1 := [(2, ((e0 : Nat) : Int)), (0, v1), (0, 0)]) (Nat.le_of_ble_eq_true rfl) rfl ?_
    refine tl_X10_isUnsure_2 (by omega) he0 hS (fun w5   s6 h => ?_) FU 0   hS h
    refine y_blk (t := 31) rfl (show fnd bk_X10_isUnsure 31 = some _ from rfl) aB_X10_isUnsure ?_
    refine wp_iconst ⟨by decide, by decide⟩ ?_
    cases h
    exact y_ret0 (Or.inr (Or.inl rfl)) ⟨rfl, rfl⟩
  exact fun d hd => Ms.of (key d hd)
theorem aB_X7_readUnsure : ∀ pc, aB 78 pc = fnd bk_X7_readUnsure pc := fun _ => rfl
def b_X7_readUnsure_63 (T : Nat) (v3 : Int) (M : aM) : Option (Int × aM) :=
 if v3 = (-1) then
 (f_X7_fails T 7 M).bind fun x28 =>
 if x28.1 = 0 ∨ x28.1 = 1 then
 some (x28.1, x28.2) else none else
 if 0 ≤ (M 18 6) ∧ (M 18 6) < 4 then
 (some (aup M 28 ((M 18 6)).toNat v3)).bind fun m22 =>
 (f_X9_advance T m22).bind fun x24 =>
 some (1, x24.2) else none
theorem tb_X7_readUnsure_63 {d : Nat} (hd : 4 ≤ d) {T : T3} {v3 : Int} {u1 u2 : aV} {M : aM} {y : (Int × aM)}  (hS : Sh T.1 M) (h : b_X7_readUnsure_63 T.1 v3 M = some y) : Wp d 78 63 [] [(2, ((16 : Nat) : Int)), u1, u2, (0, v3)] [] (M, T) (fun r2 σ2 => r2 = some (0, y.1) ∧ σ2 = (y.2, T) ∧ Sh T.1 y.2) := by
  rw [b_X7_readUnsure_63] at h
  refine y_blk (t := 63) rfl (show fnd bk_X7_readUnsure 63 = some _ from rfl) aB_X7_readUnsure ?_
  refine wp_iload_n (v := v3) rfl ?_
  refine wp_iconst ⟨by decide, by decide⟩ ?_
  refine y_ne (fun c20 => ?_) (fun c20 => ?_)
  · rw [if_neg c20] at h
    refine y_blk (t := 75) rfl (show fnd bk_X7_readUnsure 75 = some _ from rfl) aB_X7_readUnsure ?_
    refine wp_aload_n (v := ((16 : Nat) : Int)) rfl (Int.natCast_nonneg _) ?_
    refine y_get (show ash 16 = (7, 8) from rfl) (Nat.lt_of_lt_of_le (show 16 < 154 by decide) hS.1.1) (v := ((17 : Nat) : Int)) (hS.at 16 0 17 (by decide +kernel)) rfl ?_
    refine y_get (show ash 17 = (10, 19) from rfl) (Nat.lt_of_lt_of_le (show 17 < 154 by decide) hS.1.1) (v := ((28 : Nat) : Int)) (hS.at 17 15 28 (by decide +kernel)) rfl ?_
    refine wp_aload_n (v := ((16 : Nat) : Int)) rfl (Int.natCast_nonneg _) ?_
    refine y_get (show ash 16 = (7, 8) from rfl) (Nat.lt_of_lt_of_le (show 16 < 154 by decide) hS.1.1) (v := ((17 : Nat) : Int)) (hS.at 16 0 17 (by decide +kernel)) rfl ?_
    refine y_get (show ash 17 = (10, 19) from rfl) (Nat.lt_of_lt_of_le (show 17 < 154 by decide) hS.1.1) (v := ((18 : Nat) : Int)) (hS.at 17 3 18 (by decide +kernel)) rfl ?_
    refine wp_bipush (by decide) ?_
    refine y_iald (show ash 18 = (100, 8) from rfl) (Or.inl (Nat.lt_of_lt_of_le (show 18 < 154 by decide) hS.1.1)) (Nat.ne_of_lt (Nat.lt_of_lt_of_le (Nat.lt_of_lt_of_le (show 18 < 154 by decide) hS.1.1) hS.1.2)) ⟨by decide, by decide⟩ (v := M 18 6) rfl ?_
    refine wp_iload_n (v := v3) rfl ?_
    obtain ⟨c21, h⟩ := d_ite h
    refine y_iast (show ash 28 = (100, 4) from rfl) (Nat.lt_of_lt_of_le (show 28 < 154 by decide) hS.1.1) c21 ?_
    obtain ⟨m22, em22, h⟩ := d_bind h
    have em22 := Option.some.inj em22
    have s23 : Sh T.1 m22 := em22 ▸ hS.up (Or.inl ⟨by rw [(show ash 28 = (100, 4) from rfl)]; exact Nat.le_of_ble_eq_true rfl, by rw [(show ash 28 = (100, 4) from rfl)]; exact Nat.le_of_ble_eq_true rfl⟩) (by have := (Nat.lt_of_lt_of_le (show 28 < 154 by decide) hS.1.1); have := hS.1.2; omega)
    rw [em22]
    refine wp_aload_n (v := ((16 : Nat) : Int)) rfl (Int.natCast_nonneg _) ?_
    refine y_get (show ash 16 = (7, 8) from rfl) (Nat.lt_of_lt_of_le (show 16 < 154 by decide) hS.1.1) (v := ((34 : Nat) : Int)) (s23.at 16 3 34 (by decide +kernel)) rfl ?_
    obtain ⟨x24, e25, h⟩ := d_bind h
    obtain ⟨r26, s27⟩ := t_X9_advance s23 e25
    refine y_callVv (as := []) (S1 := []) (Nat.le_of_ble_eq_true rfl) (by omega) r26 rfl (show ash 34 = (9, 5) from rfl) (Nat.lt_of_lt_of_le (show 34 < 154 by decide) hS.1.1) (Nat.le_of_ble_eq_true rfl) (Nat.le_of_ble_eq_true rfl) rfl ?_
    refine wp_iconst ⟨by decide, by decide⟩ ?_
    cases h
    exact y_ret0 (Or.inr (Or.inr rfl)) ⟨rfl, rfl, s27⟩
  · rw [if_pos c20] at h
    refine wp_aload_n (v := ((16 : Nat) : Int)) rfl (Int.natCast_nonneg _) ?_
    refine wp_bipush (by decide) ?_
    obtain ⟨x28, e29, h⟩ := d_bind h
    obtain ⟨r30, s31⟩ := t_X7_fails hS e29
    refine y_callV (as := [(0, 7)]) (S1 := []) (Nat.le_of_ble_eq_true rfl) (by omega) r30 (Nat.le_of_ble_eq_true rfl) rfl (show ash 16 = (7, 8) from rfl) (Nat.lt_of_lt_of_le (show 16 < 154 by decide) hS.1.1) (Nat.le_of_ble_eq_true rfl) (Nat.le_of_ble_eq_true rfl) rfl ?_
    obtain ⟨c32, h⟩ := d_ite h
    cases h
    exact y_ret0 (Or.inr c32) ⟨rfl, rfl, s31⟩
def b_X7_readUnsure_18 (T : Nat) (v1 : Int) (z0 : Int) (M : aM) : Option (Int × aM) :=
 if z0 = (-1) then
 some (0, M) else
 (f_X10_wayBetween T 17 v1 z0 M).bind fun x11 =>
 if z0 = v1 then
 (f_X7_fails T 3 M).bind fun x14 =>
 if x14.1 = 0 ∨ x14.1 = 1 then
 some (x14.1, x14.2) else none else
 if x11 = (-1) then
 b_X7_readUnsure_63 T x11 M else
 (f_X10_isUnsure T 17 x11 M).bind fun x33 =>
 if x33 = 0 then
 b_X7_readUnsure_63 T x11 M else
 (f_X7_fails T 3 M).bind fun x36 =>
 if x36.1 = 0 ∨ x36.1 = 1 then
 some (x36.1, x36.2) else none
theorem tb_X7_readUnsure_18 {d : Nat} (hd : 4 ≤ d) {T : T3} {v1 : Int} {z0 : Int} {u2 u3 : aV} {M : aM} {y : (Int × aM)}  (hS : Sh T.1 M) (h : b_X7_readUnsure_18 T.1 v1 z0 M = some y) : Wp d 78 18 [] [(2, ((16 : Nat) : Int)), (0, v1), u2, u3] [(0, z0)] (M, T) (fun r2 σ2 => r2 = some (0, y.1) ∧ σ2 = (y.2, T) ∧ Sh T.1 y.2) := by
  rw [b_X7_readUnsure_18] at h
  refine y_blk (t := 18) rfl (show fnd bk_X7_readUnsure 18 = some _ from rfl) aB_X7_readUnsure ?_
  refine y_stn (L1 := [(2, ((16 : Nat) : Int)), (0, v1), (0, z0), u3]) (Nat.le_of_ble_eq_true rfl) rfl ?_
  refine wp_iload_n (v := z0) rfl ?_
  refine wp_iconst ⟨by decide, by decide⟩ ?_
  refine y_ne (fun c10 => ?_) (fun c10 => ?_)
  · rw [if_neg c10] at h
    refine y_blk (t := 26) rfl (show fnd bk_X7_readUnsure 26 = some _ from rfl) aB_X7_readUnsure ?_
    refine wp_aload_n (v := ((16 : Nat) : Int)) rfl (Int.natCast_nonneg _) ?_
    refine y_get (show ash 16 = (7, 8) from rfl) (Nat.lt_of_lt_of_le (show 16 < 154 by decide) hS.1.1) (v := ((17 : Nat) : Int)) (hS.at 16 0 17 (by decide +kernel)) rfl ?_
    refine wp_iload_n (v := v1) rfl ?_
    refine wp_iload_n (v := z0) rfl ?_
    obtain ⟨x11, e12, h⟩ := d_bind h
    refine y_callV (as := [(0, v1), (0, z0)]) (S1 := []) (Nat.le_of_ble_eq_true rfl) (by omega) (t_X10_wayBetween (show isTold 17 by decide) hS e12) (Nat.le_of_ble_eq_true rfl) rfl (show ash 17 = (10, 19) from rfl) (Nat.lt_of_lt_of_le (show 17 < 154 by decide) hS.1.1) (Nat.le_of_ble_eq_true rfl) (Nat.le_of_ble_eq_true rfl) rfl ?_
    refine y_stn (L1 := [(2, ((16 : Nat) : Int)), (0, v1), (0, z0), (0, x11)]) (Nat.le_of_ble_eq_true rfl) rfl ?_
    refine wp_iload_n (v := z0) rfl ?_
    refine wp_iload_n (v := v1) rfl ?_
    refine wp_icmp_eq (fun c13 => ?_) (fun c13 => ?_)
    · rw [if_pos c13] at h
      refine y_blk (t := 57) rfl (show fnd bk_X7_readUnsure 57 = some _ from rfl) aB_X7_readUnsure ?_
      refine wp_aload_n (v := ((16 : Nat) : Int)) rfl (Int.natCast_nonneg _) ?_
      refine wp_iconst ⟨by decide, by decide⟩ ?_
      obtain ⟨x14, e15, h⟩ := d_bind h
      obtain ⟨r16, s17⟩ := t_X7_fails hS e15
      refine y_callV (as := [(0, 3)]) (S1 := []) (Nat.le_of_ble_eq_true rfl) (by omega) r16 (Nat.le_of_ble_eq_true rfl) rfl (show ash 16 = (7, 8) from rfl) (Nat.lt_of_lt_of_le (show 16 < 154 by decide) hS.1.1) (Nat.le_of_ble_eq_true rfl) (Nat.le_of_ble_eq_true rfl) rfl ?_
      obtain ⟨c18, h⟩ := d_ite h
      cases h
      exact y_ret0 (Or.inr c18) ⟨rfl, rfl, s17⟩
    · rw [if_neg c13] at h
      refine wp_iload_n (v := x11) rfl ?_
      refine wp_iconst ⟨by decide, by decide⟩ ?_
      refine wp_icmp_eq (fun c19 => ?_) (fun c19 => ?_)
      · rw [if_pos c19] at h
        exact tb_X7_readUnsure_63 hd hS h
      · rw [if_neg c19] at h
        refine wp_aload_n (v := ((16 : Nat) : Int)) rfl (Int.natCast_nonneg _) ?_
        refine y_get (show ash 16 = (7, 8) from rfl) (Nat.lt_of_lt_of_le (show 16 < 154 by decide) hS.1.1) (v := ((17 : Nat) : Int)) (hS.at 16 0 17 (by decide +kernel)) rfl ?_
        refine wp_iload_n (v := x11) rfl ?_
        obtain ⟨x33, e34, h⟩ := d_bind h
        refine y_callV (as := [(0, x11)]) (S1 := []) (Nat.le_of_ble_eq_true rfl) (by omega) (t_X10_isUnsure (show isTold 17 by decide) hS e34) (Nat.le_of_ble_eq_true rfl) rfl (show ash 17 = (10, 19) from rfl) (Nat.lt_of_lt_of_le (show 17 < 154 by decide) hS.1.1) (Nat.le_of_ble_eq_true rfl) (Nat.le_of_ble_eq_true rfl) rfl ?_
        refine wp_if_eq (fun c35 => ?_) (fun c35 => ?_)
        · rw [if_pos c35] at h
          exact tb_X7_readUnsure_63 hd hS h
        · rw [if_neg c35] at h
          refine y_blk (t := 57) rfl (show fnd bk_X7_readUnsure 57 = some _ from rfl) aB_X7_readUnsure ?_
          refine wp_aload_n (v := ((16 : Nat) : Int)) rfl (Int.natCast_nonneg _) ?_
          refine wp_iconst ⟨by decide, by decide⟩ ?_
          obtain ⟨x36, e37, h⟩ := d_bind h
          obtain ⟨r38, s39⟩ := t_X7_fails hS e37
          refine y_callV (as := [(0, 3)]) (S1 := []) (Nat.le_of_ble_eq_true rfl) (by omega) r38 (Nat.le_of_ble_eq_true rfl) rfl (show ash 16 = (7, 8) from rfl) (Nat.lt_of_lt_of_le (show 16 < 154 by decide) hS.1.1) (Nat.le_of_ble_eq_true rfl) (Nat.le_of_ble_eq_true rfl) rfl ?_
          obtain ⟨c40, h⟩ := d_ite h
          cases h
          exact y_ret0 (Or.inr c40) ⟨rfl, rfl, s39⟩
  · rw [if_pos c10] at h
    refine wp_iconst ⟨by decide, by decide⟩ ?_
    cases h
    exact y_ret0 (Or.inr (Or.inl rfl)) ⟨rfl, rfl, hS⟩
def f_X7_readUnsure (T : Nat)  (M : aM) : Option (Int × aM) :=
 (f_X7_readFirstCave T M).bind fun x1 =>
 if x1.1 = (-1) then
 b_X7_readUnsure_18 T x1.1 (-1) x1.2 else
 (f_X7_caveHere T x1.2).bind fun x6 =>
 b_X7_readUnsure_18 T x1.1 x6.1 x6.2
theorem t_X7_readUnsure {T : T3}  {M : aM} {y : (Int × aM)}  (hS : Sh T.1 M) (h : f_X7_readUnsure T.1  M = some y) : Mr 4 78 [(2, ((16 : Nat) : Int))] M (some (0, y.1)) y.2 T ∧ Sh T.1 y.2 := by
  have key : ∀ d, 4 ≤ d → Wp d 78 0 [] [(2, ((16 : Nat) : Int)), (9, 0), (9, 0), (9, 0)] [] (M, T) (fun r2 σ2 => r2 = some (0, y.1) ∧ σ2 = (y.2, T) ∧ Sh T.1 y.2) := by
    intro d hd
    rw [f_X7_readUnsure] at h
    refine y_blk (t := 0) rfl (show fnd bk_X7_readUnsure 0 = some _ from rfl) aB_X7_readUnsure ?_
    refine wp_aload_n (v := ((16 : Nat) : Int)) rfl (Int.natCast_nonneg _) ?_
    obtain ⟨x1, e2, h⟩ := d_bind h
    obtain ⟨r3, s4⟩ := t_X7_readFirstCave hS e2
    refine y_callV (as := []) (S1 := []) (Nat.le_of_ble_eq_true rfl) (by omega) r3 (Nat.le_of_ble_eq_true rfl) rfl (show ash 16 = (7, 8) from rfl) (Nat.lt_of_lt_of_le (show 16 < 154 by decide) hS.1.1) (Nat.le_of_ble_eq_true rfl) (Nat.le_of_ble_eq_true rfl) rfl ?_
    refine y_stn (L1 := [(2, ((16 : Nat) : Int)), (0, x1.1), (9, 0), (9, 0)]) (Nat.le_of_ble_eq_true rfl) rfl ?_
    refine wp_iload_n (v := x1.1) rfl ?_
    refine wp_iconst ⟨by decide, by decide⟩ ?_
    refine y_ne (fun c5 => ?_) (fun c5 => ?_)
    · rw [if_neg c5] at h
      refine y_blk (t := 14) rfl (show fnd bk_X7_readUnsure 14 = some _ from rfl) aB_X7_readUnsure ?_
      refine wp_aload_n (v := ((16 : Nat) : Int)) rfl (Int.natCast_nonneg _) ?_
      obtain ⟨x6, e7, h⟩ := d_bind h
      obtain ⟨r8, s9⟩ := t_X7_caveHere s4 e7
      refine y_callV (as := []) (S1 := []) (Nat.le_of_ble_eq_true rfl) (by omega) r8 (Nat.le_of_ble_eq_true rfl) rfl (show ash 16 = (7, 8) from rfl) (Nat.lt_of_lt_of_le (show 16 < 154 by decide) hS.1.1) (Nat.le_of_ble_eq_true rfl) (Nat.le_of_ble_eq_true rfl) rfl ?_
      exact tb_X7_readUnsure_18 hd s9 h
    · rw [if_pos c5] at h
      refine wp_iconst ⟨by decide, by decide⟩ ?_
      refine wp_goto ?_
      exact tb_X7_readUnsure_18 hd s4 h
  exact ⟨fun d hd => Ms.of3 (key d hd), Ms.sh (key 4 (Nat.le_refl _))⟩
theorem aB_X7_readTalk : ∀ pc, aB 79 pc = fnd bk_X7_readTalk pc := fun _ => rfl
def f_X7_readTalk (T : Nat)  (M : aM) : Option (Int × aM) :=
 (f_X7_readFirstCave T M).bind fun x1 =>
 if x1.1 = (-1) then
 some (0, x1.2) else
 (f_X7_caveHere T x1.2).bind fun x6 =>
 if x6.1 = (-1) then
 some (0, x6.2) else
 if x6.1 = x1.1 then
 (f_X7_fails T 3 x6.2).bind fun x36 =>
 if x36.1 = 0 ∨ x36.1 = 1 then
 some (x36.1, x36.2) else none else
 (f_X9_advance T x6.2).bind fun x12 =>
 if 0 ≤ (M 18 7) ∧ (M 18 7) < 5 then
 (some (aup x12.2 29 ((M 18 7)).toNat x1.1)).bind fun m17 =>
 (some (aup m17 30 ((M 18 7)).toNat x6.1)).bind fun m19 =>
 (f_X9_isWord T 2000010 m19).bind fun x21 =>
 if x21 = 0 then
 (f_X7_readWord T 2000011 m19).bind fun x24 =>
 if x24.1 = 0 ∨ x24.1 = 1 then
 some (x24.1, x24.2) else none else
 (some (aup m19 17 18 (aor (m19 17 18) (ashl 1 (M 18 7))))).bind fun m29 =>
 (f_X7_readWord T 2000010 m29).bind fun x31 =>
 if x31.1 = 0 ∨ x31.1 = 1 then
 some (x31.1, x31.2) else none else none
theorem t_X7_readTalk {T : T3}  {M : aM} {y : (Int × aM)}  (hS : Sh T.1 M) (h : f_X7_readTalk T.1  M = some y) : Mr 6 79 [(2, ((16 : Nat) : Int))] M (some (0, y.1)) y.2 T ∧ Sh T.1 y.2 := by
  have key : ∀ d, 6 ≤ d → Wp d 79 0 [] [(2, ((16 : Nat) : Int)), (9, 0), (9, 0), (9, 0)] [] (M, T) (fun r2 σ2 => r2 = some (0, y.1) ∧ σ2 = (y.2, T) ∧ Sh T.1 y.2) := by
    intro d hd
    rw [f_X7_readTalk] at h
    refine y_blk (t := 0) rfl (show fnd bk_X7_readTalk 0 = some _ from rfl) aB_X7_readTalk ?_
    refine wp_aload_n (v := ((16 : Nat) : Int)) rfl (Int.natCast_nonneg _) ?_
    refine y_get (show ash 16 = (7, 8) from rfl) (Nat.lt_of_lt_of_le (show 16 < 154 by decide) hS.1.1) (v := ((17 : Nat) : Int)) (hS.at 16 0 17 (by decide +kernel)) rfl ?_
    refine y_get (show ash 17 = (10, 19) from rfl) (Nat.lt_of_lt_of_le (show 17 < 154 by decide) hS.1.1) (v := ((18 : Nat) : Int)) (hS.at 17 3 18 (by decide +kernel)) rfl ?_
    refine wp_bipush (by decide) ?_
    refine y_iald (show ash 18 = (100, 8) from rfl) (Or.inl (Nat.lt_of_lt_of_le (show 18 < 154 by decide) hS.1.1)) (Nat.ne_of_lt (Nat.lt_of_lt_of_le (Nat.lt_of_lt_of_le (show 18 < 154 by decide) hS.1.1) hS.1.2)) ⟨by decide, by decide⟩ (v := M 18 7) rfl ?_
    refine y_stn (L1 := [(2, ((16 : Nat) : Int)), (0, (M 18 7)), (9, 0), (9, 0)]) (Nat.le_of_ble_eq_true rfl) rfl ?_
    refine wp_aload_n (v := ((16 : Nat) : Int)) rfl (Int.natCast_nonneg _) ?_
    obtain ⟨x1, e2, h⟩ := d_bind h
    obtain ⟨r3, s4⟩ := t_X7_readFirstCave hS e2
    refine y_callV (as := []) (S1 := []) (Nat.le_of_ble_eq_true rfl) (by omega) r3 (Nat.le_of_ble_eq_true rfl) rfl (show ash 16 = (7, 8) from rfl) (Nat.lt_of_lt_of_le (show 16 < 154 by decide) hS.1.1) (Nat.le_of_ble_eq_true rfl) (Nat.le_of_ble_eq_true rfl) rfl ?_
    refine y_stn (L1 := [(2, ((16 : Nat) : Int)), (0, (M 18 7)), (0, x1.1), (9, 0)]) (Nat.le_of_ble_eq_true rfl) rfl ?_
    refine wp_iload_n (v := x1.1) rfl ?_
    refine wp_iconst ⟨by decide, by decide⟩ ?_
    refine y_ne (fun c5 => ?_) (fun c5 => ?_)
    · rw [if_neg c5] at h
      refine y_blk (t := 25) rfl (show fnd bk_X7_readTalk 25 = some _ from rfl) aB_X7_readTalk ?_
      refine wp_aload_n (v := ((16 : Nat) : Int)) rfl (Int.natCast_nonneg _) ?_
      obtain ⟨x6, e7, h⟩ := d_bind h
      obtain ⟨r8, s9⟩ := t_X7_caveHere s4 e7
      refine y_callV (as := []) (S1 := []) (Nat.le_of_ble_eq_true rfl) (by omega) r8 (Nat.le_of_ble_eq_true rfl) rfl (show ash 16 = (7, 8) from rfl) (Nat.lt_of_lt_of_le (show 16 < 154 by decide) hS.1.1) (Nat.le_of_ble_eq_true rfl) (Nat.le_of_ble_eq_true rfl) rfl ?_
      refine y_blk (t := 29) rfl (show fnd bk_X7_readTalk 29 = some _ from rfl) aB_X7_readTalk ?_
      refine y_stn (L1 := [(2, ((16 : Nat) : Int)), (0, (M 18 7)), (0, x1.1), (0, x6.1)]) (Nat.le_of_ble_eq_true rfl) rfl ?_
      refine wp_iload_n (v := x6.1) rfl ?_
      refine wp_iconst ⟨by decide, by decide⟩ ?_
      refine y_ne (fun c10 => ?_) (fun c10 => ?_)
      · rw [if_neg c10] at h
        refine y_blk (t := 37) rfl (show fnd bk_X7_readTalk 37 = some _ from rfl) aB_X7_readTalk ?_
        refine wp_iload_n (v := x6.1) rfl ?_
        refine wp_iload_n (v := x1.1) rfl ?_
        refine y_ne (fun c11 => ?_) (fun c11 => ?_)
        · rw [if_neg c11] at h
          refine y_blk (t := 48) rfl (show fnd bk_X7_readTalk 48 = some _ from rfl) aB_X7_readTalk ?_
          refine wp_aload_n (v := ((16 : Nat) : Int)) rfl (Int.natCast_nonneg _) ?_
          refine y_get (show ash 16 = (7, 8) from rfl) (Nat.lt_of_lt_of_le (show 16 < 154 by decide) hS.1.1) (v := ((34 : Nat) : Int)) (s9.at 16 3 34 (by decide +kernel)) rfl ?_
          obtain ⟨x12, e13, h⟩ := d_bind h
          obtain ⟨r14, s15⟩ := t_X9_advance s9 e13
          refine y_callVv (as := []) (S1 := []) (Nat.le_of_ble_eq_true rfl) (by omega) r14 rfl (show ash 34 = (9, 5) from rfl) (Nat.lt_of_lt_of_le (show 34 < 154 by decide) hS.1.1) (Nat.le_of_ble_eq_true rfl) (Nat.le_of_ble_eq_true rfl) rfl ?_
          refine wp_aload_n (v := ((16 : Nat) : Int)) rfl (Int.natCast_nonneg _) ?_
          refine y_get (show ash 16 = (7, 8) from rfl) (Nat.lt_of_lt_of_le (show 16 < 154 by decide) hS.1.1) (v := ((17 : Nat) : Int)) (s15.at 16 0 17 (by decide +kernel)) rfl ?_
          refine y_get (show ash 17 = (10, 19) from rfl) (Nat.lt_of_lt_of_le (show 17 < 154 by decide) hS.1.1) (v := ((29 : Nat) : Int)) (s15.at 17 16 29 (by decide +kernel)) rfl ?_
          refine wp_iload_n (v := (M 18 7)) rfl ?_
          refine wp_iload_n (v := x1.1) rfl ?_
          obtain ⟨c16, h⟩ := d_ite h
          refine y_iast (show ash 29 = (100, 5) from rfl) (Nat.lt_of_lt_of_le (show 29 < 154 by decide) hS.1.1) c16 ?_
          obtain ⟨m17, em17, h⟩ := d_bind h
          have em17 := Option.some.inj em17
          have s18 : Sh T.1 m17 := em17 ▸ s15.up (Or.inl ⟨by rw [(show ash 29 = (100, 5) from rfl)]; exact Nat.le_of_ble_eq_true rfl, by rw [(show ash 29 = (100, 5) from rfl)]; exact Nat.le_of_ble_eq_true rfl⟩) (by have := (Nat.lt_of_lt_of_le (show 29 < 154 by decide) hS.1.1); have := hS.1.2; omega)
          rw [em17]
          refine wp_aload_n (v := ((16 : Nat) : Int)) rfl (Int.natCast_nonneg _) ?_
          refine y_get (show ash 16 = (7, 8) from rfl) (Nat.lt_of_lt_of_le (show 16 < 154 by decide) hS.1.1) (v := ((17 : Nat) : Int)) (s18.at 16 0 17 (by decide +kernel)) rfl ?_
          refine y_get (show ash 17 = (10, 19) from rfl) (Nat.lt_of_lt_of_le (show 17 < 154 by decide) hS.1.1) (v := ((30 : Nat) : Int)) (s18.at 17 17 30 (by decide +kernel)) rfl ?_
          refine wp_iload_n (v := (M 18 7)) rfl ?_
          refine wp_iload_n (v := x6.1) rfl ?_
          refine y_iast (show ash 30 = (100, 5) from rfl) (Nat.lt_of_lt_of_le (show 30 < 154 by decide) hS.1.1) c16 ?_
          obtain ⟨m19, em19, h⟩ := d_bind h
          have em19 := Option.some.inj em19
          have s20 : Sh T.1 m19 := em19 ▸ s18.up (Or.inl ⟨by rw [(show ash 30 = (100, 5) from rfl)]; exact Nat.le_of_ble_eq_true rfl, by rw [(show ash 30 = (100, 5) from rfl)]; exact Nat.le_of_ble_eq_true rfl⟩) (by have := (Nat.lt_of_lt_of_le (show 30 < 154 by decide) hS.1.1); have := hS.1.2; omega)
          rw [em19]
          refine wp_aload_n (v := ((16 : Nat) : Int)) rfl (Int.natCast_nonneg _) ?_
          refine y_get (show ash 16 = (7, 8) from rfl) (Nat.lt_of_lt_of_le (show 16 < 154 by decide) hS.1.1) (v := ((34 : Nat) : Int)) (s20.at 16 3 34 (by decide +kernel)) rfl ?_
          refine y_ldcS (v := 2000010) rfl ?_
          obtain ⟨x21, e22, h⟩ := d_bind h
          refine y_callV (as := [(2, 2000010)]) (S1 := []) (Nat.le_of_ble_eq_true rfl) (by omega) (t_X9_isWord s20 e22) (Nat.le_of_ble_eq_true rfl) rfl (show ash 34 = (9, 5) from rfl) (Nat.lt_of_lt_of_le (show 34 < 154 by decide) hS.1.1) (Nat.le_of_ble_eq_true rfl) (Nat.le_of_ble_eq_true rfl) rfl ?_
          refine wp_if_eq (fun c23 => ?_) (fun c23 => ?_)
          · rw [if_pos c23] at h
            refine y_blk (t := 109) rfl (show fnd bk_X7_readTalk 109 = some _ from rfl) aB_X7_readTalk ?_
            refine wp_aload_n (v := ((16 : Nat) : Int)) rfl (Int.natCast_nonneg _) ?_
            refine y_ldcS (v := 2000011) rfl ?_
            obtain ⟨x24, e25, h⟩ := d_bind h
            obtain ⟨r26, s27⟩ := t_X7_readWord s20 e25
            refine y_callV (as := [(2, 2000011)]) (S1 := []) (Nat.le_of_ble_eq_true rfl) (by omega) r26 (Nat.le_of_ble_eq_true rfl) rfl (show ash 16 = (7, 8) from rfl) (Nat.lt_of_lt_of_le (show 16 < 154 by decide) hS.1.1) (Nat.le_of_ble_eq_true rfl) (Nat.le_of_ble_eq_true rfl) rfl ?_
            obtain ⟨c28, h⟩ := d_ite h
            cases h
            exact y_ret0 (Or.inr c28) ⟨rfl, rfl, s27⟩
          · rw [if_neg c23] at h
            refine wp_aload_n (v := ((16 : Nat) : Int)) rfl (Int.natCast_nonneg _) ?_
            refine y_get (show ash 16 = (7, 8) from rfl) (Nat.lt_of_lt_of_le (show 16 < 154 by decide) hS.1.1) (v := ((17 : Nat) : Int)) (s20.at 16 0 17 (by decide +kernel)) rfl ?_
            refine wp_dup (Or.inr rfl) ?_
            refine y_get (show ash 17 = (10, 19) from rfl) (Nat.lt_of_lt_of_le (show 17 < 154 by decide) hS.1.1) (v := m19 17 18) rfl rfl ?_
            refine wp_iconst ⟨by decide, by decide⟩ ?_
            refine wp_iload_n (v := (M 18 7)) rfl ?_
            refine wp_ishl ?_
            refine wp_ior ?_
            refine y_put (show ash 17 = (10, 19) from rfl) (Nat.lt_of_lt_of_le (show 17 < 154 by decide) hS.1.1) rfl ?_
            obtain ⟨m29, em29, h⟩ := d_bind h
            have em29 := Option.some.inj em29
            have s30 : Sh T.1 m29 := em29 ▸ s20.up (Or.inr ⟨by rw [(show ash 17 = (10, 19) from rfl)]; decide, by rw [(show ash 17 = (10, 19) from rfl)]; decide⟩) (by have := (Nat.lt_of_lt_of_le (show 17 < 154 by decide) hS.1.1); have := hS.1.2; omega)
            rw [em29]
            refine wp_aload_n (v := ((16 : Nat) : Int)) rfl (Int.natCast_nonneg _) ?_
            refine y_ldcS (v := 2000010) rfl ?_
            obtain ⟨x31, e32, h⟩ := d_bind h
            obtain ⟨r33, s34⟩ := t_X7_readWord s30 e32
            refine y_callV (as := [(2, 2000010)]) (S1 := []) (Nat.le_of_ble_eq_true rfl) (by omega) r33 (Nat.le_of_ble_eq_true rfl) rfl (show ash 16 = (7, 8) from rfl) (Nat.lt_of_lt_of_le (show 16 < 154 by decide) hS.1.1) (Nat.le_of_ble_eq_true rfl) (Nat.le_of_ble_eq_true rfl) rfl ?_
            obtain ⟨c35, h⟩ := d_ite h
            cases h
            exact y_ret0 (Or.inr c35) ⟨rfl, rfl, s34⟩
        · rw [if_pos c11] at h
          refine wp_aload_n (v := ((16 : Nat) : Int)) rfl (Int.natCast_nonneg _) ?_
          refine wp_iconst ⟨by decide, by decide⟩ ?_
          obtain ⟨x36, e37, h⟩ := d_bind h
          obtain ⟨r38, s39⟩ := t_X7_fails s9 e37
          refine y_callV (as := [(0, 3)]) (S1 := []) (Nat.le_of_ble_eq_true rfl) (by omega) r38 (Nat.le_of_ble_eq_true rfl) rfl (show ash 16 = (7, 8) from rfl) (Nat.lt_of_lt_of_le (show 16 < 154 by decide) hS.1.1) (Nat.le_of_ble_eq_true rfl) (Nat.le_of_ble_eq_true rfl) rfl ?_
          obtain ⟨c40, h⟩ := d_ite h
          cases h
          exact y_ret0 (Or.inr c40) ⟨rfl, rfl, s39⟩
      · rw [if_pos c10] at h
        refine wp_iconst ⟨by decide, by decide⟩ ?_
        cases h
        exact y_ret0 (Or.inr (Or.inl rfl)) ⟨rfl, rfl, s9⟩
    · rw [if_pos c5] at h
      refine wp_iconst ⟨by decide, by decide⟩ ?_
      refine wp_goto ?_
      refine y_blk (t := 29) rfl (show fnd bk_X7_readTalk 29 = some _ from rfl) aB_X7_readTalk ?_
      refine y_stn (L1 := [(2, ((16 : Nat) : Int)), (0, (M 18 7)), (0, x1.1), (0, (-1))]) (Nat.le_of_ble_eq_true rfl) rfl ?_
      refine wp_iload_n (v := (-1)) rfl ?_
      refine wp_iconst ⟨by decide, by decide⟩ ?_
      refine y_ne (fun c41 => ?_) (fun c41 => ?_)
      · exact absurd (by decide) c41
      · refine wp_iconst ⟨by decide, by decide⟩ ?_
        cases h
        exact y_ret0 (Or.inr (Or.inl rfl)) ⟨rfl, rfl, s4⟩
  exact ⟨fun d hd => Ms.of3 (key d hd), Ms.sh (key 6 (Nat.le_refl _))⟩
theorem aB_X7_readRest : ∀ pc, aB 71 pc = fnd bk_X7_readRest pc := fun _ => rfl
def f_X7_readRest (T : Nat) (v1 : Int) (M : aM) : Option (Int × aM) :=
 if v1 = 0 then
 (f_X7_readWell T M).bind fun x43 =>
 if x43.1 = 0 ∨ x43.1 = 1 then
 some (x43.1, x43.2) else none else
 if v1 = 1 then
 (f_X7_readCave T M).bind fun x38 =>
 if x38.1 = 0 ∨ x38.1 = 1 then
 some (x38.1, x38.2) else none else
 if v1 = 2 then
 (f_X7_readWay T M).bind fun x33 =>
 if x33.1 = 0 ∨ x33.1 = 1 then
 some (x33.1, x33.2) else none else
 if v1 = 3 then
 (f_X7_readVoice T M).bind fun x28 =>
 if x28.1 = 0 ∨ x28.1 = 1 then
 some (x28.1, x28.2) else none else
 if v1 = 4 then
 (f_X7_readFolk T M).bind fun x23 =>
 if x23.1 = 0 ∨ x23.1 = 1 then
 some (x23.1, x23.2) else none else
 if v1 = 5 then
 (f_X7_readEcho T M).bind fun x18 =>
 if x18.1 = 0 ∨ x18.1 = 1 then
 some (x18.1, x18.2) else none else
 if v1 = 6 then
 (f_X7_readUnsure T M).bind fun x13 =>
 if x13.1 = 0 ∨ x13.1 = 1 then
 some (x13.1, x13.2) else none else
 (f_X7_readTalk T M).bind fun x1 =>
 if x1.1 = 0 ∨ x1.1 = 1 then
 some (x1.1, x1.2) else none
theorem t_X7_readRest {T : T3} {v1 : Int} {M : aM} {y : (Int × aM)}  (hS : Sh T.1 M) (h : f_X7_readRest T.1 v1 M = some y) : Mr 8 71 [(2, ((16 : Nat) : Int)), (0, v1)] M (some (0, y.1)) y.2 T ∧ Sh T.1 y.2 := by
  have key : ∀ d, 8 ≤ d → Wp d 71 0 [] [(2, ((16 : Nat) : Int)), (0, v1)] [] (M, T) (fun r2 σ2 => r2 = some (0, y.1) ∧ σ2 = (y.2, T) ∧ Sh T.1 y.2) := by
    intro d hd
    rw [f_X7_readRest] at h
    refine y_blk (t := 0) rfl (show fnd bk_X7_readRest 0 = some _ from rfl) aB_X7_readRest ?_
    refine wp_iload_n (v := v1) rfl ?_
    by_cases c6 : v1 = 0
    · rw [if_pos c6] at h
      refine y_ts (off := 43) (t := 44) (by omega) (by rw [c6]; rfl) rfl ?_
      refine y_blk (t := 44) rfl (show fnd bk_X7_readRest 44 = some _ from rfl) aB_X7_readRest ?_
      refine wp_aload_n (v := ((16 : Nat) : Int)) rfl (Int.natCast_nonneg _) ?_
      obtain ⟨x43, e44, h⟩ := d_bind h
      obtain ⟨r45, s46⟩ := t_X7_readWell hS e44
      refine y_callV (as := []) (S1 := []) (Nat.le_of_ble_eq_true rfl) (by omega) r45 (Nat.le_of_ble_eq_true rfl) rfl (show ash 16 = (7, 8) from rfl) (Nat.lt_of_lt_of_le (show 16 < 154 by decide) hS.1.1) (Nat.le_of_ble_eq_true rfl) (Nat.le_of_ble_eq_true rfl) rfl ?_
      obtain ⟨c47, h⟩ := d_ite h
      cases h
      exact y_ret0 (Or.inr c47) ⟨rfl, rfl, s46⟩
    · rw [if_neg c6] at h
      by_cases c7 : v1 = 1
      · rw [if_pos c7] at h
        refine y_ts (off := 48) (t := 49) (by omega) (by rw [c7]; rfl) rfl ?_
        refine y_blk (t := 49) rfl (show fnd bk_X7_readRest 49 = some _ from rfl) aB_X7_readRest ?_
        refine wp_aload_n (v := ((16 : Nat) : Int)) rfl (Int.natCast_nonneg _) ?_
        obtain ⟨x38, e39, h⟩ := d_bind h
        obtain ⟨r40, s41⟩ := t_X7_readCave hS e39
        refine y_callV (as := []) (S1 := []) (Nat.le_of_ble_eq_true rfl) (by omega) r40 (Nat.le_of_ble_eq_true rfl) rfl (show ash 16 = (7, 8) from rfl) (Nat.lt_of_lt_of_le (show 16 < 154 by decide) hS.1.1) (Nat.le_of_ble_eq_true rfl) (Nat.le_of_ble_eq_true rfl) rfl ?_
        obtain ⟨c42, h⟩ := d_ite h
        cases h
        exact y_ret0 (Or.inr c42) ⟨rfl, rfl, s41⟩
      · rw [if_neg c7] at h
        by_cases c8 : v1 = 2
        · rw [if_pos c8] at h
          refine y_ts (off := 53) (t := 54) (by omega) (by rw [c8]; rfl) rfl ?_
          refine y_blk (t := 54) rfl (show fnd bk_X7_readRest 54 = some _ from rfl) aB_X7_readRest ?_
          refine wp_aload_n (v := ((16 : Nat) : Int)) rfl (Int.natCast_nonneg _) ?_
          obtain ⟨x33, e34, h⟩ := d_bind h
          obtain ⟨r35, s36⟩ := t_X7_readWay hS e34
          refine y_callV (as := []) (S1 := []) (Nat.le_of_ble_eq_true rfl) (by omega) r35 (Nat.le_of_ble_eq_true rfl) rfl (show ash 16 = (7, 8) from rfl) (Nat.lt_of_lt_of_le (show 16 < 154 by decide) hS.1.1) (Nat.le_of_ble_eq_true rfl) (Nat.le_of_ble_eq_true rfl) rfl ?_
          obtain ⟨c37, h⟩ := d_ite h
          cases h
          exact y_ret0 (Or.inr c37) ⟨rfl, rfl, s36⟩
        · rw [if_neg c8] at h
          by_cases c9 : v1 = 3
          · rw [if_pos c9] at h
            refine y_ts (off := 58) (t := 59) (by omega) (by rw [c9]; rfl) rfl ?_
            refine y_blk (t := 59) rfl (show fnd bk_X7_readRest 59 = some _ from rfl) aB_X7_readRest ?_
            refine wp_aload_n (v := ((16 : Nat) : Int)) rfl (Int.natCast_nonneg _) ?_
            obtain ⟨x28, e29, h⟩ := d_bind h
            obtain ⟨r30, s31⟩ := t_X7_readVoice hS e29
            refine y_callV (as := []) (S1 := []) (Nat.le_of_ble_eq_true rfl) (by omega) r30 (Nat.le_of_ble_eq_true rfl) rfl (show ash 16 = (7, 8) from rfl) (Nat.lt_of_lt_of_le (show 16 < 154 by decide) hS.1.1) (Nat.le_of_ble_eq_true rfl) (Nat.le_of_ble_eq_true rfl) rfl ?_
            obtain ⟨c32, h⟩ := d_ite h
            cases h
            exact y_ret0 (Or.inr c32) ⟨rfl, rfl, s31⟩
          · rw [if_neg c9] at h
            by_cases c10 : v1 = 4
            · rw [if_pos c10] at h
              refine y_ts (off := 63) (t := 64) (by omega) (by rw [c10]; rfl) rfl ?_
              refine y_blk (t := 64) rfl (show fnd bk_X7_readRest 64 = some _ from rfl) aB_X7_readRest ?_
              refine wp_aload_n (v := ((16 : Nat) : Int)) rfl (Int.natCast_nonneg _) ?_
              obtain ⟨x23, e24, h⟩ := d_bind h
              obtain ⟨r25, s26⟩ := t_X7_readFolk hS e24
              refine y_callV (as := []) (S1 := []) (Nat.le_of_ble_eq_true rfl) (by omega) r25 (Nat.le_of_ble_eq_true rfl) rfl (show ash 16 = (7, 8) from rfl) (Nat.lt_of_lt_of_le (show 16 < 154 by decide) hS.1.1) (Nat.le_of_ble_eq_true rfl) (Nat.le_of_ble_eq_true rfl) rfl ?_
              obtain ⟨c27, h⟩ := d_ite h
              cases h
              exact y_ret0 (Or.inr c27) ⟨rfl, rfl, s26⟩
            · rw [if_neg c10] at h
              by_cases c11 : v1 = 5
              · rw [if_pos c11] at h
                refine y_ts (off := 68) (t := 69) (by omega) (by rw [c11]; rfl) rfl ?_
                refine y_blk (t := 69) rfl (show fnd bk_X7_readRest 69 = some _ from rfl) aB_X7_readRest ?_
                refine wp_aload_n (v := ((16 : Nat) : Int)) rfl (Int.natCast_nonneg _) ?_
                obtain ⟨x18, e19, h⟩ := d_bind h
                obtain ⟨r20, s21⟩ := t_X7_readEcho hS e19
                refine y_callV (as := []) (S1 := []) (Nat.le_of_ble_eq_true rfl) (by omega) r20 (Nat.le_of_ble_eq_true rfl) rfl (show ash 16 = (7, 8) from rfl) (Nat.lt_of_lt_of_le (show 16 < 154 by decide) hS.1.1) (Nat.le_of_ble_eq_true rfl) (Nat.le_of_ble_eq_true rfl) rfl ?_
                obtain ⟨c22, h⟩ := d_ite h
                cases h
                exact y_ret0 (Or.inr c22) ⟨rfl, rfl, s21⟩
              · rw [if_neg c11] at h
                by_cases c12 : v1 = 6
                · rw [if_pos c12] at h
                  refine y_ts (off := 73) (t := 74) (by omega) (by rw [c12]; rfl) rfl ?_
                  refine y_blk (t := 74) rfl (show fnd bk_X7_readRest 74 = some _ from rfl) aB_X7_readRest ?_
                  refine wp_aload_n (v := ((16 : Nat) : Int)) rfl (Int.natCast_nonneg _) ?_
                  obtain ⟨x13, e14, h⟩ := d_bind h
                  obtain ⟨r15, s16⟩ := t_X7_readUnsure hS e14
                  refine y_callV (as := []) (S1 := []) (Nat.le_of_ble_eq_true rfl) (by omega) r15 (Nat.le_of_ble_eq_true rfl) rfl (show ash 16 = (7, 8) from rfl) (Nat.lt_of_lt_of_le (show 16 < 154 by decide) hS.1.1) (Nat.le_of_ble_eq_true rfl) (Nat.le_of_ble_eq_true rfl) rfl ?_
                  obtain ⟨c17, h⟩ := d_ite h
                  cases h
                  exact y_ret0 (Or.inr c17) ⟨rfl, rfl, s16⟩
                · rw [if_neg c12] at h
                  refine y_td (t := 79) (by omega) rfl ?_
                  refine y_blk (t := 79) rfl (show fnd bk_X7_readRest 79 = some _ from rfl) aB_X7_readRest ?_
                  refine wp_aload_n (v := ((16 : Nat) : Int)) rfl (Int.natCast_nonneg _) ?_
                  obtain ⟨x1, e2, h⟩ := d_bind h
                  obtain ⟨r3, s4⟩ := t_X7_readTalk hS e2
                  refine y_callV (as := []) (S1 := []) (Nat.le_of_ble_eq_true rfl) (by omega) r3 (Nat.le_of_ble_eq_true rfl) rfl (show ash 16 = (7, 8) from rfl) (Nat.lt_of_lt_of_le (show 16 < 154 by decide) hS.1.1) (Nat.le_of_ble_eq_true rfl) (Nat.le_of_ble_eq_true rfl) rfl ?_
                  obtain ⟨c5, h⟩ := d_ite h
                  cases h
                  exact y_ret0 (Or.inr c5) ⟨rfl, rfl, s4⟩
  exact ⟨fun d hd => Ms.of3 (key d hd), Ms.sh (key 8 (Nat.le_refl _))⟩
theorem aB_X7_endsLine : ∀ pc, aB 70 pc = fnd bk_X7_endsLine pc := fun _ => rfl
def f_X7_endsLine (T : Nat) (v1 : Int) (M : aM) : Option (Int × aM) :=
 if 0 ≤ v1 ∧ v1 < 8 then
 if aIn ((M 18 (v1).toNat) + 1) then
 (some (aup M 18 (v1).toNat ((M 18 (v1).toNat) + 1))).bind fun m3 =>
 if (m3 34 4) = 0 then
 if (m3 18 1) = 0 then
 (f_X7_fails T 6 m3).bind fun x17 =>
 if x17.1 = 0 then
 some (0, x17.2) else
 some (1, x17.2) else
 some (0, m3) else
 if (m3 34 4) = 3 then
 (f_X9_advance T m3).bind fun x7 =>
 some (1, x7.2) else
 (f_X7_fails T 1 m3).bind fun x11 =>
 if x11.1 = 0 ∨ x11.1 = 1 then
 some (x11.1, x11.2) else none else none else none
theorem t_X7_endsLine {T : T3} {v1 : Int} {M : aM} {y : (Int × aM)}  (hS : Sh T.1 M) (h : f_X7_endsLine T.1 v1 M = some y) : Mr 2 70 [(2, ((16 : Nat) : Int)), (0, v1)] M (some (0, y.1)) y.2 T ∧ Sh T.1 y.2 := by
  have key : ∀ d, 2 ≤ d → Wp d 70 0 [] [(2, ((16 : Nat) : Int)), (0, v1)] [] (M, T) (fun r2 σ2 => r2 = some (0, y.1) ∧ σ2 = (y.2, T) ∧ Sh T.1 y.2) := by
    intro d hd
    rw [f_X7_endsLine] at h
    refine y_blk (t := 0) rfl (show fnd bk_X7_endsLine 0 = some _ from rfl) aB_X7_endsLine ?_
    refine wp_aload_n (v := ((16 : Nat) : Int)) rfl (Int.natCast_nonneg _) ?_
    refine y_get (show ash 16 = (7, 8) from rfl) (Nat.lt_of_lt_of_le (show 16 < 154 by decide) hS.1.1) (v := ((17 : Nat) : Int)) (hS.at 16 0 17 (by decide +kernel)) rfl ?_
    refine y_get (show ash 17 = (10, 19) from rfl) (Nat.lt_of_lt_of_le (show 17 < 154 by decide) hS.1.1) (v := ((18 : Nat) : Int)) (hS.at 17 3 18 (by decide +kernel)) rfl ?_
    refine wp_iload_n (v := v1) rfl ?_
    refine wp_dup2 ⟨Or.inl rfl, Or.inr rfl⟩ ?_
    obtain ⟨c1, h⟩ := d_ite h
    refine y_iald (show ash 18 = (100, 8) from rfl) (Or.inl (Nat.lt_of_lt_of_le (show 18 < 154 by decide) hS.1.1)) (Nat.ne_of_lt (Nat.lt_of_lt_of_le (Nat.lt_of_lt_of_le (show 18 < 154 by decide) hS.1.1) hS.1.2)) c1 (v := M 18 (v1).toNat) rfl ?_
    refine wp_iconst ⟨by decide, by decide⟩ ?_
    obtain ⟨c2, h⟩ := d_ite h
    refine wp_iadd c2 ?_
    refine y_iast (show ash 18 = (100, 8) from rfl) (Nat.lt_of_lt_of_le (show 18 < 154 by decide) hS.1.1) c1 ?_
    obtain ⟨m3, em3, h⟩ := d_bind h
    have em3 := Option.some.inj em3
    have s4 : Sh T.1 m3 := em3 ▸ hS.up (Or.inl ⟨by rw [(show ash 18 = (100, 8) from rfl)]; exact Nat.le_of_ble_eq_true rfl, by rw [(show ash 18 = (100, 8) from rfl)]; exact Nat.le_of_ble_eq_true rfl⟩) (by have := (Nat.lt_of_lt_of_le (show 18 < 154 by decide) hS.1.1); have := hS.1.2; omega)
    rw [em3]
    refine wp_aload_n (v := ((16 : Nat) : Int)) rfl (Int.natCast_nonneg _) ?_
    refine y_get (show ash 16 = (7, 8) from rfl) (Nat.lt_of_lt_of_le (show 16 < 154 by decide) hS.1.1) (v := ((34 : Nat) : Int)) (s4.at 16 3 34 (by decide +kernel)) rfl ?_
    refine y_get (show ash 34 = (9, 5) from rfl) (Nat.lt_of_lt_of_le (show 34 < 154 by decide) hS.1.1) (v := m3 34 4) rfl rfl ?_
    refine y_nez (fun c5 => ?_) (fun c5 => ?_)
    · rw [if_neg c5] at h
      refine y_blk (t := 50) rfl (show fnd bk_X7_endsLine 50 = some _ from rfl) aB_X7_endsLine ?_
      refine wp_aload_n (v := ((16 : Nat) : Int)) rfl (Int.natCast_nonneg _) ?_
      refine y_get (show ash 16 = (7, 8) from rfl) (Nat.lt_of_lt_of_le (show 16 < 154 by decide) hS.1.1) (v := ((34 : Nat) : Int)) (s4.at 16 3 34 (by decide +kernel)) rfl ?_
      refine y_get (show ash 34 = (9, 5) from rfl) (Nat.lt_of_lt_of_le (show 34 < 154 by decide) hS.1.1) (v := m3 34 4) rfl rfl ?_
      refine wp_iconst ⟨by decide, by decide⟩ ?_
      refine wp_icmp_eq (fun c6 => ?_) (fun c6 => ?_)
      · rw [if_pos c6] at h
        refine y_blk (t := 67) rfl (show fnd bk_X7_endsLine 67 = some _ from rfl) aB_X7_endsLine ?_
        refine wp_aload_n (v := ((16 : Nat) : Int)) rfl (Int.natCast_nonneg _) ?_
        refine y_get (show ash 16 = (7, 8) from rfl) (Nat.lt_of_lt_of_le (show 16 < 154 by decide) hS.1.1) (v := ((34 : Nat) : Int)) (s4.at 16 3 34 (by decide +kernel)) rfl ?_
        obtain ⟨x7, e8, h⟩ := d_bind h
        obtain ⟨r9, s10⟩ := t_X9_advance s4 e8
        refine y_callVv (as := []) (S1 := []) (Nat.le_of_ble_eq_true rfl) (by omega) r9 rfl (show ash 34 = (9, 5) from rfl) (Nat.lt_of_lt_of_le (show 34 < 154 by decide) hS.1.1) (Nat.le_of_ble_eq_true rfl) (Nat.le_of_ble_eq_true rfl) rfl ?_
        refine wp_iconst ⟨by decide, by decide⟩ ?_
        cases h
        exact y_ret0 (Or.inr (Or.inr rfl)) ⟨rfl, rfl, s10⟩
      · rw [if_neg c6] at h
        refine wp_aload_n (v := ((16 : Nat) : Int)) rfl (Int.natCast_nonneg _) ?_
        refine wp_iconst ⟨by decide, by decide⟩ ?_
        obtain ⟨x11, e12, h⟩ := d_bind h
        obtain ⟨r13, s14⟩ := t_X7_fails s4 e12
        refine y_callV (as := [(0, 1)]) (S1 := []) (Nat.le_of_ble_eq_true rfl) (by omega) r13 (Nat.le_of_ble_eq_true rfl) rfl (show ash 16 = (7, 8) from rfl) (Nat.lt_of_lt_of_le (show 16 < 154 by decide) hS.1.1) (Nat.le_of_ble_eq_true rfl) (Nat.le_of_ble_eq_true rfl) rfl ?_
        obtain ⟨c15, h⟩ := d_ite h
        cases h
        exact y_ret0 (Or.inr c15) ⟨rfl, rfl, s14⟩
    · rw [if_pos c5] at h
      refine wp_aload_n (v := ((16 : Nat) : Int)) rfl (Int.natCast_nonneg _) ?_
      refine y_get (show ash 16 = (7, 8) from rfl) (Nat.lt_of_lt_of_le (show 16 < 154 by decide) hS.1.1) (v := ((17 : Nat) : Int)) (s4.at 16 0 17 (by decide +kernel)) rfl ?_
      refine y_get (show ash 17 = (10, 19) from rfl) (Nat.lt_of_lt_of_le (show 17 < 154 by decide) hS.1.1) (v := ((18 : Nat) : Int)) (s4.at 17 3 18 (by decide +kernel)) rfl ?_
      refine wp_iconst ⟨by decide, by decide⟩ ?_
      refine y_iald (show ash 18 = (100, 8) from rfl) (Or.inl (Nat.lt_of_lt_of_le (show 18 < 154 by decide) hS.1.1)) (Nat.ne_of_lt (Nat.lt_of_lt_of_le (Nat.lt_of_lt_of_le (show 18 < 154 by decide) hS.1.1) hS.1.2)) ⟨by decide, by decide⟩ (v := m3 18 1) rfl ?_
      refine y_nez (fun c16 => ?_) (fun c16 => ?_)
      · rw [if_neg c16] at h
        refine y_blk (t := 48) rfl (show fnd bk_X7_endsLine 48 = some _ from rfl) aB_X7_endsLine ?_
        refine wp_iconst ⟨by decide, by decide⟩ ?_
        refine y_blk (t := 49) rfl (show fnd bk_X7_endsLine 49 = some _ from rfl) aB_X7_endsLine ?_
        cases h
        exact y_ret0 (Or.inr (Or.inl rfl)) ⟨rfl, rfl, s4⟩
      · rw [if_pos c16] at h
        refine wp_aload_n (v := ((16 : Nat) : Int)) rfl (Int.natCast_nonneg _) ?_
        refine wp_bipush (by decide) ?_
        obtain ⟨x17, e18, h⟩ := d_bind h
        obtain ⟨r19, s20⟩ := t_X7_fails s4 e18
        refine y_callV (as := [(0, 6)]) (S1 := []) (Nat.le_of_ble_eq_true rfl) (by omega) r19 (Nat.le_of_ble_eq_true rfl) rfl (show ash 16 = (7, 8) from rfl) (Nat.lt_of_lt_of_le (show 16 < 154 by decide) hS.1.1) (Nat.le_of_ble_eq_true rfl) (Nat.le_of_ble_eq_true rfl) rfl ?_
        refine wp_if_eq (fun c21 => ?_) (fun c21 => ?_)
        · rw [if_pos c21] at h
          refine y_blk (t := 48) rfl (show fnd bk_X7_endsLine 48 = some _ from rfl) aB_X7_endsLine ?_
          refine wp_iconst ⟨by decide, by decide⟩ ?_
          refine y_blk (t := 49) rfl (show fnd bk_X7_endsLine 49 = some _ from rfl) aB_X7_endsLine ?_
          cases h
          exact y_ret0 (Or.inr (Or.inl rfl)) ⟨rfl, rfl, s20⟩
        · rw [if_neg c21] at h
          refine wp_iconst ⟨by decide, by decide⟩ ?_
          refine wp_goto ?_
          refine y_blk (t := 49) rfl (show fnd bk_X7_endsLine 49 = some _ from rfl) aB_X7_endsLine ?_
          cases h
          exact y_ret0 (Or.inr (Or.inr rfl)) ⟨rfl, rfl, s20⟩
  exact ⟨fun d hd => Ms.of3 (key d hd), Ms.sh (key 2 (Nat.le_refl _))⟩

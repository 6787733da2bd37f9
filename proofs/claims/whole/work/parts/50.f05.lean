/-! ===== methods as functions ===== -/
theorem aB_X3_goingsNeeded : ∀ pc, aB 35 pc = fnd bk_X3_goingsNeeded pc := fun _ => rfl
def l_X3_goingsNeeded_2 (T : Nat) (v1 : Int) (v2 : Int) (k : Int → aM → Option (Int × aM)) : Nat → Int → aM → Option (Int × aM)
| 0, _, _ => none
| n + 1, v3, M =>
 if 64 ≤ v3 then
 k v3 M else
 if 0 ≤ v3 ∧ v3 < 64 then
 (some (aup M 55 (v3).toNat 1000000)).bind fun m3 =>
 if aIn (v3 + 1) then
 l_X3_goingsNeeded_2 T v1 v2 k n (v3 + 1) m3 else none else none
theorem tl_X3_goingsNeeded_2 {d : Nat} (hd : 3 ≤ d) {T : T3} {v1 : Int} {v2 : Int} {k : Int → aM → Option (Int × aM)} {y : (Int × aM)}  {M0 : aM} (hS : Sh T.1 M0)
    (hk : ∀ (v3 : Int) (u4 : aV) (M : aM), Sh T.1 M → k v3 M = some y → Wp d 35 22 [] [(2, ((54 : Nat) : Int)), (0, v1), (0, v2), (0, v3), u4] [] (M, T) (fun r2 σ2 => r2 = some (0, y.1) ∧ σ2 = (y.2, T) ∧ Sh T.1 y.2)) :
    ∀ (n : Nat) (v3 : Int) (u4 : aV) (M : aM), Sh T.1 M → l_X3_goingsNeeded_2 T.1 v1 v2 k n v3 M = some y → Wp d 35 2 [] [(2, ((54 : Nat) : Int)), (0, v1), (0, v2), (0, v3), u4] [] (M, T) (fun r2 σ2 => r2 = some (0, y.1) ∧ σ2 = (y.2, T) ∧ Sh T.1 y.2) := by
  intro n
  induction n with
  | zero =>
    intro v3 u4 M _ h
    exact nomatch (show (none : Option (Int × aM)) = some y from h)
  | succ n ih =>
    intro v3 u4 M sM h
    rw [l_X3_goingsNeeded_2] at h
    refine y_blk (t := 2) rfl (show fnd bk_X3_goingsNeeded 2 = some _ from rfl) aB_X3_goingsNeeded ?_
    refine wp_iload_n (v := v3) rfl ?_
    refine wp_bipush (by decide) ?_
    refine wp_icmp_ge (fun c1 => ?_) (fun c1 => ?_)
    · rw [if_pos c1] at h
      exact hk v3 u4 M sM h
    · rw [if_neg c1] at h
      refine wp_aload_n (v := ((54 : Nat) : Int)) rfl (Int.natCast_nonneg _) ?_
      refine y_get (show ash 54 = (3, 5) from rfl) (Nat.lt_of_lt_of_le (show 54 < 154 by decide) hS.1.1) (v := ((55 : Nat) : Int)) (sM.at 54 2 55 (by decide +kernel)) rfl ?_
      refine wp_iload_n (v := v3) rfl ?_
      refine y_ldc (v := 1000000) (by decide) rfl ?_
      obtain ⟨c2, h⟩ := d_ite h
      refine y_iast (show ash 55 = (100, 64) from rfl) (Nat.lt_of_lt_of_le (show 55 < 154 by decide) hS.1.1) c2 ?_
      obtain ⟨m3, em3, h⟩ := d_bind h
      have em3 := Option.some.inj em3
      have s4 : Sh T.1 m3 := em3 ▸ sM.up (Or.inl ⟨by rw [(show ash 55 = (100, 64) from rfl)]; exact Nat.le_of_ble_eq_true rfl, by rw [(show ash 55 = (100, 64) from rfl)]; exact Nat.le_of_ble_eq_true rfl⟩) (by have := (Nat.lt_of_lt_of_le (show 55 < 154 by decide) hS.1.1); have := hS.1.2; omega)
      rw [em3]
      obtain ⟨c5, h⟩ := d_ite h
      refine y_iinc (L1 := [(2, ((54 : Nat) : Int)), (0, v1), (0, v2), (0, (v3 + 1)), u4]) rfl (Nat.le_of_ble_eq_true rfl) ⟨by decide, by decide⟩ c5 rfl ?_
      refine wp_goto ?_
      exact ih (v3 + 1) u4 m3 s4 h
def l_X3_goingsNeeded_24 (T : Nat) (v1 : Int) (v2 : Int) (k : Int → aM → Option (Int × aM)) : Nat → Int → aM → Option (Int × aM)
| 0, _, _ => none
| n + 1, v3, M =>
 if 8 ≤ v3 then
 k v3 M else
 if aIn (v3 * 8) then
 if aIn ((v3 * 8) + v3) then
 if 0 ≤ ((v3 * 8) + v3) ∧ ((v3 * 8) + v3) < 64 then
 (some (aup M 55 (((v3 * 8) + v3)).toNat 0)).bind fun m14 =>
 if 0 ≤ v3 ∧ v3 < 8 then
 (some (aup m14 56 (v3).toNat (ashl 1 v3))).bind fun m17 =>
 (some (aup m17 57 (v3).toNat (ashl 1 v3))).bind fun m19 =>
 if aIn (v3 + 1) then
 l_X3_goingsNeeded_24 T v1 v2 k n (v3 + 1) m19 else none else none else none else none else none
theorem tl_X3_goingsNeeded_24 {d : Nat} (hd : 3 ≤ d) {T : T3} {v1 : Int} {v2 : Int} {k : Int → aM → Option (Int × aM)} {y : (Int × aM)}  {M0 : aM} (hS : Sh T.1 M0)
    (hk : ∀ (v3 : Int) (u4 : aV) (M : aM), Sh T.1 M → k v3 M = some y → Wp d 35 66 [] [(2, ((54 : Nat) : Int)), (0, v1), (0, v2), (0, v3), u4] [] (M, T) (fun r2 σ2 => r2 = some (0, y.1) ∧ σ2 = (y.2, T) ∧ Sh T.1 y.2)) :
    ∀ (n : Nat) (v3 : Int) (u4 : aV) (M : aM), Sh T.1 M → l_X3_goingsNeeded_24 T.1 v1 v2 k n v3 M = some y → Wp d 35 24 [] [(2, ((54 : Nat) : Int)), (0, v1), (0, v2), (0, v3), u4] [] (M, T) (fun r2 σ2 => r2 = some (0, y.1) ∧ σ2 = (y.2, T) ∧ Sh T.1 y.2) := by
  intro n
  induction n with
  | zero =>
    intro v3 u4 M _ h
    exact nomatch (show (none : Option (Int × aM)) = some y from h)
  | succ n ih =>
    intro v3 u4 M sM h
    rw [l_X3_goingsNeeded_24] at h
    refine y_blk (t := 24) rfl (show fnd bk_X3_goingsNeeded 24 = some _ from rfl) aB_X3_goingsNeeded ?_
    refine wp_iload_n (v := v3) rfl ?_
    refine wp_bipush (by decide) ?_
    refine wp_icmp_ge (fun c10 => ?_) (fun c10 => ?_)
    · rw [if_pos c10] at h
      exact hk v3 u4 M sM h
    · rw [if_neg c10] at h
      refine wp_aload_n (v := ((54 : Nat) : Int)) rfl (Int.natCast_nonneg _) ?_
      refine y_get (show ash 54 = (3, 5) from rfl) (Nat.lt_of_lt_of_le (show 54 < 154 by decide) hS.1.1) (v := ((55 : Nat) : Int)) (sM.at 54 2 55 (by decide +kernel)) rfl ?_
      refine wp_iload_n (v := v3) rfl ?_
      refine wp_bipush (by decide) ?_
      obtain ⟨c11, h⟩ := d_ite h
      refine wp_imul c11 ?_
      refine wp_iload_n (v := v3) rfl ?_
      obtain ⟨c12, h⟩ := d_ite h
      refine wp_iadd c12 ?_
      refine wp_iconst ⟨by decide, by decide⟩ ?_
      obtain ⟨c13, h⟩ := d_ite h
      refine y_iast (show ash 55 = (100, 64) from rfl) (Nat.lt_of_lt_of_le (show 55 < 154 by decide) hS.1.1) c13 ?_
      obtain ⟨m14, em14, h⟩ := d_bind h
      have em14 := Option.some.inj em14
      have s15 : Sh T.1 m14 := em14 ▸ sM.up (Or.inl ⟨by rw [(show ash 55 = (100, 64) from rfl)]; exact Nat.le_of_ble_eq_true rfl, by rw [(show ash 55 = (100, 64) from rfl)]; exact Nat.le_of_ble_eq_true rfl⟩) (by have := (Nat.lt_of_lt_of_le (show 55 < 154 by decide) hS.1.1); have := hS.1.2; omega)
      rw [em14]
      refine wp_aload_n (v := ((54 : Nat) : Int)) rfl (Int.natCast_nonneg _) ?_
      refine y_get (show ash 54 = (3, 5) from rfl) (Nat.lt_of_lt_of_le (show 54 < 154 by decide) hS.1.1) (v := ((56 : Nat) : Int)) (s15.at 54 3 56 (by decide +kernel)) rfl ?_
      refine wp_iload_n (v := v3) rfl ?_
      refine wp_iconst ⟨by decide, by decide⟩ ?_
      refine wp_iload_n (v := v3) rfl ?_
      refine wp_ishl ?_
      obtain ⟨c16, h⟩ := d_ite h
      refine y_iast (show ash 56 = (100, 8) from rfl) (Nat.lt_of_lt_of_le (show 56 < 154 by decide) hS.1.1) c16 ?_
      obtain ⟨m17, em17, h⟩ := d_bind h
      have em17 := Option.some.inj em17
      have s18 : Sh T.1 m17 := em17 ▸ s15.up (Or.inl ⟨by rw [(show ash 56 = (100, 8) from rfl)]; exact Nat.le_of_ble_eq_true rfl, by rw [(show ash 56 = (100, 8) from rfl)]; exact Nat.le_of_ble_eq_true rfl⟩) (by have := (Nat.lt_of_lt_of_le (show 56 < 154 by decide) hS.1.1); have := hS.1.2; omega)
      rw [em17]
      refine wp_aload_n (v := ((54 : Nat) : Int)) rfl (Int.natCast_nonneg _) ?_
      refine y_get (show ash 54 = (3, 5) from rfl) (Nat.lt_of_lt_of_le (show 54 < 154 by decide) hS.1.1) (v := ((57 : Nat) : Int)) (s18.at 54 4 57 (by decide +kernel)) rfl ?_
      refine wp_iload_n (v := v3) rfl ?_
      refine wp_iconst ⟨by decide, by decide⟩ ?_
      refine wp_iload_n (v := v3) rfl ?_
      refine wp_ishl ?_
      refine y_iast (show ash 57 = (100, 8) from rfl) (Nat.lt_of_lt_of_le (show 57 < 154 by decide) hS.1.1) c16 ?_
      obtain ⟨m19, em19, h⟩ := d_bind h
      have em19 := Option.some.inj em19
      have s20 : Sh T.1 m19 := em19 ▸ s18.up (Or.inl ⟨by rw [(show ash 57 = (100, 8) from rfl)]; exact Nat.le_of_ble_eq_true rfl, by rw [(show ash 57 = (100, 8) from rfl)]; exact Nat.le_of_ble_eq_true rfl⟩) (by have := (Nat.lt_of_lt_of_le (show 57 < 154 by decide) hS.1.1); have := hS.1.2; omega)
      rw [em19]
      obtain ⟨c21, h⟩ := d_ite h
      refine y_iinc (L1 := [(2, ((54 : Nat) : Int)), (0, v1), (0, v2), (0, (v3 + 1)), u4]) rfl (Nat.le_of_ble_eq_true rfl) ⟨by decide, by decide⟩ c21 rfl ?_
      refine wp_goto ?_
      exact ih (v3 + 1) u4 m19 s20 h
def l_X3_goingsNeeded_71 (T : Nat) (v1 : Int) (v2 : Int) (k : Int → Int → aM → Option (Int × aM)) : Nat → Int → Int → aM → Option (Int × aM)
| 0, _, _, _ => none
| n + 1, v3, v4, M =>
 if 64 < v4 then
 k v3 v4 M else
 if v3 = 0 then
 k v3 v4 M else
 (f_X3_goOnceMore T v4 M).bind fun x28 =>
 if aIn (v4 + 1) then
 l_X3_goingsNeeded_71 T v1 v2 k n x28.1 (v4 + 1) x28.2 else none
theorem tl_X3_goingsNeeded_71 {d : Nat} (hd : 3 ≤ d) {T : T3} {v1 : Int} {v2 : Int} {k : Int → Int → aM → Option (Int × aM)} {y : (Int × aM)}  {M0 : aM} (hS : Sh T.1 M0)
    (hk : ∀ (v3 v4 : Int) (M : aM), Sh T.1 M → k v3 v4 M = some y → Wp d 35 95 [] [(2, ((54 : Nat) : Int)), (0, v1), (0, v2), (0, v3), (0, v4)] [] (M, T) (fun r2 σ2 => r2 = some (0, y.1) ∧ σ2 = (y.2, T) ∧ Sh T.1 y.2)) :
    ∀ (n : Nat) (v3 v4 : Int) (M : aM), Sh T.1 M → l_X3_goingsNeeded_71 T.1 v1 v2 k n v3 v4 M = some y → Wp d 35 71 [] [(2, ((54 : Nat) : Int)), (0, v1), (0, v2), (0, v3), (0, v4)] [] (M, T) (fun r2 σ2 => r2 = some (0, y.1) ∧ σ2 = (y.2, T) ∧ Sh T.1 y.2) := by
  intro n
  induction n with
  | zero =>
    intro v3 v4 M _ h
    exact nomatch (show (none : Option (Int × aM)) = some y from h)
  | succ n ih =>
    intro v3 v4 M sM h
    rw [l_X3_goingsNeeded_71] at h
    refine y_blk (t := 71) rfl (show fnd bk_X3_goingsNeeded 71 = some _ from rfl) aB_X3_goingsNeeded ?_
    refine wp_iload (v := v4) rfl ?_
    refine wp_bipush (by decide) ?_
    refine wp_icmp_gt (fun c26 => ?_) (fun c26 => ?_)
    · rw [if_pos c26] at h
      exact hk v3 v4  M sM h
    · rw [if_neg c26] at h
      refine wp_iload_n (v := v3) rfl ?_
      refine wp_if_eq (fun c27 => ?_) (fun c27 => ?_)
      · rw [if_pos c27] at h
        exact hk v3 v4  M sM h
      · rw [if_neg c27] at h
        refine wp_aload_n (v := ((54 : Nat) : Int)) rfl (Int.natCast_nonneg _) ?_
        refine wp_iload (v := v4) rfl ?_
        obtain ⟨x28, e29, h⟩ := d_bind h
        obtain ⟨r30, s31⟩ := t_X3_goOnceMore sM e29
        refine y_callV (as := [(0, v4)]) (S1 := []) (Nat.le_of_ble_eq_true rfl) (by omega) r30 (Nat.le_of_ble_eq_true rfl) rfl (show ash 54 = (3, 5) from rfl) (Nat.lt_of_lt_of_le (show 54 < 154 by decide) hS.1.1) (Nat.le_of_ble_eq_true rfl) (Nat.le_of_ble_eq_true rfl) rfl ?_
        refine y_stn (L1 := [(2, ((54 : Nat) : Int)), (0, v1), (0, v2), (0, x28.1), (0, v4)]) (Nat.le_of_ble_eq_true rfl) rfl ?_
        obtain ⟨c32, h⟩ := d_ite h
        refine y_iinc (L1 := [(2, ((54 : Nat) : Int)), (0, v1), (0, v2), (0, x28.1), (0, (v4 + 1))]) rfl (Nat.le_of_ble_eq_true rfl) ⟨by decide, by decide⟩ c32 rfl ?_
        refine wp_goto ?_
        exact ih x28.1 (v4 + 1)  x28.2 s31 h
def f_X3_goingsNeeded (T : Nat) (v1 : Int) (v2 : Int) (M : aM) : Option (Int × aM) :=
 l_X3_goingsNeeded_2 T v1 v2 (fun w6 m8 =>
 l_X3_goingsNeeded_24 T v1 v2 (fun w22 m24 =>
 l_X3_goingsNeeded_71 T v1 v2 (fun w33 w34 m35 =>
 if aIn (v1 * 8) then
 if aIn ((v1 * 8) + v2) then
 if 0 ≤ ((v1 * 8) + v2) ∧ ((v1 * 8) + v2) < 64 then
 some ((m35 55 (((v1 * 8) + v2)).toNat), m35) else none else none else none) FU 1 1 m24) FU 0 m8) FU 0 M
theorem t_X3_goingsNeeded {T : T3} {v1 : Int} {v2 : Int} {M : aM} {y : (Int × aM)}  (hS : Sh T.1 M) (h : f_X3_goingsNeeded T.1 v1 v2 M = some y) : Mr 3 35 [(2, ((54 : Nat) : Int)), (0, v1), (0, v2)] M (some (0, y.1)) y.2 T ∧ Sh T.1 y.2 := by
  have key : ∀ d, 3 ≤ d → Wp d 35 0 [] [(2, ((54 : Nat) : Int)), (0, v1), (0, v2), (9, 0), (9, 0)] [] (M, T) (fun r2 σ2 => r2 = some (0, y.1) ∧ σ2 = (y.2, T) ∧ Sh T.1 y.2) := by
    intro d hd
    rw [f_X3_goingsNeeded] at h
    refine y_blk (t := 0) rfl (show fnd bk_X3_goingsNeeded 0 = some _ from rfl) aB_X3_goingsNeeded ?_
    refine wp_iconst ⟨by decide, by decide⟩ ?_
    refine y_stn (L1 := [(2, ((54 : Nat) : Int)), (0, v1), (0, v2), (0, 0), (9, 0)]) (Nat.le_of_ble_eq_true rfl) rfl ?_
    refine tl_X3_goingsNeeded_2 (by omega) hS (fun w6 u7 m8 s9 h => ?_) FU 0 (9, 0) M hS h
    refine y_blk (t := 22) rfl (show fnd bk_X3_goingsNeeded 22 = some _ from rfl) aB_X3_goingsNeeded ?_
    refine wp_iconst ⟨by decide, by decide⟩ ?_
    refine y_stn (L1 := [(2, ((54 : Nat) : Int)), (0, v1), (0, v2), (0, 0), u7]) (Nat.le_of_ble_eq_true rfl) rfl ?_
    refine tl_X3_goingsNeeded_24 (by omega) hS (fun w22 u23 m24 s25 h => ?_) FU 0 u7 m8 s9 h
    refine y_blk (t := 66) rfl (show fnd bk_X3_goingsNeeded 66 = some _ from rfl) aB_X3_goingsNeeded ?_
    refine wp_iconst ⟨by decide, by decide⟩ ?_
    refine y_stn (L1 := [(2, ((54 : Nat) : Int)), (0, v1), (0, v2), (0, 1), u23]) (Nat.le_of_ble_eq_true rfl) rfl ?_
    refine wp_iconst ⟨by decide, by decide⟩ ?_
    refine y_st (L1 := [(2, ((54 : Nat) : Int)), (0, v1), (0, v2), (0, 1), (0, 1)]) (Nat.le_of_ble_eq_true rfl) rfl ?_
    refine tl_X3_goingsNeeded_71 (by omega) hS (fun w33 w34  m35 s36 h => ?_) FU 1 1  m24 s25 h
    refine y_blk (t := 95) rfl (show fnd bk_X3_goingsNeeded 95 = some _ from rfl) aB_X3_goingsNeeded ?_
    refine wp_aload_n (v := ((54 : Nat) : Int)) rfl (Int.natCast_nonneg _) ?_
    refine y_get (show ash 54 = (3, 5) from rfl) (Nat.lt_of_lt_of_le (show 54 < 154 by decide) hS.1.1) (v := ((55 : Nat) : Int)) (s36.at 54 2 55 (by decide +kernel)) rfl ?_
    refine wp_iload_n (v := v1) rfl ?_
    refine wp_bipush (by decide) ?_
    obtain ⟨c37, h⟩ := d_ite h
    refine wp_imul c37 ?_
    refine wp_iload_n (v := v2) rfl ?_
    obtain ⟨c38, h⟩ := d_ite h
    refine wp_iadd c38 ?_
    obtain ⟨c39, h⟩ := d_ite h
    refine y_iald (show ash 55 = (100, 64) from rfl) (Or.inl (Nat.lt_of_lt_of_le (show 55 < 154 by decide) hS.1.1)) (Nat.ne_of_lt (Nat.lt_of_lt_of_le (Nat.lt_of_lt_of_le (show 55 < 154 by decide) hS.1.1) hS.1.2)) c39 (v := m35 55 (((v1 * 8) + v2)).toNat) rfl ?_
    cases h
    exact y_ret0 (Or.inl rfl) ⟨rfl, rfl, s36⟩
  exact ⟨fun d hd => Ms.of3 (key d hd), Ms.sh (key 3 (Nat.le_refl _))⟩
theorem aB_X3_goingsBehind : ∀ pc, aB 40 pc = fnd bk_X3_goingsBehind pc := fun _ => rfl
def l_X3_goingsBehind_12 (T : Nat) (v1 : Int) (v2 : Int) (M : aM) (k : Int → Int → Option Int) : Nat → Int → Int → Option Int
| 0, _, _ => none
| n + 1, v3, v4 =>
 if (M 3 1) ≤ v4 then
 k v3 v4 else
 (f_X3_aroundOf T v2 M).bind fun x3 =>
 (f_X11_hasBit T x3 v4 M).bind fun x5 =>
 if x5 = 0 then
 if aIn (v4 + 1) then
 l_X3_goingsBehind_12 T v1 v2 M k n v3 (v4 + 1) else none else
 if aIn (v1 * 8) then
 if aIn ((v1 * 8) + v4) then
 if 0 ≤ ((v1 * 8) + v4) ∧ ((v1 * 8) + v4) < 64 then
 if aIn (v4 + 1) then
 l_X3_goingsBehind_12 T v1 v2 M k n (if (M 55 (((v1 * 8) + v4)).toNat) < v3 then v3 else (M 55 (((v1 * 8) + v4)).toNat)) (v4 + 1) else none else none else none else none
theorem tl_X3_goingsBehind_12 {d : Nat} (hd : 1 ≤ d) {T : T3} {v1 : Int} {v2 : Int} {M : aM} {k : Int → Int → Option Int} {y : Int}  (hS : Sh T.1 M)
    (hk : ∀ (v3 v4 : Int), Sh T.1 M → k v3 v4 = some y → Wp d 40 62 [] [(2, ((54 : Nat) : Int)), (0, v1), (0, v2), (0, v3), (0, v4)] [] (M, T) (fun r2 σ2 => r2 = some (0, y) ∧ σ2 = (M, T))) :
    ∀ (n : Nat) (v3 v4 : Int), Sh T.1 M → l_X3_goingsBehind_12 T.1 v1 v2 M k n v3 v4 = some y → Wp d 40 12 [] [(2, ((54 : Nat) : Int)), (0, v1), (0, v2), (0, v3), (0, v4)] [] (M, T) (fun r2 σ2 => r2 = some (0, y) ∧ σ2 = (M, T)) := by
  intro n
  induction n with
  | zero =>
    intro v3 v4 _ h
    exact nomatch (show (none : Option Int) = some y from h)
  | succ n ih =>
    intro v3 v4 sM h
    rw [l_X3_goingsBehind_12] at h
    refine y_blk (t := 12) rfl (show fnd bk_X3_goingsBehind 12 = some _ from rfl) aB_X3_goingsBehind ?_
    refine wp_iload (v := v4) rfl ?_
    refine wp_aload_n (v := ((54 : Nat) : Int)) rfl (Int.natCast_nonneg _) ?_
    refine y_get (show ash 54 = (3, 5) from rfl) (Nat.lt_of_lt_of_le (show 54 < 154 by decide) hS.1.1) (v := ((2 : Nat) : Int)) (sM.at 54 0 2 (by decide +kernel)) rfl ?_
    refine y_get (show ash 2 = (10, 19) from rfl) (Nat.lt_of_lt_of_le (show 2 < 154 by decide) hS.1.1) (v := ((3 : Nat) : Int)) (sM.at 2 3 3 (by decide +kernel)) rfl ?_
    refine wp_iconst ⟨by decide, by decide⟩ ?_
    refine y_iald (show ash 3 = (100, 8) from rfl) (Or.inl (Nat.lt_of_lt_of_le (show 3 < 154 by decide) hS.1.1)) (Nat.ne_of_lt (Nat.lt_of_lt_of_le (Nat.lt_of_lt_of_le (show 3 < 154 by decide) hS.1.1) hS.1.2)) ⟨by decide, by decide⟩ (v := M 3 1) rfl ?_
    refine wp_icmp_ge (fun c2 => ?_) (fun c2 => ?_)
    · rw [if_pos c2] at h
      exact hk v3 v4   sM h
    · rw [if_neg c2] at h
      refine wp_aload_n (v := ((54 : Nat) : Int)) rfl (Int.natCast_nonneg _) ?_
      refine wp_iload_n (v := v2) rfl ?_
      obtain ⟨x3, e4, h⟩ := d_bind h
      refine y_callV (as := [(0, v2)]) (S1 := []) (Nat.le_of_ble_eq_true rfl) (by omega) (t_X3_aroundOf sM e4) (Nat.le_of_ble_eq_true rfl) rfl (show ash 54 = (3, 5) from rfl) (Nat.lt_of_lt_of_le (show 54 < 154 by decide) hS.1.1) (Nat.le_of_ble_eq_true rfl) (Nat.le_of_ble_eq_true rfl) rfl ?_
      refine wp_iload (v := v4) rfl ?_
      obtain ⟨x5, e6, h⟩ := d_bind h
      refine y_callS (as := [(0, x3), (0, v4)]) (S1 := []) (Nat.le_of_ble_eq_true rfl) (by omega) (t_X11_hasBit sM e6) (Nat.le_of_ble_eq_true rfl) rfl (Nat.le_of_ble_eq_true rfl) (Nat.le_of_ble_eq_true rfl) rfl ?_
      refine wp_if_eq (fun c7 => ?_) (fun c7 => ?_)
      · rw [if_pos c7] at h
        refine y_blk (t := 56) rfl (show fnd bk_X3_goingsBehind 56 = some _ from rfl) aB_X3_goingsBehind ?_
        obtain ⟨c8, h⟩ := d_ite h
        refine y_iinc (L1 := [(2, ((54 : Nat) : Int)), (0, v1), (0, v2), (0, v3), (0, (v4 + 1))]) rfl (Nat.le_of_ble_eq_true rfl) ⟨by decide, by decide⟩ c8 rfl ?_
        refine wp_goto ?_
        exact ih v3 (v4 + 1)   sM h
      · rw [if_neg c7] at h
        refine wp_iload_n (v := v3) rfl ?_
        refine wp_aload_n (v := ((54 : Nat) : Int)) rfl (Int.natCast_nonneg _) ?_
        refine y_get (show ash 54 = (3, 5) from rfl) (Nat.lt_of_lt_of_le (show 54 < 154 by decide) hS.1.1) (v := ((55 : Nat) : Int)) (sM.at 54 2 55 (by decide +kernel)) rfl ?_
        refine wp_iload_n (v := v1) rfl ?_
        refine wp_bipush (by decide) ?_
        obtain ⟨c9, h⟩ := d_ite h
        refine wp_imul c9 ?_
        refine wp_iload (v := v4) rfl ?_
        obtain ⟨c10, h⟩ := d_ite h
        refine wp_iadd c10 ?_
        obtain ⟨c11, h⟩ := d_ite h
        refine y_iald (show ash 55 = (100, 64) from rfl) (Or.inl (Nat.lt_of_lt_of_le (show 55 < 154 by decide) hS.1.1)) (Nat.ne_of_lt (Nat.lt_of_lt_of_le (Nat.lt_of_lt_of_le (show 55 < 154 by decide) hS.1.1) hS.1.2)) c11 (v := M 55 (((v1 * 8) + v4)).toNat) rfl ?_
        refine wp_max ⟨by omega, Nat.le_of_ble_eq_true rfl, rfl⟩ ?_
        refine y_stn (L1 := [(2, ((54 : Nat) : Int)), (0, v1), (0, v2), (0, (if (M 55 (((v1 * 8) + v4)).toNat) < v3 then v3 else (M 55 (((v1 * 8) + v4)).toNat))), (0, v4)]) (Nat.le_of_ble_eq_true rfl) rfl ?_
        refine y_blk (t := 56) rfl (show fnd bk_X3_goingsBehind 56 = some _ from rfl) aB_X3_goingsBehind ?_
        obtain ⟨c12, h⟩ := d_ite h
        refine y_iinc (L1 := [(2, ((54 : Nat) : Int)), (0, v1), (0, v2), (0, (if (M 55 (((v1 * 8) + v4)).toNat) < v3 then v3 else (M 55 (((v1 * 8) + v4)).toNat))), (0, (v4 + 1))]) rfl (Nat.le_of_ble_eq_true rfl) ⟨by decide, by decide⟩ c12 rfl ?_
        refine wp_goto ?_
        exact ih (if (M 55 (((v1 * 8) + v4)).toNat) < v3 then v3 else (M 55 (((v1 * 8) + v4)).toNat)) (v4 + 1)   sM h
def f_X3_goingsBehind (T : Nat) (v1 : Int) (v2 : Int) (M : aM) : Option Int :=
 if v1 = v2 then
 some 0 else
 l_X3_goingsBehind_12 T v1 v2 M (fun w13 w14 =>
 some w13) FU 0 0
theorem t_X3_goingsBehind {T : T3} {v1 : Int} {v2 : Int} {M : aM} {y : Int}  (hS : Sh T.1 M) (h : f_X3_goingsBehind T.1 v1 v2 M = some y) : Mr 1 40 [(2, ((54 : Nat) : Int)), (0, v1), (0, v2)] M (some (0, y)) M T := by
  have key : ∀ d, 1 ≤ d → Wp d 40 0 [] [(2, ((54 : Nat) : Int)), (0, v1), (0, v2), (9, 0), (9, 0)] [] (M, T) (fun r2 σ2 => r2 = some (0, y) ∧ σ2 = (M, T)) := by
    intro d hd
    rw [f_X3_goingsBehind] at h
    refine y_blk (t := 0) rfl (show fnd bk_X3_goingsBehind 0 = some _ from rfl) aB_X3_goingsBehind ?_
    refine wp_iload_n (v := v1) rfl ?_
    refine wp_iload_n (v := v2) rfl ?_
    refine y_ne (fun c1 => ?_) (fun c1 => ?_)
    · rw [if_neg c1] at h
      refine y_blk (t := 7) rfl (show fnd bk_X3_goingsBehind 7 = some _ from rfl) aB_X3_goingsBehind ?_
      refine wp_iconst ⟨by decide, by decide⟩ ?_
      refine y_stn (L1 := [(2, ((54 : Nat) : Int)), (0, v1), (0, v2), (0, 0), (9, 0)]) (Nat.le_of_ble_eq_true rfl) rfl ?_
      refine wp_iconst ⟨by decide, by decide⟩ ?_
      refine y_st (L1 := [(2, ((54 : Nat) : Int)), (0, v1), (0, v2), (0, 0), (0, 0)]) (Nat.le_of_ble_eq_true rfl) rfl ?_
      refine tl_X3_goingsBehind_12 (by omega) hS (fun w13 w14   s15 h => ?_) FU 0 0   hS h
      refine y_blk (t := 62) rfl (show fnd bk_X3_goingsBehind 62 = some _ from rfl) aB_X3_goingsBehind ?_
      refine wp_iload_n (v := w13) rfl ?_
      cases h
      exact y_ret0 (Or.inl rfl) ⟨rfl, rfl⟩
    · rw [if_pos c1] at h
      refine wp_iconst ⟨by decide, by decide⟩ ?_
      cases h
      exact y_ret0 (Or.inl rfl) ⟨rfl, rfl⟩
  exact fun d hd => Ms.of (key d hd)
theorem aB_X3_firstGoing : ∀ pc, aB 39 pc = fnd bk_X3_firstGoing pc := fun _ => rfl
def l_X3_firstGoing_37 (T : Nat) (v1 : Int) (v2 : Int) (v3 : Int) (M : aM) (k : Int → Option (Int × aM)) : Nat → Int → Option (Int × aM)
| 0, _ => none
| n + 1, v4 =>
 if (M 3 1) ≤ v4 then
 k v4 else
 if 0 ≤ v1 ∧ v1 < 8 then
 (f_X11_hasBit T (M 40 (v1).toNat) v4 M).bind fun x13 =>
 if x13 = 0 then
 if aIn (v4 + 1) then
 l_X3_firstGoing_37 T v1 v2 v3 M k n (v4 + 1) else none else
 (f_X3_goingsBehind T v4 v2 M).bind fun x17 =>
 if aIn (v3 - 1) then
 if x17 = (v3 - 1) then
 some (v4, M) else
 if aIn (v4 + 1) then
 l_X3_firstGoing_37 T v1 v2 v3 M k n (v4 + 1) else none else none else none
theorem tl_X3_firstGoing_37 {d : Nat} (hd : 4 ≤ d) {T : T3} {v1 : Int} {v2 : Int} {v3 : Int} {M : aM} {k : Int → Option (Int × aM)} {y : (Int × aM)}  (hS : Sh T.1 M)
    (hk : ∀ (v4 : Int), Sh T.1 M → k v4 = some y → Wp d 39 90 [] [(2, ((54 : Nat) : Int)), (0, v1), (0, v2), (0, v3), (0, v4)] [] (M, T) (fun r2 σ2 => r2 = some (0, y.1) ∧ σ2 = (y.2, T) ∧ Sh T.1 y.2)) :
    ∀ (n : Nat) (v4 : Int), Sh T.1 M → l_X3_firstGoing_37 T.1 v1 v2 v3 M k n v4 = some y → Wp d 39 37 [] [(2, ((54 : Nat) : Int)), (0, v1), (0, v2), (0, v3), (0, v4)] [] (M, T) (fun r2 σ2 => r2 = some (0, y.1) ∧ σ2 = (y.2, T) ∧ Sh T.1 y.2) := by
  intro n
  induction n with
  | zero =>
    intro v4 _ h
    exact nomatch (show (none : Option (Int × aM)) = some y from h)
  | succ n ih =>
    intro v4 sM h
    rw [l_X3_firstGoing_37] at h
    refine y_blk (t := 37) rfl (show fnd bk_X3_firstGoing 37 = some _ from rfl) aB_X3_firstGoing ?_
    refine wp_iload (v := v4) rfl ?_
    refine wp_aload_n (v := ((54 : Nat) : Int)) rfl (Int.natCast_nonneg _) ?_
    refine y_get (show ash 54 = (3, 5) from rfl) (Nat.lt_of_lt_of_le (show 54 < 154 by decide) hS.1.1) (v := ((2 : Nat) : Int)) (sM.at 54 0 2 (by decide +kernel)) rfl ?_
    refine y_get (show ash 2 = (10, 19) from rfl) (Nat.lt_of_lt_of_le (show 2 < 154 by decide) hS.1.1) (v := ((3 : Nat) : Int)) (sM.at 2 3 3 (by decide +kernel)) rfl ?_
    refine wp_iconst ⟨by decide, by decide⟩ ?_
    refine y_iald (show ash 3 = (100, 8) from rfl) (Or.inl (Nat.lt_of_lt_of_le (show 3 < 154 by decide) hS.1.1)) (Nat.ne_of_lt (Nat.lt_of_lt_of_le (Nat.lt_of_lt_of_le (show 3 < 154 by decide) hS.1.1) hS.1.2)) ⟨by decide, by decide⟩ (v := M 3 1) rfl ?_
    refine wp_icmp_ge (fun c11 => ?_) (fun c11 => ?_)
    · rw [if_pos c11] at h
      exact hk v4   sM h
    · rw [if_neg c11] at h
      refine wp_aload_n (v := ((54 : Nat) : Int)) rfl (Int.natCast_nonneg _) ?_
      refine y_get (show ash 54 = (3, 5) from rfl) (Nat.lt_of_lt_of_le (show 54 < 154 by decide) hS.1.1) (v := ((39 : Nat) : Int)) (sM.at 54 1 39 (by decide +kernel)) rfl ?_
      refine y_get (show ash 39 = (5, 4) from rfl) (Nat.lt_of_lt_of_le (show 39 < 154 by decide) hS.1.1) (v := ((40 : Nat) : Int)) (sM.at 39 1 40 (by decide +kernel)) rfl ?_
      refine wp_iload_n (v := v1) rfl ?_
      obtain ⟨c12, h⟩ := d_ite h
      refine y_iald (show ash 40 = (100, 8) from rfl) (Or.inl (Nat.lt_of_lt_of_le (show 40 < 154 by decide) hS.1.1)) (Nat.ne_of_lt (Nat.lt_of_lt_of_le (Nat.lt_of_lt_of_le (show 40 < 154 by decide) hS.1.1) hS.1.2)) c12 (v := M 40 (v1).toNat) rfl ?_
      refine wp_iload (v := v4) rfl ?_
      obtain ⟨x13, e14, h⟩ := d_bind h
      refine y_callS (as := [(0, (M 40 (v1).toNat)), (0, v4)]) (S1 := []) (Nat.le_of_ble_eq_true rfl) (by omega) (t_X11_hasBit sM e14) (Nat.le_of_ble_eq_true rfl) rfl (Nat.le_of_ble_eq_true rfl) (Nat.le_of_ble_eq_true rfl) rfl ?_
      refine wp_if_eq (fun c15 => ?_) (fun c15 => ?_)
      · rw [if_pos c15] at h
        refine y_blk (t := 84) rfl (show fnd bk_X3_firstGoing 84 = some _ from rfl) aB_X3_firstGoing ?_
        obtain ⟨c16, h⟩ := d_ite h
        refine y_iinc (L1 := [(2, ((54 : Nat) : Int)), (0, v1), (0, v2), (0, v3), (0, (v4 + 1))]) rfl (Nat.le_of_ble_eq_true rfl) ⟨by decide, by decide⟩ c16 rfl ?_
        refine wp_goto ?_
        exact ih (v4 + 1)   sM h
      · rw [if_neg c15] at h
        refine wp_aload_n (v := ((54 : Nat) : Int)) rfl (Int.natCast_nonneg _) ?_
        refine wp_iload (v := v4) rfl ?_
        refine wp_iload_n (v := v2) rfl ?_
        obtain ⟨x17, e18, h⟩ := d_bind h
        refine y_callV (as := [(0, v4), (0, v2)]) (S1 := []) (Nat.le_of_ble_eq_true rfl) (by omega) (t_X3_goingsBehind sM e18) (Nat.le_of_ble_eq_true rfl) rfl (show ash 54 = (3, 5) from rfl) (Nat.lt_of_lt_of_le (show 54 < 154 by decide) hS.1.1) (Nat.le_of_ble_eq_true rfl) (Nat.le_of_ble_eq_true rfl) rfl ?_
        refine wp_iload_n (v := v3) rfl ?_
        refine wp_iconst ⟨by decide, by decide⟩ ?_
        obtain ⟨c19, h⟩ := d_ite h
        refine wp_isub c19 ?_
        refine y_ne (fun c20 => ?_) (fun c20 => ?_)
        · rw [if_neg c20] at h
          refine y_blk (t := 84) rfl (show fnd bk_X3_firstGoing 84 = some _ from rfl) aB_X3_firstGoing ?_
          obtain ⟨c21, h⟩ := d_ite h
          refine y_iinc (L1 := [(2, ((54 : Nat) : Int)), (0, v1), (0, v2), (0, v3), (0, (v4 + 1))]) rfl (Nat.le_of_ble_eq_true rfl) ⟨by decide, by decide⟩ c21 rfl ?_
          refine wp_goto ?_
          exact ih (v4 + 1)   sM h
        · rw [if_pos c20] at h
          refine wp_iload (v := v4) rfl ?_
          cases h
          exact y_ret0 (Or.inl rfl) ⟨rfl, rfl, sM⟩
def f_X3_firstGoing (T : Nat) (v1 : Int) (v2 : Int) (M : aM) : Option (Int × aM) :=
 (f_X3_goingsNeeded T v1 v2 M).bind fun x1 =>
 if x1.1 = 0 then
 some ((-2), x1.2) else
 if x1.1 < 1000000 then
 (f_X3_goingsBehind T v1 v2 x1.2).bind fun x7 =>
 if aIn (x1.1 - 1) then
 if x7 = (x1.1 - 1) then
 some (v1, x1.2) else
 l_X3_firstGoing_37 T v1 v2 x1.1 x1.2 (fun w22 =>
 some ((-2), x1.2)) FU 0 else none else
 some ((-2), x1.2)
theorem t_X3_firstGoing {T : T3} {v1 : Int} {v2 : Int} {M : aM} {y : (Int × aM)}  (hS : Sh T.1 M) (h : f_X3_firstGoing T.1 v1 v2 M = some y) : Mr 4 39 [(2, ((54 : Nat) : Int)), (0, v1), (0, v2)] M (some (0, y.1)) y.2 T ∧ Sh T.1 y.2 := by
  have key : ∀ d, 4 ≤ d → Wp d 39 0 [] [(2, ((54 : Nat) : Int)), (0, v1), (0, v2), (9, 0), (9, 0)] [] (M, T) (fun r2 σ2 => r2 = some (0, y.1) ∧ σ2 = (y.2, T) ∧ Sh T.1 y.2) := by
    intro d hd
    rw [f_X3_firstGoing] at h
    refine y_blk (t := 0) rfl (show fnd bk_X3_firstGoing 0 = some _ from rfl) aB_X3_firstGoing ?_
    refine wp_aload_n (v := ((54 : Nat) : Int)) rfl (Int.natCast_nonneg _) ?_
    refine wp_iload_n (v := v1) rfl ?_
    refine wp_iload_n (v := v2) rfl ?_
    obtain ⟨x1, e2, h⟩ := d_bind h
    obtain ⟨r3, s4⟩ := t_X3_goingsNeeded hS e2
    refine y_callV (as := [(0, v1), (0, v2)]) (S1 := []) (Nat.le_of_ble_eq_true rfl) (by omega) r3 (Nat.le_of_ble_eq_true rfl) rfl (show ash 54 = (3, 5) from rfl) (Nat.lt_of_lt_of_le (show 54 < 154 by decide) hS.1.1) (Nat.le_of_ble_eq_true rfl) (Nat.le_of_ble_eq_true rfl) rfl ?_
    refine y_stn (L1 := [(2, ((54 : Nat) : Int)), (0, v1), (0, v2), (0, x1.1), (9, 0)]) (Nat.le_of_ble_eq_true rfl) rfl ?_
    refine wp_iload_n (v := x1.1) rfl ?_
    refine wp_if_eq (fun c5 => ?_) (fun c5 => ?_)
    · rw [if_pos c5] at h
      refine y_blk (t := 17) rfl (show fnd bk_X3_firstGoing 17 = some _ from rfl) aB_X3_firstGoing ?_
      refine wp_bipush (by decide) ?_
      cases h
      exact y_ret0 (Or.inl rfl) ⟨rfl, rfl, s4⟩
    · rw [if_neg c5] at h
      refine wp_iload_n (v := x1.1) rfl ?_
      refine y_ldc (v := 1000000) (by decide) rfl ?_
      refine wp_icmp_lt (fun c6 => ?_) (fun c6 => ?_)
      · rw [if_pos c6] at h
        refine y_blk (t := 20) rfl (show fnd bk_X3_firstGoing 20 = some _ from rfl) aB_X3_firstGoing ?_
        refine wp_aload_n (v := ((54 : Nat) : Int)) rfl (Int.natCast_nonneg _) ?_
        refine wp_iload_n (v := v1) rfl ?_
        refine wp_iload_n (v := v2) rfl ?_
        obtain ⟨x7, e8, h⟩ := d_bind h
        refine y_callV (as := [(0, v1), (0, v2)]) (S1 := []) (Nat.le_of_ble_eq_true rfl) (by omega) (t_X3_goingsBehind s4 e8) (Nat.le_of_ble_eq_true rfl) rfl (show ash 54 = (3, 5) from rfl) (Nat.lt_of_lt_of_le (show 54 < 154 by decide) hS.1.1) (Nat.le_of_ble_eq_true rfl) (Nat.le_of_ble_eq_true rfl) rfl ?_
        refine wp_iload_n (v := x1.1) rfl ?_
        refine wp_iconst ⟨by decide, by decide⟩ ?_
        obtain ⟨c9, h⟩ := d_ite h
        refine wp_isub c9 ?_
        refine y_ne (fun c10 => ?_) (fun c10 => ?_)
        · rw [if_neg c10] at h
          refine y_blk (t := 34) rfl (show fnd bk_X3_firstGoing 34 = some _ from rfl) aB_X3_firstGoing ?_
          refine wp_iconst ⟨by decide, by decide⟩ ?_
          refine y_st (L1 := [(2, ((54 : Nat) : Int)), (0, v1), (0, v2), (0, x1.1), (0, 0)]) (Nat.le_of_ble_eq_true rfl) rfl ?_
          refine tl_X3_firstGoing_37 (by omega) s4 (fun w22   s23 h => ?_) FU 0   s4 h
          refine y_blk (t := 90) rfl (show fnd bk_X3_firstGoing 90 = some _ from rfl) aB_X3_firstGoing ?_
          refine wp_bipush (by decide) ?_
          cases h
          exact y_ret0 (Or.inl rfl) ⟨rfl, rfl, s23⟩
        · rw [if_pos c10] at h
          refine wp_iload_n (v := v1) rfl ?_
          cases h
          exact y_ret0 (Or.inl rfl) ⟨rfl, rfl, s4⟩
      · rw [if_neg c6] at h
        refine y_blk (t := 17) rfl (show fnd bk_X3_firstGoing 17 = some _ from rfl) aB_X3_firstGoing ?_
        refine wp_bipush (by decide) ?_
        cases h
        exact y_ret0 (Or.inl rfl) ⟨rfl, rfl, s4⟩
  exact ⟨fun d hd => Ms.of3 (key d hd), Ms.sh (key 4 (Nat.le_refl _))⟩
theorem aB_X4_empty : ∀ pc, aB 42 pc = fnd bk_X4_empty pc := fun _ => rfl
def f_X4_empty (T : Nat)  (M : aM) : Option (Int × aM) :=
 (some (aup M 59 3 0)).bind fun m1 =>
 (some (aup m1 59 4 0)).bind fun m3 =>
 some (0, m3)
theorem t_X4_empty {T : T3}  {M : aM} {y : (Int × aM)}  (hS : Sh T.1 M) (h : f_X4_empty T.1  M = some y) : Mr 0 42 [(2, ((59 : Nat) : Int))] M (none) y.2 T ∧ Sh T.1 y.2 := by
  have key : ∀ d, 0 ≤ d → Wp d 42 0 [] [(2, ((59 : Nat) : Int))] [] (M, T) (fun r2 σ2 => r2 = none ∧ σ2 = (y.2, T) ∧ Sh T.1 y.2) := by
    intro d hd
    rw [f_X4_empty] at h
    refine y_blk (t := 0) rfl (show fnd bk_X4_empty 0 = some _ from rfl) aB_X4_empty ?_
    refine wp_aload_n (v := ((59 : Nat) : Int)) rfl (Int.natCast_nonneg _) ?_
    refine wp_iconst ⟨by decide, by decide⟩ ?_
    refine y_put (show ash 59 = (4, 5) from rfl) (Nat.lt_of_lt_of_le (show 59 < 154 by decide) hS.1.1) rfl ?_
    obtain ⟨m1, em1, h⟩ := d_bind h
    have em1 := Option.some.inj em1
    have s2 : Sh T.1 m1 := em1 ▸ hS.up (Or.inr ⟨by rw [(show ash 59 = (4, 5) from rfl)]; decide, by rw [(show ash 59 = (4, 5) from rfl)]; decide⟩) (by have := (Nat.lt_of_lt_of_le (show 59 < 154 by decide) hS.1.1); have := hS.1.2; omega)
    rw [em1]
    refine wp_aload_n (v := ((59 : Nat) : Int)) rfl (Int.natCast_nonneg _) ?_
    refine wp_iconst ⟨by decide, by decide⟩ ?_
    refine y_put (show ash 59 = (4, 5) from rfl) (Nat.lt_of_lt_of_le (show 59 < 154 by decide) hS.1.1) rfl ?_
    obtain ⟨m3, em3, h⟩ := d_bind h
    have em3 := Option.some.inj em3
    have s4 : Sh T.1 m3 := em3 ▸ s2.up (Or.inr ⟨by rw [(show ash 59 = (4, 5) from rfl)]; decide, by rw [(show ash 59 = (4, 5) from rfl)]; decide⟩) (by have := (Nat.lt_of_lt_of_le (show 59 < 154 by decide) hS.1.1); have := hS.1.2; omega)
    rw [em3]
    cases h
    exact wp_return ⟨rfl, rfl, s4⟩
  exact ⟨fun d hd => Ms.of3 (key d hd), Ms.sh (key 0 (Nat.le_refl _))⟩
theorem aB_X8_take : ∀ pc, aB 94 pc = fnd bk_X8_take pc := fun _ => rfl
def f_X8_take (T : Nat) (e0 : Nat) (e1 : Nat) (M : aM) : Option (Int × aM) :=
 (some (acpy M (e1 + 1) (e0 + 1) 0 0 3)).bind fun m1 =>
 (some (acpy m1 (e1 + 2) (e0 + 2) 0 0 3)).bind fun m3 =>
 (some (acpy m3 (e1 + 3) (e0 + 3) 0 0 4)).bind fun m5 =>
 (some (aup m5 e0 3 (m5 e1 3))).bind fun m7 =>
 (some (aup m7 e0 4 (m7 e1 4))).bind fun m9 =>
 some (0, m9)
theorem t_X8_take {T : T3} {e0 : Nat} {e1 : Nat} {M : aM} {y : (Int × aM)} (he0 : isSt e0) (he1 : isSt e1) (hS : Sh T.1 M) (h : f_X8_take T.1 e0 e1 M = some y) : Mr 1 94 [(2, ((e0 : Nat) : Int)), (2, ((e1 : Nat) : Int))] M (none) y.2 T ∧ Sh T.1 y.2 := by
  have key : ∀ d, 1 ≤ d → Wp d 94 0 [] [(2, ((e0 : Nat) : Int)), (2, ((e1 : Nat) : Int))] [] (M, T) (fun r2 σ2 => r2 = none ∧ σ2 = (y.2, T) ∧ Sh T.1 y.2) := by
    intro d hd
    rw [f_X8_take] at h
    refine y_blk (t := 0) rfl (show fnd bk_X8_take 0 = some _ from rfl) aB_X8_take ?_
    refine wp_aload_n (v := ((e1 : Nat) : Int)) rfl (Int.natCast_nonneg _) ?_
    refine y_get (aSt0 he1) (ltSt hS.1.1 he1 0 (by decide)) (v := (((e1 + 1) : Nat) : Int)) (rSt0 hS he1) rfl ?_
    refine wp_iconst ⟨by decide, by decide⟩ ?_
    refine wp_aload_n (v := ((e0 : Nat) : Int)) rfl (Int.natCast_nonneg _) ?_
    refine y_get (aSt0 he0) (ltSt hS.1.1 he0 0 (by decide)) (v := (((e0 + 1) : Nat) : Int)) (rSt0 hS he0) rfl ?_
    refine wp_iconst ⟨by decide, by decide⟩ ?_
    refine wp_iconst ⟨by decide, by decide⟩ ?_
    refine y_cpy (by omega) (Nat.le_of_ble_eq_true rfl) (aSt1 he1) (aSt1 he0) (ltSt hS.1.1 he1 1 (by decide)) (ltSt hS.1.1 he0 1 (by decide)) (by decide) (by decide) (by decide) (by decide) (by decide) ?_
    obtain ⟨m1, em1, h⟩ := d_bind h
    have em1 := Option.some.inj em1
    have s2 : Sh T.1 m1 := em1 ▸ hS.cpy (by rw [(aSt1 he0)]) (by have := (ltSt hS.1.1 he0 1 (by decide)); have := hS.1.2; omega)
    rw [show ((3 : Int)).toNat = 3 from rfl, show ((0 : Int)).toNat = 0 from rfl, em1]
    refine wp_aload_n (v := ((e1 : Nat) : Int)) rfl (Int.natCast_nonneg _) ?_
    refine y_get (aSt0 he1) (ltSt hS.1.1 he1 0 (by decide)) (v := (((e1 + 2) : Nat) : Int)) (rSt1 s2 he1) rfl ?_
    refine wp_iconst ⟨by decide, by decide⟩ ?_
    refine wp_aload_n (v := ((e0 : Nat) : Int)) rfl (Int.natCast_nonneg _) ?_
    refine y_get (aSt0 he0) (ltSt hS.1.1 he0 0 (by decide)) (v := (((e0 + 2) : Nat) : Int)) (rSt1 s2 he0) rfl ?_
    refine wp_iconst ⟨by decide, by decide⟩ ?_
    refine wp_iconst ⟨by decide, by decide⟩ ?_
    refine y_cpy (by omega) (Nat.le_of_ble_eq_true rfl) (aSt2 he1) (aSt2 he0) (ltSt hS.1.1 he1 2 (by decide)) (ltSt hS.1.1 he0 2 (by decide)) (by decide) (by decide) (by decide) (by decide) (by decide) ?_
    obtain ⟨m3, em3, h⟩ := d_bind h
    have em3 := Option.some.inj em3
    have s4 : Sh T.1 m3 := em3 ▸ s2.cpy (by rw [(aSt2 he0)]) (by have := (ltSt hS.1.1 he0 2 (by decide)); have := hS.1.2; omega)
    rw [show ((3 : Int)).toNat = 3 from rfl, show ((0 : Int)).toNat = 0 from rfl, em3]
    refine wp_aload_n (v := ((e1 : Nat) : Int)) rfl (Int.natCast_nonneg _) ?_
    refine y_get (aSt0 he1) (ltSt hS.1.1 he1 0 (by decide)) (v := (((e1 + 3) : Nat) : Int)) (rSt2 s4 he1) rfl ?_
    refine wp_iconst ⟨by decide, by decide⟩ ?_
    refine wp_aload_n (v := ((e0 : Nat) : Int)) rfl (Int.natCast_nonneg _) ?_
    refine y_get (aSt0 he0) (ltSt hS.1.1 he0 0 (by decide)) (v := (((e0 + 3) : Nat) : Int)) (rSt2 s4 he0) rfl ?_
    refine wp_iconst ⟨by decide, by decide⟩ ?_
    refine wp_iconst ⟨by decide, by decide⟩ ?_
    refine y_cpy (by omega) (Nat.le_of_ble_eq_true rfl) (aSt3 he1) (aSt3 he0) (ltSt hS.1.1 he1 3 (by decide)) (ltSt hS.1.1 he0 3 (by decide)) (by decide) (by decide) (by decide) (by decide) (by decide) ?_
    obtain ⟨m5, em5, h⟩ := d_bind h
    have em5 := Option.some.inj em5
    have s6 : Sh T.1 m5 := em5 ▸ s4.cpy (by rw [(aSt3 he0)]) (by have := (ltSt hS.1.1 he0 3 (by decide)); have := hS.1.2; omega)
    rw [show ((4 : Int)).toNat = 4 from rfl, show ((0 : Int)).toNat = 0 from rfl, em5]
    refine wp_aload_n (v := ((e0 : Nat) : Int)) rfl (Int.natCast_nonneg _) ?_
    refine wp_aload_n (v := ((e1 : Nat) : Int)) rfl (Int.natCast_nonneg _) ?_
    refine y_get (aSt0 he1) (ltSt hS.1.1 he1 0 (by decide)) (v := m5 e1 3) rfl rfl ?_
    refine y_put (aSt0 he0) (ltSt hS.1.1 he0 0 (by decide)) rfl ?_
    obtain ⟨m7, em7, h⟩ := d_bind h
    have em7 := Option.some.inj em7
    have s8 : Sh T.1 m7 := em7 ▸ s6.up (Or.inr ⟨by rw [(aSt0 he0)]; decide, by rw [(aSt0 he0)]; decide⟩) (by have := (ltSt hS.1.1 he0 0 (by decide)); have := hS.1.2; omega)
    rw [em7]
    refine wp_aload_n (v := ((e0 : Nat) : Int)) rfl (Int.natCast_nonneg _) ?_
    refine wp_aload_n (v := ((e1 : Nat) : Int)) rfl (Int.natCast_nonneg _) ?_
    refine y_get (aSt0 he1) (ltSt hS.1.1 he1 0 (by decide)) (v := m7 e1 4) rfl rfl ?_
    refine y_put (aSt0 he0) (ltSt hS.1.1 he0 0 (by decide)) rfl ?_
    obtain ⟨m9, em9, h⟩ := d_bind h
    have em9 := Option.some.inj em9
    have s10 : Sh T.1 m9 := em9 ▸ s8.up (Or.inr ⟨by rw [(aSt0 he0)]; decide, by rw [(aSt0 he0)]; decide⟩) (by have := (ltSt hS.1.1 he0 0 (by decide)); have := hS.1.2; omega)
    rw [em9]
    cases h
    exact wp_return ⟨rfl, rfl, s10⟩
  exact ⟨fun d hd => Ms.of3 (key d hd), Ms.sh (key 1 (Nat.le_refl _))⟩
theorem aB_X4_keep : ∀ pc, aB 43 pc = fnd bk_X4_keep pc := fun _ => rfl
def f_X4_keep (T : Nat) (e1 : Nat) (M : aM) : Option (Int × aM) :=
 if 0 ≤ (M 59 2) ∧ (M 59 2) < 16 then
 (f_X8_take T (62 + 4 * ((M 59 2)).toNat) e1 M).bind fun x2 =>
 if aIn ((x2.2 59 2) + 1) then
 (some (aup x2.2 59 2 (arem ((x2.2 59 2) + 1) 16))).bind fun m7 =>
 if aIn ((m7 59 3) + 1) then
 (some (aup m7 59 3 (if 16 < ((m7 59 3) + 1) then 16 else ((m7 59 3) + 1)))).bind fun m10 =>
 some (0, m10) else none else none else none
theorem t_X4_keep {T : T3} {e1 : Nat} {M : aM} {y : (Int × aM)} (he1 : isSt e1) (hS : Sh T.1 M) (h : f_X4_keep T.1 e1 M = some y) : Mr 2 43 [(2, ((59 : Nat) : Int)), (2, ((e1 : Nat) : Int))] M (none) y.2 T ∧ Sh T.1 y.2 := by
  have key : ∀ d, 2 ≤ d → Wp d 43 0 [] [(2, ((59 : Nat) : Int)), (2, ((e1 : Nat) : Int))] [] (M, T) (fun r2 σ2 => r2 = none ∧ σ2 = (y.2, T) ∧ Sh T.1 y.2) := by
    intro d hd
    rw [f_X4_keep] at h
    refine y_blk (t := 0) rfl (show fnd bk_X4_keep 0 = some _ from rfl) aB_X4_keep ?_
    refine wp_aload_n (v := ((59 : Nat) : Int)) rfl (Int.natCast_nonneg _) ?_
    refine y_get (show ash 59 = (4, 5) from rfl) (Nat.lt_of_lt_of_le (show 59 < 154 by decide) hS.1.1) (v := ((60 : Nat) : Int)) (hS.at 59 0 60 (by decide +kernel)) rfl ?_
    refine wp_aload_n (v := ((59 : Nat) : Int)) rfl (Int.natCast_nonneg _) ?_
    refine y_get (show ash 59 = (4, 5) from rfl) (Nat.lt_of_lt_of_le (show 59 < 154 by decide) hS.1.1) (v := M 59 2) rfl rfl ?_
    obtain ⟨c1, h⟩ := d_ite h
    refine y_aald (show ash 60 = (103, 16) from rfl) (Nat.lt_of_lt_of_le (show 60 < 154 by decide) hS.1.1) (Nat.ne_of_lt (Nat.lt_of_lt_of_le (Nat.lt_of_lt_of_le (show 60 < 154 by decide) hS.1.1) hS.1.2)) c1 (v := (((62 + 4 * ((M 59 2)).toNat) : Nat) : Int)) (rArr60 hS c1) ?_
    refine wp_aload_n (v := ((e1 : Nat) : Int)) rfl (Int.natCast_nonneg _) ?_
    obtain ⟨x2, e3, h⟩ := d_bind h
    obtain ⟨r4, s5⟩ := t_X8_take (isArr60 c1) he1 hS e3
    refine y_callVv (as := [(2, ((e1 : Nat) : Int))]) (S1 := []) (Nat.le_of_ble_eq_true rfl) (by omega) r4 rfl (aSt0 (isArr60 c1)) (ltSt hS.1.1 (isArr60 c1) 0 (by decide)) (Nat.le_of_ble_eq_true rfl) (Nat.le_of_ble_eq_true rfl) rfl ?_
    refine wp_aload_n (v := ((59 : Nat) : Int)) rfl (Int.natCast_nonneg _) ?_
    refine wp_aload_n (v := ((59 : Nat) : Int)) rfl (Int.natCast_nonneg _) ?_
    refine y_get (show ash 59 = (4, 5) from rfl) (Nat.lt_of_lt_of_le (show 59 < 154 by decide) hS.1.1) (v := x2.2 59 2) rfl rfl ?_
    refine wp_iconst ⟨by decide, by decide⟩ ?_
    obtain ⟨c6, h⟩ := d_ite h
    refine wp_iadd c6 ?_
    refine wp_bipush (by decide) ?_
    refine wp_irem (by decide) ?_
    refine y_put (show ash 59 = (4, 5) from rfl) (Nat.lt_of_lt_of_le (show 59 < 154 by decide) hS.1.1) rfl ?_
    obtain ⟨m7, em7, h⟩ := d_bind h
    have em7 := Option.some.inj em7
    have s8 : Sh T.1 m7 := em7 ▸ s5.up (Or.inr ⟨by rw [(show ash 59 = (4, 5) from rfl)]; decide, by rw [(show ash 59 = (4, 5) from rfl)]; decide⟩) (by have := (Nat.lt_of_lt_of_le (show 59 < 154 by decide) hS.1.1); have := hS.1.2; omega)
    rw [em7]
    refine wp_aload_n (v := ((59 : Nat) : Int)) rfl (Int.natCast_nonneg _) ?_
    refine wp_aload_n (v := ((59 : Nat) : Int)) rfl (Int.natCast_nonneg _) ?_
    refine y_get (show ash 59 = (4, 5) from rfl) (Nat.lt_of_lt_of_le (show 59 < 154 by decide) hS.1.1) (v := m7 59 3) rfl rfl ?_
    refine wp_iconst ⟨by decide, by decide⟩ ?_
    obtain ⟨c9, h⟩ := d_ite h
    refine wp_iadd c9 ?_
    refine wp_bipush (by decide) ?_
    refine wp_min ⟨by omega, Nat.le_of_ble_eq_true rfl, rfl⟩ ?_
    refine y_put (show ash 59 = (4, 5) from rfl) (Nat.lt_of_lt_of_le (show 59 < 154 by decide) hS.1.1) rfl ?_
    obtain ⟨m10, em10, h⟩ := d_bind h
    have em10 := Option.some.inj em10
    have s11 : Sh T.1 m10 := em10 ▸ s8.up (Or.inr ⟨by rw [(show ash 59 = (4, 5) from rfl)]; decide, by rw [(show ash 59 = (4, 5) from rfl)]; decide⟩) (by have := (Nat.lt_of_lt_of_le (show 59 < 154 by decide) hS.1.1); have := hS.1.2; omega)
    rw [em10]
    cases h
    exact wp_return ⟨rfl, rfl, s11⟩
  exact ⟨fun d hd => Ms.of3 (key d hd), Ms.sh (key 2 (Nat.le_refl _))⟩
theorem aB_X4_giveBack : ∀ pc, aB 44 pc = fnd bk_X4_giveBack pc := fun _ => rfl
def f_X4_giveBack (T : Nat) (e1 : Nat) (M : aM) : Option (Int × aM) :=
 if aIn ((M 59 2) + 16) then
 if aIn (((M 59 2) + 16) - 1) then
 (some (aup M 59 2 (arem (((M 59 2) + 16) - 1) 16))).bind fun m3 =>
 if aIn ((m3 59 3) - 1) then
 (some (aup m3 59 3 ((m3 59 3) - 1))).bind fun m6 =>
 if 0 ≤ (m6 59 2) ∧ (m6 59 2) < 16 then
 (f_X8_take T e1 (62 + 4 * ((m6 59 2)).toNat) m6).bind fun x9 =>
 some (0, x9.2) else none else none else none else none
theorem t_X4_giveBack {T : T3} {e1 : Nat} {M : aM} {y : (Int × aM)} (he1 : isSt e1) (hS : Sh T.1 M) (h : f_X4_giveBack T.1 e1 M = some y) : Mr 2 44 [(2, ((59 : Nat) : Int)), (2, ((e1 : Nat) : Int))] M (none) y.2 T ∧ Sh T.1 y.2 := by
  have key : ∀ d, 2 ≤ d → Wp d 44 0 [] [(2, ((59 : Nat) : Int)), (2, ((e1 : Nat) : Int))] [] (M, T) (fun r2 σ2 => r2 = none ∧ σ2 = (y.2, T) ∧ Sh T.1 y.2) := by
    intro d hd
    rw [f_X4_giveBack] at h
    refine y_blk (t := 0) rfl (show fnd bk_X4_giveBack 0 = some _ from rfl) aB_X4_giveBack ?_
    refine wp_aload_n (v := ((59 : Nat) : Int)) rfl (Int.natCast_nonneg _) ?_
    refine wp_aload_n (v := ((59 : Nat) : Int)) rfl (Int.natCast_nonneg _) ?_
    refine y_get (show ash 59 = (4, 5) from rfl) (Nat.lt_of_lt_of_le (show 59 < 154 by decide) hS.1.1) (v := M 59 2) rfl rfl ?_
    refine wp_bipush (by decide) ?_
    obtain ⟨c1, h⟩ := d_ite h
    refine wp_iadd c1 ?_
    refine wp_iconst ⟨by decide, by decide⟩ ?_
    obtain ⟨c2, h⟩ := d_ite h
    refine wp_isub c2 ?_
    refine wp_bipush (by decide) ?_
    refine wp_irem (by decide) ?_
    refine y_put (show ash 59 = (4, 5) from rfl) (Nat.lt_of_lt_of_le (show 59 < 154 by decide) hS.1.1) rfl ?_
    obtain ⟨m3, em3, h⟩ := d_bind h
    have em3 := Option.some.inj em3
    have s4 : Sh T.1 m3 := em3 ▸ hS.up (Or.inr ⟨by rw [(show ash 59 = (4, 5) from rfl)]; decide, by rw [(show ash 59 = (4, 5) from rfl)]; decide⟩) (by have := (Nat.lt_of_lt_of_le (show 59 < 154 by decide) hS.1.1); have := hS.1.2; omega)
    rw [em3]
    refine wp_aload_n (v := ((59 : Nat) : Int)) rfl (Int.natCast_nonneg _) ?_
    refine wp_dup (Or.inr rfl) ?_
    refine y_get (show ash 59 = (4, 5) from rfl) (Nat.lt_of_lt_of_le (show 59 < 154 by decide) hS.1.1) (v := m3 59 3) rfl rfl ?_
    refine wp_iconst ⟨by decide, by decide⟩ ?_
    obtain ⟨c5, h⟩ := d_ite h
    refine wp_isub c5 ?_
    refine y_put (show ash 59 = (4, 5) from rfl) (Nat.lt_of_lt_of_le (show 59 < 154 by decide) hS.1.1) rfl ?_
    obtain ⟨m6, em6, h⟩ := d_bind h
    have em6 := Option.some.inj em6
    have s7 : Sh T.1 m6 := em6 ▸ s4.up (Or.inr ⟨by rw [(show ash 59 = (4, 5) from rfl)]; decide, by rw [(show ash 59 = (4, 5) from rfl)]; decide⟩) (by have := (Nat.lt_of_lt_of_le (show 59 < 154 by decide) hS.1.1); have := hS.1.2; omega)
    rw [em6]
    refine wp_aload_n (v := ((e1 : Nat) : Int)) rfl (Int.natCast_nonneg _) ?_
    refine wp_aload_n (v := ((59 : Nat) : Int)) rfl (Int.natCast_nonneg _) ?_
    refine y_get (show ash 59 = (4, 5) from rfl) (Nat.lt_of_lt_of_le (show 59 < 154 by decide) hS.1.1) (v := ((60 : Nat) : Int)) (s7.at 59 0 60 (by decide +kernel)) rfl ?_
    refine wp_aload_n (v := ((59 : Nat) : Int)) rfl (Int.natCast_nonneg _) ?_
    refine y_get (show ash 59 = (4, 5) from rfl) (Nat.lt_of_lt_of_le (show 59 < 154 by decide) hS.1.1) (v := m6 59 2) rfl rfl ?_
    obtain ⟨c8, h⟩ := d_ite h
    refine y_aald (show ash 60 = (103, 16) from rfl) (Nat.lt_of_lt_of_le (show 60 < 154 by decide) hS.1.1) (Nat.ne_of_lt (Nat.lt_of_lt_of_le (Nat.lt_of_lt_of_le (show 60 < 154 by decide) hS.1.1) hS.1.2)) c8 (v := (((62 + 4 * ((m6 59 2)).toNat) : Nat) : Int)) (rArr60 s7 c8) ?_
    obtain ⟨x9, e10, h⟩ := d_bind h
    obtain ⟨r11, s12⟩ := t_X8_take he1 (isArr60 c8) s7 e10
    refine y_callVv (as := [(2, (((62 + 4 * ((m6 59 2)).toNat) : Nat) : Int))]) (S1 := []) (Nat.le_of_ble_eq_true rfl) (by omega) r11 rfl (aSt0 he1) (ltSt hS.1.1 he1 0 (by decide)) (Nat.le_of_ble_eq_true rfl) (Nat.le_of_ble_eq_true rfl) rfl ?_
    cases h
    exact wp_return ⟨rfl, rfl, s12⟩
  exact ⟨fun d hd => Ms.of3 (key d hd), Ms.sh (key 2 (Nat.le_refl _))⟩
theorem aB_X4_addImage : ∀ pc, aB 45 pc = fnd bk_X4_addImage pc := fun _ => rfl
def f_X4_addImage (T : Nat) (e1 : Nat) (M : aM) : Option (Int × aM) :=
 if 0 ≤ (M 59 4) ∧ (M 59 4) < 3 then
 (f_X8_take T (126 + 4 * ((M 59 4)).toNat) e1 M).bind fun x2 =>
 if aIn ((x2.2 59 4) + 1) then
 (some (aup x2.2 59 4 ((x2.2 59 4) + 1))).bind fun m7 =>
 if aIn ((m7 59 4) - 1) then
 some (((m7 59 4) - 1), m7) else none else none else none
theorem t_X4_addImage {T : T3} {e1 : Nat} {M : aM} {y : (Int × aM)} (he1 : isSt e1) (hS : Sh T.1 M) (h : f_X4_addImage T.1 e1 M = some y) : Mr 2 45 [(2, ((59 : Nat) : Int)), (2, ((e1 : Nat) : Int))] M (some (0, y.1)) y.2 T ∧ Sh T.1 y.2 := by
  have key : ∀ d, 2 ≤ d → Wp d 45 0 [] [(2, ((59 : Nat) : Int)), (2, ((e1 : Nat) : Int))] [] (M, T) (fun r2 σ2 => r2 = some (0, y.1) ∧ σ2 = (y.2, T) ∧ Sh T.1 y.2) := by
    intro d hd
    rw [f_X4_addImage] at h
    refine y_blk (t := 0) rfl (show fnd bk_X4_addImage 0 = some _ from rfl) aB_X4_addImage ?_
    refine wp_aload_n (v := ((59 : Nat) : Int)) rfl (Int.natCast_nonneg _) ?_
    refine y_get (show ash 59 = (4, 5) from rfl) (Nat.lt_of_lt_of_le (show 59 < 154 by decide) hS.1.1) (v := ((61 : Nat) : Int)) (hS.at 59 1 61 (by decide +kernel)) rfl ?_
    refine wp_aload_n (v := ((59 : Nat) : Int)) rfl (Int.natCast_nonneg _) ?_
    refine y_get (show ash 59 = (4, 5) from rfl) (Nat.lt_of_lt_of_le (show 59 < 154 by decide) hS.1.1) (v := M 59 4) rfl rfl ?_
    obtain ⟨c1, h⟩ := d_ite h
    refine y_aald (show ash 61 = (103, 3) from rfl) (Nat.lt_of_lt_of_le (show 61 < 154 by decide) hS.1.1) (Nat.ne_of_lt (Nat.lt_of_lt_of_le (Nat.lt_of_lt_of_le (show 61 < 154 by decide) hS.1.1) hS.1.2)) c1 (v := (((126 + 4 * ((M 59 4)).toNat) : Nat) : Int)) (rArr61 hS c1) ?_
    refine wp_aload_n (v := ((e1 : Nat) : Int)) rfl (Int.natCast_nonneg _) ?_
    obtain ⟨x2, e3, h⟩ := d_bind h
    obtain ⟨r4, s5⟩ := t_X8_take (isArr61 c1) he1 hS e3
    refine y_callVv (as := [(2, ((e1 : Nat) : Int))]) (S1 := []) (Nat.le_of_ble_eq_true rfl) (by omega) r4 rfl (aSt0 (isArr61 c1)) (ltSt hS.1.1 (isArr61 c1) 0 (by decide)) (Nat.le_of_ble_eq_true rfl) (Nat.le_of_ble_eq_true rfl) rfl ?_
    refine wp_aload_n (v := ((59 : Nat) : Int)) rfl (Int.natCast_nonneg _) ?_
    refine wp_dup (Or.inr rfl) ?_
    refine y_get (show ash 59 = (4, 5) from rfl) (Nat.lt_of_lt_of_le (show 59 < 154 by decide) hS.1.1) (v := x2.2 59 4) rfl rfl ?_
    refine wp_iconst ⟨by decide, by decide⟩ ?_
    obtain ⟨c6, h⟩ := d_ite h
    refine wp_iadd c6 ?_
    refine y_put (show ash 59 = (4, 5) from rfl) (Nat.lt_of_lt_of_le (show 59 < 154 by decide) hS.1.1) rfl ?_
    obtain ⟨m7, em7, h⟩ := d_bind h
    have em7 := Option.some.inj em7
    have s8 : Sh T.1 m7 := em7 ▸ s5.up (Or.inr ⟨by rw [(show ash 59 = (4, 5) from rfl)]; decide, by rw [(show ash 59 = (4, 5) from rfl)]; decide⟩) (by have := (Nat.lt_of_lt_of_le (show 59 < 154 by decide) hS.1.1); have := hS.1.2; omega)
    rw [em7]
    refine wp_aload_n (v := ((59 : Nat) : Int)) rfl (Int.natCast_nonneg _) ?_
    refine y_get (show ash 59 = (4, 5) from rfl) (Nat.lt_of_lt_of_le (show 59 < 154 by decide) hS.1.1) (v := m7 59 4) rfl rfl ?_
    refine wp_iconst ⟨by decide, by decide⟩ ?_
    obtain ⟨c9, h⟩ := d_ite h
    refine wp_isub c9 ?_
    cases h
    exact y_ret0 (Or.inl rfl) ⟨rfl, rfl, s8⟩
  exact ⟨fun d hd => Ms.of3 (key d hd), Ms.sh (key 2 (Nat.le_refl _))⟩
theorem aB_X4_goBack : ∀ pc, aB 46 pc = fnd bk_X4_goBack pc := fun _ => rfl
def f_X4_goBack (T : Nat) (e1 : Nat) (v2 : Int) (M : aM) : Option (Int × aM) :=
 if 0 ≤ v2 ∧ v2 < 3 then
 (f_X8_take T e1 (126 + 4 * (v2).toNat) M).bind fun x2 =>
 (some (aup x2.2 59 3 0)).bind fun m6 =>
 some (0, m6) else none
theorem t_X4_goBack {T : T3} {e1 : Nat} {v2 : Int} {M : aM} {y : (Int × aM)} (he1 : isSt e1) (hS : Sh T.1 M) (h : f_X4_goBack T.1 e1 v2 M = some y) : Mr 2 46 [(2, ((59 : Nat) : Int)), (2, ((e1 : Nat) : Int)), (0, v2)] M (none) y.2 T ∧ Sh T.1 y.2 := by
  have key : ∀ d, 2 ≤ d → Wp d 46 0 [] [(2, ((59 : Nat) : Int)), (2, ((e1 : Nat) : Int)), (0, v2)] [] (M, T) (fun r2 σ2 => r2 = none ∧ σ2 = (y.2, T) ∧ Sh T.1 y.2) := by
    intro d hd
    rw [f_X4_goBack] at h
    refine y_blk (t := 0) rfl (show fnd bk_X4_goBack 0 = some _ from rfl) aB_X4_goBack ?_
    refine wp_aload_n (v := ((e1 : Nat) : Int)) rfl (Int.natCast_nonneg _) ?_
    refine wp_aload_n (v := ((59 : Nat) : Int)) rfl (Int.natCast_nonneg _) ?_
    refine y_get (show ash 59 = (4, 5) from rfl) (Nat.lt_of_lt_of_le (show 59 < 154 by decide) hS.1.1) (v := ((61 : Nat) : Int)) (hS.at 59 1 61 (by decide +kernel)) rfl ?_
    refine wp_iload_n (v := v2) rfl ?_
    obtain ⟨c1, h⟩ := d_ite h
    refine y_aald (show ash 61 = (103, 3) from rfl) (Nat.lt_of_lt_of_le (show 61 < 154 by decide) hS.1.1) (Nat.ne_of_lt (Nat.lt_of_lt_of_le (Nat.lt_of_lt_of_le (show 61 < 154 by decide) hS.1.1) hS.1.2)) c1 (v := (((126 + 4 * (v2).toNat) : Nat) : Int)) (rArr61 hS c1) ?_
    obtain ⟨x2, e3, h⟩ := d_bind h
    obtain ⟨r4, s5⟩ := t_X8_take he1 (isArr61 c1) hS e3
    refine y_callVv (as := [(2, (((126 + 4 * (v2).toNat) : Nat) : Int))]) (S1 := []) (Nat.le_of_ble_eq_true rfl) (by omega) r4 rfl (aSt0 he1) (ltSt hS.1.1 he1 0 (by decide)) (Nat.le_of_ble_eq_true rfl) (Nat.le_of_ble_eq_true rfl) rfl ?_
    refine wp_aload_n (v := ((59 : Nat) : Int)) rfl (Int.natCast_nonneg _) ?_
    refine wp_iconst ⟨by decide, by decide⟩ ?_
    refine y_put (show ash 59 = (4, 5) from rfl) (Nat.lt_of_lt_of_le (show 59 < 154 by decide) hS.1.1) rfl ?_
    obtain ⟨m6, em6, h⟩ := d_bind h
    have em6 := Option.some.inj em6
    have s7 : Sh T.1 m6 := em6 ▸ s5.up (Or.inr ⟨by rw [(show ash 59 = (4, 5) from rfl)]; decide, by rw [(show ash 59 = (4, 5) from rfl)]; decide⟩) (by have := (Nat.lt_of_lt_of_le (show 59 < 154 by decide) hS.1.1); have := hS.1.2; omega)
    rw [em6]
    cases h
    exact wp_return ⟨rfl, rfl, s7⟩
  exact ⟨fun d hd => Ms.of3 (key d hd), Ms.sh (key 2 (Nat.le_refl _))⟩

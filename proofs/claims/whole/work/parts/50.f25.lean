/-! ===== methods as functions ===== -/
theorem aB_X13_readLine : ∀ pc, aB 225 pc = fnd bk_X13_readLine pc := fun _ => rfl
def f_X13_readLine (T : Nat)  (M : aM) : Option (Int × aM) :=
 (f_X13_isWord T 2000024 M).bind fun x1 =>
 if x1 = 0 then
 (f_X13_isWord T 2000025 M).bind fun x4 =>
 if x4 = 0 then
 (f_X13_isWord T 2000026 M).bind fun x7 =>
 if x7 = 0 then
 (f_X13_isWord T 2000027 M).bind fun x10 =>
 if x10 = 0 then
 (f_X13_isWord T 2000028 M).bind fun x13 =>
 if x13 = 0 then
 (f_X13_isWord T 2000029 M).bind fun x16 =>
 if x16 = 0 then
 (f_X13_isWord T 2000030 M).bind fun x19 =>
 if x19 = 0 then
 (f_X13_isWord T 2000031 M).bind fun x22 =>
 if x22 = 0 then
 (f_X13_flaw T 1 M).bind fun x25 =>
 some (0, x25.2) else
 (f_X13_readTalk T M).bind fun x29 =>
 some (0, x29.2) else
 (f_X13_readUnsure T M).bind fun x33 =>
 some (0, x33.2) else
 (f_X13_readEcho T M).bind fun x37 =>
 some (0, x37.2) else
 (f_X13_readFolk T M).bind fun x41 =>
 some (0, x41.2) else
 (f_X13_readVoice T M).bind fun x45 =>
 some (0, x45.2) else
 (f_X13_readWay T M).bind fun x49 =>
 some (0, x49.2) else
 (f_X13_readACave T M).bind fun x53 =>
 some (0, x53.2) else
 (f_X13_readWell T M).bind fun x57 =>
 some (0, x57.2)
theorem t_X13_readLine {T : T3}  {M : aM} {y : (Int × aM)}  (hS : Sh T.1 M) (h : f_X13_readLine T.1  M = some y) : Mr 11 225 [(2, ((138 : Nat) : Int))] M (none) y.2 T ∧ Sh T.1 y.2 := by
  have key : ∀ d, 11 ≤ d → Wp d 225 0 [] [(2, ((138 : Nat) : Int))] [] (M, T) (fun r2 σ2 => r2 = none ∧ σ2 = (y.2, T) ∧ Sh T.1 y.2) := by
    intro d hd
    rw [f_X13_readLine] at h
    refine y_blk (t := 0) rfl (show fnd bk_X13_readLine 0 = some _ from rfl) aB_X13_readLine ?_
    refine wp_aload_n (v := ((138 : Nat) : Int)) rfl (Int.natCast_nonneg _) ?_
    refine y_ldcS (v := 2000024) rfl ?_
    obtain ⟨x1, e2, h⟩ := d_bind h
    refine y_callV (as := [(2, 2000024)]) (S1 := []) (Nat.le_of_ble_eq_true rfl) (by omega) (t_X13_isWord hS e2) (Nat.le_of_ble_eq_true rfl) rfl (show ash 138 = (13, 38) from rfl) (Nat.lt_of_lt_of_le (show 138 < 154 by decide) hS.1.1) (Nat.le_of_ble_eq_true rfl) (Nat.le_of_ble_eq_true rfl) rfl ?_
    refine wp_if_eq (fun c3 => ?_) (fun c3 => ?_)
    · rw [if_pos c3] at h
      refine y_blk (t := 16) rfl (show fnd bk_X13_readLine 16 = some _ from rfl) aB_X13_readLine ?_
      refine wp_aload_n (v := ((138 : Nat) : Int)) rfl (Int.natCast_nonneg _) ?_
      refine y_ldcS (v := 2000025) rfl ?_
      obtain ⟨x4, e5, h⟩ := d_bind h
      refine y_callV (as := [(2, 2000025)]) (S1 := []) (Nat.le_of_ble_eq_true rfl) (by omega) (t_X13_isWord hS e5) (Nat.le_of_ble_eq_true rfl) rfl (show ash 138 = (13, 38) from rfl) (Nat.lt_of_lt_of_le (show 138 < 154 by decide) hS.1.1) (Nat.le_of_ble_eq_true rfl) (Nat.le_of_ble_eq_true rfl) rfl ?_
      refine wp_if_eq (fun c6 => ?_) (fun c6 => ?_)
      · rw [if_pos c6] at h
        refine y_blk (t := 32) rfl (show fnd bk_X13_readLine 32 = some _ from rfl) aB_X13_readLine ?_
        refine wp_aload_n (v := ((138 : Nat) : Int)) rfl (Int.natCast_nonneg _) ?_
        refine y_ldcS (v := 2000026) rfl ?_
        obtain ⟨x7, e8, h⟩ := d_bind h
        refine y_callV (as := [(2, 2000026)]) (S1 := []) (Nat.le_of_ble_eq_true rfl) (by omega) (t_X13_isWord hS e8) (Nat.le_of_ble_eq_true rfl) rfl (show ash 138 = (13, 38) from rfl) (Nat.lt_of_lt_of_le (show 138 < 154 by decide) hS.1.1) (Nat.le_of_ble_eq_true rfl) (Nat.le_of_ble_eq_true rfl) rfl ?_
        refine wp_if_eq (fun c9 => ?_) (fun c9 => ?_)
        · rw [if_pos c9] at h
          refine y_blk (t := 48) rfl (show fnd bk_X13_readLine 48 = some _ from rfl) aB_X13_readLine ?_
          refine wp_aload_n (v := ((138 : Nat) : Int)) rfl (Int.natCast_nonneg _) ?_
          refine y_ldcS (v := 2000027) rfl ?_
          obtain ⟨x10, e11, h⟩ := d_bind h
          refine y_callV (as := [(2, 2000027)]) (S1 := []) (Nat.le_of_ble_eq_true rfl) (by omega) (t_X13_isWord hS e11) (Nat.le_of_ble_eq_true rfl) rfl (show ash 138 = (13, 38) from rfl) (Nat.lt_of_lt_of_le (show 138 < 154 by decide) hS.1.1) (Nat.le_of_ble_eq_true rfl) (Nat.le_of_ble_eq_true rfl) rfl ?_
          refine wp_if_eq (fun c12 => ?_) (fun c12 => ?_)
          · rw [if_pos c12] at h
            refine y_blk (t := 64) rfl (show fnd bk_X13_readLine 64 = some _ from rfl) aB_X13_readLine ?_
            refine wp_aload_n (v := ((138 : Nat) : Int)) rfl (Int.natCast_nonneg _) ?_
            refine y_ldcS (v := 2000028) rfl ?_
            obtain ⟨x13, e14, h⟩ := d_bind h
            refine y_callV (as := [(2, 2000028)]) (S1 := []) (Nat.le_of_ble_eq_true rfl) (by omega) (t_X13_isWord hS e14) (Nat.le_of_ble_eq_true rfl) rfl (show ash 138 = (13, 38) from rfl) (Nat.lt_of_lt_of_le (show 138 < 154 by decide) hS.1.1) (Nat.le_of_ble_eq_true rfl) (Nat.le_of_ble_eq_true rfl) rfl ?_
            refine wp_if_eq (fun c15 => ?_) (fun c15 => ?_)
            · rw [if_pos c15] at h
              refine y_blk (t := 80) rfl (show fnd bk_X13_readLine 80 = some _ from rfl) aB_X13_readLine ?_
              refine wp_aload_n (v := ((138 : Nat) : Int)) rfl (Int.natCast_nonneg _) ?_
              refine y_ldcS (v := 2000029) rfl ?_
              obtain ⟨x16, e17, h⟩ := d_bind h
              refine y_callV (as := [(2, 2000029)]) (S1 := []) (Nat.le_of_ble_eq_true rfl) (by omega) (t_X13_isWord hS e17) (Nat.le_of_ble_eq_true rfl) rfl (show ash 138 = (13, 38) from rfl) (Nat.lt_of_lt_of_le (show 138 < 154 by decide) hS.1.1) (Nat.le_of_ble_eq_true rfl) (Nat.le_of_ble_eq_true rfl) rfl ?_
              refine wp_if_eq (fun c18 => ?_) (fun c18 => ?_)
              · rw [if_pos c18] at h
                refine y_blk (t := 96) rfl (show fnd bk_X13_readLine 96 = some _ from rfl) aB_X13_readLine ?_
                refine wp_aload_n (v := ((138 : Nat) : Int)) rfl (Int.natCast_nonneg _) ?_
                refine y_ldcS (v := 2000030) rfl ?_
                obtain ⟨x19, e20, h⟩ := d_bind h
                refine y_callV (as := [(2, 2000030)]) (S1 := []) (Nat.le_of_ble_eq_true rfl) (by omega) (t_X13_isWord hS e20) (Nat.le_of_ble_eq_true rfl) rfl (show ash 138 = (13, 38) from rfl) (Nat.lt_of_lt_of_le (show 138 < 154 by decide) hS.1.1) (Nat.le_of_ble_eq_true rfl) (Nat.le_of_ble_eq_true rfl) rfl ?_
                refine wp_if_eq (fun c21 => ?_) (fun c21 => ?_)
                · rw [if_pos c21] at h
                  refine y_blk (t := 112) rfl (show fnd bk_X13_readLine 112 = some _ from rfl) aB_X13_readLine ?_
                  refine wp_aload_n (v := ((138 : Nat) : Int)) rfl (Int.natCast_nonneg _) ?_
                  refine y_ldcS (v := 2000031) rfl ?_
                  obtain ⟨x22, e23, h⟩ := d_bind h
                  refine y_callV (as := [(2, 2000031)]) (S1 := []) (Nat.le_of_ble_eq_true rfl) (by omega) (t_X13_isWord hS e23) (Nat.le_of_ble_eq_true rfl) rfl (show ash 138 = (13, 38) from rfl) (Nat.lt_of_lt_of_le (show 138 < 154 by decide) hS.1.1) (Nat.le_of_ble_eq_true rfl) (Nat.le_of_ble_eq_true rfl) rfl ?_
                  refine wp_if_eq (fun c24 => ?_) (fun c24 => ?_)
                  · rw [if_pos c24] at h
                    refine y_blk (t := 128) rfl (show fnd bk_X13_readLine 128 = some _ from rfl) aB_X13_readLine ?_
                    refine wp_aload_n (v := ((138 : Nat) : Int)) rfl (Int.natCast_nonneg _) ?_
                    refine wp_iconst ⟨by decide, by decide⟩ ?_
                    obtain ⟨x25, e26, h⟩ := d_bind h
                    obtain ⟨r27, s28⟩ := t_X13_flaw hS e26
                    refine y_callVv (as := [(0, 1)]) (S1 := []) (Nat.le_of_ble_eq_true rfl) (by omega) r27 rfl (show ash 138 = (13, 38) from rfl) (Nat.lt_of_lt_of_le (show 138 < 154 by decide) hS.1.1) (Nat.le_of_ble_eq_true rfl) (Nat.le_of_ble_eq_true rfl) rfl ?_
                    refine y_blk (t := 133) rfl (show fnd bk_X13_readLine 133 = some _ from rfl) aB_X13_readLine ?_
                    cases h
                    exact wp_return ⟨rfl, rfl, s28⟩
                  · rw [if_neg c24] at h
                    refine wp_aload_n (v := ((138 : Nat) : Int)) rfl (Int.natCast_nonneg _) ?_
                    obtain ⟨x29, e30, h⟩ := d_bind h
                    obtain ⟨r31, s32⟩ := t_X13_readTalk hS e30
                    refine y_callVv (as := []) (S1 := []) (Nat.le_of_ble_eq_true rfl) (by omega) r31 rfl (show ash 138 = (13, 38) from rfl) (Nat.lt_of_lt_of_le (show 138 < 154 by decide) hS.1.1) (Nat.le_of_ble_eq_true rfl) (Nat.le_of_ble_eq_true rfl) rfl ?_
                    refine wp_goto ?_
                    refine y_blk (t := 133) rfl (show fnd bk_X13_readLine 133 = some _ from rfl) aB_X13_readLine ?_
                    cases h
                    exact wp_return ⟨rfl, rfl, s32⟩
                · rw [if_neg c21] at h
                  refine wp_aload_n (v := ((138 : Nat) : Int)) rfl (Int.natCast_nonneg _) ?_
                  obtain ⟨x33, e34, h⟩ := d_bind h
                  obtain ⟨r35, s36⟩ := t_X13_readUnsure hS e34
                  refine y_callVv (as := []) (S1 := []) (Nat.le_of_ble_eq_true rfl) (by omega) r35 rfl (show ash 138 = (13, 38) from rfl) (Nat.lt_of_lt_of_le (show 138 < 154 by decide) hS.1.1) (Nat.le_of_ble_eq_true rfl) (Nat.le_of_ble_eq_true rfl) rfl ?_
                  refine wp_goto ?_
                  refine y_blk (t := 133) rfl (show fnd bk_X13_readLine 133 = some _ from rfl) aB_X13_readLine ?_
                  cases h
                  exact wp_return ⟨rfl, rfl, s36⟩
              · rw [if_neg c18] at h
                refine wp_aload_n (v := ((138 : Nat) : Int)) rfl (Int.natCast_nonneg _) ?_
                obtain ⟨x37, e38, h⟩ := d_bind h
                obtain ⟨r39, s40⟩ := t_X13_readEcho hS e38
                refine y_callVv (as := []) (S1 := []) (Nat.le_of_ble_eq_true rfl) (by omega) r39 rfl (show ash 138 = (13, 38) from rfl) (Nat.lt_of_lt_of_le (show 138 < 154 by decide) hS.1.1) (Nat.le_of_ble_eq_true rfl) (Nat.le_of_ble_eq_true rfl) rfl ?_
                refine wp_goto ?_
                refine y_blk (t := 133) rfl (show fnd bk_X13_readLine 133 = some _ from rfl) aB_X13_readLine ?_
                cases h
                exact wp_return ⟨rfl, rfl, s40⟩
            · rw [if_neg c15] at h
              refine wp_aload_n (v := ((138 : Nat) : Int)) rfl (Int.natCast_nonneg _) ?_
              obtain ⟨x41, e42, h⟩ := d_bind h
              obtain ⟨r43, s44⟩ := t_X13_readFolk hS e42
              refine y_callVv (as := []) (S1 := []) (Nat.le_of_ble_eq_true rfl) (by omega) r43 rfl (show ash 138 = (13, 38) from rfl) (Nat.lt_of_lt_of_le (show 138 < 154 by decide) hS.1.1) (Nat.le_of_ble_eq_true rfl) (Nat.le_of_ble_eq_true rfl) rfl ?_
              refine wp_goto ?_
              refine y_blk (t := 133) rfl (show fnd bk_X13_readLine 133 = some _ from rfl) aB_X13_readLine ?_
              cases h
              exact wp_return ⟨rfl, rfl, s44⟩
          · rw [if_neg c12] at h
            refine wp_aload_n (v := ((138 : Nat) : Int)) rfl (Int.natCast_nonneg _) ?_
            obtain ⟨x45, e46, h⟩ := d_bind h
            obtain ⟨r47, s48⟩ := t_X13_readVoice hS e46
            refine y_callVv (as := []) (S1 := []) (Nat.le_of_ble_eq_true rfl) (by omega) r47 rfl (show ash 138 = (13, 38) from rfl) (Nat.lt_of_lt_of_le (show 138 < 154 by decide) hS.1.1) (Nat.le_of_ble_eq_true rfl) (Nat.le_of_ble_eq_true rfl) rfl ?_
            refine wp_goto ?_
            refine y_blk (t := 133) rfl (show fnd bk_X13_readLine 133 = some _ from rfl) aB_X13_readLine ?_
            cases h
            exact wp_return ⟨rfl, rfl, s48⟩
        · rw [if_neg c9] at h
          refine wp_aload_n (v := ((138 : Nat) : Int)) rfl (Int.natCast_nonneg _) ?_
          obtain ⟨x49, e50, h⟩ := d_bind h
          obtain ⟨r51, s52⟩ := t_X13_readWay hS e50
          refine y_callVv (as := []) (S1 := []) (Nat.le_of_ble_eq_true rfl) (by omega) r51 rfl (show ash 138 = (13, 38) from rfl) (Nat.lt_of_lt_of_le (show 138 < 154 by decide) hS.1.1) (Nat.le_of_ble_eq_true rfl) (Nat.le_of_ble_eq_true rfl) rfl ?_
          refine wp_goto ?_
          refine y_blk (t := 133) rfl (show fnd bk_X13_readLine 133 = some _ from rfl) aB_X13_readLine ?_
          cases h
          exact wp_return ⟨rfl, rfl, s52⟩
      · rw [if_neg c6] at h
        refine wp_aload_n (v := ((138 : Nat) : Int)) rfl (Int.natCast_nonneg _) ?_
        obtain ⟨x53, e54, h⟩ := d_bind h
        obtain ⟨r55, s56⟩ := t_X13_readACave hS e54
        refine y_callVv (as := []) (S1 := []) (Nat.le_of_ble_eq_true rfl) (by omega) r55 rfl (show ash 138 = (13, 38) from rfl) (Nat.lt_of_lt_of_le (show 138 < 154 by decide) hS.1.1) (Nat.le_of_ble_eq_true rfl) (Nat.le_of_ble_eq_true rfl) rfl ?_
        refine wp_goto ?_
        refine y_blk (t := 133) rfl (show fnd bk_X13_readLine 133 = some _ from rfl) aB_X13_readLine ?_
        cases h
        exact wp_return ⟨rfl, rfl, s56⟩
    · rw [if_neg c3] at h
      refine wp_aload_n (v := ((138 : Nat) : Int)) rfl (Int.natCast_nonneg _) ?_
      obtain ⟨x57, e58, h⟩ := d_bind h
      obtain ⟨r59, s60⟩ := t_X13_readWell hS e58
      refine y_callVv (as := []) (S1 := []) (Nat.le_of_ble_eq_true rfl) (by omega) r59 rfl (show ash 138 = (13, 38) from rfl) (Nat.lt_of_lt_of_le (show 138 < 154 by decide) hS.1.1) (Nat.le_of_ble_eq_true rfl) (Nat.le_of_ble_eq_true rfl) rfl ?_
      refine wp_goto ?_
      refine y_blk (t := 133) rfl (show fnd bk_X13_readLine 133 = some _ from rfl) aB_X13_readLine ?_
      cases h
      exact wp_return ⟨rfl, rfl, s60⟩
  exact ⟨fun d hd => Ms.of3 (key d hd), Ms.sh (key 11 (Nat.le_refl _))⟩
theorem aB_X13_readAll : ∀ pc, aB 224 pc = fnd bk_X13_readAll pc := fun _ => rfl
def l_X13_readAll_2 (T : Nat)  (k : Int → aM → Option (Int × aM)) : Nat → Int → aM → Option (Int × aM)
| 0, _, _ => none
| n + 1, v1, M =>
 if v1 = 0 then
 k v1 M else
 (f_X13_readLine T M).bind fun x2 =>
 (f_X13_eatsSemicolon T x2.2).bind fun x6 =>
 l_X13_readAll_2 T k n x6.1 x6.2
theorem tl_X13_readAll_2 {d : Nat} (hd : 12 ≤ d) {T : T3}  {k : Int → aM → Option (Int × aM)} {y : (Int × aM)}  {M0 : aM} (hS : Sh T.1 M0)
    (hk : ∀ (v1 : Int) (M : aM), Sh T.1 M → k v1 M = some y → Wp d 224 18 [] [(2, ((138 : Nat) : Int)), (0, v1)] [] (M, T) (fun r2 σ2 => r2 = none ∧ σ2 = (y.2, T) ∧ Sh T.1 y.2)) :
    ∀ (n : Nat) (v1 : Int) (M : aM), Sh T.1 M → l_X13_readAll_2 T.1 k n v1 M = some y → Wp d 224 2 [] [(2, ((138 : Nat) : Int)), (0, v1)] [] (M, T) (fun r2 σ2 => r2 = none ∧ σ2 = (y.2, T) ∧ Sh T.1 y.2) := by
  intro n
  induction n with
  | zero =>
    intro v1 M _ h
    exact nomatch (show (none : Option (Int × aM)) = some y from h)
  | succ n ih =>
    intro v1 M sM h
    rw [l_X13_readAll_2] at h
    refine y_blk (t := 2) rfl (show fnd bk_X13_readAll 2 = some _ from rfl) aB_X13_readAll ?_
    refine wp_iload_n (v := v1) rfl ?_
    refine wp_if_eq (fun c1 => ?_) (fun c1 => ?_)
    · rw [if_pos c1] at h
      exact hk v1  M sM h
    · rw [if_neg c1] at h
      refine wp_aload_n (v := ((138 : Nat) : Int)) rfl (Int.natCast_nonneg _) ?_
      obtain ⟨x2, e3, h⟩ := d_bind h
      obtain ⟨r4, s5⟩ := t_X13_readLine sM e3
      refine y_callVv (as := []) (S1 := []) (Nat.le_of_ble_eq_true rfl) (by omega) r4 rfl (show ash 138 = (13, 38) from rfl) (Nat.lt_of_lt_of_le (show 138 < 154 by decide) hS.1.1) (Nat.le_of_ble_eq_true rfl) (Nat.le_of_ble_eq_true rfl) rfl ?_
      refine wp_aload_n (v := ((138 : Nat) : Int)) rfl (Int.natCast_nonneg _) ?_
      obtain ⟨x6, e7, h⟩ := d_bind h
      obtain ⟨r8, s9⟩ := t_X13_eatsSemicolon s5 e7
      refine y_callV (as := []) (S1 := []) (Nat.le_of_ble_eq_true rfl) (by omega) r8 (Nat.le_of_ble_eq_true rfl) rfl (show ash 138 = (13, 38) from rfl) (Nat.lt_of_lt_of_le (show 138 < 154 by decide) hS.1.1) (Nat.le_of_ble_eq_true rfl) (Nat.le_of_ble_eq_true rfl) rfl ?_
      refine y_stn (L1 := [(2, ((138 : Nat) : Int)), (0, x6.1)]) (Nat.le_of_ble_eq_true rfl) rfl ?_
      refine wp_goto ?_
      exact ih x6.1  x6.2 s9 h
def f_X13_readAll (T : Nat)  (M : aM) : Option (Int × aM) :=
 l_X13_readAll_2 T (fun w10 m11 =>
 if (m11 138 9) = 1 then
 if okW T (m11 138 4) then
 if (m11 (m11 138 4).toNat 3) = 0 then
 (f_X13_flaw T 6 m11).bind fun x16 =>
 some (0, x16.2) else
 some (0, m11) else none else
 (f_X13_flaw T 1 m11).bind fun x20 =>
 if okW T (x20.2 138 4) then
 if (x20.2 (x20.2 138 4).toNat 3) = 0 then
 (f_X13_flaw T 6 x20.2).bind fun x26 =>
 some (0, x26.2) else
 some (0, x20.2) else none) FU 1 M
theorem t_X13_readAll {T : T3}  {M : aM} {y : (Int × aM)}  (hS : Sh T.1 M) (h : f_X13_readAll T.1  M = some y) : Mr 12 224 [(2, ((138 : Nat) : Int))] M (none) y.2 T ∧ Sh T.1 y.2 := by
  have key : ∀ d, 12 ≤ d → Wp d 224 0 [] [(2, ((138 : Nat) : Int)), (9, 0)] [] (M, T) (fun r2 σ2 => r2 = none ∧ σ2 = (y.2, T) ∧ Sh T.1 y.2) := by
    intro d hd
    rw [f_X13_readAll] at h
    refine y_blk (t := 0) rfl (show fnd bk_X13_readAll 0 = some _ from rfl) aB_X13_readAll ?_
    refine wp_iconst ⟨by decide, by decide⟩ ?_
    refine y_stn (L1 := [(2, ((138 : Nat) : Int)), (0, 1)]) (Nat.le_of_ble_eq_true rfl) rfl ?_
    refine tl_X13_readAll_2 (by omega) hS (fun w10  m11 s12 h => ?_) FU 1  M hS h
    refine y_blk (t := 18) rfl (show fnd bk_X13_readAll 18 = some _ from rfl) aB_X13_readAll ?_
    refine wp_aload_n (v := ((138 : Nat) : Int)) rfl (Int.natCast_nonneg _) ?_
    refine y_get (show ash 138 = (13, 38) from rfl) (Nat.lt_of_lt_of_le (show 138 < 154 by decide) hS.1.1) (v := m11 138 9) rfl rfl ?_
    refine wp_iconst ⟨by decide, by decide⟩ ?_
    refine wp_icmp_eq (fun c13 => ?_) (fun c13 => ?_)
    · rw [if_pos c13] at h
      refine y_blk (t := 31) rfl (show fnd bk_X13_readAll 31 = some _ from rfl) aB_X13_readAll ?_
      refine wp_aload_n (v := ((138 : Nat) : Int)) rfl (Int.natCast_nonneg _) ?_
      obtain ⟨c14, h⟩ := d_ite h
      refine y_get (show ash 138 = (13, 38) from rfl) (Nat.lt_of_lt_of_le (show 138 < 154 by decide) hS.1.1) (v := (((m11 138 4).toNat : Nat) : Int)) c14.eq rfl ?_
      refine y_get (aW0 hS.1.2 c14.is) (ltW c14.is 0 (by decide)) (v := m11 (m11 138 4).toNat 3) rfl rfl ?_
      refine y_nez (fun c15 => ?_) (fun c15 => ?_)
      · rw [if_neg c15] at h
        refine y_blk (t := 47) rfl (show fnd bk_X13_readAll 47 = some _ from rfl) aB_X13_readAll ?_
        cases h
        exact wp_return ⟨rfl, rfl, s12⟩
      · rw [if_pos c15] at h
        refine wp_aload_n (v := ((138 : Nat) : Int)) rfl (Int.natCast_nonneg _) ?_
        refine wp_bipush (by decide) ?_
        obtain ⟨x16, e17, h⟩ := d_bind h
        obtain ⟨r18, s19⟩ := t_X13_flaw s12 e17
        refine y_callVv (as := [(0, 6)]) (S1 := []) (Nat.le_of_ble_eq_true rfl) (by omega) r18 rfl (show ash 138 = (13, 38) from rfl) (Nat.lt_of_lt_of_le (show 138 < 154 by decide) hS.1.1) (Nat.le_of_ble_eq_true rfl) (Nat.le_of_ble_eq_true rfl) rfl ?_
        refine y_blk (t := 47) rfl (show fnd bk_X13_readAll 47 = some _ from rfl) aB_X13_readAll ?_
        cases h
        exact wp_return ⟨rfl, rfl, s19⟩
    · rw [if_neg c13] at h
      refine wp_aload_n (v := ((138 : Nat) : Int)) rfl (Int.natCast_nonneg _) ?_
      refine wp_iconst ⟨by decide, by decide⟩ ?_
      obtain ⟨x20, e21, h⟩ := d_bind h
      obtain ⟨r22, s23⟩ := t_X13_flaw s12 e21
      refine y_callVv (as := [(0, 1)]) (S1 := []) (Nat.le_of_ble_eq_true rfl) (by omega) r22 rfl (show ash 138 = (13, 38) from rfl) (Nat.lt_of_lt_of_le (show 138 < 154 by decide) hS.1.1) (Nat.le_of_ble_eq_true rfl) (Nat.le_of_ble_eq_true rfl) rfl ?_
      refine y_blk (t := 31) rfl (show fnd bk_X13_readAll 31 = some _ from rfl) aB_X13_readAll ?_
      refine wp_aload_n (v := ((138 : Nat) : Int)) rfl (Int.natCast_nonneg _) ?_
      obtain ⟨c24, h⟩ := d_ite h
      refine y_get (show ash 138 = (13, 38) from rfl) (Nat.lt_of_lt_of_le (show 138 < 154 by decide) hS.1.1) (v := (((x20.2 138 4).toNat : Nat) : Int)) c24.eq rfl ?_
      refine y_get (aW0 hS.1.2 c24.is) (ltW c24.is 0 (by decide)) (v := x20.2 (x20.2 138 4).toNat 3) rfl rfl ?_
      refine y_nez (fun c25 => ?_) (fun c25 => ?_)
      · rw [if_neg c25] at h
        refine y_blk (t := 47) rfl (show fnd bk_X13_readAll 47 = some _ from rfl) aB_X13_readAll ?_
        cases h
        exact wp_return ⟨rfl, rfl, s23⟩
      · rw [if_pos c25] at h
        refine wp_aload_n (v := ((138 : Nat) : Int)) rfl (Int.natCast_nonneg _) ?_
        refine wp_bipush (by decide) ?_
        obtain ⟨x26, e27, h⟩ := d_bind h
        obtain ⟨r28, s29⟩ := t_X13_flaw s23 e27
        refine y_callVv (as := [(0, 6)]) (S1 := []) (Nat.le_of_ble_eq_true rfl) (by omega) r28 rfl (show ash 138 = (13, 38) from rfl) (Nat.lt_of_lt_of_le (show 138 < 154 by decide) hS.1.1) (Nat.le_of_ble_eq_true rfl) (Nat.le_of_ble_eq_true rfl) rfl ?_
        refine y_blk (t := 47) rfl (show fnd bk_X13_readAll 47 = some _ from rfl) aB_X13_readAll ?_
        cases h
        exact wp_return ⟨rfl, rfl, s29⟩
  exact ⟨fun d hd => Ms.of3 (key d hd), Ms.sh (key 12 (Nat.le_refl _))⟩
theorem aB_X13_feed : ∀ pc, aB 234 pc = fnd bk_X13_feed pc := fun _ => rfl
def l_X13_feed_23 (T : Nat) (v1 : Int) (v2 : Int) (v3 : Int) (v4 : Int) (v5 : Int) (k : Int → aM → Option (Int × aM)) : Nat → Int → aM → Option (Int × aM)
| 0, _, _ => none
| n + 1, v6, M =>
 if 20 ≤ v6 then
 k v6 M else
 if 4 ≤ v6 then
 if 8 ≤ v6 then
 if 12 ≤ v6 then
 if 16 ≤ v6 then
 if aIn (8 * (arem v6 4)) then
 if aIn (24 - (8 * (arem v6 4))) then
 if 0 ≤ (M 138 6) ∧ (M 138 6) < 900 then
 if -128 ≤ (ai2b (ashr v5 (24 - (8 * (arem v6 4))))) ∧ (ai2b (ashr v5 (24 - (8 * (arem v6 4))))) < 128 then
 (some (aup M 139 ((M 138 6)).toNat (ai2b (ashr v5 (24 - (8 * (arem v6 4))))))).bind fun m14 =>
 if aIn ((m14 138 6) + 1) then
 (some (aup m14 138 6 ((m14 138 6) + 1))).bind fun m17 =>
 if aIn (v6 + 1) then
 l_X13_feed_23 T v1 v2 v3 v4 v5 k n (v6 + 1) m17 else none else none else none else none else none else none else
 if aIn (8 * (arem v6 4)) then
 if aIn (24 - (8 * (arem v6 4))) then
 if 0 ≤ (M 138 6) ∧ (M 138 6) < 900 then
 if -128 ≤ (ai2b (ashr v4 (24 - (8 * (arem v6 4))))) ∧ (ai2b (ashr v4 (24 - (8 * (arem v6 4))))) < 128 then
 (some (aup M 139 ((M 138 6)).toNat (ai2b (ashr v4 (24 - (8 * (arem v6 4))))))).bind fun m24 =>
 if aIn ((m24 138 6) + 1) then
 (some (aup m24 138 6 ((m24 138 6) + 1))).bind fun m27 =>
 if aIn (v6 + 1) then
 l_X13_feed_23 T v1 v2 v3 v4 v5 k n (v6 + 1) m27 else none else none else none else none else none else none else
 if aIn (8 * (arem v6 4)) then
 if aIn (24 - (8 * (arem v6 4))) then
 if 0 ≤ (M 138 6) ∧ (M 138 6) < 900 then
 if -128 ≤ (ai2b (ashr v3 (24 - (8 * (arem v6 4))))) ∧ (ai2b (ashr v3 (24 - (8 * (arem v6 4))))) < 128 then
 (some (aup M 139 ((M 138 6)).toNat (ai2b (ashr v3 (24 - (8 * (arem v6 4))))))).bind fun m34 =>
 if aIn ((m34 138 6) + 1) then
 (some (aup m34 138 6 ((m34 138 6) + 1))).bind fun m37 =>
 if aIn (v6 + 1) then
 l_X13_feed_23 T v1 v2 v3 v4 v5 k n (v6 + 1) m37 else none else none else none else none else none else none else
 if aIn (8 * (arem v6 4)) then
 if aIn (24 - (8 * (arem v6 4))) then
 if 0 ≤ (M 138 6) ∧ (M 138 6) < 900 then
 if -128 ≤ (ai2b (ashr v2 (24 - (8 * (arem v6 4))))) ∧ (ai2b (ashr v2 (24 - (8 * (arem v6 4))))) < 128 then
 (some (aup M 139 ((M 138 6)).toNat (ai2b (ashr v2 (24 - (8 * (arem v6 4))))))).bind fun m44 =>
 if aIn ((m44 138 6) + 1) then
 (some (aup m44 138 6 ((m44 138 6) + 1))).bind fun m47 =>
 if aIn (v6 + 1) then
 l_X13_feed_23 T v1 v2 v3 v4 v5 k n (v6 + 1) m47 else none else none else none else none else none else none else
 if aIn (8 * (arem v6 4)) then
 if aIn (24 - (8 * (arem v6 4))) then
 if 0 ≤ (M 138 6) ∧ (M 138 6) < 900 then
 if -128 ≤ (ai2b (ashr v1 (24 - (8 * (arem v6 4))))) ∧ (ai2b (ashr v1 (24 - (8 * (arem v6 4))))) < 128 then
 (some (aup M 139 ((M 138 6)).toNat (ai2b (ashr v1 (24 - (8 * (arem v6 4))))))).bind fun m54 =>
 if aIn ((m54 138 6) + 1) then
 (some (aup m54 138 6 ((m54 138 6) + 1))).bind fun m57 =>
 if aIn (v6 + 1) then
 l_X13_feed_23 T v1 v2 v3 v4 v5 k n (v6 + 1) m57 else none else none else none else none else none else none
theorem tl_X13_feed_23 {d : Nat} (hd : 0 ≤ d) {T : T3} {v1 : Int} {v2 : Int} {v3 : Int} {v4 : Int} {v5 : Int} {k : Int → aM → Option (Int × aM)} {y : (Int × aM)}  {M0 : aM} (hS : Sh T.1 M0)
    (hk : ∀ (v6 : Int) (u7 : aV) (M : aM), Sh T.1 M → k v6 M = some y → Wp d 234 117 [] [(2, ((138 : Nat) : Int)), (0, v1), (0, v2), (0, v3), (0, v4), (0, v5), (0, v6), u7] [] (M, T) (fun r2 σ2 => r2 = some (0, y.1) ∧ σ2 = (y.2, T) ∧ Sh T.1 y.2)) :
    ∀ (n : Nat) (v6 : Int) (u7 : aV) (M : aM), Sh T.1 M → l_X13_feed_23 T.1 v1 v2 v3 v4 v5 k n v6 M = some y → Wp d 234 23 [] [(2, ((138 : Nat) : Int)), (0, v1), (0, v2), (0, v3), (0, v4), (0, v5), (0, v6), u7] [] (M, T) (fun r2 σ2 => r2 = some (0, y.1) ∧ σ2 = (y.2, T) ∧ Sh T.1 y.2) := by
  intro n
  induction n with
  | zero =>
    intro v6 u7 M _ h
    exact nomatch (show (none : Option (Int × aM)) = some y from h)
  | succ n ih =>
    intro v6 u7 M sM h
    rw [l_X13_feed_23] at h
    refine y_blk (t := 23) rfl (show fnd bk_X13_feed 23 = some _ from rfl) aB_X13_feed ?_
    refine wp_iload (v := v6) rfl ?_
    refine wp_bipush (by decide) ?_
    refine wp_icmp_ge (fun c5 => ?_) (fun c5 => ?_)
    · rw [if_pos c5] at h
      exact hk v6 u7 M sM h
    · rw [if_neg c5] at h
      refine wp_iload (v := v6) rfl ?_
      refine wp_iconst ⟨by decide, by decide⟩ ?_
      refine wp_icmp_ge (fun c6 => ?_) (fun c6 => ?_)
      · rw [if_pos c6] at h
        refine y_blk (t := 40) rfl (show fnd bk_X13_feed 40 = some _ from rfl) aB_X13_feed ?_
        refine wp_iload (v := v6) rfl ?_
        refine wp_bipush (by decide) ?_
        refine wp_icmp_ge (fun c7 => ?_) (fun c7 => ?_)
        · rw [if_pos c7] at h
          refine y_blk (t := 51) rfl (show fnd bk_X13_feed 51 = some _ from rfl) aB_X13_feed ?_
          refine wp_iload (v := v6) rfl ?_
          refine wp_bipush (by decide) ?_
          refine wp_icmp_ge (fun c8 => ?_) (fun c8 => ?_)
          · rw [if_pos c8] at h
            refine y_blk (t := 62) rfl (show fnd bk_X13_feed 62 = some _ from rfl) aB_X13_feed ?_
            refine wp_iload (v := v6) rfl ?_
            refine wp_bipush (by decide) ?_
            refine wp_icmp_ge (fun c9 => ?_) (fun c9 => ?_)
            · rw [if_pos c9] at h
              refine y_blk (t := 74) rfl (show fnd bk_X13_feed 74 = some _ from rfl) aB_X13_feed ?_
              refine wp_iload (v := v5) rfl ?_
              refine y_blk (t := 76) rfl (show fnd bk_X13_feed 76 = some _ from rfl) aB_X13_feed ?_
              refine y_st (L1 := [(2, ((138 : Nat) : Int)), (0, v1), (0, v2), (0, v3), (0, v4), (0, v5), (0, v6), (0, v5)]) (Nat.le_of_ble_eq_true rfl) rfl ?_
              refine wp_aload_n (v := ((138 : Nat) : Int)) rfl (Int.natCast_nonneg _) ?_
              refine y_get (show ash 138 = (13, 38) from rfl) (Nat.lt_of_lt_of_le (show 138 < 154 by decide) hS.1.1) (v := ((139 : Nat) : Int)) (sM.at 138 5 139 (by decide +kernel)) rfl ?_
              refine wp_aload_n (v := ((138 : Nat) : Int)) rfl (Int.natCast_nonneg _) ?_
              refine y_get (show ash 138 = (13, 38) from rfl) (Nat.lt_of_lt_of_le (show 138 < 154 by decide) hS.1.1) (v := M 138 6) rfl rfl ?_
              refine wp_iload (v := v5) rfl ?_
              refine wp_bipush (by decide) ?_
              refine wp_bipush (by decide) ?_
              refine wp_iload (v := v6) rfl ?_
              refine wp_iconst ⟨by decide, by decide⟩ ?_
              refine wp_irem (by decide) ?_
              obtain ⟨c10, h⟩ := d_ite h
              refine wp_imul c10 ?_
              obtain ⟨c11, h⟩ := d_ite h
              refine wp_isub c11 ?_
              refine wp_ishr ?_
              refine wp_i2b ?_
              obtain ⟨c12, h⟩ := d_ite h
              obtain ⟨c13, h⟩ := d_ite h
              refine y_bast (show ash 139 = (101, 900) from rfl) (Nat.lt_of_lt_of_le (show 139 < 154 by decide) hS.1.1) c12 c13 ?_
              obtain ⟨m14, em14, h⟩ := d_bind h
              have em14 := Option.some.inj em14
              have s15 : Sh T.1 m14 := em14 ▸ sM.up (Or.inl ⟨by rw [(show ash 139 = (101, 900) from rfl)]; exact Nat.le_of_ble_eq_true rfl, by rw [(show ash 139 = (101, 900) from rfl)]; exact Nat.le_of_ble_eq_true rfl⟩) (by have := (Nat.lt_of_lt_of_le (show 139 < 154 by decide) hS.1.1); have := hS.1.2; omega)
              rw [em14]
              refine wp_aload_n (v := ((138 : Nat) : Int)) rfl (Int.natCast_nonneg _) ?_
              refine wp_dup (Or.inr rfl) ?_
              refine y_get (show ash 138 = (13, 38) from rfl) (Nat.lt_of_lt_of_le (show 138 < 154 by decide) hS.1.1) (v := m14 138 6) rfl rfl ?_
              refine wp_iconst ⟨by decide, by decide⟩ ?_
              obtain ⟨c16, h⟩ := d_ite h
              refine wp_iadd c16 ?_
              refine y_put (show ash 138 = (13, 38) from rfl) (Nat.lt_of_lt_of_le (show 138 < 154 by decide) hS.1.1) rfl ?_
              obtain ⟨m17, em17, h⟩ := d_bind h
              have em17 := Option.some.inj em17
              have s18 : Sh T.1 m17 := em17 ▸ s15.up (Or.inr ⟨by rw [(show ash 138 = (13, 38) from rfl)]; decide, by rw [(show ash 138 = (13, 38) from rfl)]; decide⟩) (by have := (Nat.lt_of_lt_of_le (show 138 < 154 by decide) hS.1.1); have := hS.1.2; omega)
              rw [em17]
              obtain ⟨c19, h⟩ := d_ite h
              refine y_iinc (L1 := [(2, ((138 : Nat) : Int)), (0, v1), (0, v2), (0, v3), (0, v4), (0, v5), (0, (v6 + 1)), (0, v5)]) rfl (Nat.le_of_ble_eq_true rfl) ⟨by decide, by decide⟩ c19 rfl ?_
              refine wp_goto ?_
              exact ih (v6 + 1) (0, v5) m17 s18 h
            · rw [if_neg c9] at h
              refine wp_iload (v := v4) rfl ?_
              refine wp_goto ?_
              refine y_blk (t := 76) rfl (show fnd bk_X13_feed 76 = some _ from rfl) aB_X13_feed ?_
              refine y_st (L1 := [(2, ((138 : Nat) : Int)), (0, v1), (0, v2), (0, v3), (0, v4), (0, v5), (0, v6), (0, v4)]) (Nat.le_of_ble_eq_true rfl) rfl ?_
              refine wp_aload_n (v := ((138 : Nat) : Int)) rfl (Int.natCast_nonneg _) ?_
              refine y_get (show ash 138 = (13, 38) from rfl) (Nat.lt_of_lt_of_le (show 138 < 154 by decide) hS.1.1) (v := ((139 : Nat) : Int)) (sM.at 138 5 139 (by decide +kernel)) rfl ?_
              refine wp_aload_n (v := ((138 : Nat) : Int)) rfl (Int.natCast_nonneg _) ?_
              refine y_get (show ash 138 = (13, 38) from rfl) (Nat.lt_of_lt_of_le (show 138 < 154 by decide) hS.1.1) (v := M 138 6) rfl rfl ?_
              refine wp_iload (v := v4) rfl ?_
              refine wp_bipush (by decide) ?_
              refine wp_bipush (by decide) ?_
              refine wp_iload (v := v6) rfl ?_
              refine wp_iconst ⟨by decide, by decide⟩ ?_
              refine wp_irem (by decide) ?_
              obtain ⟨c20, h⟩ := d_ite h
              refine wp_imul c20 ?_
              obtain ⟨c21, h⟩ := d_ite h
              refine wp_isub c21 ?_
              refine wp_ishr ?_
              refine wp_i2b ?_
              obtain ⟨c22, h⟩ := d_ite h
              obtain ⟨c23, h⟩ := d_ite h
              refine y_bast (show ash 139 = (101, 900) from rfl) (Nat.lt_of_lt_of_le (show 139 < 154 by decide) hS.1.1) c22 c23 ?_
              obtain ⟨m24, em24, h⟩ := d_bind h
              have em24 := Option.some.inj em24
              have s25 : Sh T.1 m24 := em24 ▸ sM.up (Or.inl ⟨by rw [(show ash 139 = (101, 900) from rfl)]; exact Nat.le_of_ble_eq_true rfl, by rw [(show ash 139 = (101, 900) from rfl)]; exact Nat.le_of_ble_eq_true rfl⟩) (by have := (Nat.lt_of_lt_of_le (show 139 < 154 by decide) hS.1.1); have := hS.1.2; omega)
              rw [em24]
              refine wp_aload_n (v := ((138 : Nat) : Int)) rfl (Int.natCast_nonneg _) ?_
              refine wp_dup (Or.inr rfl) ?_
              refine y_get (show ash 138 = (13, 38) from rfl) (Nat.lt_of_lt_of_le (show 138 < 154 by decide) hS.1.1) (v := m24 138 6) rfl rfl ?_
              refine wp_iconst ⟨by decide, by decide⟩ ?_
              obtain ⟨c26, h⟩ := d_ite h
              refine wp_iadd c26 ?_
              refine y_put (show ash 138 = (13, 38) from rfl) (Nat.lt_of_lt_of_le (show 138 < 154 by decide) hS.1.1) rfl ?_
              obtain ⟨m27, em27, h⟩ := d_bind h
              have em27 := Option.some.inj em27
              have s28 : Sh T.1 m27 := em27 ▸ s25.up (Or.inr ⟨by rw [(show ash 138 = (13, 38) from rfl)]; decide, by rw [(show ash 138 = (13, 38) from rfl)]; decide⟩) (by have := (Nat.lt_of_lt_of_le (show 138 < 154 by decide) hS.1.1); have := hS.1.2; omega)
              rw [em27]
              obtain ⟨c29, h⟩ := d_ite h
              refine y_iinc (L1 := [(2, ((138 : Nat) : Int)), (0, v1), (0, v2), (0, v3), (0, v4), (0, v5), (0, (v6 + 1)), (0, v4)]) rfl (Nat.le_of_ble_eq_true rfl) ⟨by decide, by decide⟩ c29 rfl ?_
              refine wp_goto ?_
              exact ih (v6 + 1) (0, v4) m27 s28 h
          · rw [if_neg c8] at h
            refine wp_iload_n (v := v3) rfl ?_
            refine wp_goto ?_
            refine y_blk (t := 76) rfl (show fnd bk_X13_feed 76 = some _ from rfl) aB_X13_feed ?_
            refine y_st (L1 := [(2, ((138 : Nat) : Int)), (0, v1), (0, v2), (0, v3), (0, v4), (0, v5), (0, v6), (0, v3)]) (Nat.le_of_ble_eq_true rfl) rfl ?_
            refine wp_aload_n (v := ((138 : Nat) : Int)) rfl (Int.natCast_nonneg _) ?_
            refine y_get (show ash 138 = (13, 38) from rfl) (Nat.lt_of_lt_of_le (show 138 < 154 by decide) hS.1.1) (v := ((139 : Nat) : Int)) (sM.at 138 5 139 (by decide +kernel)) rfl ?_
            refine wp_aload_n (v := ((138 : Nat) : Int)) rfl (Int.natCast_nonneg _) ?_
            refine y_get (show ash 138 = (13, 38) from rfl) (Nat.lt_of_lt_of_le (show 138 < 154 by decide) hS.1.1) (v := M 138 6) rfl rfl ?_
            refine wp_iload (v := v3) rfl ?_
            refine wp_bipush (by decide) ?_
            refine wp_bipush (by decide) ?_
            refine wp_iload (v := v6) rfl ?_
            refine wp_iconst ⟨by decide, by decide⟩ ?_
            refine wp_irem (by decide) ?_
            obtain ⟨c30, h⟩ := d_ite h
            refine wp_imul c30 ?_
            obtain ⟨c31, h⟩ := d_ite h
            refine wp_isub c31 ?_
            refine wp_ishr ?_
            refine wp_i2b ?_
            obtain ⟨c32, h⟩ := d_ite h
            obtain ⟨c33, h⟩ := d_ite h
            refine y_bast (show ash 139 = (101, 900) from rfl) (Nat.lt_of_lt_of_le (show 139 < 154 by decide) hS.1.1) c32 c33 ?_
            obtain ⟨m34, em34, h⟩ := d_bind h
            have em34 := Option.some.inj em34
            have s35 : Sh T.1 m34 := em34 ▸ sM.up (Or.inl ⟨by rw [(show ash 139 = (101, 900) from rfl)]; exact Nat.le_of_ble_eq_true rfl, by rw [(show ash 139 = (101, 900) from rfl)]; exact Nat.le_of_ble_eq_true rfl⟩) (by have := (Nat.lt_of_lt_of_le (show 139 < 154 by decide) hS.1.1); have := hS.1.2; omega)
            rw [em34]
            refine wp_aload_n (v := ((138 : Nat) : Int)) rfl (Int.natCast_nonneg _) ?_
            refine wp_dup (Or.inr rfl) ?_
            refine y_get (show ash 138 = (13, 38) from rfl) (Nat.lt_of_lt_of_le (show 138 < 154 by decide) hS.1.1) (v := m34 138 6) rfl rfl ?_
            refine wp_iconst ⟨by decide, by decide⟩ ?_
            obtain ⟨c36, h⟩ := d_ite h
            refine wp_iadd c36 ?_
            refine y_put (show ash 138 = (13, 38) from rfl) (Nat.lt_of_lt_of_le (show 138 < 154 by decide) hS.1.1) rfl ?_
            obtain ⟨m37, em37, h⟩ := d_bind h
            have em37 := Option.some.inj em37
            have s38 : Sh T.1 m37 := em37 ▸ s35.up (Or.inr ⟨by rw [(show ash 138 = (13, 38) from rfl)]; decide, by rw [(show ash 138 = (13, 38) from rfl)]; decide⟩) (by have := (Nat.lt_of_lt_of_le (show 138 < 154 by decide) hS.1.1); have := hS.1.2; omega)
            rw [em37]
            obtain ⟨c39, h⟩ := d_ite h
            refine y_iinc (L1 := [(2, ((138 : Nat) : Int)), (0, v1), (0, v2), (0, v3), (0, v4), (0, v5), (0, (v6 + 1)), (0, v3)]) rfl (Nat.le_of_ble_eq_true rfl) ⟨by decide, by decide⟩ c39 rfl ?_
            refine wp_goto ?_
            exact ih (v6 + 1) (0, v3) m37 s38 h
        · rw [if_neg c7] at h
          refine wp_iload_n (v := v2) rfl ?_
          refine wp_goto ?_
          refine y_blk (t := 76) rfl (show fnd bk_X13_feed 76 = some _ from rfl) aB_X13_feed ?_
          refine y_st (L1 := [(2, ((138 : Nat) : Int)), (0, v1), (0, v2), (0, v3), (0, v4), (0, v5), (0, v6), (0, v2)]) (Nat.le_of_ble_eq_true rfl) rfl ?_
          refine wp_aload_n (v := ((138 : Nat) : Int)) rfl (Int.natCast_nonneg _) ?_
          refine y_get (show ash 138 = (13, 38) from rfl) (Nat.lt_of_lt_of_le (show 138 < 154 by decide) hS.1.1) (v := ((139 : Nat) : Int)) (sM.at 138 5 139 (by decide +kernel)) rfl ?_
          refine wp_aload_n (v := ((138 : Nat) : Int)) rfl (Int.natCast_nonneg _) ?_
          refine y_get (show ash 138 = (13, 38) from rfl) (Nat.lt_of_lt_of_le (show 138 < 154 by decide) hS.1.1) (v := M 138 6) rfl rfl ?_
          refine wp_iload (v := v2) rfl ?_
          refine wp_bipush (by decide) ?_
          refine wp_bipush (by decide) ?_
          refine wp_iload (v := v6) rfl ?_
          refine wp_iconst ⟨by decide, by decide⟩ ?_
          refine wp_irem (by decide) ?_
          obtain ⟨c40, h⟩ := d_ite h
          refine wp_imul c40 ?_
          obtain ⟨c41, h⟩ := d_ite h
          refine wp_isub c41 ?_
          refine wp_ishr ?_
          refine wp_i2b ?_
          obtain ⟨c42, h⟩ := d_ite h
          obtain ⟨c43, h⟩ := d_ite h
          refine y_bast (show ash 139 = (101, 900) from rfl) (Nat.lt_of_lt_of_le (show 139 < 154 by decide) hS.1.1) c42 c43 ?_
          obtain ⟨m44, em44, h⟩ := d_bind h
          have em44 := Option.some.inj em44
          have s45 : Sh T.1 m44 := em44 ▸ sM.up (Or.inl ⟨by rw [(show ash 139 = (101, 900) from rfl)]; exact Nat.le_of_ble_eq_true rfl, by rw [(show ash 139 = (101, 900) from rfl)]; exact Nat.le_of_ble_eq_true rfl⟩) (by have := (Nat.lt_of_lt_of_le (show 139 < 154 by decide) hS.1.1); have := hS.1.2; omega)
          rw [em44]
          refine wp_aload_n (v := ((138 : Nat) : Int)) rfl (Int.natCast_nonneg _) ?_
          refine wp_dup (Or.inr rfl) ?_
          refine y_get (show ash 138 = (13, 38) from rfl) (Nat.lt_of_lt_of_le (show 138 < 154 by decide) hS.1.1) (v := m44 138 6) rfl rfl ?_
          refine wp_iconst ⟨by decide, by decide⟩ ?_
          obtain ⟨c46, h⟩ := d_ite h
          refine wp_iadd c46 ?_
          refine y_put (show ash 138 = (13, 38) from rfl) (Nat.lt_of_lt_of_le (show 138 < 154 by decide) hS.1.1) rfl ?_
          obtain ⟨m47, em47, h⟩ := d_bind h
          have em47 := Option.some.inj em47
          have s48 : Sh T.1 m47 := em47 ▸ s45.up (Or.inr ⟨by rw [(show ash 138 = (13, 38) from rfl)]; decide, by rw [(show ash 138 = (13, 38) from rfl)]; decide⟩) (by have := (Nat.lt_of_lt_of_le (show 138 < 154 by decide) hS.1.1); have := hS.1.2; omega)
          rw [em47]
          obtain ⟨c49, h⟩ := d_ite h
          refine y_iinc (L1 := [(2, ((138 : Nat) : Int)), (0, v1), (0, v2), (0, v3), (0, v4), (0, v5), (0, (v6 + 1)), (0, v2)]) rfl (Nat.le_of_ble_eq_true rfl) ⟨by decide, by decide⟩ c49 rfl ?_
          refine wp_goto ?_
          exact ih (v6 + 1) (0, v2) m47 s48 h
      · rw [if_neg c6] at h
        refine wp_iload_n (v := v1) rfl ?_
        refine wp_goto ?_
        refine y_blk (t := 76) rfl (show fnd bk_X13_feed 76 = some _ from rfl) aB_X13_feed ?_
        refine y_st (L1 := [(2, ((138 : Nat) : Int)), (0, v1), (0, v2), (0, v3), (0, v4), (0, v5), (0, v6), (0, v1)]) (Nat.le_of_ble_eq_true rfl) rfl ?_
        refine wp_aload_n (v := ((138 : Nat) : Int)) rfl (Int.natCast_nonneg _) ?_
        refine y_get (show ash 138 = (13, 38) from rfl) (Nat.lt_of_lt_of_le (show 138 < 154 by decide) hS.1.1) (v := ((139 : Nat) : Int)) (sM.at 138 5 139 (by decide +kernel)) rfl ?_
        refine wp_aload_n (v := ((138 : Nat) : Int)) rfl (Int.natCast_nonneg _) ?_
        refine y_get (show ash 138 = (13, 38) from rfl) (Nat.lt_of_lt_of_le (show 138 < 154 by decide) hS.1.1) (v := M 138 6) rfl rfl ?_
        refine wp_iload (v := v1) rfl ?_
        refine wp_bipush (by decide) ?_
        refine wp_bipush (by decide) ?_
        refine wp_iload (v := v6) rfl ?_
        refine wp_iconst ⟨by decide, by decide⟩ ?_
        refine wp_irem (by decide) ?_
        obtain ⟨c50, h⟩ := d_ite h
        refine wp_imul c50 ?_
        obtain ⟨c51, h⟩ := d_ite h
        refine wp_isub c51 ?_
        refine wp_ishr ?_
        refine wp_i2b ?_
        obtain ⟨c52, h⟩ := d_ite h
        obtain ⟨c53, h⟩ := d_ite h
        refine y_bast (show ash 139 = (101, 900) from rfl) (Nat.lt_of_lt_of_le (show 139 < 154 by decide) hS.1.1) c52 c53 ?_
        obtain ⟨m54, em54, h⟩ := d_bind h
        have em54 := Option.some.inj em54
        have s55 : Sh T.1 m54 := em54 ▸ sM.up (Or.inl ⟨by rw [(show ash 139 = (101, 900) from rfl)]; exact Nat.le_of_ble_eq_true rfl, by rw [(show ash 139 = (101, 900) from rfl)]; exact Nat.le_of_ble_eq_true rfl⟩) (by have := (Nat.lt_of_lt_of_le (show 139 < 154 by decide) hS.1.1); have := hS.1.2; omega)
        rw [em54]
        refine wp_aload_n (v := ((138 : Nat) : Int)) rfl (Int.natCast_nonneg _) ?_
        refine wp_dup (Or.inr rfl) ?_
        refine y_get (show ash 138 = (13, 38) from rfl) (Nat.lt_of_lt_of_le (show 138 < 154 by decide) hS.1.1) (v := m54 138 6) rfl rfl ?_
        refine wp_iconst ⟨by decide, by decide⟩ ?_
        obtain ⟨c56, h⟩ := d_ite h
        refine wp_iadd c56 ?_
        refine y_put (show ash 138 = (13, 38) from rfl) (Nat.lt_of_lt_of_le (show 138 < 154 by decide) hS.1.1) rfl ?_
        obtain ⟨m57, em57, h⟩ := d_bind h
        have em57 := Option.some.inj em57
        have s58 : Sh T.1 m57 := em57 ▸ s55.up (Or.inr ⟨by rw [(show ash 138 = (13, 38) from rfl)]; decide, by rw [(show ash 138 = (13, 38) from rfl)]; decide⟩) (by have := (Nat.lt_of_lt_of_le (show 138 < 154 by decide) hS.1.1); have := hS.1.2; omega)
        rw [em57]
        obtain ⟨c59, h⟩ := d_ite h
        refine y_iinc (L1 := [(2, ((138 : Nat) : Int)), (0, v1), (0, v2), (0, v3), (0, v4), (0, v5), (0, (v6 + 1)), (0, v1)]) rfl (Nat.le_of_ble_eq_true rfl) ⟨by decide, by decide⟩ c59 rfl ?_
        refine wp_goto ?_
        exact ih (v6 + 1) (0, v1) m57 s58 h
def f_X13_feed (T : Nat) (v1 : Int) (v2 : Int) (v3 : Int) (v4 : Int) (v5 : Int) (M : aM) : Option (Int × aM) :=
 (some (aup M 138 0 0)).bind fun m1 =>
 if aIn ((m1 138 6) + 20) then
 if ((m1 138 6) + 20) ≤ 900 then
 l_X13_feed_23 T v1 v2 v3 v4 v5 (fun w60 m62 =>
 some ((m62 138 6), m62)) FU 0 m1 else
 some ((-1), m1) else none
theorem t_X13_feed {T : T3} {v1 : Int} {v2 : Int} {v3 : Int} {v4 : Int} {v5 : Int} {M : aM} {y : (Int × aM)}  (hS : Sh T.1 M) (h : f_X13_feed T.1 v1 v2 v3 v4 v5 M = some y) : Mr 0 234 [(2, ((138 : Nat) : Int)), (0, v1), (0, v2), (0, v3), (0, v4), (0, v5)] M (some (0, y.1)) y.2 T ∧ Sh T.1 y.2 := by
  have key : ∀ d, 0 ≤ d → Wp d 234 0 [] [(2, ((138 : Nat) : Int)), (0, v1), (0, v2), (0, v3), (0, v4), (0, v5), (9, 0), (9, 0)] [] (M, T) (fun r2 σ2 => r2 = some (0, y.1) ∧ σ2 = (y.2, T) ∧ Sh T.1 y.2) := by
    intro d hd
    rw [f_X13_feed] at h
    refine y_blk (t := 0) rfl (show fnd bk_X13_feed 0 = some _ from rfl) aB_X13_feed ?_
    refine wp_aload_n (v := ((138 : Nat) : Int)) rfl (Int.natCast_nonneg _) ?_
    refine wp_iconst ⟨by decide, by decide⟩ ?_
    refine y_put (show ash 138 = (13, 38) from rfl) (Nat.lt_of_lt_of_le (show 138 < 154 by decide) hS.1.1) rfl ?_
    obtain ⟨m1, em1, h⟩ := d_bind h
    have em1 := Option.some.inj em1
    have s2 : Sh T.1 m1 := em1 ▸ hS.up (Or.inr ⟨by rw [(show ash 138 = (13, 38) from rfl)]; decide, by rw [(show ash 138 = (13, 38) from rfl)]; decide⟩) (by have := (Nat.lt_of_lt_of_le (show 138 < 154 by decide) hS.1.1); have := hS.1.2; omega)
    rw [em1]
    refine wp_aload_n (v := ((138 : Nat) : Int)) rfl (Int.natCast_nonneg _) ?_
    refine y_get (show ash 138 = (13, 38) from rfl) (Nat.lt_of_lt_of_le (show 138 < 154 by decide) hS.1.1) (v := m1 138 6) rfl rfl ?_
    refine wp_bipush (by decide) ?_
    obtain ⟨c3, h⟩ := d_ite h
    refine wp_iadd c3 ?_
    refine wp_sipush (by decide) ?_
    refine wp_icmp_le (fun c4 => ?_) (fun c4 => ?_)
    · rw [if_pos c4] at h
      refine y_blk (t := 20) rfl (show fnd bk_X13_feed 20 = some _ from rfl) aB_X13_feed ?_
      refine wp_iconst ⟨by decide, by decide⟩ ?_
      refine y_st (L1 := [(2, ((138 : Nat) : Int)), (0, v1), (0, v2), (0, v3), (0, v4), (0, v5), (0, 0), (9, 0)]) (Nat.le_of_ble_eq_true rfl) rfl ?_
      refine tl_X13_feed_23 (by omega) hS (fun w60 u61 m62 s63 h => ?_) FU 0 (9, 0) m1 s2 h
      refine y_blk (t := 117) rfl (show fnd bk_X13_feed 117 = some _ from rfl) aB_X13_feed ?_
      refine wp_aload_n (v := ((138 : Nat) : Int)) rfl (Int.natCast_nonneg _) ?_
      refine y_get (show ash 138 = (13, 38) from rfl) (Nat.lt_of_lt_of_le (show 138 < 154 by decide) hS.1.1) (v := m62 138 6) rfl rfl ?_
      cases h
      exact y_ret0 (Or.inl rfl) ⟨rfl, rfl, s63⟩
    · rw [if_neg c4] at h
      refine wp_iconst ⟨by decide, by decide⟩ ?_
      cases h
      exact y_ret0 (Or.inl rfl) ⟨rfl, rfl, s2⟩
  exact ⟨fun d hd => Ms.of3 (key d hd), Ms.sh (key 0 (Nat.le_refl _))⟩
theorem aB_X13_fault : ∀ pc, aB 236 pc = fnd bk_X13_fault pc := fun _ => rfl
def f_X13_fault (T : Nat)  (M : aM) : Option (Int × aM) :=
 (some (aup M 138 0 0)).bind fun m1 =>
 some ((m1 138 12), m1)
theorem t_X13_fault {T : T3}  {M : aM} {y : (Int × aM)}  (hS : Sh T.1 M) (h : f_X13_fault T.1  M = some y) : Mr 0 236 [(2, ((138 : Nat) : Int))] M (some (0, y.1)) y.2 T ∧ Sh T.1 y.2 := by
  have key : ∀ d, 0 ≤ d → Wp d 236 0 [] [(2, ((138 : Nat) : Int))] [] (M, T) (fun r2 σ2 => r2 = some (0, y.1) ∧ σ2 = (y.2, T) ∧ Sh T.1 y.2) := by
    intro d hd
    rw [f_X13_fault] at h
    refine y_blk (t := 0) rfl (show fnd bk_X13_fault 0 = some _ from rfl) aB_X13_fault ?_
    refine wp_aload_n (v := ((138 : Nat) : Int)) rfl (Int.natCast_nonneg _) ?_
    refine wp_iconst ⟨by decide, by decide⟩ ?_
    refine y_put (show ash 138 = (13, 38) from rfl) (Nat.lt_of_lt_of_le (show 138 < 154 by decide) hS.1.1) rfl ?_
    obtain ⟨m1, em1, h⟩ := d_bind h
    have em1 := Option.some.inj em1
    have s2 : Sh T.1 m1 := em1 ▸ hS.up (Or.inr ⟨by rw [(show ash 138 = (13, 38) from rfl)]; decide, by rw [(show ash 138 = (13, 38) from rfl)]; decide⟩) (by have := (Nat.lt_of_lt_of_le (show 138 < 154 by decide) hS.1.1); have := hS.1.2; omega)
    rw [em1]
    refine wp_aload_n (v := ((138 : Nat) : Int)) rfl (Int.natCast_nonneg _) ?_
    refine y_get (show ash 138 = (13, 38) from rfl) (Nat.lt_of_lt_of_le (show 138 < 154 by decide) hS.1.1) (v := m1 138 12) rfl rfl ?_
    cases h
    exact y_ret0 (Or.inl rfl) ⟨rfl, rfl, s2⟩
  exact ⟨fun d hd => Ms.of3 (key d hd), Ms.sh (key 0 (Nat.le_refl _))⟩
theorem aB_X13_where : ∀ pc, aB 237 pc = fnd bk_X13_where pc := fun _ => rfl
def f_X13_where (T : Nat)  (M : aM) : Option (Int × aM) :=
 (some (aup M 138 0 0)).bind fun m1 =>
 some ((m1 138 2), m1)
theorem t_X13_where {T : T3}  {M : aM} {y : (Int × aM)}  (hS : Sh T.1 M) (h : f_X13_where T.1  M = some y) : Mr 0 237 [(2, ((138 : Nat) : Int))] M (some (0, y.1)) y.2 T ∧ Sh T.1 y.2 := by
  have key : ∀ d, 0 ≤ d → Wp d 237 0 [] [(2, ((138 : Nat) : Int))] [] (M, T) (fun r2 σ2 => r2 = some (0, y.1) ∧ σ2 = (y.2, T) ∧ Sh T.1 y.2) := by
    intro d hd
    rw [f_X13_where] at h
    refine y_blk (t := 0) rfl (show fnd bk_X13_where 0 = some _ from rfl) aB_X13_where ?_
    refine wp_aload_n (v := ((138 : Nat) : Int)) rfl (Int.natCast_nonneg _) ?_
    refine wp_iconst ⟨by decide, by decide⟩ ?_
    refine y_put (show ash 138 = (13, 38) from rfl) (Nat.lt_of_lt_of_le (show 138 < 154 by decide) hS.1.1) rfl ?_
    obtain ⟨m1, em1, h⟩ := d_bind h
    have em1 := Option.some.inj em1
    have s2 : Sh T.1 m1 := em1 ▸ hS.up (Or.inr ⟨by rw [(show ash 138 = (13, 38) from rfl)]; decide, by rw [(show ash 138 = (13, 38) from rfl)]; decide⟩) (by have := (Nat.lt_of_lt_of_le (show 138 < 154 by decide) hS.1.1); have := hS.1.2; omega)
    rw [em1]
    refine wp_aload_n (v := ((138 : Nat) : Int)) rfl (Int.natCast_nonneg _) ?_
    refine y_get (show ash 138 = (13, 38) from rfl) (Nat.lt_of_lt_of_le (show 138 < 154 by decide) hS.1.1) (v := m1 138 2) rfl rfl ?_
    cases h
    exact y_ret0 (Or.inl rfl) ⟨rfl, rfl, s2⟩
  exact ⟨fun d hd => Ms.of3 (key d hd), Ms.sh (key 0 (Nat.le_refl _))⟩
theorem aB_X13_isCave : ∀ pc, aB 238 pc = fnd bk_X13_isCave pc := fun _ => rfl
def f_X13_isCave (T : Nat) (v1 : Int) (M : aM) : Option Int :=
 if M 138 3 < 0 then
 some 0 else
 if v1 < 0 then
 some 0 else
 if okW T (M 138 3) then
 if (M (M 138 3).toNat 3) ≤ v1 then
 some 0 else
 some 1 else none
theorem t_X13_isCave {T : T3} {v1 : Int} {M : aM} {y : Int}  (hS : Sh T.1 M) (h : f_X13_isCave T.1 v1 M = some y) : Mr 0 238 [(2, ((138 : Nat) : Int)), (0, v1)] M (some (0, y)) M T := by
  have key : ∀ d, 0 ≤ d → Wp d 238 0 [] [(2, ((138 : Nat) : Int)), (0, v1)] [] (M, T) (fun r2 σ2 => r2 = some (0, y) ∧ σ2 = (M, T)) := by
    intro d hd
    rw [f_X13_isCave] at h
    refine y_blk (t := 0) rfl (show fnd bk_X13_isCave 0 = some _ from rfl) aB_X13_isCave ?_
    refine wp_aload_n (v := ((138 : Nat) : Int)) rfl (Int.natCast_nonneg _) ?_
    refine y_get (show ash 138 = (13, 38) from rfl) (Nat.lt_of_lt_of_le (show 138 < 154 by decide) hS.1.1) (v := M 138 3) rfl rfl ?_
    refine wp_ifnull (fun c1 => ?_) (fun c1 => ?_)
    · rw [if_pos c1] at h
      refine y_blk (t := 26) rfl (show fnd bk_X13_isCave 26 = some _ from rfl) aB_X13_isCave ?_
      refine wp_iconst ⟨by decide, by decide⟩ ?_
      refine y_blk (t := 27) rfl (show fnd bk_X13_isCave 27 = some _ from rfl) aB_X13_isCave ?_
      cases h
      exact y_ret0 (Or.inr (Or.inl rfl)) ⟨rfl, rfl⟩
    · rw [if_neg c1] at h
      refine wp_iload_n (v := v1) rfl ?_
      refine wp_if_lt (fun c2 => ?_) (fun c2 => ?_)
      · rw [if_pos c2] at h
        refine y_blk (t := 26) rfl (show fnd bk_X13_isCave 26 = some _ from rfl) aB_X13_isCave ?_
        refine wp_iconst ⟨by decide, by decide⟩ ?_
        refine y_blk (t := 27) rfl (show fnd bk_X13_isCave 27 = some _ from rfl) aB_X13_isCave ?_
        cases h
        exact y_ret0 (Or.inr (Or.inl rfl)) ⟨rfl, rfl⟩
      · rw [if_neg c2] at h
        refine wp_iload_n (v := v1) rfl ?_
        refine wp_aload_n (v := ((138 : Nat) : Int)) rfl (Int.natCast_nonneg _) ?_
        obtain ⟨c3, h⟩ := d_ite h
        refine y_get (show ash 138 = (13, 38) from rfl) (Nat.lt_of_lt_of_le (show 138 < 154 by decide) hS.1.1) (v := (((M 138 3).toNat : Nat) : Int)) c3.eq rfl ?_
        refine y_get (aW0 hS.1.2 c3.is) (ltW c3.is 0 (by decide)) (v := M (M 138 3).toNat 3) rfl rfl ?_
        refine wp_icmp_ge (fun c4 => ?_) (fun c4 => ?_)
        · rw [if_pos c4] at h
          refine y_blk (t := 26) rfl (show fnd bk_X13_isCave 26 = some _ from rfl) aB_X13_isCave ?_
          refine wp_iconst ⟨by decide, by decide⟩ ?_
          refine y_blk (t := 27) rfl (show fnd bk_X13_isCave 27 = some _ from rfl) aB_X13_isCave ?_
          cases h
          exact y_ret0 (Or.inr (Or.inl rfl)) ⟨rfl, rfl⟩
        · rw [if_neg c4] at h
          refine wp_iconst ⟨by decide, by decide⟩ ?_
          refine wp_goto ?_
          refine y_blk (t := 27) rfl (show fnd bk_X13_isCave 27 = some _ from rfl) aB_X13_isCave ?_
          cases h
          exact y_ret0 (Or.inr (Or.inr rfl)) ⟨rfl, rfl⟩
  exact fun d hd => Ms.of (key d hd)
theorem aB_X13_isWay : ∀ pc, aB 239 pc = fnd bk_X13_isWay pc := fun _ => rfl
def f_X13_isWay (T : Nat) (v1 : Int) (M : aM) : Option Int :=
 if M 138 3 < 0 then
 some 0 else
 if v1 < 0 then
 some 0 else
 if okW T (M 138 3) then
 if (M (M 138 3).toNat 5) ≤ v1 then
 some 0 else
 some 1 else none
theorem t_X13_isWay {T : T3} {v1 : Int} {M : aM} {y : Int}  (hS : Sh T.1 M) (h : f_X13_isWay T.1 v1 M = some y) : Mr 0 239 [(2, ((138 : Nat) : Int)), (0, v1)] M (some (0, y)) M T := by
  have key : ∀ d, 0 ≤ d → Wp d 239 0 [] [(2, ((138 : Nat) : Int)), (0, v1)] [] (M, T) (fun r2 σ2 => r2 = some (0, y) ∧ σ2 = (M, T)) := by
    intro d hd
    rw [f_X13_isWay] at h
    refine y_blk (t := 0) rfl (show fnd bk_X13_isWay 0 = some _ from rfl) aB_X13_isWay ?_
    refine wp_aload_n (v := ((138 : Nat) : Int)) rfl (Int.natCast_nonneg _) ?_
    refine y_get (show ash 138 = (13, 38) from rfl) (Nat.lt_of_lt_of_le (show 138 < 154 by decide) hS.1.1) (v := M 138 3) rfl rfl ?_
    refine wp_ifnull (fun c1 => ?_) (fun c1 => ?_)
    · rw [if_pos c1] at h
      refine y_blk (t := 26) rfl (show fnd bk_X13_isWay 26 = some _ from rfl) aB_X13_isWay ?_
      refine wp_iconst ⟨by decide, by decide⟩ ?_
      refine y_blk (t := 27) rfl (show fnd bk_X13_isWay 27 = some _ from rfl) aB_X13_isWay ?_
      cases h
      exact y_ret0 (Or.inr (Or.inl rfl)) ⟨rfl, rfl⟩
    · rw [if_neg c1] at h
      refine wp_iload_n (v := v1) rfl ?_
      refine wp_if_lt (fun c2 => ?_) (fun c2 => ?_)
      · rw [if_pos c2] at h
        refine y_blk (t := 26) rfl (show fnd bk_X13_isWay 26 = some _ from rfl) aB_X13_isWay ?_
        refine wp_iconst ⟨by decide, by decide⟩ ?_
        refine y_blk (t := 27) rfl (show fnd bk_X13_isWay 27 = some _ from rfl) aB_X13_isWay ?_
        cases h
        exact y_ret0 (Or.inr (Or.inl rfl)) ⟨rfl, rfl⟩
      · rw [if_neg c2] at h
        refine wp_iload_n (v := v1) rfl ?_
        refine wp_aload_n (v := ((138 : Nat) : Int)) rfl (Int.natCast_nonneg _) ?_
        obtain ⟨c3, h⟩ := d_ite h
        refine y_get (show ash 138 = (13, 38) from rfl) (Nat.lt_of_lt_of_le (show 138 < 154 by decide) hS.1.1) (v := (((M 138 3).toNat : Nat) : Int)) c3.eq rfl ?_
        refine y_get (aW0 hS.1.2 c3.is) (ltW c3.is 0 (by decide)) (v := M (M 138 3).toNat 5) rfl rfl ?_
        refine wp_icmp_ge (fun c4 => ?_) (fun c4 => ?_)
        · rw [if_pos c4] at h
          refine y_blk (t := 26) rfl (show fnd bk_X13_isWay 26 = some _ from rfl) aB_X13_isWay ?_
          refine wp_iconst ⟨by decide, by decide⟩ ?_
          refine y_blk (t := 27) rfl (show fnd bk_X13_isWay 27 = some _ from rfl) aB_X13_isWay ?_
          cases h
          exact y_ret0 (Or.inr (Or.inl rfl)) ⟨rfl, rfl⟩
        · rw [if_neg c4] at h
          refine wp_iconst ⟨by decide, by decide⟩ ?_
          refine wp_goto ?_
          refine y_blk (t := 27) rfl (show fnd bk_X13_isWay 27 = some _ from rfl) aB_X13_isWay ?_
          cases h
          exact y_ret0 (Or.inr (Or.inr rfl)) ⟨rfl, rfl⟩
  exact fun d hd => Ms.of (key d hd)
theorem aB_X13_isVoice : ∀ pc, aB 240 pc = fnd bk_X13_isVoice pc := fun _ => rfl
def f_X13_isVoice (T : Nat) (v1 : Int) (M : aM) : Option Int :=
 if M 138 3 < 0 then
 some 0 else
 if v1 < 0 then
 some 0 else
 if okW T (M 138 3) then
 if (M (M 138 3).toNat 7) ≤ v1 then
 some 0 else
 some 1 else none
theorem t_X13_isVoice {T : T3} {v1 : Int} {M : aM} {y : Int}  (hS : Sh T.1 M) (h : f_X13_isVoice T.1 v1 M = some y) : Mr 0 240 [(2, ((138 : Nat) : Int)), (0, v1)] M (some (0, y)) M T := by
  have key : ∀ d, 0 ≤ d → Wp d 240 0 [] [(2, ((138 : Nat) : Int)), (0, v1)] [] (M, T) (fun r2 σ2 => r2 = some (0, y) ∧ σ2 = (M, T)) := by
    intro d hd
    rw [f_X13_isVoice] at h
    refine y_blk (t := 0) rfl (show fnd bk_X13_isVoice 0 = some _ from rfl) aB_X13_isVoice ?_
    refine wp_aload_n (v := ((138 : Nat) : Int)) rfl (Int.natCast_nonneg _) ?_
    refine y_get (show ash 138 = (13, 38) from rfl) (Nat.lt_of_lt_of_le (show 138 < 154 by decide) hS.1.1) (v := M 138 3) rfl rfl ?_
    refine wp_ifnull (fun c1 => ?_) (fun c1 => ?_)
    · rw [if_pos c1] at h
      refine y_blk (t := 26) rfl (show fnd bk_X13_isVoice 26 = some _ from rfl) aB_X13_isVoice ?_
      refine wp_iconst ⟨by decide, by decide⟩ ?_
      refine y_blk (t := 27) rfl (show fnd bk_X13_isVoice 27 = some _ from rfl) aB_X13_isVoice ?_
      cases h
      exact y_ret0 (Or.inr (Or.inl rfl)) ⟨rfl, rfl⟩
    · rw [if_neg c1] at h
      refine wp_iload_n (v := v1) rfl ?_
      refine wp_if_lt (fun c2 => ?_) (fun c2 => ?_)
      · rw [if_pos c2] at h
        refine y_blk (t := 26) rfl (show fnd bk_X13_isVoice 26 = some _ from rfl) aB_X13_isVoice ?_
        refine wp_iconst ⟨by decide, by decide⟩ ?_
        refine y_blk (t := 27) rfl (show fnd bk_X13_isVoice 27 = some _ from rfl) aB_X13_isVoice ?_
        cases h
        exact y_ret0 (Or.inr (Or.inl rfl)) ⟨rfl, rfl⟩
      · rw [if_neg c2] at h
        refine wp_iload_n (v := v1) rfl ?_
        refine wp_aload_n (v := ((138 : Nat) : Int)) rfl (Int.natCast_nonneg _) ?_
        obtain ⟨c3, h⟩ := d_ite h
        refine y_get (show ash 138 = (13, 38) from rfl) (Nat.lt_of_lt_of_le (show 138 < 154 by decide) hS.1.1) (v := (((M 138 3).toNat : Nat) : Int)) c3.eq rfl ?_
        refine y_get (aW0 hS.1.2 c3.is) (ltW c3.is 0 (by decide)) (v := M (M 138 3).toNat 7) rfl rfl ?_
        refine wp_icmp_ge (fun c4 => ?_) (fun c4 => ?_)
        · rw [if_pos c4] at h
          refine y_blk (t := 26) rfl (show fnd bk_X13_isVoice 26 = some _ from rfl) aB_X13_isVoice ?_
          refine wp_iconst ⟨by decide, by decide⟩ ?_
          refine y_blk (t := 27) rfl (show fnd bk_X13_isVoice 27 = some _ from rfl) aB_X13_isVoice ?_
          cases h
          exact y_ret0 (Or.inr (Or.inl rfl)) ⟨rfl, rfl⟩
        · rw [if_neg c4] at h
          refine wp_iconst ⟨by decide, by decide⟩ ?_
          refine wp_goto ?_
          refine y_blk (t := 27) rfl (show fnd bk_X13_isVoice 27 = some _ from rfl) aB_X13_isVoice ?_
          cases h
          exact y_ret0 (Or.inr (Or.inr rfl)) ⟨rfl, rfl⟩
  exact fun d hd => Ms.of (key d hd)
theorem aB_X13_isFolk : ∀ pc, aB 241 pc = fnd bk_X13_isFolk pc := fun _ => rfl
def f_X13_isFolk (T : Nat) (v1 : Int) (M : aM) : Option Int :=
 if M 138 3 < 0 then
 some 0 else
 if v1 < 0 then
 some 0 else
 if okW T (M 138 3) then
 if (M (M 138 3).toNat 8) ≤ v1 then
 some 0 else
 some 1 else none
theorem t_X13_isFolk {T : T3} {v1 : Int} {M : aM} {y : Int}  (hS : Sh T.1 M) (h : f_X13_isFolk T.1 v1 M = some y) : Mr 0 241 [(2, ((138 : Nat) : Int)), (0, v1)] M (some (0, y)) M T := by
  have key : ∀ d, 0 ≤ d → Wp d 241 0 [] [(2, ((138 : Nat) : Int)), (0, v1)] [] (M, T) (fun r2 σ2 => r2 = some (0, y) ∧ σ2 = (M, T)) := by
    intro d hd
    rw [f_X13_isFolk] at h
    refine y_blk (t := 0) rfl (show fnd bk_X13_isFolk 0 = some _ from rfl) aB_X13_isFolk ?_
    refine wp_aload_n (v := ((138 : Nat) : Int)) rfl (Int.natCast_nonneg _) ?_
    refine y_get (show ash 138 = (13, 38) from rfl) (Nat.lt_of_lt_of_le (show 138 < 154 by decide) hS.1.1) (v := M 138 3) rfl rfl ?_
    refine wp_ifnull (fun c1 => ?_) (fun c1 => ?_)
    · rw [if_pos c1] at h
      refine y_blk (t := 26) rfl (show fnd bk_X13_isFolk 26 = some _ from rfl) aB_X13_isFolk ?_
      refine wp_iconst ⟨by decide, by decide⟩ ?_
      refine y_blk (t := 27) rfl (show fnd bk_X13_isFolk 27 = some _ from rfl) aB_X13_isFolk ?_
      cases h
      exact y_ret0 (Or.inr (Or.inl rfl)) ⟨rfl, rfl⟩
    · rw [if_neg c1] at h
      refine wp_iload_n (v := v1) rfl ?_
      refine wp_if_lt (fun c2 => ?_) (fun c2 => ?_)
      · rw [if_pos c2] at h
        refine y_blk (t := 26) rfl (show fnd bk_X13_isFolk 26 = some _ from rfl) aB_X13_isFolk ?_
        refine wp_iconst ⟨by decide, by decide⟩ ?_
        refine y_blk (t := 27) rfl (show fnd bk_X13_isFolk 27 = some _ from rfl) aB_X13_isFolk ?_
        cases h
        exact y_ret0 (Or.inr (Or.inl rfl)) ⟨rfl, rfl⟩
      · rw [if_neg c2] at h
        refine wp_iload_n (v := v1) rfl ?_
        refine wp_aload_n (v := ((138 : Nat) : Int)) rfl (Int.natCast_nonneg _) ?_
        obtain ⟨c3, h⟩ := d_ite h
        refine y_get (show ash 138 = (13, 38) from rfl) (Nat.lt_of_lt_of_le (show 138 < 154 by decide) hS.1.1) (v := (((M 138 3).toNat : Nat) : Int)) c3.eq rfl ?_
        refine y_get (aW0 hS.1.2 c3.is) (ltW c3.is 0 (by decide)) (v := M (M 138 3).toNat 8) rfl rfl ?_
        refine wp_icmp_ge (fun c4 => ?_) (fun c4 => ?_)
        · rw [if_pos c4] at h
          refine y_blk (t := 26) rfl (show fnd bk_X13_isFolk 26 = some _ from rfl) aB_X13_isFolk ?_
          refine wp_iconst ⟨by decide, by decide⟩ ?_
          refine y_blk (t := 27) rfl (show fnd bk_X13_isFolk 27 = some _ from rfl) aB_X13_isFolk ?_
          cases h
          exact y_ret0 (Or.inr (Or.inl rfl)) ⟨rfl, rfl⟩
        · rw [if_neg c4] at h
          refine wp_iconst ⟨by decide, by decide⟩ ?_
          refine wp_goto ?_
          refine y_blk (t := 27) rfl (show fnd bk_X13_isFolk 27 = some _ from rfl) aB_X13_isFolk ?_
          cases h
          exact y_ret0 (Or.inr (Or.inr rfl)) ⟨rfl, rfl⟩
  exact fun d hd => Ms.of (key d hd)

/-! ===== methods as functions ===== -/
theorem aB_X13_readVoice : ∀ pc, aB 229 pc = fnd bk_X13_readVoice pc := fun _ => rfl
def b_X13_readVoice_85 (T : Nat) (v1 : Int) (v3 : Int) (M : aM) : Option (Int × aM) :=
 (f_X13_goesOn T M).bind fun x23 =>
 (f_X13_needs T 2000044 x23.2).bind fun x27 =>
 (f_X13_readCave T x27.2).bind fun x31 =>
 if (x31.2 138 9) = 5 then
 some (0, x31.2) else
 if okW T (x31.2 138 4) then
 (f_X13_names T v1 1 (x31.2 (x31.2 138 4).toNat 7) x31.2).bind fun x37 =>
 if okW T (x37.2 138 4) then
 if 0 ≤ (x37.2 (x37.2 138 4).toNat 7) ∧ (x37.2 (x37.2 138 4).toNat 7) < 3 then
 (some (aup x37.2 ((x37.2 138 4).toNat + 4) ((x37.2 (x37.2 138 4).toNat 7)).toNat v3)).bind fun m43 =>
 if okW T (m43 138 4) then
 if 0 ≤ (m43 (m43 138 4).toNat 7) ∧ (m43 (m43 138 4).toNat 7) < 3 then
 (some (aup m43 ((m43 138 4).toNat + 5) ((m43 (m43 138 4).toNat 7)).toNat x31.1)).bind fun m47 =>
 if okW T (m47 138 4) then
 if aIn ((m47 (m47 138 4).toNat 7) + 1) then
 (some (aup m47 (m47 138 4).toNat 7 ((m47 (m47 138 4).toNat 7) + 1))).bind fun m51 =>
 some (0, m51) else none else none else none else none else none else none else none
theorem tb_X13_readVoice_85 {d : Nat} (hd : 9 ≤ d) {T : T3} {v1 : Int} {v3 : Int} {u4 : aV} {M : aM} {y : (Int × aM)}  (hS : Sh T.1 M) (h : b_X13_readVoice_85 T.1 v1 v3 M = some y) : Wp d 229 85 [] [(2, ((138 : Nat) : Int)), (1, v1), (9, 0), (0, v3), u4] [] (M, T) (fun r2 σ2 => r2 = none ∧ σ2 = (y.2, T) ∧ Sh T.1 y.2) := by
  rw [b_X13_readVoice_85] at h
  refine y_blk (t := 85) rfl (show fnd bk_X13_readVoice 85 = some _ from rfl) aB_X13_readVoice ?_
  refine wp_aload_n (v := ((138 : Nat) : Int)) rfl (Int.natCast_nonneg _) ?_
  obtain ⟨x23, e24, h⟩ := d_bind h
  obtain ⟨r25, s26⟩ := t_X13_goesOn hS e24
  refine y_callVv (as := []) (S1 := []) (Nat.le_of_ble_eq_true rfl) (by omega) r25 rfl (show ash 138 = (13, 38) from rfl) (Nat.lt_of_lt_of_le (show 138 < 154 by decide) hS.1.1) (Nat.le_of_ble_eq_true rfl) (Nat.le_of_ble_eq_true rfl) rfl ?_
  refine wp_aload_n (v := ((138 : Nat) : Int)) rfl (Int.natCast_nonneg _) ?_
  refine y_ldc_wS (v := 2000044) rfl ?_
  obtain ⟨x27, e28, h⟩ := d_bind h
  obtain ⟨r29, s30⟩ := t_X13_needs s26 e28
  refine y_callVv (as := [(2, 2000044)]) (S1 := []) (Nat.le_of_ble_eq_true rfl) (by omega) r29 rfl (show ash 138 = (13, 38) from rfl) (Nat.lt_of_lt_of_le (show 138 < 154 by decide) hS.1.1) (Nat.le_of_ble_eq_true rfl) (Nat.le_of_ble_eq_true rfl) rfl ?_
  refine wp_aload_n (v := ((138 : Nat) : Int)) rfl (Int.natCast_nonneg _) ?_
  obtain ⟨x31, e32, h⟩ := d_bind h
  obtain ⟨r33, s34⟩ := t_X13_readCave s30 e32
  refine y_callV (as := []) (S1 := []) (Nat.le_of_ble_eq_true rfl) (by omega) r33 (Nat.le_of_ble_eq_true rfl) rfl (show ash 138 = (13, 38) from rfl) (Nat.lt_of_lt_of_le (show 138 < 154 by decide) hS.1.1) (Nat.le_of_ble_eq_true rfl) (Nat.le_of_ble_eq_true rfl) rfl ?_
  refine y_st (L1 := [(2, ((138 : Nat) : Int)), (1, v1), (9, 0), (0, v3), (0, x31.1)]) (Nat.le_of_ble_eq_true rfl) rfl ?_
  refine wp_aload_n (v := ((138 : Nat) : Int)) rfl (Int.natCast_nonneg _) ?_
  refine y_get (show ash 138 = (13, 38) from rfl) (Nat.lt_of_lt_of_le (show 138 < 154 by decide) hS.1.1) (v := x31.2 138 9) rfl rfl ?_
  refine wp_iconst ⟨by decide, by decide⟩ ?_
  refine y_ne (fun c35 => ?_) (fun c35 => ?_)
  · rw [if_neg c35] at h
    refine y_blk (t := 111) rfl (show fnd bk_X13_readVoice 111 = some _ from rfl) aB_X13_readVoice ?_
    refine wp_aload_n (v := ((138 : Nat) : Int)) rfl (Int.natCast_nonneg _) ?_
    refine wp_lload_n (v := v1) rfl ?_
    refine wp_iconst ⟨by decide, by decide⟩ ?_
    refine wp_aload_n (v := ((138 : Nat) : Int)) rfl (Int.natCast_nonneg _) ?_
    obtain ⟨c36, h⟩ := d_ite h
    refine y_get (show ash 138 = (13, 38) from rfl) (Nat.lt_of_lt_of_le (show 138 < 154 by decide) hS.1.1) (v := (((x31.2 138 4).toNat : Nat) : Int)) c36.eq rfl ?_
    refine y_get (aW0 hS.1.2 c36.is) (ltW c36.is 0 (by decide)) (v := x31.2 (x31.2 138 4).toNat 7) rfl rfl ?_
    obtain ⟨x37, e38, h⟩ := d_bind h
    obtain ⟨r39, s40⟩ := t_X13_names s34 e38
    refine y_callVv (as := [(1, v1), (0, 1), (0, (x31.2 (x31.2 138 4).toNat 7))]) (S1 := []) (Nat.le_of_ble_eq_true rfl) (by omega) r39 rfl (show ash 138 = (13, 38) from rfl) (Nat.lt_of_lt_of_le (show 138 < 154 by decide) hS.1.1) (Nat.le_of_ble_eq_true rfl) (Nat.le_of_ble_eq_true rfl) rfl ?_
    refine wp_aload_n (v := ((138 : Nat) : Int)) rfl (Int.natCast_nonneg _) ?_
    obtain ⟨c41, h⟩ := d_ite h
    refine y_get (show ash 138 = (13, 38) from rfl) (Nat.lt_of_lt_of_le (show 138 < 154 by decide) hS.1.1) (v := (((x37.2 138 4).toNat : Nat) : Int)) c41.eq rfl ?_
    refine y_get (aW0 hS.1.2 c41.is) (ltW c41.is 0 (by decide)) (v := ((((x37.2 138 4).toNat + 4) : Nat) : Int)) (rW17 s40 c41.is) rfl ?_
    refine wp_aload_n (v := ((138 : Nat) : Int)) rfl (Int.natCast_nonneg _) ?_
    refine y_get (show ash 138 = (13, 38) from rfl) (Nat.lt_of_lt_of_le (show 138 < 154 by decide) hS.1.1) (v := (((x37.2 138 4).toNat : Nat) : Int)) c41.eq rfl ?_
    refine y_get (aW0 hS.1.2 c41.is) (ltW c41.is 0 (by decide)) (v := x37.2 (x37.2 138 4).toNat 7) rfl rfl ?_
    refine wp_iload_n (v := v3) rfl ?_
    obtain ⟨c42, h⟩ := d_ite h
    refine y_iast (aW4 hS.1.2 c41.is) (ltW c41.is 4 (by decide)) c42 ?_
    obtain ⟨m43, em43, h⟩ := d_bind h
    have em43 := Option.some.inj em43
    have s44 : Sh T.1 m43 := em43 ▸ s40.up (Or.inl ⟨by rw [(aW4 hS.1.2 c41.is)]; exact Nat.le_of_ble_eq_true rfl, by rw [(aW4 hS.1.2 c41.is)]; exact Nat.le_of_ble_eq_true rfl⟩) (by have := (ltW c41.is 4 (by decide)); have := hS.1.2; omega)
    rw [em43]
    refine wp_aload_n (v := ((138 : Nat) : Int)) rfl (Int.natCast_nonneg _) ?_
    obtain ⟨c45, h⟩ := d_ite h
    refine y_get (show ash 138 = (13, 38) from rfl) (Nat.lt_of_lt_of_le (show 138 < 154 by decide) hS.1.1) (v := (((m43 138 4).toNat : Nat) : Int)) c45.eq rfl ?_
    refine y_get (aW0 hS.1.2 c45.is) (ltW c45.is 0 (by decide)) (v := ((((m43 138 4).toNat + 5) : Nat) : Int)) (rW18 s44 c45.is) rfl ?_
    refine wp_aload_n (v := ((138 : Nat) : Int)) rfl (Int.natCast_nonneg _) ?_
    refine y_get (show ash 138 = (13, 38) from rfl) (Nat.lt_of_lt_of_le (show 138 < 154 by decide) hS.1.1) (v := (((m43 138 4).toNat : Nat) : Int)) c45.eq rfl ?_
    refine y_get (aW0 hS.1.2 c45.is) (ltW c45.is 0 (by decide)) (v := m43 (m43 138 4).toNat 7) rfl rfl ?_
    refine wp_iload (v := x31.1) rfl ?_
    obtain ⟨c46, h⟩ := d_ite h
    refine y_iast (aW5 hS.1.2 c45.is) (ltW c45.is 5 (by decide)) c46 ?_
    obtain ⟨m47, em47, h⟩ := d_bind h
    have em47 := Option.some.inj em47
    have s48 : Sh T.1 m47 := em47 ▸ s44.up (Or.inl ⟨by rw [(aW5 hS.1.2 c45.is)]; exact Nat.le_of_ble_eq_true rfl, by rw [(aW5 hS.1.2 c45.is)]; exact Nat.le_of_ble_eq_true rfl⟩) (by have := (ltW c45.is 5 (by decide)); have := hS.1.2; omega)
    rw [em47]
    refine wp_aload_n (v := ((138 : Nat) : Int)) rfl (Int.natCast_nonneg _) ?_
    obtain ⟨c49, h⟩ := d_ite h
    refine y_get (show ash 138 = (13, 38) from rfl) (Nat.lt_of_lt_of_le (show 138 < 154 by decide) hS.1.1) (v := (((m47 138 4).toNat : Nat) : Int)) c49.eq rfl ?_
    refine wp_dup (Or.inr rfl) ?_
    refine y_get (aW0 hS.1.2 c49.is) (ltW c49.is 0 (by decide)) (v := m47 (m47 138 4).toNat 7) rfl rfl ?_
    refine wp_iconst ⟨by decide, by decide⟩ ?_
    obtain ⟨c50, h⟩ := d_ite h
    refine wp_iadd c50 ?_
    refine y_put (aW0 hS.1.2 c49.is) (ltW c49.is 0 (by decide)) rfl ?_
    obtain ⟨m51, em51, h⟩ := d_bind h
    have em51 := Option.some.inj em51
    have s52 : Sh T.1 m51 := em51 ▸ s48.up (Or.inr ⟨by rw [(aW0 hS.1.2 c49.is)]; decide, by rw [(aW0 hS.1.2 c49.is)]; decide⟩) (by have := (ltW c49.is 0 (by decide)); have := hS.1.2; omega)
    rw [em51]
    cases h
    exact wp_return ⟨rfl, rfl, s52⟩
  · rw [if_pos c35] at h
    cases h
    exact wp_return ⟨rfl, rfl, s34⟩
def b_X13_readVoice_74 (T : Nat) (v1 : Int) (z0 : Int) (M : aM) : Option (Int × aM) :=
 if z0 = (-1) then
 (f_X13_flaw T 1 M).bind fun x53 =>
 b_X13_readVoice_85 T v1 z0 x53.2 else
 b_X13_readVoice_85 T v1 z0 M
theorem tb_X13_readVoice_74 {d : Nat} (hd : 9 ≤ d) {T : T3} {v1 : Int} {z0 : Int} {u3 u4 : aV} {M : aM} {y : (Int × aM)}  (hS : Sh T.1 M) (h : b_X13_readVoice_74 T.1 v1 z0 M = some y) : Wp d 229 74 [] [(2, ((138 : Nat) : Int)), (1, v1), (9, 0), u3, u4] [(0, z0)] (M, T) (fun r2 σ2 => r2 = none ∧ σ2 = (y.2, T) ∧ Sh T.1 y.2) := by
  rw [b_X13_readVoice_74] at h
  refine y_blk (t := 74) rfl (show fnd bk_X13_readVoice 74 = some _ from rfl) aB_X13_readVoice ?_
  refine y_stn (L1 := [(2, ((138 : Nat) : Int)), (1, v1), (9, 0), (0, z0), u4]) (Nat.le_of_ble_eq_true rfl) rfl ?_
  refine wp_iload_n (v := z0) rfl ?_
  refine wp_iconst ⟨by decide, by decide⟩ ?_
  refine y_ne (fun c22 => ?_) (fun c22 => ?_)
  · rw [if_neg c22] at h
    exact tb_X13_readVoice_85 hd hS h
  · rw [if_pos c22] at h
    refine wp_aload_n (v := ((138 : Nat) : Int)) rfl (Int.natCast_nonneg _) ?_
    refine wp_iconst ⟨by decide, by decide⟩ ?_
    obtain ⟨x53, e54, h⟩ := d_bind h
    obtain ⟨r55, s56⟩ := t_X13_flaw hS e54
    refine y_callVv (as := [(0, 1)]) (S1 := []) (Nat.le_of_ble_eq_true rfl) (by omega) r55 rfl (show ash 138 = (13, 38) from rfl) (Nat.lt_of_lt_of_le (show 138 < 154 by decide) hS.1.1) (Nat.le_of_ble_eq_true rfl) (Nat.le_of_ble_eq_true rfl) rfl ?_
    exact tb_X13_readVoice_85 hd s56 h
def f_X13_readVoice (T : Nat)  (M : aM) : Option (Int × aM) :=
 if okW T (M 138 4) then
 (f_X13_lineBegins T (M (M 138 4).toNat 7) 3 M).bind fun x2 =>
 (f_X13_readFresh T x2.2).bind fun x6 =>
 (f_X13_isWord T 2000040 x6.2).bind fun x10 =>
 if x10 = 0 then
 (f_X13_isWord T 2000041 x6.2).bind fun x13 =>
 if x13 = 0 then
 (f_X13_isWord T 2000042 x6.2).bind fun x16 =>
 if x16 = 0 then
 (f_X13_isWord T 2000043 x6.2).bind fun x19 =>
 if x19 = 0 then
 b_X13_readVoice_74 T x6.1 (-1) x6.2 else
 b_X13_readVoice_74 T x6.1 3 x6.2 else
 b_X13_readVoice_74 T x6.1 2 x6.2 else
 b_X13_readVoice_74 T x6.1 1 x6.2 else
 b_X13_readVoice_74 T x6.1 0 x6.2 else none
theorem t_X13_readVoice {T : T3}  {M : aM} {y : (Int × aM)}  (hS : Sh T.1 M) (h : f_X13_readVoice T.1  M = some y) : Mr 9 229 [(2, ((138 : Nat) : Int))] M (none) y.2 T ∧ Sh T.1 y.2 := by
  have key : ∀ d, 9 ≤ d → Wp d 229 0 [] [(2, ((138 : Nat) : Int)), (9, 0), (9, 0), (9, 0), (9, 0)] [] (M, T) (fun r2 σ2 => r2 = none ∧ σ2 = (y.2, T) ∧ Sh T.1 y.2) := by
    intro d hd
    rw [f_X13_readVoice] at h
    refine y_blk (t := 0) rfl (show fnd bk_X13_readVoice 0 = some _ from rfl) aB_X13_readVoice ?_
    refine wp_aload_n (v := ((138 : Nat) : Int)) rfl (Int.natCast_nonneg _) ?_
    refine wp_aload_n (v := ((138 : Nat) : Int)) rfl (Int.natCast_nonneg _) ?_
    obtain ⟨c1, h⟩ := d_ite h
    refine y_get (show ash 138 = (13, 38) from rfl) (Nat.lt_of_lt_of_le (show 138 < 154 by decide) hS.1.1) (v := (((M 138 4).toNat : Nat) : Int)) c1.eq rfl ?_
    refine y_get (aW0 hS.1.2 c1.is) (ltW c1.is 0 (by decide)) (v := M (M 138 4).toNat 7) rfl rfl ?_
    refine wp_iconst ⟨by decide, by decide⟩ ?_
    obtain ⟨x2, e3, h⟩ := d_bind h
    obtain ⟨r4, s5⟩ := t_X13_lineBegins hS e3
    refine y_callVv (as := [(0, (M (M 138 4).toNat 7)), (0, 3)]) (S1 := []) (Nat.le_of_ble_eq_true rfl) (by omega) r4 rfl (show ash 138 = (13, 38) from rfl) (Nat.lt_of_lt_of_le (show 138 < 154 by decide) hS.1.1) (Nat.le_of_ble_eq_true rfl) (Nat.le_of_ble_eq_true rfl) rfl ?_
    refine wp_aload_n (v := ((138 : Nat) : Int)) rfl (Int.natCast_nonneg _) ?_
    obtain ⟨x6, e7, h⟩ := d_bind h
    obtain ⟨r8, s9⟩ := t_X13_readFresh s5 e7
    refine y_callV (as := []) (S1 := []) (Nat.le_of_ble_eq_true rfl) (by omega) r8 (Nat.le_of_ble_eq_true rfl) rfl (show ash 138 = (13, 38) from rfl) (Nat.lt_of_lt_of_le (show 138 < 154 by decide) hS.1.1) (Nat.le_of_ble_eq_true rfl) (Nat.le_of_ble_eq_true rfl) rfl ?_
    refine y_lstn (L1 := [(2, ((138 : Nat) : Int)), (1, x6.1), (9, 0), (9, 0), (9, 0)]) (Nat.le_of_ble_eq_true rfl) rfl ?_
    refine wp_aload_n (v := ((138 : Nat) : Int)) rfl (Int.natCast_nonneg _) ?_
    refine y_ldc_wS (v := 2000040) rfl ?_
    obtain ⟨x10, e11, h⟩ := d_bind h
    refine y_callV (as := [(2, 2000040)]) (S1 := []) (Nat.le_of_ble_eq_true rfl) (by omega) (t_X13_isWord s9 e11) (Nat.le_of_ble_eq_true rfl) rfl (show ash 138 = (13, 38) from rfl) (Nat.lt_of_lt_of_le (show 138 < 154 by decide) hS.1.1) (Nat.le_of_ble_eq_true rfl) (Nat.le_of_ble_eq_true rfl) rfl ?_
    refine wp_if_eq (fun c12 => ?_) (fun c12 => ?_)
    · rw [if_pos c12] at h
      refine y_blk (t := 31) rfl (show fnd bk_X13_readVoice 31 = some _ from rfl) aB_X13_readVoice ?_
      refine wp_aload_n (v := ((138 : Nat) : Int)) rfl (Int.natCast_nonneg _) ?_
      refine y_ldc_wS (v := 2000041) rfl ?_
      obtain ⟨x13, e14, h⟩ := d_bind h
      refine y_callV (as := [(2, 2000041)]) (S1 := []) (Nat.le_of_ble_eq_true rfl) (by omega) (t_X13_isWord s9 e14) (Nat.le_of_ble_eq_true rfl) rfl (show ash 138 = (13, 38) from rfl) (Nat.lt_of_lt_of_le (show 138 < 154 by decide) hS.1.1) (Nat.le_of_ble_eq_true rfl) (Nat.le_of_ble_eq_true rfl) rfl ?_
      refine wp_if_eq (fun c15 => ?_) (fun c15 => ?_)
      · rw [if_pos c15] at h
        refine y_blk (t := 45) rfl (show fnd bk_X13_readVoice 45 = some _ from rfl) aB_X13_readVoice ?_
        refine wp_aload_n (v := ((138 : Nat) : Int)) rfl (Int.natCast_nonneg _) ?_
        refine y_ldc_wS (v := 2000042) rfl ?_
        obtain ⟨x16, e17, h⟩ := d_bind h
        refine y_callV (as := [(2, 2000042)]) (S1 := []) (Nat.le_of_ble_eq_true rfl) (by omega) (t_X13_isWord s9 e17) (Nat.le_of_ble_eq_true rfl) rfl (show ash 138 = (13, 38) from rfl) (Nat.lt_of_lt_of_le (show 138 < 154 by decide) hS.1.1) (Nat.le_of_ble_eq_true rfl) (Nat.le_of_ble_eq_true rfl) rfl ?_
        refine wp_if_eq (fun c18 => ?_) (fun c18 => ?_)
        · rw [if_pos c18] at h
          refine y_blk (t := 59) rfl (show fnd bk_X13_readVoice 59 = some _ from rfl) aB_X13_readVoice ?_
          refine wp_aload_n (v := ((138 : Nat) : Int)) rfl (Int.natCast_nonneg _) ?_
          refine y_ldc_wS (v := 2000043) rfl ?_
          obtain ⟨x19, e20, h⟩ := d_bind h
          refine y_callV (as := [(2, 2000043)]) (S1 := []) (Nat.le_of_ble_eq_true rfl) (by omega) (t_X13_isWord s9 e20) (Nat.le_of_ble_eq_true rfl) rfl (show ash 138 = (13, 38) from rfl) (Nat.lt_of_lt_of_le (show 138 < 154 by decide) hS.1.1) (Nat.le_of_ble_eq_true rfl) (Nat.le_of_ble_eq_true rfl) rfl ?_
          refine wp_if_eq (fun c21 => ?_) (fun c21 => ?_)
          · rw [if_pos c21] at h
            refine y_blk (t := 73) rfl (show fnd bk_X13_readVoice 73 = some _ from rfl) aB_X13_readVoice ?_
            refine wp_iconst ⟨by decide, by decide⟩ ?_
            exact tb_X13_readVoice_74 hd s9 h
          · rw [if_neg c21] at h
            refine wp_iconst ⟨by decide, by decide⟩ ?_
            refine wp_goto ?_
            exact tb_X13_readVoice_74 hd s9 h
        · rw [if_neg c18] at h
          refine wp_iconst ⟨by decide, by decide⟩ ?_
          refine wp_goto ?_
          exact tb_X13_readVoice_74 hd s9 h
      · rw [if_neg c15] at h
        refine wp_iconst ⟨by decide, by decide⟩ ?_
        refine wp_goto ?_
        exact tb_X13_readVoice_74 hd s9 h
    · rw [if_neg c12] at h
      refine wp_iconst ⟨by decide, by decide⟩ ?_
      refine wp_goto ?_
      exact tb_X13_readVoice_74 hd s9 h
  exact ⟨fun d hd => Ms.of3 (key d hd), Ms.sh (key 9 (Nat.le_refl _))⟩
theorem aB_X13_readFolk : ∀ pc, aB 230 pc = fnd bk_X13_readFolk pc := fun _ => rfl
def f_X13_readFolk (T : Nat)  (M : aM) : Option (Int × aM) :=
 if okW T (M 138 4) then
 (f_X13_lineBegins T (M (M 138 4).toNat 8) 4 M).bind fun x2 =>
 (f_X13_readFresh T x2.2).bind fun x6 =>
 (f_X13_needs T 2000044 x6.2).bind fun x10 =>
 (f_X13_readCave T x10.2).bind fun x14 =>
 if (x14.2 138 9) = 5 then
 some (0, x14.2) else
 if okW T (x14.2 138 4) then
 (f_X13_names T x6.1 2 (x14.2 (x14.2 138 4).toNat 8) x14.2).bind fun x20 =>
 if okW T (x20.2 138 4) then
 if 0 ≤ (x20.2 (x20.2 138 4).toNat 8) ∧ (x20.2 (x20.2 138 4).toNat 8) < 4 then
 (some (aup x20.2 ((x20.2 138 4).toNat + 6) ((x20.2 (x20.2 138 4).toNat 8)).toNat x14.1)).bind fun m26 =>
 if okW T (m26 138 4) then
 if aIn ((m26 (m26 138 4).toNat 8) + 1) then
 (some (aup m26 (m26 138 4).toNat 8 ((m26 (m26 138 4).toNat 8) + 1))).bind fun m30 =>
 some (0, m30) else none else none else none else none else none else none
theorem t_X13_readFolk {T : T3}  {M : aM} {y : (Int × aM)}  (hS : Sh T.1 M) (h : f_X13_readFolk T.1  M = some y) : Mr 9 230 [(2, ((138 : Nat) : Int))] M (none) y.2 T ∧ Sh T.1 y.2 := by
  have key : ∀ d, 9 ≤ d → Wp d 230 0 [] [(2, ((138 : Nat) : Int)), (9, 0), (9, 0), (9, 0)] [] (M, T) (fun r2 σ2 => r2 = none ∧ σ2 = (y.2, T) ∧ Sh T.1 y.2) := by
    intro d hd
    rw [f_X13_readFolk] at h
    refine y_blk (t := 0) rfl (show fnd bk_X13_readFolk 0 = some _ from rfl) aB_X13_readFolk ?_
    refine wp_aload_n (v := ((138 : Nat) : Int)) rfl (Int.natCast_nonneg _) ?_
    refine wp_aload_n (v := ((138 : Nat) : Int)) rfl (Int.natCast_nonneg _) ?_
    obtain ⟨c1, h⟩ := d_ite h
    refine y_get (show ash 138 = (13, 38) from rfl) (Nat.lt_of_lt_of_le (show 138 < 154 by decide) hS.1.1) (v := (((M 138 4).toNat : Nat) : Int)) c1.eq rfl ?_
    refine y_get (aW0 hS.1.2 c1.is) (ltW c1.is 0 (by decide)) (v := M (M 138 4).toNat 8) rfl rfl ?_
    refine wp_iconst ⟨by decide, by decide⟩ ?_
    obtain ⟨x2, e3, h⟩ := d_bind h
    obtain ⟨r4, s5⟩ := t_X13_lineBegins hS e3
    refine y_callVv (as := [(0, (M (M 138 4).toNat 8)), (0, 4)]) (S1 := []) (Nat.le_of_ble_eq_true rfl) (by omega) r4 rfl (show ash 138 = (13, 38) from rfl) (Nat.lt_of_lt_of_le (show 138 < 154 by decide) hS.1.1) (Nat.le_of_ble_eq_true rfl) (Nat.le_of_ble_eq_true rfl) rfl ?_
    refine wp_aload_n (v := ((138 : Nat) : Int)) rfl (Int.natCast_nonneg _) ?_
    obtain ⟨x6, e7, h⟩ := d_bind h
    obtain ⟨r8, s9⟩ := t_X13_readFresh s5 e7
    refine y_callV (as := []) (S1 := []) (Nat.le_of_ble_eq_true rfl) (by omega) r8 (Nat.le_of_ble_eq_true rfl) rfl (show ash 138 = (13, 38) from rfl) (Nat.lt_of_lt_of_le (show 138 < 154 by decide) hS.1.1) (Nat.le_of_ble_eq_true rfl) (Nat.le_of_ble_eq_true rfl) rfl ?_
    refine y_lstn (L1 := [(2, ((138 : Nat) : Int)), (1, x6.1), (9, 0), (9, 0)]) (Nat.le_of_ble_eq_true rfl) rfl ?_
    refine wp_aload_n (v := ((138 : Nat) : Int)) rfl (Int.natCast_nonneg _) ?_
    refine y_ldc_wS (v := 2000044) rfl ?_
    obtain ⟨x10, e11, h⟩ := d_bind h
    obtain ⟨r12, s13⟩ := t_X13_needs s9 e11
    refine y_callVv (as := [(2, 2000044)]) (S1 := []) (Nat.le_of_ble_eq_true rfl) (by omega) r12 rfl (show ash 138 = (13, 38) from rfl) (Nat.lt_of_lt_of_le (show 138 < 154 by decide) hS.1.1) (Nat.le_of_ble_eq_true rfl) (Nat.le_of_ble_eq_true rfl) rfl ?_
    refine wp_aload_n (v := ((138 : Nat) : Int)) rfl (Int.natCast_nonneg _) ?_
    obtain ⟨x14, e15, h⟩ := d_bind h
    obtain ⟨r16, s17⟩ := t_X13_readCave s13 e15
    refine y_callV (as := []) (S1 := []) (Nat.le_of_ble_eq_true rfl) (by omega) r16 (Nat.le_of_ble_eq_true rfl) rfl (show ash 138 = (13, 38) from rfl) (Nat.lt_of_lt_of_le (show 138 < 154 by decide) hS.1.1) (Nat.le_of_ble_eq_true rfl) (Nat.le_of_ble_eq_true rfl) rfl ?_
    refine y_stn (L1 := [(2, ((138 : Nat) : Int)), (1, x6.1), (9, 0), (0, x14.1)]) (Nat.le_of_ble_eq_true rfl) rfl ?_
    refine wp_aload_n (v := ((138 : Nat) : Int)) rfl (Int.natCast_nonneg _) ?_
    refine y_get (show ash 138 = (13, 38) from rfl) (Nat.lt_of_lt_of_le (show 138 < 154 by decide) hS.1.1) (v := x14.2 138 9) rfl rfl ?_
    refine wp_iconst ⟨by decide, by decide⟩ ?_
    refine y_ne (fun c18 => ?_) (fun c18 => ?_)
    · rw [if_neg c18] at h
      refine y_blk (t := 38) rfl (show fnd bk_X13_readFolk 38 = some _ from rfl) aB_X13_readFolk ?_
      refine wp_aload_n (v := ((138 : Nat) : Int)) rfl (Int.natCast_nonneg _) ?_
      refine wp_lload_n (v := x6.1) rfl ?_
      refine wp_iconst ⟨by decide, by decide⟩ ?_
      refine wp_aload_n (v := ((138 : Nat) : Int)) rfl (Int.natCast_nonneg _) ?_
      obtain ⟨c19, h⟩ := d_ite h
      refine y_get (show ash 138 = (13, 38) from rfl) (Nat.lt_of_lt_of_le (show 138 < 154 by decide) hS.1.1) (v := (((x14.2 138 4).toNat : Nat) : Int)) c19.eq rfl ?_
      refine y_get (aW0 hS.1.2 c19.is) (ltW c19.is 0 (by decide)) (v := x14.2 (x14.2 138 4).toNat 8) rfl rfl ?_
      obtain ⟨x20, e21, h⟩ := d_bind h
      obtain ⟨r22, s23⟩ := t_X13_names s17 e21
      refine y_callVv (as := [(1, x6.1), (0, 2), (0, (x14.2 (x14.2 138 4).toNat 8))]) (S1 := []) (Nat.le_of_ble_eq_true rfl) (by omega) r22 rfl (show ash 138 = (13, 38) from rfl) (Nat.lt_of_lt_of_le (show 138 < 154 by decide) hS.1.1) (Nat.le_of_ble_eq_true rfl) (Nat.le_of_ble_eq_true rfl) rfl ?_
      refine wp_aload_n (v := ((138 : Nat) : Int)) rfl (Int.natCast_nonneg _) ?_
      obtain ⟨c24, h⟩ := d_ite h
      refine y_get (show ash 138 = (13, 38) from rfl) (Nat.lt_of_lt_of_le (show 138 < 154 by decide) hS.1.1) (v := (((x20.2 138 4).toNat : Nat) : Int)) c24.eq rfl ?_
      refine y_get (aW0 hS.1.2 c24.is) (ltW c24.is 0 (by decide)) (v := ((((x20.2 138 4).toNat + 6) : Nat) : Int)) (rW19 s23 c24.is) rfl ?_
      refine wp_aload_n (v := ((138 : Nat) : Int)) rfl (Int.natCast_nonneg _) ?_
      refine y_get (show ash 138 = (13, 38) from rfl) (Nat.lt_of_lt_of_le (show 138 < 154 by decide) hS.1.1) (v := (((x20.2 138 4).toNat : Nat) : Int)) c24.eq rfl ?_
      refine y_get (aW0 hS.1.2 c24.is) (ltW c24.is 0 (by decide)) (v := x20.2 (x20.2 138 4).toNat 8) rfl rfl ?_
      refine wp_iload_n (v := x14.1) rfl ?_
      obtain ⟨c25, h⟩ := d_ite h
      refine y_iast (aW6 hS.1.2 c24.is) (ltW c24.is 6 (by decide)) c25 ?_
      obtain ⟨m26, em26, h⟩ := d_bind h
      have em26 := Option.some.inj em26
      have s27 : Sh T.1 m26 := em26 ▸ s23.up (Or.inl ⟨by rw [(aW6 hS.1.2 c24.is)]; exact Nat.le_of_ble_eq_true rfl, by rw [(aW6 hS.1.2 c24.is)]; exact Nat.le_of_ble_eq_true rfl⟩) (by have := (ltW c24.is 6 (by decide)); have := hS.1.2; omega)
      rw [em26]
      refine wp_aload_n (v := ((138 : Nat) : Int)) rfl (Int.natCast_nonneg _) ?_
      obtain ⟨c28, h⟩ := d_ite h
      refine y_get (show ash 138 = (13, 38) from rfl) (Nat.lt_of_lt_of_le (show 138 < 154 by decide) hS.1.1) (v := (((m26 138 4).toNat : Nat) : Int)) c28.eq rfl ?_
      refine wp_dup (Or.inr rfl) ?_
      refine y_get (aW0 hS.1.2 c28.is) (ltW c28.is 0 (by decide)) (v := m26 (m26 138 4).toNat 8) rfl rfl ?_
      refine wp_iconst ⟨by decide, by decide⟩ ?_
      obtain ⟨c29, h⟩ := d_ite h
      refine wp_iadd c29 ?_
      refine y_put (aW0 hS.1.2 c28.is) (ltW c28.is 0 (by decide)) rfl ?_
      obtain ⟨m30, em30, h⟩ := d_bind h
      have em30 := Option.some.inj em30
      have s31 : Sh T.1 m30 := em30 ▸ s27.up (Or.inr ⟨by rw [(aW0 hS.1.2 c28.is)]; decide, by rw [(aW0 hS.1.2 c28.is)]; decide⟩) (by have := (ltW c28.is 0 (by decide)); have := hS.1.2; omega)
      rw [em30]
      cases h
      exact wp_return ⟨rfl, rfl, s31⟩
    · rw [if_pos c18] at h
      cases h
      exact wp_return ⟨rfl, rfl, s17⟩
  exact ⟨fun d hd => Ms.of3 (key d hd), Ms.sh (key 9 (Nat.le_refl _))⟩
theorem aB_X13_readEcho : ∀ pc, aB 231 pc = fnd bk_X13_readEcho pc := fun _ => rfl
def b_X13_readEcho_41 (T : Nat) (v1 : Int) (M : aM) : Option (Int × aM) :=
 (f_X13_goesOn T M).bind fun x11 =>
 (f_X13_readPart T 2000045 0 400 x11.2).bind fun x15 =>
 if (x15.2 138 9) = 5 then
 some (0, x15.2) else
 if okW T (x15.2 138 4) then
 if 0 ≤ (x15.2 (x15.2 138 4).toNat 9) ∧ (x15.2 (x15.2 138 4).toNat 9) < 4 then
 (some (aup x15.2 ((x15.2 138 4).toNat + 7) ((x15.2 (x15.2 138 4).toNat 9)).toNat v1)).bind fun m22 =>
 if okW T (m22 138 4) then
 if 0 ≤ (m22 (m22 138 4).toNat 9) ∧ (m22 (m22 138 4).toNat 9) < 4 then
 (some (aup m22 ((m22 138 4).toNat + 8) ((m22 (m22 138 4).toNat 9)).toNat x15.1)).bind fun m26 =>
 if okW T (m26 138 4) then
 if aIn ((m26 (m26 138 4).toNat 9) + 1) then
 (some (aup m26 (m26 138 4).toNat 9 ((m26 (m26 138 4).toNat 9) + 1))).bind fun m30 =>
 some (0, m30) else none else none else none else none else none else none
theorem tb_X13_readEcho_41 {d : Nat} (hd : 8 ≤ d) {T : T3} {v1 : Int} {u2 : aV} {M : aM} {y : (Int × aM)}  (hS : Sh T.1 M) (h : b_X13_readEcho_41 T.1 v1 M = some y) : Wp d 231 41 [] [(2, ((138 : Nat) : Int)), (0, v1), u2] [] (M, T) (fun r2 σ2 => r2 = none ∧ σ2 = (y.2, T) ∧ Sh T.1 y.2) := by
  rw [b_X13_readEcho_41] at h
  refine y_blk (t := 41) rfl (show fnd bk_X13_readEcho 41 = some _ from rfl) aB_X13_readEcho ?_
  refine wp_aload_n (v := ((138 : Nat) : Int)) rfl (Int.natCast_nonneg _) ?_
  obtain ⟨x11, e12, h⟩ := d_bind h
  obtain ⟨r13, s14⟩ := t_X13_goesOn hS e12
  refine y_callVv (as := []) (S1 := []) (Nat.le_of_ble_eq_true rfl) (by omega) r13 rfl (show ash 138 = (13, 38) from rfl) (Nat.lt_of_lt_of_le (show 138 < 154 by decide) hS.1.1) (Nat.le_of_ble_eq_true rfl) (Nat.le_of_ble_eq_true rfl) rfl ?_
  refine wp_aload_n (v := ((138 : Nat) : Int)) rfl (Int.natCast_nonneg _) ?_
  refine y_ldc_wS (v := 2000045) rfl ?_
  refine wp_iconst ⟨by decide, by decide⟩ ?_
  refine wp_sipush (by decide) ?_
  obtain ⟨x15, e16, h⟩ := d_bind h
  obtain ⟨r17, s18⟩ := t_X13_readPart s14 e16
  refine y_callV (as := [(2, 2000045), (0, 0), (0, 400)]) (S1 := []) (Nat.le_of_ble_eq_true rfl) (by omega) r17 (Nat.le_of_ble_eq_true rfl) rfl (show ash 138 = (13, 38) from rfl) (Nat.lt_of_lt_of_le (show 138 < 154 by decide) hS.1.1) (Nat.le_of_ble_eq_true rfl) (Nat.le_of_ble_eq_true rfl) rfl ?_
  refine y_stn (L1 := [(2, ((138 : Nat) : Int)), (0, v1), (0, x15.1)]) (Nat.le_of_ble_eq_true rfl) rfl ?_
  refine wp_aload_n (v := ((138 : Nat) : Int)) rfl (Int.natCast_nonneg _) ?_
  refine y_get (show ash 138 = (13, 38) from rfl) (Nat.lt_of_lt_of_le (show 138 < 154 by decide) hS.1.1) (v := x15.2 138 9) rfl rfl ?_
  refine wp_iconst ⟨by decide, by decide⟩ ?_
  refine y_ne (fun c19 => ?_) (fun c19 => ?_)
  · rw [if_neg c19] at h
    refine y_blk (t := 66) rfl (show fnd bk_X13_readEcho 66 = some _ from rfl) aB_X13_readEcho ?_
    refine wp_aload_n (v := ((138 : Nat) : Int)) rfl (Int.natCast_nonneg _) ?_
    obtain ⟨c20, h⟩ := d_ite h
    refine y_get (show ash 138 = (13, 38) from rfl) (Nat.lt_of_lt_of_le (show 138 < 154 by decide) hS.1.1) (v := (((x15.2 138 4).toNat : Nat) : Int)) c20.eq rfl ?_
    refine y_get (aW0 hS.1.2 c20.is) (ltW c20.is 0 (by decide)) (v := ((((x15.2 138 4).toNat + 7) : Nat) : Int)) (rW20 s18 c20.is) rfl ?_
    refine wp_aload_n (v := ((138 : Nat) : Int)) rfl (Int.natCast_nonneg _) ?_
    refine y_get (show ash 138 = (13, 38) from rfl) (Nat.lt_of_lt_of_le (show 138 < 154 by decide) hS.1.1) (v := (((x15.2 138 4).toNat : Nat) : Int)) c20.eq rfl ?_
    refine y_get (aW0 hS.1.2 c20.is) (ltW c20.is 0 (by decide)) (v := x15.2 (x15.2 138 4).toNat 9) rfl rfl ?_
    refine wp_iload_n (v := v1) rfl ?_
    obtain ⟨c21, h⟩ := d_ite h
    refine y_iast (aW7 hS.1.2 c20.is) (ltW c20.is 7 (by decide)) c21 ?_
    obtain ⟨m22, em22, h⟩ := d_bind h
    have em22 := Option.some.inj em22
    have s23 : Sh T.1 m22 := em22 ▸ s18.up (Or.inl ⟨by rw [(aW7 hS.1.2 c20.is)]; exact Nat.le_of_ble_eq_true rfl, by rw [(aW7 hS.1.2 c20.is)]; exact Nat.le_of_ble_eq_true rfl⟩) (by have := (ltW c20.is 7 (by decide)); have := hS.1.2; omega)
    rw [em22]
    refine wp_aload_n (v := ((138 : Nat) : Int)) rfl (Int.natCast_nonneg _) ?_
    obtain ⟨c24, h⟩ := d_ite h
    refine y_get (show ash 138 = (13, 38) from rfl) (Nat.lt_of_lt_of_le (show 138 < 154 by decide) hS.1.1) (v := (((m22 138 4).toNat : Nat) : Int)) c24.eq rfl ?_
    refine y_get (aW0 hS.1.2 c24.is) (ltW c24.is 0 (by decide)) (v := ((((m22 138 4).toNat + 8) : Nat) : Int)) (rW21 s23 c24.is) rfl ?_
    refine wp_aload_n (v := ((138 : Nat) : Int)) rfl (Int.natCast_nonneg _) ?_
    refine y_get (show ash 138 = (13, 38) from rfl) (Nat.lt_of_lt_of_le (show 138 < 154 by decide) hS.1.1) (v := (((m22 138 4).toNat : Nat) : Int)) c24.eq rfl ?_
    refine y_get (aW0 hS.1.2 c24.is) (ltW c24.is 0 (by decide)) (v := m22 (m22 138 4).toNat 9) rfl rfl ?_
    refine wp_iload_n (v := x15.1) rfl ?_
    obtain ⟨c25, h⟩ := d_ite h
    refine y_iast (aW8 hS.1.2 c24.is) (ltW c24.is 8 (by decide)) c25 ?_
    obtain ⟨m26, em26, h⟩ := d_bind h
    have em26 := Option.some.inj em26
    have s27 : Sh T.1 m26 := em26 ▸ s23.up (Or.inl ⟨by rw [(aW8 hS.1.2 c24.is)]; exact Nat.le_of_ble_eq_true rfl, by rw [(aW8 hS.1.2 c24.is)]; exact Nat.le_of_ble_eq_true rfl⟩) (by have := (ltW c24.is 8 (by decide)); have := hS.1.2; omega)
    rw [em26]
    refine wp_aload_n (v := ((138 : Nat) : Int)) rfl (Int.natCast_nonneg _) ?_
    obtain ⟨c28, h⟩ := d_ite h
    refine y_get (show ash 138 = (13, 38) from rfl) (Nat.lt_of_lt_of_le (show 138 < 154 by decide) hS.1.1) (v := (((m26 138 4).toNat : Nat) : Int)) c28.eq rfl ?_
    refine wp_dup (Or.inr rfl) ?_
    refine y_get (aW0 hS.1.2 c28.is) (ltW c28.is 0 (by decide)) (v := m26 (m26 138 4).toNat 9) rfl rfl ?_
    refine wp_iconst ⟨by decide, by decide⟩ ?_
    obtain ⟨c29, h⟩ := d_ite h
    refine wp_iadd c29 ?_
    refine y_put (aW0 hS.1.2 c28.is) (ltW c28.is 0 (by decide)) rfl ?_
    obtain ⟨m30, em30, h⟩ := d_bind h
    have em30 := Option.some.inj em30
    have s31 : Sh T.1 m30 := em30 ▸ s27.up (Or.inr ⟨by rw [(aW0 hS.1.2 c28.is)]; decide, by rw [(aW0 hS.1.2 c28.is)]; decide⟩) (by have := (ltW c28.is 0 (by decide)); have := hS.1.2; omega)
    rw [em30]
    cases h
    exact wp_return ⟨rfl, rfl, s31⟩
  · rw [if_pos c19] at h
    cases h
    exact wp_return ⟨rfl, rfl, s18⟩
def f_X13_readEcho (T : Nat)  (M : aM) : Option (Int × aM) :=
 if okW T (M 138 4) then
 (f_X13_lineBegins T (M (M 138 4).toNat 9) 4 M).bind fun x2 =>
 (f_X13_caveAtHand T x2.2).bind fun x6 =>
 if (x6.2 138 9) = 5 then
 b_X13_readEcho_41 T x6.1 x6.2 else
 if okW T (x6.2 138 4) then
 (f_X12_isEcho T (x6.2 138 4).toNat x6.1 x6.2).bind fun x33 =>
 if x33 = 0 then
 b_X13_readEcho_41 T x6.1 x6.2 else
 (f_X13_flaw T 3 x6.2).bind fun x36 =>
 b_X13_readEcho_41 T x6.1 x36.2 else none else none
theorem t_X13_readEcho {T : T3}  {M : aM} {y : (Int × aM)}  (hS : Sh T.1 M) (h : f_X13_readEcho T.1  M = some y) : Mr 8 231 [(2, ((138 : Nat) : Int))] M (none) y.2 T ∧ Sh T.1 y.2 := by
  have key : ∀ d, 8 ≤ d → Wp d 231 0 [] [(2, ((138 : Nat) : Int)), (9, 0), (9, 0)] [] (M, T) (fun r2 σ2 => r2 = none ∧ σ2 = (y.2, T) ∧ Sh T.1 y.2) := by
    intro d hd
    rw [f_X13_readEcho] at h
    refine y_blk (t := 0) rfl (show fnd bk_X13_readEcho 0 = some _ from rfl) aB_X13_readEcho ?_
    refine wp_aload_n (v := ((138 : Nat) : Int)) rfl (Int.natCast_nonneg _) ?_
    refine wp_aload_n (v := ((138 : Nat) : Int)) rfl (Int.natCast_nonneg _) ?_
    obtain ⟨c1, h⟩ := d_ite h
    refine y_get (show ash 138 = (13, 38) from rfl) (Nat.lt_of_lt_of_le (show 138 < 154 by decide) hS.1.1) (v := (((M 138 4).toNat : Nat) : Int)) c1.eq rfl ?_
    refine y_get (aW0 hS.1.2 c1.is) (ltW c1.is 0 (by decide)) (v := M (M 138 4).toNat 9) rfl rfl ?_
    refine wp_iconst ⟨by decide, by decide⟩ ?_
    obtain ⟨x2, e3, h⟩ := d_bind h
    obtain ⟨r4, s5⟩ := t_X13_lineBegins hS e3
    refine y_callVv (as := [(0, (M (M 138 4).toNat 9)), (0, 4)]) (S1 := []) (Nat.le_of_ble_eq_true rfl) (by omega) r4 rfl (show ash 138 = (13, 38) from rfl) (Nat.lt_of_lt_of_le (show 138 < 154 by decide) hS.1.1) (Nat.le_of_ble_eq_true rfl) (Nat.le_of_ble_eq_true rfl) rfl ?_
    refine wp_aload_n (v := ((138 : Nat) : Int)) rfl (Int.natCast_nonneg _) ?_
    obtain ⟨x6, e7, h⟩ := d_bind h
    obtain ⟨r8, s9⟩ := t_X13_caveAtHand s5 e7
    refine y_callV (as := []) (S1 := []) (Nat.le_of_ble_eq_true rfl) (by omega) r8 (Nat.le_of_ble_eq_true rfl) rfl (show ash 138 = (13, 38) from rfl) (Nat.lt_of_lt_of_le (show 138 < 154 by decide) hS.1.1) (Nat.le_of_ble_eq_true rfl) (Nat.le_of_ble_eq_true rfl) rfl ?_
    refine y_stn (L1 := [(2, ((138 : Nat) : Int)), (0, x6.1), (9, 0)]) (Nat.le_of_ble_eq_true rfl) rfl ?_
    refine wp_aload_n (v := ((138 : Nat) : Int)) rfl (Int.natCast_nonneg _) ?_
    refine y_get (show ash 138 = (13, 38) from rfl) (Nat.lt_of_lt_of_le (show 138 < 154 by decide) hS.1.1) (v := x6.2 138 9) rfl rfl ?_
    refine wp_iconst ⟨by decide, by decide⟩ ?_
    refine wp_icmp_eq (fun c10 => ?_) (fun c10 => ?_)
    · rw [if_pos c10] at h
      exact tb_X13_readEcho_41 hd s9 h
    · rw [if_neg c10] at h
      refine wp_aload_n (v := ((138 : Nat) : Int)) rfl (Int.natCast_nonneg _) ?_
      obtain ⟨c32, h⟩ := d_ite h
      refine y_get (show ash 138 = (13, 38) from rfl) (Nat.lt_of_lt_of_le (show 138 < 154 by decide) hS.1.1) (v := (((x6.2 138 4).toNat : Nat) : Int)) c32.eq rfl ?_
      refine wp_iload_n (v := x6.1) rfl ?_
      obtain ⟨x33, e34, h⟩ := d_bind h
      refine y_callV (as := [(0, x6.1)]) (S1 := []) (Nat.le_of_ble_eq_true rfl) (by omega) (t_X12_isEcho c32.is s9 e34) (Nat.le_of_ble_eq_true rfl) rfl (aW0 hS.1.2 c32.is) (ltW c32.is 0 (by decide)) (Nat.le_of_ble_eq_true rfl) (Nat.le_of_ble_eq_true rfl) rfl ?_
      refine wp_if_eq (fun c35 => ?_) (fun c35 => ?_)
      · rw [if_pos c35] at h
        exact tb_X13_readEcho_41 hd s9 h
      · rw [if_neg c35] at h
        refine wp_aload_n (v := ((138 : Nat) : Int)) rfl (Int.natCast_nonneg _) ?_
        refine wp_iconst ⟨by decide, by decide⟩ ?_
        obtain ⟨x36, e37, h⟩ := d_bind h
        obtain ⟨r38, s39⟩ := t_X13_flaw s9 e37
        refine y_callVv (as := [(0, 3)]) (S1 := []) (Nat.le_of_ble_eq_true rfl) (by omega) r38 rfl (show ash 138 = (13, 38) from rfl) (Nat.lt_of_lt_of_le (show 138 < 154 by decide) hS.1.1) (Nat.le_of_ble_eq_true rfl) (Nat.le_of_ble_eq_true rfl) rfl ?_
        exact tb_X13_readEcho_41 hd s39 h
  exact ⟨fun d hd => Ms.of3 (key d hd), Ms.sh (key 8 (Nat.le_refl _))⟩
theorem aB_X13_readUnsure : ∀ pc, aB 232 pc = fnd bk_X13_readUnsure pc := fun _ => rfl
def b_X13_readUnsure_78 (T : Nat) (v2 : Int) (M : aM) : Option (Int × aM) :=
 (f_X13_goesOn T M).bind fun x15 =>
 if (x15.2 138 9) = 5 then
 some (0, x15.2) else
 if okW T (x15.2 138 4) then
 if 0 ≤ (x15.2 (x15.2 138 4).toNat 10) ∧ (x15.2 (x15.2 138 4).toNat 10) < 4 then
 (some (aup x15.2 ((x15.2 138 4).toNat + 9) ((x15.2 (x15.2 138 4).toNat 10)).toNat v2)).bind fun m22 =>
 if okW T (m22 138 4) then
 if aIn ((m22 (m22 138 4).toNat 10) + 1) then
 (some (aup m22 (m22 138 4).toNat 10 ((m22 (m22 138 4).toNat 10) + 1))).bind fun m26 =>
 some (0, m26) else none else none else none else none
theorem tb_X13_readUnsure_78 {d : Nat} (hd : 10 ≤ d) {T : T3} {v2 : Int} {u1 : aV} {M : aM} {y : (Int × aM)}  (hS : Sh T.1 M) (h : b_X13_readUnsure_78 T.1 v2 M = some y) : Wp d 232 78 [] [(2, ((138 : Nat) : Int)), u1, (0, v2)] [] (M, T) (fun r2 σ2 => r2 = none ∧ σ2 = (y.2, T) ∧ Sh T.1 y.2) := by
  rw [b_X13_readUnsure_78] at h
  refine y_blk (t := 78) rfl (show fnd bk_X13_readUnsure 78 = some _ from rfl) aB_X13_readUnsure ?_
  refine wp_aload_n (v := ((138 : Nat) : Int)) rfl (Int.natCast_nonneg _) ?_
  obtain ⟨x15, e16, h⟩ := d_bind h
  obtain ⟨r17, s18⟩ := t_X13_goesOn hS e16
  refine y_callVv (as := []) (S1 := []) (Nat.le_of_ble_eq_true rfl) (by omega) r17 rfl (show ash 138 = (13, 38) from rfl) (Nat.lt_of_lt_of_le (show 138 < 154 by decide) hS.1.1) (Nat.le_of_ble_eq_true rfl) (Nat.le_of_ble_eq_true rfl) rfl ?_
  refine wp_aload_n (v := ((138 : Nat) : Int)) rfl (Int.natCast_nonneg _) ?_
  refine y_get (show ash 138 = (13, 38) from rfl) (Nat.lt_of_lt_of_le (show 138 < 154 by decide) hS.1.1) (v := x15.2 138 9) rfl rfl ?_
  refine wp_iconst ⟨by decide, by decide⟩ ?_
  refine y_ne (fun c19 => ?_) (fun c19 => ?_)
  · rw [if_neg c19] at h
    refine y_blk (t := 91) rfl (show fnd bk_X13_readUnsure 91 = some _ from rfl) aB_X13_readUnsure ?_
    refine wp_aload_n (v := ((138 : Nat) : Int)) rfl (Int.natCast_nonneg _) ?_
    obtain ⟨c20, h⟩ := d_ite h
    refine y_get (show ash 138 = (13, 38) from rfl) (Nat.lt_of_lt_of_le (show 138 < 154 by decide) hS.1.1) (v := (((x15.2 138 4).toNat : Nat) : Int)) c20.eq rfl ?_
    refine y_get (aW0 hS.1.2 c20.is) (ltW c20.is 0 (by decide)) (v := ((((x15.2 138 4).toNat + 9) : Nat) : Int)) (rW22 s18 c20.is) rfl ?_
    refine wp_aload_n (v := ((138 : Nat) : Int)) rfl (Int.natCast_nonneg _) ?_
    refine y_get (show ash 138 = (13, 38) from rfl) (Nat.lt_of_lt_of_le (show 138 < 154 by decide) hS.1.1) (v := (((x15.2 138 4).toNat : Nat) : Int)) c20.eq rfl ?_
    refine y_get (aW0 hS.1.2 c20.is) (ltW c20.is 0 (by decide)) (v := x15.2 (x15.2 138 4).toNat 10) rfl rfl ?_
    refine wp_iload_n (v := v2) rfl ?_
    obtain ⟨c21, h⟩ := d_ite h
    refine y_iast (aW9 hS.1.2 c20.is) (ltW c20.is 9 (by decide)) c21 ?_
    obtain ⟨m22, em22, h⟩ := d_bind h
    have em22 := Option.some.inj em22
    have s23 : Sh T.1 m22 := em22 ▸ s18.up (Or.inl ⟨by rw [(aW9 hS.1.2 c20.is)]; exact Nat.le_of_ble_eq_true rfl, by rw [(aW9 hS.1.2 c20.is)]; exact Nat.le_of_ble_eq_true rfl⟩) (by have := (ltW c20.is 9 (by decide)); have := hS.1.2; omega)
    rw [em22]
    refine wp_aload_n (v := ((138 : Nat) : Int)) rfl (Int.natCast_nonneg _) ?_
    obtain ⟨c24, h⟩ := d_ite h
    refine y_get (show ash 138 = (13, 38) from rfl) (Nat.lt_of_lt_of_le (show 138 < 154 by decide) hS.1.1) (v := (((m22 138 4).toNat : Nat) : Int)) c24.eq rfl ?_
    refine wp_dup (Or.inr rfl) ?_
    refine y_get (aW0 hS.1.2 c24.is) (ltW c24.is 0 (by decide)) (v := m22 (m22 138 4).toNat 10) rfl rfl ?_
    refine wp_iconst ⟨by decide, by decide⟩ ?_
    obtain ⟨c25, h⟩ := d_ite h
    refine wp_iadd c25 ?_
    refine y_put (aW0 hS.1.2 c24.is) (ltW c24.is 0 (by decide)) rfl ?_
    obtain ⟨m26, em26, h⟩ := d_bind h
    have em26 := Option.some.inj em26
    have s27 : Sh T.1 m26 := em26 ▸ s23.up (Or.inr ⟨by rw [(aW0 hS.1.2 c24.is)]; decide, by rw [(aW0 hS.1.2 c24.is)]; decide⟩) (by have := (ltW c24.is 0 (by decide)); have := hS.1.2; omega)
    rw [em26]
    cases h
    exact wp_return ⟨rfl, rfl, s27⟩
  · rw [if_pos c19] at h
    cases h
    exact wp_return ⟨rfl, rfl, s18⟩
def b_X13_readUnsure_59 (T : Nat) (v2 : Int) (M : aM) : Option (Int × aM) :=
 if (M 138 9) = 5 then
 b_X13_readUnsure_78 T v2 M else
 if v2 = (-1) then
 (f_X13_flaw T 7 M).bind fun x29 =>
 b_X13_readUnsure_78 T v2 x29.2 else
 b_X13_readUnsure_78 T v2 M
theorem tb_X13_readUnsure_59 {d : Nat} (hd : 10 ≤ d) {T : T3} {v2 : Int} {u1 : aV} {M : aM} {y : (Int × aM)}  (hS : Sh T.1 M) (h : b_X13_readUnsure_59 T.1 v2 M = some y) : Wp d 232 59 [] [(2, ((138 : Nat) : Int)), u1, (0, v2)] [] (M, T) (fun r2 σ2 => r2 = none ∧ σ2 = (y.2, T) ∧ Sh T.1 y.2) := by
  rw [b_X13_readUnsure_59] at h
  refine y_blk (t := 59) rfl (show fnd bk_X13_readUnsure 59 = some _ from rfl) aB_X13_readUnsure ?_
  refine wp_aload_n (v := ((138 : Nat) : Int)) rfl (Int.natCast_nonneg _) ?_
  refine y_get (show ash 138 = (13, 38) from rfl) (Nat.lt_of_lt_of_le (show 138 < 154 by decide) hS.1.1) (v := M 138 9) rfl rfl ?_
  refine wp_iconst ⟨by decide, by decide⟩ ?_
  refine wp_icmp_eq (fun c14 => ?_) (fun c14 => ?_)
  · rw [if_pos c14] at h
    exact tb_X13_readUnsure_78 hd hS h
  · rw [if_neg c14] at h
    refine wp_iload_n (v := v2) rfl ?_
    refine wp_iconst ⟨by decide, by decide⟩ ?_
    refine y_ne (fun c28 => ?_) (fun c28 => ?_)
    · rw [if_neg c28] at h
      exact tb_X13_readUnsure_78 hd hS h
    · rw [if_pos c28] at h
      refine wp_aload_n (v := ((138 : Nat) : Int)) rfl (Int.natCast_nonneg _) ?_
      refine wp_bipush (by decide) ?_
      obtain ⟨x29, e30, h⟩ := d_bind h
      obtain ⟨r31, s32⟩ := t_X13_flaw hS e30
      refine y_callVv (as := [(0, 7)]) (S1 := []) (Nat.le_of_ble_eq_true rfl) (by omega) r31 rfl (show ash 138 = (13, 38) from rfl) (Nat.lt_of_lt_of_le (show 138 < 154 by decide) hS.1.1) (Nat.le_of_ble_eq_true rfl) (Nat.le_of_ble_eq_true rfl) rfl ?_
      exact tb_X13_readUnsure_78 hd s32 h
def f_X13_readUnsure (T : Nat)  (M : aM) : Option (Int × aM) :=
 if okW T (M 138 4) then
 (f_X13_lineBegins T (M (M 138 4).toNat 10) 4 M).bind fun x2 =>
 (f_X13_readTwo T x2.2).bind fun x6 =>
 if okW T (x6.2 138 4) then
 (f_X12_way T (x6.2 138 4).toNat x6.1 (x6.2 138 15) x6.2).bind fun x11 =>
 if (x6.2 138 9) = 5 then
 b_X13_readUnsure_59 T x11 x6.2 else
 if x11 = (-1) then
 b_X13_readUnsure_59 T x11 x6.2 else
 (f_X12_isUnsure T (x6.2 138 4).toNat x11 x6.2).bind fun x34 =>
 if x34 = 0 then
 b_X13_readUnsure_59 T x11 x6.2 else
 (f_X13_flaw T 3 x6.2).bind fun x37 =>
 b_X13_readUnsure_59 T x11 x37.2 else none else none
theorem t_X13_readUnsure {T : T3}  {M : aM} {y : (Int × aM)}  (hS : Sh T.1 M) (h : f_X13_readUnsure T.1  M = some y) : Mr 10 232 [(2, ((138 : Nat) : Int))] M (none) y.2 T ∧ Sh T.1 y.2 := by
  have key : ∀ d, 10 ≤ d → Wp d 232 0 [] [(2, ((138 : Nat) : Int)), (9, 0), (9, 0)] [] (M, T) (fun r2 σ2 => r2 = none ∧ σ2 = (y.2, T) ∧ Sh T.1 y.2) := by
    intro d hd
    rw [f_X13_readUnsure] at h
    refine y_blk (t := 0) rfl (show fnd bk_X13_readUnsure 0 = some _ from rfl) aB_X13_readUnsure ?_
    refine wp_aload_n (v := ((138 : Nat) : Int)) rfl (Int.natCast_nonneg _) ?_
    refine wp_aload_n (v := ((138 : Nat) : Int)) rfl (Int.natCast_nonneg _) ?_
    obtain ⟨c1, h⟩ := d_ite h
    refine y_get (show ash 138 = (13, 38) from rfl) (Nat.lt_of_lt_of_le (show 138 < 154 by decide) hS.1.1) (v := (((M 138 4).toNat : Nat) : Int)) c1.eq rfl ?_
    refine y_get (aW0 hS.1.2 c1.is) (ltW c1.is 0 (by decide)) (v := M (M 138 4).toNat 10) rfl rfl ?_
    refine wp_iconst ⟨by decide, by decide⟩ ?_
    obtain ⟨x2, e3, h⟩ := d_bind h
    obtain ⟨r4, s5⟩ := t_X13_lineBegins hS e3
    refine y_callVv (as := [(0, (M (M 138 4).toNat 10)), (0, 4)]) (S1 := []) (Nat.le_of_ble_eq_true rfl) (by omega) r4 rfl (show ash 138 = (13, 38) from rfl) (Nat.lt_of_lt_of_le (show 138 < 154 by decide) hS.1.1) (Nat.le_of_ble_eq_true rfl) (Nat.le_of_ble_eq_true rfl) rfl ?_
    refine wp_aload_n (v := ((138 : Nat) : Int)) rfl (Int.natCast_nonneg _) ?_
    obtain ⟨x6, e7, h⟩ := d_bind h
    obtain ⟨r8, s9⟩ := t_X13_readTwo s5 e7
    refine y_callV (as := []) (S1 := []) (Nat.le_of_ble_eq_true rfl) (by omega) r8 (Nat.le_of_ble_eq_true rfl) rfl (show ash 138 = (13, 38) from rfl) (Nat.lt_of_lt_of_le (show 138 < 154 by decide) hS.1.1) (Nat.le_of_ble_eq_true rfl) (Nat.le_of_ble_eq_true rfl) rfl ?_
    refine y_stn (L1 := [(2, ((138 : Nat) : Int)), (0, x6.1), (9, 0)]) (Nat.le_of_ble_eq_true rfl) rfl ?_
    refine wp_aload_n (v := ((138 : Nat) : Int)) rfl (Int.natCast_nonneg _) ?_
    obtain ⟨c10, h⟩ := d_ite h
    refine y_get (show ash 138 = (13, 38) from rfl) (Nat.lt_of_lt_of_le (show 138 < 154 by decide) hS.1.1) (v := (((x6.2 138 4).toNat : Nat) : Int)) c10.eq rfl ?_
    refine wp_iload_n (v := x6.1) rfl ?_
    refine wp_aload_n (v := ((138 : Nat) : Int)) rfl (Int.natCast_nonneg _) ?_
    refine y_get (show ash 138 = (13, 38) from rfl) (Nat.lt_of_lt_of_le (show 138 < 154 by decide) hS.1.1) (v := x6.2 138 15) rfl rfl ?_
    obtain ⟨x11, e12, h⟩ := d_bind h
    refine y_callV (as := [(0, x6.1), (0, (x6.2 138 15))]) (S1 := []) (Nat.le_of_ble_eq_true rfl) (by omega) (t_X12_way c10.is s9 e12) (Nat.le_of_ble_eq_true rfl) rfl (aW0 hS.1.2 c10.is) (ltW c10.is 0 (by decide)) (Nat.le_of_ble_eq_true rfl) (Nat.le_of_ble_eq_true rfl) rfl ?_
    refine y_stn (L1 := [(2, ((138 : Nat) : Int)), (0, x6.1), (0, x11)]) (Nat.le_of_ble_eq_true rfl) rfl ?_
    refine wp_aload_n (v := ((138 : Nat) : Int)) rfl (Int.natCast_nonneg _) ?_
    refine y_get (show ash 138 = (13, 38) from rfl) (Nat.lt_of_lt_of_le (show 138 < 154 by decide) hS.1.1) (v := x6.2 138 9) rfl rfl ?_
    refine wp_iconst ⟨by decide, by decide⟩ ?_
    refine wp_icmp_eq (fun c13 => ?_) (fun c13 => ?_)
    · rw [if_pos c13] at h
      exact tb_X13_readUnsure_59 hd s9 h
    · rw [if_neg c13] at h
      refine wp_iload_n (v := x11) rfl ?_
      refine wp_iconst ⟨by decide, by decide⟩ ?_
      refine wp_icmp_eq (fun c33 => ?_) (fun c33 => ?_)
      · rw [if_pos c33] at h
        exact tb_X13_readUnsure_59 hd s9 h
      · rw [if_neg c33] at h
        refine wp_aload_n (v := ((138 : Nat) : Int)) rfl (Int.natCast_nonneg _) ?_
        refine y_get (show ash 138 = (13, 38) from rfl) (Nat.lt_of_lt_of_le (show 138 < 154 by decide) hS.1.1) (v := (((x6.2 138 4).toNat : Nat) : Int)) c10.eq rfl ?_
        refine wp_iload_n (v := x11) rfl ?_
        obtain ⟨x34, e35, h⟩ := d_bind h
        refine y_callV (as := [(0, x11)]) (S1 := []) (Nat.le_of_ble_eq_true rfl) (by omega) (t_X12_isUnsure c10.is s9 e35) (Nat.le_of_ble_eq_true rfl) rfl (aW0 hS.1.2 c10.is) (ltW c10.is 0 (by decide)) (Nat.le_of_ble_eq_true rfl) (Nat.le_of_ble_eq_true rfl) rfl ?_
        refine wp_if_eq (fun c36 => ?_) (fun c36 => ?_)
        · rw [if_pos c36] at h
          exact tb_X13_readUnsure_59 hd s9 h
        · rw [if_neg c36] at h
          refine wp_aload_n (v := ((138 : Nat) : Int)) rfl (Int.natCast_nonneg _) ?_
          refine wp_iconst ⟨by decide, by decide⟩ ?_
          obtain ⟨x37, e38, h⟩ := d_bind h
          obtain ⟨r39, s40⟩ := t_X13_flaw s9 e38
          refine y_callVv (as := [(0, 3)]) (S1 := []) (Nat.le_of_ble_eq_true rfl) (by omega) r39 rfl (show ash 138 = (13, 38) from rfl) (Nat.lt_of_lt_of_le (show 138 < 154 by decide) hS.1.1) (Nat.le_of_ble_eq_true rfl) (Nat.le_of_ble_eq_true rfl) rfl ?_
          exact tb_X13_readUnsure_59 hd s40 h
  exact ⟨fun d hd => Ms.of3 (key d hd), Ms.sh (key 10 (Nat.le_refl _))⟩
theorem aB_X13_readTalk : ∀ pc, aB 233 pc = fnd bk_X13_readTalk pc := fun _ => rfl
def b_X13_readTalk_48 (T : Nat) (v1 : Int) (v2 : Int) (M : aM) : Option (Int × aM) :=
 (f_X13_goesOn T M).bind fun x17 =>
 if (x17.2 138 9) = 5 then
 some (0, x17.2) else
 if okW T (x17.2 138 4) then
 if 0 ≤ (x17.2 (x17.2 138 4).toNat 11) ∧ (x17.2 (x17.2 138 4).toNat 11) < 5 then
 (some (aup x17.2 ((x17.2 138 4).toNat + 10) ((x17.2 (x17.2 138 4).toNat 11)).toNat v1)).bind fun m24 =>
 if okW T (m24 138 4) then
 if 0 ≤ (m24 (m24 138 4).toNat 11) ∧ (m24 (m24 138 4).toNat 11) < 5 then
 (some (aup m24 ((m24 138 4).toNat + 11) ((m24 (m24 138 4).toNat 11)).toNat (m24 138 15))).bind fun m28 =>
 if okW T (m28 138 4) then
 if v2 = 0 then
 (some (aup m28 (m28 138 4).toNat 12 (aor (m28 (m28 138 4).toNat 12) 0))).bind fun m32 =>
 if okW T (m32 138 4) then
 if aIn ((m32 (m32 138 4).toNat 11) + 1) then
 (some (aup m32 (m32 138 4).toNat 11 ((m32 (m32 138 4).toNat 11) + 1))).bind fun m36 =>
 some (0, m36) else none else none else
 (some (aup m28 (m28 138 4).toNat 12 (aor (m28 (m28 138 4).toNat 12) (ashl 1 (m28 (m28 138 4).toNat 11))))).bind fun m38 =>
 if okW T (m38 138 4) then
 if aIn ((m38 (m38 138 4).toNat 11) + 1) then
 (some (aup m38 (m38 138 4).toNat 11 ((m38 (m38 138 4).toNat 11) + 1))).bind fun m42 =>
 some (0, m42) else none else none else none else none else none else none else none
theorem tb_X13_readTalk_48 {d : Nat} (hd : 10 ≤ d) {T : T3} {v1 : Int} {v2 : Int} {M : aM} {y : (Int × aM)}  (hS : Sh T.1 M) (h : b_X13_readTalk_48 T.1 v1 v2 M = some y) : Wp d 233 48 [] [(2, ((138 : Nat) : Int)), (0, v1), (0, v2)] [] (M, T) (fun r2 σ2 => r2 = none ∧ σ2 = (y.2, T) ∧ Sh T.1 y.2) := by
  rw [b_X13_readTalk_48] at h
  refine y_blk (t := 48) rfl (show fnd bk_X13_readTalk 48 = some _ from rfl) aB_X13_readTalk ?_
  refine wp_aload_n (v := ((138 : Nat) : Int)) rfl (Int.natCast_nonneg _) ?_
  obtain ⟨x17, e18, h⟩ := d_bind h
  obtain ⟨r19, s20⟩ := t_X13_goesOn hS e18
  refine y_callVv (as := []) (S1 := []) (Nat.le_of_ble_eq_true rfl) (by omega) r19 rfl (show ash 138 = (13, 38) from rfl) (Nat.lt_of_lt_of_le (show 138 < 154 by decide) hS.1.1) (Nat.le_of_ble_eq_true rfl) (Nat.le_of_ble_eq_true rfl) rfl ?_
  refine wp_aload_n (v := ((138 : Nat) : Int)) rfl (Int.natCast_nonneg _) ?_
  refine y_get (show ash 138 = (13, 38) from rfl) (Nat.lt_of_lt_of_le (show 138 < 154 by decide) hS.1.1) (v := x17.2 138 9) rfl rfl ?_
  refine wp_iconst ⟨by decide, by decide⟩ ?_
  refine y_ne (fun c21 => ?_) (fun c21 => ?_)
  · rw [if_neg c21] at h
    refine y_blk (t := 61) rfl (show fnd bk_X13_readTalk 61 = some _ from rfl) aB_X13_readTalk ?_
    refine wp_aload_n (v := ((138 : Nat) : Int)) rfl (Int.natCast_nonneg _) ?_
    obtain ⟨c22, h⟩ := d_ite h
    refine y_get (show ash 138 = (13, 38) from rfl) (Nat.lt_of_lt_of_le (show 138 < 154 by decide) hS.1.1) (v := (((x17.2 138 4).toNat : Nat) : Int)) c22.eq rfl ?_
    refine y_get (aW0 hS.1.2 c22.is) (ltW c22.is 0 (by decide)) (v := ((((x17.2 138 4).toNat + 10) : Nat) : Int)) (rW23 s20 c22.is) rfl ?_
    refine wp_aload_n (v := ((138 : Nat) : Int)) rfl (Int.natCast_nonneg _) ?_
    refine y_get (show ash 138 = (13, 38) from rfl) (Nat.lt_of_lt_of_le (show 138 < 154 by decide) hS.1.1) (v := (((x17.2 138 4).toNat : Nat) : Int)) c22.eq rfl ?_
    refine y_get (aW0 hS.1.2 c22.is) (ltW c22.is 0 (by decide)) (v := x17.2 (x17.2 138 4).toNat 11) rfl rfl ?_
    refine wp_iload_n (v := v1) rfl ?_
    obtain ⟨c23, h⟩ := d_ite h
    refine y_iast (aW10 hS.1.2 c22.is) (ltW c22.is 10 (by decide)) c23 ?_
    obtain ⟨m24, em24, h⟩ := d_bind h
    have em24 := Option.some.inj em24
    have s25 : Sh T.1 m24 := em24 ▸ s20.up (Or.inl ⟨by rw [(aW10 hS.1.2 c22.is)]; exact Nat.le_of_ble_eq_true rfl, by rw [(aW10 hS.1.2 c22.is)]; exact Nat.le_of_ble_eq_true rfl⟩) (by have := (ltW c22.is 10 (by decide)); have := hS.1.2; omega)
    rw [em24]
    refine wp_aload_n (v := ((138 : Nat) : Int)) rfl (Int.natCast_nonneg _) ?_
    obtain ⟨c26, h⟩ := d_ite h
    refine y_get (show ash 138 = (13, 38) from rfl) (Nat.lt_of_lt_of_le (show 138 < 154 by decide) hS.1.1) (v := (((m24 138 4).toNat : Nat) : Int)) c26.eq rfl ?_
    refine y_get (aW0 hS.1.2 c26.is) (ltW c26.is 0 (by decide)) (v := ((((m24 138 4).toNat + 11) : Nat) : Int)) (rW24 s25 c26.is) rfl ?_
    refine wp_aload_n (v := ((138 : Nat) : Int)) rfl (Int.natCast_nonneg _) ?_
    refine y_get (show ash 138 = (13, 38) from rfl) (Nat.lt_of_lt_of_le (show 138 < 154 by decide) hS.1.1) (v := (((m24 138 4).toNat : Nat) : Int)) c26.eq rfl ?_
    refine y_get (aW0 hS.1.2 c26.is) (ltW c26.is 0 (by decide)) (v := m24 (m24 138 4).toNat 11) rfl rfl ?_
    refine wp_aload_n (v := ((138 : Nat) : Int)) rfl (Int.natCast_nonneg _) ?_
    refine y_get (show ash 138 = (13, 38) from rfl) (Nat.lt_of_lt_of_le (show 138 < 154 by decide) hS.1.1) (v := m24 138 15) rfl rfl ?_
    obtain ⟨c27, h⟩ := d_ite h
    refine y_iast (aW11 hS.1.2 c26.is) (ltW c26.is 11 (by decide)) c27 ?_
    obtain ⟨m28, em28, h⟩ := d_bind h
    have em28 := Option.some.inj em28
    have s29 : Sh T.1 m28 := em28 ▸ s25.up (Or.inl ⟨by rw [(aW11 hS.1.2 c26.is)]; exact Nat.le_of_ble_eq_true rfl, by rw [(aW11 hS.1.2 c26.is)]; exact Nat.le_of_ble_eq_true rfl⟩) (by have := (ltW c26.is 11 (by decide)); have := hS.1.2; omega)
    rw [em28]
    refine wp_aload_n (v := ((138 : Nat) : Int)) rfl (Int.natCast_nonneg _) ?_
    obtain ⟨c30, h⟩ := d_ite h
    refine y_get (show ash 138 = (13, 38) from rfl) (Nat.lt_of_lt_of_le (show 138 < 154 by decide) hS.1.1) (v := (((m28 138 4).toNat : Nat) : Int)) c30.eq rfl ?_
    refine wp_dup (Or.inr rfl) ?_
    refine y_get (aW0 hS.1.2 c30.is) (ltW c30.is 0 (by decide)) (v := m28 (m28 138 4).toNat 12) rfl rfl ?_
    refine wp_iload_n (v := v2) rfl ?_
    refine wp_if_eq (fun c31 => ?_) (fun c31 => ?_)
    · rw [if_pos c31] at h
      refine y_blk (t := 120) rfl (show fnd bk_X13_readTalk 120 = some _ from rfl) aB_X13_readTalk ?_
      refine wp_iconst ⟨by decide, by decide⟩ ?_
      refine y_blk (t := 121) rfl (show fnd bk_X13_readTalk 121 = some _ from rfl) aB_X13_readTalk ?_
      refine wp_ior ?_
      refine y_put (aW0 hS.1.2 c30.is) (ltW c30.is 0 (by decide)) rfl ?_
      obtain ⟨m32, em32, h⟩ := d_bind h
      have em32 := Option.some.inj em32
      have s33 : Sh T.1 m32 := em32 ▸ s29.up (Or.inr ⟨by rw [(aW0 hS.1.2 c30.is)]; decide, by rw [(aW0 hS.1.2 c30.is)]; decide⟩) (by have := (ltW c30.is 0 (by decide)); have := hS.1.2; omega)
      rw [em32]
      refine wp_aload_n (v := ((138 : Nat) : Int)) rfl (Int.natCast_nonneg _) ?_
      obtain ⟨c34, h⟩ := d_ite h
      refine y_get (show ash 138 = (13, 38) from rfl) (Nat.lt_of_lt_of_le (show 138 < 154 by decide) hS.1.1) (v := (((m32 138 4).toNat : Nat) : Int)) c34.eq rfl ?_
      refine wp_dup (Or.inr rfl) ?_
      refine y_get (aW0 hS.1.2 c34.is) (ltW c34.is 0 (by decide)) (v := m32 (m32 138 4).toNat 11) rfl rfl ?_
      refine wp_iconst ⟨by decide, by decide⟩ ?_
      obtain ⟨c35, h⟩ := d_ite h
      refine wp_iadd c35 ?_
      refine y_put (aW0 hS.1.2 c34.is) (ltW c34.is 0 (by decide)) rfl ?_
      obtain ⟨m36, em36, h⟩ := d_bind h
      have em36 := Option.some.inj em36
      have s37 : Sh T.1 m36 := em36 ▸ s33.up (Or.inr ⟨by rw [(aW0 hS.1.2 c34.is)]; decide, by rw [(aW0 hS.1.2 c34.is)]; decide⟩) (by have := (ltW c34.is 0 (by decide)); have := hS.1.2; omega)
      rw [em36]
      cases h
      exact wp_return ⟨rfl, rfl, s37⟩
    · rw [if_neg c31] at h
      refine wp_iconst ⟨by decide, by decide⟩ ?_
      refine wp_aload_n (v := ((138 : Nat) : Int)) rfl (Int.natCast_nonneg _) ?_
      refine y_get (show ash 138 = (13, 38) from rfl) (Nat.lt_of_lt_of_le (show 138 < 154 by decide) hS.1.1) (v := (((m28 138 4).toNat : Nat) : Int)) c30.eq rfl ?_
      refine y_get (aW0 hS.1.2 c30.is) (ltW c30.is 0 (by decide)) (v := m28 (m28 138 4).toNat 11) rfl rfl ?_
      refine wp_ishl ?_
      refine wp_goto ?_
      refine y_blk (t := 121) rfl (show fnd bk_X13_readTalk 121 = some _ from rfl) aB_X13_readTalk ?_
      refine wp_ior ?_
      refine y_put (aW0 hS.1.2 c30.is) (ltW c30.is 0 (by decide)) rfl ?_
      obtain ⟨m38, em38, h⟩ := d_bind h
      have em38 := Option.some.inj em38
      have s39 : Sh T.1 m38 := em38 ▸ s29.up (Or.inr ⟨by rw [(aW0 hS.1.2 c30.is)]; decide, by rw [(aW0 hS.1.2 c30.is)]; decide⟩) (by have := (ltW c30.is 0 (by decide)); have := hS.1.2; omega)
      rw [em38]
      refine wp_aload_n (v := ((138 : Nat) : Int)) rfl (Int.natCast_nonneg _) ?_
      obtain ⟨c40, h⟩ := d_ite h
      refine y_get (show ash 138 = (13, 38) from rfl) (Nat.lt_of_lt_of_le (show 138 < 154 by decide) hS.1.1) (v := (((m38 138 4).toNat : Nat) : Int)) c40.eq rfl ?_
      refine wp_dup (Or.inr rfl) ?_
      refine y_get (aW0 hS.1.2 c40.is) (ltW c40.is 0 (by decide)) (v := m38 (m38 138 4).toNat 11) rfl rfl ?_
      refine wp_iconst ⟨by decide, by decide⟩ ?_
      obtain ⟨c41, h⟩ := d_ite h
      refine wp_iadd c41 ?_
      refine y_put (aW0 hS.1.2 c40.is) (ltW c40.is 0 (by decide)) rfl ?_
      obtain ⟨m42, em42, h⟩ := d_bind h
      have em42 := Option.some.inj em42
      have s43 : Sh T.1 m42 := em42 ▸ s39.up (Or.inr ⟨by rw [(aW0 hS.1.2 c40.is)]; decide, by rw [(aW0 hS.1.2 c40.is)]; decide⟩) (by have := (ltW c40.is 0 (by decide)); have := hS.1.2; omega)
      rw [em42]
      cases h
      exact wp_return ⟨rfl, rfl, s43⟩
  · rw [if_pos c21] at h
    cases h
    exact wp_return ⟨rfl, rfl, s20⟩
def f_X13_readTalk (T : Nat)  (M : aM) : Option (Int × aM) :=
 if okW T (M 138 4) then
 (f_X13_lineBegins T (M (M 138 4).toNat 11) 5 M).bind fun x2 =>
 (f_X13_readTwo T x2.2).bind fun x6 =>
 (f_X13_goesOn T x6.2).bind fun x10 =>
 (f_X13_isWord T 2000046 x10.2).bind fun x14 =>
 if x14 = 0 then
 (f_X13_isWord T 2000047 x10.2).bind fun x44 =>
 if x44 = 0 then
 (f_X13_flaw T 1 x10.2).bind fun x47 =>
 b_X13_readTalk_48 T x6.1 x14 x47.2 else
 b_X13_readTalk_48 T x6.1 x14 x10.2 else
 b_X13_readTalk_48 T x6.1 x14 x10.2 else none
theorem t_X13_readTalk {T : T3}  {M : aM} {y : (Int × aM)}  (hS : Sh T.1 M) (h : f_X13_readTalk T.1  M = some y) : Mr 10 233 [(2, ((138 : Nat) : Int))] M (none) y.2 T ∧ Sh T.1 y.2 := by
  have key : ∀ d, 10 ≤ d → Wp d 233 0 [] [(2, ((138 : Nat) : Int)), (9, 0), (9, 0)] [] (M, T) (fun r2 σ2 => r2 = none ∧ σ2 = (y.2, T) ∧ Sh T.1 y.2) := by
    intro d hd
    rw [f_X13_readTalk] at h
    refine y_blk (t := 0) rfl (show fnd bk_X13_readTalk 0 = some _ from rfl) aB_X13_readTalk ?_
    refine wp_aload_n (v := ((138 : Nat) : Int)) rfl (Int.natCast_nonneg _) ?_
    refine wp_aload_n (v := ((138 : Nat) : Int)) rfl (Int.natCast_nonneg _) ?_
    obtain ⟨c1, h⟩ := d_ite h
    refine y_get (show ash 138 = (13, 38) from rfl) (Nat.lt_of_lt_of_le (show 138 < 154 by decide) hS.1.1) (v := (((M 138 4).toNat : Nat) : Int)) c1.eq rfl ?_
    refine y_get (aW0 hS.1.2 c1.is) (ltW c1.is 0 (by decide)) (v := M (M 138 4).toNat 11) rfl rfl ?_
    refine wp_iconst ⟨by decide, by decide⟩ ?_
    obtain ⟨x2, e3, h⟩ := d_bind h
    obtain ⟨r4, s5⟩ := t_X13_lineBegins hS e3
    refine y_callVv (as := [(0, (M (M 138 4).toNat 11)), (0, 5)]) (S1 := []) (Nat.le_of_ble_eq_true rfl) (by omega) r4 rfl (show ash 138 = (13, 38) from rfl) (Nat.lt_of_lt_of_le (show 138 < 154 by decide) hS.1.1) (Nat.le_of_ble_eq_true rfl) (Nat.le_of_ble_eq_true rfl) rfl ?_
    refine wp_aload_n (v := ((138 : Nat) : Int)) rfl (Int.natCast_nonneg _) ?_
    obtain ⟨x6, e7, h⟩ := d_bind h
    obtain ⟨r8, s9⟩ := t_X13_readTwo s5 e7
    refine y_callV (as := []) (S1 := []) (Nat.le_of_ble_eq_true rfl) (by omega) r8 (Nat.le_of_ble_eq_true rfl) rfl (show ash 138 = (13, 38) from rfl) (Nat.lt_of_lt_of_le (show 138 < 154 by decide) hS.1.1) (Nat.le_of_ble_eq_true rfl) (Nat.le_of_ble_eq_true rfl) rfl ?_
    refine y_stn (L1 := [(2, ((138 : Nat) : Int)), (0, x6.1), (9, 0)]) (Nat.le_of_ble_eq_true rfl) rfl ?_
    refine wp_aload_n (v := ((138 : Nat) : Int)) rfl (Int.natCast_nonneg _) ?_
    obtain ⟨x10, e11, h⟩ := d_bind h
    obtain ⟨r12, s13⟩ := t_X13_goesOn s9 e11
    refine y_callVv (as := []) (S1 := []) (Nat.le_of_ble_eq_true rfl) (by omega) r12 rfl (show ash 138 = (13, 38) from rfl) (Nat.lt_of_lt_of_le (show 138 < 154 by decide) hS.1.1) (Nat.le_of_ble_eq_true rfl) (Nat.le_of_ble_eq_true rfl) rfl ?_
    refine wp_aload_n (v := ((138 : Nat) : Int)) rfl (Int.natCast_nonneg _) ?_
    refine y_ldc_wS (v := 2000046) rfl ?_
    obtain ⟨x14, e15, h⟩ := d_bind h
    refine y_callV (as := [(2, 2000046)]) (S1 := []) (Nat.le_of_ble_eq_true rfl) (by omega) (t_X13_isWord s13 e15) (Nat.le_of_ble_eq_true rfl) rfl (show ash 138 = (13, 38) from rfl) (Nat.lt_of_lt_of_le (show 138 < 154 by decide) hS.1.1) (Nat.le_of_ble_eq_true rfl) (Nat.le_of_ble_eq_true rfl) rfl ?_
    refine y_stn (L1 := [(2, ((138 : Nat) : Int)), (0, x6.1), (0, x14)]) (Nat.le_of_ble_eq_true rfl) rfl ?_
    refine wp_iload_n (v := x14) rfl ?_
    refine y_nez (fun c16 => ?_) (fun c16 => ?_)
    · rw [if_neg c16] at h
      exact tb_X13_readTalk_48 hd s13 h
    · rw [if_pos c16] at h
      refine wp_aload_n (v := ((138 : Nat) : Int)) rfl (Int.natCast_nonneg _) ?_
      refine y_ldc_wS (v := 2000047) rfl ?_
      obtain ⟨x44, e45, h⟩ := d_bind h
      refine y_callV (as := [(2, 2000047)]) (S1 := []) (Nat.le_of_ble_eq_true rfl) (by omega) (t_X13_isWord s13 e45) (Nat.le_of_ble_eq_true rfl) rfl (show ash 138 = (13, 38) from rfl) (Nat.lt_of_lt_of_le (show 138 < 154 by decide) hS.1.1) (Nat.le_of_ble_eq_true rfl) (Nat.le_of_ble_eq_true rfl) rfl ?_
      refine y_nez (fun c46 => ?_) (fun c46 => ?_)
      · rw [if_neg c46] at h
        exact tb_X13_readTalk_48 hd s13 h
      · rw [if_pos c46] at h
        refine wp_aload_n (v := ((138 : Nat) : Int)) rfl (Int.natCast_nonneg _) ?_
        refine wp_iconst ⟨by decide, by decide⟩ ?_
        obtain ⟨x47, e48, h⟩ := d_bind h
        obtain ⟨r49, s50⟩ := t_X13_flaw s13 e48
        refine y_callVv (as := [(0, 1)]) (S1 := []) (Nat.le_of_ble_eq_true rfl) (by omega) r49 rfl (show ash 138 = (13, 38) from rfl) (Nat.lt_of_lt_of_le (show 138 < 154 by decide) hS.1.1) (Nat.le_of_ble_eq_true rfl) (Nat.le_of_ble_eq_true rfl) rfl ?_
        exact tb_X13_readTalk_48 hd s50 h
  exact ⟨fun d hd => Ms.of3 (key d hd), Ms.sh (key 10 (Nat.le_refl _))⟩

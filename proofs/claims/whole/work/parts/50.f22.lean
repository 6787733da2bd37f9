/-! ===== methods as functions ===== -/
theorem aB_X13_lineBegins : ∀ pc, aB 218 pc = fnd bk_X13_lineBegins pc := fun _ => rfl
def f_X13_lineBegins (T : Nat) (v1 : Int) (v2 : Int) (M : aM) : Option (Int × aM) :=
 if v1 = v2 then
 (f_X13_flaw T 5 M).bind fun x16 =>
 if okW T (x16.2 138 4) then
 if (x16.2 (x16.2 138 4).toNat 0) = (-1) then
 (f_X13_flaw T 6 x16.2).bind fun x26 =>
 (f_X13_goesOn T x26.2).bind fun x30 =>
 some (0, x30.2) else
 (f_X13_goesOn T x16.2).bind fun x22 =>
 some (0, x22.2) else none else
 if okW T (M 138 4) then
 if (M (M 138 4).toNat 0) = (-1) then
 (f_X13_flaw T 6 M).bind fun x8 =>
 (f_X13_goesOn T x8.2).bind fun x12 =>
 some (0, x12.2) else
 (f_X13_goesOn T M).bind fun x4 =>
 some (0, x4.2) else none
theorem t_X13_lineBegins {T : T3} {v1 : Int} {v2 : Int} {M : aM} {y : (Int × aM)}  (hS : Sh T.1 M) (h : f_X13_lineBegins T.1 v1 v2 M = some y) : Mr 2 218 [(2, ((138 : Nat) : Int)), (0, v1), (0, v2)] M (none) y.2 T ∧ Sh T.1 y.2 := by
  have key : ∀ d, 2 ≤ d → Wp d 218 0 [] [(2, ((138 : Nat) : Int)), (0, v1), (0, v2)] [] (M, T) (fun r2 σ2 => r2 = none ∧ σ2 = (y.2, T) ∧ Sh T.1 y.2) := by
    intro d hd
    rw [f_X13_lineBegins] at h
    refine y_blk (t := 0) rfl (show fnd bk_X13_lineBegins 0 = some _ from rfl) aB_X13_lineBegins ?_
    refine wp_iload_n (v := v1) rfl ?_
    refine wp_iload_n (v := v2) rfl ?_
    refine y_ne (fun c1 => ?_) (fun c1 => ?_)
    · rw [if_neg c1] at h
      refine y_blk (t := 10) rfl (show fnd bk_X13_lineBegins 10 = some _ from rfl) aB_X13_lineBegins ?_
      refine wp_aload_n (v := ((138 : Nat) : Int)) rfl (Int.natCast_nonneg _) ?_
      obtain ⟨c2, h⟩ := d_ite h
      refine y_get (show ash 138 = (13, 38) from rfl) (Nat.lt_of_lt_of_le (show 138 < 154 by decide) hS.1.1) (v := (((M 138 4).toNat : Nat) : Int)) c2.eq rfl ?_
      refine y_get (aW0 hS.1.2 c2.is) (ltW c2.is 0 (by decide)) (v := M (M 138 4).toNat 0) rfl rfl ?_
      refine wp_iconst ⟨by decide, by decide⟩ ?_
      refine y_ne (fun c3 => ?_) (fun c3 => ?_)
      · rw [if_neg c3] at h
        refine y_blk (t := 27) rfl (show fnd bk_X13_lineBegins 27 = some _ from rfl) aB_X13_lineBegins ?_
        refine wp_aload_n (v := ((138 : Nat) : Int)) rfl (Int.natCast_nonneg _) ?_
        obtain ⟨x4, e5, h⟩ := d_bind h
        obtain ⟨r6, s7⟩ := t_X13_goesOn hS e5
        refine y_callVv (as := []) (S1 := []) (Nat.le_of_ble_eq_true rfl) (by omega) r6 rfl (show ash 138 = (13, 38) from rfl) (Nat.lt_of_lt_of_le (show 138 < 154 by decide) hS.1.1) (Nat.le_of_ble_eq_true rfl) (Nat.le_of_ble_eq_true rfl) rfl ?_
        cases h
        exact wp_return ⟨rfl, rfl, s7⟩
      · rw [if_pos c3] at h
        refine wp_aload_n (v := ((138 : Nat) : Int)) rfl (Int.natCast_nonneg _) ?_
        refine wp_bipush (by decide) ?_
        obtain ⟨x8, e9, h⟩ := d_bind h
        obtain ⟨r10, s11⟩ := t_X13_flaw hS e9
        refine y_callVv (as := [(0, 6)]) (S1 := []) (Nat.le_of_ble_eq_true rfl) (by omega) r10 rfl (show ash 138 = (13, 38) from rfl) (Nat.lt_of_lt_of_le (show 138 < 154 by decide) hS.1.1) (Nat.le_of_ble_eq_true rfl) (Nat.le_of_ble_eq_true rfl) rfl ?_
        refine y_blk (t := 27) rfl (show fnd bk_X13_lineBegins 27 = some _ from rfl) aB_X13_lineBegins ?_
        refine wp_aload_n (v := ((138 : Nat) : Int)) rfl (Int.natCast_nonneg _) ?_
        obtain ⟨x12, e13, h⟩ := d_bind h
        obtain ⟨r14, s15⟩ := t_X13_goesOn s11 e13
        refine y_callVv (as := []) (S1 := []) (Nat.le_of_ble_eq_true rfl) (by omega) r14 rfl (show ash 138 = (13, 38) from rfl) (Nat.lt_of_lt_of_le (show 138 < 154 by decide) hS.1.1) (Nat.le_of_ble_eq_true rfl) (Nat.le_of_ble_eq_true rfl) rfl ?_
        cases h
        exact wp_return ⟨rfl, rfl, s15⟩
    · rw [if_pos c1] at h
      refine wp_aload_n (v := ((138 : Nat) : Int)) rfl (Int.natCast_nonneg _) ?_
      refine wp_iconst ⟨by decide, by decide⟩ ?_
      obtain ⟨x16, e17, h⟩ := d_bind h
      obtain ⟨r18, s19⟩ := t_X13_flaw hS e17
      refine y_callVv (as := [(0, 5)]) (S1 := []) (Nat.le_of_ble_eq_true rfl) (by omega) r18 rfl (show ash 138 = (13, 38) from rfl) (Nat.lt_of_lt_of_le (show 138 < 154 by decide) hS.1.1) (Nat.le_of_ble_eq_true rfl) (Nat.le_of_ble_eq_true rfl) rfl ?_
      refine y_blk (t := 10) rfl (show fnd bk_X13_lineBegins 10 = some _ from rfl) aB_X13_lineBegins ?_
      refine wp_aload_n (v := ((138 : Nat) : Int)) rfl (Int.natCast_nonneg _) ?_
      obtain ⟨c20, h⟩ := d_ite h
      refine y_get (show ash 138 = (13, 38) from rfl) (Nat.lt_of_lt_of_le (show 138 < 154 by decide) hS.1.1) (v := (((x16.2 138 4).toNat : Nat) : Int)) c20.eq rfl ?_
      refine y_get (aW0 hS.1.2 c20.is) (ltW c20.is 0 (by decide)) (v := x16.2 (x16.2 138 4).toNat 0) rfl rfl ?_
      refine wp_iconst ⟨by decide, by decide⟩ ?_
      refine y_ne (fun c21 => ?_) (fun c21 => ?_)
      · rw [if_neg c21] at h
        refine y_blk (t := 27) rfl (show fnd bk_X13_lineBegins 27 = some _ from rfl) aB_X13_lineBegins ?_
        refine wp_aload_n (v := ((138 : Nat) : Int)) rfl (Int.natCast_nonneg _) ?_
        obtain ⟨x22, e23, h⟩ := d_bind h
        obtain ⟨r24, s25⟩ := t_X13_goesOn s19 e23
        refine y_callVv (as := []) (S1 := []) (Nat.le_of_ble_eq_true rfl) (by omega) r24 rfl (show ash 138 = (13, 38) from rfl) (Nat.lt_of_lt_of_le (show 138 < 154 by decide) hS.1.1) (Nat.le_of_ble_eq_true rfl) (Nat.le_of_ble_eq_true rfl) rfl ?_
        cases h
        exact wp_return ⟨rfl, rfl, s25⟩
      · rw [if_pos c21] at h
        refine wp_aload_n (v := ((138 : Nat) : Int)) rfl (Int.natCast_nonneg _) ?_
        refine wp_bipush (by decide) ?_
        obtain ⟨x26, e27, h⟩ := d_bind h
        obtain ⟨r28, s29⟩ := t_X13_flaw s19 e27
        refine y_callVv (as := [(0, 6)]) (S1 := []) (Nat.le_of_ble_eq_true rfl) (by omega) r28 rfl (show ash 138 = (13, 38) from rfl) (Nat.lt_of_lt_of_le (show 138 < 154 by decide) hS.1.1) (Nat.le_of_ble_eq_true rfl) (Nat.le_of_ble_eq_true rfl) rfl ?_
        refine y_blk (t := 27) rfl (show fnd bk_X13_lineBegins 27 = some _ from rfl) aB_X13_lineBegins ?_
        refine wp_aload_n (v := ((138 : Nat) : Int)) rfl (Int.natCast_nonneg _) ?_
        obtain ⟨x30, e31, h⟩ := d_bind h
        obtain ⟨r32, s33⟩ := t_X13_goesOn s29 e31
        refine y_callVv (as := []) (S1 := []) (Nat.le_of_ble_eq_true rfl) (by omega) r32 rfl (show ash 138 = (13, 38) from rfl) (Nat.lt_of_lt_of_le (show 138 < 154 by decide) hS.1.1) (Nat.le_of_ble_eq_true rfl) (Nat.le_of_ble_eq_true rfl) rfl ?_
        cases h
        exact wp_return ⟨rfl, rfl, s33⟩
  exact ⟨fun d hd => Ms.of3 (key d hd), Ms.sh (key 2 (Nat.le_refl _))⟩
theorem aB_X13_readFresh : ∀ pc, aB 219 pc = fnd bk_X13_readFresh pc := fun _ => rfl
def b_X13_readFresh_32 (T : Nat)  (M : aM) : Option (Int × aM) :=
 (f_X13_goesOn T M).bind fun x8 =>
 some ((M 138 14), x8.2)
theorem tb_X13_readFresh_32 {d : Nat} (hd : 7 ≤ d) {T : T3}  {u1 u2 : aV} {M : aM} {y : (Int × aM)}  (hS : Sh T.1 M) (h : b_X13_readFresh_32 T.1  M = some y) : Wp d 219 32 [] [(2, ((138 : Nat) : Int)), u1, u2] [] (M, T) (fun r2 σ2 => r2 = some (1, y.1) ∧ σ2 = (y.2, T) ∧ Sh T.1 y.2) := by
  rw [b_X13_readFresh_32] at h
  refine y_blk (t := 32) rfl (show fnd bk_X13_readFresh 32 = some _ from rfl) aB_X13_readFresh ?_
  refine wp_aload_n (v := ((138 : Nat) : Int)) rfl (Int.natCast_nonneg _) ?_
  refine y_get (show ash 138 = (13, 38) from rfl) (Nat.lt_of_lt_of_le (show 138 < 154 by decide) hS.1.1) (v := M 138 14) rfl rfl ?_
  refine y_lstn (L1 := [(2, ((138 : Nat) : Int)), (1, (M 138 14)), (9, 0)]) (Nat.le_of_ble_eq_true rfl) rfl ?_
  refine wp_aload_n (v := ((138 : Nat) : Int)) rfl (Int.natCast_nonneg _) ?_
  obtain ⟨x8, e9, h⟩ := d_bind h
  obtain ⟨r10, s11⟩ := t_X13_goesOn hS e9
  refine y_callVv (as := []) (S1 := []) (Nat.le_of_ble_eq_true rfl) (by omega) r10 rfl (show ash 138 = (13, 38) from rfl) (Nat.lt_of_lt_of_le (show 138 < 154 by decide) hS.1.1) (Nat.le_of_ble_eq_true rfl) (Nat.le_of_ble_eq_true rfl) rfl ?_
  refine wp_lload_n (v := (M 138 14)) rfl ?_
  cases h
  exact wp_lreturn ⟨rfl, rfl, s11⟩
def b_X13_readFresh_12 (T : Nat)  (M : aM) : Option (Int × aM) :=
 if okW T (M 138 4) then
 (f_X12_find T (M 138 4).toNat (M 138 14) M).bind fun x5 =>
 if x5 = (-1) then
 b_X13_readFresh_32 T M else
 (f_X13_flaw T 3 M).bind fun x12 =>
 b_X13_readFresh_32 T x12.2 else none
theorem tb_X13_readFresh_12 {d : Nat} (hd : 7 ≤ d) {T : T3}  {u1 u2 : aV} {M : aM} {y : (Int × aM)}  (hS : Sh T.1 M) (h : b_X13_readFresh_12 T.1  M = some y) : Wp d 219 12 [] [(2, ((138 : Nat) : Int)), u1, u2] [] (M, T) (fun r2 σ2 => r2 = some (1, y.1) ∧ σ2 = (y.2, T) ∧ Sh T.1 y.2) := by
  rw [b_X13_readFresh_12] at h
  refine y_blk (t := 12) rfl (show fnd bk_X13_readFresh 12 = some _ from rfl) aB_X13_readFresh ?_
  refine wp_aload_n (v := ((138 : Nat) : Int)) rfl (Int.natCast_nonneg _) ?_
  obtain ⟨c4, h⟩ := d_ite h
  refine y_get (show ash 138 = (13, 38) from rfl) (Nat.lt_of_lt_of_le (show 138 < 154 by decide) hS.1.1) (v := (((M 138 4).toNat : Nat) : Int)) c4.eq rfl ?_
  refine wp_aload_n (v := ((138 : Nat) : Int)) rfl (Int.natCast_nonneg _) ?_
  refine y_get (show ash 138 = (13, 38) from rfl) (Nat.lt_of_lt_of_le (show 138 < 154 by decide) hS.1.1) (v := M 138 14) rfl rfl ?_
  obtain ⟨x5, e6, h⟩ := d_bind h
  refine y_callV (as := [(1, (M 138 14))]) (S1 := []) (Nat.le_of_ble_eq_true rfl) (by omega) (t_X12_find c4.is hS e6) (Nat.le_of_ble_eq_true rfl) rfl (aW0 hS.1.2 c4.is) (ltW c4.is 0 (by decide)) (Nat.le_of_ble_eq_true rfl) (Nat.le_of_ble_eq_true rfl) rfl ?_
  refine wp_iconst ⟨by decide, by decide⟩ ?_
  refine wp_icmp_eq (fun c7 => ?_) (fun c7 => ?_)
  · rw [if_pos c7] at h
    exact tb_X13_readFresh_32 hd hS h
  · rw [if_neg c7] at h
    refine wp_aload_n (v := ((138 : Nat) : Int)) rfl (Int.natCast_nonneg _) ?_
    refine wp_iconst ⟨by decide, by decide⟩ ?_
    obtain ⟨x12, e13, h⟩ := d_bind h
    obtain ⟨r14, s15⟩ := t_X13_flaw hS e13
    refine y_callVv (as := [(0, 3)]) (S1 := []) (Nat.le_of_ble_eq_true rfl) (by omega) r14 rfl (show ash 138 = (13, 38) from rfl) (Nat.lt_of_lt_of_le (show 138 < 154 by decide) hS.1.1) (Nat.le_of_ble_eq_true rfl) (Nat.le_of_ble_eq_true rfl) rfl ?_
    exact tb_X13_readFresh_32 hd s15 h
def f_X13_readFresh (T : Nat)  (M : aM) : Option (Int × aM) :=
 (f_X13_isName T M).bind fun x1 =>
 if x1 = 0 then
 (f_X13_flaw T 1 M).bind fun x16 =>
 b_X13_readFresh_12 T x16.2 else
 b_X13_readFresh_12 T M
theorem t_X13_readFresh {T : T3}  {M : aM} {y : (Int × aM)}  (hS : Sh T.1 M) (h : f_X13_readFresh T.1  M = some y) : Mr 7 219 [(2, ((138 : Nat) : Int))] M (some (1, y.1)) y.2 T ∧ Sh T.1 y.2 := by
  have key : ∀ d, 7 ≤ d → Wp d 219 0 [] [(2, ((138 : Nat) : Int)), (9, 0), (9, 0)] [] (M, T) (fun r2 σ2 => r2 = some (1, y.1) ∧ σ2 = (y.2, T) ∧ Sh T.1 y.2) := by
    intro d hd
    rw [f_X13_readFresh] at h
    refine y_blk (t := 0) rfl (show fnd bk_X13_readFresh 0 = some _ from rfl) aB_X13_readFresh ?_
    refine wp_aload_n (v := ((138 : Nat) : Int)) rfl (Int.natCast_nonneg _) ?_
    obtain ⟨x1, e2, h⟩ := d_bind h
    refine y_callV (as := []) (S1 := []) (Nat.le_of_ble_eq_true rfl) (by omega) (t_X13_isName hS e2) (Nat.le_of_ble_eq_true rfl) rfl (show ash 138 = (13, 38) from rfl) (Nat.lt_of_lt_of_le (show 138 < 154 by decide) hS.1.1) (Nat.le_of_ble_eq_true rfl) (Nat.le_of_ble_eq_true rfl) rfl ?_
    refine y_nez (fun c3 => ?_) (fun c3 => ?_)
    · rw [if_neg c3] at h
      exact tb_X13_readFresh_12 hd hS h
    · rw [if_pos c3] at h
      refine wp_aload_n (v := ((138 : Nat) : Int)) rfl (Int.natCast_nonneg _) ?_
      refine wp_iconst ⟨by decide, by decide⟩ ?_
      obtain ⟨x16, e17, h⟩ := d_bind h
      obtain ⟨r18, s19⟩ := t_X13_flaw hS e17
      refine y_callVv (as := [(0, 1)]) (S1 := []) (Nat.le_of_ble_eq_true rfl) (by omega) r18 rfl (show ash 138 = (13, 38) from rfl) (Nat.lt_of_lt_of_le (show 138 < 154 by decide) hS.1.1) (Nat.le_of_ble_eq_true rfl) (Nat.le_of_ble_eq_true rfl) rfl ?_
      exact tb_X13_readFresh_12 hd s19 h
  exact ⟨fun d hd => Ms.of3 (key d hd), Ms.sh (key 7 (Nat.le_refl _))⟩
theorem aB_X13_names : ∀ pc, aB 220 pc = fnd bk_X13_names pc := fun _ => rfl
def f_X13_names (T : Nat) (v1 : Int) (v3 : Int) (v4 : Int) (M : aM) : Option (Int × aM) :=
 if okW T (M 138 4) then
 if 0 ≤ (M (M 138 4).toNat 13) ∧ (M (M 138 4).toNat 13) < 15 then
 (some (aup M ((M 138 4).toNat + 12) ((M (M 138 4).toNat 13)).toNat v1)).bind fun m3 =>
 if okW T (m3 138 4) then
 if 0 ≤ (m3 (m3 138 4).toNat 13) ∧ (m3 (m3 138 4).toNat 13) < 15 then
 (some (aup m3 ((m3 138 4).toNat + 13) ((m3 (m3 138 4).toNat 13)).toNat v3)).bind fun m7 =>
 if okW T (m7 138 4) then
 if 0 ≤ (m7 (m7 138 4).toNat 13) ∧ (m7 (m7 138 4).toNat 13) < 15 then
 (some (aup m7 ((m7 138 4).toNat + 14) ((m7 (m7 138 4).toNat 13)).toNat v4)).bind fun m11 =>
 if okW T (m11 138 4) then
 if aIn ((m11 (m11 138 4).toNat 13) + 1) then
 (some (aup m11 (m11 138 4).toNat 13 ((m11 (m11 138 4).toNat 13) + 1))).bind fun m15 =>
 some (0, m15) else none else none else none else none else none else none else none else none
theorem t_X13_names {T : T3} {v1 : Int} {v3 : Int} {v4 : Int} {M : aM} {y : (Int × aM)}  (hS : Sh T.1 M) (h : f_X13_names T.1 v1 v3 v4 M = some y) : Mr 0 220 [(2, ((138 : Nat) : Int)), (1, v1), (0, v3), (0, v4)] M (none) y.2 T ∧ Sh T.1 y.2 := by
  have key : ∀ d, 0 ≤ d → Wp d 220 0 [] [(2, ((138 : Nat) : Int)), (1, v1), (9, 0), (0, v3), (0, v4)] [] (M, T) (fun r2 σ2 => r2 = none ∧ σ2 = (y.2, T) ∧ Sh T.1 y.2) := by
    intro d hd
    rw [f_X13_names] at h
    refine y_blk (t := 0) rfl (show fnd bk_X13_names 0 = some _ from rfl) aB_X13_names ?_
    refine wp_aload_n (v := ((138 : Nat) : Int)) rfl (Int.natCast_nonneg _) ?_
    obtain ⟨c1, h⟩ := d_ite h
    refine y_get (show ash 138 = (13, 38) from rfl) (Nat.lt_of_lt_of_le (show 138 < 154 by decide) hS.1.1) (v := (((M 138 4).toNat : Nat) : Int)) c1.eq rfl ?_
    refine y_get (aW0 hS.1.2 c1.is) (ltW c1.is 0 (by decide)) (v := ((((M 138 4).toNat + 12) : Nat) : Int)) (rW25 hS c1.is) rfl ?_
    refine wp_aload_n (v := ((138 : Nat) : Int)) rfl (Int.natCast_nonneg _) ?_
    refine y_get (show ash 138 = (13, 38) from rfl) (Nat.lt_of_lt_of_le (show 138 < 154 by decide) hS.1.1) (v := (((M 138 4).toNat : Nat) : Int)) c1.eq rfl ?_
    refine y_get (aW0 hS.1.2 c1.is) (ltW c1.is 0 (by decide)) (v := M (M 138 4).toNat 13) rfl rfl ?_
    refine wp_lload_n (v := v1) rfl ?_
    obtain ⟨c2, h⟩ := d_ite h
    refine y_last (aW12 hS.1.2 c1.is) (ltW c1.is 12 (by decide)) c2 ?_
    obtain ⟨m3, em3, h⟩ := d_bind h
    have em3 := Option.some.inj em3
    have s4 : Sh T.1 m3 := em3 ▸ hS.up (Or.inl ⟨by rw [(aW12 hS.1.2 c1.is)]; exact Nat.le_of_ble_eq_true rfl, by rw [(aW12 hS.1.2 c1.is)]; exact Nat.le_of_ble_eq_true rfl⟩) (by have := (ltW c1.is 12 (by decide)); have := hS.1.2; omega)
    rw [em3]
    refine wp_aload_n (v := ((138 : Nat) : Int)) rfl (Int.natCast_nonneg _) ?_
    obtain ⟨c5, h⟩ := d_ite h
    refine y_get (show ash 138 = (13, 38) from rfl) (Nat.lt_of_lt_of_le (show 138 < 154 by decide) hS.1.1) (v := (((m3 138 4).toNat : Nat) : Int)) c5.eq rfl ?_
    refine y_get (aW0 hS.1.2 c5.is) (ltW c5.is 0 (by decide)) (v := ((((m3 138 4).toNat + 13) : Nat) : Int)) (rW26 s4 c5.is) rfl ?_
    refine wp_aload_n (v := ((138 : Nat) : Int)) rfl (Int.natCast_nonneg _) ?_
    refine y_get (show ash 138 = (13, 38) from rfl) (Nat.lt_of_lt_of_le (show 138 < 154 by decide) hS.1.1) (v := (((m3 138 4).toNat : Nat) : Int)) c5.eq rfl ?_
    refine y_get (aW0 hS.1.2 c5.is) (ltW c5.is 0 (by decide)) (v := m3 (m3 138 4).toNat 13) rfl rfl ?_
    refine wp_iload_n (v := v3) rfl ?_
    obtain ⟨c6, h⟩ := d_ite h
    refine y_iast (aW13 hS.1.2 c5.is) (ltW c5.is 13 (by decide)) c6 ?_
    obtain ⟨m7, em7, h⟩ := d_bind h
    have em7 := Option.some.inj em7
    have s8 : Sh T.1 m7 := em7 ▸ s4.up (Or.inl ⟨by rw [(aW13 hS.1.2 c5.is)]; exact Nat.le_of_ble_eq_true rfl, by rw [(aW13 hS.1.2 c5.is)]; exact Nat.le_of_ble_eq_true rfl⟩) (by have := (ltW c5.is 13 (by decide)); have := hS.1.2; omega)
    rw [em7]
    refine wp_aload_n (v := ((138 : Nat) : Int)) rfl (Int.natCast_nonneg _) ?_
    obtain ⟨c9, h⟩ := d_ite h
    refine y_get (show ash 138 = (13, 38) from rfl) (Nat.lt_of_lt_of_le (show 138 < 154 by decide) hS.1.1) (v := (((m7 138 4).toNat : Nat) : Int)) c9.eq rfl ?_
    refine y_get (aW0 hS.1.2 c9.is) (ltW c9.is 0 (by decide)) (v := ((((m7 138 4).toNat + 14) : Nat) : Int)) (rW27 s8 c9.is) rfl ?_
    refine wp_aload_n (v := ((138 : Nat) : Int)) rfl (Int.natCast_nonneg _) ?_
    refine y_get (show ash 138 = (13, 38) from rfl) (Nat.lt_of_lt_of_le (show 138 < 154 by decide) hS.1.1) (v := (((m7 138 4).toNat : Nat) : Int)) c9.eq rfl ?_
    refine y_get (aW0 hS.1.2 c9.is) (ltW c9.is 0 (by decide)) (v := m7 (m7 138 4).toNat 13) rfl rfl ?_
    refine wp_iload (v := v4) rfl ?_
    obtain ⟨c10, h⟩ := d_ite h
    refine y_iast (aW14 hS.1.2 c9.is) (ltW c9.is 14 (by decide)) c10 ?_
    obtain ⟨m11, em11, h⟩ := d_bind h
    have em11 := Option.some.inj em11
    have s12 : Sh T.1 m11 := em11 ▸ s8.up (Or.inl ⟨by rw [(aW14 hS.1.2 c9.is)]; exact Nat.le_of_ble_eq_true rfl, by rw [(aW14 hS.1.2 c9.is)]; exact Nat.le_of_ble_eq_true rfl⟩) (by have := (ltW c9.is 14 (by decide)); have := hS.1.2; omega)
    rw [em11]
    refine wp_aload_n (v := ((138 : Nat) : Int)) rfl (Int.natCast_nonneg _) ?_
    obtain ⟨c13, h⟩ := d_ite h
    refine y_get (show ash 138 = (13, 38) from rfl) (Nat.lt_of_lt_of_le (show 138 < 154 by decide) hS.1.1) (v := (((m11 138 4).toNat : Nat) : Int)) c13.eq rfl ?_
    refine wp_dup (Or.inr rfl) ?_
    refine y_get (aW0 hS.1.2 c13.is) (ltW c13.is 0 (by decide)) (v := m11 (m11 138 4).toNat 13) rfl rfl ?_
    refine wp_iconst ⟨by decide, by decide⟩ ?_
    obtain ⟨c14, h⟩ := d_ite h
    refine wp_iadd c14 ?_
    refine y_put (aW0 hS.1.2 c13.is) (ltW c13.is 0 (by decide)) rfl ?_
    obtain ⟨m15, em15, h⟩ := d_bind h
    have em15 := Option.some.inj em15
    have s16 : Sh T.1 m15 := em15 ▸ s12.up (Or.inr ⟨by rw [(aW0 hS.1.2 c13.is)]; decide, by rw [(aW0 hS.1.2 c13.is)]; decide⟩) (by have := (ltW c13.is 0 (by decide)); have := hS.1.2; omega)
    rw [em15]
    cases h
    exact wp_return ⟨rfl, rfl, s16⟩
  exact ⟨fun d hd => Ms.of3 (key d hd), Ms.sh (key 0 (Nat.le_refl _))⟩
theorem aB_X13_caveAtHand : ∀ pc, aB 221 pc = fnd bk_X13_caveAtHand pc := fun _ => rfl
def b_X13_caveAtHand_46 (T : Nat) (v1 : Int) (M : aM) : Option (Int × aM) :=
 if (M 138 9) = 5 then
 some (0, M) else
 if okW T (M 138 4) then
 if 0 ≤ v1 ∧ v1 < 15 then
 some ((M ((M 138 4).toNat + 14) (v1).toNat), M) else none else none
theorem tb_X13_caveAtHand_46 {d : Nat} (hd : 7 ≤ d) {T : T3} {v1 : Int} {M : aM} {y : (Int × aM)}  (hS : Sh T.1 M) (h : b_X13_caveAtHand_46 T.1 v1 M = some y) : Wp d 221 46 [] [(2, ((138 : Nat) : Int)), (0, v1)] [] (M, T) (fun r2 σ2 => r2 = some (0, y.1) ∧ σ2 = (y.2, T) ∧ Sh T.1 y.2) := by
  rw [b_X13_caveAtHand_46] at h
  refine y_blk (t := 46) rfl (show fnd bk_X13_caveAtHand 46 = some _ from rfl) aB_X13_caveAtHand ?_
  refine wp_aload_n (v := ((138 : Nat) : Int)) rfl (Int.natCast_nonneg _) ?_
  refine y_get (show ash 138 = (13, 38) from rfl) (Nat.lt_of_lt_of_le (show 138 < 154 by decide) hS.1.1) (v := M 138 9) rfl rfl ?_
  refine wp_iconst ⟨by decide, by decide⟩ ?_
  refine y_ne (fun c12 => ?_) (fun c12 => ?_)
  · rw [if_neg c12] at h
    refine y_blk (t := 58) rfl (show fnd bk_X13_caveAtHand 58 = some _ from rfl) aB_X13_caveAtHand ?_
    refine wp_aload_n (v := ((138 : Nat) : Int)) rfl (Int.natCast_nonneg _) ?_
    obtain ⟨c13, h⟩ := d_ite h
    refine y_get (show ash 138 = (13, 38) from rfl) (Nat.lt_of_lt_of_le (show 138 < 154 by decide) hS.1.1) (v := (((M 138 4).toNat : Nat) : Int)) c13.eq rfl ?_
    refine y_get (aW0 hS.1.2 c13.is) (ltW c13.is 0 (by decide)) (v := ((((M 138 4).toNat + 14) : Nat) : Int)) (rW27 hS c13.is) rfl ?_
    refine wp_iload_n (v := v1) rfl ?_
    obtain ⟨c14, h⟩ := d_ite h
    refine y_iald (aW14 hS.1.2 c13.is) (Or.inl (ltW c13.is 14 (by decide))) (Nat.ne_of_lt (Nat.lt_of_lt_of_le (ltW c13.is 14 (by decide)) hS.1.2)) c14 (v := M ((M 138 4).toNat + 14) (v1).toNat) rfl ?_
    refine y_blk (t := 67) rfl (show fnd bk_X13_caveAtHand 67 = some _ from rfl) aB_X13_caveAtHand ?_
    cases h
    exact y_ret0 (Or.inl rfl) ⟨rfl, rfl, hS⟩
  · rw [if_pos c12] at h
    refine wp_iconst ⟨by decide, by decide⟩ ?_
    refine wp_goto ?_
    refine y_blk (t := 67) rfl (show fnd bk_X13_caveAtHand 67 = some _ from rfl) aB_X13_caveAtHand ?_
    cases h
    exact y_ret0 (Or.inl rfl) ⟨rfl, rfl, hS⟩
def b_X13_caveAtHand_41 (T : Nat) (v1 : Int) (M : aM) : Option (Int × aM) :=
 (f_X13_flaw T 2 M).bind fun x8 =>
 b_X13_caveAtHand_46 T v1 x8.2
theorem tb_X13_caveAtHand_41 {d : Nat} (hd : 7 ≤ d) {T : T3} {v1 : Int} {M : aM} {y : (Int × aM)}  (hS : Sh T.1 M) (h : b_X13_caveAtHand_41 T.1 v1 M = some y) : Wp d 221 41 [] [(2, ((138 : Nat) : Int)), (0, v1)] [] (M, T) (fun r2 σ2 => r2 = some (0, y.1) ∧ σ2 = (y.2, T) ∧ Sh T.1 y.2) := by
  rw [b_X13_caveAtHand_41] at h
  refine y_blk (t := 41) rfl (show fnd bk_X13_caveAtHand 41 = some _ from rfl) aB_X13_caveAtHand ?_
  refine wp_aload_n (v := ((138 : Nat) : Int)) rfl (Int.natCast_nonneg _) ?_
  refine wp_iconst ⟨by decide, by decide⟩ ?_
  obtain ⟨x8, e9, h⟩ := d_bind h
  obtain ⟨r10, s11⟩ := t_X13_flaw hS e9
  refine y_callVv (as := [(0, 2)]) (S1 := []) (Nat.le_of_ble_eq_true rfl) (by omega) r10 rfl (show ash 138 = (13, 38) from rfl) (Nat.lt_of_lt_of_le (show 138 < 154 by decide) hS.1.1) (Nat.le_of_ble_eq_true rfl) (Nat.le_of_ble_eq_true rfl) rfl ?_
  exact tb_X13_caveAtHand_46 hd s11 h
def b_X13_caveAtHand_12 (T : Nat)  (M : aM) : Option (Int × aM) :=
 if okW T (M 138 4) then
 (f_X12_find T (M 138 4).toNat (M 138 14) M).bind fun x5 =>
 if x5 = (-1) then
 b_X13_caveAtHand_41 T x5 M else
 if 0 ≤ x5 ∧ x5 < 15 then
 if (M ((M 138 4).toNat + 13) (x5).toNat) = 0 then
 b_X13_caveAtHand_46 T x5 M else
 b_X13_caveAtHand_41 T x5 M else none else none
theorem tb_X13_caveAtHand_12 {d : Nat} (hd : 7 ≤ d) {T : T3}  {u1 : aV} {M : aM} {y : (Int × aM)}  (hS : Sh T.1 M) (h : b_X13_caveAtHand_12 T.1  M = some y) : Wp d 221 12 [] [(2, ((138 : Nat) : Int)), u1] [] (M, T) (fun r2 σ2 => r2 = some (0, y.1) ∧ σ2 = (y.2, T) ∧ Sh T.1 y.2) := by
  rw [b_X13_caveAtHand_12] at h
  refine y_blk (t := 12) rfl (show fnd bk_X13_caveAtHand 12 = some _ from rfl) aB_X13_caveAtHand ?_
  refine wp_aload_n (v := ((138 : Nat) : Int)) rfl (Int.natCast_nonneg _) ?_
  obtain ⟨c4, h⟩ := d_ite h
  refine y_get (show ash 138 = (13, 38) from rfl) (Nat.lt_of_lt_of_le (show 138 < 154 by decide) hS.1.1) (v := (((M 138 4).toNat : Nat) : Int)) c4.eq rfl ?_
  refine wp_aload_n (v := ((138 : Nat) : Int)) rfl (Int.natCast_nonneg _) ?_
  refine y_get (show ash 138 = (13, 38) from rfl) (Nat.lt_of_lt_of_le (show 138 < 154 by decide) hS.1.1) (v := M 138 14) rfl rfl ?_
  obtain ⟨x5, e6, h⟩ := d_bind h
  refine y_callV (as := [(1, (M 138 14))]) (S1 := []) (Nat.le_of_ble_eq_true rfl) (by omega) (t_X12_find c4.is hS e6) (Nat.le_of_ble_eq_true rfl) rfl (aW0 hS.1.2 c4.is) (ltW c4.is 0 (by decide)) (Nat.le_of_ble_eq_true rfl) (Nat.le_of_ble_eq_true rfl) rfl ?_
  refine y_stn (L1 := [(2, ((138 : Nat) : Int)), (0, x5)]) (Nat.le_of_ble_eq_true rfl) rfl ?_
  refine wp_iload_n (v := x5) rfl ?_
  refine wp_iconst ⟨by decide, by decide⟩ ?_
  refine wp_icmp_eq (fun c7 => ?_) (fun c7 => ?_)
  · rw [if_pos c7] at h
    exact tb_X13_caveAtHand_41 hd hS h
  · rw [if_neg c7] at h
    refine wp_aload_n (v := ((138 : Nat) : Int)) rfl (Int.natCast_nonneg _) ?_
    refine y_get (show ash 138 = (13, 38) from rfl) (Nat.lt_of_lt_of_le (show 138 < 154 by decide) hS.1.1) (v := (((M 138 4).toNat : Nat) : Int)) c4.eq rfl ?_
    refine y_get (aW0 hS.1.2 c4.is) (ltW c4.is 0 (by decide)) (v := ((((M 138 4).toNat + 13) : Nat) : Int)) (rW26 hS c4.is) rfl ?_
    refine wp_iload_n (v := x5) rfl ?_
    obtain ⟨c15, h⟩ := d_ite h
    refine y_iald (aW13 hS.1.2 c4.is) (Or.inl (ltW c4.is 13 (by decide))) (Nat.ne_of_lt (Nat.lt_of_lt_of_le (ltW c4.is 13 (by decide)) hS.1.2)) c15 (v := M ((M 138 4).toNat + 13) (x5).toNat) rfl ?_
    refine wp_if_eq (fun c16 => ?_) (fun c16 => ?_)
    · rw [if_pos c16] at h
      exact tb_X13_caveAtHand_46 hd hS h
    · rw [if_neg c16] at h
      exact tb_X13_caveAtHand_41 hd hS h
def f_X13_caveAtHand (T : Nat)  (M : aM) : Option (Int × aM) :=
 (f_X13_isName T M).bind fun x1 =>
 if x1 = 0 then
 (f_X13_flaw T 1 M).bind fun x17 =>
 b_X13_caveAtHand_12 T x17.2 else
 b_X13_caveAtHand_12 T M
theorem t_X13_caveAtHand {T : T3}  {M : aM} {y : (Int × aM)}  (hS : Sh T.1 M) (h : f_X13_caveAtHand T.1  M = some y) : Mr 7 221 [(2, ((138 : Nat) : Int))] M (some (0, y.1)) y.2 T ∧ Sh T.1 y.2 := by
  have key : ∀ d, 7 ≤ d → Wp d 221 0 [] [(2, ((138 : Nat) : Int)), (9, 0)] [] (M, T) (fun r2 σ2 => r2 = some (0, y.1) ∧ σ2 = (y.2, T) ∧ Sh T.1 y.2) := by
    intro d hd
    rw [f_X13_caveAtHand] at h
    refine y_blk (t := 0) rfl (show fnd bk_X13_caveAtHand 0 = some _ from rfl) aB_X13_caveAtHand ?_
    refine wp_aload_n (v := ((138 : Nat) : Int)) rfl (Int.natCast_nonneg _) ?_
    obtain ⟨x1, e2, h⟩ := d_bind h
    refine y_callV (as := []) (S1 := []) (Nat.le_of_ble_eq_true rfl) (by omega) (t_X13_isName hS e2) (Nat.le_of_ble_eq_true rfl) rfl (show ash 138 = (13, 38) from rfl) (Nat.lt_of_lt_of_le (show 138 < 154 by decide) hS.1.1) (Nat.le_of_ble_eq_true rfl) (Nat.le_of_ble_eq_true rfl) rfl ?_
    refine y_nez (fun c3 => ?_) (fun c3 => ?_)
    · rw [if_neg c3] at h
      exact tb_X13_caveAtHand_12 hd hS h
    · rw [if_pos c3] at h
      refine wp_aload_n (v := ((138 : Nat) : Int)) rfl (Int.natCast_nonneg _) ?_
      refine wp_iconst ⟨by decide, by decide⟩ ?_
      obtain ⟨x17, e18, h⟩ := d_bind h
      obtain ⟨r19, s20⟩ := t_X13_flaw hS e18
      refine y_callVv (as := [(0, 1)]) (S1 := []) (Nat.le_of_ble_eq_true rfl) (by omega) r19 rfl (show ash 138 = (13, 38) from rfl) (Nat.lt_of_lt_of_le (show 138 < 154 by decide) hS.1.1) (Nat.le_of_ble_eq_true rfl) (Nat.le_of_ble_eq_true rfl) rfl ?_
      exact tb_X13_caveAtHand_12 hd s20 h
  exact ⟨fun d hd => Ms.of3 (key d hd), Ms.sh (key 7 (Nat.le_refl _))⟩
theorem aB_X13_readCave : ∀ pc, aB 222 pc = fnd bk_X13_readCave pc := fun _ => rfl
def f_X13_readCave (T : Nat)  (M : aM) : Option (Int × aM) :=
 (f_X13_caveAtHand T M).bind fun x1 =>
 (f_X13_goesOn T x1.2).bind fun x5 =>
 some (x1.1, x5.2)
theorem t_X13_readCave {T : T3}  {M : aM} {y : (Int × aM)}  (hS : Sh T.1 M) (h : f_X13_readCave T.1  M = some y) : Mr 8 222 [(2, ((138 : Nat) : Int))] M (some (0, y.1)) y.2 T ∧ Sh T.1 y.2 := by
  have key : ∀ d, 8 ≤ d → Wp d 222 0 [] [(2, ((138 : Nat) : Int)), (9, 0)] [] (M, T) (fun r2 σ2 => r2 = some (0, y.1) ∧ σ2 = (y.2, T) ∧ Sh T.1 y.2) := by
    intro d hd
    rw [f_X13_readCave] at h
    refine y_blk (t := 0) rfl (show fnd bk_X13_readCave 0 = some _ from rfl) aB_X13_readCave ?_
    refine wp_aload_n (v := ((138 : Nat) : Int)) rfl (Int.natCast_nonneg _) ?_
    obtain ⟨x1, e2, h⟩ := d_bind h
    obtain ⟨r3, s4⟩ := t_X13_caveAtHand hS e2
    refine y_callV (as := []) (S1 := []) (Nat.le_of_ble_eq_true rfl) (by omega) r3 (Nat.le_of_ble_eq_true rfl) rfl (show ash 138 = (13, 38) from rfl) (Nat.lt_of_lt_of_le (show 138 < 154 by decide) hS.1.1) (Nat.le_of_ble_eq_true rfl) (Nat.le_of_ble_eq_true rfl) rfl ?_
    refine y_stn (L1 := [(2, ((138 : Nat) : Int)), (0, x1.1)]) (Nat.le_of_ble_eq_true rfl) rfl ?_
    refine wp_aload_n (v := ((138 : Nat) : Int)) rfl (Int.natCast_nonneg _) ?_
    obtain ⟨x5, e6, h⟩ := d_bind h
    obtain ⟨r7, s8⟩ := t_X13_goesOn s4 e6
    refine y_callVv (as := []) (S1 := []) (Nat.le_of_ble_eq_true rfl) (by omega) r7 rfl (show ash 138 = (13, 38) from rfl) (Nat.lt_of_lt_of_le (show 138 < 154 by decide) hS.1.1) (Nat.le_of_ble_eq_true rfl) (Nat.le_of_ble_eq_true rfl) rfl ?_
    refine wp_iload_n (v := x1.1) rfl ?_
    cases h
    exact y_ret0 (Or.inl rfl) ⟨rfl, rfl, s8⟩
  exact ⟨fun d hd => Ms.of3 (key d hd), Ms.sh (key 8 (Nat.le_refl _))⟩
theorem aB_X13_readTwo : ∀ pc, aB 223 pc = fnd bk_X13_readTwo pc := fun _ => rfl
def f_X13_readTwo (T : Nat)  (M : aM) : Option (Int × aM) :=
 (f_X13_readCave T M).bind fun x1 =>
 (f_X13_caveAtHand T x1.2).bind fun x5 =>
 (some (aup x5.2 138 15 x5.1)).bind fun m9 =>
 if (m9 138 9) = 5 then
 some (x1.1, m9) else
 if x1.1 = (m9 138 15) then
 (f_X13_flaw T 3 m9).bind fun x13 =>
 some (x1.1, x13.2) else
 some (x1.1, m9)
theorem t_X13_readTwo {T : T3}  {M : aM} {y : (Int × aM)}  (hS : Sh T.1 M) (h : f_X13_readTwo T.1  M = some y) : Mr 9 223 [(2, ((138 : Nat) : Int))] M (some (0, y.1)) y.2 T ∧ Sh T.1 y.2 := by
  have key : ∀ d, 9 ≤ d → Wp d 223 0 [] [(2, ((138 : Nat) : Int)), (9, 0)] [] (M, T) (fun r2 σ2 => r2 = some (0, y.1) ∧ σ2 = (y.2, T) ∧ Sh T.1 y.2) := by
    intro d hd
    rw [f_X13_readTwo] at h
    refine y_blk (t := 0) rfl (show fnd bk_X13_readTwo 0 = some _ from rfl) aB_X13_readTwo ?_
    refine wp_aload_n (v := ((138 : Nat) : Int)) rfl (Int.natCast_nonneg _) ?_
    obtain ⟨x1, e2, h⟩ := d_bind h
    obtain ⟨r3, s4⟩ := t_X13_readCave hS e2
    refine y_callV (as := []) (S1 := []) (Nat.le_of_ble_eq_true rfl) (by omega) r3 (Nat.le_of_ble_eq_true rfl) rfl (show ash 138 = (13, 38) from rfl) (Nat.lt_of_lt_of_le (show 138 < 154 by decide) hS.1.1) (Nat.le_of_ble_eq_true rfl) (Nat.le_of_ble_eq_true rfl) rfl ?_
    refine y_stn (L1 := [(2, ((138 : Nat) : Int)), (0, x1.1)]) (Nat.le_of_ble_eq_true rfl) rfl ?_
    refine wp_aload_n (v := ((138 : Nat) : Int)) rfl (Int.natCast_nonneg _) ?_
    refine wp_aload_n (v := ((138 : Nat) : Int)) rfl (Int.natCast_nonneg _) ?_
    obtain ⟨x5, e6, h⟩ := d_bind h
    obtain ⟨r7, s8⟩ := t_X13_caveAtHand s4 e6
    refine y_callV (as := []) (S1 := [(2, ((138 : Nat) : Int))]) (Nat.le_of_ble_eq_true rfl) (by omega) r7 (Nat.le_of_ble_eq_true rfl) rfl (show ash 138 = (13, 38) from rfl) (Nat.lt_of_lt_of_le (show 138 < 154 by decide) hS.1.1) (Nat.le_of_ble_eq_true rfl) (Nat.le_of_ble_eq_true rfl) rfl ?_
    refine y_put (show ash 138 = (13, 38) from rfl) (Nat.lt_of_lt_of_le (show 138 < 154 by decide) hS.1.1) rfl ?_
    obtain ⟨m9, em9, h⟩ := d_bind h
    have em9 := Option.some.inj em9
    have s10 : Sh T.1 m9 := em9 ▸ s8.up (Or.inr ⟨by rw [(show ash 138 = (13, 38) from rfl)]; decide, by rw [(show ash 138 = (13, 38) from rfl)]; decide⟩) (by have := (Nat.lt_of_lt_of_le (show 138 < 154 by decide) hS.1.1); have := hS.1.2; omega)
    rw [em9]
    refine wp_aload_n (v := ((138 : Nat) : Int)) rfl (Int.natCast_nonneg _) ?_
    refine y_get (show ash 138 = (13, 38) from rfl) (Nat.lt_of_lt_of_le (show 138 < 154 by decide) hS.1.1) (v := m9 138 9) rfl rfl ?_
    refine wp_iconst ⟨by decide, by decide⟩ ?_
    refine wp_icmp_eq (fun c11 => ?_) (fun c11 => ?_)
    · rw [if_pos c11] at h
      refine y_blk (t := 34) rfl (show fnd bk_X13_readTwo 34 = some _ from rfl) aB_X13_readTwo ?_
      refine wp_iload_n (v := x1.1) rfl ?_
      cases h
      exact y_ret0 (Or.inl rfl) ⟨rfl, rfl, s10⟩
    · rw [if_neg c11] at h
      refine wp_iload_n (v := x1.1) rfl ?_
      refine wp_aload_n (v := ((138 : Nat) : Int)) rfl (Int.natCast_nonneg _) ?_
      refine y_get (show ash 138 = (13, 38) from rfl) (Nat.lt_of_lt_of_le (show 138 < 154 by decide) hS.1.1) (v := m9 138 15) rfl rfl ?_
      refine y_ne (fun c12 => ?_) (fun c12 => ?_)
      · rw [if_neg c12] at h
        refine y_blk (t := 34) rfl (show fnd bk_X13_readTwo 34 = some _ from rfl) aB_X13_readTwo ?_
        refine wp_iload_n (v := x1.1) rfl ?_
        cases h
        exact y_ret0 (Or.inl rfl) ⟨rfl, rfl, s10⟩
      · rw [if_pos c12] at h
        refine wp_aload_n (v := ((138 : Nat) : Int)) rfl (Int.natCast_nonneg _) ?_
        refine wp_iconst ⟨by decide, by decide⟩ ?_
        obtain ⟨x13, e14, h⟩ := d_bind h
        obtain ⟨r15, s16⟩ := t_X13_flaw s10 e14
        refine y_callVv (as := [(0, 3)]) (S1 := []) (Nat.le_of_ble_eq_true rfl) (by omega) r15 rfl (show ash 138 = (13, 38) from rfl) (Nat.lt_of_lt_of_le (show 138 < 154 by decide) hS.1.1) (Nat.le_of_ble_eq_true rfl) (Nat.le_of_ble_eq_true rfl) rfl ?_
        refine y_blk (t := 34) rfl (show fnd bk_X13_readTwo 34 = some _ from rfl) aB_X13_readTwo ?_
        refine wp_iload_n (v := x1.1) rfl ?_
        cases h
        exact y_ret0 (Or.inl rfl) ⟨rfl, rfl, s16⟩
  exact ⟨fun d hd => Ms.of3 (key d hd), Ms.sh (key 9 (Nat.le_refl _))⟩
theorem aB_X13_readWell : ∀ pc, aB 226 pc = fnd bk_X13_readWell pc := fun _ => rfl
def b_X13_readWell_16 (T : Nat)  (M : aM) : Option (Int × aM) :=
 (f_X13_goesOn T M).bind fun x3 =>
 (f_X13_readPart T 2000032 0 99 x3.2).bind fun x7 =>
 (f_X13_readPart T 2000033 0 100 x7.2).bind fun x11 =>
 (f_X13_readPart T 2000034 0 100 x11.2).bind fun x15 =>
 if (x15.2 138 9) = 5 then
 some (0, x15.2) else
 if okW T (x15.2 138 4) then
 (some (aup x15.2 (x15.2 138 4).toNat 0 x7.1)).bind fun m21 =>
 if okW T (m21 138 4) then
 (some (aup m21 (m21 138 4).toNat 1 x11.1)).bind fun m24 =>
 if okW T (m24 138 4) then
 (some (aup m24 (m24 138 4).toNat 2 x15.1)).bind fun m27 =>
 some (0, m27) else none else none else none
theorem tb_X13_readWell_16 {d : Nat} (hd : 8 ≤ d) {T : T3}  {u1 u2 u3 : aV} {M : aM} {y : (Int × aM)}  (hS : Sh T.1 M) (h : b_X13_readWell_16 T.1  M = some y) : Wp d 226 16 [] [(2, ((138 : Nat) : Int)), u1, u2, u3] [] (M, T) (fun r2 σ2 => r2 = none ∧ σ2 = (y.2, T) ∧ Sh T.1 y.2) := by
  rw [b_X13_readWell_16] at h
  refine y_blk (t := 16) rfl (show fnd bk_X13_readWell 16 = some _ from rfl) aB_X13_readWell ?_
  refine wp_aload_n (v := ((138 : Nat) : Int)) rfl (Int.natCast_nonneg _) ?_
  obtain ⟨x3, e4, h⟩ := d_bind h
  obtain ⟨r5, s6⟩ := t_X13_goesOn hS e4
  refine y_callVv (as := []) (S1 := []) (Nat.le_of_ble_eq_true rfl) (by omega) r5 rfl (show ash 138 = (13, 38) from rfl) (Nat.lt_of_lt_of_le (show 138 < 154 by decide) hS.1.1) (Nat.le_of_ble_eq_true rfl) (Nat.le_of_ble_eq_true rfl) rfl ?_
  refine wp_aload_n (v := ((138 : Nat) : Int)) rfl (Int.natCast_nonneg _) ?_
  refine y_ldcS (v := 2000032) rfl ?_
  refine wp_iconst ⟨by decide, by decide⟩ ?_
  refine wp_bipush (by decide) ?_
  obtain ⟨x7, e8, h⟩ := d_bind h
  obtain ⟨r9, s10⟩ := t_X13_readPart s6 e8
  refine y_callV (as := [(2, 2000032), (0, 0), (0, 99)]) (S1 := []) (Nat.le_of_ble_eq_true rfl) (by omega) r9 (Nat.le_of_ble_eq_true rfl) rfl (show ash 138 = (13, 38) from rfl) (Nat.lt_of_lt_of_le (show 138 < 154 by decide) hS.1.1) (Nat.le_of_ble_eq_true rfl) (Nat.le_of_ble_eq_true rfl) rfl ?_
  refine y_stn (L1 := [(2, ((138 : Nat) : Int)), (0, x7.1), u2, u3]) (Nat.le_of_ble_eq_true rfl) rfl ?_
  refine wp_aload_n (v := ((138 : Nat) : Int)) rfl (Int.natCast_nonneg _) ?_
  refine y_ldcS (v := 2000033) rfl ?_
  refine wp_iconst ⟨by decide, by decide⟩ ?_
  refine wp_bipush (by decide) ?_
  obtain ⟨x11, e12, h⟩ := d_bind h
  obtain ⟨r13, s14⟩ := t_X13_readPart s10 e12
  refine y_callV (as := [(2, 2000033), (0, 0), (0, 100)]) (S1 := []) (Nat.le_of_ble_eq_true rfl) (by omega) r13 (Nat.le_of_ble_eq_true rfl) rfl (show ash 138 = (13, 38) from rfl) (Nat.lt_of_lt_of_le (show 138 < 154 by decide) hS.1.1) (Nat.le_of_ble_eq_true rfl) (Nat.le_of_ble_eq_true rfl) rfl ?_
  refine y_stn (L1 := [(2, ((138 : Nat) : Int)), (0, x7.1), (0, x11.1), u3]) (Nat.le_of_ble_eq_true rfl) rfl ?_
  refine wp_aload_n (v := ((138 : Nat) : Int)) rfl (Int.natCast_nonneg _) ?_
  refine y_ldcS (v := 2000034) rfl ?_
  refine wp_iconst ⟨by decide, by decide⟩ ?_
  refine wp_bipush (by decide) ?_
  obtain ⟨x15, e16, h⟩ := d_bind h
  obtain ⟨r17, s18⟩ := t_X13_readPart s14 e16
  refine y_callV (as := [(2, 2000034), (0, 0), (0, 100)]) (S1 := []) (Nat.le_of_ble_eq_true rfl) (by omega) r17 (Nat.le_of_ble_eq_true rfl) rfl (show ash 138 = (13, 38) from rfl) (Nat.lt_of_lt_of_le (show 138 < 154 by decide) hS.1.1) (Nat.le_of_ble_eq_true rfl) (Nat.le_of_ble_eq_true rfl) rfl ?_
  refine y_stn (L1 := [(2, ((138 : Nat) : Int)), (0, x7.1), (0, x11.1), (0, x15.1)]) (Nat.le_of_ble_eq_true rfl) rfl ?_
  refine wp_aload_n (v := ((138 : Nat) : Int)) rfl (Int.natCast_nonneg _) ?_
  refine y_get (show ash 138 = (13, 38) from rfl) (Nat.lt_of_lt_of_le (show 138 < 154 by decide) hS.1.1) (v := x15.2 138 9) rfl rfl ?_
  refine wp_iconst ⟨by decide, by decide⟩ ?_
  refine y_ne (fun c19 => ?_) (fun c19 => ?_)
  · rw [if_neg c19] at h
    refine y_blk (t := 59) rfl (show fnd bk_X13_readWell 59 = some _ from rfl) aB_X13_readWell ?_
    refine wp_aload_n (v := ((138 : Nat) : Int)) rfl (Int.natCast_nonneg _) ?_
    obtain ⟨c20, h⟩ := d_ite h
    refine y_get (show ash 138 = (13, 38) from rfl) (Nat.lt_of_lt_of_le (show 138 < 154 by decide) hS.1.1) (v := (((x15.2 138 4).toNat : Nat) : Int)) c20.eq rfl ?_
    refine wp_iload_n (v := x7.1) rfl ?_
    refine y_put (aW0 hS.1.2 c20.is) (ltW c20.is 0 (by decide)) rfl ?_
    obtain ⟨m21, em21, h⟩ := d_bind h
    have em21 := Option.some.inj em21
    have s22 : Sh T.1 m21 := em21 ▸ s18.up (Or.inr ⟨by rw [(aW0 hS.1.2 c20.is)]; decide, by rw [(aW0 hS.1.2 c20.is)]; decide⟩) (by have := (ltW c20.is 0 (by decide)); have := hS.1.2; omega)
    rw [em21]
    refine wp_aload_n (v := ((138 : Nat) : Int)) rfl (Int.natCast_nonneg _) ?_
    obtain ⟨c23, h⟩ := d_ite h
    refine y_get (show ash 138 = (13, 38) from rfl) (Nat.lt_of_lt_of_le (show 138 < 154 by decide) hS.1.1) (v := (((m21 138 4).toNat : Nat) : Int)) c23.eq rfl ?_
    refine wp_iload_n (v := x11.1) rfl ?_
    refine y_put (aW0 hS.1.2 c23.is) (ltW c23.is 0 (by decide)) rfl ?_
    obtain ⟨m24, em24, h⟩ := d_bind h
    have em24 := Option.some.inj em24
    have s25 : Sh T.1 m24 := em24 ▸ s22.up (Or.inr ⟨by rw [(aW0 hS.1.2 c23.is)]; decide, by rw [(aW0 hS.1.2 c23.is)]; decide⟩) (by have := (ltW c23.is 0 (by decide)); have := hS.1.2; omega)
    rw [em24]
    refine wp_aload_n (v := ((138 : Nat) : Int)) rfl (Int.natCast_nonneg _) ?_
    obtain ⟨c26, h⟩ := d_ite h
    refine y_get (show ash 138 = (13, 38) from rfl) (Nat.lt_of_lt_of_le (show 138 < 154 by decide) hS.1.1) (v := (((m24 138 4).toNat : Nat) : Int)) c26.eq rfl ?_
    refine wp_iload_n (v := x15.1) rfl ?_
    refine y_put (aW0 hS.1.2 c26.is) (ltW c26.is 0 (by decide)) rfl ?_
    obtain ⟨m27, em27, h⟩ := d_bind h
    have em27 := Option.some.inj em27
    have s28 : Sh T.1 m27 := em27 ▸ s25.up (Or.inr ⟨by rw [(aW0 hS.1.2 c26.is)]; decide, by rw [(aW0 hS.1.2 c26.is)]; decide⟩) (by have := (ltW c26.is 0 (by decide)); have := hS.1.2; omega)
    rw [em27]
    cases h
    exact wp_return ⟨rfl, rfl, s28⟩
  · rw [if_pos c19] at h
    cases h
    exact wp_return ⟨rfl, rfl, s18⟩
def f_X13_readWell (T : Nat)  (M : aM) : Option (Int × aM) :=
 if okW T (M 138 4) then
 if (M (M 138 4).toNat 0) = (-1) then
 b_X13_readWell_16 T M else
 (f_X13_flaw T 3 M).bind fun x29 =>
 b_X13_readWell_16 T x29.2 else none
theorem t_X13_readWell {T : T3}  {M : aM} {y : (Int × aM)}  (hS : Sh T.1 M) (h : f_X13_readWell T.1  M = some y) : Mr 8 226 [(2, ((138 : Nat) : Int))] M (none) y.2 T ∧ Sh T.1 y.2 := by
  have key : ∀ d, 8 ≤ d → Wp d 226 0 [] [(2, ((138 : Nat) : Int)), (9, 0), (9, 0), (9, 0)] [] (M, T) (fun r2 σ2 => r2 = none ∧ σ2 = (y.2, T) ∧ Sh T.1 y.2) := by
    intro d hd
    rw [f_X13_readWell] at h
    refine y_blk (t := 0) rfl (show fnd bk_X13_readWell 0 = some _ from rfl) aB_X13_readWell ?_
    refine wp_aload_n (v := ((138 : Nat) : Int)) rfl (Int.natCast_nonneg _) ?_
    obtain ⟨c1, h⟩ := d_ite h
    refine y_get (show ash 138 = (13, 38) from rfl) (Nat.lt_of_lt_of_le (show 138 < 154 by decide) hS.1.1) (v := (((M 138 4).toNat : Nat) : Int)) c1.eq rfl ?_
    refine y_get (aW0 hS.1.2 c1.is) (ltW c1.is 0 (by decide)) (v := M (M 138 4).toNat 0) rfl rfl ?_
    refine wp_iconst ⟨by decide, by decide⟩ ?_
    refine wp_icmp_eq (fun c2 => ?_) (fun c2 => ?_)
    · rw [if_pos c2] at h
      exact tb_X13_readWell_16 hd hS h
    · rw [if_neg c2] at h
      refine wp_aload_n (v := ((138 : Nat) : Int)) rfl (Int.natCast_nonneg _) ?_
      refine wp_iconst ⟨by decide, by decide⟩ ?_
      obtain ⟨x29, e30, h⟩ := d_bind h
      obtain ⟨r31, s32⟩ := t_X13_flaw hS e30
      refine y_callVv (as := [(0, 3)]) (S1 := []) (Nat.le_of_ble_eq_true rfl) (by omega) r31 rfl (show ash 138 = (13, 38) from rfl) (Nat.lt_of_lt_of_le (show 138 < 154 by decide) hS.1.1) (Nat.le_of_ble_eq_true rfl) (Nat.le_of_ble_eq_true rfl) rfl ?_
      exact tb_X13_readWell_16 hd s32 h
  exact ⟨fun d hd => Ms.of3 (key d hd), Ms.sh (key 8 (Nat.le_refl _))⟩
theorem aB_X13_readACave : ∀ pc, aB 227 pc = fnd bk_X13_readACave pc := fun _ => rfl
def b_X13_readACave_43 (T : Nat) (v1 : Int) (v3 : Int) (M : aM) : Option (Int × aM) :=
 (f_X13_goesOn T M).bind fun x13 =>
 if (x13.2 138 9) = 5 then
 some (0, x13.2) else
 if okW T (x13.2 138 4) then
 (f_X13_names T v1 0 (x13.2 (x13.2 138 4).toNat 3) x13.2).bind fun x19 =>
 if okW T (x19.2 138 4) then
 if v3 = 0 then
 (some (aup x19.2 (x19.2 138 4).toNat 4 (aor (x19.2 (x19.2 138 4).toNat 4) 0))).bind fun m25 =>
 if okW T (m25 138 4) then
 if aIn ((m25 (m25 138 4).toNat 3) + 1) then
 (some (aup m25 (m25 138 4).toNat 3 ((m25 (m25 138 4).toNat 3) + 1))).bind fun m29 =>
 some (0, m29) else none else none else
 (some (aup x19.2 (x19.2 138 4).toNat 4 (aor (x19.2 (x19.2 138 4).toNat 4) (ashl 1 (x19.2 (x19.2 138 4).toNat 3))))).bind fun m31 =>
 if okW T (m31 138 4) then
 if aIn ((m31 (m31 138 4).toNat 3) + 1) then
 (some (aup m31 (m31 138 4).toNat 3 ((m31 (m31 138 4).toNat 3) + 1))).bind fun m35 =>
 some (0, m35) else none else none else none else none
theorem tb_X13_readACave_43 {d : Nat} (hd : 8 ≤ d) {T : T3} {v1 : Int} {v3 : Int} {M : aM} {y : (Int × aM)}  (hS : Sh T.1 M) (h : b_X13_readACave_43 T.1 v1 v3 M = some y) : Wp d 227 43 [] [(2, ((138 : Nat) : Int)), (1, v1), (9, 0), (0, v3)] [] (M, T) (fun r2 σ2 => r2 = none ∧ σ2 = (y.2, T) ∧ Sh T.1 y.2) := by
  rw [b_X13_readACave_43] at h
  refine y_blk (t := 43) rfl (show fnd bk_X13_readACave 43 = some _ from rfl) aB_X13_readACave ?_
  refine wp_aload_n (v := ((138 : Nat) : Int)) rfl (Int.natCast_nonneg _) ?_
  obtain ⟨x13, e14, h⟩ := d_bind h
  obtain ⟨r15, s16⟩ := t_X13_goesOn hS e14
  refine y_callVv (as := []) (S1 := []) (Nat.le_of_ble_eq_true rfl) (by omega) r15 rfl (show ash 138 = (13, 38) from rfl) (Nat.lt_of_lt_of_le (show 138 < 154 by decide) hS.1.1) (Nat.le_of_ble_eq_true rfl) (Nat.le_of_ble_eq_true rfl) rfl ?_
  refine wp_aload_n (v := ((138 : Nat) : Int)) rfl (Int.natCast_nonneg _) ?_
  refine y_get (show ash 138 = (13, 38) from rfl) (Nat.lt_of_lt_of_le (show 138 < 154 by decide) hS.1.1) (v := x13.2 138 9) rfl rfl ?_
  refine wp_iconst ⟨by decide, by decide⟩ ?_
  refine y_ne (fun c17 => ?_) (fun c17 => ?_)
  · rw [if_neg c17] at h
    refine y_blk (t := 56) rfl (show fnd bk_X13_readACave 56 = some _ from rfl) aB_X13_readACave ?_
    refine wp_aload_n (v := ((138 : Nat) : Int)) rfl (Int.natCast_nonneg _) ?_
    refine wp_lload_n (v := v1) rfl ?_
    refine wp_iconst ⟨by decide, by decide⟩ ?_
    refine wp_aload_n (v := ((138 : Nat) : Int)) rfl (Int.natCast_nonneg _) ?_
    obtain ⟨c18, h⟩ := d_ite h
    refine y_get (show ash 138 = (13, 38) from rfl) (Nat.lt_of_lt_of_le (show 138 < 154 by decide) hS.1.1) (v := (((x13.2 138 4).toNat : Nat) : Int)) c18.eq rfl ?_
    refine y_get (aW0 hS.1.2 c18.is) (ltW c18.is 0 (by decide)) (v := x13.2 (x13.2 138 4).toNat 3) rfl rfl ?_
    obtain ⟨x19, e20, h⟩ := d_bind h
    obtain ⟨r21, s22⟩ := t_X13_names s16 e20
    refine y_callVv (as := [(1, v1), (0, 0), (0, (x13.2 (x13.2 138 4).toNat 3))]) (S1 := []) (Nat.le_of_ble_eq_true rfl) (by omega) r21 rfl (show ash 138 = (13, 38) from rfl) (Nat.lt_of_lt_of_le (show 138 < 154 by decide) hS.1.1) (Nat.le_of_ble_eq_true rfl) (Nat.le_of_ble_eq_true rfl) rfl ?_
    refine wp_aload_n (v := ((138 : Nat) : Int)) rfl (Int.natCast_nonneg _) ?_
    obtain ⟨c23, h⟩ := d_ite h
    refine y_get (show ash 138 = (13, 38) from rfl) (Nat.lt_of_lt_of_le (show 138 < 154 by decide) hS.1.1) (v := (((x19.2 138 4).toNat : Nat) : Int)) c23.eq rfl ?_
    refine wp_dup (Or.inr rfl) ?_
    refine y_get (aW0 hS.1.2 c23.is) (ltW c23.is 0 (by decide)) (v := x19.2 (x19.2 138 4).toNat 4) rfl rfl ?_
    refine wp_iload_n (v := v3) rfl ?_
    refine wp_if_eq (fun c24 => ?_) (fun c24 => ?_)
    · rw [if_pos c24] at h
      refine y_blk (t := 93) rfl (show fnd bk_X13_readACave 93 = some _ from rfl) aB_X13_readACave ?_
      refine wp_iconst ⟨by decide, by decide⟩ ?_
      refine y_blk (t := 94) rfl (show fnd bk_X13_readACave 94 = some _ from rfl) aB_X13_readACave ?_
      refine wp_ior ?_
      refine y_put (aW0 hS.1.2 c23.is) (ltW c23.is 0 (by decide)) rfl ?_
      obtain ⟨m25, em25, h⟩ := d_bind h
      have em25 := Option.some.inj em25
      have s26 : Sh T.1 m25 := em25 ▸ s22.up (Or.inr ⟨by rw [(aW0 hS.1.2 c23.is)]; decide, by rw [(aW0 hS.1.2 c23.is)]; decide⟩) (by have := (ltW c23.is 0 (by decide)); have := hS.1.2; omega)
      rw [em25]
      refine wp_aload_n (v := ((138 : Nat) : Int)) rfl (Int.natCast_nonneg _) ?_
      obtain ⟨c27, h⟩ := d_ite h
      refine y_get (show ash 138 = (13, 38) from rfl) (Nat.lt_of_lt_of_le (show 138 < 154 by decide) hS.1.1) (v := (((m25 138 4).toNat : Nat) : Int)) c27.eq rfl ?_
      refine wp_dup (Or.inr rfl) ?_
      refine y_get (aW0 hS.1.2 c27.is) (ltW c27.is 0 (by decide)) (v := m25 (m25 138 4).toNat 3) rfl rfl ?_
      refine wp_iconst ⟨by decide, by decide⟩ ?_
      obtain ⟨c28, h⟩ := d_ite h
      refine wp_iadd c28 ?_
      refine y_put (aW0 hS.1.2 c27.is) (ltW c27.is 0 (by decide)) rfl ?_
      obtain ⟨m29, em29, h⟩ := d_bind h
      have em29 := Option.some.inj em29
      have s30 : Sh T.1 m29 := em29 ▸ s26.up (Or.inr ⟨by rw [(aW0 hS.1.2 c27.is)]; decide, by rw [(aW0 hS.1.2 c27.is)]; decide⟩) (by have := (ltW c27.is 0 (by decide)); have := hS.1.2; omega)
      rw [em29]
      cases h
      exact wp_return ⟨rfl, rfl, s30⟩
    · rw [if_neg c24] at h
      refine wp_iconst ⟨by decide, by decide⟩ ?_
      refine wp_aload_n (v := ((138 : Nat) : Int)) rfl (Int.natCast_nonneg _) ?_
      refine y_get (show ash 138 = (13, 38) from rfl) (Nat.lt_of_lt_of_le (show 138 < 154 by decide) hS.1.1) (v := (((x19.2 138 4).toNat : Nat) : Int)) c23.eq rfl ?_
      refine y_get (aW0 hS.1.2 c23.is) (ltW c23.is 0 (by decide)) (v := x19.2 (x19.2 138 4).toNat 3) rfl rfl ?_
      refine wp_ishl ?_
      refine wp_goto ?_
      refine y_blk (t := 94) rfl (show fnd bk_X13_readACave 94 = some _ from rfl) aB_X13_readACave ?_
      refine wp_ior ?_
      refine y_put (aW0 hS.1.2 c23.is) (ltW c23.is 0 (by decide)) rfl ?_
      obtain ⟨m31, em31, h⟩ := d_bind h
      have em31 := Option.some.inj em31
      have s32 : Sh T.1 m31 := em31 ▸ s22.up (Or.inr ⟨by rw [(aW0 hS.1.2 c23.is)]; decide, by rw [(aW0 hS.1.2 c23.is)]; decide⟩) (by have := (ltW c23.is 0 (by decide)); have := hS.1.2; omega)
      rw [em31]
      refine wp_aload_n (v := ((138 : Nat) : Int)) rfl (Int.natCast_nonneg _) ?_
      obtain ⟨c33, h⟩ := d_ite h
      refine y_get (show ash 138 = (13, 38) from rfl) (Nat.lt_of_lt_of_le (show 138 < 154 by decide) hS.1.1) (v := (((m31 138 4).toNat : Nat) : Int)) c33.eq rfl ?_
      refine wp_dup (Or.inr rfl) ?_
      refine y_get (aW0 hS.1.2 c33.is) (ltW c33.is 0 (by decide)) (v := m31 (m31 138 4).toNat 3) rfl rfl ?_
      refine wp_iconst ⟨by decide, by decide⟩ ?_
      obtain ⟨c34, h⟩ := d_ite h
      refine wp_iadd c34 ?_
      refine y_put (aW0 hS.1.2 c33.is) (ltW c33.is 0 (by decide)) rfl ?_
      obtain ⟨m35, em35, h⟩ := d_bind h
      have em35 := Option.some.inj em35
      have s36 : Sh T.1 m35 := em35 ▸ s32.up (Or.inr ⟨by rw [(aW0 hS.1.2 c33.is)]; decide, by rw [(aW0 hS.1.2 c33.is)]; decide⟩) (by have := (ltW c33.is 0 (by decide)); have := hS.1.2; omega)
      rw [em35]
      cases h
      exact wp_return ⟨rfl, rfl, s36⟩
  · rw [if_pos c17] at h
    cases h
    exact wp_return ⟨rfl, rfl, s16⟩
def f_X13_readACave (T : Nat)  (M : aM) : Option (Int × aM) :=
 if okW T (M 138 4) then
 (f_X13_lineBegins T (M (M 138 4).toNat 3) 8 M).bind fun x2 =>
 (f_X13_readFresh T x2.2).bind fun x6 =>
 (f_X13_isWord T 2000035 x6.2).bind fun x10 =>
 if x10 = 0 then
 (f_X13_isWord T 2000036 x6.2).bind fun x37 =>
 if x37 = 0 then
 (f_X13_flaw T 1 x6.2).bind fun x40 =>
 b_X13_readACave_43 T x6.1 x10 x40.2 else
 b_X13_readACave_43 T x6.1 x10 x6.2 else
 b_X13_readACave_43 T x6.1 x10 x6.2 else none
theorem t_X13_readACave {T : T3}  {M : aM} {y : (Int × aM)}  (hS : Sh T.1 M) (h : f_X13_readACave T.1  M = some y) : Mr 8 227 [(2, ((138 : Nat) : Int))] M (none) y.2 T ∧ Sh T.1 y.2 := by
  have key : ∀ d, 8 ≤ d → Wp d 227 0 [] [(2, ((138 : Nat) : Int)), (9, 0), (9, 0), (9, 0)] [] (M, T) (fun r2 σ2 => r2 = none ∧ σ2 = (y.2, T) ∧ Sh T.1 y.2) := by
    intro d hd
    rw [f_X13_readACave] at h
    refine y_blk (t := 0) rfl (show fnd bk_X13_readACave 0 = some _ from rfl) aB_X13_readACave ?_
    refine wp_aload_n (v := ((138 : Nat) : Int)) rfl (Int.natCast_nonneg _) ?_
    refine wp_aload_n (v := ((138 : Nat) : Int)) rfl (Int.natCast_nonneg _) ?_
    obtain ⟨c1, h⟩ := d_ite h
    refine y_get (show ash 138 = (13, 38) from rfl) (Nat.lt_of_lt_of_le (show 138 < 154 by decide) hS.1.1) (v := (((M 138 4).toNat : Nat) : Int)) c1.eq rfl ?_
    refine y_get (aW0 hS.1.2 c1.is) (ltW c1.is 0 (by decide)) (v := M (M 138 4).toNat 3) rfl rfl ?_
    refine wp_bipush (by decide) ?_
    obtain ⟨x2, e3, h⟩ := d_bind h
    obtain ⟨r4, s5⟩ := t_X13_lineBegins hS e3
    refine y_callVv (as := [(0, (M (M 138 4).toNat 3)), (0, 8)]) (S1 := []) (Nat.le_of_ble_eq_true rfl) (by omega) r4 rfl (show ash 138 = (13, 38) from rfl) (Nat.lt_of_lt_of_le (show 138 < 154 by decide) hS.1.1) (Nat.le_of_ble_eq_true rfl) (Nat.le_of_ble_eq_true rfl) rfl ?_
    refine wp_aload_n (v := ((138 : Nat) : Int)) rfl (Int.natCast_nonneg _) ?_
    obtain ⟨x6, e7, h⟩ := d_bind h
    obtain ⟨r8, s9⟩ := t_X13_readFresh s5 e7
    refine y_callV (as := []) (S1 := []) (Nat.le_of_ble_eq_true rfl) (by omega) r8 (Nat.le_of_ble_eq_true rfl) rfl (show ash 138 = (13, 38) from rfl) (Nat.lt_of_lt_of_le (show 138 < 154 by decide) hS.1.1) (Nat.le_of_ble_eq_true rfl) (Nat.le_of_ble_eq_true rfl) rfl ?_
    refine y_lstn (L1 := [(2, ((138 : Nat) : Int)), (1, x6.1), (9, 0), (9, 0)]) (Nat.le_of_ble_eq_true rfl) rfl ?_
    refine wp_aload_n (v := ((138 : Nat) : Int)) rfl (Int.natCast_nonneg _) ?_
    refine y_ldcS (v := 2000035) rfl ?_
    obtain ⟨x10, e11, h⟩ := d_bind h
    refine y_callV (as := [(2, 2000035)]) (S1 := []) (Nat.le_of_ble_eq_true rfl) (by omega) (t_X13_isWord s9 e11) (Nat.le_of_ble_eq_true rfl) rfl (show ash 138 = (13, 38) from rfl) (Nat.lt_of_lt_of_le (show 138 < 154 by decide) hS.1.1) (Nat.le_of_ble_eq_true rfl) (Nat.le_of_ble_eq_true rfl) rfl ?_
    refine y_stn (L1 := [(2, ((138 : Nat) : Int)), (1, x6.1), (9, 0), (0, x10)]) (Nat.le_of_ble_eq_true rfl) rfl ?_
    refine wp_iload_n (v := x10) rfl ?_
    refine y_nez (fun c12 => ?_) (fun c12 => ?_)
    · rw [if_neg c12] at h
      exact tb_X13_readACave_43 hd s9 h
    · rw [if_pos c12] at h
      refine wp_aload_n (v := ((138 : Nat) : Int)) rfl (Int.natCast_nonneg _) ?_
      refine y_ldcS (v := 2000036) rfl ?_
      obtain ⟨x37, e38, h⟩ := d_bind h
      refine y_callV (as := [(2, 2000036)]) (S1 := []) (Nat.le_of_ble_eq_true rfl) (by omega) (t_X13_isWord s9 e38) (Nat.le_of_ble_eq_true rfl) rfl (show ash 138 = (13, 38) from rfl) (Nat.lt_of_lt_of_le (show 138 < 154 by decide) hS.1.1) (Nat.le_of_ble_eq_true rfl) (Nat.le_of_ble_eq_true rfl) rfl ?_
      refine y_nez (fun c39 => ?_) (fun c39 => ?_)
      · rw [if_neg c39] at h
        exact tb_X13_readACave_43 hd s9 h
      · rw [if_pos c39] at h
        refine wp_aload_n (v := ((138 : Nat) : Int)) rfl (Int.natCast_nonneg _) ?_
        refine wp_iconst ⟨by decide, by decide⟩ ?_
        obtain ⟨x40, e41, h⟩ := d_bind h
        obtain ⟨r42, s43⟩ := t_X13_flaw s9 e41
        refine y_callVv (as := [(0, 1)]) (S1 := []) (Nat.le_of_ble_eq_true rfl) (by omega) r42 rfl (show ash 138 = (13, 38) from rfl) (Nat.lt_of_lt_of_le (show 138 < 154 by decide) hS.1.1) (Nat.le_of_ble_eq_true rfl) (Nat.le_of_ble_eq_true rfl) rfl ?_
        exact tb_X13_readACave_43 hd s43 h
  exact ⟨fun d hd => Ms.of3 (key d hd), Ms.sh (key 8 (Nat.le_refl _))⟩

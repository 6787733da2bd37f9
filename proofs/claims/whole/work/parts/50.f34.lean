/-! ===== methods as functions ===== -/
theorem aB_X13_wrongTalk : ∀ pc, aB 296 pc = fnd bk_X13_wrongTalk pc := fun _ => rfl
def l_X13_wrongTalk_2 (T : Nat)  (M : aM) (k : Int → Option Int) : Nat → Int → Option Int
| 0, _ => none
| n + 1, v1 =>
 if okW T (M 138 3) then
 if (M (M 138 3).toNat 11) ≤ v1 then
 k v1 else
 if 0 ≤ v1 ∧ v1 < 5 then
 (f_X13_apart T (M ((M 138 3).toNat + 10) (v1).toNat) (M ((M 138 3).toNat + 11) (v1).toNat) M).bind fun x4 =>
 if (M (M 138 3).toNat 0) < x4 then
 (f_X13_bit T (M (M 138 3).toNat 12) v1 M).bind fun x7 =>
 if 0 = x7 then
 if aIn (v1 + 1) then
 l_X13_wrongTalk_2 T M k n (v1 + 1) else none else
 some v1 else
 (f_X13_bit T (M (M 138 3).toNat 12) v1 M).bind fun x11 =>
 if 1 = x11 then
 if aIn (v1 + 1) then
 l_X13_wrongTalk_2 T M k n (v1 + 1) else none else
 some v1 else none else none
theorem tl_X13_wrongTalk_2 {d : Nat} (hd : 1 ≤ d) {T : T3}  {M : aM} {k : Int → Option Int} {y : Int}  (hS : Sh T.1 M)
    (hk : ∀ (v1 : Int), Sh T.1 M → k v1 = some y → Wp d 296 72 [] [(2, ((138 : Nat) : Int)), (0, v1)] [] (M, T) (fun r2 σ2 => r2 = some (0, y) ∧ σ2 = (M, T))) :
    ∀ (n : Nat) (v1 : Int), Sh T.1 M → l_X13_wrongTalk_2 T.1 M k n v1 = some y → Wp d 296 2 [] [(2, ((138 : Nat) : Int)), (0, v1)] [] (M, T) (fun r2 σ2 => r2 = some (0, y) ∧ σ2 = (M, T)) := by
  intro n
  induction n with
  | zero =>
    intro v1 _ h
    exact nomatch (show (none : Option Int) = some y from h)
  | succ n ih =>
    intro v1 sM h
    rw [l_X13_wrongTalk_2] at h
    refine y_blk (t := 2) rfl (show fnd bk_X13_wrongTalk 2 = some _ from rfl) aB_X13_wrongTalk ?_
    refine wp_iload_n (v := v1) rfl ?_
    refine wp_aload_n (v := ((138 : Nat) : Int)) rfl (Int.natCast_nonneg _) ?_
    obtain ⟨c1, h⟩ := d_ite h
    refine y_get (show ash 138 = (13, 38) from rfl) (Nat.lt_of_lt_of_le (show 138 < 154 by decide) hS.1.1) (v := (((M 138 3).toNat : Nat) : Int)) c1.eq rfl ?_
    refine y_get (aW0 hS.1.2 c1.is) (ltW c1.is 0 (by decide)) (v := M (M 138 3).toNat 11) rfl rfl ?_
    refine wp_icmp_ge (fun c2 => ?_) (fun c2 => ?_)
    · rw [if_pos c2] at h
      exact hk v1   sM h
    · rw [if_neg c2] at h
      refine wp_aload_n (v := ((138 : Nat) : Int)) rfl (Int.natCast_nonneg _) ?_
      refine wp_aload_n (v := ((138 : Nat) : Int)) rfl (Int.natCast_nonneg _) ?_
      refine y_get (show ash 138 = (13, 38) from rfl) (Nat.lt_of_lt_of_le (show 138 < 154 by decide) hS.1.1) (v := (((M 138 3).toNat : Nat) : Int)) c1.eq rfl ?_
      refine y_get (aW0 hS.1.2 c1.is) (ltW c1.is 0 (by decide)) (v := ((((M 138 3).toNat + 10) : Nat) : Int)) (rW23 sM c1.is) rfl ?_
      refine wp_iload_n (v := v1) rfl ?_
      obtain ⟨c3, h⟩ := d_ite h
      refine y_iald (aW10 hS.1.2 c1.is) (Or.inl (ltW c1.is 10 (by decide))) (Nat.ne_of_lt (Nat.lt_of_lt_of_le (ltW c1.is 10 (by decide)) hS.1.2)) c3 (v := M ((M 138 3).toNat + 10) (v1).toNat) rfl ?_
      refine wp_aload_n (v := ((138 : Nat) : Int)) rfl (Int.natCast_nonneg _) ?_
      refine y_get (show ash 138 = (13, 38) from rfl) (Nat.lt_of_lt_of_le (show 138 < 154 by decide) hS.1.1) (v := (((M 138 3).toNat : Nat) : Int)) c1.eq rfl ?_
      refine y_get (aW0 hS.1.2 c1.is) (ltW c1.is 0 (by decide)) (v := ((((M 138 3).toNat + 11) : Nat) : Int)) (rW24 sM c1.is) rfl ?_
      refine wp_iload_n (v := v1) rfl ?_
      refine y_iald (aW11 hS.1.2 c1.is) (Or.inl (ltW c1.is 11 (by decide))) (Nat.ne_of_lt (Nat.lt_of_lt_of_le (ltW c1.is 11 (by decide)) hS.1.2)) c3 (v := M ((M 138 3).toNat + 11) (v1).toNat) rfl ?_
      obtain ⟨x4, e5, h⟩ := d_bind h
      refine y_callV (as := [(0, (M ((M 138 3).toNat + 10) (v1).toNat)), (0, (M ((M 138 3).toNat + 11) (v1).toNat))]) (S1 := []) (Nat.le_of_ble_eq_true rfl) (by omega) (t_X13_apart sM e5) (Nat.le_of_ble_eq_true rfl) rfl (show ash 138 = (13, 38) from rfl) (Nat.lt_of_lt_of_le (show 138 < 154 by decide) hS.1.1) (Nat.le_of_ble_eq_true rfl) (Nat.le_of_ble_eq_true rfl) rfl ?_
      refine wp_aload_n (v := ((138 : Nat) : Int)) rfl (Int.natCast_nonneg _) ?_
      refine y_get (show ash 138 = (13, 38) from rfl) (Nat.lt_of_lt_of_le (show 138 < 154 by decide) hS.1.1) (v := (((M 138 3).toNat : Nat) : Int)) c1.eq rfl ?_
      refine y_get (aW0 hS.1.2 c1.is) (ltW c1.is 0 (by decide)) (v := M (M 138 3).toNat 0) rfl rfl ?_
      refine wp_icmp_gt (fun c6 => ?_) (fun c6 => ?_)
      · rw [if_pos c6] at h
        refine y_blk (t := 49) rfl (show fnd bk_X13_wrongTalk 49 = some _ from rfl) aB_X13_wrongTalk ?_
        refine wp_iconst ⟨by decide, by decide⟩ ?_
        refine y_blk (t := 50) rfl (show fnd bk_X13_wrongTalk 50 = some _ from rfl) aB_X13_wrongTalk ?_
        refine wp_aload_n (v := ((138 : Nat) : Int)) rfl (Int.natCast_nonneg _) ?_
        refine y_get (show ash 138 = (13, 38) from rfl) (Nat.lt_of_lt_of_le (show 138 < 154 by decide) hS.1.1) (v := (((M 138 3).toNat : Nat) : Int)) c1.eq rfl ?_
        refine y_get (aW0 hS.1.2 c1.is) (ltW c1.is 0 (by decide)) (v := M (M 138 3).toNat 12) rfl rfl ?_
        refine wp_iload_n (v := v1) rfl ?_
        obtain ⟨x7, e8, h⟩ := d_bind h
        refine y_callS (as := [(0, (M (M 138 3).toNat 12)), (0, v1)]) (S1 := [(0, 0)]) (Nat.le_of_ble_eq_true rfl) (by omega) (t_X13_bit sM e8) (Nat.le_of_ble_eq_true rfl) rfl (Nat.le_of_ble_eq_true rfl) (Nat.le_of_ble_eq_true rfl) rfl ?_
        refine wp_icmp_eq (fun c9 => ?_) (fun c9 => ?_)
        · rw [if_pos c9] at h
          refine y_blk (t := 66) rfl (show fnd bk_X13_wrongTalk 66 = some _ from rfl) aB_X13_wrongTalk ?_
          obtain ⟨c10, h⟩ := d_ite h
          refine y_iinc (L1 := [(2, ((138 : Nat) : Int)), (0, (v1 + 1))]) rfl (Nat.le_of_ble_eq_true rfl) ⟨by decide, by decide⟩ c10 rfl ?_
          refine wp_goto ?_
          exact ih (v1 + 1)   sM h
        · rw [if_neg c9] at h
          refine wp_iload_n (v := v1) rfl ?_
          cases h
          exact y_ret0 (Or.inl rfl) ⟨rfl, rfl⟩
      · rw [if_neg c6] at h
        refine wp_iconst ⟨by decide, by decide⟩ ?_
        refine wp_goto ?_
        refine y_blk (t := 50) rfl (show fnd bk_X13_wrongTalk 50 = some _ from rfl) aB_X13_wrongTalk ?_
        refine wp_aload_n (v := ((138 : Nat) : Int)) rfl (Int.natCast_nonneg _) ?_
        refine y_get (show ash 138 = (13, 38) from rfl) (Nat.lt_of_lt_of_le (show 138 < 154 by decide) hS.1.1) (v := (((M 138 3).toNat : Nat) : Int)) c1.eq rfl ?_
        refine y_get (aW0 hS.1.2 c1.is) (ltW c1.is 0 (by decide)) (v := M (M 138 3).toNat 12) rfl rfl ?_
        refine wp_iload_n (v := v1) rfl ?_
        obtain ⟨x11, e12, h⟩ := d_bind h
        refine y_callS (as := [(0, (M (M 138 3).toNat 12)), (0, v1)]) (S1 := [(0, 1)]) (Nat.le_of_ble_eq_true rfl) (by omega) (t_X13_bit sM e12) (Nat.le_of_ble_eq_true rfl) rfl (Nat.le_of_ble_eq_true rfl) (Nat.le_of_ble_eq_true rfl) rfl ?_
        refine wp_icmp_eq (fun c13 => ?_) (fun c13 => ?_)
        · rw [if_pos c13] at h
          refine y_blk (t := 66) rfl (show fnd bk_X13_wrongTalk 66 = some _ from rfl) aB_X13_wrongTalk ?_
          obtain ⟨c14, h⟩ := d_ite h
          refine y_iinc (L1 := [(2, ((138 : Nat) : Int)), (0, (v1 + 1))]) rfl (Nat.le_of_ble_eq_true rfl) ⟨by decide, by decide⟩ c14 rfl ?_
          refine wp_goto ?_
          exact ih (v1 + 1)   sM h
        · rw [if_neg c13] at h
          refine wp_iload_n (v := v1) rfl ?_
          cases h
          exact y_ret0 (Or.inl rfl) ⟨rfl, rfl⟩
def f_X13_wrongTalk (T : Nat)  (M : aM) : Option Int :=
 l_X13_wrongTalk_2 T M (fun w15 =>
 some (-2)) FU 0
theorem t_X13_wrongTalk {T : T3}  {M : aM} {y : Int}  (hS : Sh T.1 M) (h : f_X13_wrongTalk T.1  M = some y) : Mr 1 296 [(2, ((138 : Nat) : Int))] M (some (0, y)) M T := by
  have key : ∀ d, 1 ≤ d → Wp d 296 0 [] [(2, ((138 : Nat) : Int)), (9, 0)] [] (M, T) (fun r2 σ2 => r2 = some (0, y) ∧ σ2 = (M, T)) := by
    intro d hd
    rw [f_X13_wrongTalk] at h
    refine y_blk (t := 0) rfl (show fnd bk_X13_wrongTalk 0 = some _ from rfl) aB_X13_wrongTalk ?_
    refine wp_iconst ⟨by decide, by decide⟩ ?_
    refine y_stn (L1 := [(2, ((138 : Nat) : Int)), (0, 0)]) (Nat.le_of_ble_eq_true rfl) rfl ?_
    refine tl_X13_wrongTalk_2 (by omega) hS (fun w15   s16 h => ?_) FU 0   hS h
    refine y_blk (t := 72) rfl (show fnd bk_X13_wrongTalk 72 = some _ from rfl) aB_X13_wrongTalk ?_
    refine wp_bipush (by decide) ?_
    cases h
    exact y_ret0 (Or.inl rfl) ⟨rfl, rfl⟩
  exact fun d hd => Ms.of (key d hd)
theorem aB_X13_netting : ∀ pc, aB 297 pc = fnd bk_X13_netting pc := fun _ => rfl
def l_X13_netting_9 (T : Nat) (v1 : Int) (v2 : Int) (k : Int → aM → Option (Int × aM)) : Nat → Int → aM → Option (Int × aM)
| 0, _, _ => none
| n + 1, v3, M =>
 if 4 ≤ v3 then
 k v3 M else
 if 0 ≤ v3 ∧ v3 < 4 then
 (some (aup M 151 (v3).toNat 0)).bind fun m5 =>
 if aIn (v3 + 1) then
 l_X13_netting_9 T v1 v2 k n (v3 + 1) m5 else none else none
theorem tl_X13_netting_9 {d : Nat} (hd : 2 ≤ d) {T : T3} {v1 : Int} {v2 : Int} {k : Int → aM → Option (Int × aM)} {y : (Int × aM)}  {M0 : aM} (hS : Sh T.1 M0)
    (hk : ∀ (v3 : Int) (u4 : aV) (M : aM), Sh T.1 M → k v3 M = some y → Wp d 297 27 [] [(2, ((138 : Nat) : Int)), (0, v1), (0, v2), (0, v3), u4] [] (M, T) (fun r2 σ2 => r2 = some (0, y.1) ∧ σ2 = (y.2, T) ∧ Sh T.1 y.2)) :
    ∀ (n : Nat) (v3 : Int) (u4 : aV) (M : aM), Sh T.1 M → l_X13_netting_9 T.1 v1 v2 k n v3 M = some y → Wp d 297 9 [] [(2, ((138 : Nat) : Int)), (0, v1), (0, v2), (0, v3), u4] [] (M, T) (fun r2 σ2 => r2 = some (0, y.1) ∧ σ2 = (y.2, T) ∧ Sh T.1 y.2) := by
  intro n
  induction n with
  | zero =>
    intro v3 u4 M _ h
    exact nomatch (show (none : Option (Int × aM)) = some y from h)
  | succ n ih =>
    intro v3 u4 M sM h
    rw [l_X13_netting_9] at h
    refine y_blk (t := 9) rfl (show fnd bk_X13_netting 9 = some _ from rfl) aB_X13_netting ?_
    refine wp_iload_n (v := v3) rfl ?_
    refine wp_iconst ⟨by decide, by decide⟩ ?_
    refine wp_icmp_ge (fun c3 => ?_) (fun c3 => ?_)
    · rw [if_pos c3] at h
      exact hk v3 u4 M sM h
    · rw [if_neg c3] at h
      refine wp_aload_n (v := ((138 : Nat) : Int)) rfl (Int.natCast_nonneg _) ?_
      refine y_get (show ash 138 = (13, 38) from rfl) (Nat.lt_of_lt_of_le (show 138 < 154 by decide) hS.1.1) (v := ((151 : Nat) : Int)) (sM.at 138 34 151 (by decide +kernel)) rfl ?_
      refine wp_iload_n (v := v3) rfl ?_
      refine wp_iconst ⟨by decide, by decide⟩ ?_
      obtain ⟨c4, h⟩ := d_ite h
      refine y_iast (show ash 151 = (100, 4) from rfl) (Nat.lt_of_lt_of_le (show 151 < 154 by decide) hS.1.1) c4 ?_
      obtain ⟨m5, em5, h⟩ := d_bind h
      have em5 := Option.some.inj em5
      have s6 : Sh T.1 m5 := em5 ▸ sM.up (Or.inl ⟨by rw [(show ash 151 = (100, 4) from rfl)]; exact Nat.le_of_ble_eq_true rfl, by rw [(show ash 151 = (100, 4) from rfl)]; exact Nat.le_of_ble_eq_true rfl⟩) (by have := (Nat.lt_of_lt_of_le (show 151 < 154 by decide) hS.1.1); have := hS.1.2; omega)
      rw [em5]
      obtain ⟨c7, h⟩ := d_ite h
      refine y_iinc (L1 := [(2, ((138 : Nat) : Int)), (0, v1), (0, v2), (0, (v3 + 1)), u4]) rfl (Nat.le_of_ble_eq_true rfl) ⟨by decide, by decide⟩ c7 rfl ?_
      refine wp_goto ?_
      exact ih (v3 + 1) u4 m5 s6 h
def l_X13_netting_87 (T : Nat) (v1 : Int) (v2 : Int) (v3 : Int) (k : Int → aM → Option (Int × aM)) : Nat → Int → aM → Option (Int × aM)
| 0, _, _ => none
| n + 1, v4, M =>
 if okW T (M 138 3) then
 if (M (M 138 3).toNat 10) ≤ v4 then
 k v4 M else
 if 0 ≤ v4 ∧ v4 < 4 then
 (f_X13_wetBy T v3 M).bind fun x30 =>
 (f_X13_bit T x30 (M ((M 138 3).toNat + 9) (v4).toNat) M).bind fun x32 =>
 if x32 = 0 then
 if aIn ((M 151 (v4).toNat) + 1) then
 (some (aup M 151 (v4).toNat ((M 151 (v4).toNat) + 1))).bind fun m36 =>
 if aIn (v4 + 1) then
 l_X13_netting_87 T v1 v2 v3 k n (v4 + 1) m36 else none else none else
 if aIn ((M 151 (v4).toNat) + 0) then
 (some (aup M 151 (v4).toNat ((M 151 (v4).toNat) + 0))).bind fun m40 =>
 if aIn (v4 + 1) then
 l_X13_netting_87 T v1 v2 v3 k n (v4 + 1) m40 else none else none else none else none
theorem tl_X13_netting_87 {d : Nat} (hd : 2 ≤ d) {T : T3} {v1 : Int} {v2 : Int} {v3 : Int} {k : Int → aM → Option (Int × aM)} {y : (Int × aM)}  {M0 : aM} (hS : Sh T.1 M0)
    (hk : ∀ (v4 : Int) (M : aM), Sh T.1 M → k v4 M = some y → Wp d 297 141 [] [(2, ((138 : Nat) : Int)), (0, v1), (0, v2), (0, v3), (0, v4)] [] (M, T) (fun r2 σ2 => r2 = some (0, y.1) ∧ σ2 = (y.2, T) ∧ Sh T.1 y.2)) :
    ∀ (n : Nat) (v4 : Int) (M : aM), Sh T.1 M → l_X13_netting_87 T.1 v1 v2 v3 k n v4 M = some y → Wp d 297 87 [] [(2, ((138 : Nat) : Int)), (0, v1), (0, v2), (0, v3), (0, v4)] [] (M, T) (fun r2 σ2 => r2 = some (0, y.1) ∧ σ2 = (y.2, T) ∧ Sh T.1 y.2) := by
  intro n
  induction n with
  | zero =>
    intro v4 M _ h
    exact nomatch (show (none : Option (Int × aM)) = some y from h)
  | succ n ih =>
    intro v4 M sM h
    rw [l_X13_netting_87] at h
    refine y_blk (t := 87) rfl (show fnd bk_X13_netting 87 = some _ from rfl) aB_X13_netting ?_
    refine wp_iload (v := v4) rfl ?_
    refine wp_aload_n (v := ((138 : Nat) : Int)) rfl (Int.natCast_nonneg _) ?_
    obtain ⟨c27, h⟩ := d_ite h
    refine y_get (show ash 138 = (13, 38) from rfl) (Nat.lt_of_lt_of_le (show 138 < 154 by decide) hS.1.1) (v := (((M 138 3).toNat : Nat) : Int)) c27.eq rfl ?_
    refine y_get (aW0 hS.1.2 c27.is) (ltW c27.is 0 (by decide)) (v := M (M 138 3).toNat 10) rfl rfl ?_
    refine wp_icmp_ge (fun c28 => ?_) (fun c28 => ?_)
    · rw [if_pos c28] at h
      exact hk v4  M sM h
    · rw [if_neg c28] at h
      refine wp_aload_n (v := ((138 : Nat) : Int)) rfl (Int.natCast_nonneg _) ?_
      refine y_get (show ash 138 = (13, 38) from rfl) (Nat.lt_of_lt_of_le (show 138 < 154 by decide) hS.1.1) (v := ((151 : Nat) : Int)) (sM.at 138 34 151 (by decide +kernel)) rfl ?_
      refine wp_iload (v := v4) rfl ?_
      refine wp_dup2 ⟨Or.inl rfl, Or.inr rfl⟩ ?_
      obtain ⟨c29, h⟩ := d_ite h
      refine y_iald (show ash 151 = (100, 4) from rfl) (Or.inl (Nat.lt_of_lt_of_le (show 151 < 154 by decide) hS.1.1)) (Nat.ne_of_lt (Nat.lt_of_lt_of_le (Nat.lt_of_lt_of_le (show 151 < 154 by decide) hS.1.1) hS.1.2)) c29 (v := M 151 (v4).toNat) rfl ?_
      refine wp_aload_n (v := ((138 : Nat) : Int)) rfl (Int.natCast_nonneg _) ?_
      refine wp_iload_n (v := v3) rfl ?_
      obtain ⟨x30, e31, h⟩ := d_bind h
      refine y_callV (as := [(0, v3)]) (S1 := [(0, (M 151 (v4).toNat)), (0, v4), (2, ((151 : Nat) : Int))]) (Nat.le_of_ble_eq_true rfl) (by omega) (t_X13_wetBy sM e31) (Nat.le_of_ble_eq_true rfl) rfl (show ash 138 = (13, 38) from rfl) (Nat.lt_of_lt_of_le (show 138 < 154 by decide) hS.1.1) (Nat.le_of_ble_eq_true rfl) (Nat.le_of_ble_eq_true rfl) rfl ?_
      refine wp_aload_n (v := ((138 : Nat) : Int)) rfl (Int.natCast_nonneg _) ?_
      refine y_get (show ash 138 = (13, 38) from rfl) (Nat.lt_of_lt_of_le (show 138 < 154 by decide) hS.1.1) (v := (((M 138 3).toNat : Nat) : Int)) c27.eq rfl ?_
      refine y_get (aW0 hS.1.2 c27.is) (ltW c27.is 0 (by decide)) (v := ((((M 138 3).toNat + 9) : Nat) : Int)) (rW22 sM c27.is) rfl ?_
      refine wp_iload (v := v4) rfl ?_
      refine y_iald (aW9 hS.1.2 c27.is) (Or.inl (ltW c27.is 9 (by decide))) (Nat.ne_of_lt (Nat.lt_of_lt_of_le (ltW c27.is 9 (by decide)) hS.1.2)) c29 (v := M ((M 138 3).toNat + 9) (v4).toNat) rfl ?_
      obtain ⟨x32, e33, h⟩ := d_bind h
      refine y_callS (as := [(0, x30), (0, (M ((M 138 3).toNat + 9) (v4).toNat))]) (S1 := [(0, (M 151 (v4).toNat)), (0, v4), (2, ((151 : Nat) : Int))]) (Nat.le_of_ble_eq_true rfl) (by omega) (t_X13_bit sM e33) (Nat.le_of_ble_eq_true rfl) rfl (Nat.le_of_ble_eq_true rfl) (Nat.le_of_ble_eq_true rfl) rfl ?_
      refine wp_if_eq (fun c34 => ?_) (fun c34 => ?_)
      · rw [if_pos c34] at h
        refine y_blk (t := 132) rfl (show fnd bk_X13_netting 132 = some _ from rfl) aB_X13_netting ?_
        refine wp_iconst ⟨by decide, by decide⟩ ?_
        refine y_blk (t := 133) rfl (show fnd bk_X13_netting 133 = some _ from rfl) aB_X13_netting ?_
        obtain ⟨c35, h⟩ := d_ite h
        refine wp_iadd c35 ?_
        refine y_iast (show ash 151 = (100, 4) from rfl) (Nat.lt_of_lt_of_le (show 151 < 154 by decide) hS.1.1) c29 ?_
        obtain ⟨m36, em36, h⟩ := d_bind h
        have em36 := Option.some.inj em36
        have s37 : Sh T.1 m36 := em36 ▸ sM.up (Or.inl ⟨by rw [(show ash 151 = (100, 4) from rfl)]; exact Nat.le_of_ble_eq_true rfl, by rw [(show ash 151 = (100, 4) from rfl)]; exact Nat.le_of_ble_eq_true rfl⟩) (by have := (Nat.lt_of_lt_of_le (show 151 < 154 by decide) hS.1.1); have := hS.1.2; omega)
        rw [em36]
        obtain ⟨c38, h⟩ := d_ite h
        refine y_iinc (L1 := [(2, ((138 : Nat) : Int)), (0, v1), (0, v2), (0, v3), (0, (v4 + 1))]) rfl (Nat.le_of_ble_eq_true rfl) ⟨by decide, by decide⟩ c38 rfl ?_
        refine wp_goto ?_
        exact ih (v4 + 1)  m36 s37 h
      · rw [if_neg c34] at h
        refine wp_iconst ⟨by decide, by decide⟩ ?_
        refine wp_goto ?_
        refine y_blk (t := 133) rfl (show fnd bk_X13_netting 133 = some _ from rfl) aB_X13_netting ?_
        obtain ⟨c39, h⟩ := d_ite h
        refine wp_iadd c39 ?_
        refine y_iast (show ash 151 = (100, 4) from rfl) (Nat.lt_of_lt_of_le (show 151 < 154 by decide) hS.1.1) c29 ?_
        obtain ⟨m40, em40, h⟩ := d_bind h
        have em40 := Option.some.inj em40
        have s41 : Sh T.1 m40 := em40 ▸ sM.up (Or.inl ⟨by rw [(show ash 151 = (100, 4) from rfl)]; exact Nat.le_of_ble_eq_true rfl, by rw [(show ash 151 = (100, 4) from rfl)]; exact Nat.le_of_ble_eq_true rfl⟩) (by have := (Nat.lt_of_lt_of_le (show 151 < 154 by decide) hS.1.1); have := hS.1.2; omega)
        rw [em40]
        obtain ⟨c42, h⟩ := d_ite h
        refine y_iinc (L1 := [(2, ((138 : Nat) : Int)), (0, v1), (0, v2), (0, v3), (0, (v4 + 1))]) rfl (Nat.le_of_ble_eq_true rfl) ⟨by decide, by decide⟩ c42 rfl ?_
        refine wp_goto ?_
        exact ih (v4 + 1)  m40 s41 h
def l_X13_netting_29 (T : Nat) (v1 : Int) (k : Int → Int → aM → Option (Int × aM)) : Nat → Int → Int → aM → Option (Int × aM)
| 0, _, _, _ => none
| n + 1, v2, v3, M =>
 if okW T (M 138 3) then
 if (ashl 1 (M (M 138 3).toNat 10)) ≤ v3 then
 k v2 v3 M else
 (f_X13_wetBy T v3 M).bind fun x14 =>
 (f_X13_lays T x14 (-1) M).bind fun x16 =>
 (f_X13_wrongTalk T x16.2).bind fun x20 =>
 if x20 = (-2) then
 if (x16.2 138 33) = v1 then
 if aIn ((x16.2 138 33) + 1) then
 (some (aup x16.2 138 33 ((x16.2 138 33) + 1))).bind fun m48 =>
 l_X13_netting_87 T v1 v3 v3 (fun w50 m51 =>
 if aIn (v3 + 1) then
 l_X13_netting_29 T v1 k n v3 (v3 + 1) m51 else none) FU 0 m48 else none else
 if aIn ((x16.2 138 33) + 1) then
 (some (aup x16.2 138 33 ((x16.2 138 33) + 1))).bind fun m25 =>
 l_X13_netting_87 T v1 v2 v3 (fun w43 m44 =>
 if aIn (v3 + 1) then
 l_X13_netting_29 T v1 k n v2 (v3 + 1) m44 else none) FU 0 m25 else none else
 if aIn (v3 + 1) then
 l_X13_netting_29 T v1 k n v2 (v3 + 1) x16.2 else none else none
theorem tl_X13_netting_29 {d : Nat} (hd : 2 ≤ d) {T : T3} {v1 : Int} {k : Int → Int → aM → Option (Int × aM)} {y : (Int × aM)}  {M0 : aM} (hS : Sh T.1 M0)
    (hk : ∀ (v2 v3 : Int) (u4 : aV) (M : aM), Sh T.1 M → k v2 v3 M = some y → Wp d 297 147 [] [(2, ((138 : Nat) : Int)), (0, v1), (0, v2), (0, v3), u4] [] (M, T) (fun r2 σ2 => r2 = some (0, y.1) ∧ σ2 = (y.2, T) ∧ Sh T.1 y.2)) :
    ∀ (n : Nat) (v2 v3 : Int) (u4 : aV) (M : aM), Sh T.1 M → l_X13_netting_29 T.1 v1 k n v2 v3 M = some y → Wp d 297 29 [] [(2, ((138 : Nat) : Int)), (0, v1), (0, v2), (0, v3), u4] [] (M, T) (fun r2 σ2 => r2 = some (0, y.1) ∧ σ2 = (y.2, T) ∧ Sh T.1 y.2) := by
  intro n
  induction n with
  | zero =>
    intro v2 v3 u4 M _ h
    exact nomatch (show (none : Option (Int × aM)) = some y from h)
  | succ n ih =>
    intro v2 v3 u4 M sM h
    rw [l_X13_netting_29] at h
    refine y_blk (t := 29) rfl (show fnd bk_X13_netting 29 = some _ from rfl) aB_X13_netting ?_
    refine wp_iload_n (v := v3) rfl ?_
    refine wp_iconst ⟨by decide, by decide⟩ ?_
    refine wp_aload_n (v := ((138 : Nat) : Int)) rfl (Int.natCast_nonneg _) ?_
    obtain ⟨c12, h⟩ := d_ite h
    refine y_get (show ash 138 = (13, 38) from rfl) (Nat.lt_of_lt_of_le (show 138 < 154 by decide) hS.1.1) (v := (((M 138 3).toNat : Nat) : Int)) c12.eq rfl ?_
    refine y_get (aW0 hS.1.2 c12.is) (ltW c12.is 0 (by decide)) (v := M (M 138 3).toNat 10) rfl rfl ?_
    refine wp_ishl ?_
    refine wp_icmp_ge (fun c13 => ?_) (fun c13 => ?_)
    · rw [if_pos c13] at h
      exact hk v2 v3 u4 M sM h
    · rw [if_neg c13] at h
      refine wp_aload_n (v := ((138 : Nat) : Int)) rfl (Int.natCast_nonneg _) ?_
      refine wp_aload_n (v := ((138 : Nat) : Int)) rfl (Int.natCast_nonneg _) ?_
      refine wp_iload_n (v := v3) rfl ?_
      obtain ⟨x14, e15, h⟩ := d_bind h
      refine y_callV (as := [(0, v3)]) (S1 := [(2, ((138 : Nat) : Int))]) (Nat.le_of_ble_eq_true rfl) (by omega) (t_X13_wetBy sM e15) (Nat.le_of_ble_eq_true rfl) rfl (show ash 138 = (13, 38) from rfl) (Nat.lt_of_lt_of_le (show 138 < 154 by decide) hS.1.1) (Nat.le_of_ble_eq_true rfl) (Nat.le_of_ble_eq_true rfl) rfl ?_
      refine wp_iconst ⟨by decide, by decide⟩ ?_
      obtain ⟨x16, e17, h⟩ := d_bind h
      obtain ⟨r18, s19⟩ := t_X13_lays sM e17
      refine y_callVv (as := [(0, x14), (0, (-1))]) (S1 := []) (Nat.le_of_ble_eq_true rfl) (by omega) r18 rfl (show ash 138 = (13, 38) from rfl) (Nat.lt_of_lt_of_le (show 138 < 154 by decide) hS.1.1) (Nat.le_of_ble_eq_true rfl) (Nat.le_of_ble_eq_true rfl) rfl ?_
      refine wp_aload_n (v := ((138 : Nat) : Int)) rfl (Int.natCast_nonneg _) ?_
      obtain ⟨x20, e21, h⟩ := d_bind h
      refine y_callV (as := []) (S1 := []) (Nat.le_of_ble_eq_true rfl) (by omega) (t_X13_wrongTalk s19 e21) (Nat.le_of_ble_eq_true rfl) rfl (show ash 138 = (13, 38) from rfl) (Nat.lt_of_lt_of_le (show 138 < 154 by decide) hS.1.1) (Nat.le_of_ble_eq_true rfl) (Nat.le_of_ble_eq_true rfl) rfl ?_
      refine wp_bipush (by decide) ?_
      refine wp_icmp_eq (fun c22 => ?_) (fun c22 => ?_)
      · rw [if_pos c22] at h
        refine y_blk (t := 64) rfl (show fnd bk_X13_netting 64 = some _ from rfl) aB_X13_netting ?_
        refine wp_aload_n (v := ((138 : Nat) : Int)) rfl (Int.natCast_nonneg _) ?_
        refine y_get (show ash 138 = (13, 38) from rfl) (Nat.lt_of_lt_of_le (show 138 < 154 by decide) hS.1.1) (v := x16.2 138 33) rfl rfl ?_
        refine wp_iload_n (v := v1) rfl ?_
        refine y_ne (fun c23 => ?_) (fun c23 => ?_)
        · rw [if_neg c23] at h
          refine y_blk (t := 74) rfl (show fnd bk_X13_netting 74 = some _ from rfl) aB_X13_netting ?_
          refine wp_aload_n (v := ((138 : Nat) : Int)) rfl (Int.natCast_nonneg _) ?_
          refine wp_dup (Or.inr rfl) ?_
          refine y_get (show ash 138 = (13, 38) from rfl) (Nat.lt_of_lt_of_le (show 138 < 154 by decide) hS.1.1) (v := x16.2 138 33) rfl rfl ?_
          refine wp_iconst ⟨by decide, by decide⟩ ?_
          obtain ⟨c24, h⟩ := d_ite h
          refine wp_iadd c24 ?_
          refine y_put (show ash 138 = (13, 38) from rfl) (Nat.lt_of_lt_of_le (show 138 < 154 by decide) hS.1.1) rfl ?_
          obtain ⟨m25, em25, h⟩ := d_bind h
          have em25 := Option.some.inj em25
          have s26 : Sh T.1 m25 := em25 ▸ s19.up (Or.inr ⟨by rw [(show ash 138 = (13, 38) from rfl)]; decide, by rw [(show ash 138 = (13, 38) from rfl)]; decide⟩) (by have := (Nat.lt_of_lt_of_le (show 138 < 154 by decide) hS.1.1); have := hS.1.2; omega)
          rw [em25]
          refine wp_iconst ⟨by decide, by decide⟩ ?_
          refine y_st (L1 := [(2, ((138 : Nat) : Int)), (0, v1), (0, v2), (0, v3), (0, 0)]) (Nat.le_of_ble_eq_true rfl) rfl ?_
          refine tl_X13_netting_87 (by omega) hS (fun w43  m44 s45 h => ?_) FU 0  m25 s26 h
          refine y_blk (t := 141) rfl (show fnd bk_X13_netting 141 = some _ from rfl) aB_X13_netting ?_
          obtain ⟨c46, h⟩ := d_ite h
          refine y_iinc (L1 := [(2, ((138 : Nat) : Int)), (0, v1), (0, v2), (0, (v3 + 1)), (0, w43)]) rfl (Nat.le_of_ble_eq_true rfl) ⟨by decide, by decide⟩ c46 rfl ?_
          refine wp_goto ?_
          exact ih v2 (v3 + 1) (0, w43) m44 s45 h
        · rw [if_pos c23] at h
          refine wp_iload_n (v := v3) rfl ?_
          refine y_stn (L1 := [(2, ((138 : Nat) : Int)), (0, v1), (0, v3), (0, v3), u4]) (Nat.le_of_ble_eq_true rfl) rfl ?_
          refine y_blk (t := 74) rfl (show fnd bk_X13_netting 74 = some _ from rfl) aB_X13_netting ?_
          refine wp_aload_n (v := ((138 : Nat) : Int)) rfl (Int.natCast_nonneg _) ?_
          refine wp_dup (Or.inr rfl) ?_
          refine y_get (show ash 138 = (13, 38) from rfl) (Nat.lt_of_lt_of_le (show 138 < 154 by decide) hS.1.1) (v := x16.2 138 33) rfl rfl ?_
          refine wp_iconst ⟨by decide, by decide⟩ ?_
          obtain ⟨c47, h⟩ := d_ite h
          refine wp_iadd c47 ?_
          refine y_put (show ash 138 = (13, 38) from rfl) (Nat.lt_of_lt_of_le (show 138 < 154 by decide) hS.1.1) rfl ?_
          obtain ⟨m48, em48, h⟩ := d_bind h
          have em48 := Option.some.inj em48
          have s49 : Sh T.1 m48 := em48 ▸ s19.up (Or.inr ⟨by rw [(show ash 138 = (13, 38) from rfl)]; decide, by rw [(show ash 138 = (13, 38) from rfl)]; decide⟩) (by have := (Nat.lt_of_lt_of_le (show 138 < 154 by decide) hS.1.1); have := hS.1.2; omega)
          rw [em48]
          refine wp_iconst ⟨by decide, by decide⟩ ?_
          refine y_st (L1 := [(2, ((138 : Nat) : Int)), (0, v1), (0, v3), (0, v3), (0, 0)]) (Nat.le_of_ble_eq_true rfl) rfl ?_
          refine tl_X13_netting_87 (by omega) hS (fun w50  m51 s52 h => ?_) FU 0  m48 s49 h
          refine y_blk (t := 141) rfl (show fnd bk_X13_netting 141 = some _ from rfl) aB_X13_netting ?_
          obtain ⟨c53, h⟩ := d_ite h
          refine y_iinc (L1 := [(2, ((138 : Nat) : Int)), (0, v1), (0, v3), (0, (v3 + 1)), (0, w50)]) rfl (Nat.le_of_ble_eq_true rfl) ⟨by decide, by decide⟩ c53 rfl ?_
          refine wp_goto ?_
          exact ih v3 (v3 + 1) (0, w50) m51 s52 h
      · rw [if_neg c22] at h
        refine wp_goto ?_
        refine y_blk (t := 141) rfl (show fnd bk_X13_netting 141 = some _ from rfl) aB_X13_netting ?_
        obtain ⟨c54, h⟩ := d_ite h
        refine y_iinc (L1 := [(2, ((138 : Nat) : Int)), (0, v1), (0, v2), (0, (v3 + 1)), u4]) rfl (Nat.le_of_ble_eq_true rfl) ⟨by decide, by decide⟩ c54 rfl ?_
        refine wp_goto ?_
        exact ih v2 (v3 + 1) u4 x16.2 s19 h
def f_X13_netting (T : Nat) (v1 : Int) (M : aM) : Option (Int × aM) :=
 (some (aup M 138 33 0)).bind fun m1 =>
 l_X13_netting_9 T v1 (-1) (fun w8 m10 =>
 l_X13_netting_29 T v1 (fun w55 w56 m58 =>
 some (w55, m58)) FU (-1) 0 m10) FU 0 m1
theorem t_X13_netting {T : T3} {v1 : Int} {M : aM} {y : (Int × aM)}  (hS : Sh T.1 M) (h : f_X13_netting T.1 v1 M = some y) : Mr 2 297 [(2, ((138 : Nat) : Int)), (0, v1)] M (some (0, y.1)) y.2 T ∧ Sh T.1 y.2 := by
  have key : ∀ d, 2 ≤ d → Wp d 297 0 [] [(2, ((138 : Nat) : Int)), (0, v1), (9, 0), (9, 0), (9, 0)] [] (M, T) (fun r2 σ2 => r2 = some (0, y.1) ∧ σ2 = (y.2, T) ∧ Sh T.1 y.2) := by
    intro d hd
    rw [f_X13_netting] at h
    refine y_blk (t := 0) rfl (show fnd bk_X13_netting 0 = some _ from rfl) aB_X13_netting ?_
    refine wp_aload_n (v := ((138 : Nat) : Int)) rfl (Int.natCast_nonneg _) ?_
    refine wp_iconst ⟨by decide, by decide⟩ ?_
    refine y_put (show ash 138 = (13, 38) from rfl) (Nat.lt_of_lt_of_le (show 138 < 154 by decide) hS.1.1) rfl ?_
    obtain ⟨m1, em1, h⟩ := d_bind h
    have em1 := Option.some.inj em1
    have s2 : Sh T.1 m1 := em1 ▸ hS.up (Or.inr ⟨by rw [(show ash 138 = (13, 38) from rfl)]; decide, by rw [(show ash 138 = (13, 38) from rfl)]; decide⟩) (by have := (Nat.lt_of_lt_of_le (show 138 < 154 by decide) hS.1.1); have := hS.1.2; omega)
    rw [em1]
    refine wp_iconst ⟨by decide, by decide⟩ ?_
    refine y_stn (L1 := [(2, ((138 : Nat) : Int)), (0, v1), (0, (-1)), (9, 0), (9, 0)]) (Nat.le_of_ble_eq_true rfl) rfl ?_
    refine wp_iconst ⟨by decide, by decide⟩ ?_
    refine y_stn (L1 := [(2, ((138 : Nat) : Int)), (0, v1), (0, (-1)), (0, 0), (9, 0)]) (Nat.le_of_ble_eq_true rfl) rfl ?_
    refine tl_X13_netting_9 (by omega) hS (fun w8 u9 m10 s11 h => ?_) FU 0 (9, 0) m1 s2 h
    refine y_blk (t := 27) rfl (show fnd bk_X13_netting 27 = some _ from rfl) aB_X13_netting ?_
    refine wp_iconst ⟨by decide, by decide⟩ ?_
    refine y_stn (L1 := [(2, ((138 : Nat) : Int)), (0, v1), (0, (-1)), (0, 0), u9]) (Nat.le_of_ble_eq_true rfl) rfl ?_
    refine tl_X13_netting_29 (by omega) hS (fun w55 w56 u57 m58 s59 h => ?_) FU (-1) 0 u9 m10 s11 h
    refine y_blk (t := 147) rfl (show fnd bk_X13_netting 147 = some _ from rfl) aB_X13_netting ?_
    refine wp_iload_n (v := w55) rfl ?_
    cases h
    exact y_ret0 (Or.inl rfl) ⟨rfl, rfl, s59⟩
  exact ⟨fun d hd => Ms.of3 (key d hd), Ms.sh (key 2 (Nat.le_refl _))⟩
theorem aB_X13_nets : ∀ pc, aB 298 pc = fnd bk_X13_nets pc := fun _ => rfl
def f_X13_nets (T : Nat)  (M : aM) : Option (Int × aM) :=
 (some (aup M 138 0 0)).bind fun m1 =>
 if m1 138 3 < 0 then
 (f_X13_refused T 1 m1).bind fun x12 =>
 some (x12.1, x12.2) else
 (f_X13_netting T (-1) m1).bind fun x4 =>
 (f_X13_good T (x4.2 138 33) x4.2).bind fun x8 =>
 some (x8.1, x8.2)
theorem t_X13_nets {T : T3}  {M : aM} {y : (Int × aM)}  (hS : Sh T.1 M) (h : f_X13_nets T.1  M = some y) : Mr 3 298 [(2, ((138 : Nat) : Int))] M (some (0, y.1)) y.2 T ∧ Sh T.1 y.2 := by
  have key : ∀ d, 3 ≤ d → Wp d 298 0 [] [(2, ((138 : Nat) : Int))] [] (M, T) (fun r2 σ2 => r2 = some (0, y.1) ∧ σ2 = (y.2, T) ∧ Sh T.1 y.2) := by
    intro d hd
    rw [f_X13_nets] at h
    refine y_blk (t := 0) rfl (show fnd bk_X13_nets 0 = some _ from rfl) aB_X13_nets ?_
    refine wp_aload_n (v := ((138 : Nat) : Int)) rfl (Int.natCast_nonneg _) ?_
    refine wp_iconst ⟨by decide, by decide⟩ ?_
    refine y_put (show ash 138 = (13, 38) from rfl) (Nat.lt_of_lt_of_le (show 138 < 154 by decide) hS.1.1) rfl ?_
    obtain ⟨m1, em1, h⟩ := d_bind h
    have em1 := Option.some.inj em1
    have s2 : Sh T.1 m1 := em1 ▸ hS.up (Or.inr ⟨by rw [(show ash 138 = (13, 38) from rfl)]; decide, by rw [(show ash 138 = (13, 38) from rfl)]; decide⟩) (by have := (Nat.lt_of_lt_of_le (show 138 < 154 by decide) hS.1.1); have := hS.1.2; omega)
    rw [em1]
    refine wp_aload_n (v := ((138 : Nat) : Int)) rfl (Int.natCast_nonneg _) ?_
    refine y_get (show ash 138 = (13, 38) from rfl) (Nat.lt_of_lt_of_le (show 138 < 154 by decide) hS.1.1) (v := m1 138 3) rfl rfl ?_
    refine wp_ifnonnull (fun c3 => ?_) (fun c3 => ?_)
    · rw [if_neg c3] at h
      refine y_blk (t := 18) rfl (show fnd bk_X13_nets 18 = some _ from rfl) aB_X13_nets ?_
      refine wp_aload_n (v := ((138 : Nat) : Int)) rfl (Int.natCast_nonneg _) ?_
      refine wp_iconst ⟨by decide, by decide⟩ ?_
      obtain ⟨x4, e5, h⟩ := d_bind h
      obtain ⟨r6, s7⟩ := t_X13_netting s2 e5
      refine y_callV (as := [(0, (-1))]) (S1 := []) (Nat.le_of_ble_eq_true rfl) (by omega) r6 (Nat.le_of_ble_eq_true rfl) rfl (show ash 138 = (13, 38) from rfl) (Nat.lt_of_lt_of_le (show 138 < 154 by decide) hS.1.1) (Nat.le_of_ble_eq_true rfl) (Nat.le_of_ble_eq_true rfl) rfl ?_
      refine wp_pop (Or.inl rfl) ?_
      refine wp_aload_n (v := ((138 : Nat) : Int)) rfl (Int.natCast_nonneg _) ?_
      refine wp_aload_n (v := ((138 : Nat) : Int)) rfl (Int.natCast_nonneg _) ?_
      refine y_get (show ash 138 = (13, 38) from rfl) (Nat.lt_of_lt_of_le (show 138 < 154 by decide) hS.1.1) (v := x4.2 138 33) rfl rfl ?_
      obtain ⟨x8, e9, h⟩ := d_bind h
      obtain ⟨r10, s11⟩ := t_X13_good s7 e9
      refine y_callV (as := [(0, (x4.2 138 33))]) (S1 := []) (Nat.le_of_ble_eq_true rfl) (by omega) r10 (Nat.le_of_ble_eq_true rfl) rfl (show ash 138 = (13, 38) from rfl) (Nat.lt_of_lt_of_le (show 138 < 154 by decide) hS.1.1) (Nat.le_of_ble_eq_true rfl) (Nat.le_of_ble_eq_true rfl) rfl ?_
      cases h
      exact y_ret0 (Or.inl rfl) ⟨rfl, rfl, s11⟩
    · rw [if_pos c3] at h
      refine wp_aload_n (v := ((138 : Nat) : Int)) rfl (Int.natCast_nonneg _) ?_
      refine wp_iconst ⟨by decide, by decide⟩ ?_
      obtain ⟨x12, e13, h⟩ := d_bind h
      obtain ⟨r14, s15⟩ := t_X13_refused s2 e13
      refine y_callV (as := [(0, 1)]) (S1 := []) (Nat.le_of_ble_eq_true rfl) (by omega) r14 (Nat.le_of_ble_eq_true rfl) rfl (show ash 138 = (13, 38) from rfl) (Nat.lt_of_lt_of_le (show 138 < 154 by decide) hS.1.1) (Nat.le_of_ble_eq_true rfl) (Nat.le_of_ble_eq_true rfl) rfl ?_
      cases h
      exact y_ret0 (Or.inl rfl) ⟨rfl, rfl, s15⟩
  exact ⟨fun d hd => Ms.of3 (key d hd), Ms.sh (key 3 (Nat.le_refl _))⟩
theorem aB_X13_netAt : ∀ pc, aB 299 pc = fnd bk_X13_netAt pc := fun _ => rfl
def f_X13_netAt (T : Nat) (v1 : Int) (M : aM) : Option (Int × aM) :=
 (some (aup M 138 0 0)).bind fun m1 =>
 if m1 138 3 < 0 then
 (f_X13_refused T 1 m1).bind fun x4 =>
 some (x4.1, x4.2) else
 if 0 ≤ v1 then
 (f_X13_netting T v1 m1).bind fun x9 =>
 if x9.1 = (-1) then
 (f_X13_refused T 1 x9.2).bind fun x18 =>
 some (x18.1, x18.2) else
 (f_X13_good T x9.1 x9.2).bind fun x14 =>
 some (x14.1, x14.2) else
 (f_X13_refused T 1 m1).bind fun x22 =>
 some (x22.1, x22.2)
theorem t_X13_netAt {T : T3} {v1 : Int} {M : aM} {y : (Int × aM)}  (hS : Sh T.1 M) (h : f_X13_netAt T.1 v1 M = some y) : Mr 3 299 [(2, ((138 : Nat) : Int)), (0, v1)] M (some (0, y.1)) y.2 T ∧ Sh T.1 y.2 := by
  have key : ∀ d, 3 ≤ d → Wp d 299 0 [] [(2, ((138 : Nat) : Int)), (0, v1), (9, 0)] [] (M, T) (fun r2 σ2 => r2 = some (0, y.1) ∧ σ2 = (y.2, T) ∧ Sh T.1 y.2) := by
    intro d hd
    rw [f_X13_netAt] at h
    refine y_blk (t := 0) rfl (show fnd bk_X13_netAt 0 = some _ from rfl) aB_X13_netAt ?_
    refine wp_aload_n (v := ((138 : Nat) : Int)) rfl (Int.natCast_nonneg _) ?_
    refine wp_iconst ⟨by decide, by decide⟩ ?_
    refine y_put (show ash 138 = (13, 38) from rfl) (Nat.lt_of_lt_of_le (show 138 < 154 by decide) hS.1.1) rfl ?_
    obtain ⟨m1, em1, h⟩ := d_bind h
    have em1 := Option.some.inj em1
    have s2 : Sh T.1 m1 := em1 ▸ hS.up (Or.inr ⟨by rw [(show ash 138 = (13, 38) from rfl)]; decide, by rw [(show ash 138 = (13, 38) from rfl)]; decide⟩) (by have := (Nat.lt_of_lt_of_le (show 138 < 154 by decide) hS.1.1); have := hS.1.2; omega)
    rw [em1]
    refine wp_aload_n (v := ((138 : Nat) : Int)) rfl (Int.natCast_nonneg _) ?_
    refine y_get (show ash 138 = (13, 38) from rfl) (Nat.lt_of_lt_of_le (show 138 < 154 by decide) hS.1.1) (v := m1 138 3) rfl rfl ?_
    refine wp_ifnull (fun c3 => ?_) (fun c3 => ?_)
    · rw [if_pos c3] at h
      refine y_blk (t := 16) rfl (show fnd bk_X13_netAt 16 = some _ from rfl) aB_X13_netAt ?_
      refine wp_aload_n (v := ((138 : Nat) : Int)) rfl (Int.natCast_nonneg _) ?_
      refine wp_iconst ⟨by decide, by decide⟩ ?_
      obtain ⟨x4, e5, h⟩ := d_bind h
      obtain ⟨r6, s7⟩ := t_X13_refused s2 e5
      refine y_callV (as := [(0, 1)]) (S1 := []) (Nat.le_of_ble_eq_true rfl) (by omega) r6 (Nat.le_of_ble_eq_true rfl) rfl (show ash 138 = (13, 38) from rfl) (Nat.lt_of_lt_of_le (show 138 < 154 by decide) hS.1.1) (Nat.le_of_ble_eq_true rfl) (Nat.le_of_ble_eq_true rfl) rfl ?_
      cases h
      exact y_ret0 (Or.inl rfl) ⟨rfl, rfl, s7⟩
    · rw [if_neg c3] at h
      refine wp_iload_n (v := v1) rfl ?_
      refine wp_if_ge (fun c8 => ?_) (fun c8 => ?_)
      · rw [if_pos c8] at h
        refine y_blk (t := 22) rfl (show fnd bk_X13_netAt 22 = some _ from rfl) aB_X13_netAt ?_
        refine wp_aload_n (v := ((138 : Nat) : Int)) rfl (Int.natCast_nonneg _) ?_
        refine wp_iload_n (v := v1) rfl ?_
        obtain ⟨x9, e10, h⟩ := d_bind h
        obtain ⟨r11, s12⟩ := t_X13_netting s2 e10
        refine y_callV (as := [(0, v1)]) (S1 := []) (Nat.le_of_ble_eq_true rfl) (by omega) r11 (Nat.le_of_ble_eq_true rfl) rfl (show ash 138 = (13, 38) from rfl) (Nat.lt_of_lt_of_le (show 138 < 154 by decide) hS.1.1) (Nat.le_of_ble_eq_true rfl) (Nat.le_of_ble_eq_true rfl) rfl ?_
        refine y_stn (L1 := [(2, ((138 : Nat) : Int)), (0, v1), (0, x9.1)]) (Nat.le_of_ble_eq_true rfl) rfl ?_
        refine wp_iload_n (v := x9.1) rfl ?_
        refine wp_iconst ⟨by decide, by decide⟩ ?_
        refine y_ne (fun c13 => ?_) (fun c13 => ?_)
        · rw [if_neg c13] at h
          refine y_blk (t := 41) rfl (show fnd bk_X13_netAt 41 = some _ from rfl) aB_X13_netAt ?_
          refine wp_aload_n (v := ((138 : Nat) : Int)) rfl (Int.natCast_nonneg _) ?_
          refine wp_iload_n (v := x9.1) rfl ?_
          obtain ⟨x14, e15, h⟩ := d_bind h
          obtain ⟨r16, s17⟩ := t_X13_good s12 e15
          refine y_callV (as := [(0, x9.1)]) (S1 := []) (Nat.le_of_ble_eq_true rfl) (by omega) r16 (Nat.le_of_ble_eq_true rfl) rfl (show ash 138 = (13, 38) from rfl) (Nat.lt_of_lt_of_le (show 138 < 154 by decide) hS.1.1) (Nat.le_of_ble_eq_true rfl) (Nat.le_of_ble_eq_true rfl) rfl ?_
          refine y_blk (t := 46) rfl (show fnd bk_X13_netAt 46 = some _ from rfl) aB_X13_netAt ?_
          cases h
          exact y_ret0 (Or.inl rfl) ⟨rfl, rfl, s17⟩
        · rw [if_pos c13] at h
          refine wp_aload_n (v := ((138 : Nat) : Int)) rfl (Int.natCast_nonneg _) ?_
          refine wp_iconst ⟨by decide, by decide⟩ ?_
          obtain ⟨x18, e19, h⟩ := d_bind h
          obtain ⟨r20, s21⟩ := t_X13_refused s12 e19
          refine y_callV (as := [(0, 1)]) (S1 := []) (Nat.le_of_ble_eq_true rfl) (by omega) r20 (Nat.le_of_ble_eq_true rfl) rfl (show ash 138 = (13, 38) from rfl) (Nat.lt_of_lt_of_le (show 138 < 154 by decide) hS.1.1) (Nat.le_of_ble_eq_true rfl) (Nat.le_of_ble_eq_true rfl) rfl ?_
          refine wp_goto ?_
          refine y_blk (t := 46) rfl (show fnd bk_X13_netAt 46 = some _ from rfl) aB_X13_netAt ?_
          cases h
          exact y_ret0 (Or.inl rfl) ⟨rfl, rfl, s21⟩
      · rw [if_neg c8] at h
        refine y_blk (t := 16) rfl (show fnd bk_X13_netAt 16 = some _ from rfl) aB_X13_netAt ?_
        refine wp_aload_n (v := ((138 : Nat) : Int)) rfl (Int.natCast_nonneg _) ?_
        refine wp_iconst ⟨by decide, by decide⟩ ?_
        obtain ⟨x22, e23, h⟩ := d_bind h
        obtain ⟨r24, s25⟩ := t_X13_refused s2 e23
        refine y_callV (as := [(0, 1)]) (S1 := []) (Nat.le_of_ble_eq_true rfl) (by omega) r24 (Nat.le_of_ble_eq_true rfl) rfl (show ash 138 = (13, 38) from rfl) (Nat.lt_of_lt_of_le (show 138 < 154 by decide) hS.1.1) (Nat.le_of_ble_eq_true rfl) (Nat.le_of_ble_eq_true rfl) rfl ?_
        cases h
        exact y_ret0 (Or.inl rfl) ⟨rfl, rfl, s25⟩
  exact ⟨fun d hd => Ms.of3 (key d hd), Ms.sh (key 3 (Nat.le_refl _))⟩
theorem aB_X13_dryBy : ∀ pc, aB 300 pc = fnd bk_X13_dryBy pc := fun _ => rfl
def f_X13_dryBy (T : Nat) (v1 : Int) (M : aM) : Option (Int × aM) :=
 (some (aup M 138 0 0)).bind fun m1 =>
 if m1 138 3 < 0 then
 (f_X13_refused T 1 m1).bind fun x4 =>
 some (x4.1, x4.2) else
 if v1 < 0 then
 (f_X13_refused T 1 m1).bind fun x9 =>
 some (x9.1, x9.2) else
 if okW T (m1 138 3) then
 if v1 < (m1 (m1 138 3).toNat 10) then
 (f_X13_netting T (-1) m1).bind fun x15 =>
 if 0 ≤ v1 ∧ v1 < 4 then
 (f_X13_good T (x15.2 151 (v1).toNat) x15.2).bind fun x20 =>
 some (x20.1, x20.2) else none else
 (f_X13_refused T 1 m1).bind fun x24 =>
 some (x24.1, x24.2) else none
theorem t_X13_dryBy {T : T3} {v1 : Int} {M : aM} {y : (Int × aM)}  (hS : Sh T.1 M) (h : f_X13_dryBy T.1 v1 M = some y) : Mr 3 300 [(2, ((138 : Nat) : Int)), (0, v1)] M (some (0, y.1)) y.2 T ∧ Sh T.1 y.2 := by
  have key : ∀ d, 3 ≤ d → Wp d 300 0 [] [(2, ((138 : Nat) : Int)), (0, v1)] [] (M, T) (fun r2 σ2 => r2 = some (0, y.1) ∧ σ2 = (y.2, T) ∧ Sh T.1 y.2) := by
    intro d hd
    rw [f_X13_dryBy] at h
    refine y_blk (t := 0) rfl (show fnd bk_X13_dryBy 0 = some _ from rfl) aB_X13_dryBy ?_
    refine wp_aload_n (v := ((138 : Nat) : Int)) rfl (Int.natCast_nonneg _) ?_
    refine wp_iconst ⟨by decide, by decide⟩ ?_
    refine y_put (show ash 138 = (13, 38) from rfl) (Nat.lt_of_lt_of_le (show 138 < 154 by decide) hS.1.1) rfl ?_
    obtain ⟨m1, em1, h⟩ := d_bind h
    have em1 := Option.some.inj em1
    have s2 : Sh T.1 m1 := em1 ▸ hS.up (Or.inr ⟨by rw [(show ash 138 = (13, 38) from rfl)]; decide, by rw [(show ash 138 = (13, 38) from rfl)]; decide⟩) (by have := (Nat.lt_of_lt_of_le (show 138 < 154 by decide) hS.1.1); have := hS.1.2; omega)
    rw [em1]
    refine wp_aload_n (v := ((138 : Nat) : Int)) rfl (Int.natCast_nonneg _) ?_
    refine y_get (show ash 138 = (13, 38) from rfl) (Nat.lt_of_lt_of_le (show 138 < 154 by decide) hS.1.1) (v := m1 138 3) rfl rfl ?_
    refine wp_ifnull (fun c3 => ?_) (fun c3 => ?_)
    · rw [if_pos c3] at h
      refine y_blk (t := 27) rfl (show fnd bk_X13_dryBy 27 = some _ from rfl) aB_X13_dryBy ?_
      refine wp_aload_n (v := ((138 : Nat) : Int)) rfl (Int.natCast_nonneg _) ?_
      refine wp_iconst ⟨by decide, by decide⟩ ?_
      obtain ⟨x4, e5, h⟩ := d_bind h
      obtain ⟨r6, s7⟩ := t_X13_refused s2 e5
      refine y_callV (as := [(0, 1)]) (S1 := []) (Nat.le_of_ble_eq_true rfl) (by omega) r6 (Nat.le_of_ble_eq_true rfl) rfl (show ash 138 = (13, 38) from rfl) (Nat.lt_of_lt_of_le (show 138 < 154 by decide) hS.1.1) (Nat.le_of_ble_eq_true rfl) (Nat.le_of_ble_eq_true rfl) rfl ?_
      cases h
      exact y_ret0 (Or.inl rfl) ⟨rfl, rfl, s7⟩
    · rw [if_neg c3] at h
      refine wp_iload_n (v := v1) rfl ?_
      refine wp_if_lt (fun c8 => ?_) (fun c8 => ?_)
      · rw [if_pos c8] at h
        refine y_blk (t := 27) rfl (show fnd bk_X13_dryBy 27 = some _ from rfl) aB_X13_dryBy ?_
        refine wp_aload_n (v := ((138 : Nat) : Int)) rfl (Int.natCast_nonneg _) ?_
        refine wp_iconst ⟨by decide, by decide⟩ ?_
        obtain ⟨x9, e10, h⟩ := d_bind h
        obtain ⟨r11, s12⟩ := t_X13_refused s2 e10
        refine y_callV (as := [(0, 1)]) (S1 := []) (Nat.le_of_ble_eq_true rfl) (by omega) r11 (Nat.le_of_ble_eq_true rfl) rfl (show ash 138 = (13, 38) from rfl) (Nat.lt_of_lt_of_le (show 138 < 154 by decide) hS.1.1) (Nat.le_of_ble_eq_true rfl) (Nat.le_of_ble_eq_true rfl) rfl ?_
        cases h
        exact y_ret0 (Or.inl rfl) ⟨rfl, rfl, s12⟩
      · rw [if_neg c8] at h
        refine wp_iload_n (v := v1) rfl ?_
        refine wp_aload_n (v := ((138 : Nat) : Int)) rfl (Int.natCast_nonneg _) ?_
        obtain ⟨c13, h⟩ := d_ite h
        refine y_get (show ash 138 = (13, 38) from rfl) (Nat.lt_of_lt_of_le (show 138 < 154 by decide) hS.1.1) (v := (((m1 138 3).toNat : Nat) : Int)) c13.eq rfl ?_
        refine y_get (aW0 hS.1.2 c13.is) (ltW c13.is 0 (by decide)) (v := m1 (m1 138 3).toNat 10) rfl rfl ?_
        refine wp_icmp_lt (fun c14 => ?_) (fun c14 => ?_)
        · rw [if_pos c14] at h
          refine y_blk (t := 33) rfl (show fnd bk_X13_dryBy 33 = some _ from rfl) aB_X13_dryBy ?_
          refine wp_aload_n (v := ((138 : Nat) : Int)) rfl (Int.natCast_nonneg _) ?_
          refine wp_iconst ⟨by decide, by decide⟩ ?_
          obtain ⟨x15, e16, h⟩ := d_bind h
          obtain ⟨r17, s18⟩ := t_X13_netting s2 e16
          refine y_callV (as := [(0, (-1))]) (S1 := []) (Nat.le_of_ble_eq_true rfl) (by omega) r17 (Nat.le_of_ble_eq_true rfl) rfl (show ash 138 = (13, 38) from rfl) (Nat.lt_of_lt_of_le (show 138 < 154 by decide) hS.1.1) (Nat.le_of_ble_eq_true rfl) (Nat.le_of_ble_eq_true rfl) rfl ?_
          refine wp_pop (Or.inl rfl) ?_
          refine wp_aload_n (v := ((138 : Nat) : Int)) rfl (Int.natCast_nonneg _) ?_
          refine wp_aload_n (v := ((138 : Nat) : Int)) rfl (Int.natCast_nonneg _) ?_
          refine y_get (show ash 138 = (13, 38) from rfl) (Nat.lt_of_lt_of_le (show 138 < 154 by decide) hS.1.1) (v := ((151 : Nat) : Int)) (s18.at 138 34 151 (by decide +kernel)) rfl ?_
          refine wp_iload_n (v := v1) rfl ?_
          obtain ⟨c19, h⟩ := d_ite h
          refine y_iald (show ash 151 = (100, 4) from rfl) (Or.inl (Nat.lt_of_lt_of_le (show 151 < 154 by decide) hS.1.1)) (Nat.ne_of_lt (Nat.lt_of_lt_of_le (Nat.lt_of_lt_of_le (show 151 < 154 by decide) hS.1.1) hS.1.2)) c19 (v := x15.2 151 (v1).toNat) rfl ?_
          obtain ⟨x20, e21, h⟩ := d_bind h
          obtain ⟨r22, s23⟩ := t_X13_good s18 e21
          refine y_callV (as := [(0, (x15.2 151 (v1).toNat))]) (S1 := []) (Nat.le_of_ble_eq_true rfl) (by omega) r22 (Nat.le_of_ble_eq_true rfl) rfl (show ash 138 = (13, 38) from rfl) (Nat.lt_of_lt_of_le (show 138 < 154 by decide) hS.1.1) (Nat.le_of_ble_eq_true rfl) (Nat.le_of_ble_eq_true rfl) rfl ?_
          cases h
          exact y_ret0 (Or.inl rfl) ⟨rfl, rfl, s23⟩
        · rw [if_neg c14] at h
          refine y_blk (t := 27) rfl (show fnd bk_X13_dryBy 27 = some _ from rfl) aB_X13_dryBy ?_
          refine wp_aload_n (v := ((138 : Nat) : Int)) rfl (Int.natCast_nonneg _) ?_
          refine wp_iconst ⟨by decide, by decide⟩ ?_
          obtain ⟨x24, e25, h⟩ := d_bind h
          obtain ⟨r26, s27⟩ := t_X13_refused s2 e25
          refine y_callV (as := [(0, 1)]) (S1 := []) (Nat.le_of_ble_eq_true rfl) (by omega) r26 (Nat.le_of_ble_eq_true rfl) rfl (show ash 138 = (13, 38) from rfl) (Nat.lt_of_lt_of_le (show 138 < 154 by decide) hS.1.1) (Nat.le_of_ble_eq_true rfl) (Nat.le_of_ble_eq_true rfl) rfl ?_
          cases h
          exact y_ret0 (Or.inl rfl) ⟨rfl, rfl, s27⟩
  exact ⟨fun d hd => Ms.of3 (key d hd), Ms.sh (key 3 (Nat.le_refl _))⟩
theorem aB_X13_liar : ∀ pc, aB 301 pc = fnd bk_X13_liar pc := fun _ => rfl
def f_X13_liar (T : Nat)  (M : aM) : Option (Int × aM) :=
 (some (aup M 138 0 0)).bind fun m1 =>
 if m1 138 3 < 0 then
 (f_X13_refused T 1 m1).bind fun x15 =>
 some (x15.1, x15.2) else
 if okW T (m1 138 3) then
 (f_X13_lays T (m1 (m1 138 3).toNat 6) (-1) m1).bind fun x5 =>
 (f_X13_wrongTalk T x5.2).bind fun x9 =>
 (f_X13_good T x9 x5.2).bind fun x11 =>
 some (x11.1, x11.2) else none
theorem t_X13_liar {T : T3}  {M : aM} {y : (Int × aM)}  (hS : Sh T.1 M) (h : f_X13_liar T.1  M = some y) : Mr 2 301 [(2, ((138 : Nat) : Int))] M (some (0, y.1)) y.2 T ∧ Sh T.1 y.2 := by
  have key : ∀ d, 2 ≤ d → Wp d 301 0 [] [(2, ((138 : Nat) : Int))] [] (M, T) (fun r2 σ2 => r2 = some (0, y.1) ∧ σ2 = (y.2, T) ∧ Sh T.1 y.2) := by
    intro d hd
    rw [f_X13_liar] at h
    refine y_blk (t := 0) rfl (show fnd bk_X13_liar 0 = some _ from rfl) aB_X13_liar ?_
    refine wp_aload_n (v := ((138 : Nat) : Int)) rfl (Int.natCast_nonneg _) ?_
    refine wp_iconst ⟨by decide, by decide⟩ ?_
    refine y_put (show ash 138 = (13, 38) from rfl) (Nat.lt_of_lt_of_le (show 138 < 154 by decide) hS.1.1) rfl ?_
    obtain ⟨m1, em1, h⟩ := d_bind h
    have em1 := Option.some.inj em1
    have s2 : Sh T.1 m1 := em1 ▸ hS.up (Or.inr ⟨by rw [(show ash 138 = (13, 38) from rfl)]; decide, by rw [(show ash 138 = (13, 38) from rfl)]; decide⟩) (by have := (Nat.lt_of_lt_of_le (show 138 < 154 by decide) hS.1.1); have := hS.1.2; omega)
    rw [em1]
    refine wp_aload_n (v := ((138 : Nat) : Int)) rfl (Int.natCast_nonneg _) ?_
    refine y_get (show ash 138 = (13, 38) from rfl) (Nat.lt_of_lt_of_le (show 138 < 154 by decide) hS.1.1) (v := m1 138 3) rfl rfl ?_
    refine wp_ifnonnull (fun c3 => ?_) (fun c3 => ?_)
    · rw [if_neg c3] at h
      refine y_blk (t := 18) rfl (show fnd bk_X13_liar 18 = some _ from rfl) aB_X13_liar ?_
      refine wp_aload_n (v := ((138 : Nat) : Int)) rfl (Int.natCast_nonneg _) ?_
      refine wp_aload_n (v := ((138 : Nat) : Int)) rfl (Int.natCast_nonneg _) ?_
      obtain ⟨c4, h⟩ := d_ite h
      refine y_get (show ash 138 = (13, 38) from rfl) (Nat.lt_of_lt_of_le (show 138 < 154 by decide) hS.1.1) (v := (((m1 138 3).toNat : Nat) : Int)) c4.eq rfl ?_
      refine y_get (aW0 hS.1.2 c4.is) (ltW c4.is 0 (by decide)) (v := m1 (m1 138 3).toNat 6) rfl rfl ?_
      refine wp_iconst ⟨by decide, by decide⟩ ?_
      obtain ⟨x5, e6, h⟩ := d_bind h
      obtain ⟨r7, s8⟩ := t_X13_lays s2 e6
      refine y_callVv (as := [(0, (m1 (m1 138 3).toNat 6)), (0, (-1))]) (S1 := []) (Nat.le_of_ble_eq_true rfl) (by omega) r7 rfl (show ash 138 = (13, 38) from rfl) (Nat.lt_of_lt_of_le (show 138 < 154 by decide) hS.1.1) (Nat.le_of_ble_eq_true rfl) (Nat.le_of_ble_eq_true rfl) rfl ?_
      refine wp_aload_n (v := ((138 : Nat) : Int)) rfl (Int.natCast_nonneg _) ?_
      refine wp_aload_n (v := ((138 : Nat) : Int)) rfl (Int.natCast_nonneg _) ?_
      obtain ⟨x9, e10, h⟩ := d_bind h
      refine y_callV (as := []) (S1 := [(2, ((138 : Nat) : Int))]) (Nat.le_of_ble_eq_true rfl) (by omega) (t_X13_wrongTalk s8 e10) (Nat.le_of_ble_eq_true rfl) rfl (show ash 138 = (13, 38) from rfl) (Nat.lt_of_lt_of_le (show 138 < 154 by decide) hS.1.1) (Nat.le_of_ble_eq_true rfl) (Nat.le_of_ble_eq_true rfl) rfl ?_
      obtain ⟨x11, e12, h⟩ := d_bind h
      obtain ⟨r13, s14⟩ := t_X13_good s8 e12
      refine y_callV (as := [(0, x9)]) (S1 := []) (Nat.le_of_ble_eq_true rfl) (by omega) r13 (Nat.le_of_ble_eq_true rfl) rfl (show ash 138 = (13, 38) from rfl) (Nat.lt_of_lt_of_le (show 138 < 154 by decide) hS.1.1) (Nat.le_of_ble_eq_true rfl) (Nat.le_of_ble_eq_true rfl) rfl ?_
      cases h
      exact y_ret0 (Or.inl rfl) ⟨rfl, rfl, s14⟩
    · rw [if_pos c3] at h
      refine wp_aload_n (v := ((138 : Nat) : Int)) rfl (Int.natCast_nonneg _) ?_
      refine wp_iconst ⟨by decide, by decide⟩ ?_
      obtain ⟨x15, e16, h⟩ := d_bind h
      obtain ⟨r17, s18⟩ := t_X13_refused s2 e16
      refine y_callV (as := [(0, 1)]) (S1 := []) (Nat.le_of_ble_eq_true rfl) (by omega) r17 (Nat.le_of_ble_eq_true rfl) rfl (show ash 138 = (13, 38) from rfl) (Nat.lt_of_lt_of_le (show 138 < 154 by decide) hS.1.1) (Nat.le_of_ble_eq_true rfl) (Nat.le_of_ble_eq_true rfl) rfl ?_
      cases h
      exact y_ret0 (Or.inl rfl) ⟨rfl, rfl, s18⟩
  exact ⟨fun d hd => Ms.of3 (key d hd), Ms.sh (key 2 (Nat.le_refl _))⟩
theorem aB_X13_mayGo : ∀ pc, aB 302 pc = fnd bk_X13_mayGo pc := fun _ => rfl
def f_X13_mayGo (T : Nat) (v1 : Int) (v2 : Int) (M : aM) : Option Int :=
 if v1 = v2 then
 some 1 else
 if 0 ≤ v1 ∧ v1 < 8 then
 (f_X13_bit T (M 145 (v1).toNat) v2 M).bind fun x3 =>
 if x3 = 0 then
 some 0 else
 some 1 else none
theorem t_X13_mayGo {T : T3} {v1 : Int} {v2 : Int} {M : aM} {y : Int}  (hS : Sh T.1 M) (h : f_X13_mayGo T.1 v1 v2 M = some y) : Mr 1 302 [(2, ((138 : Nat) : Int)), (0, v1), (0, v2)] M (some (0, y)) M T := by
  have key : ∀ d, 1 ≤ d → Wp d 302 0 [] [(2, ((138 : Nat) : Int)), (0, v1), (0, v2)] [] (M, T) (fun r2 σ2 => r2 = some (0, y) ∧ σ2 = (M, T)) := by
    intro d hd
    rw [f_X13_mayGo] at h
    refine y_blk (t := 0) rfl (show fnd bk_X13_mayGo 0 = some _ from rfl) aB_X13_mayGo ?_
    refine wp_iload_n (v := v1) rfl ?_
    refine wp_iload_n (v := v2) rfl ?_
    refine wp_icmp_eq (fun c1 => ?_) (fun c1 => ?_)
    · rw [if_pos c1] at h
      refine y_blk (t := 18) rfl (show fnd bk_X13_mayGo 18 = some _ from rfl) aB_X13_mayGo ?_
      refine wp_iconst ⟨by decide, by decide⟩ ?_
      refine wp_goto ?_
      refine y_blk (t := 23) rfl (show fnd bk_X13_mayGo 23 = some _ from rfl) aB_X13_mayGo ?_
      cases h
      exact y_ret0 (Or.inr (Or.inr rfl)) ⟨rfl, rfl⟩
    · rw [if_neg c1] at h
      refine wp_aload_n (v := ((138 : Nat) : Int)) rfl (Int.natCast_nonneg _) ?_
      refine y_get (show ash 138 = (13, 38) from rfl) (Nat.lt_of_lt_of_le (show 138 < 154 by decide) hS.1.1) (v := ((145 : Nat) : Int)) (hS.at 138 23 145 (by decide +kernel)) rfl ?_
      refine wp_iload_n (v := v1) rfl ?_
      obtain ⟨c2, h⟩ := d_ite h
      refine y_iald (show ash 145 = (100, 8) from rfl) (Or.inl (Nat.lt_of_lt_of_le (show 145 < 154 by decide) hS.1.1)) (Nat.ne_of_lt (Nat.lt_of_lt_of_le (Nat.lt_of_lt_of_le (show 145 < 154 by decide) hS.1.1) hS.1.2)) c2 (v := M 145 (v1).toNat) rfl ?_
      refine wp_iload_n (v := v2) rfl ?_
      obtain ⟨x3, e4, h⟩ := d_bind h
      refine y_callS (as := [(0, (M 145 (v1).toNat)), (0, v2)]) (S1 := []) (Nat.le_of_ble_eq_true rfl) (by omega) (t_X13_bit hS e4) (Nat.le_of_ble_eq_true rfl) rfl (Nat.le_of_ble_eq_true rfl) (Nat.le_of_ble_eq_true rfl) rfl ?_
      refine wp_if_eq (fun c5 => ?_) (fun c5 => ?_)
      · rw [if_pos c5] at h
        refine y_blk (t := 22) rfl (show fnd bk_X13_mayGo 22 = some _ from rfl) aB_X13_mayGo ?_
        refine wp_iconst ⟨by decide, by decide⟩ ?_
        refine y_blk (t := 23) rfl (show fnd bk_X13_mayGo 23 = some _ from rfl) aB_X13_mayGo ?_
        cases h
        exact y_ret0 (Or.inr (Or.inl rfl)) ⟨rfl, rfl⟩
      · rw [if_neg c5] at h
        refine y_blk (t := 18) rfl (show fnd bk_X13_mayGo 18 = some _ from rfl) aB_X13_mayGo ?_
        refine wp_iconst ⟨by decide, by decide⟩ ?_
        refine wp_goto ?_
        refine y_blk (t := 23) rfl (show fnd bk_X13_mayGo 23 = some _ from rfl) aB_X13_mayGo ?_
        cases h
        exact y_ret0 (Or.inr (Or.inr rfl)) ⟨rfl, rfl⟩
  exact fun d hd => Ms.of (key d hd)
theorem aB_X13_worst : ∀ pc, aB 303 pc = fnd bk_X13_worst pc := fun _ => rfl
def l_X13_worst_12 (T : Nat) (v1 : Int) (v2 : Int) (M : aM) (k : Int → Int → Option Int) : Nat → Int → Int → Option Int
| 0, _, _ => none
| n + 1, v3, v4 =>
 if okW T (M 138 3) then
 if (M (M 138 3).toNat 3) ≤ v4 then
 k v3 v4 else
 (f_X13_mayGo T v2 v4 M).bind fun x4 =>
 if x4 = 0 then
 if aIn (v4 + 1) then
 l_X13_worst_12 T v1 v2 M k n v3 (v4 + 1) else none else
 if aIn (8 * v1) then
 if aIn ((8 * v1) + v4) then
 if 0 ≤ ((8 * v1) + v4) ∧ ((8 * v1) + v4) < 64 then
 if (M 152 (((8 * v1) + v4)).toNat) ≤ v3 then
 if aIn (v4 + 1) then
 l_X13_worst_12 T v1 v2 M k n v3 (v4 + 1) else none else
 if aIn (v4 + 1) then
 l_X13_worst_12 T v1 v2 M k n (M 152 (((8 * v1) + v4)).toNat) (v4 + 1) else none else none else none else none else none
theorem tl_X13_worst_12 {d : Nat} (hd : 2 ≤ d) {T : T3} {v1 : Int} {v2 : Int} {M : aM} {k : Int → Int → Option Int} {y : Int}  (hS : Sh T.1 M)
    (hk : ∀ (v3 v4 : Int), Sh T.1 M → k v3 v4 = some y → Wp d 303 69 [] [(2, ((138 : Nat) : Int)), (0, v1), (0, v2), (0, v3), (0, v4)] [] (M, T) (fun r2 σ2 => r2 = some (0, y) ∧ σ2 = (M, T))) :
    ∀ (n : Nat) (v3 v4 : Int), Sh T.1 M → l_X13_worst_12 T.1 v1 v2 M k n v3 v4 = some y → Wp d 303 12 [] [(2, ((138 : Nat) : Int)), (0, v1), (0, v2), (0, v3), (0, v4)] [] (M, T) (fun r2 σ2 => r2 = some (0, y) ∧ σ2 = (M, T)) := by
  intro n
  induction n with
  | zero =>
    intro v3 v4 _ h
    exact nomatch (show (none : Option Int) = some y from h)
  | succ n ih =>
    intro v3 v4 sM h
    rw [l_X13_worst_12] at h
    refine y_blk (t := 12) rfl (show fnd bk_X13_worst 12 = some _ from rfl) aB_X13_worst ?_
    refine wp_iload (v := v4) rfl ?_
    refine wp_aload_n (v := ((138 : Nat) : Int)) rfl (Int.natCast_nonneg _) ?_
    obtain ⟨c2, h⟩ := d_ite h
    refine y_get (show ash 138 = (13, 38) from rfl) (Nat.lt_of_lt_of_le (show 138 < 154 by decide) hS.1.1) (v := (((M 138 3).toNat : Nat) : Int)) c2.eq rfl ?_
    refine y_get (aW0 hS.1.2 c2.is) (ltW c2.is 0 (by decide)) (v := M (M 138 3).toNat 3) rfl rfl ?_
    refine wp_icmp_ge (fun c3 => ?_) (fun c3 => ?_)
    · rw [if_pos c3] at h
      exact hk v3 v4   sM h
    · rw [if_neg c3] at h
      refine wp_aload_n (v := ((138 : Nat) : Int)) rfl (Int.natCast_nonneg _) ?_
      refine wp_iload_n (v := v2) rfl ?_
      refine wp_iload (v := v4) rfl ?_
      obtain ⟨x4, e5, h⟩ := d_bind h
      refine y_callV (as := [(0, v2), (0, v4)]) (S1 := []) (Nat.le_of_ble_eq_true rfl) (by omega) (t_X13_mayGo sM e5) (Nat.le_of_ble_eq_true rfl) rfl (show ash 138 = (13, 38) from rfl) (Nat.lt_of_lt_of_le (show 138 < 154 by decide) hS.1.1) (Nat.le_of_ble_eq_true rfl) (Nat.le_of_ble_eq_true rfl) rfl ?_
      refine wp_if_eq (fun c6 => ?_) (fun c6 => ?_)
      · rw [if_pos c6] at h
        refine y_blk (t := 63) rfl (show fnd bk_X13_worst 63 = some _ from rfl) aB_X13_worst ?_
        obtain ⟨c7, h⟩ := d_ite h
        refine y_iinc (L1 := [(2, ((138 : Nat) : Int)), (0, v1), (0, v2), (0, v3), (0, (v4 + 1))]) rfl (Nat.le_of_ble_eq_true rfl) ⟨by decide, by decide⟩ c7 rfl ?_
        refine wp_goto ?_
        exact ih v3 (v4 + 1)   sM h
      · rw [if_neg c6] at h
        refine wp_aload_n (v := ((138 : Nat) : Int)) rfl (Int.natCast_nonneg _) ?_
        refine y_get (show ash 138 = (13, 38) from rfl) (Nat.lt_of_lt_of_le (show 138 < 154 by decide) hS.1.1) (v := ((152 : Nat) : Int)) (sM.at 138 35 152 (by decide +kernel)) rfl ?_
        refine wp_bipush (by decide) ?_
        refine wp_iload_n (v := v1) rfl ?_
        obtain ⟨c8, h⟩ := d_ite h
        refine wp_imul c8 ?_
        refine wp_iload (v := v4) rfl ?_
        obtain ⟨c9, h⟩ := d_ite h
        refine wp_iadd c9 ?_
        obtain ⟨c10, h⟩ := d_ite h
        refine y_iald (show ash 152 = (100, 64) from rfl) (Or.inl (Nat.lt_of_lt_of_le (show 152 < 154 by decide) hS.1.1)) (Nat.ne_of_lt (Nat.lt_of_lt_of_le (Nat.lt_of_lt_of_le (show 152 < 154 by decide) hS.1.1) hS.1.2)) c10 (v := M 152 (((8 * v1) + v4)).toNat) rfl ?_
        refine wp_iload_n (v := v3) rfl ?_
        refine wp_icmp_le (fun c11 => ?_) (fun c11 => ?_)
        · rw [if_pos c11] at h
          refine y_blk (t := 63) rfl (show fnd bk_X13_worst 63 = some _ from rfl) aB_X13_worst ?_
          obtain ⟨c12, h⟩ := d_ite h
          refine y_iinc (L1 := [(2, ((138 : Nat) : Int)), (0, v1), (0, v2), (0, v3), (0, (v4 + 1))]) rfl (Nat.le_of_ble_eq_true rfl) ⟨by decide, by decide⟩ c12 rfl ?_
          refine wp_goto ?_
          exact ih v3 (v4 + 1)   sM h
        · rw [if_neg c11] at h
          refine wp_aload_n (v := ((138 : Nat) : Int)) rfl (Int.natCast_nonneg _) ?_
          refine y_get (show ash 138 = (13, 38) from rfl) (Nat.lt_of_lt_of_le (show 138 < 154 by decide) hS.1.1) (v := ((152 : Nat) : Int)) (sM.at 138 35 152 (by decide +kernel)) rfl ?_
          refine wp_bipush (by decide) ?_
          refine wp_iload_n (v := v1) rfl ?_
          refine wp_imul c8 ?_
          refine wp_iload (v := v4) rfl ?_
          refine wp_iadd c9 ?_
          refine y_iald (show ash 152 = (100, 64) from rfl) (Or.inl (Nat.lt_of_lt_of_le (show 152 < 154 by decide) hS.1.1)) (Nat.ne_of_lt (Nat.lt_of_lt_of_le (Nat.lt_of_lt_of_le (show 152 < 154 by decide) hS.1.1) hS.1.2)) c10 (v := M 152 (((8 * v1) + v4)).toNat) rfl ?_
          refine y_stn (L1 := [(2, ((138 : Nat) : Int)), (0, v1), (0, v2), (0, (M 152 (((8 * v1) + v4)).toNat)), (0, v4)]) (Nat.le_of_ble_eq_true rfl) rfl ?_
          refine y_blk (t := 63) rfl (show fnd bk_X13_worst 63 = some _ from rfl) aB_X13_worst ?_
          obtain ⟨c13, h⟩ := d_ite h
          refine y_iinc (L1 := [(2, ((138 : Nat) : Int)), (0, v1), (0, v2), (0, (M 152 (((8 * v1) + v4)).toNat)), (0, (v4 + 1))]) rfl (Nat.le_of_ble_eq_true rfl) ⟨by decide, by decide⟩ c13 rfl ?_
          refine wp_goto ?_
          exact ih (M 152 (((8 * v1) + v4)).toNat) (v4 + 1)   sM h
def f_X13_worst (T : Nat) (v1 : Int) (v2 : Int) (M : aM) : Option Int :=
 if v1 = v2 then
 some 0 else
 l_X13_worst_12 T v1 v2 M (fun w14 w15 =>
 some w14) FU 0 0
theorem t_X13_worst {T : T3} {v1 : Int} {v2 : Int} {M : aM} {y : Int}  (hS : Sh T.1 M) (h : f_X13_worst T.1 v1 v2 M = some y) : Mr 2 303 [(2, ((138 : Nat) : Int)), (0, v1), (0, v2)] M (some (0, y)) M T := by
  have key : ∀ d, 2 ≤ d → Wp d 303 0 [] [(2, ((138 : Nat) : Int)), (0, v1), (0, v2), (9, 0), (9, 0)] [] (M, T) (fun r2 σ2 => r2 = some (0, y) ∧ σ2 = (M, T)) := by
    intro d hd
    rw [f_X13_worst] at h
    refine y_blk (t := 0) rfl (show fnd bk_X13_worst 0 = some _ from rfl) aB_X13_worst ?_
    refine wp_iload_n (v := v1) rfl ?_
    refine wp_iload_n (v := v2) rfl ?_
    refine y_ne (fun c1 => ?_) (fun c1 => ?_)
    · rw [if_neg c1] at h
      refine y_blk (t := 7) rfl (show fnd bk_X13_worst 7 = some _ from rfl) aB_X13_worst ?_
      refine wp_iconst ⟨by decide, by decide⟩ ?_
      refine y_stn (L1 := [(2, ((138 : Nat) : Int)), (0, v1), (0, v2), (0, 0), (9, 0)]) (Nat.le_of_ble_eq_true rfl) rfl ?_
      refine wp_iconst ⟨by decide, by decide⟩ ?_
      refine y_st (L1 := [(2, ((138 : Nat) : Int)), (0, v1), (0, v2), (0, 0), (0, 0)]) (Nat.le_of_ble_eq_true rfl) rfl ?_
      refine tl_X13_worst_12 (by omega) hS (fun w14 w15   s16 h => ?_) FU 0 0   hS h
      refine y_blk (t := 69) rfl (show fnd bk_X13_worst 69 = some _ from rfl) aB_X13_worst ?_
      refine wp_iload_n (v := w14) rfl ?_
      cases h
      exact y_ret0 (Or.inl rfl) ⟨rfl, rfl⟩
    · rw [if_pos c1] at h
      refine wp_iconst ⟨by decide, by decide⟩ ?_
      cases h
      exact y_ret0 (Or.inl rfl) ⟨rfl, rfl⟩
  exact fun d hd => Ms.of (key d hd)

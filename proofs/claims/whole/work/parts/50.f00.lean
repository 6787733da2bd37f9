/-! ===== methods as functions ===== -/
theorem aB_X11_hasBit : ∀ pc, aB 181 pc = fnd bk_X11_hasBit pc := fun _ => rfl
def f_X11_hasBit (T : Nat) (v0 : Int) (v1 : Int) (M : aM) : Option Int :=
 if (aand (ashr v0 v1) 1) = 1 then
 some 1 else
 some 0
theorem t_X11_hasBit {T : T3} {v0 : Int} {v1 : Int} {M : aM} {y : Int}  (hS : Sh T.1 M) (h : f_X11_hasBit T.1 v0 v1 M = some y) : Mr 0 181 [(0, v0), (0, v1)] M (some (0, y)) M T := by
  have key : ∀ d, 0 ≤ d → Wp d 181 0 [] [(0, v0), (0, v1)] [] (M, T) (fun r2 σ2 => r2 = some (0, y) ∧ σ2 = (M, T)) := by
    intro d hd
    rw [f_X11_hasBit] at h
    refine y_blk (t := 0) rfl (show fnd bk_X11_hasBit 0 = some _ from rfl) aB_X11_hasBit ?_
    refine wp_iload_n (v := v0) rfl ?_
    refine wp_iload_n (v := v1) rfl ?_
    refine wp_ishr ?_
    refine wp_iconst ⟨by decide, by decide⟩ ?_
    refine wp_iand ?_
    refine wp_iconst ⟨by decide, by decide⟩ ?_
    refine y_ne (fun c1 => ?_) (fun c1 => ?_)
    · rw [if_neg c1] at h
      refine y_blk (t := 13) rfl (show fnd bk_X11_hasBit 13 = some _ from rfl) aB_X11_hasBit ?_
      refine wp_iconst ⟨by decide, by decide⟩ ?_
      refine y_blk (t := 14) rfl (show fnd bk_X11_hasBit 14 = some _ from rfl) aB_X11_hasBit ?_
      cases h
      exact y_ret0 (Or.inr (Or.inl rfl)) ⟨rfl, rfl⟩
    · rw [if_pos c1] at h
      refine wp_iconst ⟨by decide, by decide⟩ ?_
      refine wp_goto ?_
      refine y_blk (t := 14) rfl (show fnd bk_X11_hasBit 14 = some _ from rfl) aB_X11_hasBit ?_
      cases h
      exact y_ret0 (Or.inr (Or.inr rfl)) ⟨rfl, rfl⟩
  exact fun d hd => Ms.of (key d hd)
theorem aB_X5_shortens : ∀ pc, aB 52 pc = fnd bk_X5_shortens pc := fun _ => rfl
def f_X5_shortens (T : Nat) (e0 : Nat) (v1 : Int) (v2 : Int) (v3 : Int) (M : aM) : Option (Int × aM) :=
 if 0 ≤ v1 ∧ v1 < 64 then
 if aIn ((M (e0 + 2) (v1).toNat) + v3) then
 if 0 ≤ v2 ∧ v2 < 64 then
 if (M (e0 + 2) (v2).toNat) ≤ ((M (e0 + 2) (v1).toNat) + v3) then
 if aIn ((M (e0 + 2) (v2).toNat) + v3) then
 if (M (e0 + 2) (v1).toNat) ≤ ((M (e0 + 2) (v2).toNat) + v3) then
 some (0, M) else
 (some (aup M (e0 + 2) (v1).toNat ((M (e0 + 2) (v2).toNat) + v3))).bind fun m7 =>
 some (1, m7) else none else
 (some (aup M (e0 + 2) (v2).toNat ((M (e0 + 2) (v1).toNat) + v3))).bind fun m9 =>
 some (1, m9) else none else none else none
theorem t_X5_shortens {T : T3} {e0 : Nat} {v1 : Int} {v2 : Int} {v3 : Int} {M : aM} {y : (Int × aM)} (he0 : isLand e0) (hS : Sh T.1 M) (h : f_X5_shortens T.1 e0 v1 v2 v3 M = some y) : Mr 0 52 [(2, ((e0 : Nat) : Int)), (0, v1), (0, v2), (0, v3)] M (some (0, y.1)) y.2 T ∧ Sh T.1 y.2 := by
  have key : ∀ d, 0 ≤ d → Wp d 52 0 [] [(2, ((e0 : Nat) : Int)), (0, v1), (0, v2), (0, v3)] [] (M, T) (fun r2 σ2 => r2 = some (0, y.1) ∧ σ2 = (y.2, T) ∧ Sh T.1 y.2) := by
    intro d hd
    rw [f_X5_shortens] at h
    refine y_blk (t := 0) rfl (show fnd bk_X5_shortens 0 = some _ from rfl) aB_X5_shortens ?_
    refine wp_aload_n (v := ((e0 : Nat) : Int)) rfl (Int.natCast_nonneg _) ?_
    refine y_get (aLand0 he0) (ltLand hS.1.1 he0 0 (by decide)) (v := (((e0 + 2) : Nat) : Int)) (rLand2 hS he0) rfl ?_
    refine wp_iload_n (v := v1) rfl ?_
    obtain ⟨c1, h⟩ := d_ite h
    refine y_iald (aLand2 he0) (Or.inl (ltLand hS.1.1 he0 2 (by decide))) (Nat.ne_of_lt (Nat.lt_of_lt_of_le (ltLand hS.1.1 he0 2 (by decide)) hS.1.2)) c1 (v := M (e0 + 2) (v1).toNat) rfl ?_
    refine wp_iload_n (v := v3) rfl ?_
    obtain ⟨c2, h⟩ := d_ite h
    refine wp_iadd c2 ?_
    refine wp_aload_n (v := ((e0 : Nat) : Int)) rfl (Int.natCast_nonneg _) ?_
    refine y_get (aLand0 he0) (ltLand hS.1.1 he0 0 (by decide)) (v := (((e0 + 2) : Nat) : Int)) (rLand2 hS he0) rfl ?_
    refine wp_iload_n (v := v2) rfl ?_
    obtain ⟨c3, h⟩ := d_ite h
    refine y_iald (aLand2 he0) (Or.inl (ltLand hS.1.1 he0 2 (by decide))) (Nat.ne_of_lt (Nat.lt_of_lt_of_le (ltLand hS.1.1 he0 2 (by decide)) hS.1.2)) c3 (v := M (e0 + 2) (v2).toNat) rfl ?_
    refine wp_icmp_ge (fun c4 => ?_) (fun c4 => ?_)
    · rw [if_pos c4] at h
      refine y_blk (t := 33) rfl (show fnd bk_X5_shortens 33 = some _ from rfl) aB_X5_shortens ?_
      refine wp_aload_n (v := ((e0 : Nat) : Int)) rfl (Int.natCast_nonneg _) ?_
      refine y_get (aLand0 he0) (ltLand hS.1.1 he0 0 (by decide)) (v := (((e0 + 2) : Nat) : Int)) (rLand2 hS he0) rfl ?_
      refine wp_iload_n (v := v2) rfl ?_
      refine y_iald (aLand2 he0) (Or.inl (ltLand hS.1.1 he0 2 (by decide))) (Nat.ne_of_lt (Nat.lt_of_lt_of_le (ltLand hS.1.1 he0 2 (by decide)) hS.1.2)) c3 (v := M (e0 + 2) (v2).toNat) rfl ?_
      refine wp_iload_n (v := v3) rfl ?_
      obtain ⟨c5, h⟩ := d_ite h
      refine wp_iadd c5 ?_
      refine wp_aload_n (v := ((e0 : Nat) : Int)) rfl (Int.natCast_nonneg _) ?_
      refine y_get (aLand0 he0) (ltLand hS.1.1 he0 0 (by decide)) (v := (((e0 + 2) : Nat) : Int)) (rLand2 hS he0) rfl ?_
      refine wp_iload_n (v := v1) rfl ?_
      refine y_iald (aLand2 he0) (Or.inl (ltLand hS.1.1 he0 2 (by decide))) (Nat.ne_of_lt (Nat.lt_of_lt_of_le (ltLand hS.1.1 he0 2 (by decide)) hS.1.2)) c1 (v := M (e0 + 2) (v1).toNat) rfl ?_
      refine wp_icmp_ge (fun c6 => ?_) (fun c6 => ?_)
      · rw [if_pos c6] at h
        refine y_blk (t := 66) rfl (show fnd bk_X5_shortens 66 = some _ from rfl) aB_X5_shortens ?_
        refine wp_iconst ⟨by decide, by decide⟩ ?_
        cases h
        exact y_ret0 (Or.inr (Or.inl rfl)) ⟨rfl, rfl, hS⟩
      · rw [if_neg c6] at h
        refine wp_aload_n (v := ((e0 : Nat) : Int)) rfl (Int.natCast_nonneg _) ?_
        refine y_get (aLand0 he0) (ltLand hS.1.1 he0 0 (by decide)) (v := (((e0 + 2) : Nat) : Int)) (rLand2 hS he0) rfl ?_
        refine wp_iload_n (v := v1) rfl ?_
        refine wp_aload_n (v := ((e0 : Nat) : Int)) rfl (Int.natCast_nonneg _) ?_
        refine y_get (aLand0 he0) (ltLand hS.1.1 he0 0 (by decide)) (v := (((e0 + 2) : Nat) : Int)) (rLand2 hS he0) rfl ?_
        refine wp_iload_n (v := v2) rfl ?_
        refine y_iald (aLand2 he0) (Or.inl (ltLand hS.1.1 he0 2 (by decide))) (Nat.ne_of_lt (Nat.lt_of_lt_of_le (ltLand hS.1.1 he0 2 (by decide)) hS.1.2)) c3 (v := M (e0 + 2) (v2).toNat) rfl ?_
        refine wp_iload_n (v := v3) rfl ?_
        refine wp_iadd c5 ?_
        refine y_iast (aLand2 he0) (ltLand hS.1.1 he0 2 (by decide)) c1 ?_
        obtain ⟨m7, em7, h⟩ := d_bind h
        have em7 := Option.some.inj em7
        have s8 : Sh T.1 m7 := em7 ▸ hS.up (Or.inl ⟨by rw [(aLand2 he0)]; exact Nat.le_of_ble_eq_true rfl, by rw [(aLand2 he0)]; exact Nat.le_of_ble_eq_true rfl⟩) (by have := (ltLand hS.1.1 he0 2 (by decide)); have := hS.1.2; omega)
        rw [em7]
        refine wp_iconst ⟨by decide, by decide⟩ ?_
        cases h
        exact y_ret0 (Or.inr (Or.inr rfl)) ⟨rfl, rfl, s8⟩
    · rw [if_neg c4] at h
      refine wp_aload_n (v := ((e0 : Nat) : Int)) rfl (Int.natCast_nonneg _) ?_
      refine y_get (aLand0 he0) (ltLand hS.1.1 he0 0 (by decide)) (v := (((e0 + 2) : Nat) : Int)) (rLand2 hS he0) rfl ?_
      refine wp_iload_n (v := v2) rfl ?_
      refine wp_aload_n (v := ((e0 : Nat) : Int)) rfl (Int.natCast_nonneg _) ?_
      refine y_get (aLand0 he0) (ltLand hS.1.1 he0 0 (by decide)) (v := (((e0 + 2) : Nat) : Int)) (rLand2 hS he0) rfl ?_
      refine wp_iload_n (v := v1) rfl ?_
      refine y_iald (aLand2 he0) (Or.inl (ltLand hS.1.1 he0 2 (by decide))) (Nat.ne_of_lt (Nat.lt_of_lt_of_le (ltLand hS.1.1 he0 2 (by decide)) hS.1.2)) c1 (v := M (e0 + 2) (v1).toNat) rfl ?_
      refine wp_iload_n (v := v3) rfl ?_
      refine wp_iadd c2 ?_
      refine y_iast (aLand2 he0) (ltLand hS.1.1 he0 2 (by decide)) c3 ?_
      obtain ⟨m9, em9, h⟩ := d_bind h
      have em9 := Option.some.inj em9
      have s10 : Sh T.1 m9 := em9 ▸ hS.up (Or.inl ⟨by rw [(aLand2 he0)]; exact Nat.le_of_ble_eq_true rfl, by rw [(aLand2 he0)]; exact Nat.le_of_ble_eq_true rfl⟩) (by have := (ltLand hS.1.1 he0 2 (by decide)); have := hS.1.2; omega)
      rw [em9]
      refine wp_iconst ⟨by decide, by decide⟩ ?_
      cases h
      exact y_ret0 (Or.inr (Or.inr rfl)) ⟨rfl, rfl, s10⟩
  exact ⟨fun d hd => Ms.of3 (key d hd), Ms.sh (key 0 (Nat.le_refl _))⟩
theorem aB_X5_measure : ∀ pc, aB 51 pc = fnd bk_X5_measure pc := fun _ => rfl
def l_X5_measure_7 (T : Nat) (e0 : Nat) (v1 : Int) (v2 : Int) (k : Int → aM → Option (Int × aM)) : Nat → Int → aM → Option (Int × aM)
  | 0, _, _ => none
  | n + 1, v3, M =>
 if 8 ≤ v3 then
 k v3 M else
 if aIn (v2 + v3) then
 if 0 ≤ (v2 + v3) ∧ (v2 + v3) < 64 then
 (some (aup M (e0 + 2) ((v2 + v3)).toNat 1000000)).bind fun m5 =>
 if aIn (v3 + 1) then
 l_X5_measure_7 T e0 v1 v2 k n (v3 + 1) m5 else none else none else none
theorem tl_X5_measure_7 {d : Nat} (hd : 1 ≤ d) {T : T3} {e0 : Nat} {v1 : Int} {v2 : Int} {k : Int → aM → Option (Int × aM)} {y : (Int × aM)} (he0 : isLand e0) {M0 : aM} (hS : Sh T.1 M0)
    (hk : ∀ (v3 : Int) (u4 u5 : aV) (M : aM), Sh T.1 M → k v3 M = some y → Wp d 51 29 [] [(2, ((e0 : Nat) : Int)), (0, v1), (0, v2), (0, v3), u4, u5] [] (M, T) (fun r2 σ2 => r2 = none ∧ σ2 = (y.2, T) ∧ Sh T.1 y.2)) :
    ∀ (n : Nat) (v3 : Int) (u4 u5 : aV) (M : aM), Sh T.1 M → l_X5_measure_7 T.1 e0 v1 v2 k n v3 M = some y → Wp d 51 7 [] [(2, ((e0 : Nat) : Int)), (0, v1), (0, v2), (0, v3), u4, u5] [] (M, T) (fun r2 σ2 => r2 = none ∧ σ2 = (y.2, T) ∧ Sh T.1 y.2) := by
  intro n
  induction n with
  | zero =>
    intro v3 u4 u5 M _ h
    exact nomatch (show (none : Option (Int × aM)) = some y from h)
  | succ n ih =>
    intro v3 u4 u5 M sM h
    rw [l_X5_measure_7] at h
    refine y_blk (t := 7) rfl (show fnd bk_X5_measure 7 = some _ from rfl) aB_X5_measure ?_
    refine wp_iload_n (v := v3) rfl ?_
    refine wp_bipush (by decide) ?_
    refine wp_icmp_ge (fun c2 => ?_) (fun c2 => ?_)
    · rw [if_pos c2] at h
      exact hk v3 u4 u5 M sM h
    · rw [if_neg c2] at h
      refine wp_aload_n (v := ((e0 : Nat) : Int)) rfl (Int.natCast_nonneg _) ?_
      refine y_get (aLand0 he0) (ltLand hS.1.1 he0 0 (by decide)) (v := (((e0 + 2) : Nat) : Int)) (rLand2 sM he0) rfl ?_
      refine wp_iload_n (v := v2) rfl ?_
      refine wp_iload_n (v := v3) rfl ?_
      obtain ⟨c3, h⟩ := d_ite h
      refine wp_iadd c3 ?_
      refine wp_ldc (by decide) ?_
      obtain ⟨c4, h⟩ := d_ite h
      refine y_iast (aLand2 he0) (ltLand hS.1.1 he0 2 (by decide)) c4 ?_
      obtain ⟨m5, em5, h⟩ := d_bind h
      have em5 := Option.some.inj em5
      have s6 : Sh T.1 m5 := em5 ▸ sM.up (Or.inl ⟨by rw [(aLand2 he0)]; exact Nat.le_of_ble_eq_true rfl, by rw [(aLand2 he0)]; exact Nat.le_of_ble_eq_true rfl⟩) (by have := (ltLand hS.1.1 he0 2 (by decide)); have := hS.1.2; omega)
      rw [em5]
      obtain ⟨c7, h⟩ := d_ite h
      refine y_iinc (L1 := [(2, ((e0 : Nat) : Int)), (0, v1), (0, v2), (0, (v3 + 1)), u4, u5]) rfl (Nat.le_of_ble_eq_true rfl) ⟨by decide, by decide⟩ c7 rfl ?_
      refine wp_goto ?_
      exact ih (v3 + 1) u4 u5 m5 s6 h
def l_X5_measure_59 (T : Nat) (e0 : Nat) (v2 : Int) (v4 : Int) (k : Int → Int → aM → Option (Int × aM)) : Nat → Int → Int → aM → Option (Int × aM)
  | 0, _, _, _ => none
  | n + 1, v3, v5, M =>
 if (M 3 2) ≤ v5 then
 k v3 v5 M else
 (f_X11_hasBit T (M e0 3) v5 M).bind fun x20 =>
 if x20 = 0 then
 if 0 ≤ v5 ∧ v5 < 10 then
 if aIn (v2 + (M 4 (v5).toNat)) then
 if aIn (v2 + (M 5 (v5).toNat)) then
 (f_X5_shortens T e0 (v2 + (M 4 (v5).toNat)) (v2 + (M 5 (v5).toNat)) (M 6 (v5).toNat) M).bind fun x27 =>
 if x27.1 = 0 then
 if aIn (v5 + 1) then
 l_X5_measure_59 T e0 v2 v4 k n v3 (v5 + 1) x27.2 else none else
 if aIn (v5 + 1) then
 l_X5_measure_59 T e0 v2 v4 k n 1 (v5 + 1) x27.2 else none else none else none else none else
 if aIn (v5 + 1) then
 l_X5_measure_59 T e0 v2 v4 k n v3 (v5 + 1) M else none
theorem tl_X5_measure_59 {d : Nat} (hd : 1 ≤ d) {T : T3} {e0 : Nat} {v2 : Int} {v4 : Int} {k : Int → Int → aM → Option (Int × aM)} {y : (Int × aM)} (he0 : isLand e0) {M0 : aM} (hS : Sh T.1 M0)
    (hk : ∀ (v3 v5 : Int) (u1 : aV) (M : aM), Sh T.1 M → k v3 v5 M = some y → Wp d 51 134 [] [(2, ((e0 : Nat) : Int)), u1, (0, v2), (0, v3), (0, v4), (0, v5)] [] (M, T) (fun r2 σ2 => r2 = none ∧ σ2 = (y.2, T) ∧ Sh T.1 y.2)) :
    ∀ (n : Nat) (v3 v5 : Int) (u1 : aV) (M : aM), Sh T.1 M → l_X5_measure_59 T.1 e0 v2 v4 k n v3 v5 M = some y → Wp d 51 59 [] [(2, ((e0 : Nat) : Int)), u1, (0, v2), (0, v3), (0, v4), (0, v5)] [] (M, T) (fun r2 σ2 => r2 = none ∧ σ2 = (y.2, T) ∧ Sh T.1 y.2) := by
  intro n
  induction n with
  | zero =>
    intro v3 v5 u1 M _ h
    exact nomatch (show (none : Option (Int × aM)) = some y from h)
  | succ n ih =>
    intro v3 v5 u1 M sM h
    rw [l_X5_measure_59] at h
    refine y_blk (t := 59) rfl (show fnd bk_X5_measure 59 = some _ from rfl) aB_X5_measure ?_
    refine wp_iload (v := v5) rfl ?_
    refine wp_aload_n (v := ((e0 : Nat) : Int)) rfl (Int.natCast_nonneg _) ?_
    refine y_get (aLand0 he0) (ltLand hS.1.1 he0 0 (by decide)) (v := ((2 : Nat) : Int)) (rLand0 sM he0) rfl ?_
    refine y_get (show ash 2 = (10, 19) from rfl) (Nat.lt_of_lt_of_le (show 2 < 154 by decide) hS.1.1) (v := ((3 : Nat) : Int)) (sM.at 2 3 3 (by decide +kernel)) rfl ?_
    refine wp_iconst ⟨by decide, by decide⟩ ?_
    refine y_iald (show ash 3 = (100, 8) from rfl) (Or.inl (Nat.lt_of_lt_of_le (show 3 < 154 by decide) hS.1.1)) (Nat.ne_of_lt (Nat.lt_of_lt_of_le (Nat.lt_of_lt_of_le (show 3 < 154 by decide) hS.1.1) hS.1.2)) ⟨by decide, by decide⟩ (v := M 3 2) rfl ?_
    refine wp_icmp_ge (fun c19 => ?_) (fun c19 => ?_)
    · rw [if_pos c19] at h
      exact hk v3 v5 u1 M sM h
    · rw [if_neg c19] at h
      refine wp_aload_n (v := ((e0 : Nat) : Int)) rfl (Int.natCast_nonneg _) ?_
      refine y_get (aLand0 he0) (ltLand hS.1.1 he0 0 (by decide)) (v := M e0 3) rfl rfl ?_
      refine wp_iload (v := v5) rfl ?_
      obtain ⟨x20, e21, h⟩ := d_bind h
      refine y_callS (as := [(0, (M e0 3)), (0, v5)]) (S1 := []) (Nat.le_of_ble_eq_true rfl) (by omega) (t_X11_hasBit sM e21) (Nat.le_of_ble_eq_true rfl) rfl (Nat.le_of_ble_eq_true rfl) (Nat.le_of_ble_eq_true rfl) rfl ?_
      refine y_nez (fun c22 => ?_) (fun c22 => ?_)
      · rw [if_neg c22] at h
        refine y_blk (t := 128) rfl (show fnd bk_X5_measure 128 = some _ from rfl) aB_X5_measure ?_
        obtain ⟨c23, h⟩ := d_ite h
        refine y_iinc (L1 := [(2, ((e0 : Nat) : Int)), u1, (0, v2), (0, v3), (0, v4), (0, (v5 + 1))]) rfl (Nat.le_of_ble_eq_true rfl) ⟨by decide, by decide⟩ c23 rfl ?_
        refine wp_goto ?_
        exact ih v3 (v5 + 1) u1 M sM h
      · rw [if_pos c22] at h
        refine wp_aload_n (v := ((e0 : Nat) : Int)) rfl (Int.natCast_nonneg _) ?_
        refine wp_iload_n (v := v2) rfl ?_
        refine wp_aload_n (v := ((e0 : Nat) : Int)) rfl (Int.natCast_nonneg _) ?_
        refine y_get (aLand0 he0) (ltLand hS.1.1 he0 0 (by decide)) (v := ((2 : Nat) : Int)) (rLand0 sM he0) rfl ?_
        refine y_get (show ash 2 = (10, 19) from rfl) (Nat.lt_of_lt_of_le (show 2 < 154 by decide) hS.1.1) (v := ((4 : Nat) : Int)) (sM.at 2 5 4 (by decide +kernel)) rfl ?_
        refine wp_iload (v := v5) rfl ?_
        obtain ⟨c24, h⟩ := d_ite h
        refine y_iald (show ash 4 = (100, 10) from rfl) (Or.inl (Nat.lt_of_lt_of_le (show 4 < 154 by decide) hS.1.1)) (Nat.ne_of_lt (Nat.lt_of_lt_of_le (Nat.lt_of_lt_of_le (show 4 < 154 by decide) hS.1.1) hS.1.2)) c24 (v := M 4 (v5).toNat) rfl ?_
        obtain ⟨c25, h⟩ := d_ite h
        refine wp_iadd c25 ?_
        refine wp_iload_n (v := v2) rfl ?_
        refine wp_aload_n (v := ((e0 : Nat) : Int)) rfl (Int.natCast_nonneg _) ?_
        refine y_get (aLand0 he0) (ltLand hS.1.1 he0 0 (by decide)) (v := ((2 : Nat) : Int)) (rLand0 sM he0) rfl ?_
        refine y_get (show ash 2 = (10, 19) from rfl) (Nat.lt_of_lt_of_le (show 2 < 154 by decide) hS.1.1) (v := ((5 : Nat) : Int)) (sM.at 2 6 5 (by decide +kernel)) rfl ?_
        refine wp_iload (v := v5) rfl ?_
        refine y_iald (show ash 5 = (100, 10) from rfl) (Or.inl (Nat.lt_of_lt_of_le (show 5 < 154 by decide) hS.1.1)) (Nat.ne_of_lt (Nat.lt_of_lt_of_le (Nat.lt_of_lt_of_le (show 5 < 154 by decide) hS.1.1) hS.1.2)) c24 (v := M 5 (v5).toNat) rfl ?_
        obtain ⟨c26, h⟩ := d_ite h
        refine wp_iadd c26 ?_
        refine wp_aload_n (v := ((e0 : Nat) : Int)) rfl (Int.natCast_nonneg _) ?_
        refine y_get (aLand0 he0) (ltLand hS.1.1 he0 0 (by decide)) (v := ((2 : Nat) : Int)) (rLand0 sM he0) rfl ?_
        refine y_get (show ash 2 = (10, 19) from rfl) (Nat.lt_of_lt_of_le (show 2 < 154 by decide) hS.1.1) (v := ((6 : Nat) : Int)) (sM.at 2 7 6 (by decide +kernel)) rfl ?_
        refine wp_iload (v := v5) rfl ?_
        refine y_iald (show ash 6 = (100, 10) from rfl) (Or.inl (Nat.lt_of_lt_of_le (show 6 < 154 by decide) hS.1.1)) (Nat.ne_of_lt (Nat.lt_of_lt_of_le (Nat.lt_of_lt_of_le (show 6 < 154 by decide) hS.1.1) hS.1.2)) c24 (v := M 6 (v5).toNat) rfl ?_
        obtain ⟨x27, e28, h⟩ := d_bind h
        obtain ⟨r29, s30⟩ := t_X5_shortens he0 sM e28
        refine y_callV (as := [(0, (v2 + (M 4 (v5).toNat))), (0, (v2 + (M 5 (v5).toNat))), (0, (M 6 (v5).toNat))]) (S1 := []) (Nat.le_of_ble_eq_true rfl) (by omega) r29 (Nat.le_of_ble_eq_true rfl) rfl (aLand0 he0) (ltLand hS.1.1 he0 0 (by decide)) (Nat.le_of_ble_eq_true rfl) (Nat.le_of_ble_eq_true rfl) rfl ?_
        refine wp_if_eq (fun c31 => ?_) (fun c31 => ?_)
        · rw [if_pos c31] at h
          refine y_blk (t := 128) rfl (show fnd bk_X5_measure 128 = some _ from rfl) aB_X5_measure ?_
          obtain ⟨c32, h⟩ := d_ite h
          refine y_iinc (L1 := [(2, ((e0 : Nat) : Int)), u1, (0, v2), (0, v3), (0, v4), (0, (v5 + 1))]) rfl (Nat.le_of_ble_eq_true rfl) ⟨by decide, by decide⟩ c32 rfl ?_
          refine wp_goto ?_
          exact ih v3 (v5 + 1) u1 x27.2 s30 h
        · rw [if_neg c31] at h
          refine wp_iconst ⟨by decide, by decide⟩ ?_
          refine y_stn (L1 := [(2, ((e0 : Nat) : Int)), u1, (0, v2), (0, 1), (0, v4), (0, v5)]) (Nat.le_of_ble_eq_true rfl) rfl ?_
          refine y_blk (t := 128) rfl (show fnd bk_X5_measure 128 = some _ from rfl) aB_X5_measure ?_
          obtain ⟨c33, h⟩ := d_ite h
          refine y_iinc (L1 := [(2, ((e0 : Nat) : Int)), u1, (0, v2), (0, 1), (0, v4), (0, (v5 + 1))]) rfl (Nat.le_of_ble_eq_true rfl) ⟨by decide, by decide⟩ c33 rfl ?_
          refine wp_goto ?_
          exact ih 1 (v5 + 1) u1 x27.2 s30 h
def l_X5_measure_43 (T : Nat) (e0 : Nat) (v2 : Int) (k : Int → Int → aM → Option (Int × aM)) : Nat → Int → Int → aM → Option (Int × aM)
  | 0, _, _, _ => none
  | n + 1, v3, v4, M =>
 if 8 ≤ v4 then
 k v3 v4 M else
 if v3 = 0 then
 k v3 v4 M else
 l_X5_measure_59 T e0 v2 v4 (fun w34 w35 m37 =>
 if aIn (v4 + 1) then
 l_X5_measure_43 T e0 v2 k n w34 (v4 + 1) m37 else none) FU 0 0 M
theorem tl_X5_measure_43 {d : Nat} (hd : 1 ≤ d) {T : T3} {e0 : Nat} {v2 : Int} {k : Int → Int → aM → Option (Int × aM)} {y : (Int × aM)} (he0 : isLand e0) {M0 : aM} (hS : Sh T.1 M0)
    (hk : ∀ (v3 v4 : Int) (u1 u5 : aV) (M : aM), Sh T.1 M → k v3 v4 M = some y → Wp d 51 140 [] [(2, ((e0 : Nat) : Int)), u1, (0, v2), (0, v3), (0, v4), u5] [] (M, T) (fun r2 σ2 => r2 = none ∧ σ2 = (y.2, T) ∧ Sh T.1 y.2)) :
    ∀ (n : Nat) (v3 v4 : Int) (u1 u5 : aV) (M : aM), Sh T.1 M → l_X5_measure_43 T.1 e0 v2 k n v3 v4 M = some y → Wp d 51 43 [] [(2, ((e0 : Nat) : Int)), u1, (0, v2), (0, v3), (0, v4), u5] [] (M, T) (fun r2 σ2 => r2 = none ∧ σ2 = (y.2, T) ∧ Sh T.1 y.2) := by
  intro n
  induction n with
  | zero =>
    intro v3 v4 u1 u5 M _ h
    exact nomatch (show (none : Option (Int × aM)) = some y from h)
  | succ n ih =>
    intro v3 v4 u1 u5 M sM h
    rw [l_X5_measure_43] at h
    refine y_blk (t := 43) rfl (show fnd bk_X5_measure 43 = some _ from rfl) aB_X5_measure ?_
    refine wp_iload (v := v4) rfl ?_
    refine wp_bipush (by decide) ?_
    refine wp_icmp_ge (fun c17 => ?_) (fun c17 => ?_)
    · rw [if_pos c17] at h
      exact hk v3 v4 u1 u5 M sM h
    · rw [if_neg c17] at h
      refine wp_iload_n (v := v3) rfl ?_
      refine wp_if_eq (fun c18 => ?_) (fun c18 => ?_)
      · rw [if_pos c18] at h
        exact hk v3 v4 u1 u5 M sM h
      · rw [if_neg c18] at h
        refine wp_iconst ⟨by decide, by decide⟩ ?_
        refine y_stn (L1 := [(2, ((e0 : Nat) : Int)), u1, (0, v2), (0, 0), (0, v4), u5]) (Nat.le_of_ble_eq_true rfl) rfl ?_
        refine wp_iconst ⟨by decide, by decide⟩ ?_
        refine y_st (L1 := [(2, ((e0 : Nat) : Int)), u1, (0, v2), (0, 0), (0, v4), (0, 0)]) (Nat.le_of_ble_eq_true rfl) rfl ?_
        refine tl_X5_measure_59 (by omega) he0 hS (fun w34 w35 u36 m37 s38 h => ?_) FU 0 0 u1 M sM h
        refine y_blk (t := 134) rfl (show fnd bk_X5_measure 134 = some _ from rfl) aB_X5_measure ?_
        obtain ⟨c39, h⟩ := d_ite h
        refine y_iinc (L1 := [(2, ((e0 : Nat) : Int)), u36, (0, v2), (0, w34), (0, (v4 + 1)), (0, w35)]) rfl (Nat.le_of_ble_eq_true rfl) ⟨by decide, by decide⟩ c39 rfl ?_
        refine wp_goto ?_
        exact ih w34 (v4 + 1) u36 (0, w35) m37 s38 h
def f_X5_measure (T : Nat) (e0 : Nat) (v1 : Int) (M : aM) : Option (Int × aM) :=
 if aIn (v1 * 8) then
 l_X5_measure_7 T e0 v1 (v1 * 8) (fun w8 m11 =>
 if aIn ((v1 * 8) + v1) then
 if 0 ≤ ((v1 * 8) + v1) ∧ ((v1 * 8) + v1) < 64 then
 (some (aup m11 (e0 + 2) (((v1 * 8) + v1)).toNat 0)).bind fun m15 =>
 l_X5_measure_43 T e0 (v1 * 8) (fun w40 w41 m44 =>
 some (0, m44)) FU 1 0 m15 else none else none) FU 0 M else none
theorem t_X5_measure {T : T3} {e0 : Nat} {v1 : Int} {M : aM} {y : (Int × aM)} (he0 : isLand e0) (hS : Sh T.1 M) (h : f_X5_measure T.1 e0 v1 M = some y) : Mr 1 51 [(2, ((e0 : Nat) : Int)), (0, v1)] M (none) y.2 T ∧ Sh T.1 y.2 := by
  have key : ∀ d, 1 ≤ d → Wp d 51 0 [] [(2, ((e0 : Nat) : Int)), (0, v1), (9, 0), (9, 0), (9, 0), (9, 0)] [] (M, T) (fun r2 σ2 => r2 = none ∧ σ2 = (y.2, T) ∧ Sh T.1 y.2) := by
    intro d hd
    rw [f_X5_measure] at h
    refine y_blk (t := 0) rfl (show fnd bk_X5_measure 0 = some _ from rfl) aB_X5_measure ?_
    refine wp_iload_n (v := v1) rfl ?_
    refine wp_bipush (by decide) ?_
    obtain ⟨c1, h⟩ := d_ite h
    refine wp_imul c1 ?_
    refine y_stn (L1 := [(2, ((e0 : Nat) : Int)), (0, v1), (0, (v1 * 8)), (9, 0), (9, 0), (9, 0)]) (Nat.le_of_ble_eq_true rfl) rfl ?_
    refine wp_iconst ⟨by decide, by decide⟩ ?_
    refine y_stn (L1 := [(2, ((e0 : Nat) : Int)), (0, v1), (0, (v1 * 8)), (0, 0), (9, 0), (9, 0)]) (Nat.le_of_ble_eq_true rfl) rfl ?_
    refine tl_X5_measure_7 (by omega) he0 hS (fun w8 u9 u10 m11 s12 h => ?_) FU 0 (9, 0) (9, 0) M hS h
    refine y_blk (t := 29) rfl (show fnd bk_X5_measure 29 = some _ from rfl) aB_X5_measure ?_
    refine wp_aload_n (v := ((e0 : Nat) : Int)) rfl (Int.natCast_nonneg _) ?_
    refine y_get (aLand0 he0) (ltLand hS.1.1 he0 0 (by decide)) (v := (((e0 + 2) : Nat) : Int)) (rLand2 s12 he0) rfl ?_
    refine wp_iload_n (v := (v1 * 8)) rfl ?_
    refine wp_iload_n (v := v1) rfl ?_
    obtain ⟨c13, h⟩ := d_ite h
    refine wp_iadd c13 ?_
    refine wp_iconst ⟨by decide, by decide⟩ ?_
    obtain ⟨c14, h⟩ := d_ite h
    refine y_iast (aLand2 he0) (ltLand hS.1.1 he0 2 (by decide)) c14 ?_
    obtain ⟨m15, em15, h⟩ := d_bind h
    have em15 := Option.some.inj em15
    have s16 : Sh T.1 m15 := em15 ▸ s12.up (Or.inl ⟨by rw [(aLand2 he0)]; exact Nat.le_of_ble_eq_true rfl, by rw [(aLand2 he0)]; exact Nat.le_of_ble_eq_true rfl⟩) (by have := (ltLand hS.1.1 he0 2 (by decide)); have := hS.1.2; omega)
    rw [em15]
    refine wp_iconst ⟨by decide, by decide⟩ ?_
    refine y_stn (L1 := [(2, ((e0 : Nat) : Int)), (0, v1), (0, (v1 * 8)), (0, 1), u9, u10]) (Nat.le_of_ble_eq_true rfl) rfl ?_
    refine wp_iconst ⟨by decide, by decide⟩ ?_
    refine y_st (L1 := [(2, ((e0 : Nat) : Int)), (0, v1), (0, (v1 * 8)), (0, 1), (0, 0), u10]) (Nat.le_of_ble_eq_true rfl) rfl ?_
    refine tl_X5_measure_43 (by omega) he0 hS (fun w40 w41 u42 u43 m44 s45 h => ?_) FU 1 0 (0, v1) u10 m15 s16 h
    refine y_blk (t := 140) rfl (show fnd bk_X5_measure 140 = some _ from rfl) aB_X5_measure ?_
    cases h
    exact wp_return ⟨rfl, rfl, s45⟩
  exact ⟨fun d hd => Ms.of3 (key d hd), Ms.sh (key 1 (Nat.le_refl _))⟩
theorem aB_X5_span : ∀ pc, aB 53 pc = fnd bk_X5_span pc := fun _ => rfl
def f_X5_span (T : Nat) (e0 : Nat) (v1 : Int) (v2 : Int) (M : aM) : Option Int :=
 if aIn (v1 * 8) then
 if aIn ((v1 * 8) + v2) then
 if 0 ≤ ((v1 * 8) + v2) ∧ ((v1 * 8) + v2) < 64 then
 some (M (e0 + 2) (((v1 * 8) + v2)).toNat) else none else none else none
theorem t_X5_span {T : T3} {e0 : Nat} {v1 : Int} {v2 : Int} {M : aM} {y : Int} (he0 : isLand e0) (hS : Sh T.1 M) (h : f_X5_span T.1 e0 v1 v2 M = some y) : Mr 0 53 [(2, ((e0 : Nat) : Int)), (0, v1), (0, v2)] M (some (0, y)) M T := by
  have key : ∀ d, 0 ≤ d → Wp d 53 0 [] [(2, ((e0 : Nat) : Int)), (0, v1), (0, v2)] [] (M, T) (fun r2 σ2 => r2 = some (0, y) ∧ σ2 = (M, T)) := by
    intro d hd
    rw [f_X5_span] at h
    refine y_blk (t := 0) rfl (show fnd bk_X5_span 0 = some _ from rfl) aB_X5_span ?_
    refine wp_aload_n (v := ((e0 : Nat) : Int)) rfl (Int.natCast_nonneg _) ?_
    refine y_get (aLand0 he0) (ltLand hS.1.1 he0 0 (by decide)) (v := (((e0 + 2) : Nat) : Int)) (rLand2 hS he0) rfl ?_
    refine wp_iload_n (v := v1) rfl ?_
    refine wp_bipush (by decide) ?_
    obtain ⟨c1, h⟩ := d_ite h
    refine wp_imul c1 ?_
    refine wp_iload_n (v := v2) rfl ?_
    obtain ⟨c2, h⟩ := d_ite h
    refine wp_iadd c2 ?_
    obtain ⟨c3, h⟩ := d_ite h
    refine y_iald (aLand2 he0) (Or.inl (ltLand hS.1.1 he0 2 (by decide))) (Nat.ne_of_lt (Nat.lt_of_lt_of_le (ltLand hS.1.1 he0 2 (by decide)) hS.1.2)) c3 (v := M (e0 + 2) (((v1 * 8) + v2)).toNat) rfl ?_
    cases h
    exact y_ret0 (Or.inl rfl) ⟨rfl, rfl⟩
  exact fun d hd => Ms.of (key d hd)
theorem aB_X11_refuse : ∀ pc, aB 170 pc = fnd bk_X11_refuse pc := fun _ => rfl
def f_X11_refuse (T : Nat) (v1 : Int) (M : aM) : Option (Int × aM) :=
 (some (aup M 0 14 v1)).bind fun m1 =>
 some ((-1), m1)
theorem t_X11_refuse {T : T3} {v1 : Int} {M : aM} {y : (Int × aM)}  (hS : Sh T.1 M) (h : f_X11_refuse T.1 v1 M = some y) : Mr 0 170 [(2, ((0 : Nat) : Int)), (0, v1)] M (some (0, y.1)) y.2 T ∧ Sh T.1 y.2 := by
  have key : ∀ d, 0 ≤ d → Wp d 170 0 [] [(2, ((0 : Nat) : Int)), (0, v1)] [] (M, T) (fun r2 σ2 => r2 = some (0, y.1) ∧ σ2 = (y.2, T) ∧ Sh T.1 y.2) := by
    intro d hd
    rw [f_X11_refuse] at h
    refine y_blk (t := 0) rfl (show fnd bk_X11_refuse 0 = some _ from rfl) aB_X11_refuse ?_
    refine wp_aload_n (v := ((0 : Nat) : Int)) rfl (Int.natCast_nonneg _) ?_
    refine wp_iload_n (v := v1) rfl ?_
    refine y_put (show ash 0 = (11, 15) from rfl) (Nat.lt_of_lt_of_le (show 0 < 154 by decide) hS.1.1) rfl ?_
    obtain ⟨m1, em1, h⟩ := d_bind h
    have em1 := Option.some.inj em1
    have s2 : Sh T.1 m1 := em1 ▸ hS.up (Or.inr ⟨by rw [(show ash 0 = (11, 15) from rfl)]; decide, by rw [(show ash 0 = (11, 15) from rfl)]; decide⟩) (by have := (Nat.lt_of_lt_of_le (show 0 < 154 by decide) hS.1.1); have := hS.1.2; omega)
    rw [em1]
    refine wp_iconst ⟨by decide, by decide⟩ ?_
    cases h
    exact y_ret0 (Or.inl rfl) ⟨rfl, rfl, s2⟩
  exact ⟨fun d hd => Ms.of3 (key d hd), Ms.sh (key 0 (Nat.le_refl _))⟩
theorem aB_X11_allow : ∀ pc, aB 171 pc = fnd bk_X11_allow pc := fun _ => rfl
def f_X11_allow (T : Nat) (v1 : Int) (M : aM) : Option (Int × aM) :=
 (some (aup M 0 14 0)).bind fun m1 =>
 some (v1, m1)
theorem t_X11_allow {T : T3} {v1 : Int} {M : aM} {y : (Int × aM)}  (hS : Sh T.1 M) (h : f_X11_allow T.1 v1 M = some y) : Mr 0 171 [(2, ((0 : Nat) : Int)), (0, v1)] M (some (0, y.1)) y.2 T ∧ Sh T.1 y.2 := by
  have key : ∀ d, 0 ≤ d → Wp d 171 0 [] [(2, ((0 : Nat) : Int)), (0, v1)] [] (M, T) (fun r2 σ2 => r2 = some (0, y.1) ∧ σ2 = (y.2, T) ∧ Sh T.1 y.2) := by
    intro d hd
    rw [f_X11_allow] at h
    refine y_blk (t := 0) rfl (show fnd bk_X11_allow 0 = some _ from rfl) aB_X11_allow ?_
    refine wp_aload_n (v := ((0 : Nat) : Int)) rfl (Int.natCast_nonneg _) ?_
    refine wp_iconst ⟨by decide, by decide⟩ ?_
    refine y_put (show ash 0 = (11, 15) from rfl) (Nat.lt_of_lt_of_le (show 0 < 154 by decide) hS.1.1) rfl ?_
    obtain ⟨m1, em1, h⟩ := d_bind h
    have em1 := Option.some.inj em1
    have s2 : Sh T.1 m1 := em1 ▸ hS.up (Or.inr ⟨by rw [(show ash 0 = (11, 15) from rfl)]; decide, by rw [(show ash 0 = (11, 15) from rfl)]; decide⟩) (by have := (Nat.lt_of_lt_of_le (show 0 < 154 by decide) hS.1.1); have := hS.1.2; omega)
    rw [em1]
    refine wp_iload_n (v := v1) rfl ?_
    cases h
    exact y_ret0 (Or.inl rfl) ⟨rfl, rfl, s2⟩
  exact ⟨fun d hd => Ms.of3 (key d hd), Ms.sh (key 0 (Nat.le_refl _))⟩
theorem aB_X11_isCave : ∀ pc, aB 176 pc = fnd bk_X11_isCave pc := fun _ => rfl
def f_X11_isCave (T : Nat) (v1 : Int) (M : aM) : Option Int :=
 if v1 < 0 then
 some 0 else
 if (M 3 1) ≤ v1 then
 some 0 else
 some 1
theorem t_X11_isCave {T : T3} {v1 : Int} {M : aM} {y : Int}  (hS : Sh T.1 M) (h : f_X11_isCave T.1 v1 M = some y) : Mr 0 176 [(2, ((0 : Nat) : Int)), (0, v1)] M (some (0, y)) M T := by
  have key : ∀ d, 0 ≤ d → Wp d 176 0 [] [(2, ((0 : Nat) : Int)), (0, v1)] [] (M, T) (fun r2 σ2 => r2 = some (0, y) ∧ σ2 = (M, T)) := by
    intro d hd
    rw [f_X11_isCave] at h
    refine y_blk (t := 0) rfl (show fnd bk_X11_isCave 0 = some _ from rfl) aB_X11_isCave ?_
    refine wp_iload_n (v := v1) rfl ?_
    refine wp_if_lt (fun c1 => ?_) (fun c1 => ?_)
    · rw [if_pos c1] at h
      refine y_blk (t := 21) rfl (show fnd bk_X11_isCave 21 = some _ from rfl) aB_X11_isCave ?_
      refine wp_iconst ⟨by decide, by decide⟩ ?_
      refine y_blk (t := 22) rfl (show fnd bk_X11_isCave 22 = some _ from rfl) aB_X11_isCave ?_
      cases h
      exact y_ret0 (Or.inr (Or.inl rfl)) ⟨rfl, rfl⟩
    · rw [if_neg c1] at h
      refine wp_iload_n (v := v1) rfl ?_
      refine wp_aload_n (v := ((0 : Nat) : Int)) rfl (Int.natCast_nonneg _) ?_
      refine y_get (show ash 0 = (11, 15) from rfl) (Nat.lt_of_lt_of_le (show 0 < 154 by decide) hS.1.1) (v := ((2 : Nat) : Int)) (hS.at 0 2 2 (by decide +kernel)) rfl ?_
      refine y_get (show ash 2 = (10, 19) from rfl) (Nat.lt_of_lt_of_le (show 2 < 154 by decide) hS.1.1) (v := ((3 : Nat) : Int)) (hS.at 2 3 3 (by decide +kernel)) rfl ?_
      refine wp_iconst ⟨by decide, by decide⟩ ?_
      refine y_iald (show ash 3 = (100, 8) from rfl) (Or.inl (Nat.lt_of_lt_of_le (show 3 < 154 by decide) hS.1.1)) (Nat.ne_of_lt (Nat.lt_of_lt_of_le (Nat.lt_of_lt_of_le (show 3 < 154 by decide) hS.1.1) hS.1.2)) ⟨by decide, by decide⟩ (v := M 3 1) rfl ?_
      refine wp_icmp_ge (fun c2 => ?_) (fun c2 => ?_)
      · rw [if_pos c2] at h
        refine y_blk (t := 21) rfl (show fnd bk_X11_isCave 21 = some _ from rfl) aB_X11_isCave ?_
        refine wp_iconst ⟨by decide, by decide⟩ ?_
        refine y_blk (t := 22) rfl (show fnd bk_X11_isCave 22 = some _ from rfl) aB_X11_isCave ?_
        cases h
        exact y_ret0 (Or.inr (Or.inl rfl)) ⟨rfl, rfl⟩
      · rw [if_neg c2] at h
        refine wp_iconst ⟨by decide, by decide⟩ ?_
        refine wp_goto ?_
        refine y_blk (t := 22) rfl (show fnd bk_X11_isCave 22 = some _ from rfl) aB_X11_isCave ?_
        cases h
        exact y_ret0 (Or.inr (Or.inr rfl)) ⟨rfl, rfl⟩
  exact fun d hd => Ms.of (key d hd)
theorem aB_X11_orNo : ∀ pc, aB 182 pc = fnd bk_X11_orNo pc := fun _ => rfl
def f_X11_orNo (T : Nat) (v0 : Int) (M : aM) : Option Int :=
 if v0 < 1000000 then
 some v0 else
 some (-2)
theorem t_X11_orNo {T : T3} {v0 : Int} {M : aM} {y : Int}  (hS : Sh T.1 M) (h : f_X11_orNo T.1 v0 M = some y) : Mr 0 182 [(0, v0)] M (some (0, y)) M T := by
  have key : ∀ d, 0 ≤ d → Wp d 182 0 [] [(0, v0)] [] (M, T) (fun r2 σ2 => r2 = some (0, y) ∧ σ2 = (M, T)) := by
    intro d hd
    rw [f_X11_orNo] at h
    refine y_blk (t := 0) rfl (show fnd bk_X11_orNo 0 = some _ from rfl) aB_X11_orNo ?_
    refine wp_iload_n (v := v0) rfl ?_
    refine wp_ldc (by decide) ?_
    refine wp_icmp_lt (fun c1 => ?_) (fun c1 => ?_)
    · rw [if_pos c1] at h
      refine y_blk (t := 11) rfl (show fnd bk_X11_orNo 11 = some _ from rfl) aB_X11_orNo ?_
      refine wp_iload_n (v := v0) rfl ?_
      refine y_blk (t := 12) rfl (show fnd bk_X11_orNo 12 = some _ from rfl) aB_X11_orNo ?_
      cases h
      exact y_ret0 (Or.inl rfl) ⟨rfl, rfl⟩
    · rw [if_neg c1] at h
      refine wp_bipush (by decide) ?_
      refine wp_goto ?_
      refine y_blk (t := 12) rfl (show fnd bk_X11_orNo 12 = some _ from rfl) aB_X11_orNo ?_
      cases h
      exact y_ret0 (Or.inl rfl) ⟨rfl, rfl⟩
  exact fun d hd => Ms.of (key d hd)
theorem aB_X11_far : ∀ pc, aB 122 pc = fnd bk_X11_far pc := fun _ => rfl
def f_X11_far (T : Nat) (v1 : Int) (v2 : Int) (M : aM) : Option (Int × aM) :=
 (f_X11_isCave T v1 M).bind fun x1 =>
 if x1 = 0 then
 (f_X11_refuse T 1 M).bind fun x4 =>
 some (x4.1, x4.2) else
 (f_X11_isCave T v2 M).bind fun x8 =>
 if x8 = 0 then
 (f_X11_refuse T 1 M).bind fun x19 =>
 some (x19.1, x19.2) else
 (f_X5_span T 39 v1 v2 M).bind fun x11 =>
 (f_X11_orNo T x11 M).bind fun x13 =>
 (f_X11_allow T x13 M).bind fun x15 =>
 some (x15.1, x15.2)
theorem t_X11_far {T : T3} {v1 : Int} {v2 : Int} {M : aM} {y : (Int × aM)}  (hS : Sh T.1 M) (h : f_X11_far T.1 v1 v2 M = some y) : Mr 1 122 [(2, ((0 : Nat) : Int)), (0, v1), (0, v2)] M (some (0, y.1)) y.2 T ∧ Sh T.1 y.2 := by
  have key : ∀ d, 1 ≤ d → Wp d 122 0 [] [(2, ((0 : Nat) : Int)), (0, v1), (0, v2)] [] (M, T) (fun r2 σ2 => r2 = some (0, y.1) ∧ σ2 = (y.2, T) ∧ Sh T.1 y.2) := by
    intro d hd
    rw [f_X11_far] at h
    refine y_blk (t := 0) rfl (show fnd bk_X11_far 0 = some _ from rfl) aB_X11_far ?_
    refine wp_aload_n (v := ((0 : Nat) : Int)) rfl (Int.natCast_nonneg _) ?_
    refine wp_iload_n (v := v1) rfl ?_
    obtain ⟨x1, e2, h⟩ := d_bind h
    refine y_callV (as := [(0, v1)]) (S1 := []) (Nat.le_of_ble_eq_true rfl) (by omega) (t_X11_isCave hS e2) (Nat.le_of_ble_eq_true rfl) rfl (show ash 0 = (11, 15) from rfl) (Nat.lt_of_lt_of_le (show 0 < 154 by decide) hS.1.1) (Nat.le_of_ble_eq_true rfl) (Nat.le_of_ble_eq_true rfl) rfl ?_
    refine wp_if_eq (fun c3 => ?_) (fun c3 => ?_)
    · rw [if_pos c3] at h
      refine y_blk (t := 16) rfl (show fnd bk_X11_far 16 = some _ from rfl) aB_X11_far ?_
      refine wp_aload_n (v := ((0 : Nat) : Int)) rfl (Int.natCast_nonneg _) ?_
      refine wp_iconst ⟨by decide, by decide⟩ ?_
      obtain ⟨x4, e5, h⟩ := d_bind h
      obtain ⟨r6, s7⟩ := t_X11_refuse hS e5
      refine y_callV (as := [(0, 1)]) (S1 := []) (Nat.le_of_ble_eq_true rfl) (by omega) r6 (Nat.le_of_ble_eq_true rfl) rfl (show ash 0 = (11, 15) from rfl) (Nat.lt_of_lt_of_le (show 0 < 154 by decide) hS.1.1) (Nat.le_of_ble_eq_true rfl) (Nat.le_of_ble_eq_true rfl) rfl ?_
      cases h
      exact y_ret0 (Or.inl rfl) ⟨rfl, rfl, s7⟩
    · rw [if_neg c3] at h
      refine wp_aload_n (v := ((0 : Nat) : Int)) rfl (Int.natCast_nonneg _) ?_
      refine wp_iload_n (v := v2) rfl ?_
      obtain ⟨x8, e9, h⟩ := d_bind h
      refine y_callV (as := [(0, v2)]) (S1 := []) (Nat.le_of_ble_eq_true rfl) (by omega) (t_X11_isCave hS e9) (Nat.le_of_ble_eq_true rfl) rfl (show ash 0 = (11, 15) from rfl) (Nat.lt_of_lt_of_le (show 0 < 154 by decide) hS.1.1) (Nat.le_of_ble_eq_true rfl) (Nat.le_of_ble_eq_true rfl) rfl ?_
      refine y_nez (fun c10 => ?_) (fun c10 => ?_)
      · rw [if_neg c10] at h
        refine y_blk (t := 22) rfl (show fnd bk_X11_far 22 = some _ from rfl) aB_X11_far ?_
        refine wp_aload_n (v := ((0 : Nat) : Int)) rfl (Int.natCast_nonneg _) ?_
        refine wp_aload_n (v := ((0 : Nat) : Int)) rfl (Int.natCast_nonneg _) ?_
        refine y_get (show ash 0 = (11, 15) from rfl) (Nat.lt_of_lt_of_le (show 0 < 154 by decide) hS.1.1) (v := ((39 : Nat) : Int)) (hS.at 0 5 39 (by decide +kernel)) rfl ?_
        refine wp_iload_n (v := v1) rfl ?_
        refine wp_iload_n (v := v2) rfl ?_
        obtain ⟨x11, e12, h⟩ := d_bind h
        refine y_callV (as := [(0, v1), (0, v2)]) (S1 := [(2, ((0 : Nat) : Int))]) (Nat.le_of_ble_eq_true rfl) (by omega) (t_X5_span (show isLand 39 by decide) hS e12) (Nat.le_of_ble_eq_true rfl) rfl (show ash 39 = (5, 4) from rfl) (Nat.lt_of_lt_of_le (show 39 < 154 by decide) hS.1.1) (Nat.le_of_ble_eq_true rfl) (Nat.le_of_ble_eq_true rfl) rfl ?_
        obtain ⟨x13, e14, h⟩ := d_bind h
        refine y_callS (as := [(0, x11)]) (S1 := [(2, ((0 : Nat) : Int))]) (Nat.le_of_ble_eq_true rfl) (by omega) (t_X11_orNo hS e14) (Nat.le_of_ble_eq_true rfl) rfl (Nat.le_of_ble_eq_true rfl) (Nat.le_of_ble_eq_true rfl) rfl ?_
        obtain ⟨x15, e16, h⟩ := d_bind h
        obtain ⟨r17, s18⟩ := t_X11_allow hS e16
        refine y_callV (as := [(0, x13)]) (S1 := []) (Nat.le_of_ble_eq_true rfl) (by omega) r17 (Nat.le_of_ble_eq_true rfl) rfl (show ash 0 = (11, 15) from rfl) (Nat.lt_of_lt_of_le (show 0 < 154 by decide) hS.1.1) (Nat.le_of_ble_eq_true rfl) (Nat.le_of_ble_eq_true rfl) rfl ?_
        cases h
        exact y_ret0 (Or.inl rfl) ⟨rfl, rfl, s18⟩
      · rw [if_pos c10] at h
        refine y_blk (t := 16) rfl (show fnd bk_X11_far 16 = some _ from rfl) aB_X11_far ?_
        refine wp_aload_n (v := ((0 : Nat) : Int)) rfl (Int.natCast_nonneg _) ?_
        refine wp_iconst ⟨by decide, by decide⟩ ?_
        obtain ⟨x19, e20, h⟩ := d_bind h
        obtain ⟨r21, s22⟩ := t_X11_refuse hS e20
        refine y_callV (as := [(0, 1)]) (S1 := []) (Nat.le_of_ble_eq_true rfl) (by omega) r21 (Nat.le_of_ble_eq_true rfl) rfl (show ash 0 = (11, 15) from rfl) (Nat.lt_of_lt_of_le (show 0 < 154 by decide) hS.1.1) (Nat.le_of_ble_eq_true rfl) (Nat.le_of_ble_eq_true rfl) rfl ?_
        cases h
        exact y_ret0 (Or.inl rfl) ⟨rfl, rfl, s22⟩
  exact ⟨fun d hd => Ms.of3 (key d hd), Ms.sh (key 1 (Nat.le_refl _))⟩
theorem aB_X11_heardFrom : ∀ pc, aB 125 pc = fnd bk_X11_heardFrom pc := fun _ => rfl
def l_X11_heardFrom_18 (T : Nat) (v1 : Int) (M : aM) (k : Int → Int → Option (Int × aM)) : Nat → Int → Int → Option (Int × aM)
  | 0, _, _ => none
  | n + 1, v2, v3 =>
 if (M 3 1) ≤ v3 then
 k v2 v3 else
 (f_X5_span T 39 v1 v3 M).bind fun x5 =>
 if (M 2 0) < x5 then
 if aIn (v3 + 1) then
 l_X11_heardFrom_18 T v1 M k n v2 (v3 + 1) else none else
 if aIn (v3 + 1) then
 l_X11_heardFrom_18 T v1 M k n (aor v2 (ashl 1 v3)) (v3 + 1) else none
theorem tl_X11_heardFrom_18 {d : Nat} (hd : 1 ≤ d) {T : T3} {v1 : Int} {M : aM} {k : Int → Int → Option (Int × aM)} {y : (Int × aM)}  (hS : Sh T.1 M)
    (hk : ∀ (v2 v3 : Int), Sh T.1 M → k v2 v3 = some y → Wp d 125 62 [] [(2, ((0 : Nat) : Int)), (0, v1), (0, v2), (0, v3)] [] (M, T) (fun r2 σ2 => r2 = some (0, y.1) ∧ σ2 = (y.2, T) ∧ Sh T.1 y.2)) :
    ∀ (n : Nat) (v2 v3 : Int), Sh T.1 M → l_X11_heardFrom_18 T.1 v1 M k n v2 v3 = some y → Wp d 125 18 [] [(2, ((0 : Nat) : Int)), (0, v1), (0, v2), (0, v3)] [] (M, T) (fun r2 σ2 => r2 = some (0, y.1) ∧ σ2 = (y.2, T) ∧ Sh T.1 y.2) := by
  intro n
  induction n with
  | zero =>
    intro v2 v3 _ h
    exact nomatch (show (none : Option (Int × aM)) = some y from h)
  | succ n ih =>
    intro v2 v3 sM h
    rw [l_X11_heardFrom_18] at h
    refine y_blk (t := 18) rfl (show fnd bk_X11_heardFrom 18 = some _ from rfl) aB_X11_heardFrom ?_
    refine wp_iload_n (v := v3) rfl ?_
    refine wp_aload_n (v := ((0 : Nat) : Int)) rfl (Int.natCast_nonneg _) ?_
    refine y_get (show ash 0 = (11, 15) from rfl) (Nat.lt_of_lt_of_le (show 0 < 154 by decide) hS.1.1) (v := ((2 : Nat) : Int)) (sM.at 0 2 2 (by decide +kernel)) rfl ?_
    refine y_get (show ash 2 = (10, 19) from rfl) (Nat.lt_of_lt_of_le (show 2 < 154 by decide) hS.1.1) (v := ((3 : Nat) : Int)) (sM.at 2 3 3 (by decide +kernel)) rfl ?_
    refine wp_iconst ⟨by decide, by decide⟩ ?_
    refine y_iald (show ash 3 = (100, 8) from rfl) (Or.inl (Nat.lt_of_lt_of_le (show 3 < 154 by decide) hS.1.1)) (Nat.ne_of_lt (Nat.lt_of_lt_of_le (Nat.lt_of_lt_of_le (show 3 < 154 by decide) hS.1.1) hS.1.2)) ⟨by decide, by decide⟩ (v := M 3 1) rfl ?_
    refine wp_icmp_ge (fun c4 => ?_) (fun c4 => ?_)
    · rw [if_pos c4] at h
      exact hk v2 v3   sM h
    · rw [if_neg c4] at h
      refine wp_aload_n (v := ((0 : Nat) : Int)) rfl (Int.natCast_nonneg _) ?_
      refine y_get (show ash 0 = (11, 15) from rfl) (Nat.lt_of_lt_of_le (show 0 < 154 by decide) hS.1.1) (v := ((39 : Nat) : Int)) (sM.at 0 5 39 (by decide +kernel)) rfl ?_
      refine wp_iload_n (v := v1) rfl ?_
      refine wp_iload_n (v := v3) rfl ?_
      obtain ⟨x5, e6, h⟩ := d_bind h
      refine y_callV (as := [(0, v1), (0, v3)]) (S1 := []) (Nat.le_of_ble_eq_true rfl) (by omega) (t_X5_span (show isLand 39 by decide) sM e6) (Nat.le_of_ble_eq_true rfl) rfl (show ash 39 = (5, 4) from rfl) (Nat.lt_of_lt_of_le (show 39 < 154 by decide) hS.1.1) (Nat.le_of_ble_eq_true rfl) (Nat.le_of_ble_eq_true rfl) rfl ?_
      refine wp_aload_n (v := ((0 : Nat) : Int)) rfl (Int.natCast_nonneg _) ?_
      refine y_get (show ash 0 = (11, 15) from rfl) (Nat.lt_of_lt_of_le (show 0 < 154 by decide) hS.1.1) (v := ((2 : Nat) : Int)) (sM.at 0 2 2 (by decide +kernel)) rfl ?_
      refine y_get (show ash 2 = (10, 19) from rfl) (Nat.lt_of_lt_of_le (show 2 < 154 by decide) hS.1.1) (v := M 2 0) rfl rfl ?_
      refine wp_icmp_gt (fun c7 => ?_) (fun c7 => ?_)
      · rw [if_pos c7] at h
        refine y_blk (t := 56) rfl (show fnd bk_X11_heardFrom 56 = some _ from rfl) aB_X11_heardFrom ?_
        obtain ⟨c8, h⟩ := d_ite h
        refine y_iinc (L1 := [(2, ((0 : Nat) : Int)), (0, v1), (0, v2), (0, (v3 + 1))]) rfl (Nat.le_of_ble_eq_true rfl) ⟨by decide, by decide⟩ c8 rfl ?_
        refine wp_goto ?_
        exact ih v2 (v3 + 1)   sM h
      · rw [if_neg c7] at h
        refine wp_iload_n (v := v2) rfl ?_
        refine wp_iconst ⟨by decide, by decide⟩ ?_
        refine wp_iload_n (v := v3) rfl ?_
        refine wp_ishl ?_
        refine wp_ior ?_
        refine y_stn (L1 := [(2, ((0 : Nat) : Int)), (0, v1), (0, (aor v2 (ashl 1 v3))), (0, v3)]) (Nat.le_of_ble_eq_true rfl) rfl ?_
        refine y_blk (t := 56) rfl (show fnd bk_X11_heardFrom 56 = some _ from rfl) aB_X11_heardFrom ?_
        obtain ⟨c9, h⟩ := d_ite h
        refine y_iinc (L1 := [(2, ((0 : Nat) : Int)), (0, v1), (0, (aor v2 (ashl 1 v3))), (0, (v3 + 1))]) rfl (Nat.le_of_ble_eq_true rfl) ⟨by decide, by decide⟩ c9 rfl ?_
        refine wp_goto ?_
        exact ih (aor v2 (ashl 1 v3)) (v3 + 1)   sM h
def f_X11_heardFrom (T : Nat) (v1 : Int) (M : aM) : Option (Int × aM) :=
 (f_X11_isCave T v1 M).bind fun x1 =>
 if x1 = 0 then
 (f_X11_refuse T 1 M).bind fun x17 =>
 some (x17.1, x17.2) else
 l_X11_heardFrom_18 T v1 M (fun w10 w11 =>
 (f_X11_allow T w10 M).bind fun x13 =>
 some (x13.1, x13.2)) FU 0 0
theorem t_X11_heardFrom {T : T3} {v1 : Int} {M : aM} {y : (Int × aM)}  (hS : Sh T.1 M) (h : f_X11_heardFrom T.1 v1 M = some y) : Mr 1 125 [(2, ((0 : Nat) : Int)), (0, v1)] M (some (0, y.1)) y.2 T ∧ Sh T.1 y.2 := by
  have key : ∀ d, 1 ≤ d → Wp d 125 0 [] [(2, ((0 : Nat) : Int)), (0, v1), (9, 0), (9, 0)] [] (M, T) (fun r2 σ2 => r2 = some (0, y.1) ∧ σ2 = (y.2, T) ∧ Sh T.1 y.2) := by
    intro d hd
    rw [f_X11_heardFrom] at h
    refine y_blk (t := 0) rfl (show fnd bk_X11_heardFrom 0 = some _ from rfl) aB_X11_heardFrom ?_
    refine wp_aload_n (v := ((0 : Nat) : Int)) rfl (Int.natCast_nonneg _) ?_
    refine wp_iload_n (v := v1) rfl ?_
    obtain ⟨x1, e2, h⟩ := d_bind h
    refine y_callV (as := [(0, v1)]) (S1 := []) (Nat.le_of_ble_eq_true rfl) (by omega) (t_X11_isCave hS e2) (Nat.le_of_ble_eq_true rfl) rfl (show ash 0 = (11, 15) from rfl) (Nat.lt_of_lt_of_le (show 0 < 154 by decide) hS.1.1) (Nat.le_of_ble_eq_true rfl) (Nat.le_of_ble_eq_true rfl) rfl ?_
    refine y_nez (fun c3 => ?_) (fun c3 => ?_)
    · rw [if_neg c3] at h
      refine y_blk (t := 14) rfl (show fnd bk_X11_heardFrom 14 = some _ from rfl) aB_X11_heardFrom ?_
      refine wp_iconst ⟨by decide, by decide⟩ ?_
      refine y_stn (L1 := [(2, ((0 : Nat) : Int)), (0, v1), (0, 0), (9, 0)]) (Nat.le_of_ble_eq_true rfl) rfl ?_
      refine wp_iconst ⟨by decide, by decide⟩ ?_
      refine y_stn (L1 := [(2, ((0 : Nat) : Int)), (0, v1), (0, 0), (0, 0)]) (Nat.le_of_ble_eq_true rfl) rfl ?_
      refine tl_X11_heardFrom_18 (by omega) hS (fun w10 w11   s12 h => ?_) FU 0 0   hS h
      refine y_blk (t := 62) rfl (show fnd bk_X11_heardFrom 62 = some _ from rfl) aB_X11_heardFrom ?_
      refine wp_aload_n (v := ((0 : Nat) : Int)) rfl (Int.natCast_nonneg _) ?_
      refine wp_iload_n (v := w10) rfl ?_
      obtain ⟨x13, e14, h⟩ := d_bind h
      obtain ⟨r15, s16⟩ := t_X11_allow s12 e14
      refine y_callV (as := [(0, w10)]) (S1 := []) (Nat.le_of_ble_eq_true rfl) (by omega) r15 (Nat.le_of_ble_eq_true rfl) rfl (show ash 0 = (11, 15) from rfl) (Nat.lt_of_lt_of_le (show 0 < 154 by decide) hS.1.1) (Nat.le_of_ble_eq_true rfl) (Nat.le_of_ble_eq_true rfl) rfl ?_
      cases h
      exact y_ret0 (Or.inl rfl) ⟨rfl, rfl, s16⟩
    · rw [if_pos c3] at h
      refine wp_aload_n (v := ((0 : Nat) : Int)) rfl (Int.natCast_nonneg _) ?_
      refine wp_iconst ⟨by decide, by decide⟩ ?_
      obtain ⟨x17, e18, h⟩ := d_bind h
      obtain ⟨r19, s20⟩ := t_X11_refuse hS e18
      refine y_callV (as := [(0, 1)]) (S1 := []) (Nat.le_of_ble_eq_true rfl) (by omega) r19 (Nat.le_of_ble_eq_true rfl) rfl (show ash 0 = (11, 15) from rfl) (Nat.lt_of_lt_of_le (show 0 < 154 by decide) hS.1.1) (Nat.le_of_ble_eq_true rfl) (Nat.le_of_ble_eq_true rfl) rfl ?_
      cases h
      exact y_ret0 (Or.inl rfl) ⟨rfl, rfl, s20⟩
  exact ⟨fun d hd => Ms.of3 (key d hd), Ms.sh (key 1 (Nat.le_refl _))⟩

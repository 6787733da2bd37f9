/-! ===== methods as functions ===== -/
theorem aB_X5_joinNeighbours : ∀ pc, aB 50 pc = fnd bk_X5_joinNeighbours pc := fun _ => rfl
def l_X5_joinNeighbours_2 (T : Nat) (e0 : Nat) (k : Int → aM → Option (Int × aM)) : Nat → Int → aM → Option (Int × aM)
| 0, _, _ => none
| n + 1, v1, M =>
 if 8 ≤ v1 then
 k v1 M else
 if 0 ≤ v1 ∧ v1 < 8 then
 (some (aup M (e0 + 1) (v1).toNat 0)).bind fun m3 =>
 if aIn (v1 + 1) then
 l_X5_joinNeighbours_2 T e0 k n (v1 + 1) m3 else none else none
theorem tl_X5_joinNeighbours_2 {d : Nat} (hd : 1 ≤ d) {T : T3} {e0 : Nat} {k : Int → aM → Option (Int × aM)} {y : (Int × aM)} (he0 : isLand e0) {M0 : aM} (hS : Sh T.1 M0)
    (hk : ∀ (v1 : Int) (M : aM), Sh T.1 M → k v1 M = some y → Wp d 50 21 [] [(2, ((e0 : Nat) : Int)), (0, v1)] [] (M, T) (fun r2 σ2 => r2 = none ∧ σ2 = (y.2, T) ∧ Sh T.1 y.2)) :
    ∀ (n : Nat) (v1 : Int) (M : aM), Sh T.1 M → l_X5_joinNeighbours_2 T.1 e0 k n v1 M = some y → Wp d 50 2 [] [(2, ((e0 : Nat) : Int)), (0, v1)] [] (M, T) (fun r2 σ2 => r2 = none ∧ σ2 = (y.2, T) ∧ Sh T.1 y.2) := by
  intro n
  induction n with
  | zero =>
    intro v1 M _ h
    exact nomatch (show (none : Option (Int × aM)) = some y from h)
  | succ n ih =>
    intro v1 M sM h
    rw [l_X5_joinNeighbours_2] at h
    refine y_blk (t := 2) rfl (show fnd bk_X5_joinNeighbours 2 = some _ from rfl) aB_X5_joinNeighbours ?_
    refine wp_iload_n (v := v1) rfl ?_
    refine wp_bipush (by decide) ?_
    refine wp_icmp_ge (fun c1 => ?_) (fun c1 => ?_)
    · rw [if_pos c1] at h
      exact hk v1  M sM h
    · rw [if_neg c1] at h
      refine wp_aload_n (v := ((e0 : Nat) : Int)) rfl (Int.natCast_nonneg _) ?_
      refine y_get (aLand0 he0) (ltLand hS.1.1 he0 0 (by decide)) (v := (((e0 + 1) : Nat) : Int)) (rLand1 sM he0) rfl ?_
      refine wp_iload_n (v := v1) rfl ?_
      refine wp_iconst ⟨by decide, by decide⟩ ?_
      obtain ⟨c2, h⟩ := d_ite h
      refine y_iast (aLand1 he0) (ltLand hS.1.1 he0 1 (by decide)) c2 ?_
      obtain ⟨m3, em3, h⟩ := d_bind h
      have em3 := Option.some.inj em3
      have s4 : Sh T.1 m3 := em3 ▸ sM.up (Or.inl ⟨by rw [(aLand1 he0)]; exact Nat.le_of_ble_eq_true rfl, by rw [(aLand1 he0)]; exact Nat.le_of_ble_eq_true rfl⟩) (by have := (ltLand hS.1.1 he0 1 (by decide)); have := hS.1.2; omega)
      rw [em3]
      obtain ⟨c5, h⟩ := d_ite h
      refine y_iinc (L1 := [(2, ((e0 : Nat) : Int)), (0, (v1 + 1))]) rfl (Nat.le_of_ble_eq_true rfl) ⟨by decide, by decide⟩ c5 rfl ?_
      refine wp_goto ?_
      exact ih (v1 + 1)  m3 s4 h
def l_X5_joinNeighbours_23 (T : Nat) (e0 : Nat) (k : Int → aM → Option (Int × aM)) : Nat → Int → aM → Option (Int × aM)
| 0, _, _ => none
| n + 1, v1, M =>
 if (M 3 2) ≤ v1 then
 k v1 M else
 (f_X11_hasBit T (M e0 3) v1 M).bind fun x10 =>
 if x10 = 0 then
 if 0 ≤ v1 ∧ v1 < 10 then
 if 0 ≤ (M 4 (v1).toNat) ∧ (M 4 (v1).toNat) < 8 then
 (some (aup M (e0 + 1) ((M 4 (v1).toNat)).toNat (aor (M (e0 + 1) ((M 4 (v1).toNat)).toNat) (ashl 1 (M 5 (v1).toNat))))).bind fun m16 =>
 if 0 ≤ (m16 5 (v1).toNat) ∧ (m16 5 (v1).toNat) < 8 then
 (some (aup m16 (e0 + 1) ((m16 5 (v1).toNat)).toNat (aor (m16 (e0 + 1) ((m16 5 (v1).toNat)).toNat) (ashl 1 (m16 4 (v1).toNat))))).bind fun m19 =>
 if aIn (v1 + 1) then
 l_X5_joinNeighbours_23 T e0 k n (v1 + 1) m19 else none else none else none else none else
 if aIn (v1 + 1) then
 l_X5_joinNeighbours_23 T e0 k n (v1 + 1) M else none
theorem tl_X5_joinNeighbours_23 {d : Nat} (hd : 1 ≤ d) {T : T3} {e0 : Nat} {k : Int → aM → Option (Int × aM)} {y : (Int × aM)} (he0 : isLand e0) {M0 : aM} (hS : Sh T.1 M0)
    (hk : ∀ (v1 : Int) (M : aM), Sh T.1 M → k v1 M = some y → Wp d 50 109 [] [(2, ((e0 : Nat) : Int)), (0, v1)] [] (M, T) (fun r2 σ2 => r2 = none ∧ σ2 = (y.2, T) ∧ Sh T.1 y.2)) :
    ∀ (n : Nat) (v1 : Int) (M : aM), Sh T.1 M → l_X5_joinNeighbours_23 T.1 e0 k n v1 M = some y → Wp d 50 23 [] [(2, ((e0 : Nat) : Int)), (0, v1)] [] (M, T) (fun r2 σ2 => r2 = none ∧ σ2 = (y.2, T) ∧ Sh T.1 y.2) := by
  intro n
  induction n with
  | zero =>
    intro v1 M _ h
    exact nomatch (show (none : Option (Int × aM)) = some y from h)
  | succ n ih =>
    intro v1 M sM h
    rw [l_X5_joinNeighbours_23] at h
    refine y_blk (t := 23) rfl (show fnd bk_X5_joinNeighbours 23 = some _ from rfl) aB_X5_joinNeighbours ?_
    refine wp_iload_n (v := v1) rfl ?_
    refine wp_aload_n (v := ((e0 : Nat) : Int)) rfl (Int.natCast_nonneg _) ?_
    refine y_get (aLand0 he0) (ltLand hS.1.1 he0 0 (by decide)) (v := ((2 : Nat) : Int)) (rLand0 sM he0) rfl ?_
    refine y_get (show ash 2 = (10, 19) from rfl) (Nat.lt_of_lt_of_le (show 2 < 154 by decide) hS.1.1) (v := ((3 : Nat) : Int)) (sM.at 2 3 3 (by decide +kernel)) rfl ?_
    refine wp_iconst ⟨by decide, by decide⟩ ?_
    refine y_iald (show ash 3 = (100, 8) from rfl) (Or.inl (Nat.lt_of_lt_of_le (show 3 < 154 by decide) hS.1.1)) (Nat.ne_of_lt (Nat.lt_of_lt_of_le (Nat.lt_of_lt_of_le (show 3 < 154 by decide) hS.1.1) hS.1.2)) ⟨by decide, by decide⟩ (v := M 3 2) rfl ?_
    refine wp_icmp_ge (fun c9 => ?_) (fun c9 => ?_)
    · rw [if_pos c9] at h
      exact hk v1  M sM h
    · rw [if_neg c9] at h
      refine wp_aload_n (v := ((e0 : Nat) : Int)) rfl (Int.natCast_nonneg _) ?_
      refine y_get (aLand0 he0) (ltLand hS.1.1 he0 0 (by decide)) (v := M e0 3) rfl rfl ?_
      refine wp_iload_n (v := v1) rfl ?_
      obtain ⟨x10, e11, h⟩ := d_bind h
      refine y_callS (as := [(0, (M e0 3)), (0, v1)]) (S1 := []) (Nat.le_of_ble_eq_true rfl) (by omega) (t_X11_hasBit sM e11) (Nat.le_of_ble_eq_true rfl) rfl (Nat.le_of_ble_eq_true rfl) (Nat.le_of_ble_eq_true rfl) rfl ?_
      refine y_nez (fun c12 => ?_) (fun c12 => ?_)
      · rw [if_neg c12] at h
        refine y_blk (t := 103) rfl (show fnd bk_X5_joinNeighbours 103 = some _ from rfl) aB_X5_joinNeighbours ?_
        obtain ⟨c13, h⟩ := d_ite h
        refine y_iinc (L1 := [(2, ((e0 : Nat) : Int)), (0, (v1 + 1))]) rfl (Nat.le_of_ble_eq_true rfl) ⟨by decide, by decide⟩ c13 rfl ?_
        refine wp_goto ?_
        exact ih (v1 + 1)  M sM h
      · rw [if_pos c12] at h
        refine wp_aload_n (v := ((e0 : Nat) : Int)) rfl (Int.natCast_nonneg _) ?_
        refine y_get (aLand0 he0) (ltLand hS.1.1 he0 0 (by decide)) (v := (((e0 + 1) : Nat) : Int)) (rLand1 sM he0) rfl ?_
        refine wp_aload_n (v := ((e0 : Nat) : Int)) rfl (Int.natCast_nonneg _) ?_
        refine y_get (aLand0 he0) (ltLand hS.1.1 he0 0 (by decide)) (v := ((2 : Nat) : Int)) (rLand0 sM he0) rfl ?_
        refine y_get (show ash 2 = (10, 19) from rfl) (Nat.lt_of_lt_of_le (show 2 < 154 by decide) hS.1.1) (v := ((4 : Nat) : Int)) (sM.at 2 5 4 (by decide +kernel)) rfl ?_
        refine wp_iload_n (v := v1) rfl ?_
        obtain ⟨c14, h⟩ := d_ite h
        refine y_iald (show ash 4 = (100, 10) from rfl) (Or.inl (Nat.lt_of_lt_of_le (show 4 < 154 by decide) hS.1.1)) (Nat.ne_of_lt (Nat.lt_of_lt_of_le (Nat.lt_of_lt_of_le (show 4 < 154 by decide) hS.1.1) hS.1.2)) c14 (v := M 4 (v1).toNat) rfl ?_
        refine wp_dup2 ⟨Or.inl rfl, Or.inr rfl⟩ ?_
        obtain ⟨c15, h⟩ := d_ite h
        refine y_iald (aLand1 he0) (Or.inl (ltLand hS.1.1 he0 1 (by decide))) (Nat.ne_of_lt (Nat.lt_of_lt_of_le (ltLand hS.1.1 he0 1 (by decide)) hS.1.2)) c15 (v := M (e0 + 1) ((M 4 (v1).toNat)).toNat) rfl ?_
        refine wp_iconst ⟨by decide, by decide⟩ ?_
        refine wp_aload_n (v := ((e0 : Nat) : Int)) rfl (Int.natCast_nonneg _) ?_
        refine y_get (aLand0 he0) (ltLand hS.1.1 he0 0 (by decide)) (v := ((2 : Nat) : Int)) (rLand0 sM he0) rfl ?_
        refine y_get (show ash 2 = (10, 19) from rfl) (Nat.lt_of_lt_of_le (show 2 < 154 by decide) hS.1.1) (v := ((5 : Nat) : Int)) (sM.at 2 6 5 (by decide +kernel)) rfl ?_
        refine wp_iload_n (v := v1) rfl ?_
        refine y_iald (show ash 5 = (100, 10) from rfl) (Or.inl (Nat.lt_of_lt_of_le (show 5 < 154 by decide) hS.1.1)) (Nat.ne_of_lt (Nat.lt_of_lt_of_le (Nat.lt_of_lt_of_le (show 5 < 154 by decide) hS.1.1) hS.1.2)) c14 (v := M 5 (v1).toNat) rfl ?_
        refine wp_ishl ?_
        refine wp_ior ?_
        refine y_iast (aLand1 he0) (ltLand hS.1.1 he0 1 (by decide)) c15 ?_
        obtain ⟨m16, em16, h⟩ := d_bind h
        have em16 := Option.some.inj em16
        have s17 : Sh T.1 m16 := em16 ▸ sM.up (Or.inl ⟨by rw [(aLand1 he0)]; exact Nat.le_of_ble_eq_true rfl, by rw [(aLand1 he0)]; exact Nat.le_of_ble_eq_true rfl⟩) (by have := (ltLand hS.1.1 he0 1 (by decide)); have := hS.1.2; omega)
        rw [em16]
        refine wp_aload_n (v := ((e0 : Nat) : Int)) rfl (Int.natCast_nonneg _) ?_
        refine y_get (aLand0 he0) (ltLand hS.1.1 he0 0 (by decide)) (v := (((e0 + 1) : Nat) : Int)) (rLand1 s17 he0) rfl ?_
        refine wp_aload_n (v := ((e0 : Nat) : Int)) rfl (Int.natCast_nonneg _) ?_
        refine y_get (aLand0 he0) (ltLand hS.1.1 he0 0 (by decide)) (v := ((2 : Nat) : Int)) (rLand0 s17 he0) rfl ?_
        refine y_get (show ash 2 = (10, 19) from rfl) (Nat.lt_of_lt_of_le (show 2 < 154 by decide) hS.1.1) (v := ((5 : Nat) : Int)) (s17.at 2 6 5 (by decide +kernel)) rfl ?_
        refine wp_iload_n (v := v1) rfl ?_
        refine y_iald (show ash 5 = (100, 10) from rfl) (Or.inl (Nat.lt_of_lt_of_le (show 5 < 154 by decide) hS.1.1)) (Nat.ne_of_lt (Nat.lt_of_lt_of_le (Nat.lt_of_lt_of_le (show 5 < 154 by decide) hS.1.1) hS.1.2)) c14 (v := m16 5 (v1).toNat) rfl ?_
        refine wp_dup2 ⟨Or.inl rfl, Or.inr rfl⟩ ?_
        obtain ⟨c18, h⟩ := d_ite h
        refine y_iald (aLand1 he0) (Or.inl (ltLand hS.1.1 he0 1 (by decide))) (Nat.ne_of_lt (Nat.lt_of_lt_of_le (ltLand hS.1.1 he0 1 (by decide)) hS.1.2)) c18 (v := m16 (e0 + 1) ((m16 5 (v1).toNat)).toNat) rfl ?_
        refine wp_iconst ⟨by decide, by decide⟩ ?_
        refine wp_aload_n (v := ((e0 : Nat) : Int)) rfl (Int.natCast_nonneg _) ?_
        refine y_get (aLand0 he0) (ltLand hS.1.1 he0 0 (by decide)) (v := ((2 : Nat) : Int)) (rLand0 s17 he0) rfl ?_
        refine y_get (show ash 2 = (10, 19) from rfl) (Nat.lt_of_lt_of_le (show 2 < 154 by decide) hS.1.1) (v := ((4 : Nat) : Int)) (s17.at 2 5 4 (by decide +kernel)) rfl ?_
        refine wp_iload_n (v := v1) rfl ?_
        refine y_iald (show ash 4 = (100, 10) from rfl) (Or.inl (Nat.lt_of_lt_of_le (show 4 < 154 by decide) hS.1.1)) (Nat.ne_of_lt (Nat.lt_of_lt_of_le (Nat.lt_of_lt_of_le (show 4 < 154 by decide) hS.1.1) hS.1.2)) c14 (v := m16 4 (v1).toNat) rfl ?_
        refine wp_ishl ?_
        refine wp_ior ?_
        refine y_iast (aLand1 he0) (ltLand hS.1.1 he0 1 (by decide)) c18 ?_
        obtain ⟨m19, em19, h⟩ := d_bind h
        have em19 := Option.some.inj em19
        have s20 : Sh T.1 m19 := em19 ▸ s17.up (Or.inl ⟨by rw [(aLand1 he0)]; exact Nat.le_of_ble_eq_true rfl, by rw [(aLand1 he0)]; exact Nat.le_of_ble_eq_true rfl⟩) (by have := (ltLand hS.1.1 he0 1 (by decide)); have := hS.1.2; omega)
        rw [em19]
        refine y_blk (t := 103) rfl (show fnd bk_X5_joinNeighbours 103 = some _ from rfl) aB_X5_joinNeighbours ?_
        obtain ⟨c21, h⟩ := d_ite h
        refine y_iinc (L1 := [(2, ((e0 : Nat) : Int)), (0, (v1 + 1))]) rfl (Nat.le_of_ble_eq_true rfl) ⟨by decide, by decide⟩ c21 rfl ?_
        refine wp_goto ?_
        exact ih (v1 + 1)  m19 s20 h
def f_X5_joinNeighbours (T : Nat) (e0 : Nat) (M : aM) : Option (Int × aM) :=
 l_X5_joinNeighbours_2 T e0 (fun w6 m7 =>
 l_X5_joinNeighbours_23 T e0 (fun w22 m23 =>
 some (0, m23)) FU 0 m7) FU 0 M
theorem t_X5_joinNeighbours {T : T3} {e0 : Nat} {M : aM} {y : (Int × aM)} (he0 : isLand e0) (hS : Sh T.1 M) (h : f_X5_joinNeighbours T.1 e0 M = some y) : Mr 1 50 [(2, ((e0 : Nat) : Int))] M (none) y.2 T ∧ Sh T.1 y.2 := by
  have key : ∀ d, 1 ≤ d → Wp d 50 0 [] [(2, ((e0 : Nat) : Int)), (9, 0)] [] (M, T) (fun r2 σ2 => r2 = none ∧ σ2 = (y.2, T) ∧ Sh T.1 y.2) := by
    intro d hd
    rw [f_X5_joinNeighbours] at h
    refine y_blk (t := 0) rfl (show fnd bk_X5_joinNeighbours 0 = some _ from rfl) aB_X5_joinNeighbours ?_
    refine wp_iconst ⟨by decide, by decide⟩ ?_
    refine y_stn (L1 := [(2, ((e0 : Nat) : Int)), (0, 0)]) (Nat.le_of_ble_eq_true rfl) rfl ?_
    refine tl_X5_joinNeighbours_2 (by omega) he0 hS (fun w6  m7 s8 h => ?_) FU 0  M hS h
    refine y_blk (t := 21) rfl (show fnd bk_X5_joinNeighbours 21 = some _ from rfl) aB_X5_joinNeighbours ?_
    refine wp_iconst ⟨by decide, by decide⟩ ?_
    refine y_stn (L1 := [(2, ((e0 : Nat) : Int)), (0, 0)]) (Nat.le_of_ble_eq_true rfl) rfl ?_
    refine tl_X5_joinNeighbours_23 (by omega) he0 hS (fun w22  m23 s24 h => ?_) FU 0  m7 s8 h
    refine y_blk (t := 109) rfl (show fnd bk_X5_joinNeighbours 109 = some _ from rfl) aB_X5_joinNeighbours ?_
    cases h
    exact wp_return ⟨rfl, rfl, s24⟩
  exact ⟨fun d hd => Ms.of3 (key d hd), Ms.sh (key 1 (Nat.le_refl _))⟩
theorem aB_X5_lay : ∀ pc, aB 48 pc = fnd bk_X5_lay pc := fun _ => rfl
def l_X5_lay_11 (T : Nat) (e0 : Nat) (k : Int → aM → Option (Int × aM)) : Nat → Int → aM → Option (Int × aM)
| 0, _, _ => none
| n + 1, v2, M =>
 if (M 3 1) ≤ v2 then
 k v2 M else
 (f_X5_measure T e0 v2 M).bind fun x8 =>
 if aIn (v2 + 1) then
 l_X5_lay_11 T e0 k n (v2 + 1) x8.2 else none
theorem tl_X5_lay_11 {d : Nat} (hd : 2 ≤ d) {T : T3} {e0 : Nat} {k : Int → aM → Option (Int × aM)} {y : (Int × aM)} (he0 : isLand e0) {M0 : aM} (hS : Sh T.1 M0)
    (hk : ∀ (v2 : Int) (u1 : aV) (M : aM), Sh T.1 M → k v2 M = some y → Wp d 48 35 [] [(2, ((e0 : Nat) : Int)), u1, (0, v2)] [] (M, T) (fun r2 σ2 => r2 = none ∧ σ2 = (y.2, T) ∧ Sh T.1 y.2)) :
    ∀ (n : Nat) (v2 : Int) (u1 : aV) (M : aM), Sh T.1 M → l_X5_lay_11 T.1 e0 k n v2 M = some y → Wp d 48 11 [] [(2, ((e0 : Nat) : Int)), u1, (0, v2)] [] (M, T) (fun r2 σ2 => r2 = none ∧ σ2 = (y.2, T) ∧ Sh T.1 y.2) := by
  intro n
  induction n with
  | zero =>
    intro v2 u1 M _ h
    exact nomatch (show (none : Option (Int × aM)) = some y from h)
  | succ n ih =>
    intro v2 u1 M sM h
    rw [l_X5_lay_11] at h
    refine y_blk (t := 11) rfl (show fnd bk_X5_lay 11 = some _ from rfl) aB_X5_lay ?_
    refine wp_iload_n (v := v2) rfl ?_
    refine wp_aload_n (v := ((e0 : Nat) : Int)) rfl (Int.natCast_nonneg _) ?_
    refine y_get (aLand0 he0) (ltLand hS.1.1 he0 0 (by decide)) (v := ((2 : Nat) : Int)) (rLand0 sM he0) rfl ?_
    refine y_get (show ash 2 = (10, 19) from rfl) (Nat.lt_of_lt_of_le (show 2 < 154 by decide) hS.1.1) (v := ((3 : Nat) : Int)) (sM.at 2 3 3 (by decide +kernel)) rfl ?_
    refine wp_iconst ⟨by decide, by decide⟩ ?_
    refine y_iald (show ash 3 = (100, 8) from rfl) (Or.inl (Nat.lt_of_lt_of_le (show 3 < 154 by decide) hS.1.1)) (Nat.ne_of_lt (Nat.lt_of_lt_of_le (Nat.lt_of_lt_of_le (show 3 < 154 by decide) hS.1.1) hS.1.2)) ⟨by decide, by decide⟩ (v := M 3 1) rfl ?_
    refine wp_icmp_ge (fun c7 => ?_) (fun c7 => ?_)
    · rw [if_pos c7] at h
      exact hk v2 u1 M sM h
    · rw [if_neg c7] at h
      refine wp_aload_n (v := ((e0 : Nat) : Int)) rfl (Int.natCast_nonneg _) ?_
      refine wp_iload_n (v := v2) rfl ?_
      obtain ⟨x8, e9, h⟩ := d_bind h
      obtain ⟨r10, s11⟩ := t_X5_measure he0 sM e9
      refine y_callVv (as := [(0, v2)]) (S1 := []) (Nat.le_of_ble_eq_true rfl) (by omega) r10 rfl (aLand0 he0) (ltLand hS.1.1 he0 0 (by decide)) (Nat.le_of_ble_eq_true rfl) (Nat.le_of_ble_eq_true rfl) rfl ?_
      obtain ⟨c12, h⟩ := d_ite h
      refine y_iinc (L1 := [(2, ((e0 : Nat) : Int)), (ajk u1), (0, (v2 + 1))]) rfl (Nat.le_of_ble_eq_true rfl) ⟨by decide, by decide⟩ c12 (aset_jk (q := 1) (u := u1) rfl) ?_
      refine wp_goto ?_
      exact ih (v2 + 1) (ajk u1) x8.2 s11 h
def f_X5_lay (T : Nat) (e0 : Nat) (v1 : Int) (M : aM) : Option (Int × aM) :=
 (some (aup M e0 3 v1)).bind fun m1 =>
 (f_X5_joinNeighbours T e0 m1).bind fun x3 =>
 l_X5_lay_11 T e0 (fun w13 m15 =>
 some (0, m15)) FU 0 x3.2
theorem t_X5_lay {T : T3} {e0 : Nat} {v1 : Int} {M : aM} {y : (Int × aM)} (he0 : isLand e0) (hS : Sh T.1 M) (h : f_X5_lay T.1 e0 v1 M = some y) : Mr 2 48 [(2, ((e0 : Nat) : Int)), (0, v1)] M (none) y.2 T ∧ Sh T.1 y.2 := by
  have key : ∀ d, 2 ≤ d → Wp d 48 0 [] [(2, ((e0 : Nat) : Int)), (0, v1), (9, 0)] [] (M, T) (fun r2 σ2 => r2 = none ∧ σ2 = (y.2, T) ∧ Sh T.1 y.2) := by
    intro d hd
    rw [f_X5_lay] at h
    refine y_blk (t := 0) rfl (show fnd bk_X5_lay 0 = some _ from rfl) aB_X5_lay ?_
    refine wp_aload_n (v := ((e0 : Nat) : Int)) rfl (Int.natCast_nonneg _) ?_
    refine wp_iload_n (v := v1) rfl ?_
    refine y_put (aLand0 he0) (ltLand hS.1.1 he0 0 (by decide)) rfl ?_
    obtain ⟨m1, em1, h⟩ := d_bind h
    have em1 := Option.some.inj em1
    have s2 : Sh T.1 m1 := em1 ▸ hS.up (Or.inr ⟨by rw [(aLand0 he0)]; decide, by rw [(aLand0 he0)]; decide⟩) (by have := (ltLand hS.1.1 he0 0 (by decide)); have := hS.1.2; omega)
    rw [em1]
    refine wp_aload_n (v := ((e0 : Nat) : Int)) rfl (Int.natCast_nonneg _) ?_
    obtain ⟨x3, e4, h⟩ := d_bind h
    obtain ⟨r5, s6⟩ := t_X5_joinNeighbours he0 s2 e4
    refine y_callVv (as := []) (S1 := []) (Nat.le_of_ble_eq_true rfl) (by omega) r5 rfl (aLand0 he0) (ltLand hS.1.1 he0 0 (by decide)) (Nat.le_of_ble_eq_true rfl) (Nat.le_of_ble_eq_true rfl) rfl ?_
    refine wp_iconst ⟨by decide, by decide⟩ ?_
    refine y_stn (L1 := [(2, ((e0 : Nat) : Int)), (0, v1), (0, 0)]) (Nat.le_of_ble_eq_true rfl) rfl ?_
    refine tl_X5_lay_11 (by omega) he0 hS (fun w13 u14 m15 s16 h => ?_) FU 0 (0, v1) x3.2 s6 h
    refine y_blk (t := 35) rfl (show fnd bk_X5_lay 35 = some _ from rfl) aB_X5_lay ?_
    cases h
    exact wp_return ⟨rfl, rfl, s16⟩
  exact ⟨fun d hd => Ms.of3 (key d hd), Ms.sh (key 2 (Nat.le_refl _))⟩
theorem aB_X5_lastFrom : ∀ pc, aB 56 pc = fnd bk_X5_lastFrom pc := fun _ => rfl
def l_X5_lastFrom_4 (T : Nat) (e0 : Nat) (v1 : Int) (M : aM) (k : Int → Int → Option Int) : Nat → Int → Int → Option Int
| 0, _, _ => none
| n + 1, v2, v3 =>
 if (M 3 1) ≤ v3 then
 k v2 v3 else
 (f_X5_span T e0 v1 v3 M).bind fun x2 =>
 if 1000000 ≤ x2 then
 if aIn (v3 + 1) then
 l_X5_lastFrom_4 T e0 v1 M k n v2 (v3 + 1) else none else
 (f_X5_span T e0 v1 v3 M).bind fun x6 =>
 (f_X5_span T e0 v1 v2 M).bind fun x8 =>
 if x6 ≤ x8 then
 if aIn (v3 + 1) then
 l_X5_lastFrom_4 T e0 v1 M k n v2 (v3 + 1) else none else
 if aIn (v3 + 1) then
 l_X5_lastFrom_4 T e0 v1 M k n v3 (v3 + 1) else none
theorem tl_X5_lastFrom_4 {d : Nat} (hd : 1 ≤ d) {T : T3} {e0 : Nat} {v1 : Int} {M : aM} {k : Int → Int → Option Int} {y : Int} (he0 : isLand e0) (hS : Sh T.1 M)
    (hk : ∀ (v2 v3 : Int), Sh T.1 M → k v2 v3 = some y → Wp d 56 51 [] [(2, ((e0 : Nat) : Int)), (0, v1), (0, v2), (0, v3)] [] (M, T) (fun r2 σ2 => r2 = some (0, y) ∧ σ2 = (M, T))) :
    ∀ (n : Nat) (v2 v3 : Int), Sh T.1 M → l_X5_lastFrom_4 T.1 e0 v1 M k n v2 v3 = some y → Wp d 56 4 [] [(2, ((e0 : Nat) : Int)), (0, v1), (0, v2), (0, v3)] [] (M, T) (fun r2 σ2 => r2 = some (0, y) ∧ σ2 = (M, T)) := by
  intro n
  induction n with
  | zero =>
    intro v2 v3 _ h
    exact nomatch (show (none : Option Int) = some y from h)
  | succ n ih =>
    intro v2 v3 sM h
    rw [l_X5_lastFrom_4] at h
    refine y_blk (t := 4) rfl (show fnd bk_X5_lastFrom 4 = some _ from rfl) aB_X5_lastFrom ?_
    refine wp_iload_n (v := v3) rfl ?_
    refine wp_aload_n (v := ((e0 : Nat) : Int)) rfl (Int.natCast_nonneg _) ?_
    refine y_get (aLand0 he0) (ltLand hS.1.1 he0 0 (by decide)) (v := ((2 : Nat) : Int)) (rLand0 sM he0) rfl ?_
    refine y_get (show ash 2 = (10, 19) from rfl) (Nat.lt_of_lt_of_le (show 2 < 154 by decide) hS.1.1) (v := ((3 : Nat) : Int)) (sM.at 2 3 3 (by decide +kernel)) rfl ?_
    refine wp_iconst ⟨by decide, by decide⟩ ?_
    refine y_iald (show ash 3 = (100, 8) from rfl) (Or.inl (Nat.lt_of_lt_of_le (show 3 < 154 by decide) hS.1.1)) (Nat.ne_of_lt (Nat.lt_of_lt_of_le (Nat.lt_of_lt_of_le (show 3 < 154 by decide) hS.1.1) hS.1.2)) ⟨by decide, by decide⟩ (v := M 3 1) rfl ?_
    refine wp_icmp_ge (fun c1 => ?_) (fun c1 => ?_)
    · rw [if_pos c1] at h
      exact hk v2 v3   sM h
    · rw [if_neg c1] at h
      refine wp_aload_n (v := ((e0 : Nat) : Int)) rfl (Int.natCast_nonneg _) ?_
      refine wp_iload_n (v := v1) rfl ?_
      refine wp_iload_n (v := v3) rfl ?_
      obtain ⟨x2, e3, h⟩ := d_bind h
      refine y_callV (as := [(0, v1), (0, v3)]) (S1 := []) (Nat.le_of_ble_eq_true rfl) (by omega) (t_X5_span he0 sM e3) (Nat.le_of_ble_eq_true rfl) rfl (aLand0 he0) (ltLand hS.1.1 he0 0 (by decide)) (Nat.le_of_ble_eq_true rfl) (Nat.le_of_ble_eq_true rfl) rfl ?_
      refine y_ldc (v := 1000000) (by decide) rfl ?_
      refine wp_icmp_ge (fun c4 => ?_) (fun c4 => ?_)
      · rw [if_pos c4] at h
        refine y_blk (t := 45) rfl (show fnd bk_X5_lastFrom 45 = some _ from rfl) aB_X5_lastFrom ?_
        obtain ⟨c5, h⟩ := d_ite h
        refine y_iinc (L1 := [(2, ((e0 : Nat) : Int)), (0, v1), (0, v2), (0, (v3 + 1))]) rfl (Nat.le_of_ble_eq_true rfl) ⟨by decide, by decide⟩ c5 rfl ?_
        refine wp_goto ?_
        exact ih v2 (v3 + 1)   sM h
      · rw [if_neg c4] at h
        refine wp_aload_n (v := ((e0 : Nat) : Int)) rfl (Int.natCast_nonneg _) ?_
        refine wp_iload_n (v := v1) rfl ?_
        refine wp_iload_n (v := v3) rfl ?_
        obtain ⟨x6, e7, h⟩ := d_bind h
        refine y_callV (as := [(0, v1), (0, v3)]) (S1 := []) (Nat.le_of_ble_eq_true rfl) (by omega) (t_X5_span he0 sM e7) (Nat.le_of_ble_eq_true rfl) rfl (aLand0 he0) (ltLand hS.1.1 he0 0 (by decide)) (Nat.le_of_ble_eq_true rfl) (Nat.le_of_ble_eq_true rfl) rfl ?_
        refine wp_aload_n (v := ((e0 : Nat) : Int)) rfl (Int.natCast_nonneg _) ?_
        refine wp_iload_n (v := v1) rfl ?_
        refine wp_iload_n (v := v2) rfl ?_
        obtain ⟨x8, e9, h⟩ := d_bind h
        refine y_callV (as := [(0, v1), (0, v2)]) (S1 := [(0, x6)]) (Nat.le_of_ble_eq_true rfl) (by omega) (t_X5_span he0 sM e9) (Nat.le_of_ble_eq_true rfl) rfl (aLand0 he0) (ltLand hS.1.1 he0 0 (by decide)) (Nat.le_of_ble_eq_true rfl) (Nat.le_of_ble_eq_true rfl) rfl ?_
        refine wp_icmp_le (fun c10 => ?_) (fun c10 => ?_)
        · rw [if_pos c10] at h
          refine y_blk (t := 45) rfl (show fnd bk_X5_lastFrom 45 = some _ from rfl) aB_X5_lastFrom ?_
          obtain ⟨c11, h⟩ := d_ite h
          refine y_iinc (L1 := [(2, ((e0 : Nat) : Int)), (0, v1), (0, v2), (0, (v3 + 1))]) rfl (Nat.le_of_ble_eq_true rfl) ⟨by decide, by decide⟩ c11 rfl ?_
          refine wp_goto ?_
          exact ih v2 (v3 + 1)   sM h
        · rw [if_neg c10] at h
          refine wp_iload_n (v := v3) rfl ?_
          refine y_stn (L1 := [(2, ((e0 : Nat) : Int)), (0, v1), (0, v3), (0, v3)]) (Nat.le_of_ble_eq_true rfl) rfl ?_
          refine y_blk (t := 45) rfl (show fnd bk_X5_lastFrom 45 = some _ from rfl) aB_X5_lastFrom ?_
          obtain ⟨c12, h⟩ := d_ite h
          refine y_iinc (L1 := [(2, ((e0 : Nat) : Int)), (0, v1), (0, v3), (0, (v3 + 1))]) rfl (Nat.le_of_ble_eq_true rfl) ⟨by decide, by decide⟩ c12 rfl ?_
          refine wp_goto ?_
          exact ih v3 (v3 + 1)   sM h
def f_X5_lastFrom (T : Nat) (e0 : Nat) (v1 : Int) (M : aM) : Option Int :=
 l_X5_lastFrom_4 T e0 v1 M (fun w13 w14 =>
 some w13) FU v1 0
theorem t_X5_lastFrom {T : T3} {e0 : Nat} {v1 : Int} {M : aM} {y : Int} (he0 : isLand e0) (hS : Sh T.1 M) (h : f_X5_lastFrom T.1 e0 v1 M = some y) : Mr 1 56 [(2, ((e0 : Nat) : Int)), (0, v1)] M (some (0, y)) M T := by
  have key : ∀ d, 1 ≤ d → Wp d 56 0 [] [(2, ((e0 : Nat) : Int)), (0, v1), (9, 0), (9, 0)] [] (M, T) (fun r2 σ2 => r2 = some (0, y) ∧ σ2 = (M, T)) := by
    intro d hd
    rw [f_X5_lastFrom] at h
    refine y_blk (t := 0) rfl (show fnd bk_X5_lastFrom 0 = some _ from rfl) aB_X5_lastFrom ?_
    refine wp_iload_n (v := v1) rfl ?_
    refine y_stn (L1 := [(2, ((e0 : Nat) : Int)), (0, v1), (0, v1), (9, 0)]) (Nat.le_of_ble_eq_true rfl) rfl ?_
    refine wp_iconst ⟨by decide, by decide⟩ ?_
    refine y_stn (L1 := [(2, ((e0 : Nat) : Int)), (0, v1), (0, v1), (0, 0)]) (Nat.le_of_ble_eq_true rfl) rfl ?_
    refine tl_X5_lastFrom_4 (by omega) he0 hS (fun w13 w14   s15 h => ?_) FU v1 0   hS h
    refine y_blk (t := 51) rfl (show fnd bk_X5_lastFrom 51 = some _ from rfl) aB_X5_lastFrom ?_
    refine wp_iload_n (v := w13) rfl ?_
    cases h
    exact y_ret0 (Or.inl rfl) ⟨rfl, rfl⟩
  exact fun d hd => Ms.of (key d hd)
theorem aB_X5_joinedTo : ∀ pc, aB 57 pc = fnd bk_X5_joinedTo pc := fun _ => rfl
def l_X5_joinedTo_29 (T : Nat) (e0 : Nat) (v2 : Int) (v4 : Int) (v5 : Int) (v6 : Int) (M : aM) (k : Int → Int → Option Int) : Nat → Int → Int → Option Int
| 0, _, _ => none
| n + 1, v3, v7 =>
 if (M 3 1) ≤ v7 then
 k v3 v7 else
 (f_X11_hasBit T (aand v6 (axor v4 (-1))) v7 M).bind fun x4 =>
 if x4 = 0 then
 if aIn (v7 + 1) then
 l_X5_joinedTo_29 T e0 v2 v4 v5 v6 M k n v3 (v7 + 1) else none else
 if 0 ≤ v7 ∧ v7 < 8 then
 if aIn (v7 + 1) then
 l_X5_joinedTo_29 T e0 v2 v4 v5 v6 M k n (aor v3 (aand (M (e0 + 1) (v7).toNat) (axor v2 (-1)))) (v7 + 1) else none else none
theorem tl_X5_joinedTo_29 {d : Nat} (hd : 1 ≤ d) {T : T3} {e0 : Nat} {v2 : Int} {v4 : Int} {v5 : Int} {v6 : Int} {M : aM} {k : Int → Int → Option Int} {y : Int} (he0 : isLand e0) (hS : Sh T.1 M)
    (hk : ∀ (v3 v7 : Int) (u1 : aV), Sh T.1 M → k v3 v7 = some y → Wp d 57 78 [] [(2, ((e0 : Nat) : Int)), u1, (0, v2), (0, v3), (0, v4), (0, v5), (0, v6), (0, v7)] [] (M, T) (fun r2 σ2 => r2 = some (0, y) ∧ σ2 = (M, T))) :
    ∀ (n : Nat) (v3 v7 : Int) (u1 : aV), Sh T.1 M → l_X5_joinedTo_29 T.1 e0 v2 v4 v5 v6 M k n v3 v7 = some y → Wp d 57 29 [] [(2, ((e0 : Nat) : Int)), u1, (0, v2), (0, v3), (0, v4), (0, v5), (0, v6), (0, v7)] [] (M, T) (fun r2 σ2 => r2 = some (0, y) ∧ σ2 = (M, T)) := by
  intro n
  induction n with
  | zero =>
    intro v3 v7 u1 _ h
    exact nomatch (show (none : Option Int) = some y from h)
  | succ n ih =>
    intro v3 v7 u1 sM h
    rw [l_X5_joinedTo_29] at h
    refine y_blk (t := 29) rfl (show fnd bk_X5_joinedTo 29 = some _ from rfl) aB_X5_joinedTo ?_
    refine wp_iload (v := v7) rfl ?_
    refine wp_aload_n (v := ((e0 : Nat) : Int)) rfl (Int.natCast_nonneg _) ?_
    refine y_get (aLand0 he0) (ltLand hS.1.1 he0 0 (by decide)) (v := ((2 : Nat) : Int)) (rLand0 sM he0) rfl ?_
    refine y_get (show ash 2 = (10, 19) from rfl) (Nat.lt_of_lt_of_le (show 2 < 154 by decide) hS.1.1) (v := ((3 : Nat) : Int)) (sM.at 2 3 3 (by decide +kernel)) rfl ?_
    refine wp_iconst ⟨by decide, by decide⟩ ?_
    refine y_iald (show ash 3 = (100, 8) from rfl) (Or.inl (Nat.lt_of_lt_of_le (show 3 < 154 by decide) hS.1.1)) (Nat.ne_of_lt (Nat.lt_of_lt_of_le (Nat.lt_of_lt_of_le (show 3 < 154 by decide) hS.1.1) hS.1.2)) ⟨by decide, by decide⟩ (v := M 3 1) rfl ?_
    refine wp_icmp_ge (fun c3 => ?_) (fun c3 => ?_)
    · rw [if_pos c3] at h
      exact hk v3 v7 u1  sM h
    · rw [if_neg c3] at h
      refine wp_iload (v := v6) rfl ?_
      refine wp_iload (v := v4) rfl ?_
      refine wp_iconst ⟨by decide, by decide⟩ ?_
      refine wp_ixor ?_
      refine wp_iand ?_
      refine wp_iload (v := v7) rfl ?_
      obtain ⟨x4, e5, h⟩ := d_bind h
      refine y_callS (as := [(0, (aand v6 (axor v4 (-1)))), (0, v7)]) (S1 := []) (Nat.le_of_ble_eq_true rfl) (by omega) (t_X11_hasBit sM e5) (Nat.le_of_ble_eq_true rfl) rfl (Nat.le_of_ble_eq_true rfl) (Nat.le_of_ble_eq_true rfl) rfl ?_
      refine wp_if_eq (fun c6 => ?_) (fun c6 => ?_)
      · rw [if_pos c6] at h
        refine y_blk (t := 72) rfl (show fnd bk_X5_joinedTo 72 = some _ from rfl) aB_X5_joinedTo ?_
        obtain ⟨c7, h⟩ := d_ite h
        refine y_iinc (L1 := [(2, ((e0 : Nat) : Int)), u1, (0, v2), (0, v3), (0, v4), (0, v5), (0, v6), (0, (v7 + 1))]) rfl (Nat.le_of_ble_eq_true rfl) ⟨by decide, by decide⟩ c7 rfl ?_
        refine wp_goto ?_
        exact ih v3 (v7 + 1) u1  sM h
      · rw [if_neg c6] at h
        refine wp_iload_n (v := v3) rfl ?_
        refine wp_aload_n (v := ((e0 : Nat) : Int)) rfl (Int.natCast_nonneg _) ?_
        refine y_get (aLand0 he0) (ltLand hS.1.1 he0 0 (by decide)) (v := (((e0 + 1) : Nat) : Int)) (rLand1 sM he0) rfl ?_
        refine wp_iload (v := v7) rfl ?_
        obtain ⟨c8, h⟩ := d_ite h
        refine y_iald (aLand1 he0) (Or.inl (ltLand hS.1.1 he0 1 (by decide))) (Nat.ne_of_lt (Nat.lt_of_lt_of_le (ltLand hS.1.1 he0 1 (by decide)) hS.1.2)) c8 (v := M (e0 + 1) (v7).toNat) rfl ?_
        refine wp_iload_n (v := v2) rfl ?_
        refine wp_iconst ⟨by decide, by decide⟩ ?_
        refine wp_ixor ?_
        refine wp_iand ?_
        refine wp_ior ?_
        refine y_stn (L1 := [(2, ((e0 : Nat) : Int)), u1, (0, v2), (0, (aor v3 (aand (M (e0 + 1) (v7).toNat) (axor v2 (-1))))), (0, v4), (0, v5), (0, v6), (0, v7)]) (Nat.le_of_ble_eq_true rfl) rfl ?_
        refine y_blk (t := 72) rfl (show fnd bk_X5_joinedTo 72 = some _ from rfl) aB_X5_joinedTo ?_
        obtain ⟨c9, h⟩ := d_ite h
        refine y_iinc (L1 := [(2, ((e0 : Nat) : Int)), u1, (0, v2), (0, (aor v3 (aand (M (e0 + 1) (v7).toNat) (axor v2 (-1))))), (0, v4), (0, v5), (0, v6), (0, (v7 + 1))]) rfl (Nat.le_of_ble_eq_true rfl) ⟨by decide, by decide⟩ c9 rfl ?_
        refine wp_goto ?_
        exact ih (aor v3 (aand (M (e0 + 1) (v7).toNat) (axor v2 (-1)))) (v7 + 1) u1  sM h
def l_X5_joinedTo_10 (T : Nat) (e0 : Nat) (v2 : Int) (M : aM) (k : Int → Int → Int → Option Int) : Nat → Int → Int → Int → Option Int
| 0, _, _, _ => none
| n + 1, v3, v4, v5 =>
 if 8 ≤ v5 then
 k v3 v4 v5 else
 if v4 = v3 then
 k v3 v4 v5 else
 l_X5_joinedTo_29 T e0 v2 v4 v5 v3 M (fun w10 w11 =>
 if aIn (v5 + 1) then
 l_X5_joinedTo_10 T e0 v2 M k n w10 v3 (v5 + 1) else none) FU v3 0
theorem tl_X5_joinedTo_10 {d : Nat} (hd : 1 ≤ d) {T : T3} {e0 : Nat} {v2 : Int} {M : aM} {k : Int → Int → Int → Option Int} {y : Int} (he0 : isLand e0) (hS : Sh T.1 M)
    (hk : ∀ (v3 v4 v5 : Int) (u1 u6 u7 : aV), Sh T.1 M → k v3 v4 v5 = some y → Wp d 57 88 [] [(2, ((e0 : Nat) : Int)), u1, (0, v2), (0, v3), (0, v4), (0, v5), u6, u7] [] (M, T) (fun r2 σ2 => r2 = some (0, y) ∧ σ2 = (M, T))) :
    ∀ (n : Nat) (v3 v4 v5 : Int) (u1 u6 u7 : aV), Sh T.1 M → l_X5_joinedTo_10 T.1 e0 v2 M k n v3 v4 v5 = some y → Wp d 57 10 [] [(2, ((e0 : Nat) : Int)), u1, (0, v2), (0, v3), (0, v4), (0, v5), u6, u7] [] (M, T) (fun r2 σ2 => r2 = some (0, y) ∧ σ2 = (M, T)) := by
  intro n
  induction n with
  | zero =>
    intro v3 v4 v5 u1 u6 u7 _ h
    exact nomatch (show (none : Option Int) = some y from h)
  | succ n ih =>
    intro v3 v4 v5 u1 u6 u7 sM h
    rw [l_X5_joinedTo_10] at h
    refine y_blk (t := 10) rfl (show fnd bk_X5_joinedTo 10 = some _ from rfl) aB_X5_joinedTo ?_
    refine wp_iload (v := v5) rfl ?_
    refine wp_bipush (by decide) ?_
    refine wp_icmp_ge (fun c1 => ?_) (fun c1 => ?_)
    · rw [if_pos c1] at h
      exact hk v3 v4 v5 u1 u6 u7  sM h
    · rw [if_neg c1] at h
      refine wp_iload (v := v4) rfl ?_
      refine wp_iload_n (v := v3) rfl ?_
      refine wp_icmp_eq (fun c2 => ?_) (fun c2 => ?_)
      · rw [if_pos c2] at h
        exact hk v3 v4 v5 u1 u6 u7  sM h
      · rw [if_neg c2] at h
        refine wp_iload_n (v := v3) rfl ?_
        refine y_st (L1 := [(2, ((e0 : Nat) : Int)), u1, (0, v2), (0, v3), (0, v4), (0, v5), (0, v3), u7]) (Nat.le_of_ble_eq_true rfl) rfl ?_
        refine wp_iconst ⟨by decide, by decide⟩ ?_
        refine y_st (L1 := [(2, ((e0 : Nat) : Int)), u1, (0, v2), (0, v3), (0, v4), (0, v5), (0, v3), (0, 0)]) (Nat.le_of_ble_eq_true rfl) rfl ?_
        refine tl_X5_joinedTo_29 (by omega) he0 sM (fun w10 w11 u12  s13 h => ?_) FU v3 0 u1  sM h
        refine y_blk (t := 78) rfl (show fnd bk_X5_joinedTo 78 = some _ from rfl) aB_X5_joinedTo ?_
        refine wp_iload (v := v3) rfl ?_
        refine y_st (L1 := [(2, ((e0 : Nat) : Int)), u12, (0, v2), (0, w10), (0, v3), (0, v5), (0, v3), (0, w11)]) (Nat.le_of_ble_eq_true rfl) rfl ?_
        obtain ⟨c14, h⟩ := d_ite h
        refine y_iinc (L1 := [(2, ((e0 : Nat) : Int)), u12, (0, v2), (0, w10), (0, v3), (0, (v5 + 1)), (0, v3), (0, w11)]) rfl (Nat.le_of_ble_eq_true rfl) ⟨by decide, by decide⟩ c14 rfl ?_
        refine wp_goto ?_
        exact ih w10 v3 (v5 + 1) u12 (0, v3) (0, w11)  s13 h
def f_X5_joinedTo (T : Nat) (e0 : Nat) (v1 : Int) (v2 : Int) (M : aM) : Option Int :=
 l_X5_joinedTo_10 T e0 v2 M (fun w15 w16 w17 =>
 some w15) FU (ashl 1 v1) 0 0
theorem t_X5_joinedTo {T : T3} {e0 : Nat} {v1 : Int} {v2 : Int} {M : aM} {y : Int} (he0 : isLand e0) (hS : Sh T.1 M) (h : f_X5_joinedTo T.1 e0 v1 v2 M = some y) : Mr 1 57 [(2, ((e0 : Nat) : Int)), (0, v1), (0, v2)] M (some (0, y)) M T := by
  have key : ∀ d, 1 ≤ d → Wp d 57 0 [] [(2, ((e0 : Nat) : Int)), (0, v1), (0, v2), (9, 0), (9, 0), (9, 0), (9, 0), (9, 0)] [] (M, T) (fun r2 σ2 => r2 = some (0, y) ∧ σ2 = (M, T)) := by
    intro d hd
    rw [f_X5_joinedTo] at h
    refine y_blk (t := 0) rfl (show fnd bk_X5_joinedTo 0 = some _ from rfl) aB_X5_joinedTo ?_
    refine wp_iconst ⟨by decide, by decide⟩ ?_
    refine wp_iload_n (v := v1) rfl ?_
    refine wp_ishl ?_
    refine y_stn (L1 := [(2, ((e0 : Nat) : Int)), (0, v1), (0, v2), (0, (ashl 1 v1)), (9, 0), (9, 0), (9, 0), (9, 0)]) (Nat.le_of_ble_eq_true rfl) rfl ?_
    refine wp_iconst ⟨by decide, by decide⟩ ?_
    refine y_st (L1 := [(2, ((e0 : Nat) : Int)), (0, v1), (0, v2), (0, (ashl 1 v1)), (0, 0), (9, 0), (9, 0), (9, 0)]) (Nat.le_of_ble_eq_true rfl) rfl ?_
    refine wp_iconst ⟨by decide, by decide⟩ ?_
    refine y_st (L1 := [(2, ((e0 : Nat) : Int)), (0, v1), (0, v2), (0, (ashl 1 v1)), (0, 0), (0, 0), (9, 0), (9, 0)]) (Nat.le_of_ble_eq_true rfl) rfl ?_
    refine tl_X5_joinedTo_10 (by omega) he0 hS (fun w15 w16 w17 u18 u19 u20  s21 h => ?_) FU (ashl 1 v1) 0 0 (0, v1) (9, 0) (9, 0)  hS h
    refine y_blk (t := 88) rfl (show fnd bk_X5_joinedTo 88 = some _ from rfl) aB_X5_joinedTo ?_
    refine wp_iload_n (v := w15) rfl ?_
    cases h
    exact y_ret0 (Or.inl rfl) ⟨rfl, rfl⟩
  exact fun d hd => Ms.of (key d hd)
theorem aB_X5_countParts : ∀ pc, aB 58 pc = fnd bk_X5_countParts pc := fun _ => rfl
def l_X5_countParts_6 (T : Nat) (e0 : Nat) (M : aM) (k : Int → Int → Int → Option Int) : Nat → Int → Int → Int → Option Int
| 0, _, _, _ => none
| n + 1, v1, v2, v3 =>
 if (M 3 1) ≤ v3 then
 k v1 v2 v3 else
 (f_X11_hasBit T v2 v3 M).bind fun x2 =>
 if x2 = 0 then
 if aIn (v1 + 1) then
 (f_X5_joinedTo T e0 v3 0 M).bind fun x7 =>
 if aIn (v3 + 1) then
 l_X5_countParts_6 T e0 M k n (v1 + 1) (aor v2 x7) (v3 + 1) else none else none else
 if aIn (v3 + 1) then
 l_X5_countParts_6 T e0 M k n v1 v2 (v3 + 1) else none
theorem tl_X5_countParts_6 {d : Nat} (hd : 2 ≤ d) {T : T3} {e0 : Nat} {M : aM} {k : Int → Int → Int → Option Int} {y : Int} (he0 : isLand e0) (hS : Sh T.1 M)
    (hk : ∀ (v1 v2 v3 : Int), Sh T.1 M → k v1 v2 v3 = some y → Wp d 58 45 [] [(2, ((e0 : Nat) : Int)), (0, v1), (0, v2), (0, v3)] [] (M, T) (fun r2 σ2 => r2 = some (0, y) ∧ σ2 = (M, T))) :
    ∀ (n : Nat) (v1 v2 v3 : Int), Sh T.1 M → l_X5_countParts_6 T.1 e0 M k n v1 v2 v3 = some y → Wp d 58 6 [] [(2, ((e0 : Nat) : Int)), (0, v1), (0, v2), (0, v3)] [] (M, T) (fun r2 σ2 => r2 = some (0, y) ∧ σ2 = (M, T)) := by
  intro n
  induction n with
  | zero =>
    intro v1 v2 v3 _ h
    exact nomatch (show (none : Option Int) = some y from h)
  | succ n ih =>
    intro v1 v2 v3 sM h
    rw [l_X5_countParts_6] at h
    refine y_blk (t := 6) rfl (show fnd bk_X5_countParts 6 = some _ from rfl) aB_X5_countParts ?_
    refine wp_iload_n (v := v3) rfl ?_
    refine wp_aload_n (v := ((e0 : Nat) : Int)) rfl (Int.natCast_nonneg _) ?_
    refine y_get (aLand0 he0) (ltLand hS.1.1 he0 0 (by decide)) (v := ((2 : Nat) : Int)) (rLand0 sM he0) rfl ?_
    refine y_get (show ash 2 = (10, 19) from rfl) (Nat.lt_of_lt_of_le (show 2 < 154 by decide) hS.1.1) (v := ((3 : Nat) : Int)) (sM.at 2 3 3 (by decide +kernel)) rfl ?_
    refine wp_iconst ⟨by decide, by decide⟩ ?_
    refine y_iald (show ash 3 = (100, 8) from rfl) (Or.inl (Nat.lt_of_lt_of_le (show 3 < 154 by decide) hS.1.1)) (Nat.ne_of_lt (Nat.lt_of_lt_of_le (Nat.lt_of_lt_of_le (show 3 < 154 by decide) hS.1.1) hS.1.2)) ⟨by decide, by decide⟩ (v := M 3 1) rfl ?_
    refine wp_icmp_ge (fun c1 => ?_) (fun c1 => ?_)
    · rw [if_pos c1] at h
      exact hk v1 v2 v3   sM h
    · rw [if_neg c1] at h
      refine wp_iload_n (v := v2) rfl ?_
      refine wp_iload_n (v := v3) rfl ?_
      obtain ⟨x2, e3, h⟩ := d_bind h
      refine y_callS (as := [(0, v2), (0, v3)]) (S1 := []) (Nat.le_of_ble_eq_true rfl) (by omega) (t_X11_hasBit sM e3) (Nat.le_of_ble_eq_true rfl) rfl (Nat.le_of_ble_eq_true rfl) (Nat.le_of_ble_eq_true rfl) rfl ?_
      refine y_nez (fun c4 => ?_) (fun c4 => ?_)
      · rw [if_neg c4] at h
        refine y_blk (t := 39) rfl (show fnd bk_X5_countParts 39 = some _ from rfl) aB_X5_countParts ?_
        obtain ⟨c5, h⟩ := d_ite h
        refine y_iinc (L1 := [(2, ((e0 : Nat) : Int)), (0, v1), (0, v2), (0, (v3 + 1))]) rfl (Nat.le_of_ble_eq_true rfl) ⟨by decide, by decide⟩ c5 rfl ?_
        refine wp_goto ?_
        exact ih v1 v2 (v3 + 1)   sM h
      · rw [if_pos c4] at h
        obtain ⟨c6, h⟩ := d_ite h
        refine y_iinc (L1 := [(2, ((e0 : Nat) : Int)), (0, (v1 + 1)), (0, v2), (0, v3)]) rfl (Nat.le_of_ble_eq_true rfl) ⟨by decide, by decide⟩ c6 rfl ?_
        refine wp_iload_n (v := v2) rfl ?_
        refine wp_aload_n (v := ((e0 : Nat) : Int)) rfl (Int.natCast_nonneg _) ?_
        refine wp_iload_n (v := v3) rfl ?_
        refine wp_iconst ⟨by decide, by decide⟩ ?_
        obtain ⟨x7, e8, h⟩ := d_bind h
        refine y_callV (as := [(0, v3), (0, 0)]) (S1 := [(0, v2)]) (Nat.le_of_ble_eq_true rfl) (by omega) (t_X5_joinedTo he0 sM e8) (Nat.le_of_ble_eq_true rfl) rfl (aLand0 he0) (ltLand hS.1.1 he0 0 (by decide)) (Nat.le_of_ble_eq_true rfl) (Nat.le_of_ble_eq_true rfl) rfl ?_
        refine wp_ior ?_
        refine y_stn (L1 := [(2, ((e0 : Nat) : Int)), (0, (v1 + 1)), (0, (aor v2 x7)), (0, v3)]) (Nat.le_of_ble_eq_true rfl) rfl ?_
        refine y_blk (t := 39) rfl (show fnd bk_X5_countParts 39 = some _ from rfl) aB_X5_countParts ?_
        obtain ⟨c9, h⟩ := d_ite h
        refine y_iinc (L1 := [(2, ((e0 : Nat) : Int)), (0, (v1 + 1)), (0, (aor v2 x7)), (0, (v3 + 1))]) rfl (Nat.le_of_ble_eq_true rfl) ⟨by decide, by decide⟩ c9 rfl ?_
        refine wp_goto ?_
        exact ih (v1 + 1) (aor v2 x7) (v3 + 1)   sM h
def f_X5_countParts (T : Nat) (e0 : Nat) (M : aM) : Option Int :=
 l_X5_countParts_6 T e0 M (fun w10 w11 w12 =>
 some w10) FU 0 0 0
theorem t_X5_countParts {T : T3} {e0 : Nat} {M : aM} {y : Int} (he0 : isLand e0) (hS : Sh T.1 M) (h : f_X5_countParts T.1 e0 M = some y) : Mr 2 58 [(2, ((e0 : Nat) : Int))] M (some (0, y)) M T := by
  have key : ∀ d, 2 ≤ d → Wp d 58 0 [] [(2, ((e0 : Nat) : Int)), (9, 0), (9, 0), (9, 0)] [] (M, T) (fun r2 σ2 => r2 = some (0, y) ∧ σ2 = (M, T)) := by
    intro d hd
    rw [f_X5_countParts] at h
    refine y_blk (t := 0) rfl (show fnd bk_X5_countParts 0 = some _ from rfl) aB_X5_countParts ?_
    refine wp_iconst ⟨by decide, by decide⟩ ?_
    refine y_stn (L1 := [(2, ((e0 : Nat) : Int)), (0, 0), (9, 0), (9, 0)]) (Nat.le_of_ble_eq_true rfl) rfl ?_
    refine wp_iconst ⟨by decide, by decide⟩ ?_
    refine y_stn (L1 := [(2, ((e0 : Nat) : Int)), (0, 0), (0, 0), (9, 0)]) (Nat.le_of_ble_eq_true rfl) rfl ?_
    refine wp_iconst ⟨by decide, by decide⟩ ?_
    refine y_stn (L1 := [(2, ((e0 : Nat) : Int)), (0, 0), (0, 0), (0, 0)]) (Nat.le_of_ble_eq_true rfl) rfl ?_
    refine tl_X5_countParts_6 (by omega) he0 hS (fun w10 w11 w12   s13 h => ?_) FU 0 0 0   hS h
    refine y_blk (t := 45) rfl (show fnd bk_X5_countParts 45 = some _ from rfl) aB_X5_countParts ?_
    refine wp_iload_n (v := w10) rfl ?_
    cases h
    exact y_ret0 (Or.inl rfl) ⟨rfl, rfl⟩
  exact fun d hd => Ms.of (key d hd)
theorem aB_X5_lossWithout : ∀ pc, aB 60 pc = fnd bk_X5_lossWithout pc := fun _ => rfl
def l_X5_lossWithout_9 (T : Nat) (e0 : Nat) (v1 : Int) (v2 : Int) (M : aM) (k : Int → Int → Option Int) : Nat → Int → Int → Option Int
| 0, _, _ => none
| n + 1, v3, v4 =>
 if (M 3 1) ≤ v4 then
 k v3 v4 else
 if v4 = v1 then
 if aIn (v4 + 1) then
 l_X5_lossWithout_9 T e0 v1 v2 M k n v3 (v4 + 1) else none else
 (f_X5_joinedTo T e0 v4 0 M).bind fun x4 =>
 (f_X5_joinedTo T e0 v4 v2 M).bind fun x6 =>
 (f_J6_bitCount_0f7a4 T (aand (aand x4 (axor v2 (-1))) (axor x6 (-1))) M).bind fun x8 =>
 if aIn (v3 + x8) then
 if aIn (v4 + 1) then
 l_X5_lossWithout_9 T e0 v1 v2 M k n (v3 + x8) (v4 + 1) else none else none
theorem tl_X5_lossWithout_9 {d : Nat} (hd : 2 ≤ d) {T : T3} {e0 : Nat} {v1 : Int} {v2 : Int} {M : aM} {k : Int → Int → Option Int} {y : Int} (he0 : isLand e0) (hS : Sh T.1 M)
    (hk : ∀ (v3 v4 : Int), Sh T.1 M → k v3 v4 = some y → Wp d 60 62 [] [(2, ((e0 : Nat) : Int)), (0, v1), (0, v2), (0, v3), (0, v4)] [] (M, T) (fun r2 σ2 => r2 = some (0, y) ∧ σ2 = (M, T))) :
    ∀ (n : Nat) (v3 v4 : Int), Sh T.1 M → l_X5_lossWithout_9 T.1 e0 v1 v2 M k n v3 v4 = some y → Wp d 60 9 [] [(2, ((e0 : Nat) : Int)), (0, v1), (0, v2), (0, v3), (0, v4)] [] (M, T) (fun r2 σ2 => r2 = some (0, y) ∧ σ2 = (M, T)) := by
  intro n
  induction n with
  | zero =>
    intro v3 v4 _ h
    exact nomatch (show (none : Option Int) = some y from h)
  | succ n ih =>
    intro v3 v4 sM h
    rw [l_X5_lossWithout_9] at h
    refine y_blk (t := 9) rfl (show fnd bk_X5_lossWithout 9 = some _ from rfl) aB_X5_lossWithout ?_
    refine wp_iload (v := v4) rfl ?_
    refine wp_aload_n (v := ((e0 : Nat) : Int)) rfl (Int.natCast_nonneg _) ?_
    refine y_get (aLand0 he0) (ltLand hS.1.1 he0 0 (by decide)) (v := ((2 : Nat) : Int)) (rLand0 sM he0) rfl ?_
    refine y_get (show ash 2 = (10, 19) from rfl) (Nat.lt_of_lt_of_le (show 2 < 154 by decide) hS.1.1) (v := ((3 : Nat) : Int)) (sM.at 2 3 3 (by decide +kernel)) rfl ?_
    refine wp_iconst ⟨by decide, by decide⟩ ?_
    refine y_iald (show ash 3 = (100, 8) from rfl) (Or.inl (Nat.lt_of_lt_of_le (show 3 < 154 by decide) hS.1.1)) (Nat.ne_of_lt (Nat.lt_of_lt_of_le (Nat.lt_of_lt_of_le (show 3 < 154 by decide) hS.1.1) hS.1.2)) ⟨by decide, by decide⟩ (v := M 3 1) rfl ?_
    refine wp_icmp_ge (fun c1 => ?_) (fun c1 => ?_)
    · rw [if_pos c1] at h
      exact hk v3 v4   sM h
    · rw [if_neg c1] at h
      refine wp_iload (v := v4) rfl ?_
      refine wp_iload_n (v := v1) rfl ?_
      refine wp_icmp_eq (fun c2 => ?_) (fun c2 => ?_)
      · rw [if_pos c2] at h
        refine y_blk (t := 56) rfl (show fnd bk_X5_lossWithout 56 = some _ from rfl) aB_X5_lossWithout ?_
        obtain ⟨c3, h⟩ := d_ite h
        refine y_iinc (L1 := [(2, ((e0 : Nat) : Int)), (0, v1), (0, v2), (0, v3), (0, (v4 + 1))]) rfl (Nat.le_of_ble_eq_true rfl) ⟨by decide, by decide⟩ c3 rfl ?_
        refine wp_goto ?_
        exact ih v3 (v4 + 1)   sM h
      · rw [if_neg c2] at h
        refine wp_iload_n (v := v3) rfl ?_
        refine wp_aload_n (v := ((e0 : Nat) : Int)) rfl (Int.natCast_nonneg _) ?_
        refine wp_iload (v := v4) rfl ?_
        refine wp_iconst ⟨by decide, by decide⟩ ?_
        obtain ⟨x4, e5, h⟩ := d_bind h
        refine y_callV (as := [(0, v4), (0, 0)]) (S1 := [(0, v3)]) (Nat.le_of_ble_eq_true rfl) (by omega) (t_X5_joinedTo he0 sM e5) (Nat.le_of_ble_eq_true rfl) rfl (aLand0 he0) (ltLand hS.1.1 he0 0 (by decide)) (Nat.le_of_ble_eq_true rfl) (Nat.le_of_ble_eq_true rfl) rfl ?_
        refine wp_iload_n (v := v2) rfl ?_
        refine wp_iconst ⟨by decide, by decide⟩ ?_
        refine wp_ixor ?_
        refine wp_iand ?_
        refine wp_aload_n (v := ((e0 : Nat) : Int)) rfl (Int.natCast_nonneg _) ?_
        refine wp_iload (v := v4) rfl ?_
        refine wp_iload_n (v := v2) rfl ?_
        obtain ⟨x6, e7, h⟩ := d_bind h
        refine y_callV (as := [(0, v4), (0, v2)]) (S1 := [(0, (aand x4 (axor v2 (-1)))), (0, v3)]) (Nat.le_of_ble_eq_true rfl) (by omega) (t_X5_joinedTo he0 sM e7) (Nat.le_of_ble_eq_true rfl) rfl (aLand0 he0) (ltLand hS.1.1 he0 0 (by decide)) (Nat.le_of_ble_eq_true rfl) (Nat.le_of_ble_eq_true rfl) rfl ?_
        refine wp_iconst ⟨by decide, by decide⟩ ?_
        refine wp_ixor ?_
        refine wp_iand ?_
        obtain ⟨x8, e9, h⟩ := d_bind h
        refine y_callS (as := [(0, (aand (aand x4 (axor v2 (-1))) (axor x6 (-1))))]) (S1 := [(0, v3)]) (Nat.le_of_ble_eq_true rfl) (by omega) (t_J6_bitCount_0f7a4 sM e9) (Nat.le_of_ble_eq_true rfl) rfl (Nat.le_of_ble_eq_true rfl) (Nat.le_of_ble_eq_true rfl) rfl ?_
        obtain ⟨c10, h⟩ := d_ite h
        refine wp_iadd c10 ?_
        refine y_stn (L1 := [(2, ((e0 : Nat) : Int)), (0, v1), (0, v2), (0, (v3 + x8)), (0, v4)]) (Nat.le_of_ble_eq_true rfl) rfl ?_
        refine y_blk (t := 56) rfl (show fnd bk_X5_lossWithout 56 = some _ from rfl) aB_X5_lossWithout ?_
        obtain ⟨c11, h⟩ := d_ite h
        refine y_iinc (L1 := [(2, ((e0 : Nat) : Int)), (0, v1), (0, v2), (0, (v3 + x8)), (0, (v4 + 1))]) rfl (Nat.le_of_ble_eq_true rfl) ⟨by decide, by decide⟩ c11 rfl ?_
        refine wp_goto ?_
        exact ih (v3 + x8) (v4 + 1)   sM h
def f_X5_lossWithout (T : Nat) (e0 : Nat) (v1 : Int) (M : aM) : Option Int :=
 l_X5_lossWithout_9 T e0 v1 (ashl 1 v1) M (fun w12 w13 =>
 some w12) FU 0 0
theorem t_X5_lossWithout {T : T3} {e0 : Nat} {v1 : Int} {M : aM} {y : Int} (he0 : isLand e0) (hS : Sh T.1 M) (h : f_X5_lossWithout T.1 e0 v1 M = some y) : Mr 2 60 [(2, ((e0 : Nat) : Int)), (0, v1)] M (some (0, y)) M T := by
  have key : ∀ d, 2 ≤ d → Wp d 60 0 [] [(2, ((e0 : Nat) : Int)), (0, v1), (9, 0), (9, 0), (9, 0)] [] (M, T) (fun r2 σ2 => r2 = some (0, y) ∧ σ2 = (M, T)) := by
    intro d hd
    rw [f_X5_lossWithout] at h
    refine y_blk (t := 0) rfl (show fnd bk_X5_lossWithout 0 = some _ from rfl) aB_X5_lossWithout ?_
    refine wp_iconst ⟨by decide, by decide⟩ ?_
    refine wp_iload_n (v := v1) rfl ?_
    refine wp_ishl ?_
    refine y_stn (L1 := [(2, ((e0 : Nat) : Int)), (0, v1), (0, (ashl 1 v1)), (9, 0), (9, 0)]) (Nat.le_of_ble_eq_true rfl) rfl ?_
    refine wp_iconst ⟨by decide, by decide⟩ ?_
    refine y_stn (L1 := [(2, ((e0 : Nat) : Int)), (0, v1), (0, (ashl 1 v1)), (0, 0), (9, 0)]) (Nat.le_of_ble_eq_true rfl) rfl ?_
    refine wp_iconst ⟨by decide, by decide⟩ ?_
    refine y_st (L1 := [(2, ((e0 : Nat) : Int)), (0, v1), (0, (ashl 1 v1)), (0, 0), (0, 0)]) (Nat.le_of_ble_eq_true rfl) rfl ?_
    refine tl_X5_lossWithout_9 (by omega) he0 hS (fun w12 w13   s14 h => ?_) FU 0 0   hS h
    refine y_blk (t := 62) rfl (show fnd bk_X5_lossWithout 62 = some _ from rfl) aB_X5_lossWithout ?_
    refine wp_iload_n (v := w12) rfl ?_
    cases h
    exact y_ret0 (Or.inl rfl) ⟨rfl, rfl⟩
  exact fun d hd => Ms.of (key d hd)
theorem aB_X5_worstLoss : ∀ pc, aB 59 pc = fnd bk_X5_worstLoss pc := fun _ => rfl
def l_X5_worstLoss_7 (T : Nat) (e0 : Nat) (M : aM) (k : Int → Int → Int → Option Int) : Nat → Int → Int → Int → Option Int
| 0, _, _, _ => none
| n + 1, v1, v2, v3 =>
 if (M 3 1) ≤ v3 then
 k v1 v2 v3 else
 (f_X5_lossWithout T e0 v3 M).bind fun x2 =>
 if x2 ≤ v2 then
 if aIn (v3 + 1) then
 l_X5_worstLoss_7 T e0 M k n v1 v2 (v3 + 1) else none else
 if aIn (v3 + 1) then
 l_X5_worstLoss_7 T e0 M k n v3 x2 (v3 + 1) else none
theorem tl_X5_worstLoss_7 {d : Nat} (hd : 3 ≤ d) {T : T3} {e0 : Nat} {M : aM} {k : Int → Int → Int → Option Int} {y : Int} (he0 : isLand e0) (hS : Sh T.1 M)
    (hk : ∀ (v1 v2 v3 : Int) (u4 : aV), Sh T.1 M → k v1 v2 v3 = some y → Wp d 59 44 [] [(2, ((e0 : Nat) : Int)), (0, v1), (0, v2), (0, v3), u4] [] (M, T) (fun r2 σ2 => r2 = some (0, y) ∧ σ2 = (M, T))) :
    ∀ (n : Nat) (v1 v2 v3 : Int) (u4 : aV), Sh T.1 M → l_X5_worstLoss_7 T.1 e0 M k n v1 v2 v3 = some y → Wp d 59 7 [] [(2, ((e0 : Nat) : Int)), (0, v1), (0, v2), (0, v3), u4] [] (M, T) (fun r2 σ2 => r2 = some (0, y) ∧ σ2 = (M, T)) := by
  intro n
  induction n with
  | zero =>
    intro v1 v2 v3 u4 _ h
    exact nomatch (show (none : Option Int) = some y from h)
  | succ n ih =>
    intro v1 v2 v3 u4 sM h
    rw [l_X5_worstLoss_7] at h
    refine y_blk (t := 7) rfl (show fnd bk_X5_worstLoss 7 = some _ from rfl) aB_X5_worstLoss ?_
    refine wp_iload_n (v := v3) rfl ?_
    refine wp_aload_n (v := ((e0 : Nat) : Int)) rfl (Int.natCast_nonneg _) ?_
    refine y_get (aLand0 he0) (ltLand hS.1.1 he0 0 (by decide)) (v := ((2 : Nat) : Int)) (rLand0 sM he0) rfl ?_
    refine y_get (show ash 2 = (10, 19) from rfl) (Nat.lt_of_lt_of_le (show 2 < 154 by decide) hS.1.1) (v := ((3 : Nat) : Int)) (sM.at 2 3 3 (by decide +kernel)) rfl ?_
    refine wp_iconst ⟨by decide, by decide⟩ ?_
    refine y_iald (show ash 3 = (100, 8) from rfl) (Or.inl (Nat.lt_of_lt_of_le (show 3 < 154 by decide) hS.1.1)) (Nat.ne_of_lt (Nat.lt_of_lt_of_le (Nat.lt_of_lt_of_le (show 3 < 154 by decide) hS.1.1) hS.1.2)) ⟨by decide, by decide⟩ (v := M 3 1) rfl ?_
    refine wp_icmp_ge (fun c1 => ?_) (fun c1 => ?_)
    · rw [if_pos c1] at h
      exact hk v1 v2 v3 u4  sM h
    · rw [if_neg c1] at h
      refine wp_aload_n (v := ((e0 : Nat) : Int)) rfl (Int.natCast_nonneg _) ?_
      refine wp_iload_n (v := v3) rfl ?_
      obtain ⟨x2, e3, h⟩ := d_bind h
      refine y_callV (as := [(0, v3)]) (S1 := []) (Nat.le_of_ble_eq_true rfl) (by omega) (t_X5_lossWithout he0 sM e3) (Nat.le_of_ble_eq_true rfl) rfl (aLand0 he0) (ltLand hS.1.1 he0 0 (by decide)) (Nat.le_of_ble_eq_true rfl) (Nat.le_of_ble_eq_true rfl) rfl ?_
      refine y_st (L1 := [(2, ((e0 : Nat) : Int)), (0, v1), (0, v2), (0, v3), (0, x2)]) (Nat.le_of_ble_eq_true rfl) rfl ?_
      refine wp_iload (v := x2) rfl ?_
      refine wp_iload_n (v := v2) rfl ?_
      refine wp_icmp_le (fun c4 => ?_) (fun c4 => ?_)
      · rw [if_pos c4] at h
        refine y_blk (t := 38) rfl (show fnd bk_X5_worstLoss 38 = some _ from rfl) aB_X5_worstLoss ?_
        obtain ⟨c5, h⟩ := d_ite h
        refine y_iinc (L1 := [(2, ((e0 : Nat) : Int)), (0, v1), (0, v2), (0, (v3 + 1)), (0, x2)]) rfl (Nat.le_of_ble_eq_true rfl) ⟨by decide, by decide⟩ c5 rfl ?_
        refine wp_goto ?_
        exact ih v1 v2 (v3 + 1) (0, x2)  sM h
      · rw [if_neg c4] at h
        refine wp_iload (v := x2) rfl ?_
        refine y_stn (L1 := [(2, ((e0 : Nat) : Int)), (0, v1), (0, x2), (0, v3), (0, x2)]) (Nat.le_of_ble_eq_true rfl) rfl ?_
        refine wp_iload_n (v := v3) rfl ?_
        refine y_stn (L1 := [(2, ((e0 : Nat) : Int)), (0, v3), (0, x2), (0, v3), (0, x2)]) (Nat.le_of_ble_eq_true rfl) rfl ?_
        refine y_blk (t := 38) rfl (show fnd bk_X5_worstLoss 38 = some _ from rfl) aB_X5_worstLoss ?_
        obtain ⟨c6, h⟩ := d_ite h
        refine y_iinc (L1 := [(2, ((e0 : Nat) : Int)), (0, v3), (0, x2), (0, (v3 + 1)), (0, x2)]) rfl (Nat.le_of_ble_eq_true rfl) ⟨by decide, by decide⟩ c6 rfl ?_
        refine wp_goto ?_
        exact ih v3 x2 (v3 + 1) (0, x2)  sM h
def f_X5_worstLoss (T : Nat) (e0 : Nat) (M : aM) : Option Int :=
 l_X5_worstLoss_7 T e0 M (fun w7 w8 w9 =>
 some w7) FU (-2) 0 0
theorem t_X5_worstLoss {T : T3} {e0 : Nat} {M : aM} {y : Int} (he0 : isLand e0) (hS : Sh T.1 M) (h : f_X5_worstLoss T.1 e0 M = some y) : Mr 3 59 [(2, ((e0 : Nat) : Int))] M (some (0, y)) M T := by
  have key : ∀ d, 3 ≤ d → Wp d 59 0 [] [(2, ((e0 : Nat) : Int)), (9, 0), (9, 0), (9, 0), (9, 0)] [] (M, T) (fun r2 σ2 => r2 = some (0, y) ∧ σ2 = (M, T)) := by
    intro d hd
    rw [f_X5_worstLoss] at h
    refine y_blk (t := 0) rfl (show fnd bk_X5_worstLoss 0 = some _ from rfl) aB_X5_worstLoss ?_
    refine wp_bipush (by decide) ?_
    refine y_stn (L1 := [(2, ((e0 : Nat) : Int)), (0, (-2)), (9, 0), (9, 0), (9, 0)]) (Nat.le_of_ble_eq_true rfl) rfl ?_
    refine wp_iconst ⟨by decide, by decide⟩ ?_
    refine y_stn (L1 := [(2, ((e0 : Nat) : Int)), (0, (-2)), (0, 0), (9, 0), (9, 0)]) (Nat.le_of_ble_eq_true rfl) rfl ?_
    refine wp_iconst ⟨by decide, by decide⟩ ?_
    refine y_stn (L1 := [(2, ((e0 : Nat) : Int)), (0, (-2)), (0, 0), (0, 0), (9, 0)]) (Nat.le_of_ble_eq_true rfl) rfl ?_
    refine tl_X5_worstLoss_7 (by omega) he0 hS (fun w7 w8 w9 u10  s11 h => ?_) FU (-2) 0 0 (9, 0)  hS h
    refine y_blk (t := 44) rfl (show fnd bk_X5_worstLoss 44 = some _ from rfl) aB_X5_worstLoss ?_
    refine wp_iload_n (v := w7) rfl ?_
    cases h
    exact y_ret0 (Or.inl rfl) ⟨rfl, rfl⟩
  exact fun d hd => Ms.of (key d hd)
theorem aB_X6_wetBy : ∀ pc, aB 66 pc = fnd bk_X6_wetBy pc := fun _ => rfl
def l_X6_wetBy_10 (T : Nat) (v1 : Int) (M : aM) (k : Int → Int → Option Int) : Nat → Int → Int → Option Int
| 0, _, _ => none
| n + 1, v2, v3 =>
 if (M 3 6) ≤ v3 then
 k v2 v3 else
 (f_X11_hasBit T v1 v3 M).bind fun x2 =>
 if x2 = 0 then
 if aIn (v3 + 1) then
 l_X6_wetBy_10 T v1 M k n v2 (v3 + 1) else none else
 if 0 ≤ v3 ∧ v3 < 4 then
 if aIn (v3 + 1) then
 l_X6_wetBy_10 T v1 M k n (axor v2 (ashl 1 (M 13 (v3).toNat))) (v3 + 1) else none else none
theorem tl_X6_wetBy_10 {d : Nat} (hd : 1 ≤ d) {T : T3} {v1 : Int} {M : aM} {k : Int → Int → Option Int} {y : Int}  (hS : Sh T.1 M)
    (hk : ∀ (v2 v3 : Int), Sh T.1 M → k v2 v3 = some y → Wp d 66 52 [] [(2, ((53 : Nat) : Int)), (0, v1), (0, v2), (0, v3)] [] (M, T) (fun r2 σ2 => r2 = some (0, y) ∧ σ2 = (M, T))) :
    ∀ (n : Nat) (v2 v3 : Int), Sh T.1 M → l_X6_wetBy_10 T.1 v1 M k n v2 v3 = some y → Wp d 66 10 [] [(2, ((53 : Nat) : Int)), (0, v1), (0, v2), (0, v3)] [] (M, T) (fun r2 σ2 => r2 = some (0, y) ∧ σ2 = (M, T)) := by
  intro n
  induction n with
  | zero =>
    intro v2 v3 _ h
    exact nomatch (show (none : Option Int) = some y from h)
  | succ n ih =>
    intro v2 v3 sM h
    rw [l_X6_wetBy_10] at h
    refine y_blk (t := 10) rfl (show fnd bk_X6_wetBy 10 = some _ from rfl) aB_X6_wetBy ?_
    refine wp_iload_n (v := v3) rfl ?_
    refine wp_aload_n (v := ((53 : Nat) : Int)) rfl (Int.natCast_nonneg _) ?_
    refine y_get (show ash 53 = (6, 2) from rfl) (Nat.lt_of_lt_of_le (show 53 < 154 by decide) hS.1.1) (v := ((2 : Nat) : Int)) (sM.at 53 0 2 (by decide +kernel)) rfl ?_
    refine y_get (show ash 2 = (10, 19) from rfl) (Nat.lt_of_lt_of_le (show 2 < 154 by decide) hS.1.1) (v := ((3 : Nat) : Int)) (sM.at 2 3 3 (by decide +kernel)) rfl ?_
    refine wp_bipush (by decide) ?_
    refine y_iald (show ash 3 = (100, 8) from rfl) (Or.inl (Nat.lt_of_lt_of_le (show 3 < 154 by decide) hS.1.1)) (Nat.ne_of_lt (Nat.lt_of_lt_of_le (Nat.lt_of_lt_of_le (show 3 < 154 by decide) hS.1.1) hS.1.2)) ⟨by decide, by decide⟩ (v := M 3 6) rfl ?_
    refine wp_icmp_ge (fun c1 => ?_) (fun c1 => ?_)
    · rw [if_pos c1] at h
      exact hk v2 v3   sM h
    · rw [if_neg c1] at h
      refine wp_iload_n (v := v1) rfl ?_
      refine wp_iload_n (v := v3) rfl ?_
      obtain ⟨x2, e3, h⟩ := d_bind h
      refine y_callS (as := [(0, v1), (0, v3)]) (S1 := []) (Nat.le_of_ble_eq_true rfl) (by omega) (t_X11_hasBit sM e3) (Nat.le_of_ble_eq_true rfl) rfl (Nat.le_of_ble_eq_true rfl) (Nat.le_of_ble_eq_true rfl) rfl ?_
      refine wp_if_eq (fun c4 => ?_) (fun c4 => ?_)
      · rw [if_pos c4] at h
        refine y_blk (t := 46) rfl (show fnd bk_X6_wetBy 46 = some _ from rfl) aB_X6_wetBy ?_
        obtain ⟨c5, h⟩ := d_ite h
        refine y_iinc (L1 := [(2, ((53 : Nat) : Int)), (0, v1), (0, v2), (0, (v3 + 1))]) rfl (Nat.le_of_ble_eq_true rfl) ⟨by decide, by decide⟩ c5 rfl ?_
        refine wp_goto ?_
        exact ih v2 (v3 + 1)   sM h
      · rw [if_neg c4] at h
        refine wp_iload_n (v := v2) rfl ?_
        refine wp_iconst ⟨by decide, by decide⟩ ?_
        refine wp_aload_n (v := ((53 : Nat) : Int)) rfl (Int.natCast_nonneg _) ?_
        refine y_get (show ash 53 = (6, 2) from rfl) (Nat.lt_of_lt_of_le (show 53 < 154 by decide) hS.1.1) (v := ((2 : Nat) : Int)) (sM.at 53 0 2 (by decide +kernel)) rfl ?_
        refine y_get (show ash 2 = (10, 19) from rfl) (Nat.lt_of_lt_of_le (show 2 < 154 by decide) hS.1.1) (v := ((13 : Nat) : Int)) (sM.at 2 15 13 (by decide +kernel)) rfl ?_
        refine wp_iload_n (v := v3) rfl ?_
        obtain ⟨c6, h⟩ := d_ite h
        refine y_iald (show ash 13 = (100, 4) from rfl) (Or.inl (Nat.lt_of_lt_of_le (show 13 < 154 by decide) hS.1.1)) (Nat.ne_of_lt (Nat.lt_of_lt_of_le (Nat.lt_of_lt_of_le (show 13 < 154 by decide) hS.1.1) hS.1.2)) c6 (v := M 13 (v3).toNat) rfl ?_
        refine wp_ishl ?_
        refine wp_ixor ?_
        refine y_stn (L1 := [(2, ((53 : Nat) : Int)), (0, v1), (0, (axor v2 (ashl 1 (M 13 (v3).toNat)))), (0, v3)]) (Nat.le_of_ble_eq_true rfl) rfl ?_
        refine y_blk (t := 46) rfl (show fnd bk_X6_wetBy 46 = some _ from rfl) aB_X6_wetBy ?_
        obtain ⟨c7, h⟩ := d_ite h
        refine y_iinc (L1 := [(2, ((53 : Nat) : Int)), (0, v1), (0, (axor v2 (ashl 1 (M 13 (v3).toNat)))), (0, (v3 + 1))]) rfl (Nat.le_of_ble_eq_true rfl) ⟨by decide, by decide⟩ c7 rfl ?_
        refine wp_goto ?_
        exact ih (axor v2 (ashl 1 (M 13 (v3).toNat))) (v3 + 1)   sM h
def f_X6_wetBy (T : Nat) (v1 : Int) (M : aM) : Option Int :=
 l_X6_wetBy_10 T v1 M (fun w8 w9 =>
 some w8) FU (M 2 9) 0
theorem t_X6_wetBy {T : T3} {v1 : Int} {M : aM} {y : Int}  (hS : Sh T.1 M) (h : f_X6_wetBy T.1 v1 M = some y) : Mr 1 66 [(2, ((53 : Nat) : Int)), (0, v1)] M (some (0, y)) M T := by
  have key : ∀ d, 1 ≤ d → Wp d 66 0 [] [(2, ((53 : Nat) : Int)), (0, v1), (9, 0), (9, 0)] [] (M, T) (fun r2 σ2 => r2 = some (0, y) ∧ σ2 = (M, T)) := by
    intro d hd
    rw [f_X6_wetBy] at h
    refine y_blk (t := 0) rfl (show fnd bk_X6_wetBy 0 = some _ from rfl) aB_X6_wetBy ?_
    refine wp_aload_n (v := ((53 : Nat) : Int)) rfl (Int.natCast_nonneg _) ?_
    refine y_get (show ash 53 = (6, 2) from rfl) (Nat.lt_of_lt_of_le (show 53 < 154 by decide) hS.1.1) (v := ((2 : Nat) : Int)) (hS.at 53 0 2 (by decide +kernel)) rfl ?_
    refine y_get (show ash 2 = (10, 19) from rfl) (Nat.lt_of_lt_of_le (show 2 < 154 by decide) hS.1.1) (v := M 2 9) rfl rfl ?_
    refine y_stn (L1 := [(2, ((53 : Nat) : Int)), (0, v1), (0, (M 2 9)), (9, 0)]) (Nat.le_of_ble_eq_true rfl) rfl ?_
    refine wp_iconst ⟨by decide, by decide⟩ ?_
    refine y_stn (L1 := [(2, ((53 : Nat) : Int)), (0, v1), (0, (M 2 9)), (0, 0)]) (Nat.le_of_ble_eq_true rfl) rfl ?_
    refine tl_X6_wetBy_10 (by omega) hS (fun w8 w9   s10 h => ?_) FU (M 2 9) 0   hS h
    refine y_blk (t := 52) rfl (show fnd bk_X6_wetBy 52 = some _ from rfl) aB_X6_wetBy ?_
    refine wp_iload_n (v := w8) rfl ?_
    cases h
    exact y_ret0 (Or.inl rfl) ⟨rfl, rfl⟩
  exact fun d hd => Ms.of (key d hd)

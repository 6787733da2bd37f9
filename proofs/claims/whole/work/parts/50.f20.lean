/-! ===== methods as functions ===== -/
theorem aB_X12_way : ∀ pc, aB 192 pc = fnd bk_X12_way pc := fun _ => rfl
def l_X12_way_2 (T : Nat) (e0 : Nat) (v1 : Int) (v2 : Int) (M : aM) (k : Int → Option Int) : Nat → Int → Option Int
| 0, _ => none
| n + 1, v3 =>
 if (M e0 5) ≤ v3 then
 k v3 else
 if 0 ≤ v3 ∧ v3 < 10 then
 if (M (e0 + 1) (v3).toNat) = v1 then
 if (M (e0 + 2) (v3).toNat) = v2 then
 some v3 else
 if (M (e0 + 1) (v3).toNat) = v2 then
 if (M (e0 + 2) (v3).toNat) = v1 then
 some v3 else
 if aIn (v3 + 1) then
 l_X12_way_2 T e0 v1 v2 M k n (v3 + 1) else none else
 if aIn (v3 + 1) then
 l_X12_way_2 T e0 v1 v2 M k n (v3 + 1) else none else
 if (M (e0 + 1) (v3).toNat) = v2 then
 if (M (e0 + 2) (v3).toNat) = v1 then
 some v3 else
 if aIn (v3 + 1) then
 l_X12_way_2 T e0 v1 v2 M k n (v3 + 1) else none else
 if aIn (v3 + 1) then
 l_X12_way_2 T e0 v1 v2 M k n (v3 + 1) else none else none
theorem tl_X12_way_2 {d : Nat} (hd : 0 ≤ d) {T : T3} {e0 : Nat} {v1 : Int} {v2 : Int} {M : aM} {k : Int → Option Int} {y : Int} (he0 : isW T.1 e0) (hS : Sh T.1 M)
    (hk : ∀ (v3 : Int), Sh T.1 M → k v3 = some y → Wp d 192 58 [] [(2, ((e0 : Nat) : Int)), (0, v1), (0, v2), (0, v3)] [] (M, T) (fun r2 σ2 => r2 = some (0, y) ∧ σ2 = (M, T))) :
    ∀ (n : Nat) (v3 : Int), Sh T.1 M → l_X12_way_2 T.1 e0 v1 v2 M k n v3 = some y → Wp d 192 2 [] [(2, ((e0 : Nat) : Int)), (0, v1), (0, v2), (0, v3)] [] (M, T) (fun r2 σ2 => r2 = some (0, y) ∧ σ2 = (M, T)) := by
  intro n
  induction n with
  | zero =>
    intro v3 _ h
    exact nomatch (show (none : Option Int) = some y from h)
  | succ n ih =>
    intro v3 sM h
    rw [l_X12_way_2] at h
    refine y_blk (t := 2) rfl (show fnd bk_X12_way 2 = some _ from rfl) aB_X12_way ?_
    refine wp_iload_n (v := v3) rfl ?_
    refine wp_aload_n (v := ((e0 : Nat) : Int)) rfl (Int.natCast_nonneg _) ?_
    refine y_get (aW0 hS.1.2 he0) (ltW he0 0 (by decide)) (v := M e0 5) rfl rfl ?_
    refine wp_icmp_ge (fun c1 => ?_) (fun c1 => ?_)
    · rw [if_pos c1] at h
      exact hk v3   sM h
    · rw [if_neg c1] at h
      refine wp_aload_n (v := ((e0 : Nat) : Int)) rfl (Int.natCast_nonneg _) ?_
      refine y_get (aW0 hS.1.2 he0) (ltW he0 0 (by decide)) (v := (((e0 + 1) : Nat) : Int)) (rW14 sM he0) rfl ?_
      refine wp_iload_n (v := v3) rfl ?_
      obtain ⟨c2, h⟩ := d_ite h
      refine y_iald (aW1 hS.1.2 he0) (Or.inl (ltW he0 1 (by decide))) (Nat.ne_of_lt (Nat.lt_of_lt_of_le (ltW he0 1 (by decide)) hS.1.2)) c2 (v := M (e0 + 1) (v3).toNat) rfl ?_
      refine wp_iload_n (v := v1) rfl ?_
      refine y_ne (fun c3 => ?_) (fun c3 => ?_)
      · rw [if_neg c3] at h
        refine y_blk (t := 30) rfl (show fnd bk_X12_way 30 = some _ from rfl) aB_X12_way ?_
        refine wp_aload_n (v := ((e0 : Nat) : Int)) rfl (Int.natCast_nonneg _) ?_
        refine y_get (aW0 hS.1.2 he0) (ltW he0 0 (by decide)) (v := (((e0 + 1) : Nat) : Int)) (rW14 sM he0) rfl ?_
        refine wp_iload_n (v := v3) rfl ?_
        refine y_iald (aW1 hS.1.2 he0) (Or.inl (ltW he0 1 (by decide))) (Nat.ne_of_lt (Nat.lt_of_lt_of_le (ltW he0 1 (by decide)) hS.1.2)) c2 (v := M (e0 + 1) (v3).toNat) rfl ?_
        refine wp_iload_n (v := v2) rfl ?_
        refine y_ne (fun c4 => ?_) (fun c4 => ?_)
        · rw [if_neg c4] at h
          refine y_blk (t := 52) rfl (show fnd bk_X12_way 52 = some _ from rfl) aB_X12_way ?_
          obtain ⟨c5, h⟩ := d_ite h
          refine y_iinc (L1 := [(2, ((e0 : Nat) : Int)), (0, v1), (0, v2), (0, (v3 + 1))]) rfl (Nat.le_of_ble_eq_true rfl) ⟨by decide, by decide⟩ c5 rfl ?_
          refine wp_goto ?_
          exact ih (v3 + 1)   sM h
        · rw [if_pos c4] at h
          refine wp_aload_n (v := ((e0 : Nat) : Int)) rfl (Int.natCast_nonneg _) ?_
          refine y_get (aW0 hS.1.2 he0) (ltW he0 0 (by decide)) (v := (((e0 + 2) : Nat) : Int)) (rW15 sM he0) rfl ?_
          refine wp_iload_n (v := v3) rfl ?_
          refine y_iald (aW2 hS.1.2 he0) (Or.inl (ltW he0 2 (by decide))) (Nat.ne_of_lt (Nat.lt_of_lt_of_le (ltW he0 2 (by decide)) hS.1.2)) c2 (v := M (e0 + 2) (v3).toNat) rfl ?_
          refine wp_iload_n (v := v1) rfl ?_
          refine y_ne (fun c6 => ?_) (fun c6 => ?_)
          · rw [if_neg c6] at h
            refine y_blk (t := 52) rfl (show fnd bk_X12_way 52 = some _ from rfl) aB_X12_way ?_
            obtain ⟨c7, h⟩ := d_ite h
            refine y_iinc (L1 := [(2, ((e0 : Nat) : Int)), (0, v1), (0, v2), (0, (v3 + 1))]) rfl (Nat.le_of_ble_eq_true rfl) ⟨by decide, by decide⟩ c7 rfl ?_
            refine wp_goto ?_
            exact ih (v3 + 1)   sM h
          · rw [if_pos c6] at h
            refine y_blk (t := 50) rfl (show fnd bk_X12_way 50 = some _ from rfl) aB_X12_way ?_
            refine wp_iload_n (v := v3) rfl ?_
            cases h
            exact y_ret0 (Or.inl rfl) ⟨rfl, rfl⟩
      · rw [if_pos c3] at h
        refine wp_aload_n (v := ((e0 : Nat) : Int)) rfl (Int.natCast_nonneg _) ?_
        refine y_get (aW0 hS.1.2 he0) (ltW he0 0 (by decide)) (v := (((e0 + 2) : Nat) : Int)) (rW15 sM he0) rfl ?_
        refine wp_iload_n (v := v3) rfl ?_
        refine y_iald (aW2 hS.1.2 he0) (Or.inl (ltW he0 2 (by decide))) (Nat.ne_of_lt (Nat.lt_of_lt_of_le (ltW he0 2 (by decide)) hS.1.2)) c2 (v := M (e0 + 2) (v3).toNat) rfl ?_
        refine wp_iload_n (v := v2) rfl ?_
        refine wp_icmp_eq (fun c8 => ?_) (fun c8 => ?_)
        · rw [if_pos c8] at h
          refine y_blk (t := 50) rfl (show fnd bk_X12_way 50 = some _ from rfl) aB_X12_way ?_
          refine wp_iload_n (v := v3) rfl ?_
          cases h
          exact y_ret0 (Or.inl rfl) ⟨rfl, rfl⟩
        · rw [if_neg c8] at h
          refine y_blk (t := 30) rfl (show fnd bk_X12_way 30 = some _ from rfl) aB_X12_way ?_
          refine wp_aload_n (v := ((e0 : Nat) : Int)) rfl (Int.natCast_nonneg _) ?_
          refine y_get (aW0 hS.1.2 he0) (ltW he0 0 (by decide)) (v := (((e0 + 1) : Nat) : Int)) (rW14 sM he0) rfl ?_
          refine wp_iload_n (v := v3) rfl ?_
          refine y_iald (aW1 hS.1.2 he0) (Or.inl (ltW he0 1 (by decide))) (Nat.ne_of_lt (Nat.lt_of_lt_of_le (ltW he0 1 (by decide)) hS.1.2)) c2 (v := M (e0 + 1) (v3).toNat) rfl ?_
          refine wp_iload_n (v := v2) rfl ?_
          refine y_ne (fun c9 => ?_) (fun c9 => ?_)
          · rw [if_neg c9] at h
            refine y_blk (t := 52) rfl (show fnd bk_X12_way 52 = some _ from rfl) aB_X12_way ?_
            obtain ⟨c10, h⟩ := d_ite h
            refine y_iinc (L1 := [(2, ((e0 : Nat) : Int)), (0, v1), (0, v2), (0, (v3 + 1))]) rfl (Nat.le_of_ble_eq_true rfl) ⟨by decide, by decide⟩ c10 rfl ?_
            refine wp_goto ?_
            exact ih (v3 + 1)   sM h
          · rw [if_pos c9] at h
            refine wp_aload_n (v := ((e0 : Nat) : Int)) rfl (Int.natCast_nonneg _) ?_
            refine y_get (aW0 hS.1.2 he0) (ltW he0 0 (by decide)) (v := (((e0 + 2) : Nat) : Int)) (rW15 sM he0) rfl ?_
            refine wp_iload_n (v := v3) rfl ?_
            refine y_iald (aW2 hS.1.2 he0) (Or.inl (ltW he0 2 (by decide))) (Nat.ne_of_lt (Nat.lt_of_lt_of_le (ltW he0 2 (by decide)) hS.1.2)) c2 (v := M (e0 + 2) (v3).toNat) rfl ?_
            refine wp_iload_n (v := v1) rfl ?_
            refine y_ne (fun c11 => ?_) (fun c11 => ?_)
            · rw [if_neg c11] at h
              refine y_blk (t := 52) rfl (show fnd bk_X12_way 52 = some _ from rfl) aB_X12_way ?_
              obtain ⟨c12, h⟩ := d_ite h
              refine y_iinc (L1 := [(2, ((e0 : Nat) : Int)), (0, v1), (0, v2), (0, (v3 + 1))]) rfl (Nat.le_of_ble_eq_true rfl) ⟨by decide, by decide⟩ c12 rfl ?_
              refine wp_goto ?_
              exact ih (v3 + 1)   sM h
            · rw [if_pos c11] at h
              refine y_blk (t := 50) rfl (show fnd bk_X12_way 50 = some _ from rfl) aB_X12_way ?_
              refine wp_iload_n (v := v3) rfl ?_
              cases h
              exact y_ret0 (Or.inl rfl) ⟨rfl, rfl⟩
def f_X12_way (T : Nat) (e0 : Nat) (v1 : Int) (v2 : Int) (M : aM) : Option Int :=
 l_X12_way_2 T e0 v1 v2 M (fun w13 =>
 some (-1)) FU 0
theorem t_X12_way {T : T3} {e0 : Nat} {v1 : Int} {v2 : Int} {M : aM} {y : Int} (he0 : isW T.1 e0) (hS : Sh T.1 M) (h : f_X12_way T.1 e0 v1 v2 M = some y) : Mr 0 192 [(2, ((e0 : Nat) : Int)), (0, v1), (0, v2)] M (some (0, y)) M T := by
  have key : ∀ d, 0 ≤ d → Wp d 192 0 [] [(2, ((e0 : Nat) : Int)), (0, v1), (0, v2), (9, 0)] [] (M, T) (fun r2 σ2 => r2 = some (0, y) ∧ σ2 = (M, T)) := by
    intro d hd
    rw [f_X12_way] at h
    refine y_blk (t := 0) rfl (show fnd bk_X12_way 0 = some _ from rfl) aB_X12_way ?_
    refine wp_iconst ⟨by decide, by decide⟩ ?_
    refine y_stn (L1 := [(2, ((e0 : Nat) : Int)), (0, v1), (0, v2), (0, 0)]) (Nat.le_of_ble_eq_true rfl) rfl ?_
    refine tl_X12_way_2 (by omega) he0 hS (fun w13   s14 h => ?_) FU 0   hS h
    refine y_blk (t := 58) rfl (show fnd bk_X12_way 58 = some _ from rfl) aB_X12_way ?_
    refine wp_iconst ⟨by decide, by decide⟩ ?_
    cases h
    exact y_ret0 (Or.inl rfl) ⟨rfl, rfl⟩
  exact fun d hd => Ms.of (key d hd)
theorem aB_X12_isEcho : ∀ pc, aB 193 pc = fnd bk_X12_isEcho pc := fun _ => rfl
def l_X12_isEcho_2 (T : Nat) (e0 : Nat) (v1 : Int) (M : aM) (k : Int → Option Int) : Nat → Int → Option Int
| 0, _ => none
| n + 1, v2 =>
 if (M e0 9) ≤ v2 then
 k v2 else
 if 0 ≤ v2 ∧ v2 < 4 then
 if (M (e0 + 7) (v2).toNat) = v1 then
 some 1 else
 if aIn (v2 + 1) then
 l_X12_isEcho_2 T e0 v1 M k n (v2 + 1) else none else none
theorem tl_X12_isEcho_2 {d : Nat} (hd : 0 ≤ d) {T : T3} {e0 : Nat} {v1 : Int} {M : aM} {k : Int → Option Int} {y : Int} (he0 : isW T.1 e0) (hS : Sh T.1 M)
    (hk : ∀ (v2 : Int), Sh T.1 M → k v2 = some y → Wp d 193 28 [] [(2, ((e0 : Nat) : Int)), (0, v1), (0, v2)] [] (M, T) (fun r2 σ2 => r2 = some (0, y) ∧ σ2 = (M, T))) :
    ∀ (n : Nat) (v2 : Int), Sh T.1 M → l_X12_isEcho_2 T.1 e0 v1 M k n v2 = some y → Wp d 193 2 [] [(2, ((e0 : Nat) : Int)), (0, v1), (0, v2)] [] (M, T) (fun r2 σ2 => r2 = some (0, y) ∧ σ2 = (M, T)) := by
  intro n
  induction n with
  | zero =>
    intro v2 _ h
    exact nomatch (show (none : Option Int) = some y from h)
  | succ n ih =>
    intro v2 sM h
    rw [l_X12_isEcho_2] at h
    refine y_blk (t := 2) rfl (show fnd bk_X12_isEcho 2 = some _ from rfl) aB_X12_isEcho ?_
    refine wp_iload_n (v := v2) rfl ?_
    refine wp_aload_n (v := ((e0 : Nat) : Int)) rfl (Int.natCast_nonneg _) ?_
    refine y_get (aW0 hS.1.2 he0) (ltW he0 0 (by decide)) (v := M e0 9) rfl rfl ?_
    refine wp_icmp_ge (fun c1 => ?_) (fun c1 => ?_)
    · rw [if_pos c1] at h
      exact hk v2   sM h
    · rw [if_neg c1] at h
      refine wp_aload_n (v := ((e0 : Nat) : Int)) rfl (Int.natCast_nonneg _) ?_
      refine y_get (aW0 hS.1.2 he0) (ltW he0 0 (by decide)) (v := (((e0 + 7) : Nat) : Int)) (rW20 sM he0) rfl ?_
      refine wp_iload_n (v := v2) rfl ?_
      obtain ⟨c2, h⟩ := d_ite h
      refine y_iald (aW7 hS.1.2 he0) (Or.inl (ltW he0 7 (by decide))) (Nat.ne_of_lt (Nat.lt_of_lt_of_le (ltW he0 7 (by decide)) hS.1.2)) c2 (v := M (e0 + 7) (v2).toNat) rfl ?_
      refine wp_iload_n (v := v1) rfl ?_
      refine y_ne (fun c3 => ?_) (fun c3 => ?_)
      · rw [if_neg c3] at h
        refine y_blk (t := 22) rfl (show fnd bk_X12_isEcho 22 = some _ from rfl) aB_X12_isEcho ?_
        obtain ⟨c4, h⟩ := d_ite h
        refine y_iinc (L1 := [(2, ((e0 : Nat) : Int)), (0, v1), (0, (v2 + 1))]) rfl (Nat.le_of_ble_eq_true rfl) ⟨by decide, by decide⟩ c4 rfl ?_
        refine wp_goto ?_
        exact ih (v2 + 1)   sM h
      · rw [if_pos c3] at h
        refine wp_iconst ⟨by decide, by decide⟩ ?_
        cases h
        exact y_ret0 (Or.inr (Or.inr rfl)) ⟨rfl, rfl⟩
def f_X12_isEcho (T : Nat) (e0 : Nat) (v1 : Int) (M : aM) : Option Int :=
 l_X12_isEcho_2 T e0 v1 M (fun w5 =>
 some 0) FU 0
theorem t_X12_isEcho {T : T3} {e0 : Nat} {v1 : Int} {M : aM} {y : Int} (he0 : isW T.1 e0) (hS : Sh T.1 M) (h : f_X12_isEcho T.1 e0 v1 M = some y) : Mr 0 193 [(2, ((e0 : Nat) : Int)), (0, v1)] M (some (0, y)) M T := by
  have key : ∀ d, 0 ≤ d → Wp d 193 0 [] [(2, ((e0 : Nat) : Int)), (0, v1), (9, 0)] [] (M, T) (fun r2 σ2 => r2 = some (0, y) ∧ σ2 = (M, T)) := by
    intro d hd
    rw [f_X12_isEcho] at h
    refine y_blk (t := 0) rfl (show fnd bk_X12_isEcho 0 = some _ from rfl) aB_X12_isEcho ?_
    refine wp_iconst ⟨by decide, by decide⟩ ?_
    refine y_stn (L1 := [(2, ((e0 : Nat) : Int)), (0, v1), (0, 0)]) (Nat.le_of_ble_eq_true rfl) rfl ?_
    refine tl_X12_isEcho_2 (by omega) he0 hS (fun w5   s6 h => ?_) FU 0   hS h
    refine y_blk (t := 28) rfl (show fnd bk_X12_isEcho 28 = some _ from rfl) aB_X12_isEcho ?_
    refine wp_iconst ⟨by decide, by decide⟩ ?_
    cases h
    exact y_ret0 (Or.inr (Or.inl rfl)) ⟨rfl, rfl⟩
  exact fun d hd => Ms.of (key d hd)
theorem aB_X12_isUnsure : ∀ pc, aB 194 pc = fnd bk_X12_isUnsure pc := fun _ => rfl
def l_X12_isUnsure_2 (T : Nat) (e0 : Nat) (v1 : Int) (M : aM) (k : Int → Option Int) : Nat → Int → Option Int
| 0, _ => none
| n + 1, v2 =>
 if (M e0 10) ≤ v2 then
 k v2 else
 if 0 ≤ v2 ∧ v2 < 4 then
 if (M (e0 + 9) (v2).toNat) = v1 then
 some 1 else
 if aIn (v2 + 1) then
 l_X12_isUnsure_2 T e0 v1 M k n (v2 + 1) else none else none
theorem tl_X12_isUnsure_2 {d : Nat} (hd : 0 ≤ d) {T : T3} {e0 : Nat} {v1 : Int} {M : aM} {k : Int → Option Int} {y : Int} (he0 : isW T.1 e0) (hS : Sh T.1 M)
    (hk : ∀ (v2 : Int), Sh T.1 M → k v2 = some y → Wp d 194 28 [] [(2, ((e0 : Nat) : Int)), (0, v1), (0, v2)] [] (M, T) (fun r2 σ2 => r2 = some (0, y) ∧ σ2 = (M, T))) :
    ∀ (n : Nat) (v2 : Int), Sh T.1 M → l_X12_isUnsure_2 T.1 e0 v1 M k n v2 = some y → Wp d 194 2 [] [(2, ((e0 : Nat) : Int)), (0, v1), (0, v2)] [] (M, T) (fun r2 σ2 => r2 = some (0, y) ∧ σ2 = (M, T)) := by
  intro n
  induction n with
  | zero =>
    intro v2 _ h
    exact nomatch (show (none : Option Int) = some y from h)
  | succ n ih =>
    intro v2 sM h
    rw [l_X12_isUnsure_2] at h
    refine y_blk (t := 2) rfl (show fnd bk_X12_isUnsure 2 = some _ from rfl) aB_X12_isUnsure ?_
    refine wp_iload_n (v := v2) rfl ?_
    refine wp_aload_n (v := ((e0 : Nat) : Int)) rfl (Int.natCast_nonneg _) ?_
    refine y_get (aW0 hS.1.2 he0) (ltW he0 0 (by decide)) (v := M e0 10) rfl rfl ?_
    refine wp_icmp_ge (fun c1 => ?_) (fun c1 => ?_)
    · rw [if_pos c1] at h
      exact hk v2   sM h
    · rw [if_neg c1] at h
      refine wp_aload_n (v := ((e0 : Nat) : Int)) rfl (Int.natCast_nonneg _) ?_
      refine y_get (aW0 hS.1.2 he0) (ltW he0 0 (by decide)) (v := (((e0 + 9) : Nat) : Int)) (rW22 sM he0) rfl ?_
      refine wp_iload_n (v := v2) rfl ?_
      obtain ⟨c2, h⟩ := d_ite h
      refine y_iald (aW9 hS.1.2 he0) (Or.inl (ltW he0 9 (by decide))) (Nat.ne_of_lt (Nat.lt_of_lt_of_le (ltW he0 9 (by decide)) hS.1.2)) c2 (v := M (e0 + 9) (v2).toNat) rfl ?_
      refine wp_iload_n (v := v1) rfl ?_
      refine y_ne (fun c3 => ?_) (fun c3 => ?_)
      · rw [if_neg c3] at h
        refine y_blk (t := 22) rfl (show fnd bk_X12_isUnsure 22 = some _ from rfl) aB_X12_isUnsure ?_
        obtain ⟨c4, h⟩ := d_ite h
        refine y_iinc (L1 := [(2, ((e0 : Nat) : Int)), (0, v1), (0, (v2 + 1))]) rfl (Nat.le_of_ble_eq_true rfl) ⟨by decide, by decide⟩ c4 rfl ?_
        refine wp_goto ?_
        exact ih (v2 + 1)   sM h
      · rw [if_pos c3] at h
        refine wp_iconst ⟨by decide, by decide⟩ ?_
        cases h
        exact y_ret0 (Or.inr (Or.inr rfl)) ⟨rfl, rfl⟩
def f_X12_isUnsure (T : Nat) (e0 : Nat) (v1 : Int) (M : aM) : Option Int :=
 l_X12_isUnsure_2 T e0 v1 M (fun w5 =>
 some 0) FU 0
theorem t_X12_isUnsure {T : T3} {e0 : Nat} {v1 : Int} {M : aM} {y : Int} (he0 : isW T.1 e0) (hS : Sh T.1 M) (h : f_X12_isUnsure T.1 e0 v1 M = some y) : Mr 0 194 [(2, ((e0 : Nat) : Int)), (0, v1)] M (some (0, y)) M T := by
  have key : ∀ d, 0 ≤ d → Wp d 194 0 [] [(2, ((e0 : Nat) : Int)), (0, v1), (9, 0)] [] (M, T) (fun r2 σ2 => r2 = some (0, y) ∧ σ2 = (M, T)) := by
    intro d hd
    rw [f_X12_isUnsure] at h
    refine y_blk (t := 0) rfl (show fnd bk_X12_isUnsure 0 = some _ from rfl) aB_X12_isUnsure ?_
    refine wp_iconst ⟨by decide, by decide⟩ ?_
    refine y_stn (L1 := [(2, ((e0 : Nat) : Int)), (0, v1), (0, 0)]) (Nat.le_of_ble_eq_true rfl) rfl ?_
    refine tl_X12_isUnsure_2 (by omega) he0 hS (fun w5   s6 h => ?_) FU 0   hS h
    refine y_blk (t := 28) rfl (show fnd bk_X12_isUnsure 28 = some _ from rfl) aB_X12_isUnsure ?_
    refine wp_iconst ⟨by decide, by decide⟩ ?_
    cases h
    exact y_ret0 (Or.inr (Or.inl rfl)) ⟨rfl, rfl⟩
  exact fun d hd => Ms.of (key d hd)
theorem aB_X13_thrown : ∀ pc, aB 196 pc = fnd bk_X13_thrown pc := fun _ => rfl
def f_X13_thrown (T : Nat)  (M : aM) : Option Int :=
 some (M 138 0)
theorem t_X13_thrown {T : T3}  {M : aM} {y : Int}  (hS : Sh T.1 M) (h : f_X13_thrown T.1  M = some y) : Mr 0 196 [(2, ((138 : Nat) : Int))] M (some (0, y)) M T := by
  have key : ∀ d, 0 ≤ d → Wp d 196 0 [] [(2, ((138 : Nat) : Int))] [] (M, T) (fun r2 σ2 => r2 = some (0, y) ∧ σ2 = (M, T)) := by
    intro d hd
    rw [f_X13_thrown] at h
    refine y_blk (t := 0) rfl (show fnd bk_X13_thrown 0 = some _ from rfl) aB_X13_thrown ?_
    refine wp_aload_n (v := ((138 : Nat) : Int)) rfl (Int.natCast_nonneg _) ?_
    refine y_get (show ash 138 = (13, 38) from rfl) (Nat.lt_of_lt_of_le (show 138 < 154 by decide) hS.1.1) (v := M 138 0) rfl rfl ?_
    cases h
    exact y_ret0 (Or.inl rfl) ⟨rfl, rfl⟩
  exact fun d hd => Ms.of (key d hd)
theorem aB_X13_refused : ∀ pc, aB 197 pc = fnd bk_X13_refused pc := fun _ => rfl
def f_X13_refused (T : Nat) (v1 : Int) (M : aM) : Option (Int × aM) :=
 (some (aup M 138 1 v1)).bind fun m1 =>
 (some (aup m1 138 2 (-1))).bind fun m3 =>
 some ((-1), m3)
theorem t_X13_refused {T : T3} {v1 : Int} {M : aM} {y : (Int × aM)}  (hS : Sh T.1 M) (h : f_X13_refused T.1 v1 M = some y) : Mr 0 197 [(2, ((138 : Nat) : Int)), (0, v1)] M (some (0, y.1)) y.2 T ∧ Sh T.1 y.2 := by
  have key : ∀ d, 0 ≤ d → Wp d 197 0 [] [(2, ((138 : Nat) : Int)), (0, v1)] [] (M, T) (fun r2 σ2 => r2 = some (0, y.1) ∧ σ2 = (y.2, T) ∧ Sh T.1 y.2) := by
    intro d hd
    rw [f_X13_refused] at h
    refine y_blk (t := 0) rfl (show fnd bk_X13_refused 0 = some _ from rfl) aB_X13_refused ?_
    refine wp_aload_n (v := ((138 : Nat) : Int)) rfl (Int.natCast_nonneg _) ?_
    refine wp_iload_n (v := v1) rfl ?_
    refine y_put (show ash 138 = (13, 38) from rfl) (Nat.lt_of_lt_of_le (show 138 < 154 by decide) hS.1.1) rfl ?_
    obtain ⟨m1, em1, h⟩ := d_bind h
    have em1 := Option.some.inj em1
    have s2 : Sh T.1 m1 := em1 ▸ hS.up (Or.inr ⟨by rw [(show ash 138 = (13, 38) from rfl)]; decide, by rw [(show ash 138 = (13, 38) from rfl)]; decide⟩) (by have := (Nat.lt_of_lt_of_le (show 138 < 154 by decide) hS.1.1); have := hS.1.2; omega)
    rw [em1]
    refine wp_aload_n (v := ((138 : Nat) : Int)) rfl (Int.natCast_nonneg _) ?_
    refine wp_iconst ⟨by decide, by decide⟩ ?_
    refine y_put (show ash 138 = (13, 38) from rfl) (Nat.lt_of_lt_of_le (show 138 < 154 by decide) hS.1.1) rfl ?_
    obtain ⟨m3, em3, h⟩ := d_bind h
    have em3 := Option.some.inj em3
    have s4 : Sh T.1 m3 := em3 ▸ s2.up (Or.inr ⟨by rw [(show ash 138 = (13, 38) from rfl)]; decide, by rw [(show ash 138 = (13, 38) from rfl)]; decide⟩) (by have := (Nat.lt_of_lt_of_le (show 138 < 154 by decide) hS.1.1); have := hS.1.2; omega)
    rw [em3]
    refine wp_iconst ⟨by decide, by decide⟩ ?_
    cases h
    exact y_ret0 (Or.inl rfl) ⟨rfl, rfl, s4⟩
  exact ⟨fun d hd => Ms.of3 (key d hd), Ms.sh (key 0 (Nat.le_refl _))⟩
theorem aB_X13_lost : ∀ pc, aB 198 pc = fnd bk_X13_lost pc := fun _ => rfl
def f_X13_lost (T : Nat) (v1 : Int) (M : aM) : Option (Int × aM) :=
 (f_X13_refused T v1 M).bind fun x1 =>
 some ((-100), x1.2)
theorem t_X13_lost {T : T3} {v1 : Int} {M : aM} {y : (Int × aM)}  (hS : Sh T.1 M) (h : f_X13_lost T.1 v1 M = some y) : Mr 1 198 [(2, ((138 : Nat) : Int)), (0, v1)] M (some (0, y.1)) y.2 T ∧ Sh T.1 y.2 := by
  have key : ∀ d, 1 ≤ d → Wp d 198 0 [] [(2, ((138 : Nat) : Int)), (0, v1)] [] (M, T) (fun r2 σ2 => r2 = some (0, y.1) ∧ σ2 = (y.2, T) ∧ Sh T.1 y.2) := by
    intro d hd
    rw [f_X13_lost] at h
    refine y_blk (t := 0) rfl (show fnd bk_X13_lost 0 = some _ from rfl) aB_X13_lost ?_
    refine wp_aload_n (v := ((138 : Nat) : Int)) rfl (Int.natCast_nonneg _) ?_
    refine wp_iload_n (v := v1) rfl ?_
    obtain ⟨x1, e2, h⟩ := d_bind h
    obtain ⟨r3, s4⟩ := t_X13_refused hS e2
    refine y_callV (as := [(0, v1)]) (S1 := []) (Nat.le_of_ble_eq_true rfl) (by omega) r3 (Nat.le_of_ble_eq_true rfl) rfl (show ash 138 = (13, 38) from rfl) (Nat.lt_of_lt_of_le (show 138 < 154 by decide) hS.1.1) (Nat.le_of_ble_eq_true rfl) (Nat.le_of_ble_eq_true rfl) rfl ?_
    refine wp_pop (Or.inl rfl) ?_
    refine wp_bipush (by decide) ?_
    cases h
    exact y_ret0 (Or.inl rfl) ⟨rfl, rfl, s4⟩
  exact ⟨fun d hd => Ms.of3 (key d hd), Ms.sh (key 1 (Nat.le_refl _))⟩
theorem aB_X13_denied : ∀ pc, aB 199 pc = fnd bk_X13_denied pc := fun _ => rfl
def f_X13_denied (T : Nat) (v1 : Int) (M : aM) : Option (Int × aM) :=
 (f_X13_refused T v1 M).bind fun x1 =>
 some (0, x1.2)
theorem t_X13_denied {T : T3} {v1 : Int} {M : aM} {y : (Int × aM)}  (hS : Sh T.1 M) (h : f_X13_denied T.1 v1 M = some y) : Mr 1 199 [(2, ((138 : Nat) : Int)), (0, v1)] M (some (0, y.1)) y.2 T ∧ Sh T.1 y.2 := by
  have key : ∀ d, 1 ≤ d → Wp d 199 0 [] [(2, ((138 : Nat) : Int)), (0, v1)] [] (M, T) (fun r2 σ2 => r2 = some (0, y.1) ∧ σ2 = (y.2, T) ∧ Sh T.1 y.2) := by
    intro d hd
    rw [f_X13_denied] at h
    refine y_blk (t := 0) rfl (show fnd bk_X13_denied 0 = some _ from rfl) aB_X13_denied ?_
    refine wp_aload_n (v := ((138 : Nat) : Int)) rfl (Int.natCast_nonneg _) ?_
    refine wp_iload_n (v := v1) rfl ?_
    obtain ⟨x1, e2, h⟩ := d_bind h
    obtain ⟨r3, s4⟩ := t_X13_refused hS e2
    refine y_callV (as := [(0, v1)]) (S1 := []) (Nat.le_of_ble_eq_true rfl) (by omega) r3 (Nat.le_of_ble_eq_true rfl) rfl (show ash 138 = (13, 38) from rfl) (Nat.lt_of_lt_of_le (show 138 < 154 by decide) hS.1.1) (Nat.le_of_ble_eq_true rfl) (Nat.le_of_ble_eq_true rfl) rfl ?_
    refine wp_pop (Or.inl rfl) ?_
    refine wp_iconst ⟨by decide, by decide⟩ ?_
    cases h
    exact y_ret0 (Or.inr (Or.inl rfl)) ⟨rfl, rfl, s4⟩
  exact ⟨fun d hd => Ms.of3 (key d hd), Ms.sh (key 1 (Nat.le_refl _))⟩
theorem aB_X13_good : ∀ pc, aB 200 pc = fnd bk_X13_good pc := fun _ => rfl
def f_X13_good (T : Nat) (v1 : Int) (M : aM) : Option (Int × aM) :=
 (some (aup M 138 1 0)).bind fun m1 =>
 (some (aup m1 138 2 (-1))).bind fun m3 =>
 some (v1, m3)
theorem t_X13_good {T : T3} {v1 : Int} {M : aM} {y : (Int × aM)}  (hS : Sh T.1 M) (h : f_X13_good T.1 v1 M = some y) : Mr 0 200 [(2, ((138 : Nat) : Int)), (0, v1)] M (some (0, y.1)) y.2 T ∧ Sh T.1 y.2 := by
  have key : ∀ d, 0 ≤ d → Wp d 200 0 [] [(2, ((138 : Nat) : Int)), (0, v1)] [] (M, T) (fun r2 σ2 => r2 = some (0, y.1) ∧ σ2 = (y.2, T) ∧ Sh T.1 y.2) := by
    intro d hd
    rw [f_X13_good] at h
    refine y_blk (t := 0) rfl (show fnd bk_X13_good 0 = some _ from rfl) aB_X13_good ?_
    refine wp_aload_n (v := ((138 : Nat) : Int)) rfl (Int.natCast_nonneg _) ?_
    refine wp_iconst ⟨by decide, by decide⟩ ?_
    refine y_put (show ash 138 = (13, 38) from rfl) (Nat.lt_of_lt_of_le (show 138 < 154 by decide) hS.1.1) rfl ?_
    obtain ⟨m1, em1, h⟩ := d_bind h
    have em1 := Option.some.inj em1
    have s2 : Sh T.1 m1 := em1 ▸ hS.up (Or.inr ⟨by rw [(show ash 138 = (13, 38) from rfl)]; decide, by rw [(show ash 138 = (13, 38) from rfl)]; decide⟩) (by have := (Nat.lt_of_lt_of_le (show 138 < 154 by decide) hS.1.1); have := hS.1.2; omega)
    rw [em1]
    refine wp_aload_n (v := ((138 : Nat) : Int)) rfl (Int.natCast_nonneg _) ?_
    refine wp_iconst ⟨by decide, by decide⟩ ?_
    refine y_put (show ash 138 = (13, 38) from rfl) (Nat.lt_of_lt_of_le (show 138 < 154 by decide) hS.1.1) rfl ?_
    obtain ⟨m3, em3, h⟩ := d_bind h
    have em3 := Option.some.inj em3
    have s4 : Sh T.1 m3 := em3 ▸ s2.up (Or.inr ⟨by rw [(show ash 138 = (13, 38) from rfl)]; decide, by rw [(show ash 138 = (13, 38) from rfl)]; decide⟩) (by have := (Nat.lt_of_lt_of_le (show 138 < 154 by decide) hS.1.1); have := hS.1.2; omega)
    rw [em3]
    refine wp_iload_n (v := v1) rfl ?_
    cases h
    exact y_ret0 (Or.inl rfl) ⟨rfl, rfl, s4⟩
  exact ⟨fun d hd => Ms.of3 (key d hd), Ms.sh (key 0 (Nat.le_refl _))⟩
theorem aB_X13_granted : ∀ pc, aB 201 pc = fnd bk_X13_granted pc := fun _ => rfl
def f_X13_granted (T : Nat)  (M : aM) : Option (Int × aM) :=
 (f_X13_good T 0 M).bind fun x1 =>
 some (1, x1.2)
theorem t_X13_granted {T : T3}  {M : aM} {y : (Int × aM)}  (hS : Sh T.1 M) (h : f_X13_granted T.1  M = some y) : Mr 1 201 [(2, ((138 : Nat) : Int))] M (some (0, y.1)) y.2 T ∧ Sh T.1 y.2 := by
  have key : ∀ d, 1 ≤ d → Wp d 201 0 [] [(2, ((138 : Nat) : Int))] [] (M, T) (fun r2 σ2 => r2 = some (0, y.1) ∧ σ2 = (y.2, T) ∧ Sh T.1 y.2) := by
    intro d hd
    rw [f_X13_granted] at h
    refine y_blk (t := 0) rfl (show fnd bk_X13_granted 0 = some _ from rfl) aB_X13_granted ?_
    refine wp_aload_n (v := ((138 : Nat) : Int)) rfl (Int.natCast_nonneg _) ?_
    refine wp_iconst ⟨by decide, by decide⟩ ?_
    obtain ⟨x1, e2, h⟩ := d_bind h
    obtain ⟨r3, s4⟩ := t_X13_good hS e2
    refine y_callV (as := [(0, 0)]) (S1 := []) (Nat.le_of_ble_eq_true rfl) (by omega) r3 (Nat.le_of_ble_eq_true rfl) rfl (show ash 138 = (13, 38) from rfl) (Nat.lt_of_lt_of_le (show 138 < 154 by decide) hS.1.1) (Nat.le_of_ble_eq_true rfl) (Nat.le_of_ble_eq_true rfl) rfl ?_
    refine wp_pop (Or.inl rfl) ?_
    refine wp_iconst ⟨by decide, by decide⟩ ?_
    cases h
    exact y_ret0 (Or.inr (Or.inr rfl)) ⟨rfl, rfl, s4⟩
  exact ⟨fun d hd => Ms.of3 (key d hd), Ms.sh (key 1 (Nat.le_refl _))⟩
theorem aB_X13_in : ∀ pc, aB 202 pc = fnd bk_X13_in pc := fun _ => rfl
def f_X13_in (T : Nat) (v0 : Int) (v1 : Int) (v2 : Int) (M : aM) : Option Int :=
 if v0 < v1 then
 some 0 else
 if v2 < v0 then
 some 0 else
 some 1
theorem t_X13_in {T : T3} {v0 : Int} {v1 : Int} {v2 : Int} {M : aM} {y : Int}  (hS : Sh T.1 M) (h : f_X13_in T.1 v0 v1 v2 M = some y) : Mr 0 202 [(0, v0), (0, v1), (0, v2)] M (some (0, y)) M T := by
  have key : ∀ d, 0 ≤ d → Wp d 202 0 [] [(0, v0), (0, v1), (0, v2)] [] (M, T) (fun r2 σ2 => r2 = some (0, y) ∧ σ2 = (M, T)) := by
    intro d hd
    rw [f_X13_in] at h
    refine y_blk (t := 0) rfl (show fnd bk_X13_in 0 = some _ from rfl) aB_X13_in ?_
    refine wp_iload_n (v := v0) rfl ?_
    refine wp_iload_n (v := v1) rfl ?_
    refine wp_icmp_lt (fun c1 => ?_) (fun c1 => ?_)
    · rw [if_pos c1] at h
      refine y_blk (t := 14) rfl (show fnd bk_X13_in 14 = some _ from rfl) aB_X13_in ?_
      refine wp_iconst ⟨by decide, by decide⟩ ?_
      refine y_blk (t := 15) rfl (show fnd bk_X13_in 15 = some _ from rfl) aB_X13_in ?_
      cases h
      exact y_ret0 (Or.inr (Or.inl rfl)) ⟨rfl, rfl⟩
    · rw [if_neg c1] at h
      refine wp_iload_n (v := v0) rfl ?_
      refine wp_iload_n (v := v2) rfl ?_
      refine wp_icmp_gt (fun c2 => ?_) (fun c2 => ?_)
      · rw [if_pos c2] at h
        refine y_blk (t := 14) rfl (show fnd bk_X13_in 14 = some _ from rfl) aB_X13_in ?_
        refine wp_iconst ⟨by decide, by decide⟩ ?_
        refine y_blk (t := 15) rfl (show fnd bk_X13_in 15 = some _ from rfl) aB_X13_in ?_
        cases h
        exact y_ret0 (Or.inr (Or.inl rfl)) ⟨rfl, rfl⟩
      · rw [if_neg c2] at h
        refine wp_iconst ⟨by decide, by decide⟩ ?_
        refine wp_goto ?_
        refine y_blk (t := 15) rfl (show fnd bk_X13_in 15 = some _ from rfl) aB_X13_in ?_
        cases h
        exact y_ret0 (Or.inr (Or.inr rfl)) ⟨rfl, rfl⟩
  exact fun d hd => Ms.of (key d hd)
theorem aB_X13_bit : ∀ pc, aB 203 pc = fnd bk_X13_bit pc := fun _ => rfl
def f_X13_bit (T : Nat) (v0 : Int) (v1 : Int) (M : aM) : Option Int :=
 if (aand (ashr v0 v1) 1) = 1 then
 some 1 else
 some 0
theorem t_X13_bit {T : T3} {v0 : Int} {v1 : Int} {M : aM} {y : Int}  (hS : Sh T.1 M) (h : f_X13_bit T.1 v0 v1 M = some y) : Mr 0 203 [(0, v0), (0, v1)] M (some (0, y)) M T := by
  have key : ∀ d, 0 ≤ d → Wp d 203 0 [] [(0, v0), (0, v1)] [] (M, T) (fun r2 σ2 => r2 = some (0, y) ∧ σ2 = (M, T)) := by
    intro d hd
    rw [f_X13_bit] at h
    refine y_blk (t := 0) rfl (show fnd bk_X13_bit 0 = some _ from rfl) aB_X13_bit ?_
    refine wp_iload_n (v := v0) rfl ?_
    refine wp_iload_n (v := v1) rfl ?_
    refine wp_ishr ?_
    refine wp_iconst ⟨by decide, by decide⟩ ?_
    refine wp_iand ?_
    refine wp_iconst ⟨by decide, by decide⟩ ?_
    refine y_ne (fun c1 => ?_) (fun c1 => ?_)
    · rw [if_neg c1] at h
      refine y_blk (t := 13) rfl (show fnd bk_X13_bit 13 = some _ from rfl) aB_X13_bit ?_
      refine wp_iconst ⟨by decide, by decide⟩ ?_
      refine y_blk (t := 14) rfl (show fnd bk_X13_bit 14 = some _ from rfl) aB_X13_bit ?_
      cases h
      exact y_ret0 (Or.inr (Or.inl rfl)) ⟨rfl, rfl⟩
    · rw [if_pos c1] at h
      refine wp_iconst ⟨by decide, by decide⟩ ?_
      refine wp_goto ?_
      refine y_blk (t := 14) rfl (show fnd bk_X13_bit 14 = some _ from rfl) aB_X13_bit ?_
      cases h
      exact y_ret0 (Or.inr (Or.inr rfl)) ⟨rfl, rfl⟩
  exact fun d hd => Ms.of (key d hd)
theorem aB_X13_bits : ∀ pc, aB 204 pc = fnd bk_X13_bits pc := fun _ => rfl
def l_X13_bits_4 (T : Nat)  (M : aM) (k : Int → Int → Option Int) : Nat → Int → Int → Option Int
| 0, _, _ => none
| n + 1, v1, v2 =>
 if v2 = 0 then
 k v1 v2 else
 if aIn (v1 + 1) then
 if aIn (v2 - 1) then
 l_X13_bits_4 T M k n (v1 + 1) (aand v2 (v2 - 1)) else none else none
theorem tl_X13_bits_4 {d : Nat} (hd : 0 ≤ d) {T : T3}  {M : aM} {k : Int → Int → Option Int} {y : Int}  (hS : Sh T.1 M)
    (hk : ∀ (v1 v2 : Int) (u0 : aV), Sh T.1 M → k v1 v2 = some y → Wp d 204 20 [] [u0, (0, v1), (0, v2)] [] (M, T) (fun r2 σ2 => r2 = some (0, y) ∧ σ2 = (M, T))) :
    ∀ (n : Nat) (v1 v2 : Int) (u0 : aV), Sh T.1 M → l_X13_bits_4 T.1 M k n v1 v2 = some y → Wp d 204 4 [] [u0, (0, v1), (0, v2)] [] (M, T) (fun r2 σ2 => r2 = some (0, y) ∧ σ2 = (M, T)) := by
  intro n
  induction n with
  | zero =>
    intro v1 v2 u0 _ h
    exact nomatch (show (none : Option Int) = some y from h)
  | succ n ih =>
    intro v1 v2 u0 sM h
    rw [l_X13_bits_4] at h
    refine y_blk (t := 4) rfl (show fnd bk_X13_bits 4 = some _ from rfl) aB_X13_bits ?_
    refine wp_iload_n (v := v2) rfl ?_
    refine wp_if_eq (fun c1 => ?_) (fun c1 => ?_)
    · rw [if_pos c1] at h
      exact hk v1 v2 u0  sM h
    · rw [if_neg c1] at h
      obtain ⟨c2, h⟩ := d_ite h
      refine y_iinc (L1 := [(ajk u0), (0, (v1 + 1)), (0, v2)]) rfl (Nat.le_of_ble_eq_true rfl) ⟨by decide, by decide⟩ c2 (aset_jk (q := 0) (u := u0) rfl) ?_
      refine wp_iload_n (v := v2) rfl ?_
      refine wp_iload_n (v := v2) rfl ?_
      refine wp_iconst ⟨by decide, by decide⟩ ?_
      obtain ⟨c3, h⟩ := d_ite h
      refine wp_isub c3 ?_
      refine wp_iand ?_
      refine y_stn (L1 := [(ajk u0), (0, (v1 + 1)), (0, (aand v2 (v2 - 1)))]) (Nat.le_of_ble_eq_true rfl) rfl ?_
      refine wp_goto ?_
      exact ih (v1 + 1) (aand v2 (v2 - 1)) (ajk u0)  sM h
def f_X13_bits (T : Nat) (v0 : Int) (M : aM) : Option Int :=
 l_X13_bits_4 T M (fun w4 w5 =>
 some w4) FU 0 v0
theorem t_X13_bits {T : T3} {v0 : Int} {M : aM} {y : Int}  (hS : Sh T.1 M) (h : f_X13_bits T.1 v0 M = some y) : Mr 0 204 [(0, v0)] M (some (0, y)) M T := by
  have key : ∀ d, 0 ≤ d → Wp d 204 0 [] [(0, v0), (9, 0), (9, 0)] [] (M, T) (fun r2 σ2 => r2 = some (0, y) ∧ σ2 = (M, T)) := by
    intro d hd
    rw [f_X13_bits] at h
    refine y_blk (t := 0) rfl (show fnd bk_X13_bits 0 = some _ from rfl) aB_X13_bits ?_
    refine wp_iconst ⟨by decide, by decide⟩ ?_
    refine y_stn (L1 := [(0, v0), (0, 0), (9, 0)]) (Nat.le_of_ble_eq_true rfl) rfl ?_
    refine wp_iload_n (v := v0) rfl ?_
    refine y_stn (L1 := [(0, v0), (0, 0), (0, v0)]) (Nat.le_of_ble_eq_true rfl) rfl ?_
    refine tl_X13_bits_4 (by omega) hS (fun w4 w5 u6  s7 h => ?_) FU 0 v0 (0, v0)  hS h
    refine y_blk (t := 20) rfl (show fnd bk_X13_bits 20 = some _ from rfl) aB_X13_bits ?_
    refine wp_iload_n (v := w4) rfl ?_
    cases h
    exact y_ret0 (Or.inl rfl) ⟨rfl, rfl⟩
  exact fun d hd => Ms.of (key d hd)
theorem aB_X13_common : ∀ pc, aB 205 pc = fnd bk_X13_common pc := fun _ => rfl
def l_X13_common_6 (T : Nat)  (M : aM) (k : Int → Int → Option Int) : Nat → Int → Int → Option Int
| 0, _, _ => none
| n + 1, v4, v6 =>
 if (alcmp v6 0) = 0 then
 k v4 v6 else
 if v6 ≠ 0 then
 l_X13_common_6 T M k n v6 (alrem v4 v6) else none
theorem tl_X13_common_6 {d : Nat} (hd : 0 ≤ d) {T : T3}  {M : aM} {k : Int → Int → Option Int} {y : Int}  (hS : Sh T.1 M)
    (hk : ∀ (v4 v6 : Int) (u0 u1 u2 u3 u8 u9 : aV), Sh T.1 M → k v4 v6 = some y → Wp d 205 31 [] [u0, u1, u2, u3, (1, v4), (9, 0), (1, v6), (9, 0), u8, u9] [] (M, T) (fun r2 σ2 => r2 = some (1, y) ∧ σ2 = (M, T))) :
    ∀ (n : Nat) (v4 v6 : Int) (u0 u1 u2 u3 u8 u9 : aV), Sh T.1 M → l_X13_common_6 T.1 M k n v4 v6 = some y → Wp d 205 6 [] [u0, u1, u2, u3, (1, v4), (9, 0), (1, v6), (9, 0), u8, u9] [] (M, T) (fun r2 σ2 => r2 = some (1, y) ∧ σ2 = (M, T)) := by
  intro n
  induction n with
  | zero =>
    intro v4 v6 u0 u1 u2 u3 u8 u9 _ h
    exact nomatch (show (none : Option Int) = some y from h)
  | succ n ih =>
    intro v4 v6 u0 u1 u2 u3 u8 u9 sM h
    rw [l_X13_common_6] at h
    refine y_blk (t := 6) rfl (show fnd bk_X13_common 6 = some _ from rfl) aB_X13_common ?_
    refine wp_lload (v := v6) rfl ?_
    refine y_lconst (v := 0) rfl ?_
    refine wp_lcmp ?_
    refine wp_if_eq (fun c1 => ?_) (fun c1 => ?_)
    · rw [if_pos c1] at h
      exact hk v4 v6 u0 u1 u2 u3 u8 u9  sM h
    · rw [if_neg c1] at h
      refine wp_lload (v := v4) rfl ?_
      refine wp_lload (v := v6) rfl ?_
      obtain ⟨c2, h⟩ := d_ite h
      refine wp_lrem c2 ?_
      refine y_lst (L1 := [u0, u1, u2, u3, (1, v4), (9, 0), (1, v6), (9, 0), (1, (alrem v4 v6)), (9, 0)]) (Nat.le_of_ble_eq_true rfl) rfl ?_
      refine wp_lload (v := v6) rfl ?_
      refine y_lst (L1 := [u0, u1, u2, (ajk u3), (1, v6), (9, 0), (1, v6), (9, 0), (1, (alrem v4 v6)), (9, 0)]) (Nat.le_of_ble_eq_true rfl) (aset2_jk (q := 3) (u := u3) rfl) ?_
      refine wp_lload (v := (alrem v4 v6)) rfl ?_
      refine y_lst (L1 := [u0, u1, u2, (ajk u3), (1, v6), (9, 0), (1, (alrem v4 v6)), (9, 0), (1, (alrem v4 v6)), (9, 0)]) (Nat.le_of_ble_eq_true rfl) rfl ?_
      refine wp_goto ?_
      exact ih v6 (alrem v4 v6) u0 u1 u2 (ajk u3) (1, (alrem v4 v6)) (9, 0)  sM h
def f_X13_common (T : Nat) (v0 : Int) (v2 : Int) (M : aM) : Option Int :=
 l_X13_common_6 T M (fun w3 w4 =>
 some w3) FU v0 v2
theorem t_X13_common {T : T3} {v0 : Int} {v2 : Int} {M : aM} {y : Int}  (hS : Sh T.1 M) (h : f_X13_common T.1 v0 v2 M = some y) : Mr 0 205 [(1, v0), (1, v2)] M (some (1, y)) M T := by
  have key : ∀ d, 0 ≤ d → Wp d 205 0 [] [(1, v0), (9, 0), (1, v2), (9, 0), (9, 0), (9, 0), (9, 0), (9, 0), (9, 0), (9, 0)] [] (M, T) (fun r2 σ2 => r2 = some (1, y) ∧ σ2 = (M, T)) := by
    intro d hd
    rw [f_X13_common] at h
    refine y_blk (t := 0) rfl (show fnd bk_X13_common 0 = some _ from rfl) aB_X13_common ?_
    refine wp_lload_n (v := v0) rfl ?_
    refine y_lst (L1 := [(1, v0), (9, 0), (1, v2), (9, 0), (1, v0), (9, 0), (9, 0), (9, 0), (9, 0), (9, 0)]) (Nat.le_of_ble_eq_true rfl) rfl ?_
    refine wp_lload_n (v := v2) rfl ?_
    refine y_lst (L1 := [(1, v0), (9, 0), (1, v2), (9, 0), (1, v0), (9, 0), (1, v2), (9, 0), (9, 0), (9, 0)]) (Nat.le_of_ble_eq_true rfl) rfl ?_
    refine tl_X13_common_6 (by omega) hS (fun w3 w4 u5 u6 u7 u8 u9 u10  s11 h => ?_) FU v0 v2 (1, v0) (9, 0) (1, v2) (9, 0) (9, 0) (9, 0)  hS h
    refine y_blk (t := 31) rfl (show fnd bk_X13_common 31 = some _ from rfl) aB_X13_common ?_
    refine wp_lload (v := w3) rfl ?_
    cases h
    exact wp_lreturn ⟨rfl, rfl⟩
  exact fun d hd => Ms.of (key d hd)
theorem aB_X13_fraction : ∀ pc, aB 206 pc = fnd bk_X13_fraction pc := fun _ => rfl
def f_X13_fraction (T : Nat) (v1 : Int) (v3 : Int) (v5 : Int) (M : aM) : Option (Int × aM) :=
 (f_X13_good T 0 M).bind fun x1 =>
 if (alcmp v3 0) = 0 then
 if v5 = 0 then
 some (0, x1.2) else
 some (1, x1.2) else
 if v5 = 0 then
 (f_X13_common T v1 v3 x1.2).bind fun x7 =>
 if x7 ≠ 0 then
 some ((aldiv v1 x7), x1.2) else none else
 (f_X13_common T v1 v3 x1.2).bind fun x10 =>
 if x10 ≠ 0 then
 some ((aldiv v3 x10), x1.2) else none
theorem t_X13_fraction {T : T3} {v1 : Int} {v3 : Int} {v5 : Int} {M : aM} {y : (Int × aM)}  (hS : Sh T.1 M) (h : f_X13_fraction T.1 v1 v3 v5 M = some y) : Mr 1 206 [(2, ((138 : Nat) : Int)), (1, v1), (1, v3), (0, v5)] M (some (1, y.1)) y.2 T ∧ Sh T.1 y.2 := by
  have key : ∀ d, 1 ≤ d → Wp d 206 0 [] [(2, ((138 : Nat) : Int)), (1, v1), (9, 0), (1, v3), (9, 0), (0, v5)] [] (M, T) (fun r2 σ2 => r2 = some (1, y.1) ∧ σ2 = (y.2, T) ∧ Sh T.1 y.2) := by
    intro d hd
    rw [f_X13_fraction] at h
    refine y_blk (t := 0) rfl (show fnd bk_X13_fraction 0 = some _ from rfl) aB_X13_fraction ?_
    refine wp_aload_n (v := ((138 : Nat) : Int)) rfl (Int.natCast_nonneg _) ?_
    refine wp_iconst ⟨by decide, by decide⟩ ?_
    obtain ⟨x1, e2, h⟩ := d_bind h
    obtain ⟨r3, s4⟩ := t_X13_good hS e2
    refine y_callV (as := [(0, 0)]) (S1 := []) (Nat.le_of_ble_eq_true rfl) (by omega) r3 (Nat.le_of_ble_eq_true rfl) rfl (show ash 138 = (13, 38) from rfl) (Nat.lt_of_lt_of_le (show 138 < 154 by decide) hS.1.1) (Nat.le_of_ble_eq_true rfl) (Nat.le_of_ble_eq_true rfl) rfl ?_
    refine wp_pop (Or.inl rfl) ?_
    refine wp_lload_n (v := v3) rfl ?_
    refine y_lconst (v := 0) rfl ?_
    refine wp_lcmp ?_
    refine y_nez (fun c5 => ?_) (fun c5 => ?_)
    · rw [if_neg c5] at h
      refine y_blk (t := 23) rfl (show fnd bk_X13_fraction 23 = some _ from rfl) aB_X13_fraction ?_
      refine wp_iload (v := v5) rfl ?_
      refine wp_if_eq (fun c6 => ?_) (fun c6 => ?_)
      · rw [if_pos c6] at h
        refine y_blk (t := 32) rfl (show fnd bk_X13_fraction 32 = some _ from rfl) aB_X13_fraction ?_
        refine wp_lload_n (v := v1) rfl ?_
        refine y_blk (t := 33) rfl (show fnd bk_X13_fraction 33 = some _ from rfl) aB_X13_fraction ?_
        refine wp_lload_n (v := v1) rfl ?_
        refine wp_lload_n (v := v3) rfl ?_
        obtain ⟨x7, e8, h⟩ := d_bind h
        refine y_callS (as := [(1, v1), (1, v3)]) (S1 := [(1, v1)]) (Nat.le_of_ble_eq_true rfl) (by omega) (t_X13_common s4 e8) (Nat.le_of_ble_eq_true rfl) rfl (Nat.le_of_ble_eq_true rfl) (Nat.le_of_ble_eq_true rfl) rfl ?_
        obtain ⟨c9, h⟩ := d_ite h
        refine wp_ldiv c9 ?_
        cases h
        exact wp_lreturn ⟨rfl, rfl, s4⟩
      · rw [if_neg c6] at h
        refine wp_lload_n (v := v3) rfl ?_
        refine wp_goto ?_
        refine y_blk (t := 33) rfl (show fnd bk_X13_fraction 33 = some _ from rfl) aB_X13_fraction ?_
        refine wp_lload_n (v := v1) rfl ?_
        refine wp_lload_n (v := v3) rfl ?_
        obtain ⟨x10, e11, h⟩ := d_bind h
        refine y_callS (as := [(1, v1), (1, v3)]) (S1 := [(1, v3)]) (Nat.le_of_ble_eq_true rfl) (by omega) (t_X13_common s4 e11) (Nat.le_of_ble_eq_true rfl) rfl (Nat.le_of_ble_eq_true rfl) (Nat.le_of_ble_eq_true rfl) rfl ?_
        obtain ⟨c12, h⟩ := d_ite h
        refine wp_ldiv c12 ?_
        cases h
        exact wp_lreturn ⟨rfl, rfl, s4⟩
    · rw [if_pos c5] at h
      refine wp_iload (v := v5) rfl ?_
      refine wp_if_eq (fun c13 => ?_) (fun c13 => ?_)
      · rw [if_pos c13] at h
        refine y_blk (t := 21) rfl (show fnd bk_X13_fraction 21 = some _ from rfl) aB_X13_fraction ?_
        refine y_lconst (v := 0) rfl ?_
        refine y_blk (t := 22) rfl (show fnd bk_X13_fraction 22 = some _ from rfl) aB_X13_fraction ?_
        cases h
        exact wp_lreturn ⟨rfl, rfl, s4⟩
      · rw [if_neg c13] at h
        refine y_lconst (v := 1) rfl ?_
        refine wp_goto ?_
        refine y_blk (t := 22) rfl (show fnd bk_X13_fraction 22 = some _ from rfl) aB_X13_fraction ?_
        cases h
        exact wp_lreturn ⟨rfl, rfl, s4⟩
  exact ⟨fun d hd => Ms.of3 (key d hd), Ms.sh (key 1 (Nat.le_refl _))⟩
theorem aB_X13_byteAt : ∀ pc, aB 207 pc = fnd bk_X13_byteAt pc := fun _ => rfl
def f_X13_byteAt (T : Nat) (v1 : Int) (M : aM) : Option Int :=
 if (M 138 7) ≤ v1 then
 some (-1) else
 if 0 ≤ v1 ∧ v1 < 900 then
 some (aand (M 139 (v1).toNat) 255) else none
theorem t_X13_byteAt {T : T3} {v1 : Int} {M : aM} {y : Int}  (hS : Sh T.1 M) (h : f_X13_byteAt T.1 v1 M = some y) : Mr 0 207 [(2, ((138 : Nat) : Int)), (0, v1)] M (some (0, y)) M T := by
  have key : ∀ d, 0 ≤ d → Wp d 207 0 [] [(2, ((138 : Nat) : Int)), (0, v1)] [] (M, T) (fun r2 σ2 => r2 = some (0, y) ∧ σ2 = (M, T)) := by
    intro d hd
    rw [f_X13_byteAt] at h
    refine y_blk (t := 0) rfl (show fnd bk_X13_byteAt 0 = some _ from rfl) aB_X13_byteAt ?_
    refine wp_iload_n (v := v1) rfl ?_
    refine wp_aload_n (v := ((138 : Nat) : Int)) rfl (Int.natCast_nonneg _) ?_
    refine y_get (show ash 138 = (13, 38) from rfl) (Nat.lt_of_lt_of_le (show 138 < 154 by decide) hS.1.1) (v := M 138 7) rfl rfl ?_
    refine wp_icmp_ge (fun c1 => ?_) (fun c1 => ?_)
    · rw [if_pos c1] at h
      refine y_blk (t := 21) rfl (show fnd bk_X13_byteAt 21 = some _ from rfl) aB_X13_byteAt ?_
      refine wp_iconst ⟨by decide, by decide⟩ ?_
      refine y_blk (t := 22) rfl (show fnd bk_X13_byteAt 22 = some _ from rfl) aB_X13_byteAt ?_
      cases h
      exact y_ret0 (Or.inl rfl) ⟨rfl, rfl⟩
    · rw [if_neg c1] at h
      refine wp_aload_n (v := ((138 : Nat) : Int)) rfl (Int.natCast_nonneg _) ?_
      refine y_get (show ash 138 = (13, 38) from rfl) (Nat.lt_of_lt_of_le (show 138 < 154 by decide) hS.1.1) (v := ((139 : Nat) : Int)) (hS.at 138 5 139 (by decide +kernel)) rfl ?_
      refine wp_iload_n (v := v1) rfl ?_
      obtain ⟨c2, h⟩ := d_ite h
      refine y_bald (show ash 139 = (101, 900) from rfl) (Nat.lt_of_lt_of_le (show 139 < 154 by decide) hS.1.1) (Nat.ne_of_lt (Nat.lt_of_lt_of_le (Nat.lt_of_lt_of_le (show 139 < 154 by decide) hS.1.1) hS.1.2)) c2 (v := M 139 (v1).toNat) rfl ?_
      refine wp_sipush (by decide) ?_
      refine wp_iand ?_
      refine wp_goto ?_
      refine y_blk (t := 22) rfl (show fnd bk_X13_byteAt 22 = some _ from rfl) aB_X13_byteAt ?_
      cases h
      exact y_ret0 (Or.inl rfl) ⟨rfl, rfl⟩
  exact fun d hd => Ms.of (key d hd)
theorem aB_X13_isLetter : ∀ pc, aB 208 pc = fnd bk_X13_isLetter pc := fun _ => rfl
def f_X13_isLetter (T : Nat) (v0 : Int) (M : aM) : Option Int :=
 if v0 < 97 then
 some 0 else
 if 122 < v0 then
 some 0 else
 some 1
theorem t_X13_isLetter {T : T3} {v0 : Int} {M : aM} {y : Int}  (hS : Sh T.1 M) (h : f_X13_isLetter T.1 v0 M = some y) : Mr 0 208 [(0, v0)] M (some (0, y)) M T := by
  have key : ∀ d, 0 ≤ d → Wp d 208 0 [] [(0, v0)] [] (M, T) (fun r2 σ2 => r2 = some (0, y) ∧ σ2 = (M, T)) := by
    intro d hd
    rw [f_X13_isLetter] at h
    refine y_blk (t := 0) rfl (show fnd bk_X13_isLetter 0 = some _ from rfl) aB_X13_isLetter ?_
    refine wp_iload_n (v := v0) rfl ?_
    refine wp_bipush (by decide) ?_
    refine wp_icmp_lt (fun c1 => ?_) (fun c1 => ?_)
    · rw [if_pos c1] at h
      refine y_blk (t := 16) rfl (show fnd bk_X13_isLetter 16 = some _ from rfl) aB_X13_isLetter ?_
      refine wp_iconst ⟨by decide, by decide⟩ ?_
      refine y_blk (t := 17) rfl (show fnd bk_X13_isLetter 17 = some _ from rfl) aB_X13_isLetter ?_
      cases h
      exact y_ret0 (Or.inr (Or.inl rfl)) ⟨rfl, rfl⟩
    · rw [if_neg c1] at h
      refine wp_iload_n (v := v0) rfl ?_
      refine wp_bipush (by decide) ?_
      refine wp_icmp_gt (fun c2 => ?_) (fun c2 => ?_)
      · rw [if_pos c2] at h
        refine y_blk (t := 16) rfl (show fnd bk_X13_isLetter 16 = some _ from rfl) aB_X13_isLetter ?_
        refine wp_iconst ⟨by decide, by decide⟩ ?_
        refine y_blk (t := 17) rfl (show fnd bk_X13_isLetter 17 = some _ from rfl) aB_X13_isLetter ?_
        cases h
        exact y_ret0 (Or.inr (Or.inl rfl)) ⟨rfl, rfl⟩
      · rw [if_neg c2] at h
        refine wp_iconst ⟨by decide, by decide⟩ ?_
        refine wp_goto ?_
        refine y_blk (t := 17) rfl (show fnd bk_X13_isLetter 17 = some _ from rfl) aB_X13_isLetter ?_
        cases h
        exact y_ret0 (Or.inr (Or.inr rfl)) ⟨rfl, rfl⟩
  exact fun d hd => Ms.of (key d hd)
theorem aB_X13_isDigit : ∀ pc, aB 209 pc = fnd bk_X13_isDigit pc := fun _ => rfl
def f_X13_isDigit (T : Nat) (v0 : Int) (M : aM) : Option Int :=
 if v0 < 48 then
 some 0 else
 if 57 < v0 then
 some 0 else
 some 1
theorem t_X13_isDigit {T : T3} {v0 : Int} {M : aM} {y : Int}  (hS : Sh T.1 M) (h : f_X13_isDigit T.1 v0 M = some y) : Mr 0 209 [(0, v0)] M (some (0, y)) M T := by
  have key : ∀ d, 0 ≤ d → Wp d 209 0 [] [(0, v0)] [] (M, T) (fun r2 σ2 => r2 = some (0, y) ∧ σ2 = (M, T)) := by
    intro d hd
    rw [f_X13_isDigit] at h
    refine y_blk (t := 0) rfl (show fnd bk_X13_isDigit 0 = some _ from rfl) aB_X13_isDigit ?_
    refine wp_iload_n (v := v0) rfl ?_
    refine wp_bipush (by decide) ?_
    refine wp_icmp_lt (fun c1 => ?_) (fun c1 => ?_)
    · rw [if_pos c1] at h
      refine y_blk (t := 16) rfl (show fnd bk_X13_isDigit 16 = some _ from rfl) aB_X13_isDigit ?_
      refine wp_iconst ⟨by decide, by decide⟩ ?_
      refine y_blk (t := 17) rfl (show fnd bk_X13_isDigit 17 = some _ from rfl) aB_X13_isDigit ?_
      cases h
      exact y_ret0 (Or.inr (Or.inl rfl)) ⟨rfl, rfl⟩
    · rw [if_neg c1] at h
      refine wp_iload_n (v := v0) rfl ?_
      refine wp_bipush (by decide) ?_
      refine wp_icmp_gt (fun c2 => ?_) (fun c2 => ?_)
      · rw [if_pos c2] at h
        refine y_blk (t := 16) rfl (show fnd bk_X13_isDigit 16 = some _ from rfl) aB_X13_isDigit ?_
        refine wp_iconst ⟨by decide, by decide⟩ ?_
        refine y_blk (t := 17) rfl (show fnd bk_X13_isDigit 17 = some _ from rfl) aB_X13_isDigit ?_
        cases h
        exact y_ret0 (Or.inr (Or.inl rfl)) ⟨rfl, rfl⟩
      · rw [if_neg c2] at h
        refine wp_iconst ⟨by decide, by decide⟩ ?_
        refine wp_goto ?_
        refine y_blk (t := 17) rfl (show fnd bk_X13_isDigit 17 = some _ from rfl) aB_X13_isDigit ?_
        cases h
        exact y_ret0 (Or.inr (Or.inr rfl)) ⟨rfl, rfl⟩
  exact fun d hd => Ms.of (key d hd)
theorem aB_X13_packed : ∀ pc, aB 210 pc = fnd bk_X13_packed pc := fun _ => rfl
def l_X13_packed_4 (T : Nat) (v0 : Int) (M : aM) (k : Int → Int → Option Int) : Nat → Int → Int → Option Int
| 0, _, _ => none
| n + 1, v1, v3 =>
 if 2000000 ≤ v0 ∧ v0 < 2000048 then
 if ((atx.getD ((v0 - 2000000).toNat) []).length : Int) ≤ v3 then
 k v1 v3 else
 if aInL (32 * v1) then
 if 2000000 ≤ v0 ∧ v0 < 2000048 ∧ 0 ≤ v3 ∧ (v3).toNat < (atx.getD ((v0 - 2000000).toNat) []).length then
 if aIn (((atx.getD ((v0 - 2000000).toNat) []).getD (v3).toNat 0 : Int) - 97) then
 if aIn ((((atx.getD ((v0 - 2000000).toNat) []).getD (v3).toNat 0 : Int) - 97) + 1) then
 if aInL ((32 * v1) + ((((atx.getD ((v0 - 2000000).toNat) []).getD (v3).toNat 0 : Int) - 97) + 1)) then
 if aIn (v3 + 1) then
 l_X13_packed_4 T v0 M k n ((32 * v1) + ((((atx.getD ((v0 - 2000000).toNat) []).getD (v3).toNat 0 : Int) - 97) + 1)) (v3 + 1) else none else none else none else none else none else none else none
theorem tl_X13_packed_4 {d : Nat} (hd : 4 ≤ d) {T : T3} {v0 : Int} {M : aM} {k : Int → Int → Option Int} {y : Int} (hsv0 : 0 ≤ v0) (hS : Sh T.1 M)
    (hk : ∀ (v1 v3 : Int), Sh T.1 M → k v1 v3 = some y → Wp d 210 36 [] [(2, v0), (1, v1), (9, 0), (0, v3)] [] (M, T) (fun r2 σ2 => r2 = some (1, y) ∧ σ2 = (M, T))) :
    ∀ (n : Nat) (v1 v3 : Int), Sh T.1 M → l_X13_packed_4 T.1 v0 M k n v1 v3 = some y → Wp d 210 4 [] [(2, v0), (1, v1), (9, 0), (0, v3)] [] (M, T) (fun r2 σ2 => r2 = some (1, y) ∧ σ2 = (M, T)) := by
  intro n
  induction n with
  | zero =>
    intro v1 v3 _ h
    exact nomatch (show (none : Option Int) = some y from h)
  | succ n ih =>
    intro v1 v3 sM h
    rw [l_X13_packed_4] at h
    refine y_blk (t := 4) rfl (show fnd bk_X13_packed 4 = some _ from rfl) aB_X13_packed ?_
    refine wp_iload_n (v := v3) rfl ?_
    refine wp_aload_n (v := v0) rfl hsv0 ?_
    obtain ⟨c1, h⟩ := d_ite h
    refine y_slen ⟨by omega, Nat.le_of_ble_eq_true rfl, rfl, c1.1, c1.2⟩ ?_
    refine wp_icmp_ge (fun c2 => ?_) (fun c2 => ?_)
    · rw [if_pos c2] at h
      exact hk v1 v3   sM h
    · rw [if_neg c2] at h
      refine y_ldc2 (v := 32) (by decide) rfl ?_
      refine wp_lload_n (v := v1) rfl ?_
      obtain ⟨c3, h⟩ := d_ite h
      refine wp_lmul c3 ?_
      refine wp_aload_n (v := v0) rfl hsv0 ?_
      refine wp_iload_n (v := v3) rfl ?_
      obtain ⟨c4, h⟩ := d_ite h
      refine y_schar ⟨by omega, Nat.le_of_ble_eq_true rfl, rfl, c4⟩ ?_
      refine wp_bipush (by decide) ?_
      obtain ⟨c5, h⟩ := d_ite h
      refine wp_isub c5 ?_
      refine wp_iconst ⟨by decide, by decide⟩ ?_
      obtain ⟨c6, h⟩ := d_ite h
      refine wp_iadd c6 ?_
      refine wp_i2l ?_
      obtain ⟨c7, h⟩ := d_ite h
      refine wp_ladd c7 ?_
      refine y_lstn (L1 := [(2, v0), (1, ((32 * v1) + ((((atx.getD ((v0 - 2000000).toNat) []).getD (v3).toNat 0 : Int) - 97) + 1))), (9, 0), (0, v3)]) (Nat.le_of_ble_eq_true rfl) rfl ?_
      obtain ⟨c8, h⟩ := d_ite h
      refine y_iinc (L1 := [(2, v0), (1, ((32 * v1) + ((((atx.getD ((v0 - 2000000).toNat) []).getD (v3).toNat 0 : Int) - 97) + 1))), (9, 0), (0, (v3 + 1))]) rfl (Nat.le_of_ble_eq_true rfl) ⟨by decide, by decide⟩ c8 rfl ?_
      refine wp_goto ?_
      exact ih ((32 * v1) + ((((atx.getD ((v0 - 2000000).toNat) []).getD (v3).toNat 0 : Int) - 97) + 1)) (v3 + 1)   sM h
def f_X13_packed (T : Nat) (v0 : Int) (M : aM) : Option Int :=
 if 0 ≤ v0 then
 l_X13_packed_4 T v0 M (fun w9 w10 =>
 some w9) FU 0 0 else none
theorem t_X13_packed {T : T3} {v0 : Int} {M : aM} {y : Int}  (hS : Sh T.1 M) (h : f_X13_packed T.1 v0 M = some y) : Mr 4 210 [(2, v0)] M (some (1, y)) M T := by
  have key : ∀ d, 4 ≤ d → Wp d 210 0 [] [(2, v0), (9, 0), (9, 0), (9, 0)] [] (M, T) (fun r2 σ2 => r2 = some (1, y) ∧ σ2 = (M, T)) := by
    intro d hd
    rw [f_X13_packed] at h
    obtain ⟨hsv0, h⟩ := d_ite h
    refine y_blk (t := 0) rfl (show fnd bk_X13_packed 0 = some _ from rfl) aB_X13_packed ?_
    refine y_lconst (v := 0) rfl ?_
    refine y_lstn (L1 := [(2, v0), (1, 0), (9, 0), (9, 0)]) (Nat.le_of_ble_eq_true rfl) rfl ?_
    refine wp_iconst ⟨by decide, by decide⟩ ?_
    refine y_stn (L1 := [(2, v0), (1, 0), (9, 0), (0, 0)]) (Nat.le_of_ble_eq_true rfl) rfl ?_
    refine tl_X13_packed_4 (by omega) (by omega) hS (fun w9 w10   s11 h => ?_) FU 0 0   hS h
    refine y_blk (t := 36) rfl (show fnd bk_X13_packed 36 = some _ from rfl) aB_X13_packed ?_
    refine wp_lload_n (v := w9) rfl ?_
    cases h
    exact wp_lreturn ⟨rfl, rfl⟩
  exact fun d hd => Ms.of (key d hd)

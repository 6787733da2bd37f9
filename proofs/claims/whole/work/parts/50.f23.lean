/-! ===== methods as functions ===== -/
theorem aB_X13_readWay : ∀ pc, aB 228 pc = fnd bk_X13_readWay pc := fun _ => rfl
def b_X13_readWay_118 (T : Nat) (v1 : Int) (v2 : Int) (v3 : Int) (v4 : Int) (M : aM) : Option (Int × aM) :=
 (f_X13_goesOn T M).bind fun x23 =>
 if (x23.2 138 9) = 5 then
 some (0, x23.2) else
 if okW T (x23.2 138 4) then
 if v2 ≤ v1 then
 if 0 ≤ (x23.2 (x23.2 138 4).toNat 5) ∧ (x23.2 (x23.2 138 4).toNat 5) < 10 then
 (some (aup x23.2 ((x23.2 138 4).toNat + 1) ((x23.2 (x23.2 138 4).toNat 5)).toNat v2)).bind fun m31 =>
 if okW T (m31 138 4) then
 if v2 ≤ v1 then
 if 0 ≤ (m31 (m31 138 4).toNat 5) ∧ (m31 (m31 138 4).toNat 5) < 10 then
 (some (aup m31 ((m31 138 4).toNat + 2) ((m31 (m31 138 4).toNat 5)).toNat v1)).bind fun m36 =>
 if okW T (m36 138 4) then
 if 0 ≤ (m36 (m36 138 4).toNat 5) ∧ (m36 (m36 138 4).toNat 5) < 10 then
 (some (aup m36 ((m36 138 4).toNat + 3) ((m36 (m36 138 4).toNat 5)).toNat v3)).bind fun m40 =>
 if okW T (m40 138 4) then
 if v4 = 0 then
 (some (aup m40 (m40 138 4).toNat 6 (aor (m40 (m40 138 4).toNat 6) 0))).bind fun m44 =>
 if okW T (m44 138 4) then
 if aIn ((m44 (m44 138 4).toNat 5) + 1) then
 (some (aup m44 (m44 138 4).toNat 5 ((m44 (m44 138 4).toNat 5) + 1))).bind fun m48 =>
 some (0, m48) else none else none else
 (some (aup m40 (m40 138 4).toNat 6 (aor (m40 (m40 138 4).toNat 6) (ashl 1 (m40 (m40 138 4).toNat 5))))).bind fun m50 =>
 if okW T (m50 138 4) then
 if aIn ((m50 (m50 138 4).toNat 5) + 1) then
 (some (aup m50 (m50 138 4).toNat 5 ((m50 (m50 138 4).toNat 5) + 1))).bind fun m54 =>
 some (0, m54) else none else none else none else none else none else none else
 if 0 ≤ (m31 (m31 138 4).toNat 5) ∧ (m31 (m31 138 4).toNat 5) < 10 then
 (some (aup m31 ((m31 138 4).toNat + 2) ((m31 (m31 138 4).toNat 5)).toNat v2)).bind fun m57 =>
 if okW T (m57 138 4) then
 if 0 ≤ (m57 (m57 138 4).toNat 5) ∧ (m57 (m57 138 4).toNat 5) < 10 then
 (some (aup m57 ((m57 138 4).toNat + 3) ((m57 (m57 138 4).toNat 5)).toNat v3)).bind fun m61 =>
 if okW T (m61 138 4) then
 if v4 = 0 then
 (some (aup m61 (m61 138 4).toNat 6 (aor (m61 (m61 138 4).toNat 6) 0))).bind fun m65 =>
 if okW T (m65 138 4) then
 if aIn ((m65 (m65 138 4).toNat 5) + 1) then
 (some (aup m65 (m65 138 4).toNat 5 ((m65 (m65 138 4).toNat 5) + 1))).bind fun m69 =>
 some (0, m69) else none else none else
 (some (aup m61 (m61 138 4).toNat 6 (aor (m61 (m61 138 4).toNat 6) (ashl 1 (m61 (m61 138 4).toNat 5))))).bind fun m71 =>
 if okW T (m71 138 4) then
 if aIn ((m71 (m71 138 4).toNat 5) + 1) then
 (some (aup m71 (m71 138 4).toNat 5 ((m71 (m71 138 4).toNat 5) + 1))).bind fun m75 =>
 some (0, m75) else none else none else none else none else none else none else none else none else
 if 0 ≤ (x23.2 (x23.2 138 4).toNat 5) ∧ (x23.2 (x23.2 138 4).toNat 5) < 10 then
 (some (aup x23.2 ((x23.2 138 4).toNat + 1) ((x23.2 (x23.2 138 4).toNat 5)).toNat v1)).bind fun m78 =>
 if okW T (m78 138 4) then
 if v2 ≤ v1 then
 if 0 ≤ (m78 (m78 138 4).toNat 5) ∧ (m78 (m78 138 4).toNat 5) < 10 then
 (some (aup m78 ((m78 138 4).toNat + 2) ((m78 (m78 138 4).toNat 5)).toNat v1)).bind fun m83 =>
 if okW T (m83 138 4) then
 if 0 ≤ (m83 (m83 138 4).toNat 5) ∧ (m83 (m83 138 4).toNat 5) < 10 then
 (some (aup m83 ((m83 138 4).toNat + 3) ((m83 (m83 138 4).toNat 5)).toNat v3)).bind fun m87 =>
 if okW T (m87 138 4) then
 if v4 = 0 then
 (some (aup m87 (m87 138 4).toNat 6 (aor (m87 (m87 138 4).toNat 6) 0))).bind fun m91 =>
 if okW T (m91 138 4) then
 if aIn ((m91 (m91 138 4).toNat 5) + 1) then
 (some (aup m91 (m91 138 4).toNat 5 ((m91 (m91 138 4).toNat 5) + 1))).bind fun m95 =>
 some (0, m95) else none else none else
 (some (aup m87 (m87 138 4).toNat 6 (aor (m87 (m87 138 4).toNat 6) (ashl 1 (m87 (m87 138 4).toNat 5))))).bind fun m97 =>
 if okW T (m97 138 4) then
 if aIn ((m97 (m97 138 4).toNat 5) + 1) then
 (some (aup m97 (m97 138 4).toNat 5 ((m97 (m97 138 4).toNat 5) + 1))).bind fun m101 =>
 some (0, m101) else none else none else none else none else none else none else
 if 0 ≤ (m78 (m78 138 4).toNat 5) ∧ (m78 (m78 138 4).toNat 5) < 10 then
 (some (aup m78 ((m78 138 4).toNat + 2) ((m78 (m78 138 4).toNat 5)).toNat v2)).bind fun m104 =>
 if okW T (m104 138 4) then
 if 0 ≤ (m104 (m104 138 4).toNat 5) ∧ (m104 (m104 138 4).toNat 5) < 10 then
 (some (aup m104 ((m104 138 4).toNat + 3) ((m104 (m104 138 4).toNat 5)).toNat v3)).bind fun m108 =>
 if okW T (m108 138 4) then
 if v4 = 0 then
 (some (aup m108 (m108 138 4).toNat 6 (aor (m108 (m108 138 4).toNat 6) 0))).bind fun m112 =>
 if okW T (m112 138 4) then
 if aIn ((m112 (m112 138 4).toNat 5) + 1) then
 (some (aup m112 (m112 138 4).toNat 5 ((m112 (m112 138 4).toNat 5) + 1))).bind fun m116 =>
 some (0, m116) else none else none else
 (some (aup m108 (m108 138 4).toNat 6 (aor (m108 (m108 138 4).toNat 6) (ashl 1 (m108 (m108 138 4).toNat 5))))).bind fun m118 =>
 if okW T (m118 138 4) then
 if aIn ((m118 (m118 138 4).toNat 5) + 1) then
 (some (aup m118 (m118 138 4).toNat 5 ((m118 (m118 138 4).toNat 5) + 1))).bind fun m122 =>
 some (0, m122) else none else none else none else none else none else none else none else none else none
theorem tb_X13_readWay_118 {d : Nat} (hd : 10 ≤ d) {T : T3} {v1 : Int} {v2 : Int} {v3 : Int} {v4 : Int} {M : aM} {y : (Int × aM)}  (hS : Sh T.1 M) (h : b_X13_readWay_118 T.1 v1 v2 v3 v4 M = some y) : Wp d 228 118 [] [(2, ((138 : Nat) : Int)), (0, v1), (0, v2), (0, v3), (0, v4)] [] (M, T) (fun r2 σ2 => r2 = none ∧ σ2 = (y.2, T) ∧ Sh T.1 y.2) := by
  rw [b_X13_readWay_118] at h
  refine y_blk (t := 118) rfl (show fnd bk_X13_readWay 118 = some _ from rfl) aB_X13_readWay ?_
  refine wp_aload_n (v := ((138 : Nat) : Int)) rfl (Int.natCast_nonneg _) ?_
  obtain ⟨x23, e24, h⟩ := d_bind h
  obtain ⟨r25, s26⟩ := t_X13_goesOn hS e24
  refine y_callVv (as := []) (S1 := []) (Nat.le_of_ble_eq_true rfl) (by omega) r25 rfl (show ash 138 = (13, 38) from rfl) (Nat.lt_of_lt_of_le (show 138 < 154 by decide) hS.1.1) (Nat.le_of_ble_eq_true rfl) (Nat.le_of_ble_eq_true rfl) rfl ?_
  refine wp_aload_n (v := ((138 : Nat) : Int)) rfl (Int.natCast_nonneg _) ?_
  refine y_get (show ash 138 = (13, 38) from rfl) (Nat.lt_of_lt_of_le (show 138 < 154 by decide) hS.1.1) (v := x23.2 138 9) rfl rfl ?_
  refine wp_iconst ⟨by decide, by decide⟩ ?_
  refine y_ne (fun c27 => ?_) (fun c27 => ?_)
  · rw [if_neg c27] at h
    refine y_blk (t := 131) rfl (show fnd bk_X13_readWay 131 = some _ from rfl) aB_X13_readWay ?_
    refine wp_aload_n (v := ((138 : Nat) : Int)) rfl (Int.natCast_nonneg _) ?_
    obtain ⟨c28, h⟩ := d_ite h
    refine y_get (show ash 138 = (13, 38) from rfl) (Nat.lt_of_lt_of_le (show 138 < 154 by decide) hS.1.1) (v := (((x23.2 138 4).toNat : Nat) : Int)) c28.eq rfl ?_
    refine y_get (aW0 hS.1.2 c28.is) (ltW c28.is 0 (by decide)) (v := ((((x23.2 138 4).toNat + 1) : Nat) : Int)) (rW14 s26 c28.is) rfl ?_
    refine wp_aload_n (v := ((138 : Nat) : Int)) rfl (Int.natCast_nonneg _) ?_
    refine y_get (show ash 138 = (13, 38) from rfl) (Nat.lt_of_lt_of_le (show 138 < 154 by decide) hS.1.1) (v := (((x23.2 138 4).toNat : Nat) : Int)) c28.eq rfl ?_
    refine y_get (aW0 hS.1.2 c28.is) (ltW c28.is 0 (by decide)) (v := x23.2 (x23.2 138 4).toNat 5) rfl rfl ?_
    refine wp_iload_n (v := v1) rfl ?_
    refine wp_iload_n (v := v2) rfl ?_
    refine wp_icmp_ge (fun c29 => ?_) (fun c29 => ?_)
    · rw [if_pos c29] at h
      refine y_blk (t := 154) rfl (show fnd bk_X13_readWay 154 = some _ from rfl) aB_X13_readWay ?_
      refine wp_iload_n (v := v2) rfl ?_
      refine y_blk (t := 155) rfl (show fnd bk_X13_readWay 155 = some _ from rfl) aB_X13_readWay ?_
      obtain ⟨c30, h⟩ := d_ite h
      refine y_iast (aW1 hS.1.2 c28.is) (ltW c28.is 1 (by decide)) c30 ?_
      obtain ⟨m31, em31, h⟩ := d_bind h
      have em31 := Option.some.inj em31
      have s32 : Sh T.1 m31 := em31 ▸ s26.up (Or.inl ⟨by rw [(aW1 hS.1.2 c28.is)]; exact Nat.le_of_ble_eq_true rfl, by rw [(aW1 hS.1.2 c28.is)]; exact Nat.le_of_ble_eq_true rfl⟩) (by have := (ltW c28.is 1 (by decide)); have := hS.1.2; omega)
      rw [em31]
      refine wp_aload_n (v := ((138 : Nat) : Int)) rfl (Int.natCast_nonneg _) ?_
      obtain ⟨c33, h⟩ := d_ite h
      refine y_get (show ash 138 = (13, 38) from rfl) (Nat.lt_of_lt_of_le (show 138 < 154 by decide) hS.1.1) (v := (((m31 138 4).toNat : Nat) : Int)) c33.eq rfl ?_
      refine y_get (aW0 hS.1.2 c33.is) (ltW c33.is 0 (by decide)) (v := ((((m31 138 4).toNat + 2) : Nat) : Int)) (rW15 s32 c33.is) rfl ?_
      refine wp_aload_n (v := ((138 : Nat) : Int)) rfl (Int.natCast_nonneg _) ?_
      refine y_get (show ash 138 = (13, 38) from rfl) (Nat.lt_of_lt_of_le (show 138 < 154 by decide) hS.1.1) (v := (((m31 138 4).toNat : Nat) : Int)) c33.eq rfl ?_
      refine y_get (aW0 hS.1.2 c33.is) (ltW c33.is 0 (by decide)) (v := m31 (m31 138 4).toNat 5) rfl rfl ?_
      refine wp_iload_n (v := v1) rfl ?_
      refine wp_iload_n (v := v2) rfl ?_
      refine wp_icmp_ge (fun c34 => ?_) (fun c34 => ?_)
      · rw [if_pos c34] at h
        refine y_blk (t := 179) rfl (show fnd bk_X13_readWay 179 = some _ from rfl) aB_X13_readWay ?_
        refine wp_iload_n (v := v1) rfl ?_
        refine y_blk (t := 180) rfl (show fnd bk_X13_readWay 180 = some _ from rfl) aB_X13_readWay ?_
        obtain ⟨c35, h⟩ := d_ite h
        refine y_iast (aW2 hS.1.2 c33.is) (ltW c33.is 2 (by decide)) c35 ?_
        obtain ⟨m36, em36, h⟩ := d_bind h
        have em36 := Option.some.inj em36
        have s37 : Sh T.1 m36 := em36 ▸ s32.up (Or.inl ⟨by rw [(aW2 hS.1.2 c33.is)]; exact Nat.le_of_ble_eq_true rfl, by rw [(aW2 hS.1.2 c33.is)]; exact Nat.le_of_ble_eq_true rfl⟩) (by have := (ltW c33.is 2 (by decide)); have := hS.1.2; omega)
        rw [em36]
        refine wp_aload_n (v := ((138 : Nat) : Int)) rfl (Int.natCast_nonneg _) ?_
        obtain ⟨c38, h⟩ := d_ite h
        refine y_get (show ash 138 = (13, 38) from rfl) (Nat.lt_of_lt_of_le (show 138 < 154 by decide) hS.1.1) (v := (((m36 138 4).toNat : Nat) : Int)) c38.eq rfl ?_
        refine y_get (aW0 hS.1.2 c38.is) (ltW c38.is 0 (by decide)) (v := ((((m36 138 4).toNat + 3) : Nat) : Int)) (rW16 s37 c38.is) rfl ?_
        refine wp_aload_n (v := ((138 : Nat) : Int)) rfl (Int.natCast_nonneg _) ?_
        refine y_get (show ash 138 = (13, 38) from rfl) (Nat.lt_of_lt_of_le (show 138 < 154 by decide) hS.1.1) (v := (((m36 138 4).toNat : Nat) : Int)) c38.eq rfl ?_
        refine y_get (aW0 hS.1.2 c38.is) (ltW c38.is 0 (by decide)) (v := m36 (m36 138 4).toNat 5) rfl rfl ?_
        refine wp_iload_n (v := v3) rfl ?_
        obtain ⟨c39, h⟩ := d_ite h
        refine y_iast (aW3 hS.1.2 c38.is) (ltW c38.is 3 (by decide)) c39 ?_
        obtain ⟨m40, em40, h⟩ := d_bind h
        have em40 := Option.some.inj em40
        have s41 : Sh T.1 m40 := em40 ▸ s37.up (Or.inl ⟨by rw [(aW3 hS.1.2 c38.is)]; exact Nat.le_of_ble_eq_true rfl, by rw [(aW3 hS.1.2 c38.is)]; exact Nat.le_of_ble_eq_true rfl⟩) (by have := (ltW c38.is 3 (by decide)); have := hS.1.2; omega)
        rw [em40]
        refine wp_aload_n (v := ((138 : Nat) : Int)) rfl (Int.natCast_nonneg _) ?_
        obtain ⟨c42, h⟩ := d_ite h
        refine y_get (show ash 138 = (13, 38) from rfl) (Nat.lt_of_lt_of_le (show 138 < 154 by decide) hS.1.1) (v := (((m40 138 4).toNat : Nat) : Int)) c42.eq rfl ?_
        refine wp_dup (Or.inr rfl) ?_
        refine y_get (aW0 hS.1.2 c42.is) (ltW c42.is 0 (by decide)) (v := m40 (m40 138 4).toNat 6) rfl rfl ?_
        refine wp_iload (v := v4) rfl ?_
        refine wp_if_eq (fun c43 => ?_) (fun c43 => ?_)
        · rw [if_pos c43] at h
          refine y_blk (t := 222) rfl (show fnd bk_X13_readWay 222 = some _ from rfl) aB_X13_readWay ?_
          refine wp_iconst ⟨by decide, by decide⟩ ?_
          refine y_blk (t := 223) rfl (show fnd bk_X13_readWay 223 = some _ from rfl) aB_X13_readWay ?_
          refine wp_ior ?_
          refine y_put (aW0 hS.1.2 c42.is) (ltW c42.is 0 (by decide)) rfl ?_
          obtain ⟨m44, em44, h⟩ := d_bind h
          have em44 := Option.some.inj em44
          have s45 : Sh T.1 m44 := em44 ▸ s41.up (Or.inr ⟨by rw [(aW0 hS.1.2 c42.is)]; decide, by rw [(aW0 hS.1.2 c42.is)]; decide⟩) (by have := (ltW c42.is 0 (by decide)); have := hS.1.2; omega)
          rw [em44]
          refine wp_aload_n (v := ((138 : Nat) : Int)) rfl (Int.natCast_nonneg _) ?_
          obtain ⟨c46, h⟩ := d_ite h
          refine y_get (show ash 138 = (13, 38) from rfl) (Nat.lt_of_lt_of_le (show 138 < 154 by decide) hS.1.1) (v := (((m44 138 4).toNat : Nat) : Int)) c46.eq rfl ?_
          refine wp_dup (Or.inr rfl) ?_
          refine y_get (aW0 hS.1.2 c46.is) (ltW c46.is 0 (by decide)) (v := m44 (m44 138 4).toNat 5) rfl rfl ?_
          refine wp_iconst ⟨by decide, by decide⟩ ?_
          obtain ⟨c47, h⟩ := d_ite h
          refine wp_iadd c47 ?_
          refine y_put (aW0 hS.1.2 c46.is) (ltW c46.is 0 (by decide)) rfl ?_
          obtain ⟨m48, em48, h⟩ := d_bind h
          have em48 := Option.some.inj em48
          have s49 : Sh T.1 m48 := em48 ▸ s45.up (Or.inr ⟨by rw [(aW0 hS.1.2 c46.is)]; decide, by rw [(aW0 hS.1.2 c46.is)]; decide⟩) (by have := (ltW c46.is 0 (by decide)); have := hS.1.2; omega)
          rw [em48]
          cases h
          exact wp_return ⟨rfl, rfl, s49⟩
        · rw [if_neg c43] at h
          refine wp_iconst ⟨by decide, by decide⟩ ?_
          refine wp_aload_n (v := ((138 : Nat) : Int)) rfl (Int.natCast_nonneg _) ?_
          refine y_get (show ash 138 = (13, 38) from rfl) (Nat.lt_of_lt_of_le (show 138 < 154 by decide) hS.1.1) (v := (((m40 138 4).toNat : Nat) : Int)) c42.eq rfl ?_
          refine y_get (aW0 hS.1.2 c42.is) (ltW c42.is 0 (by decide)) (v := m40 (m40 138 4).toNat 5) rfl rfl ?_
          refine wp_ishl ?_
          refine wp_goto ?_
          refine y_blk (t := 223) rfl (show fnd bk_X13_readWay 223 = some _ from rfl) aB_X13_readWay ?_
          refine wp_ior ?_
          refine y_put (aW0 hS.1.2 c42.is) (ltW c42.is 0 (by decide)) rfl ?_
          obtain ⟨m50, em50, h⟩ := d_bind h
          have em50 := Option.some.inj em50
          have s51 : Sh T.1 m50 := em50 ▸ s41.up (Or.inr ⟨by rw [(aW0 hS.1.2 c42.is)]; decide, by rw [(aW0 hS.1.2 c42.is)]; decide⟩) (by have := (ltW c42.is 0 (by decide)); have := hS.1.2; omega)
          rw [em50]
          refine wp_aload_n (v := ((138 : Nat) : Int)) rfl (Int.natCast_nonneg _) ?_
          obtain ⟨c52, h⟩ := d_ite h
          refine y_get (show ash 138 = (13, 38) from rfl) (Nat.lt_of_lt_of_le (show 138 < 154 by decide) hS.1.1) (v := (((m50 138 4).toNat : Nat) : Int)) c52.eq rfl ?_
          refine wp_dup (Or.inr rfl) ?_
          refine y_get (aW0 hS.1.2 c52.is) (ltW c52.is 0 (by decide)) (v := m50 (m50 138 4).toNat 5) rfl rfl ?_
          refine wp_iconst ⟨by decide, by decide⟩ ?_
          obtain ⟨c53, h⟩ := d_ite h
          refine wp_iadd c53 ?_
          refine y_put (aW0 hS.1.2 c52.is) (ltW c52.is 0 (by decide)) rfl ?_
          obtain ⟨m54, em54, h⟩ := d_bind h
          have em54 := Option.some.inj em54
          have s55 : Sh T.1 m54 := em54 ▸ s51.up (Or.inr ⟨by rw [(aW0 hS.1.2 c52.is)]; decide, by rw [(aW0 hS.1.2 c52.is)]; decide⟩) (by have := (ltW c52.is 0 (by decide)); have := hS.1.2; omega)
          rw [em54]
          cases h
          exact wp_return ⟨rfl, rfl, s55⟩
      · rw [if_neg c34] at h
        refine wp_iload_n (v := v2) rfl ?_
        refine wp_goto ?_
        refine y_blk (t := 180) rfl (show fnd bk_X13_readWay 180 = some _ from rfl) aB_X13_readWay ?_
        obtain ⟨c56, h⟩ := d_ite h
        refine y_iast (aW2 hS.1.2 c33.is) (ltW c33.is 2 (by decide)) c56 ?_
        obtain ⟨m57, em57, h⟩ := d_bind h
        have em57 := Option.some.inj em57
        have s58 : Sh T.1 m57 := em57 ▸ s32.up (Or.inl ⟨by rw [(aW2 hS.1.2 c33.is)]; exact Nat.le_of_ble_eq_true rfl, by rw [(aW2 hS.1.2 c33.is)]; exact Nat.le_of_ble_eq_true rfl⟩) (by have := (ltW c33.is 2 (by decide)); have := hS.1.2; omega)
        rw [em57]
        refine wp_aload_n (v := ((138 : Nat) : Int)) rfl (Int.natCast_nonneg _) ?_
        obtain ⟨c59, h⟩ := d_ite h
        refine y_get (show ash 138 = (13, 38) from rfl) (Nat.lt_of_lt_of_le (show 138 < 154 by decide) hS.1.1) (v := (((m57 138 4).toNat : Nat) : Int)) c59.eq rfl ?_
        refine y_get (aW0 hS.1.2 c59.is) (ltW c59.is 0 (by decide)) (v := ((((m57 138 4).toNat + 3) : Nat) : Int)) (rW16 s58 c59.is) rfl ?_
        refine wp_aload_n (v := ((138 : Nat) : Int)) rfl (Int.natCast_nonneg _) ?_
        refine y_get (show ash 138 = (13, 38) from rfl) (Nat.lt_of_lt_of_le (show 138 < 154 by decide) hS.1.1) (v := (((m57 138 4).toNat : Nat) : Int)) c59.eq rfl ?_
        refine y_get (aW0 hS.1.2 c59.is) (ltW c59.is 0 (by decide)) (v := m57 (m57 138 4).toNat 5) rfl rfl ?_
        refine wp_iload_n (v := v3) rfl ?_
        obtain ⟨c60, h⟩ := d_ite h
        refine y_iast (aW3 hS.1.2 c59.is) (ltW c59.is 3 (by decide)) c60 ?_
        obtain ⟨m61, em61, h⟩ := d_bind h
        have em61 := Option.some.inj em61
        have s62 : Sh T.1 m61 := em61 ▸ s58.up (Or.inl ⟨by rw [(aW3 hS.1.2 c59.is)]; exact Nat.le_of_ble_eq_true rfl, by rw [(aW3 hS.1.2 c59.is)]; exact Nat.le_of_ble_eq_true rfl⟩) (by have := (ltW c59.is 3 (by decide)); have := hS.1.2; omega)
        rw [em61]
        refine wp_aload_n (v := ((138 : Nat) : Int)) rfl (Int.natCast_nonneg _) ?_
        obtain ⟨c63, h⟩ := d_ite h
        refine y_get (show ash 138 = (13, 38) from rfl) (Nat.lt_of_lt_of_le (show 138 < 154 by decide) hS.1.1) (v := (((m61 138 4).toNat : Nat) : Int)) c63.eq rfl ?_
        refine wp_dup (Or.inr rfl) ?_
        refine y_get (aW0 hS.1.2 c63.is) (ltW c63.is 0 (by decide)) (v := m61 (m61 138 4).toNat 6) rfl rfl ?_
        refine wp_iload (v := v4) rfl ?_
        refine wp_if_eq (fun c64 => ?_) (fun c64 => ?_)
        · rw [if_pos c64] at h
          refine y_blk (t := 222) rfl (show fnd bk_X13_readWay 222 = some _ from rfl) aB_X13_readWay ?_
          refine wp_iconst ⟨by decide, by decide⟩ ?_
          refine y_blk (t := 223) rfl (show fnd bk_X13_readWay 223 = some _ from rfl) aB_X13_readWay ?_
          refine wp_ior ?_
          refine y_put (aW0 hS.1.2 c63.is) (ltW c63.is 0 (by decide)) rfl ?_
          obtain ⟨m65, em65, h⟩ := d_bind h
          have em65 := Option.some.inj em65
          have s66 : Sh T.1 m65 := em65 ▸ s62.up (Or.inr ⟨by rw [(aW0 hS.1.2 c63.is)]; decide, by rw [(aW0 hS.1.2 c63.is)]; decide⟩) (by have := (ltW c63.is 0 (by decide)); have := hS.1.2; omega)
          rw [em65]
          refine wp_aload_n (v := ((138 : Nat) : Int)) rfl (Int.natCast_nonneg _) ?_
          obtain ⟨c67, h⟩ := d_ite h
          refine y_get (show ash 138 = (13, 38) from rfl) (Nat.lt_of_lt_of_le (show 138 < 154 by decide) hS.1.1) (v := (((m65 138 4).toNat : Nat) : Int)) c67.eq rfl ?_
          refine wp_dup (Or.inr rfl) ?_
          refine y_get (aW0 hS.1.2 c67.is) (ltW c67.is 0 (by decide)) (v := m65 (m65 138 4).toNat 5) rfl rfl ?_
          refine wp_iconst ⟨by decide, by decide⟩ ?_
          obtain ⟨c68, h⟩ := d_ite h
          refine wp_iadd c68 ?_
          refine y_put (aW0 hS.1.2 c67.is) (ltW c67.is 0 (by decide)) rfl ?_
          obtain ⟨m69, em69, h⟩ := d_bind h
          have em69 := Option.some.inj em69
          have s70 : Sh T.1 m69 := em69 ▸ s66.up (Or.inr ⟨by rw [(aW0 hS.1.2 c67.is)]; decide, by rw [(aW0 hS.1.2 c67.is)]; decide⟩) (by have := (ltW c67.is 0 (by decide)); have := hS.1.2; omega)
          rw [em69]
          cases h
          exact wp_return ⟨rfl, rfl, s70⟩
        · rw [if_neg c64] at h
          refine wp_iconst ⟨by decide, by decide⟩ ?_
          refine wp_aload_n (v := ((138 : Nat) : Int)) rfl (Int.natCast_nonneg _) ?_
          refine y_get (show ash 138 = (13, 38) from rfl) (Nat.lt_of_lt_of_le (show 138 < 154 by decide) hS.1.1) (v := (((m61 138 4).toNat : Nat) : Int)) c63.eq rfl ?_
          refine y_get (aW0 hS.1.2 c63.is) (ltW c63.is 0 (by decide)) (v := m61 (m61 138 4).toNat 5) rfl rfl ?_
          refine wp_ishl ?_
          refine wp_goto ?_
          refine y_blk (t := 223) rfl (show fnd bk_X13_readWay 223 = some _ from rfl) aB_X13_readWay ?_
          refine wp_ior ?_
          refine y_put (aW0 hS.1.2 c63.is) (ltW c63.is 0 (by decide)) rfl ?_
          obtain ⟨m71, em71, h⟩ := d_bind h
          have em71 := Option.some.inj em71
          have s72 : Sh T.1 m71 := em71 ▸ s62.up (Or.inr ⟨by rw [(aW0 hS.1.2 c63.is)]; decide, by rw [(aW0 hS.1.2 c63.is)]; decide⟩) (by have := (ltW c63.is 0 (by decide)); have := hS.1.2; omega)
          rw [em71]
          refine wp_aload_n (v := ((138 : Nat) : Int)) rfl (Int.natCast_nonneg _) ?_
          obtain ⟨c73, h⟩ := d_ite h
          refine y_get (show ash 138 = (13, 38) from rfl) (Nat.lt_of_lt_of_le (show 138 < 154 by decide) hS.1.1) (v := (((m71 138 4).toNat : Nat) : Int)) c73.eq rfl ?_
          refine wp_dup (Or.inr rfl) ?_
          refine y_get (aW0 hS.1.2 c73.is) (ltW c73.is 0 (by decide)) (v := m71 (m71 138 4).toNat 5) rfl rfl ?_
          refine wp_iconst ⟨by decide, by decide⟩ ?_
          obtain ⟨c74, h⟩ := d_ite h
          refine wp_iadd c74 ?_
          refine y_put (aW0 hS.1.2 c73.is) (ltW c73.is 0 (by decide)) rfl ?_
          obtain ⟨m75, em75, h⟩ := d_bind h
          have em75 := Option.some.inj em75
          have s76 : Sh T.1 m75 := em75 ▸ s72.up (Or.inr ⟨by rw [(aW0 hS.1.2 c73.is)]; decide, by rw [(aW0 hS.1.2 c73.is)]; decide⟩) (by have := (ltW c73.is 0 (by decide)); have := hS.1.2; omega)
          rw [em75]
          cases h
          exact wp_return ⟨rfl, rfl, s76⟩
    · rw [if_neg c29] at h
      refine wp_iload_n (v := v1) rfl ?_
      refine wp_goto ?_
      refine y_blk (t := 155) rfl (show fnd bk_X13_readWay 155 = some _ from rfl) aB_X13_readWay ?_
      obtain ⟨c77, h⟩ := d_ite h
      refine y_iast (aW1 hS.1.2 c28.is) (ltW c28.is 1 (by decide)) c77 ?_
      obtain ⟨m78, em78, h⟩ := d_bind h
      have em78 := Option.some.inj em78
      have s79 : Sh T.1 m78 := em78 ▸ s26.up (Or.inl ⟨by rw [(aW1 hS.1.2 c28.is)]; exact Nat.le_of_ble_eq_true rfl, by rw [(aW1 hS.1.2 c28.is)]; exact Nat.le_of_ble_eq_true rfl⟩) (by have := (ltW c28.is 1 (by decide)); have := hS.1.2; omega)
      rw [em78]
      refine wp_aload_n (v := ((138 : Nat) : Int)) rfl (Int.natCast_nonneg _) ?_
      obtain ⟨c80, h⟩ := d_ite h
      refine y_get (show ash 138 = (13, 38) from rfl) (Nat.lt_of_lt_of_le (show 138 < 154 by decide) hS.1.1) (v := (((m78 138 4).toNat : Nat) : Int)) c80.eq rfl ?_
      refine y_get (aW0 hS.1.2 c80.is) (ltW c80.is 0 (by decide)) (v := ((((m78 138 4).toNat + 2) : Nat) : Int)) (rW15 s79 c80.is) rfl ?_
      refine wp_aload_n (v := ((138 : Nat) : Int)) rfl (Int.natCast_nonneg _) ?_
      refine y_get (show ash 138 = (13, 38) from rfl) (Nat.lt_of_lt_of_le (show 138 < 154 by decide) hS.1.1) (v := (((m78 138 4).toNat : Nat) : Int)) c80.eq rfl ?_
      refine y_get (aW0 hS.1.2 c80.is) (ltW c80.is 0 (by decide)) (v := m78 (m78 138 4).toNat 5) rfl rfl ?_
      refine wp_iload_n (v := v1) rfl ?_
      refine wp_iload_n (v := v2) rfl ?_
      refine wp_icmp_ge (fun c81 => ?_) (fun c81 => ?_)
      · rw [if_pos c81] at h
        refine y_blk (t := 179) rfl (show fnd bk_X13_readWay 179 = some _ from rfl) aB_X13_readWay ?_
        refine wp_iload_n (v := v1) rfl ?_
        refine y_blk (t := 180) rfl (show fnd bk_X13_readWay 180 = some _ from rfl) aB_X13_readWay ?_
        obtain ⟨c82, h⟩ := d_ite h
        refine y_iast (aW2 hS.1.2 c80.is) (ltW c80.is 2 (by decide)) c82 ?_
        obtain ⟨m83, em83, h⟩ := d_bind h
        have em83 := Option.some.inj em83
        have s84 : Sh T.1 m83 := em83 ▸ s79.up (Or.inl ⟨by rw [(aW2 hS.1.2 c80.is)]; exact Nat.le_of_ble_eq_true rfl, by rw [(aW2 hS.1.2 c80.is)]; exact Nat.le_of_ble_eq_true rfl⟩) (by have := (ltW c80.is 2 (by decide)); have := hS.1.2; omega)
        rw [em83]
        refine wp_aload_n (v := ((138 : Nat) : Int)) rfl (Int.natCast_nonneg _) ?_
        obtain ⟨c85, h⟩ := d_ite h
        refine y_get (show ash 138 = (13, 38) from rfl) (Nat.lt_of_lt_of_le (show 138 < 154 by decide) hS.1.1) (v := (((m83 138 4).toNat : Nat) : Int)) c85.eq rfl ?_
        refine y_get (aW0 hS.1.2 c85.is) (ltW c85.is 0 (by decide)) (v := ((((m83 138 4).toNat + 3) : Nat) : Int)) (rW16 s84 c85.is) rfl ?_
        refine wp_aload_n (v := ((138 : Nat) : Int)) rfl (Int.natCast_nonneg _) ?_
        refine y_get (show ash 138 = (13, 38) from rfl) (Nat.lt_of_lt_of_le (show 138 < 154 by decide) hS.1.1) (v := (((m83 138 4).toNat : Nat) : Int)) c85.eq rfl ?_
        refine y_get (aW0 hS.1.2 c85.is) (ltW c85.is 0 (by decide)) (v := m83 (m83 138 4).toNat 5) rfl rfl ?_
        refine wp_iload_n (v := v3) rfl ?_
        obtain ⟨c86, h⟩ := d_ite h
        refine y_iast (aW3 hS.1.2 c85.is) (ltW c85.is 3 (by decide)) c86 ?_
        obtain ⟨m87, em87, h⟩ := d_bind h
        have em87 := Option.some.inj em87
        have s88 : Sh T.1 m87 := em87 ▸ s84.up (Or.inl ⟨by rw [(aW3 hS.1.2 c85.is)]; exact Nat.le_of_ble_eq_true rfl, by rw [(aW3 hS.1.2 c85.is)]; exact Nat.le_of_ble_eq_true rfl⟩) (by have := (ltW c85.is 3 (by decide)); have := hS.1.2; omega)
        rw [em87]
        refine wp_aload_n (v := ((138 : Nat) : Int)) rfl (Int.natCast_nonneg _) ?_
        obtain ⟨c89, h⟩ := d_ite h
        refine y_get (show ash 138 = (13, 38) from rfl) (Nat.lt_of_lt_of_le (show 138 < 154 by decide) hS.1.1) (v := (((m87 138 4).toNat : Nat) : Int)) c89.eq rfl ?_
        refine wp_dup (Or.inr rfl) ?_
        refine y_get (aW0 hS.1.2 c89.is) (ltW c89.is 0 (by decide)) (v := m87 (m87 138 4).toNat 6) rfl rfl ?_
        refine wp_iload (v := v4) rfl ?_
        refine wp_if_eq (fun c90 => ?_) (fun c90 => ?_)
        · rw [if_pos c90] at h
          refine y_blk (t := 222) rfl (show fnd bk_X13_readWay 222 = some _ from rfl) aB_X13_readWay ?_
          refine wp_iconst ⟨by decide, by decide⟩ ?_
          refine y_blk (t := 223) rfl (show fnd bk_X13_readWay 223 = some _ from rfl) aB_X13_readWay ?_
          refine wp_ior ?_
          refine y_put (aW0 hS.1.2 c89.is) (ltW c89.is 0 (by decide)) rfl ?_
          obtain ⟨m91, em91, h⟩ := d_bind h
          have em91 := Option.some.inj em91
          have s92 : Sh T.1 m91 := em91 ▸ s88.up (Or.inr ⟨by rw [(aW0 hS.1.2 c89.is)]; decide, by rw [(aW0 hS.1.2 c89.is)]; decide⟩) (by have := (ltW c89.is 0 (by decide)); have := hS.1.2; omega)
          rw [em91]
          refine wp_aload_n (v := ((138 : Nat) : Int)) rfl (Int.natCast_nonneg _) ?_
          obtain ⟨c93, h⟩ := d_ite h
          refine y_get (show ash 138 = (13, 38) from rfl) (Nat.lt_of_lt_of_le (show 138 < 154 by decide) hS.1.1) (v := (((m91 138 4).toNat : Nat) : Int)) c93.eq rfl ?_
          refine wp_dup (Or.inr rfl) ?_
          refine y_get (aW0 hS.1.2 c93.is) (ltW c93.is 0 (by decide)) (v := m91 (m91 138 4).toNat 5) rfl rfl ?_
          refine wp_iconst ⟨by decide, by decide⟩ ?_
          obtain ⟨c94, h⟩ := d_ite h
          refine wp_iadd c94 ?_
          refine y_put (aW0 hS.1.2 c93.is) (ltW c93.is 0 (by decide)) rfl ?_
          obtain ⟨m95, em95, h⟩ := d_bind h
          have em95 := Option.some.inj em95
          have s96 : Sh T.1 m95 := em95 ▸ s92.up (Or.inr ⟨by rw [(aW0 hS.1.2 c93.is)]; decide, by rw [(aW0 hS.1.2 c93.is)]; decide⟩) (by have := (ltW c93.is 0 (by decide)); have := hS.1.2; omega)
          rw [em95]
          cases h
          exact wp_return ⟨rfl, rfl, s96⟩
        · rw [if_neg c90] at h
          refine wp_iconst ⟨by decide, by decide⟩ ?_
          refine wp_aload_n (v := ((138 : Nat) : Int)) rfl (Int.natCast_nonneg _) ?_
          refine y_get (show ash 138 = (13, 38) from rfl) (Nat.lt_of_lt_of_le (show 138 < 154 by decide) hS.1.1) (v := (((m87 138 4).toNat : Nat) : Int)) c89.eq rfl ?_
          refine y_get (aW0 hS.1.2 c89.is) (ltW c89.is 0 (by decide)) (v := m87 (m87 138 4).toNat 5) rfl rfl ?_
          refine wp_ishl ?_
          refine wp_goto ?_
          refine y_blk (t := 223) rfl (show fnd bk_X13_readWay 223 = some _ from rfl) aB_X13_readWay ?_
          refine wp_ior ?_
          refine y_put (aW0 hS.1.2 c89.is) (ltW c89.is 0 (by decide)) rfl ?_
          obtain ⟨m97, em97, h⟩ := d_bind h
          have em97 := Option.some.inj em97
          have s98 : Sh T.1 m97 := em97 ▸ s88.up (Or.inr ⟨by rw [(aW0 hS.1.2 c89.is)]; decide, by rw [(aW0 hS.1.2 c89.is)]; decide⟩) (by have := (ltW c89.is 0 (by decide)); have := hS.1.2; omega)
          rw [em97]
          refine wp_aload_n (v := ((138 : Nat) : Int)) rfl (Int.natCast_nonneg _) ?_
          obtain ⟨c99, h⟩ := d_ite h
          refine y_get (show ash 138 = (13, 38) from rfl) (Nat.lt_of_lt_of_le (show 138 < 154 by decide) hS.1.1) (v := (((m97 138 4).toNat : Nat) : Int)) c99.eq rfl ?_
          refine wp_dup (Or.inr rfl) ?_
          refine y_get (aW0 hS.1.2 c99.is) (ltW c99.is 0 (by decide)) (v := m97 (m97 138 4).toNat 5) rfl rfl ?_
          refine wp_iconst ⟨by decide, by decide⟩ ?_
          obtain ⟨c100, h⟩ := d_ite h
          refine wp_iadd c100 ?_
          refine y_put (aW0 hS.1.2 c99.is) (ltW c99.is 0 (by decide)) rfl ?_
          obtain ⟨m101, em101, h⟩ := d_bind h
          have em101 := Option.some.inj em101
          have s102 : Sh T.1 m101 := em101 ▸ s98.up (Or.inr ⟨by rw [(aW0 hS.1.2 c99.is)]; decide, by rw [(aW0 hS.1.2 c99.is)]; decide⟩) (by have := (ltW c99.is 0 (by decide)); have := hS.1.2; omega)
          rw [em101]
          cases h
          exact wp_return ⟨rfl, rfl, s102⟩
      · rw [if_neg c81] at h
        refine wp_iload_n (v := v2) rfl ?_
        refine wp_goto ?_
        refine y_blk (t := 180) rfl (show fnd bk_X13_readWay 180 = some _ from rfl) aB_X13_readWay ?_
        obtain ⟨c103, h⟩ := d_ite h
        refine y_iast (aW2 hS.1.2 c80.is) (ltW c80.is 2 (by decide)) c103 ?_
        obtain ⟨m104, em104, h⟩ := d_bind h
        have em104 := Option.some.inj em104
        have s105 : Sh T.1 m104 := em104 ▸ s79.up (Or.inl ⟨by rw [(aW2 hS.1.2 c80.is)]; exact Nat.le_of_ble_eq_true rfl, by rw [(aW2 hS.1.2 c80.is)]; exact Nat.le_of_ble_eq_true rfl⟩) (by have := (ltW c80.is 2 (by decide)); have := hS.1.2; omega)
        rw [em104]
        refine wp_aload_n (v := ((138 : Nat) : Int)) rfl (Int.natCast_nonneg _) ?_
        obtain ⟨c106, h⟩ := d_ite h
        refine y_get (show ash 138 = (13, 38) from rfl) (Nat.lt_of_lt_of_le (show 138 < 154 by decide) hS.1.1) (v := (((m104 138 4).toNat : Nat) : Int)) c106.eq rfl ?_
        refine y_get (aW0 hS.1.2 c106.is) (ltW c106.is 0 (by decide)) (v := ((((m104 138 4).toNat + 3) : Nat) : Int)) (rW16 s105 c106.is) rfl ?_
        refine wp_aload_n (v := ((138 : Nat) : Int)) rfl (Int.natCast_nonneg _) ?_
        refine y_get (show ash 138 = (13, 38) from rfl) (Nat.lt_of_lt_of_le (show 138 < 154 by decide) hS.1.1) (v := (((m104 138 4).toNat : Nat) : Int)) c106.eq rfl ?_
        refine y_get (aW0 hS.1.2 c106.is) (ltW c106.is 0 (by decide)) (v := m104 (m104 138 4).toNat 5) rfl rfl ?_
        refine wp_iload_n (v := v3) rfl ?_
        obtain ⟨c107, h⟩ := d_ite h
        refine y_iast (aW3 hS.1.2 c106.is) (ltW c106.is 3 (by decide)) c107 ?_
        obtain ⟨m108, em108, h⟩ := d_bind h
        have em108 := Option.some.inj em108
        have s109 : Sh T.1 m108 := em108 ▸ s105.up (Or.inl ⟨by rw [(aW3 hS.1.2 c106.is)]; exact Nat.le_of_ble_eq_true rfl, by rw [(aW3 hS.1.2 c106.is)]; exact Nat.le_of_ble_eq_true rfl⟩) (by have := (ltW c106.is 3 (by decide)); have := hS.1.2; omega)
        rw [em108]
        refine wp_aload_n (v := ((138 : Nat) : Int)) rfl (Int.natCast_nonneg _) ?_
        obtain ⟨c110, h⟩ := d_ite h
        refine y_get (show ash 138 = (13, 38) from rfl) (Nat.lt_of_lt_of_le (show 138 < 154 by decide) hS.1.1) (v := (((m108 138 4).toNat : Nat) : Int)) c110.eq rfl ?_
        refine wp_dup (Or.inr rfl) ?_
        refine y_get (aW0 hS.1.2 c110.is) (ltW c110.is 0 (by decide)) (v := m108 (m108 138 4).toNat 6) rfl rfl ?_
        refine wp_iload (v := v4) rfl ?_
        refine wp_if_eq (fun c111 => ?_) (fun c111 => ?_)
        · rw [if_pos c111] at h
          refine y_blk (t := 222) rfl (show fnd bk_X13_readWay 222 = some _ from rfl) aB_X13_readWay ?_
          refine wp_iconst ⟨by decide, by decide⟩ ?_
          refine y_blk (t := 223) rfl (show fnd bk_X13_readWay 223 = some _ from rfl) aB_X13_readWay ?_
          refine wp_ior ?_
          refine y_put (aW0 hS.1.2 c110.is) (ltW c110.is 0 (by decide)) rfl ?_
          obtain ⟨m112, em112, h⟩ := d_bind h
          have em112 := Option.some.inj em112
          have s113 : Sh T.1 m112 := em112 ▸ s109.up (Or.inr ⟨by rw [(aW0 hS.1.2 c110.is)]; decide, by rw [(aW0 hS.1.2 c110.is)]; decide⟩) (by have := (ltW c110.is 0 (by decide)); have := hS.1.2; omega)
          rw [em112]
          refine wp_aload_n (v := ((138 : Nat) : Int)) rfl (Int.natCast_nonneg _) ?_
          obtain ⟨c114, h⟩ := d_ite h
          refine y_get (show ash 138 = (13, 38) from rfl) (Nat.lt_of_lt_of_le (show 138 < 154 by decide) hS.1.1) (v := (((m112 138 4).toNat : Nat) : Int)) c114.eq rfl ?_
          refine wp_dup (Or.inr rfl) ?_
          refine y_get (aW0 hS.1.2 c114.is) (ltW c114.is 0 (by decide)) (v := m112 (m112 138 4).toNat 5) rfl rfl ?_
          refine wp_iconst ⟨by decide, by decide⟩ ?_
          obtain ⟨c115, h⟩ := d_ite h
          refine wp_iadd c115 ?_
          refine y_put (aW0 hS.1.2 c114.is) (ltW c114.is 0 (by decide)) rfl ?_
          obtain ⟨m116, em116, h⟩ := d_bind h
          have em116 := Option.some.inj em116
          have s117 : Sh T.1 m116 := em116 ▸ s113.up (Or.inr ⟨by rw [(aW0 hS.1.2 c114.is)]; decide, by rw [(aW0 hS.1.2 c114.is)]; decide⟩) (by have := (ltW c114.is 0 (by decide)); have := hS.1.2; omega)
          rw [em116]
          cases h
          exact wp_return ⟨rfl, rfl, s117⟩
        · rw [if_neg c111] at h
          refine wp_iconst ⟨by decide, by decide⟩ ?_
          refine wp_aload_n (v := ((138 : Nat) : Int)) rfl (Int.natCast_nonneg _) ?_
          refine y_get (show ash 138 = (13, 38) from rfl) (Nat.lt_of_lt_of_le (show 138 < 154 by decide) hS.1.1) (v := (((m108 138 4).toNat : Nat) : Int)) c110.eq rfl ?_
          refine y_get (aW0 hS.1.2 c110.is) (ltW c110.is 0 (by decide)) (v := m108 (m108 138 4).toNat 5) rfl rfl ?_
          refine wp_ishl ?_
          refine wp_goto ?_
          refine y_blk (t := 223) rfl (show fnd bk_X13_readWay 223 = some _ from rfl) aB_X13_readWay ?_
          refine wp_ior ?_
          refine y_put (aW0 hS.1.2 c110.is) (ltW c110.is 0 (by decide)) rfl ?_
          obtain ⟨m118, em118, h⟩ := d_bind h
          have em118 := Option.some.inj em118
          have s119 : Sh T.1 m118 := em118 ▸ s109.up (Or.inr ⟨by rw [(aW0 hS.1.2 c110.is)]; decide, by rw [(aW0 hS.1.2 c110.is)]; decide⟩) (by have := (ltW c110.is 0 (by decide)); have := hS.1.2; omega)
          rw [em118]
          refine wp_aload_n (v := ((138 : Nat) : Int)) rfl (Int.natCast_nonneg _) ?_
          obtain ⟨c120, h⟩ := d_ite h
          refine y_get (show ash 138 = (13, 38) from rfl) (Nat.lt_of_lt_of_le (show 138 < 154 by decide) hS.1.1) (v := (((m118 138 4).toNat : Nat) : Int)) c120.eq rfl ?_
          refine wp_dup (Or.inr rfl) ?_
          refine y_get (aW0 hS.1.2 c120.is) (ltW c120.is 0 (by decide)) (v := m118 (m118 138 4).toNat 5) rfl rfl ?_
          refine wp_iconst ⟨by decide, by decide⟩ ?_
          obtain ⟨c121, h⟩ := d_ite h
          refine wp_iadd c121 ?_
          refine y_put (aW0 hS.1.2 c120.is) (ltW c120.is 0 (by decide)) rfl ?_
          obtain ⟨m122, em122, h⟩ := d_bind h
          have em122 := Option.some.inj em122
          have s123 : Sh T.1 m122 := em122 ▸ s119.up (Or.inr ⟨by rw [(aW0 hS.1.2 c120.is)]; decide, by rw [(aW0 hS.1.2 c120.is)]; decide⟩) (by have := (ltW c120.is 0 (by decide)); have := hS.1.2; omega)
          rw [em122]
          cases h
          exact wp_return ⟨rfl, rfl, s123⟩
  · rw [if_pos c27] at h
    cases h
    exact wp_return ⟨rfl, rfl, s26⟩
def b_X13_readWay_93 (T : Nat) (v1 : Int) (v2 : Int) (v3 : Int) (v4 : Int) (M : aM) : Option (Int × aM) :=
 if v4 = 0 then
 b_X13_readWay_118 T v1 v2 v3 v4 M else
 if okW T (M 138 4) then
 (f_X13_bits T (M (M 138 4).toNat 6) M).bind fun x125 =>
 if x125 = 6 then
 (f_X13_flaw T 5 M).bind fun x128 =>
 b_X13_readWay_118 T v1 v2 v3 v4 x128.2 else
 b_X13_readWay_118 T v1 v2 v3 v4 M else none
theorem tb_X13_readWay_93 {d : Nat} (hd : 10 ≤ d) {T : T3} {v1 : Int} {v2 : Int} {v3 : Int} {v4 : Int} {M : aM} {y : (Int × aM)}  (hS : Sh T.1 M) (h : b_X13_readWay_93 T.1 v1 v2 v3 v4 M = some y) : Wp d 228 93 [] [(2, ((138 : Nat) : Int)), (0, v1), (0, v2), (0, v3), (0, v4)] [] (M, T) (fun r2 σ2 => r2 = none ∧ σ2 = (y.2, T) ∧ Sh T.1 y.2) := by
  rw [b_X13_readWay_93] at h
  refine y_blk (t := 93) rfl (show fnd bk_X13_readWay 93 = some _ from rfl) aB_X13_readWay ?_
  refine wp_iload (v := v4) rfl ?_
  refine wp_if_eq (fun c22 => ?_) (fun c22 => ?_)
  · rw [if_pos c22] at h
    exact tb_X13_readWay_118 hd hS h
  · rw [if_neg c22] at h
    refine wp_aload_n (v := ((138 : Nat) : Int)) rfl (Int.natCast_nonneg _) ?_
    obtain ⟨c124, h⟩ := d_ite h
    refine y_get (show ash 138 = (13, 38) from rfl) (Nat.lt_of_lt_of_le (show 138 < 154 by decide) hS.1.1) (v := (((M 138 4).toNat : Nat) : Int)) c124.eq rfl ?_
    refine y_get (aW0 hS.1.2 c124.is) (ltW c124.is 0 (by decide)) (v := M (M 138 4).toNat 6) rfl rfl ?_
    obtain ⟨x125, e126, h⟩ := d_bind h
    refine y_callS (as := [(0, (M (M 138 4).toNat 6))]) (S1 := []) (Nat.le_of_ble_eq_true rfl) (by omega) (t_X13_bits hS e126) (Nat.le_of_ble_eq_true rfl) rfl (Nat.le_of_ble_eq_true rfl) (Nat.le_of_ble_eq_true rfl) rfl ?_
    refine wp_bipush (by decide) ?_
    refine y_ne (fun c127 => ?_) (fun c127 => ?_)
    · rw [if_neg c127] at h
      exact tb_X13_readWay_118 hd hS h
    · rw [if_pos c127] at h
      refine wp_aload_n (v := ((138 : Nat) : Int)) rfl (Int.natCast_nonneg _) ?_
      refine wp_iconst ⟨by decide, by decide⟩ ?_
      obtain ⟨x128, e129, h⟩ := d_bind h
      obtain ⟨r130, s131⟩ := t_X13_flaw hS e129
      refine y_callVv (as := [(0, 5)]) (S1 := []) (Nat.le_of_ble_eq_true rfl) (by omega) r130 rfl (show ash 138 = (13, 38) from rfl) (Nat.lt_of_lt_of_le (show 138 < 154 by decide) hS.1.1) (Nat.le_of_ble_eq_true rfl) (Nat.le_of_ble_eq_true rfl) rfl ?_
      exact tb_X13_readWay_118 hd s131 h
def b_X13_readWay_49 (T : Nat) (v1 : Int) (v2 : Int) (M : aM) : Option (Int × aM) :=
 (f_X13_goesOn T M).bind fun x11 =>
 (f_X13_readPart T 2000037 1 20 x11.2).bind fun x15 =>
 (f_X13_isWord T 2000038 x15.2).bind fun x19 =>
 if x19 = 0 then
 (f_X13_isWord T 2000039 x15.2).bind fun x132 =>
 if x132 = 0 then
 (f_X13_flaw T 1 x15.2).bind fun x135 =>
 b_X13_readWay_93 T v1 v2 x15.1 x19 x135.2 else
 b_X13_readWay_93 T v1 v2 x15.1 x19 x15.2 else
 b_X13_readWay_93 T v1 v2 x15.1 x19 x15.2
theorem tb_X13_readWay_49 {d : Nat} (hd : 10 ≤ d) {T : T3} {v1 : Int} {v2 : Int} {u3 u4 : aV} {M : aM} {y : (Int × aM)}  (hS : Sh T.1 M) (h : b_X13_readWay_49 T.1 v1 v2 M = some y) : Wp d 228 49 [] [(2, ((138 : Nat) : Int)), (0, v1), (0, v2), u3, u4] [] (M, T) (fun r2 σ2 => r2 = none ∧ σ2 = (y.2, T) ∧ Sh T.1 y.2) := by
  rw [b_X13_readWay_49] at h
  refine y_blk (t := 49) rfl (show fnd bk_X13_readWay 49 = some _ from rfl) aB_X13_readWay ?_
  refine wp_aload_n (v := ((138 : Nat) : Int)) rfl (Int.natCast_nonneg _) ?_
  obtain ⟨x11, e12, h⟩ := d_bind h
  obtain ⟨r13, s14⟩ := t_X13_goesOn hS e12
  refine y_callVv (as := []) (S1 := []) (Nat.le_of_ble_eq_true rfl) (by omega) r13 rfl (show ash 138 = (13, 38) from rfl) (Nat.lt_of_lt_of_le (show 138 < 154 by decide) hS.1.1) (Nat.le_of_ble_eq_true rfl) (Nat.le_of_ble_eq_true rfl) rfl ?_
  refine wp_aload_n (v := ((138 : Nat) : Int)) rfl (Int.natCast_nonneg _) ?_
  refine y_ldc_wS (v := 2000037) rfl ?_
  refine wp_iconst ⟨by decide, by decide⟩ ?_
  refine wp_bipush (by decide) ?_
  obtain ⟨x15, e16, h⟩ := d_bind h
  obtain ⟨r17, s18⟩ := t_X13_readPart s14 e16
  refine y_callV (as := [(2, 2000037), (0, 1), (0, 20)]) (S1 := []) (Nat.le_of_ble_eq_true rfl) (by omega) r17 (Nat.le_of_ble_eq_true rfl) rfl (show ash 138 = (13, 38) from rfl) (Nat.lt_of_lt_of_le (show 138 < 154 by decide) hS.1.1) (Nat.le_of_ble_eq_true rfl) (Nat.le_of_ble_eq_true rfl) rfl ?_
  refine y_stn (L1 := [(2, ((138 : Nat) : Int)), (0, v1), (0, v2), (0, x15.1), u4]) (Nat.le_of_ble_eq_true rfl) rfl ?_
  refine wp_aload_n (v := ((138 : Nat) : Int)) rfl (Int.natCast_nonneg _) ?_
  refine y_ldc_wS (v := 2000038) rfl ?_
  obtain ⟨x19, e20, h⟩ := d_bind h
  refine y_callV (as := [(2, 2000038)]) (S1 := []) (Nat.le_of_ble_eq_true rfl) (by omega) (t_X13_isWord s18 e20) (Nat.le_of_ble_eq_true rfl) rfl (show ash 138 = (13, 38) from rfl) (Nat.lt_of_lt_of_le (show 138 < 154 by decide) hS.1.1) (Nat.le_of_ble_eq_true rfl) (Nat.le_of_ble_eq_true rfl) rfl ?_
  refine y_st (L1 := [(2, ((138 : Nat) : Int)), (0, v1), (0, v2), (0, x15.1), (0, x19)]) (Nat.le_of_ble_eq_true rfl) rfl ?_
  refine wp_iload (v := x19) rfl ?_
  refine y_nez (fun c21 => ?_) (fun c21 => ?_)
  · rw [if_neg c21] at h
    exact tb_X13_readWay_93 hd s18 h
  · rw [if_pos c21] at h
    refine wp_aload_n (v := ((138 : Nat) : Int)) rfl (Int.natCast_nonneg _) ?_
    refine y_ldc_wS (v := 2000039) rfl ?_
    obtain ⟨x132, e133, h⟩ := d_bind h
    refine y_callV (as := [(2, 2000039)]) (S1 := []) (Nat.le_of_ble_eq_true rfl) (by omega) (t_X13_isWord s18 e133) (Nat.le_of_ble_eq_true rfl) rfl (show ash 138 = (13, 38) from rfl) (Nat.lt_of_lt_of_le (show 138 < 154 by decide) hS.1.1) (Nat.le_of_ble_eq_true rfl) (Nat.le_of_ble_eq_true rfl) rfl ?_
    refine y_nez (fun c134 => ?_) (fun c134 => ?_)
    · rw [if_neg c134] at h
      exact tb_X13_readWay_93 hd s18 h
    · rw [if_pos c134] at h
      refine wp_aload_n (v := ((138 : Nat) : Int)) rfl (Int.natCast_nonneg _) ?_
      refine wp_iconst ⟨by decide, by decide⟩ ?_
      obtain ⟨x135, e136, h⟩ := d_bind h
      obtain ⟨r137, s138⟩ := t_X13_flaw s18 e136
      refine y_callVv (as := [(0, 1)]) (S1 := []) (Nat.le_of_ble_eq_true rfl) (by omega) r137 rfl (show ash 138 = (13, 38) from rfl) (Nat.lt_of_lt_of_le (show 138 < 154 by decide) hS.1.1) (Nat.le_of_ble_eq_true rfl) (Nat.le_of_ble_eq_true rfl) rfl ?_
      exact tb_X13_readWay_93 hd s138 h
def f_X13_readWay (T : Nat)  (M : aM) : Option (Int × aM) :=
 if okW T (M 138 4) then
 (f_X13_lineBegins T (M (M 138 4).toNat 5) 10 M).bind fun x2 =>
 (f_X13_readTwo T x2.2).bind fun x6 =>
 if (x6.2 138 9) = 5 then
 b_X13_readWay_49 T x6.1 (x6.2 138 15) x6.2 else
 if okW T (x6.2 138 4) then
 (f_X12_way T (x6.2 138 4).toNat x6.1 (x6.2 138 15) x6.2).bind fun x140 =>
 if x140 = (-1) then
 b_X13_readWay_49 T x6.1 (x6.2 138 15) x6.2 else
 (f_X13_flaw T 3 x6.2).bind fun x143 =>
 b_X13_readWay_49 T x6.1 (x6.2 138 15) x143.2 else none else none
theorem t_X13_readWay {T : T3}  {M : aM} {y : (Int × aM)}  (hS : Sh T.1 M) (h : f_X13_readWay T.1  M = some y) : Mr 10 228 [(2, ((138 : Nat) : Int))] M (none) y.2 T ∧ Sh T.1 y.2 := by
  have key : ∀ d, 10 ≤ d → Wp d 228 0 [] [(2, ((138 : Nat) : Int)), (9, 0), (9, 0), (9, 0), (9, 0)] [] (M, T) (fun r2 σ2 => r2 = none ∧ σ2 = (y.2, T) ∧ Sh T.1 y.2) := by
    intro d hd
    rw [f_X13_readWay] at h
    refine y_blk (t := 0) rfl (show fnd bk_X13_readWay 0 = some _ from rfl) aB_X13_readWay ?_
    refine wp_aload_n (v := ((138 : Nat) : Int)) rfl (Int.natCast_nonneg _) ?_
    refine wp_aload_n (v := ((138 : Nat) : Int)) rfl (Int.natCast_nonneg _) ?_
    obtain ⟨c1, h⟩ := d_ite h
    refine y_get (show ash 138 = (13, 38) from rfl) (Nat.lt_of_lt_of_le (show 138 < 154 by decide) hS.1.1) (v := (((M 138 4).toNat : Nat) : Int)) c1.eq rfl ?_
    refine y_get (aW0 hS.1.2 c1.is) (ltW c1.is 0 (by decide)) (v := M (M 138 4).toNat 5) rfl rfl ?_
    refine wp_bipush (by decide) ?_
    obtain ⟨x2, e3, h⟩ := d_bind h
    obtain ⟨r4, s5⟩ := t_X13_lineBegins hS e3
    refine y_callVv (as := [(0, (M (M 138 4).toNat 5)), (0, 10)]) (S1 := []) (Nat.le_of_ble_eq_true rfl) (by omega) r4 rfl (show ash 138 = (13, 38) from rfl) (Nat.lt_of_lt_of_le (show 138 < 154 by decide) hS.1.1) (Nat.le_of_ble_eq_true rfl) (Nat.le_of_ble_eq_true rfl) rfl ?_
    refine wp_aload_n (v := ((138 : Nat) : Int)) rfl (Int.natCast_nonneg _) ?_
    obtain ⟨x6, e7, h⟩ := d_bind h
    obtain ⟨r8, s9⟩ := t_X13_readTwo s5 e7
    refine y_callV (as := []) (S1 := []) (Nat.le_of_ble_eq_true rfl) (by omega) r8 (Nat.le_of_ble_eq_true rfl) rfl (show ash 138 = (13, 38) from rfl) (Nat.lt_of_lt_of_le (show 138 < 154 by decide) hS.1.1) (Nat.le_of_ble_eq_true rfl) (Nat.le_of_ble_eq_true rfl) rfl ?_
    refine y_stn (L1 := [(2, ((138 : Nat) : Int)), (0, x6.1), (9, 0), (9, 0), (9, 0)]) (Nat.le_of_ble_eq_true rfl) rfl ?_
    refine wp_aload_n (v := ((138 : Nat) : Int)) rfl (Int.natCast_nonneg _) ?_
    refine y_get (show ash 138 = (13, 38) from rfl) (Nat.lt_of_lt_of_le (show 138 < 154 by decide) hS.1.1) (v := x6.2 138 15) rfl rfl ?_
    refine y_stn (L1 := [(2, ((138 : Nat) : Int)), (0, x6.1), (0, (x6.2 138 15)), (9, 0), (9, 0)]) (Nat.le_of_ble_eq_true rfl) rfl ?_
    refine wp_aload_n (v := ((138 : Nat) : Int)) rfl (Int.natCast_nonneg _) ?_
    refine y_get (show ash 138 = (13, 38) from rfl) (Nat.lt_of_lt_of_le (show 138 < 154 by decide) hS.1.1) (v := x6.2 138 9) rfl rfl ?_
    refine wp_iconst ⟨by decide, by decide⟩ ?_
    refine wp_icmp_eq (fun c10 => ?_) (fun c10 => ?_)
    · rw [if_pos c10] at h
      exact tb_X13_readWay_49 hd s9 h
    · rw [if_neg c10] at h
      refine wp_aload_n (v := ((138 : Nat) : Int)) rfl (Int.natCast_nonneg _) ?_
      obtain ⟨c139, h⟩ := d_ite h
      refine y_get (show ash 138 = (13, 38) from rfl) (Nat.lt_of_lt_of_le (show 138 < 154 by decide) hS.1.1) (v := (((x6.2 138 4).toNat : Nat) : Int)) c139.eq rfl ?_
      refine wp_iload_n (v := x6.1) rfl ?_
      refine wp_iload_n (v := (x6.2 138 15)) rfl ?_
      obtain ⟨x140, e141, h⟩ := d_bind h
      refine y_callV (as := [(0, x6.1), (0, (x6.2 138 15))]) (S1 := []) (Nat.le_of_ble_eq_true rfl) (by omega) (t_X12_way c139.is s9 e141) (Nat.le_of_ble_eq_true rfl) rfl (aW0 hS.1.2 c139.is) (ltW c139.is 0 (by decide)) (Nat.le_of_ble_eq_true rfl) (Nat.le_of_ble_eq_true rfl) rfl ?_
      refine wp_iconst ⟨by decide, by decide⟩ ?_
      refine wp_icmp_eq (fun c142 => ?_) (fun c142 => ?_)
      · rw [if_pos c142] at h
        exact tb_X13_readWay_49 hd s9 h
      · rw [if_neg c142] at h
        refine wp_aload_n (v := ((138 : Nat) : Int)) rfl (Int.natCast_nonneg _) ?_
        refine wp_iconst ⟨by decide, by decide⟩ ?_
        obtain ⟨x143, e144, h⟩ := d_bind h
        obtain ⟨r145, s146⟩ := t_X13_flaw s9 e144
        refine y_callVv (as := [(0, 3)]) (S1 := []) (Nat.le_of_ble_eq_true rfl) (by omega) r145 rfl (show ash 138 = (13, 38) from rfl) (Nat.lt_of_lt_of_le (show 138 < 154 by decide) hS.1.1) (Nat.le_of_ble_eq_true rfl) (Nat.le_of_ble_eq_true rfl) rfl ?_
        exact tb_X13_readWay_49 hd s146 h
  exact ⟨fun d hd => Ms.of3 (key d hd), Ms.sh (key 10 (Nat.le_refl _))⟩

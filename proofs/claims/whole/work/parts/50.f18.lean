/-! ===== methods as functions ===== -/
theorem aB_X11_within : ∀ pc, aB 155 pc = fnd bk_X11_within pc := fun _ => rfl
def f_X11_within (T : Nat) (v1 : Int) (v2 : Int) (v3 : Int) (v4 : Int) (M : aM) : Option (Int × aM) :=
 (f_X11_isCave T v1 M).bind fun x1 =>
 if x1 = 0 then
 (f_X11_refuse T 1 M).bind fun x4 =>
 some (x4.1, x4.2) else
 (f_X11_isCave T v2 M).bind fun x8 =>
 if x8 = 0 then
 (f_X11_refuse T 1 M).bind fun x31 =>
 some (x31.1, x31.2) else
 if v3 < 0 then
 (f_X11_refuse T 2 M).bind fun x12 =>
 some (x12.1, x12.2) else
 if v3 ≤ 200 then
 (some (aup M 0 14 0)).bind fun m17 =>
 (f_X0_chanceWithin T v1 v2 v3 m17).bind fun x19 =>
 (f_X0_allChances T x19.2).bind fun x23 =>
 (f_X11_inLowestTerms T x19.1 x23 v4 x19.2).bind fun x25 =>
 some (x25, x19.2) else
 (f_X11_refuse T 2 M).bind fun x27 =>
 some (x27.1, x27.2)
theorem t_X11_within {T : T3} {v1 : Int} {v2 : Int} {v3 : Int} {v4 : Int} {M : aM} {y : (Int × aM)}  (hS : Sh T.1 M) (h : f_X11_within T.1 v1 v2 v3 v4 M = some y) : Mr 4 155 [(2, ((0 : Nat) : Int)), (0, v1), (0, v2), (0, v3), (0, v4)] M (some (1, y.1)) y.2 T ∧ Sh T.1 y.2 := by
  have key : ∀ d, 4 ≤ d → Wp d 155 0 [] [(2, ((0 : Nat) : Int)), (0, v1), (0, v2), (0, v3), (0, v4)] [] (M, T) (fun r2 σ2 => r2 = some (1, y.1) ∧ σ2 = (y.2, T) ∧ Sh T.1 y.2) := by
    intro d hd
    rw [f_X11_within] at h
    refine y_blk (t := 0) rfl (show fnd bk_X11_within 0 = some _ from rfl) aB_X11_within ?_
    refine wp_aload_n (v := ((0 : Nat) : Int)) rfl (Int.natCast_nonneg _) ?_
    refine wp_iload_n (v := v1) rfl ?_
    obtain ⟨x1, e2, h⟩ := d_bind h
    refine y_callV (as := [(0, v1)]) (S1 := []) (Nat.le_of_ble_eq_true rfl) (by omega) (t_X11_isCave hS e2) (Nat.le_of_ble_eq_true rfl) rfl (show ash 0 = (11, 15) from rfl) (Nat.lt_of_lt_of_le (show 0 < 154 by decide) hS.1.1) (Nat.le_of_ble_eq_true rfl) (Nat.le_of_ble_eq_true rfl) rfl ?_
    refine wp_if_eq (fun c3 => ?_) (fun c3 => ?_)
    · rw [if_pos c3] at h
      refine y_blk (t := 16) rfl (show fnd bk_X11_within 16 = some _ from rfl) aB_X11_within ?_
      refine wp_aload_n (v := ((0 : Nat) : Int)) rfl (Int.natCast_nonneg _) ?_
      refine wp_iconst ⟨by decide, by decide⟩ ?_
      obtain ⟨x4, e5, h⟩ := d_bind h
      obtain ⟨r6, s7⟩ := t_X11_refuse hS e5
      refine y_callV (as := [(0, 1)]) (S1 := []) (Nat.le_of_ble_eq_true rfl) (by omega) r6 (Nat.le_of_ble_eq_true rfl) rfl (show ash 0 = (11, 15) from rfl) (Nat.lt_of_lt_of_le (show 0 < 154 by decide) hS.1.1) (Nat.le_of_ble_eq_true rfl) (Nat.le_of_ble_eq_true rfl) rfl ?_
      refine wp_i2l ?_
      cases h
      exact wp_lreturn ⟨rfl, rfl, s7⟩
    · rw [if_neg c3] at h
      refine wp_aload_n (v := ((0 : Nat) : Int)) rfl (Int.natCast_nonneg _) ?_
      refine wp_iload_n (v := v2) rfl ?_
      obtain ⟨x8, e9, h⟩ := d_bind h
      refine y_callV (as := [(0, v2)]) (S1 := []) (Nat.le_of_ble_eq_true rfl) (by omega) (t_X11_isCave hS e9) (Nat.le_of_ble_eq_true rfl) rfl (show ash 0 = (11, 15) from rfl) (Nat.lt_of_lt_of_le (show 0 < 154 by decide) hS.1.1) (Nat.le_of_ble_eq_true rfl) (Nat.le_of_ble_eq_true rfl) rfl ?_
      refine y_nez (fun c10 => ?_) (fun c10 => ?_)
      · rw [if_neg c10] at h
        refine y_blk (t := 23) rfl (show fnd bk_X11_within 23 = some _ from rfl) aB_X11_within ?_
        refine wp_iload_n (v := v3) rfl ?_
        refine wp_if_lt (fun c11 => ?_) (fun c11 => ?_)
        · rw [if_pos c11] at h
          refine y_blk (t := 34) rfl (show fnd bk_X11_within 34 = some _ from rfl) aB_X11_within ?_
          refine wp_aload_n (v := ((0 : Nat) : Int)) rfl (Int.natCast_nonneg _) ?_
          refine wp_iconst ⟨by decide, by decide⟩ ?_
          obtain ⟨x12, e13, h⟩ := d_bind h
          obtain ⟨r14, s15⟩ := t_X11_refuse hS e13
          refine y_callV (as := [(0, 2)]) (S1 := []) (Nat.le_of_ble_eq_true rfl) (by omega) r14 (Nat.le_of_ble_eq_true rfl) rfl (show ash 0 = (11, 15) from rfl) (Nat.lt_of_lt_of_le (show 0 < 154 by decide) hS.1.1) (Nat.le_of_ble_eq_true rfl) (Nat.le_of_ble_eq_true rfl) rfl ?_
          refine wp_i2l ?_
          cases h
          exact wp_lreturn ⟨rfl, rfl, s15⟩
        · rw [if_neg c11] at h
          refine wp_iload_n (v := v3) rfl ?_
          refine wp_sipush (by decide) ?_
          refine wp_icmp_le (fun c16 => ?_) (fun c16 => ?_)
          · rw [if_pos c16] at h
            refine y_blk (t := 41) rfl (show fnd bk_X11_within 41 = some _ from rfl) aB_X11_within ?_
            refine wp_aload_n (v := ((0 : Nat) : Int)) rfl (Int.natCast_nonneg _) ?_
            refine wp_iconst ⟨by decide, by decide⟩ ?_
            refine y_put (show ash 0 = (11, 15) from rfl) (Nat.lt_of_lt_of_le (show 0 < 154 by decide) hS.1.1) rfl ?_
            obtain ⟨m17, em17, h⟩ := d_bind h
            have em17 := Option.some.inj em17
            have s18 : Sh T.1 m17 := em17 ▸ hS.up (Or.inr ⟨by rw [(show ash 0 = (11, 15) from rfl)]; decide, by rw [(show ash 0 = (11, 15) from rfl)]; decide⟩) (by have := (Nat.lt_of_lt_of_le (show 0 < 154 by decide) hS.1.1); have := hS.1.2; omega)
            rw [em17]
            refine wp_aload_n (v := ((0 : Nat) : Int)) rfl (Int.natCast_nonneg _) ?_
            refine y_get (show ash 0 = (11, 15) from rfl) (Nat.lt_of_lt_of_le (show 0 < 154 by decide) hS.1.1) (v := ((58 : Nat) : Int)) (s18.at 0 12 58 (by decide +kernel)) rfl ?_
            refine wp_iload_n (v := v1) rfl ?_
            refine wp_iload_n (v := v2) rfl ?_
            refine wp_iload_n (v := v3) rfl ?_
            obtain ⟨x19, e20, h⟩ := d_bind h
            obtain ⟨r21, s22⟩ := t_X0_chanceWithin s18 e20
            refine y_callV (as := [(0, v1), (0, v2), (0, v3)]) (S1 := []) (Nat.le_of_ble_eq_true rfl) (by omega) r21 (Nat.le_of_ble_eq_true rfl) rfl (show ash 58 = (0, 4) from rfl) (Nat.lt_of_lt_of_le (show 58 < 154 by decide) hS.1.1) (Nat.le_of_ble_eq_true rfl) (Nat.le_of_ble_eq_true rfl) rfl ?_
            refine wp_aload_n (v := ((0 : Nat) : Int)) rfl (Int.natCast_nonneg _) ?_
            refine y_get (show ash 0 = (11, 15) from rfl) (Nat.lt_of_lt_of_le (show 0 < 154 by decide) hS.1.1) (v := ((58 : Nat) : Int)) (s22.at 0 12 58 (by decide +kernel)) rfl ?_
            obtain ⟨x23, e24, h⟩ := d_bind h
            refine y_callV (as := []) (S1 := [(1, x19.1)]) (Nat.le_of_ble_eq_true rfl) (by omega) (t_X0_allChances s22 e24) (Nat.le_of_ble_eq_true rfl) rfl (show ash 58 = (0, 4) from rfl) (Nat.lt_of_lt_of_le (show 58 < 154 by decide) hS.1.1) (Nat.le_of_ble_eq_true rfl) (Nat.le_of_ble_eq_true rfl) rfl ?_
            refine wp_iload (v := v4) rfl ?_
            obtain ⟨x25, e26, h⟩ := d_bind h
            refine y_callS (as := [(1, x19.1), (1, x23), (0, v4)]) (S1 := []) (Nat.le_of_ble_eq_true rfl) (by omega) (t_X11_inLowestTerms s22 e26) (Nat.le_of_ble_eq_true rfl) rfl (Nat.le_of_ble_eq_true rfl) (Nat.le_of_ble_eq_true rfl) rfl ?_
            cases h
            exact wp_lreturn ⟨rfl, rfl, s22⟩
          · rw [if_neg c16] at h
            refine y_blk (t := 34) rfl (show fnd bk_X11_within 34 = some _ from rfl) aB_X11_within ?_
            refine wp_aload_n (v := ((0 : Nat) : Int)) rfl (Int.natCast_nonneg _) ?_
            refine wp_iconst ⟨by decide, by decide⟩ ?_
            obtain ⟨x27, e28, h⟩ := d_bind h
            obtain ⟨r29, s30⟩ := t_X11_refuse hS e28
            refine y_callV (as := [(0, 2)]) (S1 := []) (Nat.le_of_ble_eq_true rfl) (by omega) r29 (Nat.le_of_ble_eq_true rfl) rfl (show ash 0 = (11, 15) from rfl) (Nat.lt_of_lt_of_le (show 0 < 154 by decide) hS.1.1) (Nat.le_of_ble_eq_true rfl) (Nat.le_of_ble_eq_true rfl) rfl ?_
            refine wp_i2l ?_
            cases h
            exact wp_lreturn ⟨rfl, rfl, s30⟩
      · rw [if_pos c10] at h
        refine y_blk (t := 16) rfl (show fnd bk_X11_within 16 = some _ from rfl) aB_X11_within ?_
        refine wp_aload_n (v := ((0 : Nat) : Int)) rfl (Int.natCast_nonneg _) ?_
        refine wp_iconst ⟨by decide, by decide⟩ ?_
        obtain ⟨x31, e32, h⟩ := d_bind h
        obtain ⟨r33, s34⟩ := t_X11_refuse hS e32
        refine y_callV (as := [(0, 1)]) (S1 := []) (Nat.le_of_ble_eq_true rfl) (by omega) r33 (Nat.le_of_ble_eq_true rfl) rfl (show ash 0 = (11, 15) from rfl) (Nat.lt_of_lt_of_le (show 0 < 154 by decide) hS.1.1) (Nat.le_of_ble_eq_true rfl) (Nat.le_of_ble_eq_true rfl) rfl ?_
        refine wp_i2l ?_
        cases h
        exact wp_lreturn ⟨rfl, rfl, s34⟩
  exact ⟨fun d hd => Ms.of3 (key d hd), Ms.sh (key 4 (Nat.le_refl _))⟩
theorem aB_X11_mean : ∀ pc, aB 156 pc = fnd bk_X11_mean pc := fun _ => rfl
def f_X11_mean (T : Nat) (v1 : Int) (v2 : Int) (M : aM) : Option (Int × aM) :=
 (f_X11_isCave T v1 M).bind fun x1 =>
 if x1 = 0 then
 (f_X11_refuse T 1 M).bind fun x14 =>
 some (x14.1, x14.2) else
 (some (aup M 0 14 0)).bind fun m4 =>
 (f_X0_cavesByChance T v1 m4).bind fun x6 =>
 (f_X0_allChances T x6.2).bind fun x10 =>
 (f_X11_inLowestTerms T x6.1 x10 v2 x6.2).bind fun x12 =>
 some (x12, x6.2)
theorem t_X11_mean {T : T3} {v1 : Int} {v2 : Int} {M : aM} {y : (Int × aM)}  (hS : Sh T.1 M) (h : f_X11_mean T.1 v1 v2 M = some y) : Mr 4 156 [(2, ((0 : Nat) : Int)), (0, v1), (0, v2)] M (some (1, y.1)) y.2 T ∧ Sh T.1 y.2 := by
  have key : ∀ d, 4 ≤ d → Wp d 156 0 [] [(2, ((0 : Nat) : Int)), (0, v1), (0, v2)] [] (M, T) (fun r2 σ2 => r2 = some (1, y.1) ∧ σ2 = (y.2, T) ∧ Sh T.1 y.2) := by
    intro d hd
    rw [f_X11_mean] at h
    refine y_blk (t := 0) rfl (show fnd bk_X11_mean 0 = some _ from rfl) aB_X11_mean ?_
    refine wp_aload_n (v := ((0 : Nat) : Int)) rfl (Int.natCast_nonneg _) ?_
    refine wp_iload_n (v := v1) rfl ?_
    obtain ⟨x1, e2, h⟩ := d_bind h
    refine y_callV (as := [(0, v1)]) (S1 := []) (Nat.le_of_ble_eq_true rfl) (by omega) (t_X11_isCave hS e2) (Nat.le_of_ble_eq_true rfl) rfl (show ash 0 = (11, 15) from rfl) (Nat.lt_of_lt_of_le (show 0 < 154 by decide) hS.1.1) (Nat.le_of_ble_eq_true rfl) (Nat.le_of_ble_eq_true rfl) rfl ?_
    refine y_nez (fun c3 => ?_) (fun c3 => ?_)
    · rw [if_neg c3] at h
      refine y_blk (t := 15) rfl (show fnd bk_X11_mean 15 = some _ from rfl) aB_X11_mean ?_
      refine wp_aload_n (v := ((0 : Nat) : Int)) rfl (Int.natCast_nonneg _) ?_
      refine wp_iconst ⟨by decide, by decide⟩ ?_
      refine y_put (show ash 0 = (11, 15) from rfl) (Nat.lt_of_lt_of_le (show 0 < 154 by decide) hS.1.1) rfl ?_
      obtain ⟨m4, em4, h⟩ := d_bind h
      have em4 := Option.some.inj em4
      have s5 : Sh T.1 m4 := em4 ▸ hS.up (Or.inr ⟨by rw [(show ash 0 = (11, 15) from rfl)]; decide, by rw [(show ash 0 = (11, 15) from rfl)]; decide⟩) (by have := (Nat.lt_of_lt_of_le (show 0 < 154 by decide) hS.1.1); have := hS.1.2; omega)
      rw [em4]
      refine wp_aload_n (v := ((0 : Nat) : Int)) rfl (Int.natCast_nonneg _) ?_
      refine y_get (show ash 0 = (11, 15) from rfl) (Nat.lt_of_lt_of_le (show 0 < 154 by decide) hS.1.1) (v := ((58 : Nat) : Int)) (s5.at 0 12 58 (by decide +kernel)) rfl ?_
      refine wp_iload_n (v := v1) rfl ?_
      obtain ⟨x6, e7, h⟩ := d_bind h
      obtain ⟨r8, s9⟩ := t_X0_cavesByChance s5 e7
      refine y_callV (as := [(0, v1)]) (S1 := []) (Nat.le_of_ble_eq_true rfl) (by omega) r8 (Nat.le_of_ble_eq_true rfl) rfl (show ash 58 = (0, 4) from rfl) (Nat.lt_of_lt_of_le (show 58 < 154 by decide) hS.1.1) (Nat.le_of_ble_eq_true rfl) (Nat.le_of_ble_eq_true rfl) rfl ?_
      refine wp_aload_n (v := ((0 : Nat) : Int)) rfl (Int.natCast_nonneg _) ?_
      refine y_get (show ash 0 = (11, 15) from rfl) (Nat.lt_of_lt_of_le (show 0 < 154 by decide) hS.1.1) (v := ((58 : Nat) : Int)) (s9.at 0 12 58 (by decide +kernel)) rfl ?_
      obtain ⟨x10, e11, h⟩ := d_bind h
      refine y_callV (as := []) (S1 := [(1, x6.1)]) (Nat.le_of_ble_eq_true rfl) (by omega) (t_X0_allChances s9 e11) (Nat.le_of_ble_eq_true rfl) rfl (show ash 58 = (0, 4) from rfl) (Nat.lt_of_lt_of_le (show 58 < 154 by decide) hS.1.1) (Nat.le_of_ble_eq_true rfl) (Nat.le_of_ble_eq_true rfl) rfl ?_
      refine wp_iload_n (v := v2) rfl ?_
      obtain ⟨x12, e13, h⟩ := d_bind h
      refine y_callS (as := [(1, x6.1), (1, x10), (0, v2)]) (S1 := []) (Nat.le_of_ble_eq_true rfl) (by omega) (t_X11_inLowestTerms s9 e13) (Nat.le_of_ble_eq_true rfl) rfl (Nat.le_of_ble_eq_true rfl) (Nat.le_of_ble_eq_true rfl) rfl ?_
      cases h
      exact wp_lreturn ⟨rfl, rfl, s9⟩
    · rw [if_pos c3] at h
      refine wp_aload_n (v := ((0 : Nat) : Int)) rfl (Int.natCast_nonneg _) ?_
      refine wp_iconst ⟨by decide, by decide⟩ ?_
      obtain ⟨x14, e15, h⟩ := d_bind h
      obtain ⟨r16, s17⟩ := t_X11_refuse hS e15
      refine y_callV (as := [(0, 1)]) (S1 := []) (Nat.le_of_ble_eq_true rfl) (by omega) r16 (Nat.le_of_ble_eq_true rfl) rfl (show ash 0 = (11, 15) from rfl) (Nat.lt_of_lt_of_le (show 0 < 154 by decide) hS.1.1) (Nat.le_of_ble_eq_true rfl) (Nat.le_of_ble_eq_true rfl) rfl ?_
      refine wp_i2l ?_
      cases h
      exact wp_lreturn ⟨rfl, rfl, s17⟩
  exact ⟨fun d hd => Ms.of3 (key d hd), Ms.sh (key 4 (Nat.le_refl _))⟩
theorem aB_X11_isSeed : ∀ pc, aB 180 pc = fnd bk_X11_isSeed pc := fun _ => rfl
def f_X11_isSeed (T : Nat) (v0 : Int) (M : aM) : Option Int :=
 if v0 < 0 then
 some 0 else
 if 65536 < v0 then
 some 0 else
 some 1
theorem t_X11_isSeed {T : T3} {v0 : Int} {M : aM} {y : Int}  (hS : Sh T.1 M) (h : f_X11_isSeed T.1 v0 M = some y) : Mr 0 180 [(0, v0)] M (some (0, y)) M T := by
  have key : ∀ d, 0 ≤ d → Wp d 180 0 [] [(0, v0)] [] (M, T) (fun r2 σ2 => r2 = some (0, y) ∧ σ2 = (M, T)) := by
    intro d hd
    rw [f_X11_isSeed] at h
    refine y_blk (t := 0) rfl (show fnd bk_X11_isSeed 0 = some _ from rfl) aB_X11_isSeed ?_
    refine wp_iload_n (v := v0) rfl ?_
    refine wp_if_lt (fun c1 => ?_) (fun c1 => ?_)
    · rw [if_pos c1] at h
      refine y_blk (t := 15) rfl (show fnd bk_X11_isSeed 15 = some _ from rfl) aB_X11_isSeed ?_
      refine wp_iconst ⟨by decide, by decide⟩ ?_
      refine y_blk (t := 16) rfl (show fnd bk_X11_isSeed 16 = some _ from rfl) aB_X11_isSeed ?_
      cases h
      exact y_ret0 (Or.inr (Or.inl rfl)) ⟨rfl, rfl⟩
    · rw [if_neg c1] at h
      refine wp_iload_n (v := v0) rfl ?_
      refine y_ldc_w (v := 65536) (by decide) rfl ?_
      refine wp_icmp_gt (fun c2 => ?_) (fun c2 => ?_)
      · rw [if_pos c2] at h
        refine y_blk (t := 15) rfl (show fnd bk_X11_isSeed 15 = some _ from rfl) aB_X11_isSeed ?_
        refine wp_iconst ⟨by decide, by decide⟩ ?_
        refine y_blk (t := 16) rfl (show fnd bk_X11_isSeed 16 = some _ from rfl) aB_X11_isSeed ?_
        cases h
        exact y_ret0 (Or.inr (Or.inl rfl)) ⟨rfl, rfl⟩
      · rw [if_neg c2] at h
        refine wp_iconst ⟨by decide, by decide⟩ ?_
        refine wp_goto ?_
        refine y_blk (t := 16) rfl (show fnd bk_X11_isSeed 16 = some _ from rfl) aB_X11_isSeed ?_
        cases h
        exact y_ret0 (Or.inr (Or.inr rfl)) ⟨rfl, rfl⟩
  exact fun d hd => Ms.of (key d hd)
theorem aB_X11_farBy : ∀ pc, aB 157 pc = fnd bk_X11_farBy pc := fun _ => rfl
def f_X11_farBy (T : Nat) (v1 : Int) (v2 : Int) (v3 : Int) (M : aM) : Option (Int × aM) :=
 (f_X11_isCave T v1 M).bind fun x1 =>
 if x1 = 0 then
 (f_X11_refuse T 1 M).bind fun x4 =>
 some (x4.1, x4.2) else
 (f_X11_isCave T v2 M).bind fun x8 =>
 if x8 = 0 then
 (f_X11_refuse T 1 M).bind fun x30 =>
 some (x30.1, x30.2) else
 (f_X11_isSeed T v3 M).bind fun x11 =>
 if x11 = 0 then
 (f_X11_refuse T 2 M).bind fun x26 =>
 some (x26.1, x26.2) else
 (some (aup M 58 3 v3)).bind fun m14 =>
 (f_X0_spanByDraws T v1 v2 m14).bind fun x16 =>
 (f_X11_orNo T x16.1 x16.2).bind fun x20 =>
 (f_X11_allow T x20 x16.2).bind fun x22 =>
 some (x22.1, x22.2)
theorem t_X11_farBy {T : T3} {v1 : Int} {v2 : Int} {v3 : Int} {M : aM} {y : (Int × aM)}  (hS : Sh T.1 M) (h : f_X11_farBy T.1 v1 v2 v3 M = some y) : Mr 4 157 [(2, ((0 : Nat) : Int)), (0, v1), (0, v2), (0, v3)] M (some (0, y.1)) y.2 T ∧ Sh T.1 y.2 := by
  have key : ∀ d, 4 ≤ d → Wp d 157 0 [] [(2, ((0 : Nat) : Int)), (0, v1), (0, v2), (0, v3)] [] (M, T) (fun r2 σ2 => r2 = some (0, y.1) ∧ σ2 = (y.2, T) ∧ Sh T.1 y.2) := by
    intro d hd
    rw [f_X11_farBy] at h
    refine y_blk (t := 0) rfl (show fnd bk_X11_farBy 0 = some _ from rfl) aB_X11_farBy ?_
    refine wp_aload_n (v := ((0 : Nat) : Int)) rfl (Int.natCast_nonneg _) ?_
    refine wp_iload_n (v := v1) rfl ?_
    obtain ⟨x1, e2, h⟩ := d_bind h
    refine y_callV (as := [(0, v1)]) (S1 := []) (Nat.le_of_ble_eq_true rfl) (by omega) (t_X11_isCave hS e2) (Nat.le_of_ble_eq_true rfl) rfl (show ash 0 = (11, 15) from rfl) (Nat.lt_of_lt_of_le (show 0 < 154 by decide) hS.1.1) (Nat.le_of_ble_eq_true rfl) (Nat.le_of_ble_eq_true rfl) rfl ?_
    refine wp_if_eq (fun c3 => ?_) (fun c3 => ?_)
    · rw [if_pos c3] at h
      refine y_blk (t := 16) rfl (show fnd bk_X11_farBy 16 = some _ from rfl) aB_X11_farBy ?_
      refine wp_aload_n (v := ((0 : Nat) : Int)) rfl (Int.natCast_nonneg _) ?_
      refine wp_iconst ⟨by decide, by decide⟩ ?_
      obtain ⟨x4, e5, h⟩ := d_bind h
      obtain ⟨r6, s7⟩ := t_X11_refuse hS e5
      refine y_callV (as := [(0, 1)]) (S1 := []) (Nat.le_of_ble_eq_true rfl) (by omega) r6 (Nat.le_of_ble_eq_true rfl) rfl (show ash 0 = (11, 15) from rfl) (Nat.lt_of_lt_of_le (show 0 < 154 by decide) hS.1.1) (Nat.le_of_ble_eq_true rfl) (Nat.le_of_ble_eq_true rfl) rfl ?_
      cases h
      exact y_ret0 (Or.inl rfl) ⟨rfl, rfl, s7⟩
    · rw [if_neg c3] at h
      refine wp_aload_n (v := ((0 : Nat) : Int)) rfl (Int.natCast_nonneg _) ?_
      refine wp_iload_n (v := v2) rfl ?_
      obtain ⟨x8, e9, h⟩ := d_bind h
      refine y_callV (as := [(0, v2)]) (S1 := []) (Nat.le_of_ble_eq_true rfl) (by omega) (t_X11_isCave hS e9) (Nat.le_of_ble_eq_true rfl) rfl (show ash 0 = (11, 15) from rfl) (Nat.lt_of_lt_of_le (show 0 < 154 by decide) hS.1.1) (Nat.le_of_ble_eq_true rfl) (Nat.le_of_ble_eq_true rfl) rfl ?_
      refine y_nez (fun c10 => ?_) (fun c10 => ?_)
      · rw [if_neg c10] at h
        refine y_blk (t := 22) rfl (show fnd bk_X11_farBy 22 = some _ from rfl) aB_X11_farBy ?_
        refine wp_iload_n (v := v3) rfl ?_
        obtain ⟨x11, e12, h⟩ := d_bind h
        refine y_callS (as := [(0, v3)]) (S1 := []) (Nat.le_of_ble_eq_true rfl) (by omega) (t_X11_isSeed hS e12) (Nat.le_of_ble_eq_true rfl) rfl (Nat.le_of_ble_eq_true rfl) (Nat.le_of_ble_eq_true rfl) rfl ?_
        refine y_nez (fun c13 => ?_) (fun c13 => ?_)
        · rw [if_neg c13] at h
          refine y_blk (t := 35) rfl (show fnd bk_X11_farBy 35 = some _ from rfl) aB_X11_farBy ?_
          refine wp_aload_n (v := ((0 : Nat) : Int)) rfl (Int.natCast_nonneg _) ?_
          refine y_get (show ash 0 = (11, 15) from rfl) (Nat.lt_of_lt_of_le (show 0 < 154 by decide) hS.1.1) (v := ((58 : Nat) : Int)) (hS.at 0 12 58 (by decide +kernel)) rfl ?_
          refine wp_iload_n (v := v3) rfl ?_
          refine y_put (show ash 58 = (0, 4) from rfl) (Nat.lt_of_lt_of_le (show 58 < 154 by decide) hS.1.1) rfl ?_
          obtain ⟨m14, em14, h⟩ := d_bind h
          have em14 := Option.some.inj em14
          have s15 : Sh T.1 m14 := em14 ▸ hS.up (Or.inr ⟨by rw [(show ash 58 = (0, 4) from rfl)]; decide, by rw [(show ash 58 = (0, 4) from rfl)]; decide⟩) (by have := (Nat.lt_of_lt_of_le (show 58 < 154 by decide) hS.1.1); have := hS.1.2; omega)
          rw [em14]
          refine wp_aload_n (v := ((0 : Nat) : Int)) rfl (Int.natCast_nonneg _) ?_
          refine wp_aload_n (v := ((0 : Nat) : Int)) rfl (Int.natCast_nonneg _) ?_
          refine y_get (show ash 0 = (11, 15) from rfl) (Nat.lt_of_lt_of_le (show 0 < 154 by decide) hS.1.1) (v := ((58 : Nat) : Int)) (s15.at 0 12 58 (by decide +kernel)) rfl ?_
          refine wp_iload_n (v := v1) rfl ?_
          refine wp_iload_n (v := v2) rfl ?_
          obtain ⟨x16, e17, h⟩ := d_bind h
          obtain ⟨r18, s19⟩ := t_X0_spanByDraws s15 e17
          refine y_callV (as := [(0, v1), (0, v2)]) (S1 := [(2, ((0 : Nat) : Int))]) (Nat.le_of_ble_eq_true rfl) (by omega) r18 (Nat.le_of_ble_eq_true rfl) rfl (show ash 58 = (0, 4) from rfl) (Nat.lt_of_lt_of_le (show 58 < 154 by decide) hS.1.1) (Nat.le_of_ble_eq_true rfl) (Nat.le_of_ble_eq_true rfl) rfl ?_
          obtain ⟨x20, e21, h⟩ := d_bind h
          refine y_callS (as := [(0, x16.1)]) (S1 := [(2, ((0 : Nat) : Int))]) (Nat.le_of_ble_eq_true rfl) (by omega) (t_X11_orNo s19 e21) (Nat.le_of_ble_eq_true rfl) rfl (Nat.le_of_ble_eq_true rfl) (Nat.le_of_ble_eq_true rfl) rfl ?_
          obtain ⟨x22, e23, h⟩ := d_bind h
          obtain ⟨r24, s25⟩ := t_X11_allow s19 e23
          refine y_callV (as := [(0, x20)]) (S1 := []) (Nat.le_of_ble_eq_true rfl) (by omega) r24 (Nat.le_of_ble_eq_true rfl) rfl (show ash 0 = (11, 15) from rfl) (Nat.lt_of_lt_of_le (show 0 < 154 by decide) hS.1.1) (Nat.le_of_ble_eq_true rfl) (Nat.le_of_ble_eq_true rfl) rfl ?_
          cases h
          exact y_ret0 (Or.inl rfl) ⟨rfl, rfl, s25⟩
        · rw [if_pos c13] at h
          refine wp_aload_n (v := ((0 : Nat) : Int)) rfl (Int.natCast_nonneg _) ?_
          refine wp_iconst ⟨by decide, by decide⟩ ?_
          obtain ⟨x26, e27, h⟩ := d_bind h
          obtain ⟨r28, s29⟩ := t_X11_refuse hS e27
          refine y_callV (as := [(0, 2)]) (S1 := []) (Nat.le_of_ble_eq_true rfl) (by omega) r28 (Nat.le_of_ble_eq_true rfl) rfl (show ash 0 = (11, 15) from rfl) (Nat.lt_of_lt_of_le (show 0 < 154 by decide) hS.1.1) (Nat.le_of_ble_eq_true rfl) (Nat.le_of_ble_eq_true rfl) rfl ?_
          cases h
          exact y_ret0 (Or.inl rfl) ⟨rfl, rfl, s29⟩
      · rw [if_pos c10] at h
        refine y_blk (t := 16) rfl (show fnd bk_X11_farBy 16 = some _ from rfl) aB_X11_farBy ?_
        refine wp_aload_n (v := ((0 : Nat) : Int)) rfl (Int.natCast_nonneg _) ?_
        refine wp_iconst ⟨by decide, by decide⟩ ?_
        obtain ⟨x30, e31, h⟩ := d_bind h
        obtain ⟨r32, s33⟩ := t_X11_refuse hS e31
        refine y_callV (as := [(0, 1)]) (S1 := []) (Nat.le_of_ble_eq_true rfl) (by omega) r32 (Nat.le_of_ble_eq_true rfl) rfl (show ash 0 = (11, 15) from rfl) (Nat.lt_of_lt_of_le (show 0 < 154 by decide) hS.1.1) (Nat.le_of_ble_eq_true rfl) (Nat.le_of_ble_eq_true rfl) rfl ?_
        cases h
        exact y_ret0 (Or.inl rfl) ⟨rfl, rfl, s33⟩
  exact ⟨fun d hd => Ms.of3 (key d hd), Ms.sh (key 4 (Nat.le_refl _))⟩
theorem aB_X11_open : ∀ pc, aB 158 pc = fnd bk_X11_open pc := fun _ => rfl
def l_X11_open_61 (T : Nat) (v1 : Int) (v2 : Int) (v4 : Int) (k : Int → Int → aM → Option (Int × aM)) : Nat → Int → Int → aM → Option (Int × aM)
| 0, _, _, _ => none
| n + 1, v5, v6, M =>
 if v4 ≤ v6 then
 k v5 v6 M else
 (f_X0_spanByDraws T v1 v2 M).bind fun x27 =>
 if 1000000 ≤ x27.1 then
 if aIn (v6 + 1) then
 l_X11_open_61 T v1 v2 v4 k n v5 (v6 + 1) x27.2 else none else
 if aIn (v5 + 1) then
 if aIn (v6 + 1) then
 l_X11_open_61 T v1 v2 v4 k n (v5 + 1) (v6 + 1) x27.2 else none else none
theorem tl_X11_open_61 {d : Nat} (hd : 4 ≤ d) {T : T3} {v1 : Int} {v2 : Int} {v4 : Int} {k : Int → Int → aM → Option (Int × aM)} {y : (Int × aM)}  {M0 : aM} (hS : Sh T.1 M0)
    (hk : ∀ (v5 v6 : Int) (u3 : aV) (M : aM), Sh T.1 M → k v5 v6 M = some y → Wp d 158 91 [] [(2, ((0 : Nat) : Int)), (0, v1), (0, v2), u3, (0, v4), (0, v5), (0, v6)] [] (M, T) (fun r2 σ2 => r2 = some (0, y.1) ∧ σ2 = (y.2, T) ∧ Sh T.1 y.2)) :
    ∀ (n : Nat) (v5 v6 : Int) (u3 : aV) (M : aM), Sh T.1 M → l_X11_open_61 T.1 v1 v2 v4 k n v5 v6 M = some y → Wp d 158 61 [] [(2, ((0 : Nat) : Int)), (0, v1), (0, v2), u3, (0, v4), (0, v5), (0, v6)] [] (M, T) (fun r2 σ2 => r2 = some (0, y.1) ∧ σ2 = (y.2, T) ∧ Sh T.1 y.2) := by
  intro n
  induction n with
  | zero =>
    intro v5 v6 u3 M _ h
    exact nomatch (show (none : Option (Int × aM)) = some y from h)
  | succ n ih =>
    intro v5 v6 u3 M sM h
    rw [l_X11_open_61] at h
    refine y_blk (t := 61) rfl (show fnd bk_X11_open 61 = some _ from rfl) aB_X11_open ?_
    refine wp_iload (v := v6) rfl ?_
    refine wp_iload (v := v4) rfl ?_
    refine wp_icmp_ge (fun c26 => ?_) (fun c26 => ?_)
    · rw [if_pos c26] at h
      exact hk v5 v6 u3 M sM h
    · rw [if_neg c26] at h
      refine wp_aload_n (v := ((0 : Nat) : Int)) rfl (Int.natCast_nonneg _) ?_
      refine y_get (show ash 0 = (11, 15) from rfl) (Nat.lt_of_lt_of_le (show 0 < 154 by decide) hS.1.1) (v := ((58 : Nat) : Int)) (sM.at 0 12 58 (by decide +kernel)) rfl ?_
      refine wp_iload_n (v := v1) rfl ?_
      refine wp_iload_n (v := v2) rfl ?_
      obtain ⟨x27, e28, h⟩ := d_bind h
      obtain ⟨r29, s30⟩ := t_X0_spanByDraws sM e28
      refine y_callV (as := [(0, v1), (0, v2)]) (S1 := []) (Nat.le_of_ble_eq_true rfl) (by omega) r29 (Nat.le_of_ble_eq_true rfl) rfl (show ash 58 = (0, 4) from rfl) (Nat.lt_of_lt_of_le (show 58 < 154 by decide) hS.1.1) (Nat.le_of_ble_eq_true rfl) (Nat.le_of_ble_eq_true rfl) rfl ?_
      refine y_ldc (v := 1000000) (by decide) rfl ?_
      refine wp_icmp_ge (fun c31 => ?_) (fun c31 => ?_)
      · rw [if_pos c31] at h
        refine y_blk (t := 85) rfl (show fnd bk_X11_open 85 = some _ from rfl) aB_X11_open ?_
        obtain ⟨c32, h⟩ := d_ite h
        refine y_iinc (L1 := [(2, ((0 : Nat) : Int)), (0, v1), (0, v2), u3, (0, v4), (0, v5), (0, (v6 + 1))]) rfl (Nat.le_of_ble_eq_true rfl) ⟨by decide, by decide⟩ c32 rfl ?_
        refine wp_goto ?_
        exact ih v5 (v6 + 1) u3 x27.2 s30 h
      · rw [if_neg c31] at h
        obtain ⟨c33, h⟩ := d_ite h
        refine y_iinc (L1 := [(2, ((0 : Nat) : Int)), (0, v1), (0, v2), u3, (0, v4), (0, (v5 + 1)), (0, v6)]) rfl (Nat.le_of_ble_eq_true rfl) ⟨by decide, by decide⟩ c33 rfl ?_
        refine y_blk (t := 85) rfl (show fnd bk_X11_open 85 = some _ from rfl) aB_X11_open ?_
        obtain ⟨c34, h⟩ := d_ite h
        refine y_iinc (L1 := [(2, ((0 : Nat) : Int)), (0, v1), (0, v2), u3, (0, v4), (0, (v5 + 1)), (0, (v6 + 1))]) rfl (Nat.le_of_ble_eq_true rfl) ⟨by decide, by decide⟩ c34 rfl ?_
        refine wp_goto ?_
        exact ih (v5 + 1) (v6 + 1) u3 x27.2 s30 h
def f_X11_open (T : Nat) (v1 : Int) (v2 : Int) (v3 : Int) (v4 : Int) (M : aM) : Option (Int × aM) :=
 (f_X11_isCave T v1 M).bind fun x1 =>
 if x1 = 0 then
 (f_X11_refuse T 1 M).bind fun x4 =>
 some (x4.1, x4.2) else
 (f_X11_isCave T v2 M).bind fun x8 =>
 if x8 = 0 then
 (f_X11_refuse T 1 M).bind fun x48 =>
 some (x48.1, x48.2) else
 (f_X11_isSeed T v3 M).bind fun x11 =>
 if x11 = 0 then
 (f_X11_refuse T 2 M).bind fun x14 =>
 some (x14.1, x14.2) else
 if v4 < 0 then
 (f_X11_refuse T 2 M).bind fun x19 =>
 some (x19.1, x19.2) else
 if v4 ≤ 60 then
 (some (aup M 58 3 v3)).bind fun m24 =>
 l_X11_open_61 T v1 v2 v4 (fun w35 w36 m38 =>
 (f_X11_allow T w35 m38).bind fun x40 =>
 some (x40.1, x40.2)) FU 0 0 m24 else
 (f_X11_refuse T 2 M).bind fun x44 =>
 some (x44.1, x44.2)
theorem t_X11_open {T : T3} {v1 : Int} {v2 : Int} {v3 : Int} {v4 : Int} {M : aM} {y : (Int × aM)}  (hS : Sh T.1 M) (h : f_X11_open T.1 v1 v2 v3 v4 M = some y) : Mr 4 158 [(2, ((0 : Nat) : Int)), (0, v1), (0, v2), (0, v3), (0, v4)] M (some (0, y.1)) y.2 T ∧ Sh T.1 y.2 := by
  have key : ∀ d, 4 ≤ d → Wp d 158 0 [] [(2, ((0 : Nat) : Int)), (0, v1), (0, v2), (0, v3), (0, v4), (9, 0), (9, 0)] [] (M, T) (fun r2 σ2 => r2 = some (0, y.1) ∧ σ2 = (y.2, T) ∧ Sh T.1 y.2) := by
    intro d hd
    rw [f_X11_open] at h
    refine y_blk (t := 0) rfl (show fnd bk_X11_open 0 = some _ from rfl) aB_X11_open ?_
    refine wp_aload_n (v := ((0 : Nat) : Int)) rfl (Int.natCast_nonneg _) ?_
    refine wp_iload_n (v := v1) rfl ?_
    obtain ⟨x1, e2, h⟩ := d_bind h
    refine y_callV (as := [(0, v1)]) (S1 := []) (Nat.le_of_ble_eq_true rfl) (by omega) (t_X11_isCave hS e2) (Nat.le_of_ble_eq_true rfl) rfl (show ash 0 = (11, 15) from rfl) (Nat.lt_of_lt_of_le (show 0 < 154 by decide) hS.1.1) (Nat.le_of_ble_eq_true rfl) (Nat.le_of_ble_eq_true rfl) rfl ?_
    refine wp_if_eq (fun c3 => ?_) (fun c3 => ?_)
    · rw [if_pos c3] at h
      refine y_blk (t := 16) rfl (show fnd bk_X11_open 16 = some _ from rfl) aB_X11_open ?_
      refine wp_aload_n (v := ((0 : Nat) : Int)) rfl (Int.natCast_nonneg _) ?_
      refine wp_iconst ⟨by decide, by decide⟩ ?_
      obtain ⟨x4, e5, h⟩ := d_bind h
      obtain ⟨r6, s7⟩ := t_X11_refuse hS e5
      refine y_callV (as := [(0, 1)]) (S1 := []) (Nat.le_of_ble_eq_true rfl) (by omega) r6 (Nat.le_of_ble_eq_true rfl) rfl (show ash 0 = (11, 15) from rfl) (Nat.lt_of_lt_of_le (show 0 < 154 by decide) hS.1.1) (Nat.le_of_ble_eq_true rfl) (Nat.le_of_ble_eq_true rfl) rfl ?_
      cases h
      exact y_ret0 (Or.inl rfl) ⟨rfl, rfl, s7⟩
    · rw [if_neg c3] at h
      refine wp_aload_n (v := ((0 : Nat) : Int)) rfl (Int.natCast_nonneg _) ?_
      refine wp_iload_n (v := v2) rfl ?_
      obtain ⟨x8, e9, h⟩ := d_bind h
      refine y_callV (as := [(0, v2)]) (S1 := []) (Nat.le_of_ble_eq_true rfl) (by omega) (t_X11_isCave hS e9) (Nat.le_of_ble_eq_true rfl) rfl (show ash 0 = (11, 15) from rfl) (Nat.lt_of_lt_of_le (show 0 < 154 by decide) hS.1.1) (Nat.le_of_ble_eq_true rfl) (Nat.le_of_ble_eq_true rfl) rfl ?_
      refine y_nez (fun c10 => ?_) (fun c10 => ?_)
      · rw [if_neg c10] at h
        refine y_blk (t := 22) rfl (show fnd bk_X11_open 22 = some _ from rfl) aB_X11_open ?_
        refine wp_iload_n (v := v3) rfl ?_
        obtain ⟨x11, e12, h⟩ := d_bind h
        refine y_callS (as := [(0, v3)]) (S1 := []) (Nat.le_of_ble_eq_true rfl) (by omega) (t_X11_isSeed hS e12) (Nat.le_of_ble_eq_true rfl) rfl (Nat.le_of_ble_eq_true rfl) (Nat.le_of_ble_eq_true rfl) rfl ?_
        refine wp_if_eq (fun c13 => ?_) (fun c13 => ?_)
        · rw [if_pos c13] at h
          refine y_blk (t := 41) rfl (show fnd bk_X11_open 41 = some _ from rfl) aB_X11_open ?_
          refine wp_aload_n (v := ((0 : Nat) : Int)) rfl (Int.natCast_nonneg _) ?_
          refine wp_iconst ⟨by decide, by decide⟩ ?_
          obtain ⟨x14, e15, h⟩ := d_bind h
          obtain ⟨r16, s17⟩ := t_X11_refuse hS e15
          refine y_callV (as := [(0, 2)]) (S1 := []) (Nat.le_of_ble_eq_true rfl) (by omega) r16 (Nat.le_of_ble_eq_true rfl) rfl (show ash 0 = (11, 15) from rfl) (Nat.lt_of_lt_of_le (show 0 < 154 by decide) hS.1.1) (Nat.le_of_ble_eq_true rfl) (Nat.le_of_ble_eq_true rfl) rfl ?_
          cases h
          exact y_ret0 (Or.inl rfl) ⟨rfl, rfl, s17⟩
        · rw [if_neg c13] at h
          refine wp_iload (v := v4) rfl ?_
          refine wp_if_lt (fun c18 => ?_) (fun c18 => ?_)
          · rw [if_pos c18] at h
            refine y_blk (t := 41) rfl (show fnd bk_X11_open 41 = some _ from rfl) aB_X11_open ?_
            refine wp_aload_n (v := ((0 : Nat) : Int)) rfl (Int.natCast_nonneg _) ?_
            refine wp_iconst ⟨by decide, by decide⟩ ?_
            obtain ⟨x19, e20, h⟩ := d_bind h
            obtain ⟨r21, s22⟩ := t_X11_refuse hS e20
            refine y_callV (as := [(0, 2)]) (S1 := []) (Nat.le_of_ble_eq_true rfl) (by omega) r21 (Nat.le_of_ble_eq_true rfl) rfl (show ash 0 = (11, 15) from rfl) (Nat.lt_of_lt_of_le (show 0 < 154 by decide) hS.1.1) (Nat.le_of_ble_eq_true rfl) (Nat.le_of_ble_eq_true rfl) rfl ?_
            cases h
            exact y_ret0 (Or.inl rfl) ⟨rfl, rfl, s22⟩
          · rw [if_neg c18] at h
            refine wp_iload (v := v4) rfl ?_
            refine wp_bipush (by decide) ?_
            refine wp_icmp_le (fun c23 => ?_) (fun c23 => ?_)
            · rw [if_pos c23] at h
              refine y_blk (t := 47) rfl (show fnd bk_X11_open 47 = some _ from rfl) aB_X11_open ?_
              refine wp_aload_n (v := ((0 : Nat) : Int)) rfl (Int.natCast_nonneg _) ?_
              refine y_get (show ash 0 = (11, 15) from rfl) (Nat.lt_of_lt_of_le (show 0 < 154 by decide) hS.1.1) (v := ((58 : Nat) : Int)) (hS.at 0 12 58 (by decide +kernel)) rfl ?_
              refine wp_iload_n (v := v3) rfl ?_
              refine y_put (show ash 58 = (0, 4) from rfl) (Nat.lt_of_lt_of_le (show 58 < 154 by decide) hS.1.1) rfl ?_
              obtain ⟨m24, em24, h⟩ := d_bind h
              have em24 := Option.some.inj em24
              have s25 : Sh T.1 m24 := em24 ▸ hS.up (Or.inr ⟨by rw [(show ash 58 = (0, 4) from rfl)]; decide, by rw [(show ash 58 = (0, 4) from rfl)]; decide⟩) (by have := (Nat.lt_of_lt_of_le (show 58 < 154 by decide) hS.1.1); have := hS.1.2; omega)
              rw [em24]
              refine wp_iconst ⟨by decide, by decide⟩ ?_
              refine y_st (L1 := [(2, ((0 : Nat) : Int)), (0, v1), (0, v2), (0, v3), (0, v4), (0, 0), (9, 0)]) (Nat.le_of_ble_eq_true rfl) rfl ?_
              refine wp_iconst ⟨by decide, by decide⟩ ?_
              refine y_st (L1 := [(2, ((0 : Nat) : Int)), (0, v1), (0, v2), (0, v3), (0, v4), (0, 0), (0, 0)]) (Nat.le_of_ble_eq_true rfl) rfl ?_
              refine tl_X11_open_61 (by omega) hS (fun w35 w36 u37 m38 s39 h => ?_) FU 0 0 (0, v3) m24 s25 h
              refine y_blk (t := 91) rfl (show fnd bk_X11_open 91 = some _ from rfl) aB_X11_open ?_
              refine wp_aload_n (v := ((0 : Nat) : Int)) rfl (Int.natCast_nonneg _) ?_
              refine wp_iload (v := w35) rfl ?_
              obtain ⟨x40, e41, h⟩ := d_bind h
              obtain ⟨r42, s43⟩ := t_X11_allow s39 e41
              refine y_callV (as := [(0, w35)]) (S1 := []) (Nat.le_of_ble_eq_true rfl) (by omega) r42 (Nat.le_of_ble_eq_true rfl) rfl (show ash 0 = (11, 15) from rfl) (Nat.lt_of_lt_of_le (show 0 < 154 by decide) hS.1.1) (Nat.le_of_ble_eq_true rfl) (Nat.le_of_ble_eq_true rfl) rfl ?_
              cases h
              exact y_ret0 (Or.inl rfl) ⟨rfl, rfl, s43⟩
            · rw [if_neg c23] at h
              refine y_blk (t := 41) rfl (show fnd bk_X11_open 41 = some _ from rfl) aB_X11_open ?_
              refine wp_aload_n (v := ((0 : Nat) : Int)) rfl (Int.natCast_nonneg _) ?_
              refine wp_iconst ⟨by decide, by decide⟩ ?_
              obtain ⟨x44, e45, h⟩ := d_bind h
              obtain ⟨r46, s47⟩ := t_X11_refuse hS e45
              refine y_callV (as := [(0, 2)]) (S1 := []) (Nat.le_of_ble_eq_true rfl) (by omega) r46 (Nat.le_of_ble_eq_true rfl) rfl (show ash 0 = (11, 15) from rfl) (Nat.lt_of_lt_of_le (show 0 < 154 by decide) hS.1.1) (Nat.le_of_ble_eq_true rfl) (Nat.le_of_ble_eq_true rfl) rfl ?_
              cases h
              exact y_ret0 (Or.inl rfl) ⟨rfl, rfl, s47⟩
      · rw [if_pos c10] at h
        refine y_blk (t := 16) rfl (show fnd bk_X11_open 16 = some _ from rfl) aB_X11_open ?_
        refine wp_aload_n (v := ((0 : Nat) : Int)) rfl (Int.natCast_nonneg _) ?_
        refine wp_iconst ⟨by decide, by decide⟩ ?_
        obtain ⟨x48, e49, h⟩ := d_bind h
        obtain ⟨r50, s51⟩ := t_X11_refuse hS e49
        refine y_callV (as := [(0, 1)]) (S1 := []) (Nat.le_of_ble_eq_true rfl) (by omega) r50 (Nat.le_of_ble_eq_true rfl) rfl (show ash 0 = (11, 15) from rfl) (Nat.lt_of_lt_of_le (show 0 < 154 by decide) hS.1.1) (Nat.le_of_ble_eq_true rfl) (Nat.le_of_ble_eq_true rfl) rfl ?_
        cases h
        exact y_ret0 (Or.inl rfl) ⟨rfl, rfl, s51⟩
  exact ⟨fun d hd => Ms.of3 (key d hd), Ms.sh (key 4 (Nat.le_refl _))⟩
theorem aB_X11_year : ∀ pc, aB 159 pc = fnd bk_X11_year pc := fun _ => rfl
def l_X11_year_47 (T : Nat)  (k : Int → Int → aM → Option (Int × aM)) : Nat → Int → Int → aM → Option (Int × aM)
| 0, _, _, _ => none
| n + 1, v1, v2, M =>
 if (M 3 3) ≤ v2 then
 k v1 v2 M else
 if 0 ≤ v2 ∧ v2 < 3 then
 (f_X1_yearStep T (M 8 (v2).toNat) (M 36 (v2).toNat) (M 37 (v2).toNat) M).bind fun x11 =>
 (f_X8_moveVoice T 35 v2 x11 M).bind fun x13 =>
 if x13.1 = 0 then
 if aIn (v2 + 1) then
 l_X11_year_47 T k n v1 (v2 + 1) x13.2 else none else
 if aIn (v2 + 1) then
 l_X11_year_47 T k n (aor v1 (ashl 1 v2)) (v2 + 1) x13.2 else none else none
theorem tl_X11_year_47 {d : Nat} (hd : 4 ≤ d) {T : T3}  {k : Int → Int → aM → Option (Int × aM)} {y : (Int × aM)}  {M0 : aM} (hS : Sh T.1 M0)
    (hk : ∀ (v1 v2 : Int) (M : aM), Sh T.1 M → k v1 v2 M = some y → Wp d 159 117 [] [(2, ((0 : Nat) : Int)), (0, v1), (0, v2)] [] (M, T) (fun r2 σ2 => r2 = some (0, y.1) ∧ σ2 = (y.2, T) ∧ Sh T.1 y.2)) :
    ∀ (n : Nat) (v1 v2 : Int) (M : aM), Sh T.1 M → l_X11_year_47 T.1 k n v1 v2 M = some y → Wp d 159 47 [] [(2, ((0 : Nat) : Int)), (0, v1), (0, v2)] [] (M, T) (fun r2 σ2 => r2 = some (0, y.1) ∧ σ2 = (y.2, T) ∧ Sh T.1 y.2) := by
  intro n
  induction n with
  | zero =>
    intro v1 v2 M _ h
    exact nomatch (show (none : Option (Int × aM)) = some y from h)
  | succ n ih =>
    intro v1 v2 M sM h
    rw [l_X11_year_47] at h
    refine y_blk (t := 47) rfl (show fnd bk_X11_year 47 = some _ from rfl) aB_X11_year ?_
    refine wp_iload_n (v := v2) rfl ?_
    refine wp_aload_n (v := ((0 : Nat) : Int)) rfl (Int.natCast_nonneg _) ?_
    refine y_get (show ash 0 = (11, 15) from rfl) (Nat.lt_of_lt_of_le (show 0 < 154 by decide) hS.1.1) (v := ((2 : Nat) : Int)) (sM.at 0 2 2 (by decide +kernel)) rfl ?_
    refine y_get (show ash 2 = (10, 19) from rfl) (Nat.lt_of_lt_of_le (show 2 < 154 by decide) hS.1.1) (v := ((3 : Nat) : Int)) (sM.at 2 3 3 (by decide +kernel)) rfl ?_
    refine wp_iconst ⟨by decide, by decide⟩ ?_
    refine y_iald (show ash 3 = (100, 8) from rfl) (Or.inl (Nat.lt_of_lt_of_le (show 3 < 154 by decide) hS.1.1)) (Nat.ne_of_lt (Nat.lt_of_lt_of_le (Nat.lt_of_lt_of_le (show 3 < 154 by decide) hS.1.1) hS.1.2)) ⟨by decide, by decide⟩ (v := M 3 3) rfl ?_
    refine wp_icmp_ge (fun c9 => ?_) (fun c9 => ?_)
    · rw [if_pos c9] at h
      exact hk v1 v2  M sM h
    · rw [if_neg c9] at h
      refine wp_aload_n (v := ((0 : Nat) : Int)) rfl (Int.natCast_nonneg _) ?_
      refine y_get (show ash 0 = (11, 15) from rfl) (Nat.lt_of_lt_of_le (show 0 < 154 by decide) hS.1.1) (v := ((35 : Nat) : Int)) (sM.at 0 4 35 (by decide +kernel)) rfl ?_
      refine wp_iload_n (v := v2) rfl ?_
      refine wp_aload_n (v := ((0 : Nat) : Int)) rfl (Int.natCast_nonneg _) ?_
      refine y_get (show ash 0 = (11, 15) from rfl) (Nat.lt_of_lt_of_le (show 0 < 154 by decide) hS.1.1) (v := ((48 : Nat) : Int)) (sM.at 0 8 48 (by decide +kernel)) rfl ?_
      refine wp_aload_n (v := ((0 : Nat) : Int)) rfl (Int.natCast_nonneg _) ?_
      refine y_get (show ash 0 = (11, 15) from rfl) (Nat.lt_of_lt_of_le (show 0 < 154 by decide) hS.1.1) (v := ((2 : Nat) : Int)) (sM.at 0 2 2 (by decide +kernel)) rfl ?_
      refine y_get (show ash 2 = (10, 19) from rfl) (Nat.lt_of_lt_of_le (show 2 < 154 by decide) hS.1.1) (v := ((8 : Nat) : Int)) (sM.at 2 10 8 (by decide +kernel)) rfl ?_
      refine wp_iload_n (v := v2) rfl ?_
      obtain ⟨c10, h⟩ := d_ite h
      refine y_iald (show ash 8 = (100, 3) from rfl) (Or.inl (Nat.lt_of_lt_of_le (show 8 < 154 by decide) hS.1.1)) (Nat.ne_of_lt (Nat.lt_of_lt_of_le (Nat.lt_of_lt_of_le (show 8 < 154 by decide) hS.1.1) hS.1.2)) c10 (v := M 8 (v2).toNat) rfl ?_
      refine wp_aload_n (v := ((0 : Nat) : Int)) rfl (Int.natCast_nonneg _) ?_
      refine y_get (show ash 0 = (11, 15) from rfl) (Nat.lt_of_lt_of_le (show 0 < 154 by decide) hS.1.1) (v := ((35 : Nat) : Int)) (sM.at 0 4 35 (by decide +kernel)) rfl ?_
      refine y_get (show ash 35 = (8, 5) from rfl) (Nat.lt_of_lt_of_le (show 35 < 154 by decide) hS.1.1) (v := ((36 : Nat) : Int)) (sM.at 35 0 36 (by decide +kernel)) rfl ?_
      refine wp_iload_n (v := v2) rfl ?_
      refine y_iald (show ash 36 = (100, 3) from rfl) (Or.inl (Nat.lt_of_lt_of_le (show 36 < 154 by decide) hS.1.1)) (Nat.ne_of_lt (Nat.lt_of_lt_of_le (Nat.lt_of_lt_of_le (show 36 < 154 by decide) hS.1.1) hS.1.2)) c10 (v := M 36 (v2).toNat) rfl ?_
      refine wp_aload_n (v := ((0 : Nat) : Int)) rfl (Int.natCast_nonneg _) ?_
      refine y_get (show ash 0 = (11, 15) from rfl) (Nat.lt_of_lt_of_le (show 0 < 154 by decide) hS.1.1) (v := ((35 : Nat) : Int)) (sM.at 0 4 35 (by decide +kernel)) rfl ?_
      refine y_get (show ash 35 = (8, 5) from rfl) (Nat.lt_of_lt_of_le (show 35 < 154 by decide) hS.1.1) (v := ((37 : Nat) : Int)) (sM.at 35 1 37 (by decide +kernel)) rfl ?_
      refine wp_iload_n (v := v2) rfl ?_
      refine y_iald (show ash 37 = (100, 3) from rfl) (Or.inl (Nat.lt_of_lt_of_le (show 37 < 154 by decide) hS.1.1)) (Nat.ne_of_lt (Nat.lt_of_lt_of_le (Nat.lt_of_lt_of_le (show 37 < 154 by decide) hS.1.1) hS.1.2)) c10 (v := M 37 (v2).toNat) rfl ?_
      obtain ⟨x11, e12, h⟩ := d_bind h
      refine y_callV (as := [(0, (M 8 (v2).toNat)), (0, (M 36 (v2).toNat)), (0, (M 37 (v2).toNat))]) (S1 := [(0, v2), (2, ((35 : Nat) : Int))]) (Nat.le_of_ble_eq_true rfl) (by omega) (t_X1_yearStep sM e12) (Nat.le_of_ble_eq_true rfl) rfl (show ash 48 = (1, 6) from rfl) (Nat.lt_of_lt_of_le (show 48 < 154 by decide) hS.1.1) (Nat.le_of_ble_eq_true rfl) (Nat.le_of_ble_eq_true rfl) rfl ?_
      obtain ⟨x13, e14, h⟩ := d_bind h
      obtain ⟨r15, s16⟩ := t_X8_moveVoice (show isSt 35 by decide) sM e14
      refine y_callV (as := [(0, v2), (0, x11)]) (S1 := []) (Nat.le_of_ble_eq_true rfl) (by omega) r15 (Nat.le_of_ble_eq_true rfl) rfl (show ash 35 = (8, 5) from rfl) (Nat.lt_of_lt_of_le (show 35 < 154 by decide) hS.1.1) (Nat.le_of_ble_eq_true rfl) (Nat.le_of_ble_eq_true rfl) rfl ?_
      refine wp_if_eq (fun c17 => ?_) (fun c17 => ?_)
      · rw [if_pos c17] at h
        refine y_blk (t := 111) rfl (show fnd bk_X11_year 111 = some _ from rfl) aB_X11_year ?_
        obtain ⟨c18, h⟩ := d_ite h
        refine y_iinc (L1 := [(2, ((0 : Nat) : Int)), (0, v1), (0, (v2 + 1))]) rfl (Nat.le_of_ble_eq_true rfl) ⟨by decide, by decide⟩ c18 rfl ?_
        refine wp_goto ?_
        exact ih v1 (v2 + 1)  x13.2 s16 h
      · rw [if_neg c17] at h
        refine wp_iload_n (v := v1) rfl ?_
        refine wp_iconst ⟨by decide, by decide⟩ ?_
        refine wp_iload_n (v := v2) rfl ?_
        refine wp_ishl ?_
        refine wp_ior ?_
        refine y_stn (L1 := [(2, ((0 : Nat) : Int)), (0, (aor v1 (ashl 1 v2))), (0, v2)]) (Nat.le_of_ble_eq_true rfl) rfl ?_
        refine y_blk (t := 111) rfl (show fnd bk_X11_year 111 = some _ from rfl) aB_X11_year ?_
        obtain ⟨c19, h⟩ := d_ite h
        refine y_iinc (L1 := [(2, ((0 : Nat) : Int)), (0, (aor v1 (ashl 1 v2))), (0, (v2 + 1))]) rfl (Nat.le_of_ble_eq_true rfl) ⟨by decide, by decide⟩ c19 rfl ?_
        refine wp_goto ?_
        exact ih (aor v1 (ashl 1 v2)) (v2 + 1)  x13.2 s16 h
def f_X11_year (T : Nat)  (M : aM) : Option (Int × aM) :=
 (f_X11_hasWell T M).bind fun x1 =>
 if x1 = 0 then
 (f_X11_refuse T 1 M).bind fun x35 =>
 some (x35.1, x35.2) else
 if (M 35 4) < 999 then
 (f_X4_keep T 35 M).bind fun x5 =>
 l_X11_year_47 T (fun w20 w21 m22 =>
 if aIn ((m22 35 4) + 1) then
 (some (aup m22 35 4 ((m22 35 4) + 1))).bind fun m25 =>
 (f_X11_allow T w20 m25).bind fun x27 =>
 some (x27.1, x27.2) else none) FU 0 0 x5.2 else
 (f_X11_refuse T 3 M).bind fun x31 =>
 some (x31.1, x31.2)
theorem t_X11_year {T : T3}  {M : aM} {y : (Int × aM)}  (hS : Sh T.1 M) (h : f_X11_year T.1  M = some y) : Mr 4 159 [(2, ((0 : Nat) : Int))] M (some (0, y.1)) y.2 T ∧ Sh T.1 y.2 := by
  have key : ∀ d, 4 ≤ d → Wp d 159 0 [] [(2, ((0 : Nat) : Int)), (9, 0), (9, 0)] [] (M, T) (fun r2 σ2 => r2 = some (0, y.1) ∧ σ2 = (y.2, T) ∧ Sh T.1 y.2) := by
    intro d hd
    rw [f_X11_year] at h
    refine y_blk (t := 0) rfl (show fnd bk_X11_year 0 = some _ from rfl) aB_X11_year ?_
    refine wp_aload_n (v := ((0 : Nat) : Int)) rfl (Int.natCast_nonneg _) ?_
    obtain ⟨x1, e2, h⟩ := d_bind h
    refine y_callV (as := []) (S1 := []) (Nat.le_of_ble_eq_true rfl) (by omega) (t_X11_hasWell hS e2) (Nat.le_of_ble_eq_true rfl) rfl (show ash 0 = (11, 15) from rfl) (Nat.lt_of_lt_of_le (show 0 < 154 by decide) hS.1.1) (Nat.le_of_ble_eq_true rfl) (Nat.le_of_ble_eq_true rfl) rfl ?_
    refine y_nez (fun c3 => ?_) (fun c3 => ?_)
    · rw [if_neg c3] at h
      refine y_blk (t := 13) rfl (show fnd bk_X11_year 13 = some _ from rfl) aB_X11_year ?_
      refine wp_aload_n (v := ((0 : Nat) : Int)) rfl (Int.natCast_nonneg _) ?_
      refine y_get (show ash 0 = (11, 15) from rfl) (Nat.lt_of_lt_of_le (show 0 < 154 by decide) hS.1.1) (v := ((35 : Nat) : Int)) (hS.at 0 4 35 (by decide +kernel)) rfl ?_
      refine y_get (show ash 35 = (8, 5) from rfl) (Nat.lt_of_lt_of_le (show 35 < 154 by decide) hS.1.1) (v := M 35 4) rfl rfl ?_
      refine wp_sipush (by decide) ?_
      refine wp_icmp_lt (fun c4 => ?_) (fun c4 => ?_)
      · rw [if_pos c4] at h
        refine y_blk (t := 32) rfl (show fnd bk_X11_year 32 = some _ from rfl) aB_X11_year ?_
        refine wp_aload_n (v := ((0 : Nat) : Int)) rfl (Int.natCast_nonneg _) ?_
        refine y_get (show ash 0 = (11, 15) from rfl) (Nat.lt_of_lt_of_le (show 0 < 154 by decide) hS.1.1) (v := ((59 : Nat) : Int)) (hS.at 0 13 59 (by decide +kernel)) rfl ?_
        refine wp_aload_n (v := ((0 : Nat) : Int)) rfl (Int.natCast_nonneg _) ?_
        refine y_get (show ash 0 = (11, 15) from rfl) (Nat.lt_of_lt_of_le (show 0 < 154 by decide) hS.1.1) (v := ((35 : Nat) : Int)) (hS.at 0 4 35 (by decide +kernel)) rfl ?_
        obtain ⟨x5, e6, h⟩ := d_bind h
        obtain ⟨r7, s8⟩ := t_X4_keep (show isSt 35 by decide) hS e6
        refine y_callVv (as := [(2, ((35 : Nat) : Int))]) (S1 := []) (Nat.le_of_ble_eq_true rfl) (by omega) r7 rfl (show ash 59 = (4, 5) from rfl) (Nat.lt_of_lt_of_le (show 59 < 154 by decide) hS.1.1) (Nat.le_of_ble_eq_true rfl) (Nat.le_of_ble_eq_true rfl) rfl ?_
        refine wp_iconst ⟨by decide, by decide⟩ ?_
        refine y_stn (L1 := [(2, ((0 : Nat) : Int)), (0, 0), (9, 0)]) (Nat.le_of_ble_eq_true rfl) rfl ?_
        refine wp_iconst ⟨by decide, by decide⟩ ?_
        refine y_stn (L1 := [(2, ((0 : Nat) : Int)), (0, 0), (0, 0)]) (Nat.le_of_ble_eq_true rfl) rfl ?_
        refine tl_X11_year_47 (by omega) hS (fun w20 w21  m22 s23 h => ?_) FU 0 0  x5.2 s8 h
        refine y_blk (t := 117) rfl (show fnd bk_X11_year 117 = some _ from rfl) aB_X11_year ?_
        refine wp_aload_n (v := ((0 : Nat) : Int)) rfl (Int.natCast_nonneg _) ?_
        refine y_get (show ash 0 = (11, 15) from rfl) (Nat.lt_of_lt_of_le (show 0 < 154 by decide) hS.1.1) (v := ((35 : Nat) : Int)) (s23.at 0 4 35 (by decide +kernel)) rfl ?_
        refine wp_dup (Or.inr rfl) ?_
        refine y_get (show ash 35 = (8, 5) from rfl) (Nat.lt_of_lt_of_le (show 35 < 154 by decide) hS.1.1) (v := m22 35 4) rfl rfl ?_
        refine wp_iconst ⟨by decide, by decide⟩ ?_
        obtain ⟨c24, h⟩ := d_ite h
        refine wp_iadd c24 ?_
        refine y_put (show ash 35 = (8, 5) from rfl) (Nat.lt_of_lt_of_le (show 35 < 154 by decide) hS.1.1) rfl ?_
        obtain ⟨m25, em25, h⟩ := d_bind h
        have em25 := Option.some.inj em25
        have s26 : Sh T.1 m25 := em25 ▸ s23.up (Or.inr ⟨by rw [(show ash 35 = (8, 5) from rfl)]; decide, by rw [(show ash 35 = (8, 5) from rfl)]; decide⟩) (by have := (Nat.lt_of_lt_of_le (show 35 < 154 by decide) hS.1.1); have := hS.1.2; omega)
        rw [em25]
        refine wp_aload_n (v := ((0 : Nat) : Int)) rfl (Int.natCast_nonneg _) ?_
        refine wp_iload_n (v := w20) rfl ?_
        obtain ⟨x27, e28, h⟩ := d_bind h
        obtain ⟨r29, s30⟩ := t_X11_allow s26 e28
        refine y_callV (as := [(0, w20)]) (S1 := []) (Nat.le_of_ble_eq_true rfl) (by omega) r29 (Nat.le_of_ble_eq_true rfl) rfl (show ash 0 = (11, 15) from rfl) (Nat.lt_of_lt_of_le (show 0 < 154 by decide) hS.1.1) (Nat.le_of_ble_eq_true rfl) (Nat.le_of_ble_eq_true rfl) rfl ?_
        cases h
        exact y_ret0 (Or.inl rfl) ⟨rfl, rfl, s30⟩
      · rw [if_neg c4] at h
        refine wp_aload_n (v := ((0 : Nat) : Int)) rfl (Int.natCast_nonneg _) ?_
        refine wp_iconst ⟨by decide, by decide⟩ ?_
        obtain ⟨x31, e32, h⟩ := d_bind h
        obtain ⟨r33, s34⟩ := t_X11_refuse hS e32
        refine y_callV (as := [(0, 3)]) (S1 := []) (Nat.le_of_ble_eq_true rfl) (by omega) r33 (Nat.le_of_ble_eq_true rfl) rfl (show ash 0 = (11, 15) from rfl) (Nat.lt_of_lt_of_le (show 0 < 154 by decide) hS.1.1) (Nat.le_of_ble_eq_true rfl) (Nat.le_of_ble_eq_true rfl) rfl ?_
        cases h
        exact y_ret0 (Or.inl rfl) ⟨rfl, rfl, s34⟩
    · rw [if_pos c3] at h
      refine wp_aload_n (v := ((0 : Nat) : Int)) rfl (Int.natCast_nonneg _) ?_
      refine wp_iconst ⟨by decide, by decide⟩ ?_
      obtain ⟨x35, e36, h⟩ := d_bind h
      obtain ⟨r37, s38⟩ := t_X11_refuse hS e36
      refine y_callV (as := [(0, 1)]) (S1 := []) (Nat.le_of_ble_eq_true rfl) (by omega) r37 (Nat.le_of_ble_eq_true rfl) rfl (show ash 0 = (11, 15) from rfl) (Nat.lt_of_lt_of_le (show 0 < 154 by decide) hS.1.1) (Nat.le_of_ble_eq_true rfl) (Nat.le_of_ble_eq_true rfl) rfl ?_
      cases h
      exact y_ret0 (Or.inl rfl) ⟨rfl, rfl, s38⟩
  exact ⟨fun d hd => Ms.of3 (key d hd), Ms.sh (key 4 (Nat.le_refl _))⟩
theorem aB_X11_call : ∀ pc, aB 160 pc = fnd bk_X11_call pc := fun _ => rfl
def l_X11_call_29 (T : Nat) (v1 : Int) (k : Int → Int → aM → Option (Int × aM)) : Nat → Int → Int → aM → Option (Int × aM)
| 0, _, _, _ => none
| n + 1, v2, v3, M =>
 if (M 3 3) ≤ v3 then
 k v2 v3 M else
 if 0 ≤ v3 ∧ v3 < 3 then
 (f_X1_callStep T (M 8 (v3).toNat) (M 36 (v3).toNat) v1 M).bind fun x10 =>
 (f_X8_moveVoice T 35 v3 x10 M).bind fun x12 =>
 if x12.1 = 0 then
 if aIn (v3 + 1) then
 l_X11_call_29 T v1 k n v2 (v3 + 1) x12.2 else none else
 if aIn (v3 + 1) then
 l_X11_call_29 T v1 k n (aor v2 (ashl 1 v3)) (v3 + 1) x12.2 else none else none
theorem tl_X11_call_29 {d : Nat} (hd : 3 ≤ d) {T : T3} {v1 : Int} {k : Int → Int → aM → Option (Int × aM)} {y : (Int × aM)}  {M0 : aM} (hS : Sh T.1 M0)
    (hk : ∀ (v2 v3 : Int) (M : aM), Sh T.1 M → k v2 v3 M = some y → Wp d 160 91 [] [(2, ((0 : Nat) : Int)), (0, v1), (0, v2), (0, v3)] [] (M, T) (fun r2 σ2 => r2 = some (0, y.1) ∧ σ2 = (y.2, T) ∧ Sh T.1 y.2)) :
    ∀ (n : Nat) (v2 v3 : Int) (M : aM), Sh T.1 M → l_X11_call_29 T.1 v1 k n v2 v3 M = some y → Wp d 160 29 [] [(2, ((0 : Nat) : Int)), (0, v1), (0, v2), (0, v3)] [] (M, T) (fun r2 σ2 => r2 = some (0, y.1) ∧ σ2 = (y.2, T) ∧ Sh T.1 y.2) := by
  intro n
  induction n with
  | zero =>
    intro v2 v3 M _ h
    exact nomatch (show (none : Option (Int × aM)) = some y from h)
  | succ n ih =>
    intro v2 v3 M sM h
    rw [l_X11_call_29] at h
    refine y_blk (t := 29) rfl (show fnd bk_X11_call 29 = some _ from rfl) aB_X11_call ?_
    refine wp_iload_n (v := v3) rfl ?_
    refine wp_aload_n (v := ((0 : Nat) : Int)) rfl (Int.natCast_nonneg _) ?_
    refine y_get (show ash 0 = (11, 15) from rfl) (Nat.lt_of_lt_of_le (show 0 < 154 by decide) hS.1.1) (v := ((2 : Nat) : Int)) (sM.at 0 2 2 (by decide +kernel)) rfl ?_
    refine y_get (show ash 2 = (10, 19) from rfl) (Nat.lt_of_lt_of_le (show 2 < 154 by decide) hS.1.1) (v := ((3 : Nat) : Int)) (sM.at 2 3 3 (by decide +kernel)) rfl ?_
    refine wp_iconst ⟨by decide, by decide⟩ ?_
    refine y_iald (show ash 3 = (100, 8) from rfl) (Or.inl (Nat.lt_of_lt_of_le (show 3 < 154 by decide) hS.1.1)) (Nat.ne_of_lt (Nat.lt_of_lt_of_le (Nat.lt_of_lt_of_le (show 3 < 154 by decide) hS.1.1) hS.1.2)) ⟨by decide, by decide⟩ (v := M 3 3) rfl ?_
    refine wp_icmp_ge (fun c8 => ?_) (fun c8 => ?_)
    · rw [if_pos c8] at h
      exact hk v2 v3  M sM h
    · rw [if_neg c8] at h
      refine wp_aload_n (v := ((0 : Nat) : Int)) rfl (Int.natCast_nonneg _) ?_
      refine y_get (show ash 0 = (11, 15) from rfl) (Nat.lt_of_lt_of_le (show 0 < 154 by decide) hS.1.1) (v := ((35 : Nat) : Int)) (sM.at 0 4 35 (by decide +kernel)) rfl ?_
      refine wp_iload_n (v := v3) rfl ?_
      refine wp_aload_n (v := ((0 : Nat) : Int)) rfl (Int.natCast_nonneg _) ?_
      refine y_get (show ash 0 = (11, 15) from rfl) (Nat.lt_of_lt_of_le (show 0 < 154 by decide) hS.1.1) (v := ((48 : Nat) : Int)) (sM.at 0 8 48 (by decide +kernel)) rfl ?_
      refine wp_aload_n (v := ((0 : Nat) : Int)) rfl (Int.natCast_nonneg _) ?_
      refine y_get (show ash 0 = (11, 15) from rfl) (Nat.lt_of_lt_of_le (show 0 < 154 by decide) hS.1.1) (v := ((2 : Nat) : Int)) (sM.at 0 2 2 (by decide +kernel)) rfl ?_
      refine y_get (show ash 2 = (10, 19) from rfl) (Nat.lt_of_lt_of_le (show 2 < 154 by decide) hS.1.1) (v := ((8 : Nat) : Int)) (sM.at 2 10 8 (by decide +kernel)) rfl ?_
      refine wp_iload_n (v := v3) rfl ?_
      obtain ⟨c9, h⟩ := d_ite h
      refine y_iald (show ash 8 = (100, 3) from rfl) (Or.inl (Nat.lt_of_lt_of_le (show 8 < 154 by decide) hS.1.1)) (Nat.ne_of_lt (Nat.lt_of_lt_of_le (Nat.lt_of_lt_of_le (show 8 < 154 by decide) hS.1.1) hS.1.2)) c9 (v := M 8 (v3).toNat) rfl ?_
      refine wp_aload_n (v := ((0 : Nat) : Int)) rfl (Int.natCast_nonneg _) ?_
      refine y_get (show ash 0 = (11, 15) from rfl) (Nat.lt_of_lt_of_le (show 0 < 154 by decide) hS.1.1) (v := ((35 : Nat) : Int)) (sM.at 0 4 35 (by decide +kernel)) rfl ?_
      refine y_get (show ash 35 = (8, 5) from rfl) (Nat.lt_of_lt_of_le (show 35 < 154 by decide) hS.1.1) (v := ((36 : Nat) : Int)) (sM.at 35 0 36 (by decide +kernel)) rfl ?_
      refine wp_iload_n (v := v3) rfl ?_
      refine y_iald (show ash 36 = (100, 3) from rfl) (Or.inl (Nat.lt_of_lt_of_le (show 36 < 154 by decide) hS.1.1)) (Nat.ne_of_lt (Nat.lt_of_lt_of_le (Nat.lt_of_lt_of_le (show 36 < 154 by decide) hS.1.1) hS.1.2)) c9 (v := M 36 (v3).toNat) rfl ?_
      refine wp_iload_n (v := v1) rfl ?_
      obtain ⟨x10, e11, h⟩ := d_bind h
      refine y_callV (as := [(0, (M 8 (v3).toNat)), (0, (M 36 (v3).toNat)), (0, v1)]) (S1 := [(0, v3), (2, ((35 : Nat) : Int))]) (Nat.le_of_ble_eq_true rfl) (by omega) (t_X1_callStep sM e11) (Nat.le_of_ble_eq_true rfl) rfl (show ash 48 = (1, 6) from rfl) (Nat.lt_of_lt_of_le (show 48 < 154 by decide) hS.1.1) (Nat.le_of_ble_eq_true rfl) (Nat.le_of_ble_eq_true rfl) rfl ?_
      obtain ⟨x12, e13, h⟩ := d_bind h
      obtain ⟨r14, s15⟩ := t_X8_moveVoice (show isSt 35 by decide) sM e13
      refine y_callV (as := [(0, v3), (0, x10)]) (S1 := []) (Nat.le_of_ble_eq_true rfl) (by omega) r14 (Nat.le_of_ble_eq_true rfl) rfl (show ash 35 = (8, 5) from rfl) (Nat.lt_of_lt_of_le (show 35 < 154 by decide) hS.1.1) (Nat.le_of_ble_eq_true rfl) (Nat.le_of_ble_eq_true rfl) rfl ?_
      refine wp_if_eq (fun c16 => ?_) (fun c16 => ?_)
      · rw [if_pos c16] at h
        refine y_blk (t := 85) rfl (show fnd bk_X11_call 85 = some _ from rfl) aB_X11_call ?_
        obtain ⟨c17, h⟩ := d_ite h
        refine y_iinc (L1 := [(2, ((0 : Nat) : Int)), (0, v1), (0, v2), (0, (v3 + 1))]) rfl (Nat.le_of_ble_eq_true rfl) ⟨by decide, by decide⟩ c17 rfl ?_
        refine wp_goto ?_
        exact ih v2 (v3 + 1)  x12.2 s15 h
      · rw [if_neg c16] at h
        refine wp_iload_n (v := v2) rfl ?_
        refine wp_iconst ⟨by decide, by decide⟩ ?_
        refine wp_iload_n (v := v3) rfl ?_
        refine wp_ishl ?_
        refine wp_ior ?_
        refine y_stn (L1 := [(2, ((0 : Nat) : Int)), (0, v1), (0, (aor v2 (ashl 1 v3))), (0, v3)]) (Nat.le_of_ble_eq_true rfl) rfl ?_
        refine y_blk (t := 85) rfl (show fnd bk_X11_call 85 = some _ from rfl) aB_X11_call ?_
        obtain ⟨c18, h⟩ := d_ite h
        refine y_iinc (L1 := [(2, ((0 : Nat) : Int)), (0, v1), (0, (aor v2 (ashl 1 v3))), (0, (v3 + 1))]) rfl (Nat.le_of_ble_eq_true rfl) ⟨by decide, by decide⟩ c18 rfl ?_
        refine wp_goto ?_
        exact ih (aor v2 (ashl 1 v3)) (v3 + 1)  x12.2 s15 h
def f_X11_call (T : Nat) (v1 : Int) (M : aM) : Option (Int × aM) :=
 (f_X11_isCave T v1 M).bind fun x1 =>
 if x1 = 0 then
 (f_X11_refuse T 1 M).bind fun x27 =>
 some (x27.1, x27.2) else
 (f_X4_keep T 35 M).bind fun x4 =>
 l_X11_call_29 T v1 (fun w19 w20 m21 =>
 (f_X11_allow T w19 m21).bind fun x23 =>
 some (x23.1, x23.2)) FU 0 0 x4.2
theorem t_X11_call {T : T3} {v1 : Int} {M : aM} {y : (Int × aM)}  (hS : Sh T.1 M) (h : f_X11_call T.1 v1 M = some y) : Mr 3 160 [(2, ((0 : Nat) : Int)), (0, v1)] M (some (0, y.1)) y.2 T ∧ Sh T.1 y.2 := by
  have key : ∀ d, 3 ≤ d → Wp d 160 0 [] [(2, ((0 : Nat) : Int)), (0, v1), (9, 0), (9, 0)] [] (M, T) (fun r2 σ2 => r2 = some (0, y.1) ∧ σ2 = (y.2, T) ∧ Sh T.1 y.2) := by
    intro d hd
    rw [f_X11_call] at h
    refine y_blk (t := 0) rfl (show fnd bk_X11_call 0 = some _ from rfl) aB_X11_call ?_
    refine wp_aload_n (v := ((0 : Nat) : Int)) rfl (Int.natCast_nonneg _) ?_
    refine wp_iload_n (v := v1) rfl ?_
    obtain ⟨x1, e2, h⟩ := d_bind h
    refine y_callV (as := [(0, v1)]) (S1 := []) (Nat.le_of_ble_eq_true rfl) (by omega) (t_X11_isCave hS e2) (Nat.le_of_ble_eq_true rfl) rfl (show ash 0 = (11, 15) from rfl) (Nat.lt_of_lt_of_le (show 0 < 154 by decide) hS.1.1) (Nat.le_of_ble_eq_true rfl) (Nat.le_of_ble_eq_true rfl) rfl ?_
    refine y_nez (fun c3 => ?_) (fun c3 => ?_)
    · rw [if_neg c3] at h
      refine y_blk (t := 14) rfl (show fnd bk_X11_call 14 = some _ from rfl) aB_X11_call ?_
      refine wp_aload_n (v := ((0 : Nat) : Int)) rfl (Int.natCast_nonneg _) ?_
      refine y_get (show ash 0 = (11, 15) from rfl) (Nat.lt_of_lt_of_le (show 0 < 154 by decide) hS.1.1) (v := ((59 : Nat) : Int)) (hS.at 0 13 59 (by decide +kernel)) rfl ?_
      refine wp_aload_n (v := ((0 : Nat) : Int)) rfl (Int.natCast_nonneg _) ?_
      refine y_get (show ash 0 = (11, 15) from rfl) (Nat.lt_of_lt_of_le (show 0 < 154 by decide) hS.1.1) (v := ((35 : Nat) : Int)) (hS.at 0 4 35 (by decide +kernel)) rfl ?_
      obtain ⟨x4, e5, h⟩ := d_bind h
      obtain ⟨r6, s7⟩ := t_X4_keep (show isSt 35 by decide) hS e5
      refine y_callVv (as := [(2, ((35 : Nat) : Int))]) (S1 := []) (Nat.le_of_ble_eq_true rfl) (by omega) r6 rfl (show ash 59 = (4, 5) from rfl) (Nat.lt_of_lt_of_le (show 59 < 154 by decide) hS.1.1) (Nat.le_of_ble_eq_true rfl) (Nat.le_of_ble_eq_true rfl) rfl ?_
      refine wp_iconst ⟨by decide, by decide⟩ ?_
      refine y_stn (L1 := [(2, ((0 : Nat) : Int)), (0, v1), (0, 0), (9, 0)]) (Nat.le_of_ble_eq_true rfl) rfl ?_
      refine wp_iconst ⟨by decide, by decide⟩ ?_
      refine y_stn (L1 := [(2, ((0 : Nat) : Int)), (0, v1), (0, 0), (0, 0)]) (Nat.le_of_ble_eq_true rfl) rfl ?_
      refine tl_X11_call_29 (by omega) hS (fun w19 w20  m21 s22 h => ?_) FU 0 0  x4.2 s7 h
      refine y_blk (t := 91) rfl (show fnd bk_X11_call 91 = some _ from rfl) aB_X11_call ?_
      refine wp_aload_n (v := ((0 : Nat) : Int)) rfl (Int.natCast_nonneg _) ?_
      refine wp_iload_n (v := w19) rfl ?_
      obtain ⟨x23, e24, h⟩ := d_bind h
      obtain ⟨r25, s26⟩ := t_X11_allow s22 e24
      refine y_callV (as := [(0, w19)]) (S1 := []) (Nat.le_of_ble_eq_true rfl) (by omega) r25 (Nat.le_of_ble_eq_true rfl) rfl (show ash 0 = (11, 15) from rfl) (Nat.lt_of_lt_of_le (show 0 < 154 by decide) hS.1.1) (Nat.le_of_ble_eq_true rfl) (Nat.le_of_ble_eq_true rfl) rfl ?_
      cases h
      exact y_ret0 (Or.inl rfl) ⟨rfl, rfl, s26⟩
    · rw [if_pos c3] at h
      refine wp_aload_n (v := ((0 : Nat) : Int)) rfl (Int.natCast_nonneg _) ?_
      refine wp_iconst ⟨by decide, by decide⟩ ?_
      obtain ⟨x27, e28, h⟩ := d_bind h
      obtain ⟨r29, s30⟩ := t_X11_refuse hS e28
      refine y_callV (as := [(0, 1)]) (S1 := []) (Nat.le_of_ble_eq_true rfl) (by omega) r29 (Nat.le_of_ble_eq_true rfl) rfl (show ash 0 = (11, 15) from rfl) (Nat.lt_of_lt_of_le (show 0 < 154 by decide) hS.1.1) (Nat.le_of_ble_eq_true rfl) (Nat.le_of_ble_eq_true rfl) rfl ?_
      cases h
      exact y_ret0 (Or.inl rfl) ⟨rfl, rfl, s30⟩
  exact ⟨fun d hd => Ms.of3 (key d hd), Ms.sh (key 3 (Nat.le_refl _))⟩
theorem aB_X11_refuseAct : ∀ pc, aB 172 pc = fnd bk_X11_refuseAct pc := fun _ => rfl
def f_X11_refuseAct (T : Nat) (v1 : Int) (M : aM) : Option (Int × aM) :=
 (some (aup M 0 14 v1)).bind fun m1 =>
 some (0, m1)
theorem t_X11_refuseAct {T : T3} {v1 : Int} {M : aM} {y : (Int × aM)}  (hS : Sh T.1 M) (h : f_X11_refuseAct T.1 v1 M = some y) : Mr 0 172 [(2, ((0 : Nat) : Int)), (0, v1)] M (some (0, y.1)) y.2 T ∧ Sh T.1 y.2 := by
  have key : ∀ d, 0 ≤ d → Wp d 172 0 [] [(2, ((0 : Nat) : Int)), (0, v1)] [] (M, T) (fun r2 σ2 => r2 = some (0, y.1) ∧ σ2 = (y.2, T) ∧ Sh T.1 y.2) := by
    intro d hd
    rw [f_X11_refuseAct] at h
    refine y_blk (t := 0) rfl (show fnd bk_X11_refuseAct 0 = some _ from rfl) aB_X11_refuseAct ?_
    refine wp_aload_n (v := ((0 : Nat) : Int)) rfl (Int.natCast_nonneg _) ?_
    refine wp_iload_n (v := v1) rfl ?_
    refine y_put (show ash 0 = (11, 15) from rfl) (Nat.lt_of_lt_of_le (show 0 < 154 by decide) hS.1.1) rfl ?_
    obtain ⟨m1, em1, h⟩ := d_bind h
    have em1 := Option.some.inj em1
    have s2 : Sh T.1 m1 := em1 ▸ hS.up (Or.inr ⟨by rw [(show ash 0 = (11, 15) from rfl)]; decide, by rw [(show ash 0 = (11, 15) from rfl)]; decide⟩) (by have := (Nat.lt_of_lt_of_le (show 0 < 154 by decide) hS.1.1); have := hS.1.2; omega)
    rw [em1]
    refine wp_iconst ⟨by decide, by decide⟩ ?_
    cases h
    exact y_ret0 (Or.inr (Or.inl rfl)) ⟨rfl, rfl, s2⟩
  exact ⟨fun d hd => Ms.of3 (key d hd), Ms.sh (key 0 (Nat.le_refl _))⟩

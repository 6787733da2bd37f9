/-! ===== methods as functions ===== -/
theorem aB_X2_fitting : ∀ pc, aB 28 pc = fnd bk_X2_fitting pc := fun _ => rfl
def l_X2_fitting_4 (T : Nat)  (M : aM) (k : Int → Int → Option Int) : Nat → Int → Int → Option Int
| 0, _, _ => none
| n + 1, v1, v2 =>
 if (M 3 1) ≤ v2 then
 k v1 v2 else
 (f_X2_weightOf T v2 M).bind fun x2 =>
 if (alcmp x2 0) ≤ 0 then
 if aIn (v2 + 1) then
 l_X2_fitting_4 T M k n v1 (v2 + 1) else none else
 if aIn (v2 + 1) then
 l_X2_fitting_4 T M k n (aor v1 (ashl 1 v2)) (v2 + 1) else none
theorem tl_X2_fitting_4 {d : Nat} (hd : 3 ≤ d) {T : T3}  {M : aM} {k : Int → Int → Option Int} {y : Int}  (hS : Sh T.1 M)
    (hk : ∀ (v1 v2 : Int), Sh T.1 M → k v1 v2 = some y → Wp d 28 39 [] [(2, ((52 : Nat) : Int)), (0, v1), (0, v2)] [] (M, T) (fun r2 σ2 => r2 = some (0, y) ∧ σ2 = (M, T))) :
    ∀ (n : Nat) (v1 v2 : Int), Sh T.1 M → l_X2_fitting_4 T.1 M k n v1 v2 = some y → Wp d 28 4 [] [(2, ((52 : Nat) : Int)), (0, v1), (0, v2)] [] (M, T) (fun r2 σ2 => r2 = some (0, y) ∧ σ2 = (M, T)) := by
  intro n
  induction n with
  | zero =>
    intro v1 v2 _ h
    exact nomatch (show (none : Option Int) = some y from h)
  | succ n ih =>
    intro v1 v2 sM h
    rw [l_X2_fitting_4] at h
    refine y_blk (t := 4) rfl (show fnd bk_X2_fitting 4 = some _ from rfl) aB_X2_fitting ?_
    refine wp_iload_n (v := v2) rfl ?_
    refine wp_aload_n (v := ((52 : Nat) : Int)) rfl (Int.natCast_nonneg _) ?_
    refine y_get (show ash 52 = (2, 2) from rfl) (Nat.lt_of_lt_of_le (show 52 < 154 by decide) hS.1.1) (v := ((2 : Nat) : Int)) (sM.at 52 0 2 (by decide +kernel)) rfl ?_
    refine y_get (show ash 2 = (10, 19) from rfl) (Nat.lt_of_lt_of_le (show 2 < 154 by decide) hS.1.1) (v := ((3 : Nat) : Int)) (sM.at 2 3 3 (by decide +kernel)) rfl ?_
    refine wp_iconst ⟨by decide, by decide⟩ ?_
    refine y_iald (show ash 3 = (100, 8) from rfl) (Or.inl (Nat.lt_of_lt_of_le (show 3 < 154 by decide) hS.1.1)) (Nat.ne_of_lt (Nat.lt_of_lt_of_le (Nat.lt_of_lt_of_le (show 3 < 154 by decide) hS.1.1) hS.1.2)) ⟨by decide, by decide⟩ (v := M 3 1) rfl ?_
    refine wp_icmp_ge (fun c1 => ?_) (fun c1 => ?_)
    · rw [if_pos c1] at h
      exact hk v1 v2   sM h
    · rw [if_neg c1] at h
      refine wp_aload_n (v := ((52 : Nat) : Int)) rfl (Int.natCast_nonneg _) ?_
      refine wp_iload_n (v := v2) rfl ?_
      obtain ⟨x2, e3, h⟩ := d_bind h
      refine y_callV (as := [(0, v2)]) (S1 := []) (Nat.le_of_ble_eq_true rfl) (by omega) (t_X2_weightOf sM e3) (Nat.le_of_ble_eq_true rfl) rfl (show ash 52 = (2, 2) from rfl) (Nat.lt_of_lt_of_le (show 52 < 154 by decide) hS.1.1) (Nat.le_of_ble_eq_true rfl) (Nat.le_of_ble_eq_true rfl) rfl ?_
      refine y_lconst (v := 0) rfl ?_
      refine wp_lcmp ?_
      refine wp_if_le (fun c4 => ?_) (fun c4 => ?_)
      · rw [if_pos c4] at h
        refine y_blk (t := 33) rfl (show fnd bk_X2_fitting 33 = some _ from rfl) aB_X2_fitting ?_
        obtain ⟨c5, h⟩ := d_ite h
        refine y_iinc (L1 := [(2, ((52 : Nat) : Int)), (0, v1), (0, (v2 + 1))]) rfl (Nat.le_of_ble_eq_true rfl) ⟨by decide, by decide⟩ c5 rfl ?_
        refine wp_goto ?_
        exact ih v1 (v2 + 1)   sM h
      · rw [if_neg c4] at h
        refine wp_iload_n (v := v1) rfl ?_
        refine wp_iconst ⟨by decide, by decide⟩ ?_
        refine wp_iload_n (v := v2) rfl ?_
        refine wp_ishl ?_
        refine wp_ior ?_
        refine y_stn (L1 := [(2, ((52 : Nat) : Int)), (0, (aor v1 (ashl 1 v2))), (0, v2)]) (Nat.le_of_ble_eq_true rfl) rfl ?_
        refine y_blk (t := 33) rfl (show fnd bk_X2_fitting 33 = some _ from rfl) aB_X2_fitting ?_
        obtain ⟨c6, h⟩ := d_ite h
        refine y_iinc (L1 := [(2, ((52 : Nat) : Int)), (0, (aor v1 (ashl 1 v2))), (0, (v2 + 1))]) rfl (Nat.le_of_ble_eq_true rfl) ⟨by decide, by decide⟩ c6 rfl ?_
        refine wp_goto ?_
        exact ih (aor v1 (ashl 1 v2)) (v2 + 1)   sM h
def f_X2_fitting (T : Nat)  (M : aM) : Option Int :=
 l_X2_fitting_4 T M (fun w7 w8 =>
 some w7) FU 0 0
theorem t_X2_fitting {T : T3}  {M : aM} {y : Int}  (hS : Sh T.1 M) (h : f_X2_fitting T.1  M = some y) : Mr 3 28 [(2, ((52 : Nat) : Int))] M (some (0, y)) M T := by
  have key : ∀ d, 3 ≤ d → Wp d 28 0 [] [(2, ((52 : Nat) : Int)), (9, 0), (9, 0)] [] (M, T) (fun r2 σ2 => r2 = some (0, y) ∧ σ2 = (M, T)) := by
    intro d hd
    rw [f_X2_fitting] at h
    refine y_blk (t := 0) rfl (show fnd bk_X2_fitting 0 = some _ from rfl) aB_X2_fitting ?_
    refine wp_iconst ⟨by decide, by decide⟩ ?_
    refine y_stn (L1 := [(2, ((52 : Nat) : Int)), (0, 0), (9, 0)]) (Nat.le_of_ble_eq_true rfl) rfl ?_
    refine wp_iconst ⟨by decide, by decide⟩ ?_
    refine y_stn (L1 := [(2, ((52 : Nat) : Int)), (0, 0), (0, 0)]) (Nat.le_of_ble_eq_true rfl) rfl ?_
    refine tl_X2_fitting_4 (by omega) hS (fun w7 w8   s9 h => ?_) FU 0 0   hS h
    refine y_blk (t := 39) rfl (show fnd bk_X2_fitting 39 = some _ from rfl) aB_X2_fitting ?_
    refine wp_iload_n (v := w7) rfl ?_
    cases h
    exact y_ret0 (Or.inl rfl) ⟨rfl, rfl⟩
  exact fun d hd => Ms.of (key d hd)
theorem aB_X2_heaviest : ∀ pc, aB 29 pc = fnd bk_X2_heaviest pc := fun _ => rfl
def l_X2_heaviest_8 (T : Nat)  (M : aM) (k : Int → Int → Int → Option Int) : Nat → Int → Int → Int → Option Int
| 0, _, _, _ => none
| n + 1, v1, v2, v4 =>
 if (M 3 1) ≤ v4 then
 k v1 v2 v4 else
 (f_X2_weightOf T v4 M).bind fun x2 =>
 if (alcmp x2 v2) ≤ 0 then
 if aIn (v4 + 1) then
 l_X2_heaviest_8 T M k n v1 v2 (v4 + 1) else none else
 if aIn (v4 + 1) then
 l_X2_heaviest_8 T M k n v4 x2 (v4 + 1) else none
theorem tl_X2_heaviest_8 {d : Nat} (hd : 3 ≤ d) {T : T3}  {M : aM} {k : Int → Int → Int → Option Int} {y : Int}  (hS : Sh T.1 M)
    (hk : ∀ (v1 v2 v4 : Int) (u5 u6 : aV), Sh T.1 M → k v1 v2 v4 = some y → Wp d 29 49 [] [(2, ((52 : Nat) : Int)), (0, v1), (1, v2), (9, 0), (0, v4), u5, u6] [] (M, T) (fun r2 σ2 => r2 = some (0, y) ∧ σ2 = (M, T))) :
    ∀ (n : Nat) (v1 v2 v4 : Int) (u5 u6 : aV), Sh T.1 M → l_X2_heaviest_8 T.1 M k n v1 v2 v4 = some y → Wp d 29 8 [] [(2, ((52 : Nat) : Int)), (0, v1), (1, v2), (9, 0), (0, v4), u5, u6] [] (M, T) (fun r2 σ2 => r2 = some (0, y) ∧ σ2 = (M, T)) := by
  intro n
  induction n with
  | zero =>
    intro v1 v2 v4 u5 u6 _ h
    exact nomatch (show (none : Option Int) = some y from h)
  | succ n ih =>
    intro v1 v2 v4 u5 u6 sM h
    rw [l_X2_heaviest_8] at h
    refine y_blk (t := 8) rfl (show fnd bk_X2_heaviest 8 = some _ from rfl) aB_X2_heaviest ?_
    refine wp_iload (v := v4) rfl ?_
    refine wp_aload_n (v := ((52 : Nat) : Int)) rfl (Int.natCast_nonneg _) ?_
    refine y_get (show ash 52 = (2, 2) from rfl) (Nat.lt_of_lt_of_le (show 52 < 154 by decide) hS.1.1) (v := ((2 : Nat) : Int)) (sM.at 52 0 2 (by decide +kernel)) rfl ?_
    refine y_get (show ash 2 = (10, 19) from rfl) (Nat.lt_of_lt_of_le (show 2 < 154 by decide) hS.1.1) (v := ((3 : Nat) : Int)) (sM.at 2 3 3 (by decide +kernel)) rfl ?_
    refine wp_iconst ⟨by decide, by decide⟩ ?_
    refine y_iald (show ash 3 = (100, 8) from rfl) (Or.inl (Nat.lt_of_lt_of_le (show 3 < 154 by decide) hS.1.1)) (Nat.ne_of_lt (Nat.lt_of_lt_of_le (Nat.lt_of_lt_of_le (show 3 < 154 by decide) hS.1.1) hS.1.2)) ⟨by decide, by decide⟩ (v := M 3 1) rfl ?_
    refine wp_icmp_ge (fun c1 => ?_) (fun c1 => ?_)
    · rw [if_pos c1] at h
      exact hk v1 v2 v4 u5 u6  sM h
    · rw [if_neg c1] at h
      refine wp_aload_n (v := ((52 : Nat) : Int)) rfl (Int.natCast_nonneg _) ?_
      refine wp_iload (v := v4) rfl ?_
      obtain ⟨x2, e3, h⟩ := d_bind h
      refine y_callV (as := [(0, v4)]) (S1 := []) (Nat.le_of_ble_eq_true rfl) (by omega) (t_X2_weightOf sM e3) (Nat.le_of_ble_eq_true rfl) rfl (show ash 52 = (2, 2) from rfl) (Nat.lt_of_lt_of_le (show 52 < 154 by decide) hS.1.1) (Nat.le_of_ble_eq_true rfl) (Nat.le_of_ble_eq_true rfl) rfl ?_
      refine y_lst (L1 := [(2, ((52 : Nat) : Int)), (0, v1), (1, v2), (9, 0), (0, v4), (1, x2), (9, 0)]) (Nat.le_of_ble_eq_true rfl) rfl ?_
      refine wp_lload (v := x2) rfl ?_
      refine wp_lload_n (v := v2) rfl ?_
      refine wp_lcmp ?_
      refine wp_if_le (fun c4 => ?_) (fun c4 => ?_)
      · rw [if_pos c4] at h
        refine y_blk (t := 43) rfl (show fnd bk_X2_heaviest 43 = some _ from rfl) aB_X2_heaviest ?_
        obtain ⟨c5, h⟩ := d_ite h
        refine y_iinc (L1 := [(2, ((52 : Nat) : Int)), (0, v1), (1, v2), (9, 0), (0, (v4 + 1)), (1, x2), (9, 0)]) rfl (Nat.le_of_ble_eq_true rfl) ⟨by decide, by decide⟩ c5 rfl ?_
        refine wp_goto ?_
        exact ih v1 v2 (v4 + 1) (1, x2) (9, 0)  sM h
      · rw [if_neg c4] at h
        refine wp_lload (v := x2) rfl ?_
        refine y_lstn (L1 := [(2, ((52 : Nat) : Int)), (0, v1), (1, x2), (9, 0), (0, v4), (1, x2), (9, 0)]) (Nat.le_of_ble_eq_true rfl) rfl ?_
        refine wp_iload (v := v4) rfl ?_
        refine y_stn (L1 := [(2, ((52 : Nat) : Int)), (0, v4), (1, x2), (9, 0), (0, v4), (1, x2), (9, 0)]) (Nat.le_of_ble_eq_true rfl) rfl ?_
        refine y_blk (t := 43) rfl (show fnd bk_X2_heaviest 43 = some _ from rfl) aB_X2_heaviest ?_
        obtain ⟨c6, h⟩ := d_ite h
        refine y_iinc (L1 := [(2, ((52 : Nat) : Int)), (0, v4), (1, x2), (9, 0), (0, (v4 + 1)), (1, x2), (9, 0)]) rfl (Nat.le_of_ble_eq_true rfl) ⟨by decide, by decide⟩ c6 rfl ?_
        refine wp_goto ?_
        exact ih v4 x2 (v4 + 1) (1, x2) (9, 0)  sM h
def f_X2_heaviest (T : Nat)  (M : aM) : Option Int :=
 l_X2_heaviest_8 T M (fun w7 w8 w9 =>
 some w7) FU (-2) 0 0
theorem t_X2_heaviest {T : T3}  {M : aM} {y : Int}  (hS : Sh T.1 M) (h : f_X2_heaviest T.1  M = some y) : Mr 3 29 [(2, ((52 : Nat) : Int))] M (some (0, y)) M T := by
  have key : ∀ d, 3 ≤ d → Wp d 29 0 [] [(2, ((52 : Nat) : Int)), (9, 0), (9, 0), (9, 0), (9, 0), (9, 0), (9, 0)] [] (M, T) (fun r2 σ2 => r2 = some (0, y) ∧ σ2 = (M, T)) := by
    intro d hd
    rw [f_X2_heaviest] at h
    refine y_blk (t := 0) rfl (show fnd bk_X2_heaviest 0 = some _ from rfl) aB_X2_heaviest ?_
    refine wp_bipush (by decide) ?_
    refine y_stn (L1 := [(2, ((52 : Nat) : Int)), (0, (-2)), (9, 0), (9, 0), (9, 0), (9, 0), (9, 0)]) (Nat.le_of_ble_eq_true rfl) rfl ?_
    refine y_lconst (v := 0) rfl ?_
    refine y_lstn (L1 := [(2, ((52 : Nat) : Int)), (0, (-2)), (1, 0), (9, 0), (9, 0), (9, 0), (9, 0)]) (Nat.le_of_ble_eq_true rfl) rfl ?_
    refine wp_iconst ⟨by decide, by decide⟩ ?_
    refine y_st (L1 := [(2, ((52 : Nat) : Int)), (0, (-2)), (1, 0), (9, 0), (0, 0), (9, 0), (9, 0)]) (Nat.le_of_ble_eq_true rfl) rfl ?_
    refine tl_X2_heaviest_8 (by omega) hS (fun w7 w8 w9 u10 u11  s12 h => ?_) FU (-2) 0 0 (9, 0) (9, 0)  hS h
    refine y_blk (t := 49) rfl (show fnd bk_X2_heaviest 49 = some _ from rfl) aB_X2_heaviest ?_
    refine wp_iload_n (v := w7) rfl ?_
    cases h
    exact y_ret0 (Or.inl rfl) ⟨rfl, rfl⟩
  exact fun d hd => Ms.of (key d hd)
theorem aB_X2_alikeFrom : ∀ pc, aB 32 pc = fnd bk_X2_alikeFrom pc := fun _ => rfl
def l_X2_alikeFrom_6 (T : Nat) (v1 : Int) (v2 : Int) (v3 : Int) (M : aM) (k : Int → Int → Option Int) : Nat → Int → Int → Option Int
| 0, _, _ => none
| n + 1, v4, v5 =>
 if (M 3 1) ≤ v5 then
 k v4 v5 else
 (f_X11_hasBit T v2 v5 M).bind fun x2 =>
 if x2 = 0 then
 if aIn (v5 + 1) then
 l_X2_alikeFrom_6 T v1 v2 v3 M k n v4 (v5 + 1) else none else
 (f_X5_span T 42 v1 v5 M).bind fun x6 =>
 if x6 = v3 then
 if aIn (v4 + 1) then
 if aIn (v5 + 1) then
 l_X2_alikeFrom_6 T v1 v2 v3 M k n (v4 + 1) (v5 + 1) else none else none else
 if aIn (v5 + 1) then
 l_X2_alikeFrom_6 T v1 v2 v3 M k n v4 (v5 + 1) else none
theorem tl_X2_alikeFrom_6 {d : Nat} (hd : 1 ≤ d) {T : T3} {v1 : Int} {v2 : Int} {v3 : Int} {M : aM} {k : Int → Int → Option Int} {y : Int}  (hS : Sh T.1 M)
    (hk : ∀ (v4 v5 : Int), Sh T.1 M → k v4 v5 = some y → Wp d 32 52 [] [(2, ((52 : Nat) : Int)), (0, v1), (0, v2), (0, v3), (0, v4), (0, v5)] [] (M, T) (fun r2 σ2 => r2 = some (0, y) ∧ σ2 = (M, T))) :
    ∀ (n : Nat) (v4 v5 : Int), Sh T.1 M → l_X2_alikeFrom_6 T.1 v1 v2 v3 M k n v4 v5 = some y → Wp d 32 6 [] [(2, ((52 : Nat) : Int)), (0, v1), (0, v2), (0, v3), (0, v4), (0, v5)] [] (M, T) (fun r2 σ2 => r2 = some (0, y) ∧ σ2 = (M, T)) := by
  intro n
  induction n with
  | zero =>
    intro v4 v5 _ h
    exact nomatch (show (none : Option Int) = some y from h)
  | succ n ih =>
    intro v4 v5 sM h
    rw [l_X2_alikeFrom_6] at h
    refine y_blk (t := 6) rfl (show fnd bk_X2_alikeFrom 6 = some _ from rfl) aB_X2_alikeFrom ?_
    refine wp_iload (v := v5) rfl ?_
    refine wp_aload_n (v := ((52 : Nat) : Int)) rfl (Int.natCast_nonneg _) ?_
    refine y_get (show ash 52 = (2, 2) from rfl) (Nat.lt_of_lt_of_le (show 52 < 154 by decide) hS.1.1) (v := ((2 : Nat) : Int)) (sM.at 52 0 2 (by decide +kernel)) rfl ?_
    refine y_get (show ash 2 = (10, 19) from rfl) (Nat.lt_of_lt_of_le (show 2 < 154 by decide) hS.1.1) (v := ((3 : Nat) : Int)) (sM.at 2 3 3 (by decide +kernel)) rfl ?_
    refine wp_iconst ⟨by decide, by decide⟩ ?_
    refine y_iald (show ash 3 = (100, 8) from rfl) (Or.inl (Nat.lt_of_lt_of_le (show 3 < 154 by decide) hS.1.1)) (Nat.ne_of_lt (Nat.lt_of_lt_of_le (Nat.lt_of_lt_of_le (show 3 < 154 by decide) hS.1.1) hS.1.2)) ⟨by decide, by decide⟩ (v := M 3 1) rfl ?_
    refine wp_icmp_ge (fun c1 => ?_) (fun c1 => ?_)
    · rw [if_pos c1] at h
      exact hk v4 v5   sM h
    · rw [if_neg c1] at h
      refine wp_iload_n (v := v2) rfl ?_
      refine wp_iload (v := v5) rfl ?_
      obtain ⟨x2, e3, h⟩ := d_bind h
      refine y_callS (as := [(0, v2), (0, v5)]) (S1 := []) (Nat.le_of_ble_eq_true rfl) (by omega) (t_X11_hasBit sM e3) (Nat.le_of_ble_eq_true rfl) rfl (Nat.le_of_ble_eq_true rfl) (Nat.le_of_ble_eq_true rfl) rfl ?_
      refine wp_if_eq (fun c4 => ?_) (fun c4 => ?_)
      · rw [if_pos c4] at h
        refine y_blk (t := 46) rfl (show fnd bk_X2_alikeFrom 46 = some _ from rfl) aB_X2_alikeFrom ?_
        obtain ⟨c5, h⟩ := d_ite h
        refine y_iinc (L1 := [(2, ((52 : Nat) : Int)), (0, v1), (0, v2), (0, v3), (0, v4), (0, (v5 + 1))]) rfl (Nat.le_of_ble_eq_true rfl) ⟨by decide, by decide⟩ c5 rfl ?_
        refine wp_goto ?_
        exact ih v4 (v5 + 1)   sM h
      · rw [if_neg c4] at h
        refine wp_aload_n (v := ((52 : Nat) : Int)) rfl (Int.natCast_nonneg _) ?_
        refine y_get (show ash 52 = (2, 2) from rfl) (Nat.lt_of_lt_of_le (show 52 < 154 by decide) hS.1.1) (v := ((42 : Nat) : Int)) (sM.at 52 1 42 (by decide +kernel)) rfl ?_
        refine wp_iload_n (v := v1) rfl ?_
        refine wp_iload (v := v5) rfl ?_
        obtain ⟨x6, e7, h⟩ := d_bind h
        refine y_callV (as := [(0, v1), (0, v5)]) (S1 := []) (Nat.le_of_ble_eq_true rfl) (by omega) (t_X5_span (show isLand 42 by decide) sM e7) (Nat.le_of_ble_eq_true rfl) rfl (show ash 42 = (5, 4) from rfl) (Nat.lt_of_lt_of_le (show 42 < 154 by decide) hS.1.1) (Nat.le_of_ble_eq_true rfl) (Nat.le_of_ble_eq_true rfl) rfl ?_
        refine wp_iload_n (v := v3) rfl ?_
        refine y_ne (fun c8 => ?_) (fun c8 => ?_)
        · rw [if_neg c8] at h
          refine y_blk (t := 46) rfl (show fnd bk_X2_alikeFrom 46 = some _ from rfl) aB_X2_alikeFrom ?_
          obtain ⟨c9, h⟩ := d_ite h
          refine y_iinc (L1 := [(2, ((52 : Nat) : Int)), (0, v1), (0, v2), (0, v3), (0, v4), (0, (v5 + 1))]) rfl (Nat.le_of_ble_eq_true rfl) ⟨by decide, by decide⟩ c9 rfl ?_
          refine wp_goto ?_
          exact ih v4 (v5 + 1)   sM h
        · rw [if_pos c8] at h
          obtain ⟨c10, h⟩ := d_ite h
          refine y_iinc (L1 := [(2, ((52 : Nat) : Int)), (0, v1), (0, v2), (0, v3), (0, (v4 + 1)), (0, v5)]) rfl (Nat.le_of_ble_eq_true rfl) ⟨by decide, by decide⟩ c10 rfl ?_
          refine y_blk (t := 46) rfl (show fnd bk_X2_alikeFrom 46 = some _ from rfl) aB_X2_alikeFrom ?_
          obtain ⟨c11, h⟩ := d_ite h
          refine y_iinc (L1 := [(2, ((52 : Nat) : Int)), (0, v1), (0, v2), (0, v3), (0, (v4 + 1)), (0, (v5 + 1))]) rfl (Nat.le_of_ble_eq_true rfl) ⟨by decide, by decide⟩ c11 rfl ?_
          refine wp_goto ?_
          exact ih (v4 + 1) (v5 + 1)   sM h
def f_X2_alikeFrom (T : Nat) (v1 : Int) (v2 : Int) (v3 : Int) (M : aM) : Option Int :=
 l_X2_alikeFrom_6 T v1 v2 v3 M (fun w12 w13 =>
 some w12) FU 0 0
theorem t_X2_alikeFrom {T : T3} {v1 : Int} {v2 : Int} {v3 : Int} {M : aM} {y : Int}  (hS : Sh T.1 M) (h : f_X2_alikeFrom T.1 v1 v2 v3 M = some y) : Mr 1 32 [(2, ((52 : Nat) : Int)), (0, v1), (0, v2), (0, v3)] M (some (0, y)) M T := by
  have key : ∀ d, 1 ≤ d → Wp d 32 0 [] [(2, ((52 : Nat) : Int)), (0, v1), (0, v2), (0, v3), (9, 0), (9, 0)] [] (M, T) (fun r2 σ2 => r2 = some (0, y) ∧ σ2 = (M, T)) := by
    intro d hd
    rw [f_X2_alikeFrom] at h
    refine y_blk (t := 0) rfl (show fnd bk_X2_alikeFrom 0 = some _ from rfl) aB_X2_alikeFrom ?_
    refine wp_iconst ⟨by decide, by decide⟩ ?_
    refine y_st (L1 := [(2, ((52 : Nat) : Int)), (0, v1), (0, v2), (0, v3), (0, 0), (9, 0)]) (Nat.le_of_ble_eq_true rfl) rfl ?_
    refine wp_iconst ⟨by decide, by decide⟩ ?_
    refine y_st (L1 := [(2, ((52 : Nat) : Int)), (0, v1), (0, v2), (0, v3), (0, 0), (0, 0)]) (Nat.le_of_ble_eq_true rfl) rfl ?_
    refine tl_X2_alikeFrom_6 (by omega) hS (fun w12 w13   s14 h => ?_) FU 0 0   hS h
    refine y_blk (t := 52) rfl (show fnd bk_X2_alikeFrom 52 = some _ from rfl) aB_X2_alikeFrom ?_
    refine wp_iload (v := w12) rfl ?_
    cases h
    exact y_ret0 (Or.inl rfl) ⟨rfl, rfl⟩
  exact fun d hd => Ms.of (key d hd)
theorem aB_X2_leftBy : ∀ pc, aB 31 pc = fnd bk_X2_leftBy pc := fun _ => rfl
def l_X2_leftBy_5 (T : Nat) (v1 : Int) (v2 : Int) (M : aM) (k : Int → Int → Option Int) : Nat → Int → Int → Option Int
| 0, _, _ => none
| n + 1, v3, v4 =>
 if (M 3 1) ≤ v4 then
 k v3 v4 else
 (f_X11_hasBit T v2 v4 M).bind fun x2 =>
 if x2 = 0 then
 if aIn (v4 + 1) then
 l_X2_leftBy_5 T v1 v2 M k n v3 (v4 + 1) else none else
 (f_X5_span T 42 v1 v4 M).bind fun x6 =>
 (f_X2_alikeFrom T v1 v2 x6 M).bind fun x8 =>
 if aIn (v4 + 1) then
 l_X2_leftBy_5 T v1 v2 M k n (if x8 < v3 then v3 else x8) (v4 + 1) else none
theorem tl_X2_leftBy_5 {d : Nat} (hd : 2 ≤ d) {T : T3} {v1 : Int} {v2 : Int} {M : aM} {k : Int → Int → Option Int} {y : Int}  (hS : Sh T.1 M)
    (hk : ∀ (v3 v4 : Int), Sh T.1 M → k v3 v4 = some y → Wp d 31 55 [] [(2, ((52 : Nat) : Int)), (0, v1), (0, v2), (0, v3), (0, v4)] [] (M, T) (fun r2 σ2 => r2 = some (0, y) ∧ σ2 = (M, T))) :
    ∀ (n : Nat) (v3 v4 : Int), Sh T.1 M → l_X2_leftBy_5 T.1 v1 v2 M k n v3 v4 = some y → Wp d 31 5 [] [(2, ((52 : Nat) : Int)), (0, v1), (0, v2), (0, v3), (0, v4)] [] (M, T) (fun r2 σ2 => r2 = some (0, y) ∧ σ2 = (M, T)) := by
  intro n
  induction n with
  | zero =>
    intro v3 v4 _ h
    exact nomatch (show (none : Option Int) = some y from h)
  | succ n ih =>
    intro v3 v4 sM h
    rw [l_X2_leftBy_5] at h
    refine y_blk (t := 5) rfl (show fnd bk_X2_leftBy 5 = some _ from rfl) aB_X2_leftBy ?_
    refine wp_iload (v := v4) rfl ?_
    refine wp_aload_n (v := ((52 : Nat) : Int)) rfl (Int.natCast_nonneg _) ?_
    refine y_get (show ash 52 = (2, 2) from rfl) (Nat.lt_of_lt_of_le (show 52 < 154 by decide) hS.1.1) (v := ((2 : Nat) : Int)) (sM.at 52 0 2 (by decide +kernel)) rfl ?_
    refine y_get (show ash 2 = (10, 19) from rfl) (Nat.lt_of_lt_of_le (show 2 < 154 by decide) hS.1.1) (v := ((3 : Nat) : Int)) (sM.at 2 3 3 (by decide +kernel)) rfl ?_
    refine wp_iconst ⟨by decide, by decide⟩ ?_
    refine y_iald (show ash 3 = (100, 8) from rfl) (Or.inl (Nat.lt_of_lt_of_le (show 3 < 154 by decide) hS.1.1)) (Nat.ne_of_lt (Nat.lt_of_lt_of_le (Nat.lt_of_lt_of_le (show 3 < 154 by decide) hS.1.1) hS.1.2)) ⟨by decide, by decide⟩ (v := M 3 1) rfl ?_
    refine wp_icmp_ge (fun c1 => ?_) (fun c1 => ?_)
    · rw [if_pos c1] at h
      exact hk v3 v4   sM h
    · rw [if_neg c1] at h
      refine wp_iload_n (v := v2) rfl ?_
      refine wp_iload (v := v4) rfl ?_
      obtain ⟨x2, e3, h⟩ := d_bind h
      refine y_callS (as := [(0, v2), (0, v4)]) (S1 := []) (Nat.le_of_ble_eq_true rfl) (by omega) (t_X11_hasBit sM e3) (Nat.le_of_ble_eq_true rfl) rfl (Nat.le_of_ble_eq_true rfl) (Nat.le_of_ble_eq_true rfl) rfl ?_
      refine wp_if_eq (fun c4 => ?_) (fun c4 => ?_)
      · rw [if_pos c4] at h
        refine y_blk (t := 49) rfl (show fnd bk_X2_leftBy 49 = some _ from rfl) aB_X2_leftBy ?_
        obtain ⟨c5, h⟩ := d_ite h
        refine y_iinc (L1 := [(2, ((52 : Nat) : Int)), (0, v1), (0, v2), (0, v3), (0, (v4 + 1))]) rfl (Nat.le_of_ble_eq_true rfl) ⟨by decide, by decide⟩ c5 rfl ?_
        refine wp_goto ?_
        exact ih v3 (v4 + 1)   sM h
      · rw [if_neg c4] at h
        refine wp_iload_n (v := v3) rfl ?_
        refine wp_aload_n (v := ((52 : Nat) : Int)) rfl (Int.natCast_nonneg _) ?_
        refine wp_iload_n (v := v1) rfl ?_
        refine wp_iload_n (v := v2) rfl ?_
        refine wp_aload_n (v := ((52 : Nat) : Int)) rfl (Int.natCast_nonneg _) ?_
        refine y_get (show ash 52 = (2, 2) from rfl) (Nat.lt_of_lt_of_le (show 52 < 154 by decide) hS.1.1) (v := ((42 : Nat) : Int)) (sM.at 52 1 42 (by decide +kernel)) rfl ?_
        refine wp_iload_n (v := v1) rfl ?_
        refine wp_iload (v := v4) rfl ?_
        obtain ⟨x6, e7, h⟩ := d_bind h
        refine y_callV (as := [(0, v1), (0, v4)]) (S1 := [(0, v2), (0, v1), (2, ((52 : Nat) : Int)), (0, v3)]) (Nat.le_of_ble_eq_true rfl) (by omega) (t_X5_span (show isLand 42 by decide) sM e7) (Nat.le_of_ble_eq_true rfl) rfl (show ash 42 = (5, 4) from rfl) (Nat.lt_of_lt_of_le (show 42 < 154 by decide) hS.1.1) (Nat.le_of_ble_eq_true rfl) (Nat.le_of_ble_eq_true rfl) rfl ?_
        obtain ⟨x8, e9, h⟩ := d_bind h
        refine y_callV (as := [(0, v1), (0, v2), (0, x6)]) (S1 := [(0, v3)]) (Nat.le_of_ble_eq_true rfl) (by omega) (t_X2_alikeFrom sM e9) (Nat.le_of_ble_eq_true rfl) rfl (show ash 52 = (2, 2) from rfl) (Nat.lt_of_lt_of_le (show 52 < 154 by decide) hS.1.1) (Nat.le_of_ble_eq_true rfl) (Nat.le_of_ble_eq_true rfl) rfl ?_
        refine wp_max ⟨by omega, Nat.le_of_ble_eq_true rfl, rfl⟩ ?_
        refine y_stn (L1 := [(2, ((52 : Nat) : Int)), (0, v1), (0, v2), (0, (if x8 < v3 then v3 else x8)), (0, v4)]) (Nat.le_of_ble_eq_true rfl) rfl ?_
        refine y_blk (t := 49) rfl (show fnd bk_X2_leftBy 49 = some _ from rfl) aB_X2_leftBy ?_
        obtain ⟨c10, h⟩ := d_ite h
        refine y_iinc (L1 := [(2, ((52 : Nat) : Int)), (0, v1), (0, v2), (0, (if x8 < v3 then v3 else x8)), (0, (v4 + 1))]) rfl (Nat.le_of_ble_eq_true rfl) ⟨by decide, by decide⟩ c10 rfl ?_
        refine wp_goto ?_
        exact ih (if x8 < v3 then v3 else x8) (v4 + 1)   sM h
def f_X2_leftBy (T : Nat) (v1 : Int) (v2 : Int) (M : aM) : Option Int :=
 l_X2_leftBy_5 T v1 v2 M (fun w11 w12 =>
 some w11) FU 0 0
theorem t_X2_leftBy {T : T3} {v1 : Int} {v2 : Int} {M : aM} {y : Int}  (hS : Sh T.1 M) (h : f_X2_leftBy T.1 v1 v2 M = some y) : Mr 2 31 [(2, ((52 : Nat) : Int)), (0, v1), (0, v2)] M (some (0, y)) M T := by
  have key : ∀ d, 2 ≤ d → Wp d 31 0 [] [(2, ((52 : Nat) : Int)), (0, v1), (0, v2), (9, 0), (9, 0)] [] (M, T) (fun r2 σ2 => r2 = some (0, y) ∧ σ2 = (M, T)) := by
    intro d hd
    rw [f_X2_leftBy] at h
    refine y_blk (t := 0) rfl (show fnd bk_X2_leftBy 0 = some _ from rfl) aB_X2_leftBy ?_
    refine wp_iconst ⟨by decide, by decide⟩ ?_
    refine y_stn (L1 := [(2, ((52 : Nat) : Int)), (0, v1), (0, v2), (0, 0), (9, 0)]) (Nat.le_of_ble_eq_true rfl) rfl ?_
    refine wp_iconst ⟨by decide, by decide⟩ ?_
    refine y_st (L1 := [(2, ((52 : Nat) : Int)), (0, v1), (0, v2), (0, 0), (0, 0)]) (Nat.le_of_ble_eq_true rfl) rfl ?_
    refine tl_X2_leftBy_5 (by omega) hS (fun w11 w12   s13 h => ?_) FU 0 0   hS h
    refine y_blk (t := 55) rfl (show fnd bk_X2_leftBy 55 = some _ from rfl) aB_X2_leftBy ?_
    refine wp_iload_n (v := w11) rfl ?_
    cases h
    exact y_ret0 (Or.inl rfl) ⟨rfl, rfl⟩
  exact fun d hd => Ms.of (key d hd)
theorem aB_X2_bestStone : ∀ pc, aB 30 pc = fnd bk_X2_bestStone pc := fun _ => rfl
def l_X2_bestStone_14 (T : Nat) (v1 : Int) (M : aM) (k : Int → Int → Int → Option Int) : Nat → Int → Int → Int → Option Int
| 0, _, _, _ => none
| n + 1, v2, v3, v4 =>
 if (M 3 1) ≤ v4 then
 k v2 v3 v4 else
 if v1 = 0 then
 k v2 v3 v4 else
 (f_X2_leftBy T v4 v1 M).bind fun x5 =>
 if v3 ≤ x5 then
 if aIn (v4 + 1) then
 l_X2_bestStone_14 T v1 M k n v2 v3 (v4 + 1) else none else
 if aIn (v4 + 1) then
 l_X2_bestStone_14 T v1 M k n v4 x5 (v4 + 1) else none
theorem tl_X2_bestStone_14 {d : Nat} (hd : 4 ≤ d) {T : T3} {v1 : Int} {M : aM} {k : Int → Int → Int → Option Int} {y : Int}  (hS : Sh T.1 M)
    (hk : ∀ (v2 v3 v4 : Int) (u5 : aV), Sh T.1 M → k v2 v3 v4 = some y → Wp d 30 59 [] [(2, ((52 : Nat) : Int)), (0, v1), (0, v2), (0, v3), (0, v4), u5] [] (M, T) (fun r2 σ2 => r2 = some (0, y) ∧ σ2 = (M, T))) :
    ∀ (n : Nat) (v2 v3 v4 : Int) (u5 : aV), Sh T.1 M → l_X2_bestStone_14 T.1 v1 M k n v2 v3 v4 = some y → Wp d 30 14 [] [(2, ((52 : Nat) : Int)), (0, v1), (0, v2), (0, v3), (0, v4), u5] [] (M, T) (fun r2 σ2 => r2 = some (0, y) ∧ σ2 = (M, T)) := by
  intro n
  induction n with
  | zero =>
    intro v2 v3 v4 u5 _ h
    exact nomatch (show (none : Option Int) = some y from h)
  | succ n ih =>
    intro v2 v3 v4 u5 sM h
    rw [l_X2_bestStone_14] at h
    refine y_blk (t := 14) rfl (show fnd bk_X2_bestStone 14 = some _ from rfl) aB_X2_bestStone ?_
    refine wp_iload (v := v4) rfl ?_
    refine wp_aload_n (v := ((52 : Nat) : Int)) rfl (Int.natCast_nonneg _) ?_
    refine y_get (show ash 52 = (2, 2) from rfl) (Nat.lt_of_lt_of_le (show 52 < 154 by decide) hS.1.1) (v := ((2 : Nat) : Int)) (sM.at 52 0 2 (by decide +kernel)) rfl ?_
    refine y_get (show ash 2 = (10, 19) from rfl) (Nat.lt_of_lt_of_le (show 2 < 154 by decide) hS.1.1) (v := ((3 : Nat) : Int)) (sM.at 2 3 3 (by decide +kernel)) rfl ?_
    refine wp_iconst ⟨by decide, by decide⟩ ?_
    refine y_iald (show ash 3 = (100, 8) from rfl) (Or.inl (Nat.lt_of_lt_of_le (show 3 < 154 by decide) hS.1.1)) (Nat.ne_of_lt (Nat.lt_of_lt_of_le (Nat.lt_of_lt_of_le (show 3 < 154 by decide) hS.1.1) hS.1.2)) ⟨by decide, by decide⟩ (v := M 3 1) rfl ?_
    refine wp_icmp_ge (fun c3 => ?_) (fun c3 => ?_)
    · rw [if_pos c3] at h
      exact hk v2 v3 v4 u5  sM h
    · rw [if_neg c3] at h
      refine wp_iload_n (v := v1) rfl ?_
      refine wp_if_eq (fun c4 => ?_) (fun c4 => ?_)
      · rw [if_pos c4] at h
        exact hk v2 v3 v4 u5  sM h
      · rw [if_neg c4] at h
        refine wp_aload_n (v := ((52 : Nat) : Int)) rfl (Int.natCast_nonneg _) ?_
        refine wp_iload (v := v4) rfl ?_
        refine wp_iload_n (v := v1) rfl ?_
        obtain ⟨x5, e6, h⟩ := d_bind h
        refine y_callV (as := [(0, v4), (0, v1)]) (S1 := []) (Nat.le_of_ble_eq_true rfl) (by omega) (t_X2_leftBy sM e6) (Nat.le_of_ble_eq_true rfl) rfl (show ash 52 = (2, 2) from rfl) (Nat.lt_of_lt_of_le (show 52 < 154 by decide) hS.1.1) (Nat.le_of_ble_eq_true rfl) (Nat.le_of_ble_eq_true rfl) rfl ?_
        refine y_st (L1 := [(2, ((52 : Nat) : Int)), (0, v1), (0, v2), (0, v3), (0, v4), (0, x5)]) (Nat.le_of_ble_eq_true rfl) rfl ?_
        refine wp_iload (v := x5) rfl ?_
        refine wp_iload_n (v := v3) rfl ?_
        refine wp_icmp_ge (fun c7 => ?_) (fun c7 => ?_)
        · rw [if_pos c7] at h
          refine y_blk (t := 53) rfl (show fnd bk_X2_bestStone 53 = some _ from rfl) aB_X2_bestStone ?_
          obtain ⟨c8, h⟩ := d_ite h
          refine y_iinc (L1 := [(2, ((52 : Nat) : Int)), (0, v1), (0, v2), (0, v3), (0, (v4 + 1)), (0, x5)]) rfl (Nat.le_of_ble_eq_true rfl) ⟨by decide, by decide⟩ c8 rfl ?_
          refine wp_goto ?_
          exact ih v2 v3 (v4 + 1) (0, x5)  sM h
        · rw [if_neg c7] at h
          refine wp_iload (v := x5) rfl ?_
          refine y_stn (L1 := [(2, ((52 : Nat) : Int)), (0, v1), (0, v2), (0, x5), (0, v4), (0, x5)]) (Nat.le_of_ble_eq_true rfl) rfl ?_
          refine wp_iload (v := v4) rfl ?_
          refine y_stn (L1 := [(2, ((52 : Nat) : Int)), (0, v1), (0, v4), (0, x5), (0, v4), (0, x5)]) (Nat.le_of_ble_eq_true rfl) rfl ?_
          refine y_blk (t := 53) rfl (show fnd bk_X2_bestStone 53 = some _ from rfl) aB_X2_bestStone ?_
          obtain ⟨c9, h⟩ := d_ite h
          refine y_iinc (L1 := [(2, ((52 : Nat) : Int)), (0, v1), (0, v4), (0, x5), (0, (v4 + 1)), (0, x5)]) rfl (Nat.le_of_ble_eq_true rfl) ⟨by decide, by decide⟩ c9 rfl ?_
          refine wp_goto ?_
          exact ih v4 x5 (v4 + 1) (0, x5)  sM h
def f_X2_bestStone (T : Nat)  (M : aM) : Option Int :=
 (f_X2_fitting T M).bind fun x1 =>
 l_X2_bestStone_14 T x1 M (fun w10 w11 w12 =>
 some w10) FU (-2) 9 0
theorem t_X2_bestStone {T : T3}  {M : aM} {y : Int}  (hS : Sh T.1 M) (h : f_X2_bestStone T.1  M = some y) : Mr 4 30 [(2, ((52 : Nat) : Int))] M (some (0, y)) M T := by
  have key : ∀ d, 4 ≤ d → Wp d 30 0 [] [(2, ((52 : Nat) : Int)), (9, 0), (9, 0), (9, 0), (9, 0), (9, 0)] [] (M, T) (fun r2 σ2 => r2 = some (0, y) ∧ σ2 = (M, T)) := by
    intro d hd
    rw [f_X2_bestStone] at h
    refine y_blk (t := 0) rfl (show fnd bk_X2_bestStone 0 = some _ from rfl) aB_X2_bestStone ?_
    refine wp_aload_n (v := ((52 : Nat) : Int)) rfl (Int.natCast_nonneg _) ?_
    obtain ⟨x1, e2, h⟩ := d_bind h
    refine y_callV (as := []) (S1 := []) (Nat.le_of_ble_eq_true rfl) (by omega) (t_X2_fitting hS e2) (Nat.le_of_ble_eq_true rfl) rfl (show ash 52 = (2, 2) from rfl) (Nat.lt_of_lt_of_le (show 52 < 154 by decide) hS.1.1) (Nat.le_of_ble_eq_true rfl) (Nat.le_of_ble_eq_true rfl) rfl ?_
    refine y_stn (L1 := [(2, ((52 : Nat) : Int)), (0, x1), (9, 0), (9, 0), (9, 0), (9, 0)]) (Nat.le_of_ble_eq_true rfl) rfl ?_
    refine wp_bipush (by decide) ?_
    refine y_stn (L1 := [(2, ((52 : Nat) : Int)), (0, x1), (0, (-2)), (9, 0), (9, 0), (9, 0)]) (Nat.le_of_ble_eq_true rfl) rfl ?_
    refine wp_bipush (by decide) ?_
    refine y_stn (L1 := [(2, ((52 : Nat) : Int)), (0, x1), (0, (-2)), (0, 9), (9, 0), (9, 0)]) (Nat.le_of_ble_eq_true rfl) rfl ?_
    refine wp_iconst ⟨by decide, by decide⟩ ?_
    refine y_st (L1 := [(2, ((52 : Nat) : Int)), (0, x1), (0, (-2)), (0, 9), (0, 0), (9, 0)]) (Nat.le_of_ble_eq_true rfl) rfl ?_
    refine tl_X2_bestStone_14 (by omega) hS (fun w10 w11 w12 u13  s14 h => ?_) FU (-2) 9 0 (9, 0)  hS h
    refine y_blk (t := 59) rfl (show fnd bk_X2_bestStone 59 = some _ from rfl) aB_X2_bestStone ?_
    refine wp_iload_n (v := w10) rfl ?_
    cases h
    exact y_ret0 (Or.inl rfl) ⟨rfl, rfl⟩
  exact fun d hd => Ms.of (key d hd)
theorem aB_X2_firstWrongEcho : ∀ pc, aB 33 pc = fnd bk_X2_firstWrongEcho pc := fun _ => rfl
def l_X2_firstWrongEcho_17 (T : Nat)  (M : aM) (k : Int → Option Int) : Nat → Int → Option Int
| 0, _ => none
| n + 1, v1 =>
 if (M 3 5) ≤ v1 then
 k v1 else
 (f_X2_isRight T v1 (M 9 0) M).bind fun x3 =>
 if x3 = 0 then
 some v1 else
 if aIn (v1 + 1) then
 l_X2_firstWrongEcho_17 T M k n (v1 + 1) else none
theorem tl_X2_firstWrongEcho_17 {d : Nat} (hd : 2 ≤ d) {T : T3}  {M : aM} {k : Int → Option Int} {y : Int}  (hS : Sh T.1 M)
    (hk : ∀ (v1 : Int), Sh T.1 M → k v1 = some y → Wp d 33 55 [] [(2, ((52 : Nat) : Int)), (0, v1)] [] (M, T) (fun r2 σ2 => r2 = some (0, y) ∧ σ2 = (M, T))) :
    ∀ (n : Nat) (v1 : Int), Sh T.1 M → l_X2_firstWrongEcho_17 T.1 M k n v1 = some y → Wp d 33 17 [] [(2, ((52 : Nat) : Int)), (0, v1)] [] (M, T) (fun r2 σ2 => r2 = some (0, y) ∧ σ2 = (M, T)) := by
  intro n
  induction n with
  | zero =>
    intro v1 _ h
    exact nomatch (show (none : Option Int) = some y from h)
  | succ n ih =>
    intro v1 sM h
    rw [l_X2_firstWrongEcho_17] at h
    refine y_blk (t := 17) rfl (show fnd bk_X2_firstWrongEcho 17 = some _ from rfl) aB_X2_firstWrongEcho ?_
    refine wp_iload_n (v := v1) rfl ?_
    refine wp_aload_n (v := ((52 : Nat) : Int)) rfl (Int.natCast_nonneg _) ?_
    refine y_get (show ash 52 = (2, 2) from rfl) (Nat.lt_of_lt_of_le (show 52 < 154 by decide) hS.1.1) (v := ((2 : Nat) : Int)) (sM.at 52 0 2 (by decide +kernel)) rfl ?_
    refine y_get (show ash 2 = (10, 19) from rfl) (Nat.lt_of_lt_of_le (show 2 < 154 by decide) hS.1.1) (v := ((3 : Nat) : Int)) (sM.at 2 3 3 (by decide +kernel)) rfl ?_
    refine wp_iconst ⟨by decide, by decide⟩ ?_
    refine y_iald (show ash 3 = (100, 8) from rfl) (Or.inl (Nat.lt_of_lt_of_le (show 3 < 154 by decide) hS.1.1)) (Nat.ne_of_lt (Nat.lt_of_lt_of_le (Nat.lt_of_lt_of_le (show 3 < 154 by decide) hS.1.1) hS.1.2)) ⟨by decide, by decide⟩ (v := M 3 5) rfl ?_
    refine wp_icmp_ge (fun c2 => ?_) (fun c2 => ?_)
    · rw [if_pos c2] at h
      exact hk v1   sM h
    · rw [if_neg c2] at h
      refine wp_aload_n (v := ((52 : Nat) : Int)) rfl (Int.natCast_nonneg _) ?_
      refine wp_iload_n (v := v1) rfl ?_
      refine wp_aload_n (v := ((52 : Nat) : Int)) rfl (Int.natCast_nonneg _) ?_
      refine y_get (show ash 52 = (2, 2) from rfl) (Nat.lt_of_lt_of_le (show 52 < 154 by decide) hS.1.1) (v := ((2 : Nat) : Int)) (sM.at 52 0 2 (by decide +kernel)) rfl ?_
      refine y_get (show ash 2 = (10, 19) from rfl) (Nat.lt_of_lt_of_le (show 2 < 154 by decide) hS.1.1) (v := ((9 : Nat) : Int)) (sM.at 2 11 9 (by decide +kernel)) rfl ?_
      refine wp_iconst ⟨by decide, by decide⟩ ?_
      refine y_iald (show ash 9 = (100, 3) from rfl) (Or.inl (Nat.lt_of_lt_of_le (show 9 < 154 by decide) hS.1.1)) (Nat.ne_of_lt (Nat.lt_of_lt_of_le (Nat.lt_of_lt_of_le (show 9 < 154 by decide) hS.1.1) hS.1.2)) ⟨by decide, by decide⟩ (v := M 9 0) rfl ?_
      obtain ⟨x3, e4, h⟩ := d_bind h
      refine y_callV (as := [(0, v1), (0, (M 9 0))]) (S1 := []) (Nat.le_of_ble_eq_true rfl) (by omega) (t_X2_isRight sM e4) (Nat.le_of_ble_eq_true rfl) rfl (show ash 52 = (2, 2) from rfl) (Nat.lt_of_lt_of_le (show 52 < 154 by decide) hS.1.1) (Nat.le_of_ble_eq_true rfl) (Nat.le_of_ble_eq_true rfl) rfl ?_
      refine y_nez (fun c5 => ?_) (fun c5 => ?_)
      · rw [if_neg c5] at h
        refine y_blk (t := 49) rfl (show fnd bk_X2_firstWrongEcho 49 = some _ from rfl) aB_X2_firstWrongEcho ?_
        obtain ⟨c6, h⟩ := d_ite h
        refine y_iinc (L1 := [(2, ((52 : Nat) : Int)), (0, (v1 + 1))]) rfl (Nat.le_of_ble_eq_true rfl) ⟨by decide, by decide⟩ c6 rfl ?_
        refine wp_goto ?_
        exact ih (v1 + 1)   sM h
      · rw [if_pos c5] at h
        refine wp_iload_n (v := v1) rfl ?_
        cases h
        exact y_ret0 (Or.inl rfl) ⟨rfl, rfl⟩
def f_X2_firstWrongEcho (T : Nat)  (M : aM) : Option Int :=
 if (M 3 3) = 0 then
 some (-2) else
 l_X2_firstWrongEcho_17 T M (fun w7 =>
 some (-2)) FU 0
theorem t_X2_firstWrongEcho {T : T3}  {M : aM} {y : Int}  (hS : Sh T.1 M) (h : f_X2_firstWrongEcho T.1  M = some y) : Mr 2 33 [(2, ((52 : Nat) : Int))] M (some (0, y)) M T := by
  have key : ∀ d, 2 ≤ d → Wp d 33 0 [] [(2, ((52 : Nat) : Int)), (9, 0)] [] (M, T) (fun r2 σ2 => r2 = some (0, y) ∧ σ2 = (M, T)) := by
    intro d hd
    rw [f_X2_firstWrongEcho] at h
    refine y_blk (t := 0) rfl (show fnd bk_X2_firstWrongEcho 0 = some _ from rfl) aB_X2_firstWrongEcho ?_
    refine wp_aload_n (v := ((52 : Nat) : Int)) rfl (Int.natCast_nonneg _) ?_
    refine y_get (show ash 52 = (2, 2) from rfl) (Nat.lt_of_lt_of_le (show 52 < 154 by decide) hS.1.1) (v := ((2 : Nat) : Int)) (hS.at 52 0 2 (by decide +kernel)) rfl ?_
    refine y_get (show ash 2 = (10, 19) from rfl) (Nat.lt_of_lt_of_le (show 2 < 154 by decide) hS.1.1) (v := ((3 : Nat) : Int)) (hS.at 2 3 3 (by decide +kernel)) rfl ?_
    refine wp_iconst ⟨by decide, by decide⟩ ?_
    refine y_iald (show ash 3 = (100, 8) from rfl) (Or.inl (Nat.lt_of_lt_of_le (show 3 < 154 by decide) hS.1.1)) (Nat.ne_of_lt (Nat.lt_of_lt_of_le (Nat.lt_of_lt_of_le (show 3 < 154 by decide) hS.1.1) hS.1.2)) ⟨by decide, by decide⟩ (v := M 3 3) rfl ?_
    refine y_nez (fun c1 => ?_) (fun c1 => ?_)
    · rw [if_neg c1] at h
      refine y_blk (t := 15) rfl (show fnd bk_X2_firstWrongEcho 15 = some _ from rfl) aB_X2_firstWrongEcho ?_
      refine wp_iconst ⟨by decide, by decide⟩ ?_
      refine y_stn (L1 := [(2, ((52 : Nat) : Int)), (0, 0)]) (Nat.le_of_ble_eq_true rfl) rfl ?_
      refine tl_X2_firstWrongEcho_17 (by omega) hS (fun w7   s8 h => ?_) FU 0   hS h
      refine y_blk (t := 55) rfl (show fnd bk_X2_firstWrongEcho 55 = some _ from rfl) aB_X2_firstWrongEcho ?_
      refine wp_bipush (by decide) ?_
      cases h
      exact y_ret0 (Or.inl rfl) ⟨rfl, rfl⟩
    · rw [if_pos c1] at h
      refine wp_bipush (by decide) ?_
      cases h
      exact y_ret0 (Or.inl rfl) ⟨rfl, rfl⟩
  exact fun d hd => Ms.of (key d hd)
theorem aB_X3_aroundOf : ∀ pc, aB 37 pc = fnd bk_X3_aroundOf pc := fun _ => rfl
def f_X3_aroundOf (T : Nat) (v1 : Int) (M : aM) : Option Int :=
 if 0 ≤ v1 ∧ v1 < 8 then
 some (aor (M 40 (v1).toNat) (ashl 1 v1)) else none
theorem t_X3_aroundOf {T : T3} {v1 : Int} {M : aM} {y : Int}  (hS : Sh T.1 M) (h : f_X3_aroundOf T.1 v1 M = some y) : Mr 0 37 [(2, ((54 : Nat) : Int)), (0, v1)] M (some (0, y)) M T := by
  have key : ∀ d, 0 ≤ d → Wp d 37 0 [] [(2, ((54 : Nat) : Int)), (0, v1)] [] (M, T) (fun r2 σ2 => r2 = some (0, y) ∧ σ2 = (M, T)) := by
    intro d hd
    rw [f_X3_aroundOf] at h
    refine y_blk (t := 0) rfl (show fnd bk_X3_aroundOf 0 = some _ from rfl) aB_X3_aroundOf ?_
    refine wp_aload_n (v := ((54 : Nat) : Int)) rfl (Int.natCast_nonneg _) ?_
    refine y_get (show ash 54 = (3, 5) from rfl) (Nat.lt_of_lt_of_le (show 54 < 154 by decide) hS.1.1) (v := ((39 : Nat) : Int)) (hS.at 54 1 39 (by decide +kernel)) rfl ?_
    refine y_get (show ash 39 = (5, 4) from rfl) (Nat.lt_of_lt_of_le (show 39 < 154 by decide) hS.1.1) (v := ((40 : Nat) : Int)) (hS.at 39 1 40 (by decide +kernel)) rfl ?_
    refine wp_iload_n (v := v1) rfl ?_
    obtain ⟨c1, h⟩ := d_ite h
    refine y_iald (show ash 40 = (100, 8) from rfl) (Or.inl (Nat.lt_of_lt_of_le (show 40 < 154 by decide) hS.1.1)) (Nat.ne_of_lt (Nat.lt_of_lt_of_le (Nat.lt_of_lt_of_le (show 40 < 154 by decide) hS.1.1) hS.1.2)) c1 (v := M 40 (v1).toNat) rfl ?_
    refine wp_iconst ⟨by decide, by decide⟩ ?_
    refine wp_iload_n (v := v1) rfl ?_
    refine wp_ishl ?_
    refine wp_ior ?_
    cases h
    exact y_ret0 (Or.inl rfl) ⟨rfl, rfl⟩
  exact fun d hd => Ms.of (key d hd)
theorem aB_X3_hasItFrom : ∀ pc, aB 38 pc = fnd bk_X3_hasItFrom pc := fun _ => rfl
def l_X3_hasItFrom_9 (T : Nat) (v2 : Int) (v3 : Int) (M : aM) (k : Int → Option Int) : Nat → Int → Option Int
| 0, _ => none
| n + 1, v4 =>
 if (M 3 1) ≤ v4 then
 k v4 else
 (f_X11_hasBit T v3 v4 M).bind fun x4 =>
 if x4 = 0 then
 if aIn (v4 + 1) then
 l_X3_hasItFrom_9 T v2 v3 M k n (v4 + 1) else none else
 if v4 = v2 then
 some 1 else
 (f_X3_aroundOf T v2 M).bind fun x9 =>
 if 0 ≤ v4 ∧ v4 < 8 then
 if (aand x9 (axor (M 56 (v4).toNat) (-1))) = 0 then
 some 1 else
 if aIn (v4 + 1) then
 l_X3_hasItFrom_9 T v2 v3 M k n (v4 + 1) else none else none
theorem tl_X3_hasItFrom_9 {d : Nat} (hd : 1 ≤ d) {T : T3} {v2 : Int} {v3 : Int} {M : aM} {k : Int → Option Int} {y : Int}  (hS : Sh T.1 M)
    (hk : ∀ (v4 : Int) (u1 : aV), Sh T.1 M → k v4 = some y → Wp d 38 64 [] [(2, ((54 : Nat) : Int)), u1, (0, v2), (0, v3), (0, v4)] [] (M, T) (fun r2 σ2 => r2 = some (0, y) ∧ σ2 = (M, T))) :
    ∀ (n : Nat) (v4 : Int) (u1 : aV), Sh T.1 M → l_X3_hasItFrom_9 T.1 v2 v3 M k n v4 = some y → Wp d 38 9 [] [(2, ((54 : Nat) : Int)), u1, (0, v2), (0, v3), (0, v4)] [] (M, T) (fun r2 σ2 => r2 = some (0, y) ∧ σ2 = (M, T)) := by
  intro n
  induction n with
  | zero =>
    intro v4 u1 _ h
    exact nomatch (show (none : Option Int) = some y from h)
  | succ n ih =>
    intro v4 u1 sM h
    rw [l_X3_hasItFrom_9] at h
    refine y_blk (t := 9) rfl (show fnd bk_X3_hasItFrom 9 = some _ from rfl) aB_X3_hasItFrom ?_
    refine wp_iload (v := v4) rfl ?_
    refine wp_aload_n (v := ((54 : Nat) : Int)) rfl (Int.natCast_nonneg _) ?_
    refine y_get (show ash 54 = (3, 5) from rfl) (Nat.lt_of_lt_of_le (show 54 < 154 by decide) hS.1.1) (v := ((2 : Nat) : Int)) (sM.at 54 0 2 (by decide +kernel)) rfl ?_
    refine y_get (show ash 2 = (10, 19) from rfl) (Nat.lt_of_lt_of_le (show 2 < 154 by decide) hS.1.1) (v := ((3 : Nat) : Int)) (sM.at 2 3 3 (by decide +kernel)) rfl ?_
    refine wp_iconst ⟨by decide, by decide⟩ ?_
    refine y_iald (show ash 3 = (100, 8) from rfl) (Or.inl (Nat.lt_of_lt_of_le (show 3 < 154 by decide) hS.1.1)) (Nat.ne_of_lt (Nat.lt_of_lt_of_le (Nat.lt_of_lt_of_le (show 3 < 154 by decide) hS.1.1) hS.1.2)) ⟨by decide, by decide⟩ (v := M 3 1) rfl ?_
    refine wp_icmp_ge (fun c3 => ?_) (fun c3 => ?_)
    · rw [if_pos c3] at h
      exact hk v4 u1  sM h
    · rw [if_neg c3] at h
      refine wp_iload_n (v := v3) rfl ?_
      refine wp_iload (v := v4) rfl ?_
      obtain ⟨x4, e5, h⟩ := d_bind h
      refine y_callS (as := [(0, v3), (0, v4)]) (S1 := []) (Nat.le_of_ble_eq_true rfl) (by omega) (t_X11_hasBit sM e5) (Nat.le_of_ble_eq_true rfl) rfl (Nat.le_of_ble_eq_true rfl) (Nat.le_of_ble_eq_true rfl) rfl ?_
      refine wp_if_eq (fun c6 => ?_) (fun c6 => ?_)
      · rw [if_pos c6] at h
        refine y_blk (t := 58) rfl (show fnd bk_X3_hasItFrom 58 = some _ from rfl) aB_X3_hasItFrom ?_
        obtain ⟨c7, h⟩ := d_ite h
        refine y_iinc (L1 := [(2, ((54 : Nat) : Int)), u1, (0, v2), (0, v3), (0, (v4 + 1))]) rfl (Nat.le_of_ble_eq_true rfl) ⟨by decide, by decide⟩ c7 rfl ?_
        refine wp_goto ?_
        exact ih (v4 + 1) u1  sM h
      · rw [if_neg c6] at h
        refine wp_iload (v := v4) rfl ?_
        refine wp_iload_n (v := v2) rfl ?_
        refine wp_icmp_eq (fun c8 => ?_) (fun c8 => ?_)
        · rw [if_pos c8] at h
          refine y_blk (t := 56) rfl (show fnd bk_X3_hasItFrom 56 = some _ from rfl) aB_X3_hasItFrom ?_
          refine wp_iconst ⟨by decide, by decide⟩ ?_
          cases h
          exact y_ret0 (Or.inr (Or.inr rfl)) ⟨rfl, rfl⟩
        · rw [if_neg c8] at h
          refine wp_aload_n (v := ((54 : Nat) : Int)) rfl (Int.natCast_nonneg _) ?_
          refine wp_iload_n (v := v2) rfl ?_
          obtain ⟨x9, e10, h⟩ := d_bind h
          refine y_callV (as := [(0, v2)]) (S1 := []) (Nat.le_of_ble_eq_true rfl) (by omega) (t_X3_aroundOf sM e10) (Nat.le_of_ble_eq_true rfl) rfl (show ash 54 = (3, 5) from rfl) (Nat.lt_of_lt_of_le (show 54 < 154 by decide) hS.1.1) (Nat.le_of_ble_eq_true rfl) (Nat.le_of_ble_eq_true rfl) rfl ?_
          refine wp_aload_n (v := ((54 : Nat) : Int)) rfl (Int.natCast_nonneg _) ?_
          refine y_get (show ash 54 = (3, 5) from rfl) (Nat.lt_of_lt_of_le (show 54 < 154 by decide) hS.1.1) (v := ((56 : Nat) : Int)) (sM.at 54 3 56 (by decide +kernel)) rfl ?_
          refine wp_iload (v := v4) rfl ?_
          obtain ⟨c11, h⟩ := d_ite h
          refine y_iald (show ash 56 = (100, 8) from rfl) (Or.inl (Nat.lt_of_lt_of_le (show 56 < 154 by decide) hS.1.1)) (Nat.ne_of_lt (Nat.lt_of_lt_of_le (Nat.lt_of_lt_of_le (show 56 < 154 by decide) hS.1.1) hS.1.2)) c11 (v := M 56 (v4).toNat) rfl ?_
          refine wp_iconst ⟨by decide, by decide⟩ ?_
          refine wp_ixor ?_
          refine wp_iand ?_
          refine y_nez (fun c12 => ?_) (fun c12 => ?_)
          · rw [if_neg c12] at h
            refine y_blk (t := 58) rfl (show fnd bk_X3_hasItFrom 58 = some _ from rfl) aB_X3_hasItFrom ?_
            obtain ⟨c13, h⟩ := d_ite h
            refine y_iinc (L1 := [(2, ((54 : Nat) : Int)), u1, (0, v2), (0, v3), (0, (v4 + 1))]) rfl (Nat.le_of_ble_eq_true rfl) ⟨by decide, by decide⟩ c13 rfl ?_
            refine wp_goto ?_
            exact ih (v4 + 1) u1  sM h
          · rw [if_pos c12] at h
            refine y_blk (t := 56) rfl (show fnd bk_X3_hasItFrom 56 = some _ from rfl) aB_X3_hasItFrom ?_
            refine wp_iconst ⟨by decide, by decide⟩ ?_
            cases h
            exact y_ret0 (Or.inr (Or.inr rfl)) ⟨rfl, rfl⟩
def f_X3_hasItFrom (T : Nat) (v1 : Int) (v2 : Int) (M : aM) : Option Int :=
 (f_X3_aroundOf T v1 M).bind fun x1 =>
 l_X3_hasItFrom_9 T v2 x1 M (fun w14 =>
 some 0) FU 0
theorem t_X3_hasItFrom {T : T3} {v1 : Int} {v2 : Int} {M : aM} {y : Int}  (hS : Sh T.1 M) (h : f_X3_hasItFrom T.1 v1 v2 M = some y) : Mr 1 38 [(2, ((54 : Nat) : Int)), (0, v1), (0, v2)] M (some (0, y)) M T := by
  have key : ∀ d, 1 ≤ d → Wp d 38 0 [] [(2, ((54 : Nat) : Int)), (0, v1), (0, v2), (9, 0), (9, 0)] [] (M, T) (fun r2 σ2 => r2 = some (0, y) ∧ σ2 = (M, T)) := by
    intro d hd
    rw [f_X3_hasItFrom] at h
    refine y_blk (t := 0) rfl (show fnd bk_X3_hasItFrom 0 = some _ from rfl) aB_X3_hasItFrom ?_
    refine wp_aload_n (v := ((54 : Nat) : Int)) rfl (Int.natCast_nonneg _) ?_
    refine wp_iload_n (v := v1) rfl ?_
    obtain ⟨x1, e2, h⟩ := d_bind h
    refine y_callV (as := [(0, v1)]) (S1 := []) (Nat.le_of_ble_eq_true rfl) (by omega) (t_X3_aroundOf hS e2) (Nat.le_of_ble_eq_true rfl) rfl (show ash 54 = (3, 5) from rfl) (Nat.lt_of_lt_of_le (show 54 < 154 by decide) hS.1.1) (Nat.le_of_ble_eq_true rfl) (Nat.le_of_ble_eq_true rfl) rfl ?_
    refine y_stn (L1 := [(2, ((54 : Nat) : Int)), (0, v1), (0, v2), (0, x1), (9, 0)]) (Nat.le_of_ble_eq_true rfl) rfl ?_
    refine wp_iconst ⟨by decide, by decide⟩ ?_
    refine y_st (L1 := [(2, ((54 : Nat) : Int)), (0, v1), (0, v2), (0, x1), (0, 0)]) (Nat.le_of_ble_eq_true rfl) rfl ?_
    refine tl_X3_hasItFrom_9 (by omega) hS (fun w14 u15  s16 h => ?_) FU 0 (0, v1)  hS h
    refine y_blk (t := 64) rfl (show fnd bk_X3_hasItFrom 64 = some _ from rfl) aB_X3_hasItFrom ?_
    refine wp_iconst ⟨by decide, by decide⟩ ?_
    cases h
    exact y_ret0 (Or.inr (Or.inl rfl)) ⟨rfl, rfl⟩
  exact fun d hd => Ms.of (key d hd)
theorem aB_X3_goOnceMore : ∀ pc, aB 36 pc = fnd bk_X3_goOnceMore pc := fun _ => rfl
def l_X3_goOnceMore_20 (T : Nat) (v1 : Int) (v3 : Int) (k : Int → Int → aM → Option (Int × aM)) : Nat → Int → Int → aM → Option (Int × aM)
| 0, _, _, _ => none
| n + 1, v2, v4, M =>
 if (M 3 1) ≤ v4 then
 k v2 v4 M else
 if aIn (v3 * 8) then
 if aIn ((v3 * 8) + v4) then
 if 0 ≤ ((v3 * 8) + v4) ∧ ((v3 * 8) + v4) < 64 then
 if (M 55 (((v3 * 8) + v4)).toNat) = 1000000 then
 (f_X3_hasItFrom T v3 v4 M).bind fun x8 =>
 if x8 = 0 then
 if aIn (v4 + 1) then
 l_X3_goOnceMore_20 T v1 v3 k n v2 (v4 + 1) M else none else
 (some (aup M 55 (((v3 * 8) + v4)).toNat v1)).bind fun m12 =>
 if 0 ≤ v3 ∧ v3 < 8 then
 (some (aup m12 57 (v3).toNat (aor (m12 57 (v3).toNat) (ashl 1 v4)))).bind fun m15 =>
 if aIn (v4 + 1) then
 l_X3_goOnceMore_20 T v1 v3 k n 1 (v4 + 1) m15 else none else none else
 if aIn (v4 + 1) then
 l_X3_goOnceMore_20 T v1 v3 k n v2 (v4 + 1) M else none else none else none else none
theorem tl_X3_goOnceMore_20 {d : Nat} (hd : 2 ≤ d) {T : T3} {v1 : Int} {v3 : Int} {k : Int → Int → aM → Option (Int × aM)} {y : (Int × aM)}  {M0 : aM} (hS : Sh T.1 M0)
    (hk : ∀ (v2 v4 : Int) (M : aM), Sh T.1 M → k v2 v4 M = some y → Wp d 36 95 [] [(2, ((54 : Nat) : Int)), (0, v1), (0, v2), (0, v3), (0, v4)] [] (M, T) (fun r2 σ2 => r2 = some (0, y.1) ∧ σ2 = (y.2, T) ∧ Sh T.1 y.2)) :
    ∀ (n : Nat) (v2 v4 : Int) (M : aM), Sh T.1 M → l_X3_goOnceMore_20 T.1 v1 v3 k n v2 v4 M = some y → Wp d 36 20 [] [(2, ((54 : Nat) : Int)), (0, v1), (0, v2), (0, v3), (0, v4)] [] (M, T) (fun r2 σ2 => r2 = some (0, y.1) ∧ σ2 = (y.2, T) ∧ Sh T.1 y.2) := by
  intro n
  induction n with
  | zero =>
    intro v2 v4 M _ h
    exact nomatch (show (none : Option (Int × aM)) = some y from h)
  | succ n ih =>
    intro v2 v4 M sM h
    rw [l_X3_goOnceMore_20] at h
    refine y_blk (t := 20) rfl (show fnd bk_X3_goOnceMore 20 = some _ from rfl) aB_X3_goOnceMore ?_
    refine wp_iload (v := v4) rfl ?_
    refine wp_aload_n (v := ((54 : Nat) : Int)) rfl (Int.natCast_nonneg _) ?_
    refine y_get (show ash 54 = (3, 5) from rfl) (Nat.lt_of_lt_of_le (show 54 < 154 by decide) hS.1.1) (v := ((2 : Nat) : Int)) (sM.at 54 0 2 (by decide +kernel)) rfl ?_
    refine y_get (show ash 2 = (10, 19) from rfl) (Nat.lt_of_lt_of_le (show 2 < 154 by decide) hS.1.1) (v := ((3 : Nat) : Int)) (sM.at 2 3 3 (by decide +kernel)) rfl ?_
    refine wp_iconst ⟨by decide, by decide⟩ ?_
    refine y_iald (show ash 3 = (100, 8) from rfl) (Or.inl (Nat.lt_of_lt_of_le (show 3 < 154 by decide) hS.1.1)) (Nat.ne_of_lt (Nat.lt_of_lt_of_le (Nat.lt_of_lt_of_le (show 3 < 154 by decide) hS.1.1) hS.1.2)) ⟨by decide, by decide⟩ (v := M 3 1) rfl ?_
    refine wp_icmp_ge (fun c2 => ?_) (fun c2 => ?_)
    · rw [if_pos c2] at h
      exact hk v2 v4  M sM h
    · rw [if_neg c2] at h
      refine wp_aload_n (v := ((54 : Nat) : Int)) rfl (Int.natCast_nonneg _) ?_
      refine y_get (show ash 54 = (3, 5) from rfl) (Nat.lt_of_lt_of_le (show 54 < 154 by decide) hS.1.1) (v := ((55 : Nat) : Int)) (sM.at 54 2 55 (by decide +kernel)) rfl ?_
      refine wp_iload_n (v := v3) rfl ?_
      refine wp_bipush (by decide) ?_
      obtain ⟨c3, h⟩ := d_ite h
      refine wp_imul c3 ?_
      refine wp_iload (v := v4) rfl ?_
      obtain ⟨c4, h⟩ := d_ite h
      refine wp_iadd c4 ?_
      obtain ⟨c5, h⟩ := d_ite h
      refine y_iald (show ash 55 = (100, 64) from rfl) (Or.inl (Nat.lt_of_lt_of_le (show 55 < 154 by decide) hS.1.1)) (Nat.ne_of_lt (Nat.lt_of_lt_of_le (Nat.lt_of_lt_of_le (show 55 < 154 by decide) hS.1.1) hS.1.2)) c5 (v := M 55 (((v3 * 8) + v4)).toNat) rfl ?_
      refine y_ldc (v := 1000000) (by decide) rfl ?_
      refine y_ne (fun c6 => ?_) (fun c6 => ?_)
      · rw [if_neg c6] at h
        refine y_blk (t := 89) rfl (show fnd bk_X3_goOnceMore 89 = some _ from rfl) aB_X3_goOnceMore ?_
        obtain ⟨c7, h⟩ := d_ite h
        refine y_iinc (L1 := [(2, ((54 : Nat) : Int)), (0, v1), (0, v2), (0, v3), (0, (v4 + 1))]) rfl (Nat.le_of_ble_eq_true rfl) ⟨by decide, by decide⟩ c7 rfl ?_
        refine wp_goto ?_
        exact ih v2 (v4 + 1)  M sM h
      · rw [if_pos c6] at h
        refine wp_aload_n (v := ((54 : Nat) : Int)) rfl (Int.natCast_nonneg _) ?_
        refine wp_iload_n (v := v3) rfl ?_
        refine wp_iload (v := v4) rfl ?_
        obtain ⟨x8, e9, h⟩ := d_bind h
        refine y_callV (as := [(0, v3), (0, v4)]) (S1 := []) (Nat.le_of_ble_eq_true rfl) (by omega) (t_X3_hasItFrom sM e9) (Nat.le_of_ble_eq_true rfl) rfl (show ash 54 = (3, 5) from rfl) (Nat.lt_of_lt_of_le (show 54 < 154 by decide) hS.1.1) (Nat.le_of_ble_eq_true rfl) (Nat.le_of_ble_eq_true rfl) rfl ?_
        refine wp_if_eq (fun c10 => ?_) (fun c10 => ?_)
        · rw [if_pos c10] at h
          refine y_blk (t := 89) rfl (show fnd bk_X3_goOnceMore 89 = some _ from rfl) aB_X3_goOnceMore ?_
          obtain ⟨c11, h⟩ := d_ite h
          refine y_iinc (L1 := [(2, ((54 : Nat) : Int)), (0, v1), (0, v2), (0, v3), (0, (v4 + 1))]) rfl (Nat.le_of_ble_eq_true rfl) ⟨by decide, by decide⟩ c11 rfl ?_
          refine wp_goto ?_
          exact ih v2 (v4 + 1)  M sM h
        · rw [if_neg c10] at h
          refine wp_aload_n (v := ((54 : Nat) : Int)) rfl (Int.natCast_nonneg _) ?_
          refine y_get (show ash 54 = (3, 5) from rfl) (Nat.lt_of_lt_of_le (show 54 < 154 by decide) hS.1.1) (v := ((55 : Nat) : Int)) (sM.at 54 2 55 (by decide +kernel)) rfl ?_
          refine wp_iload_n (v := v3) rfl ?_
          refine wp_bipush (by decide) ?_
          refine wp_imul c3 ?_
          refine wp_iload (v := v4) rfl ?_
          refine wp_iadd c4 ?_
          refine wp_iload_n (v := v1) rfl ?_
          refine y_iast (show ash 55 = (100, 64) from rfl) (Nat.lt_of_lt_of_le (show 55 < 154 by decide) hS.1.1) c5 ?_
          obtain ⟨m12, em12, h⟩ := d_bind h
          have em12 := Option.some.inj em12
          have s13 : Sh T.1 m12 := em12 ▸ sM.up (Or.inl ⟨by rw [(show ash 55 = (100, 64) from rfl)]; exact Nat.le_of_ble_eq_true rfl, by rw [(show ash 55 = (100, 64) from rfl)]; exact Nat.le_of_ble_eq_true rfl⟩) (by have := (Nat.lt_of_lt_of_le (show 55 < 154 by decide) hS.1.1); have := hS.1.2; omega)
          rw [em12]
          refine wp_aload_n (v := ((54 : Nat) : Int)) rfl (Int.natCast_nonneg _) ?_
          refine y_get (show ash 54 = (3, 5) from rfl) (Nat.lt_of_lt_of_le (show 54 < 154 by decide) hS.1.1) (v := ((57 : Nat) : Int)) (s13.at 54 4 57 (by decide +kernel)) rfl ?_
          refine wp_iload_n (v := v3) rfl ?_
          refine wp_dup2 ⟨Or.inl rfl, Or.inr rfl⟩ ?_
          obtain ⟨c14, h⟩ := d_ite h
          refine y_iald (show ash 57 = (100, 8) from rfl) (Or.inl (Nat.lt_of_lt_of_le (show 57 < 154 by decide) hS.1.1)) (Nat.ne_of_lt (Nat.lt_of_lt_of_le (Nat.lt_of_lt_of_le (show 57 < 154 by decide) hS.1.1) hS.1.2)) c14 (v := m12 57 (v3).toNat) rfl ?_
          refine wp_iconst ⟨by decide, by decide⟩ ?_
          refine wp_iload (v := v4) rfl ?_
          refine wp_ishl ?_
          refine wp_ior ?_
          refine y_iast (show ash 57 = (100, 8) from rfl) (Nat.lt_of_lt_of_le (show 57 < 154 by decide) hS.1.1) c14 ?_
          obtain ⟨m15, em15, h⟩ := d_bind h
          have em15 := Option.some.inj em15
          have s16 : Sh T.1 m15 := em15 ▸ s13.up (Or.inl ⟨by rw [(show ash 57 = (100, 8) from rfl)]; exact Nat.le_of_ble_eq_true rfl, by rw [(show ash 57 = (100, 8) from rfl)]; exact Nat.le_of_ble_eq_true rfl⟩) (by have := (Nat.lt_of_lt_of_le (show 57 < 154 by decide) hS.1.1); have := hS.1.2; omega)
          rw [em15]
          refine wp_iconst ⟨by decide, by decide⟩ ?_
          refine y_stn (L1 := [(2, ((54 : Nat) : Int)), (0, v1), (0, 1), (0, v3), (0, v4)]) (Nat.le_of_ble_eq_true rfl) rfl ?_
          refine y_blk (t := 89) rfl (show fnd bk_X3_goOnceMore 89 = some _ from rfl) aB_X3_goOnceMore ?_
          obtain ⟨c17, h⟩ := d_ite h
          refine y_iinc (L1 := [(2, ((54 : Nat) : Int)), (0, v1), (0, 1), (0, v3), (0, (v4 + 1))]) rfl (Nat.le_of_ble_eq_true rfl) ⟨by decide, by decide⟩ c17 rfl ?_
          refine wp_goto ?_
          exact ih 1 (v4 + 1)  m15 s16 h
def l_X3_goOnceMore_4 (T : Nat) (v1 : Int) (k : Int → Int → aM → Option (Int × aM)) : Nat → Int → Int → aM → Option (Int × aM)
| 0, _, _, _ => none
| n + 1, v2, v3, M =>
 if (M 3 1) ≤ v3 then
 k v2 v3 M else
 l_X3_goOnceMore_20 T v1 v3 (fun w18 w19 m20 =>
 if aIn (v3 + 1) then
 l_X3_goOnceMore_4 T v1 k n w18 (v3 + 1) m20 else none) FU v2 0 M
theorem tl_X3_goOnceMore_4 {d : Nat} (hd : 2 ≤ d) {T : T3} {v1 : Int} {k : Int → Int → aM → Option (Int × aM)} {y : (Int × aM)}  {M0 : aM} (hS : Sh T.1 M0)
    (hk : ∀ (v2 v3 : Int) (u4 : aV) (M : aM), Sh T.1 M → k v2 v3 M = some y → Wp d 36 101 [] [(2, ((54 : Nat) : Int)), (0, v1), (0, v2), (0, v3), u4] [] (M, T) (fun r2 σ2 => r2 = some (0, y.1) ∧ σ2 = (y.2, T) ∧ Sh T.1 y.2)) :
    ∀ (n : Nat) (v2 v3 : Int) (u4 : aV) (M : aM), Sh T.1 M → l_X3_goOnceMore_4 T.1 v1 k n v2 v3 M = some y → Wp d 36 4 [] [(2, ((54 : Nat) : Int)), (0, v1), (0, v2), (0, v3), u4] [] (M, T) (fun r2 σ2 => r2 = some (0, y.1) ∧ σ2 = (y.2, T) ∧ Sh T.1 y.2) := by
  intro n
  induction n with
  | zero =>
    intro v2 v3 u4 M _ h
    exact nomatch (show (none : Option (Int × aM)) = some y from h)
  | succ n ih =>
    intro v2 v3 u4 M sM h
    rw [l_X3_goOnceMore_4] at h
    refine y_blk (t := 4) rfl (show fnd bk_X3_goOnceMore 4 = some _ from rfl) aB_X3_goOnceMore ?_
    refine wp_iload_n (v := v3) rfl ?_
    refine wp_aload_n (v := ((54 : Nat) : Int)) rfl (Int.natCast_nonneg _) ?_
    refine y_get (show ash 54 = (3, 5) from rfl) (Nat.lt_of_lt_of_le (show 54 < 154 by decide) hS.1.1) (v := ((2 : Nat) : Int)) (sM.at 54 0 2 (by decide +kernel)) rfl ?_
    refine y_get (show ash 2 = (10, 19) from rfl) (Nat.lt_of_lt_of_le (show 2 < 154 by decide) hS.1.1) (v := ((3 : Nat) : Int)) (sM.at 2 3 3 (by decide +kernel)) rfl ?_
    refine wp_iconst ⟨by decide, by decide⟩ ?_
    refine y_iald (show ash 3 = (100, 8) from rfl) (Or.inl (Nat.lt_of_lt_of_le (show 3 < 154 by decide) hS.1.1)) (Nat.ne_of_lt (Nat.lt_of_lt_of_le (Nat.lt_of_lt_of_le (show 3 < 154 by decide) hS.1.1) hS.1.2)) ⟨by decide, by decide⟩ (v := M 3 1) rfl ?_
    refine wp_icmp_ge (fun c1 => ?_) (fun c1 => ?_)
    · rw [if_pos c1] at h
      exact hk v2 v3 u4 M sM h
    · rw [if_neg c1] at h
      refine wp_iconst ⟨by decide, by decide⟩ ?_
      refine y_st (L1 := [(2, ((54 : Nat) : Int)), (0, v1), (0, v2), (0, v3), (0, 0)]) (Nat.le_of_ble_eq_true rfl) rfl ?_
      refine tl_X3_goOnceMore_20 (by omega) hS (fun w18 w19  m20 s21 h => ?_) FU v2 0  M sM h
      refine y_blk (t := 95) rfl (show fnd bk_X3_goOnceMore 95 = some _ from rfl) aB_X3_goOnceMore ?_
      obtain ⟨c22, h⟩ := d_ite h
      refine y_iinc (L1 := [(2, ((54 : Nat) : Int)), (0, v1), (0, w18), (0, (v3 + 1)), (0, w19)]) rfl (Nat.le_of_ble_eq_true rfl) ⟨by decide, by decide⟩ c22 rfl ?_
      refine wp_goto ?_
      exact ih w18 (v3 + 1) (0, w19) m20 s21 h
def f_X3_goOnceMore (T : Nat) (v1 : Int) (M : aM) : Option (Int × aM) :=
 l_X3_goOnceMore_4 T v1 (fun w23 w24 m26 =>
 (some (acpy m26 57 56 0 0 8)).bind fun m28 =>
 if w23 = 0 ∨ w23 = 1 then
 some (w23, m28) else none) FU 0 0 M
theorem t_X3_goOnceMore {T : T3} {v1 : Int} {M : aM} {y : (Int × aM)}  (hS : Sh T.1 M) (h : f_X3_goOnceMore T.1 v1 M = some y) : Mr 2 36 [(2, ((54 : Nat) : Int)), (0, v1)] M (some (0, y.1)) y.2 T ∧ Sh T.1 y.2 := by
  have key : ∀ d, 2 ≤ d → Wp d 36 0 [] [(2, ((54 : Nat) : Int)), (0, v1), (9, 0), (9, 0), (9, 0)] [] (M, T) (fun r2 σ2 => r2 = some (0, y.1) ∧ σ2 = (y.2, T) ∧ Sh T.1 y.2) := by
    intro d hd
    rw [f_X3_goOnceMore] at h
    refine y_blk (t := 0) rfl (show fnd bk_X3_goOnceMore 0 = some _ from rfl) aB_X3_goOnceMore ?_
    refine wp_iconst ⟨by decide, by decide⟩ ?_
    refine y_stn (L1 := [(2, ((54 : Nat) : Int)), (0, v1), (0, 0), (9, 0), (9, 0)]) (Nat.le_of_ble_eq_true rfl) rfl ?_
    refine wp_iconst ⟨by decide, by decide⟩ ?_
    refine y_stn (L1 := [(2, ((54 : Nat) : Int)), (0, v1), (0, 0), (0, 0), (9, 0)]) (Nat.le_of_ble_eq_true rfl) rfl ?_
    refine tl_X3_goOnceMore_4 (by omega) hS (fun w23 w24 u25 m26 s27 h => ?_) FU 0 0 (9, 0) M hS h
    refine y_blk (t := 101) rfl (show fnd bk_X3_goOnceMore 101 = some _ from rfl) aB_X3_goOnceMore ?_
    refine wp_aload_n (v := ((54 : Nat) : Int)) rfl (Int.natCast_nonneg _) ?_
    refine y_get (show ash 54 = (3, 5) from rfl) (Nat.lt_of_lt_of_le (show 54 < 154 by decide) hS.1.1) (v := ((57 : Nat) : Int)) (s27.at 54 4 57 (by decide +kernel)) rfl ?_
    refine wp_iconst ⟨by decide, by decide⟩ ?_
    refine wp_aload_n (v := ((54 : Nat) : Int)) rfl (Int.natCast_nonneg _) ?_
    refine y_get (show ash 54 = (3, 5) from rfl) (Nat.lt_of_lt_of_le (show 54 < 154 by decide) hS.1.1) (v := ((56 : Nat) : Int)) (s27.at 54 3 56 (by decide +kernel)) rfl ?_
    refine wp_iconst ⟨by decide, by decide⟩ ?_
    refine wp_bipush (by decide) ?_
    refine y_cpy (by omega) (Nat.le_of_ble_eq_true rfl) (show ash 57 = (100, 8) from rfl) (show ash 56 = (100, 8) from rfl) (Nat.lt_of_lt_of_le (show 57 < 154 by decide) hS.1.1) (Nat.lt_of_lt_of_le (show 56 < 154 by decide) hS.1.1) (by decide) (by decide) (by decide) (by decide) (by decide) ?_
    obtain ⟨m28, em28, h⟩ := d_bind h
    have em28 := Option.some.inj em28
    have s29 : Sh T.1 m28 := em28 ▸ s27.cpy (by rw [(show ash 56 = (100, 8) from rfl)]) (by have := (Nat.lt_of_lt_of_le (show 56 < 154 by decide) hS.1.1); have := hS.1.2; omega)
    rw [show ((8 : Int)).toNat = 8 from rfl, show ((0 : Int)).toNat = 0 from rfl, em28]
    refine wp_iload_n (v := w23) rfl ?_
    obtain ⟨c30, h⟩ := d_ite h
    cases h
    exact y_ret0 (Or.inr c30) ⟨rfl, rfl, s29⟩
  exact ⟨fun d hd => Ms.of3 (key d hd), Ms.sh (key 2 (Nat.le_refl _))⟩

/-! ===== methods as functions ===== -/
theorem aB_J6_bitCount_0f7a4 : ∀ pc, aB 333 pc = fnd bk_J6_bitCount_0f7a4 pc := fun _ => rfl
def f_J6_bitCount_0f7a4 (T : Nat) (v0 : Int) (M : aM) : Option Int :=
 if aIn (v0 - (aand (aushr v0 1) 1431655765)) then
 if aIn ((aand (v0 - (aand (aushr v0 1) 1431655765)) 858993459) + (aand (aushr (v0 - (aand (aushr v0 1) 1431655765)) 2) 858993459)) then
 if aIn (((aand (v0 - (aand (aushr v0 1) 1431655765)) 858993459) + (aand (aushr (v0 - (aand (aushr v0 1) 1431655765)) 2) 858993459)) + (aushr ((aand (v0 - (aand (aushr v0 1) 1431655765)) 858993459) + (aand (aushr (v0 - (aand (aushr v0 1) 1431655765)) 2) 858993459)) 4)) then
 if aIn ((aand (((aand (v0 - (aand (aushr v0 1) 1431655765)) 858993459) + (aand (aushr (v0 - (aand (aushr v0 1) 1431655765)) 2) 858993459)) + (aushr ((aand (v0 - (aand (aushr v0 1) 1431655765)) 858993459) + (aand (aushr (v0 - (aand (aushr v0 1) 1431655765)) 2) 858993459)) 4)) 252645135) + (aushr (aand (((aand (v0 - (aand (aushr v0 1) 1431655765)) 858993459) + (aand (aushr (v0 - (aand (aushr v0 1) 1431655765)) 2) 858993459)) + (aushr ((aand (v0 - (aand (aushr v0 1) 1431655765)) 858993459) + (aand (aushr (v0 - (aand (aushr v0 1) 1431655765)) 2) 858993459)) 4)) 252645135) 8)) then
 if aIn (((aand (((aand (v0 - (aand (aushr v0 1) 1431655765)) 858993459) + (aand (aushr (v0 - (aand (aushr v0 1) 1431655765)) 2) 858993459)) + (aushr ((aand (v0 - (aand (aushr v0 1) 1431655765)) 858993459) + (aand (aushr (v0 - (aand (aushr v0 1) 1431655765)) 2) 858993459)) 4)) 252645135) + (aushr (aand (((aand (v0 - (aand (aushr v0 1) 1431655765)) 858993459) + (aand (aushr (v0 - (aand (aushr v0 1) 1431655765)) 2) 858993459)) + (aushr ((aand (v0 - (aand (aushr v0 1) 1431655765)) 858993459) + (aand (aushr (v0 - (aand (aushr v0 1) 1431655765)) 2) 858993459)) 4)) 252645135) 8)) + (aushr ((aand (((aand (v0 - (aand (aushr v0 1) 1431655765)) 858993459) + (aand (aushr (v0 - (aand (aushr v0 1) 1431655765)) 2) 858993459)) + (aushr ((aand (v0 - (aand (aushr v0 1) 1431655765)) 858993459) + (aand (aushr (v0 - (aand (aushr v0 1) 1431655765)) 2) 858993459)) 4)) 252645135) + (aushr (aand (((aand (v0 - (aand (aushr v0 1) 1431655765)) 858993459) + (aand (aushr (v0 - (aand (aushr v0 1) 1431655765)) 2) 858993459)) + (aushr ((aand (v0 - (aand (aushr v0 1) 1431655765)) 858993459) + (aand (aushr (v0 - (aand (aushr v0 1) 1431655765)) 2) 858993459)) 4)) 252645135) 8)) 16)) then
 some (aand (((aand (((aand (v0 - (aand (aushr v0 1) 1431655765)) 858993459) + (aand (aushr (v0 - (aand (aushr v0 1) 1431655765)) 2) 858993459)) + (aushr ((aand (v0 - (aand (aushr v0 1) 1431655765)) 858993459) + (aand (aushr (v0 - (aand (aushr v0 1) 1431655765)) 2) 858993459)) 4)) 252645135) + (aushr (aand (((aand (v0 - (aand (aushr v0 1) 1431655765)) 858993459) + (aand (aushr (v0 - (aand (aushr v0 1) 1431655765)) 2) 858993459)) + (aushr ((aand (v0 - (aand (aushr v0 1) 1431655765)) 858993459) + (aand (aushr (v0 - (aand (aushr v0 1) 1431655765)) 2) 858993459)) 4)) 252645135) 8)) + (aushr ((aand (((aand (v0 - (aand (aushr v0 1) 1431655765)) 858993459) + (aand (aushr (v0 - (aand (aushr v0 1) 1431655765)) 2) 858993459)) + (aushr ((aand (v0 - (aand (aushr v0 1) 1431655765)) 858993459) + (aand (aushr (v0 - (aand (aushr v0 1) 1431655765)) 2) 858993459)) 4)) 252645135) + (aushr (aand (((aand (v0 - (aand (aushr v0 1) 1431655765)) 858993459) + (aand (aushr (v0 - (aand (aushr v0 1) 1431655765)) 2) 858993459)) + (aushr ((aand (v0 - (aand (aushr v0 1) 1431655765)) 858993459) + (aand (aushr (v0 - (aand (aushr v0 1) 1431655765)) 2) 858993459)) 4)) 252645135) 8)) 16)) 63) else none else none else none else none else none
theorem t_J6_bitCount_0f7a4 {T : T3} {v0 : Int} {M : aM} {y : Int}  (hS : Sh T.1 M) (h : f_J6_bitCount_0f7a4 T.1 v0 M = some y) : Mr 0 333 [(0, v0)] M (some (0, y)) M T := by
  have key : ∀ d, 0 ≤ d → Wp d 333 0 [] [(0, v0)] [] (M, T) (fun r2 σ2 => r2 = some (0, y) ∧ σ2 = (M, T)) := by
    intro d hd
    rw [f_J6_bitCount_0f7a4] at h
    refine y_blk (t := 0) rfl (show fnd bk_J6_bitCount_0f7a4 0 = some _ from rfl) aB_J6_bitCount_0f7a4 ?_
    refine wp_iload_n (v := v0) rfl ?_
    refine wp_iload_n (v := v0) rfl ?_
    refine wp_iconst ⟨by decide, by decide⟩ ?_
    refine wp_iushr ?_
    refine y_ldc_w (v := 1431655765) (by decide) rfl ?_
    refine wp_iand ?_
    obtain ⟨c1, h⟩ := d_ite h
    refine wp_isub c1 ?_
    refine y_stn (L1 := [(0, (v0 - (aand (aushr v0 1) 1431655765)))]) (Nat.le_of_ble_eq_true rfl) rfl ?_
    refine wp_iload_n (v := (v0 - (aand (aushr v0 1) 1431655765))) rfl ?_
    refine y_ldc_w (v := 858993459) (by decide) rfl ?_
    refine wp_iand ?_
    refine wp_iload_n (v := (v0 - (aand (aushr v0 1) 1431655765))) rfl ?_
    refine wp_iconst ⟨by decide, by decide⟩ ?_
    refine wp_iushr ?_
    refine y_ldc_w (v := 858993459) (by decide) rfl ?_
    refine wp_iand ?_
    obtain ⟨c2, h⟩ := d_ite h
    refine wp_iadd c2 ?_
    refine y_stn (L1 := [(0, ((aand (v0 - (aand (aushr v0 1) 1431655765)) 858993459) + (aand (aushr (v0 - (aand (aushr v0 1) 1431655765)) 2) 858993459)))]) (Nat.le_of_ble_eq_true rfl) rfl ?_
    refine wp_iload_n (v := ((aand (v0 - (aand (aushr v0 1) 1431655765)) 858993459) + (aand (aushr (v0 - (aand (aushr v0 1) 1431655765)) 2) 858993459))) rfl ?_
    refine wp_iload_n (v := ((aand (v0 - (aand (aushr v0 1) 1431655765)) 858993459) + (aand (aushr (v0 - (aand (aushr v0 1) 1431655765)) 2) 858993459))) rfl ?_
    refine wp_iconst ⟨by decide, by decide⟩ ?_
    refine wp_iushr ?_
    obtain ⟨c3, h⟩ := d_ite h
    refine wp_iadd c3 ?_
    refine y_ldc_w (v := 252645135) (by decide) rfl ?_
    refine wp_iand ?_
    refine y_stn (L1 := [(0, (aand (((aand (v0 - (aand (aushr v0 1) 1431655765)) 858993459) + (aand (aushr (v0 - (aand (aushr v0 1) 1431655765)) 2) 858993459)) + (aushr ((aand (v0 - (aand (aushr v0 1) 1431655765)) 858993459) + (aand (aushr (v0 - (aand (aushr v0 1) 1431655765)) 2) 858993459)) 4)) 252645135))]) (Nat.le_of_ble_eq_true rfl) rfl ?_
    refine wp_iload_n (v := (aand (((aand (v0 - (aand (aushr v0 1) 1431655765)) 858993459) + (aand (aushr (v0 - (aand (aushr v0 1) 1431655765)) 2) 858993459)) + (aushr ((aand (v0 - (aand (aushr v0 1) 1431655765)) 858993459) + (aand (aushr (v0 - (aand (aushr v0 1) 1431655765)) 2) 858993459)) 4)) 252645135)) rfl ?_
    refine wp_iload_n (v := (aand (((aand (v0 - (aand (aushr v0 1) 1431655765)) 858993459) + (aand (aushr (v0 - (aand (aushr v0 1) 1431655765)) 2) 858993459)) + (aushr ((aand (v0 - (aand (aushr v0 1) 1431655765)) 858993459) + (aand (aushr (v0 - (aand (aushr v0 1) 1431655765)) 2) 858993459)) 4)) 252645135)) rfl ?_
    refine wp_bipush (by decide) ?_
    refine wp_iushr ?_
    obtain ⟨c4, h⟩ := d_ite h
    refine wp_iadd c4 ?_
    refine y_stn (L1 := [(0, ((aand (((aand (v0 - (aand (aushr v0 1) 1431655765)) 858993459) + (aand (aushr (v0 - (aand (aushr v0 1) 1431655765)) 2) 858993459)) + (aushr ((aand (v0 - (aand (aushr v0 1) 1431655765)) 858993459) + (aand (aushr (v0 - (aand (aushr v0 1) 1431655765)) 2) 858993459)) 4)) 252645135) + (aushr (aand (((aand (v0 - (aand (aushr v0 1) 1431655765)) 858993459) + (aand (aushr (v0 - (aand (aushr v0 1) 1431655765)) 2) 858993459)) + (aushr ((aand (v0 - (aand (aushr v0 1) 1431655765)) 858993459) + (aand (aushr (v0 - (aand (aushr v0 1) 1431655765)) 2) 858993459)) 4)) 252645135) 8)))]) (Nat.le_of_ble_eq_true rfl) rfl ?_
    refine wp_iload_n (v := ((aand (((aand (v0 - (aand (aushr v0 1) 1431655765)) 858993459) + (aand (aushr (v0 - (aand (aushr v0 1) 1431655765)) 2) 858993459)) + (aushr ((aand (v0 - (aand (aushr v0 1) 1431655765)) 858993459) + (aand (aushr (v0 - (aand (aushr v0 1) 1431655765)) 2) 858993459)) 4)) 252645135) + (aushr (aand (((aand (v0 - (aand (aushr v0 1) 1431655765)) 858993459) + (aand (aushr (v0 - (aand (aushr v0 1) 1431655765)) 2) 858993459)) + (aushr ((aand (v0 - (aand (aushr v0 1) 1431655765)) 858993459) + (aand (aushr (v0 - (aand (aushr v0 1) 1431655765)) 2) 858993459)) 4)) 252645135) 8))) rfl ?_
    refine wp_iload_n (v := ((aand (((aand (v0 - (aand (aushr v0 1) 1431655765)) 858993459) + (aand (aushr (v0 - (aand (aushr v0 1) 1431655765)) 2) 858993459)) + (aushr ((aand (v0 - (aand (aushr v0 1) 1431655765)) 858993459) + (aand (aushr (v0 - (aand (aushr v0 1) 1431655765)) 2) 858993459)) 4)) 252645135) + (aushr (aand (((aand (v0 - (aand (aushr v0 1) 1431655765)) 858993459) + (aand (aushr (v0 - (aand (aushr v0 1) 1431655765)) 2) 858993459)) + (aushr ((aand (v0 - (aand (aushr v0 1) 1431655765)) 858993459) + (aand (aushr (v0 - (aand (aushr v0 1) 1431655765)) 2) 858993459)) 4)) 252645135) 8))) rfl ?_
    refine wp_bipush (by decide) ?_
    refine wp_iushr ?_
    obtain ⟨c5, h⟩ := d_ite h
    refine wp_iadd c5 ?_
    refine y_stn (L1 := [(0, (((aand (((aand (v0 - (aand (aushr v0 1) 1431655765)) 858993459) + (aand (aushr (v0 - (aand (aushr v0 1) 1431655765)) 2) 858993459)) + (aushr ((aand (v0 - (aand (aushr v0 1) 1431655765)) 858993459) + (aand (aushr (v0 - (aand (aushr v0 1) 1431655765)) 2) 858993459)) 4)) 252645135) + (aushr (aand (((aand (v0 - (aand (aushr v0 1) 1431655765)) 858993459) + (aand (aushr (v0 - (aand (aushr v0 1) 1431655765)) 2) 858993459)) + (aushr ((aand (v0 - (aand (aushr v0 1) 1431655765)) 858993459) + (aand (aushr (v0 - (aand (aushr v0 1) 1431655765)) 2) 858993459)) 4)) 252645135) 8)) + (aushr ((aand (((aand (v0 - (aand (aushr v0 1) 1431655765)) 858993459) + (aand (aushr (v0 - (aand (aushr v0 1) 1431655765)) 2) 858993459)) + (aushr ((aand (v0 - (aand (aushr v0 1) 1431655765)) 858993459) + (aand (aushr (v0 - (aand (aushr v0 1) 1431655765)) 2) 858993459)) 4)) 252645135) + (aushr (aand (((aand (v0 - (aand (aushr v0 1) 1431655765)) 858993459) + (aand (aushr (v0 - (aand (aushr v0 1) 1431655765)) 2) 858993459)) + (aushr ((aand (v0 - (aand (aushr v0 1) 1431655765)) 858993459) + (aand (aushr (v0 - (aand (aushr v0 1) 1431655765)) 2) 858993459)) 4)) 252645135) 8)) 16)))]) (Nat.le_of_ble_eq_true rfl) rfl ?_
    refine wp_iload_n (v := (((aand (((aand (v0 - (aand (aushr v0 1) 1431655765)) 858993459) + (aand (aushr (v0 - (aand (aushr v0 1) 1431655765)) 2) 858993459)) + (aushr ((aand (v0 - (aand (aushr v0 1) 1431655765)) 858993459) + (aand (aushr (v0 - (aand (aushr v0 1) 1431655765)) 2) 858993459)) 4)) 252645135) + (aushr (aand (((aand (v0 - (aand (aushr v0 1) 1431655765)) 858993459) + (aand (aushr (v0 - (aand (aushr v0 1) 1431655765)) 2) 858993459)) + (aushr ((aand (v0 - (aand (aushr v0 1) 1431655765)) 858993459) + (aand (aushr (v0 - (aand (aushr v0 1) 1431655765)) 2) 858993459)) 4)) 252645135) 8)) + (aushr ((aand (((aand (v0 - (aand (aushr v0 1) 1431655765)) 858993459) + (aand (aushr (v0 - (aand (aushr v0 1) 1431655765)) 2) 858993459)) + (aushr ((aand (v0 - (aand (aushr v0 1) 1431655765)) 858993459) + (aand (aushr (v0 - (aand (aushr v0 1) 1431655765)) 2) 858993459)) 4)) 252645135) + (aushr (aand (((aand (v0 - (aand (aushr v0 1) 1431655765)) 858993459) + (aand (aushr (v0 - (aand (aushr v0 1) 1431655765)) 2) 858993459)) + (aushr ((aand (v0 - (aand (aushr v0 1) 1431655765)) 858993459) + (aand (aushr (v0 - (aand (aushr v0 1) 1431655765)) 2) 858993459)) 4)) 252645135) 8)) 16))) rfl ?_
    refine wp_bipush (by decide) ?_
    refine wp_iand ?_
    cases h
    exact y_ret0 (Or.inl rfl) ⟨rfl, rfl⟩
  exact fun d hd => Ms.of (key d hd)
theorem aB_X0_allChances : ∀ pc, aB 1 pc = fnd bk_X0_allChances pc := fun _ => rfl
def l_X0_allChances_4 (T : Nat)  (M : aM) (k : Int → Int → Option Int) : Nat → Int → Int → Option Int
| 0, _, _ => none
| n + 1, v1, v3 =>
 (f_J6_bitCount_0f7a4 T (M 35 3) M).bind fun x1 =>
 if x1 ≤ v3 then
 k v1 v3 else
 if aInL (v1 * 100) then
 if aIn (v3 + 1) then
 l_X0_allChances_4 T M k n (v1 * 100) (v3 + 1) else none else none
theorem tl_X0_allChances_4 {d : Nat} (hd : 1 ≤ d) {T : T3}  {M : aM} {k : Int → Int → Option Int} {y : Int}  (hS : Sh T.1 M)
    (hk : ∀ (v1 v3 : Int), Sh T.1 M → k v1 v3 = some y → Wp d 1 30 [] [(2, ((58 : Nat) : Int)), (1, v1), (9, 0), (0, v3)] [] (M, T) (fun r2 σ2 => r2 = some (1, y) ∧ σ2 = (M, T))) :
    ∀ (n : Nat) (v1 v3 : Int), Sh T.1 M → l_X0_allChances_4 T.1 M k n v1 v3 = some y → Wp d 1 4 [] [(2, ((58 : Nat) : Int)), (1, v1), (9, 0), (0, v3)] [] (M, T) (fun r2 σ2 => r2 = some (1, y) ∧ σ2 = (M, T)) := by
  intro n
  induction n with
  | zero =>
    intro v1 v3 _ h
    exact nomatch (show (none : Option Int) = some y from h)
  | succ n ih =>
    intro v1 v3 sM h
    rw [l_X0_allChances_4] at h
    refine y_blk (t := 4) rfl (show fnd bk_X0_allChances 4 = some _ from rfl) aB_X0_allChances ?_
    refine wp_iload_n (v := v3) rfl ?_
    refine wp_aload_n (v := ((58 : Nat) : Int)) rfl (Int.natCast_nonneg _) ?_
    refine y_get (show ash 58 = (0, 4) from rfl) (Nat.lt_of_lt_of_le (show 58 < 154 by decide) hS.1.1) (v := ((35 : Nat) : Int)) (sM.at 58 1 35 (by decide +kernel)) rfl ?_
    refine y_get (show ash 35 = (8, 5) from rfl) (Nat.lt_of_lt_of_le (show 35 < 154 by decide) hS.1.1) (v := M 35 3) rfl rfl ?_
    obtain ⟨x1, e2, h⟩ := d_bind h
    refine y_callS (as := [(0, (M 35 3))]) (S1 := [(0, v3)]) (Nat.le_of_ble_eq_true rfl) (by omega) (t_J6_bitCount_0f7a4 sM e2) (Nat.le_of_ble_eq_true rfl) rfl (Nat.le_of_ble_eq_true rfl) (Nat.le_of_ble_eq_true rfl) rfl ?_
    refine wp_icmp_ge (fun c3 => ?_) (fun c3 => ?_)
    · rw [if_pos c3] at h
      exact hk v1 v3   sM h
    · rw [if_neg c3] at h
      refine wp_lload_n (v := v1) rfl ?_
      refine y_ldc2 (v := 100) (by decide) rfl ?_
      obtain ⟨c4, h⟩ := d_ite h
      refine wp_lmul c4 ?_
      refine y_lstn (L1 := [(2, ((58 : Nat) : Int)), (1, (v1 * 100)), (9, 0), (0, v3)]) (Nat.le_of_ble_eq_true rfl) rfl ?_
      obtain ⟨c5, h⟩ := d_ite h
      refine y_iinc (L1 := [(2, ((58 : Nat) : Int)), (1, (v1 * 100)), (9, 0), (0, (v3 + 1))]) rfl (Nat.le_of_ble_eq_true rfl) ⟨by decide, by decide⟩ c5 rfl ?_
      refine wp_goto ?_
      exact ih (v1 * 100) (v3 + 1)   sM h
def f_X0_allChances (T : Nat)  (M : aM) : Option Int :=
 l_X0_allChances_4 T M (fun w6 w7 =>
 some w6) FU 1 0
theorem t_X0_allChances {T : T3}  {M : aM} {y : Int}  (hS : Sh T.1 M) (h : f_X0_allChances T.1  M = some y) : Mr 1 1 [(2, ((58 : Nat) : Int))] M (some (1, y)) M T := by
  have key : ∀ d, 1 ≤ d → Wp d 1 0 [] [(2, ((58 : Nat) : Int)), (9, 0), (9, 0), (9, 0)] [] (M, T) (fun r2 σ2 => r2 = some (1, y) ∧ σ2 = (M, T)) := by
    intro d hd
    rw [f_X0_allChances] at h
    refine y_blk (t := 0) rfl (show fnd bk_X0_allChances 0 = some _ from rfl) aB_X0_allChances ?_
    refine y_lconst (v := 1) rfl ?_
    refine y_lstn (L1 := [(2, ((58 : Nat) : Int)), (1, 1), (9, 0), (9, 0)]) (Nat.le_of_ble_eq_true rfl) rfl ?_
    refine wp_iconst ⟨by decide, by decide⟩ ?_
    refine y_stn (L1 := [(2, ((58 : Nat) : Int)), (1, 1), (9, 0), (0, 0)]) (Nat.le_of_ble_eq_true rfl) rfl ?_
    refine tl_X0_allChances_4 (by omega) hS (fun w6 w7   s8 h => ?_) FU 1 0   hS h
    refine y_blk (t := 30) rfl (show fnd bk_X0_allChances 30 = some _ from rfl) aB_X0_allChances ?_
    refine wp_lload_n (v := w6) rfl ?_
    cases h
    exact wp_lreturn ⟨rfl, rfl⟩
  exact fun d hd => Ms.of (key d hd)
theorem aB_X11_hasBit : ∀ pc, aB 181 pc = fnd bk_X11_hasBit pc := fun _ => rfl
def f_X11_hasBit (T : Nat) (v0 : Int) (v1 : Int) (M : aM) : Option Int :=
 if (aand (ashr v0 v1) 1) = 1 then
 some 1 else
 some 0
theorem t_X11_hasBit {T : T3} {v0 : Int} {v1 : Int} {M : aM} {y : Int}  (hS : Sh T.1 M) (h : f_X11_hasBit T.1 v0 v1 M = some y) : Mr 0 181 [(0, v0), (0, v1)] M (some (0, y)) M T := by
  have key : ∀ d, 0 ≤ d → Wp d 181 0 [] [(0, v0), (0, v1)] [] (M, T) (fun r2 σ2 => r2 = some (0, y) ∧ σ2 = (M, T)) := by
    intro d hd
    rw [f_X11_hasBit] at h
    refine y_blk (t := 0) rfl (show fnd bk_X11_hasBit 0 = some _ from rfl) aB_X11_hasBit ?_
    refine wp_iload_n (v := v0) rfl ?_
    refine wp_iload_n (v := v1) rfl ?_
    refine wp_ishr ?_
    refine wp_iconst ⟨by decide, by decide⟩ ?_
    refine wp_iand ?_
    refine wp_iconst ⟨by decide, by decide⟩ ?_
    refine y_ne (fun c1 => ?_) (fun c1 => ?_)
    · rw [if_neg c1] at h
      refine y_blk (t := 13) rfl (show fnd bk_X11_hasBit 13 = some _ from rfl) aB_X11_hasBit ?_
      refine wp_iconst ⟨by decide, by decide⟩ ?_
      refine y_blk (t := 14) rfl (show fnd bk_X11_hasBit 14 = some _ from rfl) aB_X11_hasBit ?_
      cases h
      exact y_ret0 (Or.inr (Or.inl rfl)) ⟨rfl, rfl⟩
    · rw [if_pos c1] at h
      refine wp_iconst ⟨by decide, by decide⟩ ?_
      refine wp_goto ?_
      refine y_blk (t := 14) rfl (show fnd bk_X11_hasBit 14 = some _ from rfl) aB_X11_hasBit ?_
      cases h
      exact y_ret0 (Or.inr (Or.inr rfl)) ⟨rfl, rfl⟩
  exact fun d hd => Ms.of (key d hd)
theorem aB_X5_shortens : ∀ pc, aB 52 pc = fnd bk_X5_shortens pc := fun _ => rfl
def f_X5_shortens (T : Nat) (e0 : Nat) (v1 : Int) (v2 : Int) (v3 : Int) (M : aM) : Option (Int × aM) :=
 if 0 ≤ v1 ∧ v1 < 64 then
 if aIn ((M (e0 + 2) (v1).toNat) + v3) then
 if 0 ≤ v2 ∧ v2 < 64 then
 if (M (e0 + 2) (v2).toNat) ≤ ((M (e0 + 2) (v1).toNat) + v3) then
 if aIn ((M (e0 + 2) (v2).toNat) + v3) then
 if (M (e0 + 2) (v1).toNat) ≤ ((M (e0 + 2) (v2).toNat) + v3) then
 some (0, M) else
 (some (aup M (e0 + 2) (v1).toNat ((M (e0 + 2) (v2).toNat) + v3))).bind fun m7 =>
 some (1, m7) else none else
 (some (aup M (e0 + 2) (v2).toNat ((M (e0 + 2) (v1).toNat) + v3))).bind fun m9 =>
 some (1, m9) else none else none else none
theorem t_X5_shortens {T : T3} {e0 : Nat} {v1 : Int} {v2 : Int} {v3 : Int} {M : aM} {y : (Int × aM)} (he0 : isLand e0) (hS : Sh T.1 M) (h : f_X5_shortens T.1 e0 v1 v2 v3 M = some y) : Mr 0 52 [(2, ((e0 : Nat) : Int)), (0, v1), (0, v2), (0, v3)] M (some (0, y.1)) y.2 T ∧ Sh T.1 y.2 := by
  have key : ∀ d, 0 ≤ d → Wp d 52 0 [] [(2, ((e0 : Nat) : Int)), (0, v1), (0, v2), (0, v3)] [] (M, T) (fun r2 σ2 => r2 = some (0, y.1) ∧ σ2 = (y.2, T) ∧ Sh T.1 y.2) := by
    intro d hd
    rw [f_X5_shortens] at h
    refine y_blk (t := 0) rfl (show fnd bk_X5_shortens 0 = some _ from rfl) aB_X5_shortens ?_
    refine wp_aload_n (v := ((e0 : Nat) : Int)) rfl (Int.natCast_nonneg _) ?_
    refine y_get (aLand0 he0) (ltLand hS.1.1 he0 0 (by decide)) (v := (((e0 + 2) : Nat) : Int)) (rLand2 hS he0) rfl ?_
    refine wp_iload_n (v := v1) rfl ?_
    obtain ⟨c1, h⟩ := d_ite h
    refine y_iald (aLand2 he0) (Or.inl (ltLand hS.1.1 he0 2 (by decide))) (Nat.ne_of_lt (Nat.lt_of_lt_of_le (ltLand hS.1.1 he0 2 (by decide)) hS.1.2)) c1 (v := M (e0 + 2) (v1).toNat) rfl ?_
    refine wp_iload_n (v := v3) rfl ?_
    obtain ⟨c2, h⟩ := d_ite h
    refine wp_iadd c2 ?_
    refine wp_aload_n (v := ((e0 : Nat) : Int)) rfl (Int.natCast_nonneg _) ?_
    refine y_get (aLand0 he0) (ltLand hS.1.1 he0 0 (by decide)) (v := (((e0 + 2) : Nat) : Int)) (rLand2 hS he0) rfl ?_
    refine wp_iload_n (v := v2) rfl ?_
    obtain ⟨c3, h⟩ := d_ite h
    refine y_iald (aLand2 he0) (Or.inl (ltLand hS.1.1 he0 2 (by decide))) (Nat.ne_of_lt (Nat.lt_of_lt_of_le (ltLand hS.1.1 he0 2 (by decide)) hS.1.2)) c3 (v := M (e0 + 2) (v2).toNat) rfl ?_
    refine wp_icmp_ge (fun c4 => ?_) (fun c4 => ?_)
    · rw [if_pos c4] at h
      refine y_blk (t := 33) rfl (show fnd bk_X5_shortens 33 = some _ from rfl) aB_X5_shortens ?_
      refine wp_aload_n (v := ((e0 : Nat) : Int)) rfl (Int.natCast_nonneg _) ?_
      refine y_get (aLand0 he0) (ltLand hS.1.1 he0 0 (by decide)) (v := (((e0 + 2) : Nat) : Int)) (rLand2 hS he0) rfl ?_
      refine wp_iload_n (v := v2) rfl ?_
      refine y_iald (aLand2 he0) (Or.inl (ltLand hS.1.1 he0 2 (by decide))) (Nat.ne_of_lt (Nat.lt_of_lt_of_le (ltLand hS.1.1 he0 2 (by decide)) hS.1.2)) c3 (v := M (e0 + 2) (v2).toNat) rfl ?_
      refine wp_iload_n (v := v3) rfl ?_
      obtain ⟨c5, h⟩ := d_ite h
      refine wp_iadd c5 ?_
      refine wp_aload_n (v := ((e0 : Nat) : Int)) rfl (Int.natCast_nonneg _) ?_
      refine y_get (aLand0 he0) (ltLand hS.1.1 he0 0 (by decide)) (v := (((e0 + 2) : Nat) : Int)) (rLand2 hS he0) rfl ?_
      refine wp_iload_n (v := v1) rfl ?_
      refine y_iald (aLand2 he0) (Or.inl (ltLand hS.1.1 he0 2 (by decide))) (Nat.ne_of_lt (Nat.lt_of_lt_of_le (ltLand hS.1.1 he0 2 (by decide)) hS.1.2)) c1 (v := M (e0 + 2) (v1).toNat) rfl ?_
      refine wp_icmp_ge (fun c6 => ?_) (fun c6 => ?_)
      · rw [if_pos c6] at h
        refine y_blk (t := 66) rfl (show fnd bk_X5_shortens 66 = some _ from rfl) aB_X5_shortens ?_
        refine wp_iconst ⟨by decide, by decide⟩ ?_
        cases h
        exact y_ret0 (Or.inr (Or.inl rfl)) ⟨rfl, rfl, hS⟩
      · rw [if_neg c6] at h
        refine wp_aload_n (v := ((e0 : Nat) : Int)) rfl (Int.natCast_nonneg _) ?_
        refine y_get (aLand0 he0) (ltLand hS.1.1 he0 0 (by decide)) (v := (((e0 + 2) : Nat) : Int)) (rLand2 hS he0) rfl ?_
        refine wp_iload_n (v := v1) rfl ?_
        refine wp_aload_n (v := ((e0 : Nat) : Int)) rfl (Int.natCast_nonneg _) ?_
        refine y_get (aLand0 he0) (ltLand hS.1.1 he0 0 (by decide)) (v := (((e0 + 2) : Nat) : Int)) (rLand2 hS he0) rfl ?_
        refine wp_iload_n (v := v2) rfl ?_
        refine y_iald (aLand2 he0) (Or.inl (ltLand hS.1.1 he0 2 (by decide))) (Nat.ne_of_lt (Nat.lt_of_lt_of_le (ltLand hS.1.1 he0 2 (by decide)) hS.1.2)) c3 (v := M (e0 + 2) (v2).toNat) rfl ?_
        refine wp_iload_n (v := v3) rfl ?_
        refine wp_iadd c5 ?_
        refine y_iast (aLand2 he0) (ltLand hS.1.1 he0 2 (by decide)) c1 ?_
        obtain ⟨m7, em7, h⟩ := d_bind h
        have em7 := Option.some.inj em7
        have s8 : Sh T.1 m7 := em7 ▸ hS.up (Or.inl ⟨by rw [(aLand2 he0)]; exact Nat.le_of_ble_eq_true rfl, by rw [(aLand2 he0)]; exact Nat.le_of_ble_eq_true rfl⟩) (by have := (ltLand hS.1.1 he0 2 (by decide)); have := hS.1.2; omega)
        rw [em7]
        refine wp_iconst ⟨by decide, by decide⟩ ?_
        cases h
        exact y_ret0 (Or.inr (Or.inr rfl)) ⟨rfl, rfl, s8⟩
    · rw [if_neg c4] at h
      refine wp_aload_n (v := ((e0 : Nat) : Int)) rfl (Int.natCast_nonneg _) ?_
      refine y_get (aLand0 he0) (ltLand hS.1.1 he0 0 (by decide)) (v := (((e0 + 2) : Nat) : Int)) (rLand2 hS he0) rfl ?_
      refine wp_iload_n (v := v2) rfl ?_
      refine wp_aload_n (v := ((e0 : Nat) : Int)) rfl (Int.natCast_nonneg _) ?_
      refine y_get (aLand0 he0) (ltLand hS.1.1 he0 0 (by decide)) (v := (((e0 + 2) : Nat) : Int)) (rLand2 hS he0) rfl ?_
      refine wp_iload_n (v := v1) rfl ?_
      refine y_iald (aLand2 he0) (Or.inl (ltLand hS.1.1 he0 2 (by decide))) (Nat.ne_of_lt (Nat.lt_of_lt_of_le (ltLand hS.1.1 he0 2 (by decide)) hS.1.2)) c1 (v := M (e0 + 2) (v1).toNat) rfl ?_
      refine wp_iload_n (v := v3) rfl ?_
      refine wp_iadd c2 ?_
      refine y_iast (aLand2 he0) (ltLand hS.1.1 he0 2 (by decide)) c3 ?_
      obtain ⟨m9, em9, h⟩ := d_bind h
      have em9 := Option.some.inj em9
      have s10 : Sh T.1 m9 := em9 ▸ hS.up (Or.inl ⟨by rw [(aLand2 he0)]; exact Nat.le_of_ble_eq_true rfl, by rw [(aLand2 he0)]; exact Nat.le_of_ble_eq_true rfl⟩) (by have := (ltLand hS.1.1 he0 2 (by decide)); have := hS.1.2; omega)
      rw [em9]
      refine wp_iconst ⟨by decide, by decide⟩ ?_
      cases h
      exact y_ret0 (Or.inr (Or.inr rfl)) ⟨rfl, rfl, s10⟩
  exact ⟨fun d hd => Ms.of3 (key d hd), Ms.sh (key 0 (Nat.le_refl _))⟩
theorem aB_X5_measure : ∀ pc, aB 51 pc = fnd bk_X5_measure pc := fun _ => rfl
def l_X5_measure_7 (T : Nat) (e0 : Nat) (v1 : Int) (v2 : Int) (k : Int → aM → Option (Int × aM)) : Nat → Int → aM → Option (Int × aM)
| 0, _, _ => none
| n + 1, v3, M =>
 if 8 ≤ v3 then
 k v3 M else
 if aIn (v2 + v3) then
 if 0 ≤ (v2 + v3) ∧ (v2 + v3) < 64 then
 (some (aup M (e0 + 2) ((v2 + v3)).toNat 1000000)).bind fun m5 =>
 if aIn (v3 + 1) then
 l_X5_measure_7 T e0 v1 v2 k n (v3 + 1) m5 else none else none else none
theorem tl_X5_measure_7 {d : Nat} (hd : 1 ≤ d) {T : T3} {e0 : Nat} {v1 : Int} {v2 : Int} {k : Int → aM → Option (Int × aM)} {y : (Int × aM)} (he0 : isLand e0) {M0 : aM} (hS : Sh T.1 M0)
    (hk : ∀ (v3 : Int) (u4 u5 : aV) (M : aM), Sh T.1 M → k v3 M = some y → Wp d 51 29 [] [(2, ((e0 : Nat) : Int)), (0, v1), (0, v2), (0, v3), u4, u5] [] (M, T) (fun r2 σ2 => r2 = none ∧ σ2 = (y.2, T) ∧ Sh T.1 y.2)) :
    ∀ (n : Nat) (v3 : Int) (u4 u5 : aV) (M : aM), Sh T.1 M → l_X5_measure_7 T.1 e0 v1 v2 k n v3 M = some y → Wp d 51 7 [] [(2, ((e0 : Nat) : Int)), (0, v1), (0, v2), (0, v3), u4, u5] [] (M, T) (fun r2 σ2 => r2 = none ∧ σ2 = (y.2, T) ∧ Sh T.1 y.2) := by
  intro n
  induction n with
  | zero =>
    intro v3 u4 u5 M _ h
    exact nomatch (show (none : Option (Int × aM)) = some y from h)
  | succ n ih =>
    intro v3 u4 u5 M sM h
    rw [l_X5_measure_7] at h
    refine y_blk (t := 7) rfl (show fnd bk_X5_measure 7 = some _ from rfl) aB_X5_measure ?_
    refine wp_iload_n (v := v3) rfl ?_
    refine wp_bipush (by decide) ?_
    refine wp_icmp_ge (fun c2 => ?_) (fun c2 => ?_)
    · rw [if_pos c2] at h
      exact hk v3 u4 u5 M sM h
    · rw [if_neg c2] at h
      refine wp_aload_n (v := ((e0 : Nat) : Int)) rfl (Int.natCast_nonneg _) ?_
      refine y_get (aLand0 he0) (ltLand hS.1.1 he0 0 (by decide)) (v := (((e0 + 2) : Nat) : Int)) (rLand2 sM he0) rfl ?_
      refine wp_iload_n (v := v2) rfl ?_
      refine wp_iload_n (v := v3) rfl ?_
      obtain ⟨c3, h⟩ := d_ite h
      refine wp_iadd c3 ?_
      refine y_ldc (v := 1000000) (by decide) rfl ?_
      obtain ⟨c4, h⟩ := d_ite h
      refine y_iast (aLand2 he0) (ltLand hS.1.1 he0 2 (by decide)) c4 ?_
      obtain ⟨m5, em5, h⟩ := d_bind h
      have em5 := Option.some.inj em5
      have s6 : Sh T.1 m5 := em5 ▸ sM.up (Or.inl ⟨by rw [(aLand2 he0)]; exact Nat.le_of_ble_eq_true rfl, by rw [(aLand2 he0)]; exact Nat.le_of_ble_eq_true rfl⟩) (by have := (ltLand hS.1.1 he0 2 (by decide)); have := hS.1.2; omega)
      rw [em5]
      obtain ⟨c7, h⟩ := d_ite h
      refine y_iinc (L1 := [(2, ((e0 : Nat) : Int)), (0, v1), (0, v2), (0, (v3 + 1)), u4, u5]) rfl (Nat.le_of_ble_eq_true rfl) ⟨by decide, by decide⟩ c7 rfl ?_
      refine wp_goto ?_
      exact ih (v3 + 1) u4 u5 m5 s6 h
def l_X5_measure_59 (T : Nat) (e0 : Nat) (v2 : Int) (v4 : Int) (k : Int → Int → aM → Option (Int × aM)) : Nat → Int → Int → aM → Option (Int × aM)
| 0, _, _, _ => none
| n + 1, v3, v5, M =>
 if (M 3 2) ≤ v5 then
 k v3 v5 M else
 (f_X11_hasBit T (M e0 3) v5 M).bind fun x20 =>
 if x20 = 0 then
 if 0 ≤ v5 ∧ v5 < 10 then
 if aIn (v2 + (M 4 (v5).toNat)) then
 if aIn (v2 + (M 5 (v5).toNat)) then
 (f_X5_shortens T e0 (v2 + (M 4 (v5).toNat)) (v2 + (M 5 (v5).toNat)) (M 6 (v5).toNat) M).bind fun x27 =>
 if x27.1 = 0 then
 if aIn (v5 + 1) then
 l_X5_measure_59 T e0 v2 v4 k n v3 (v5 + 1) x27.2 else none else
 if aIn (v5 + 1) then
 l_X5_measure_59 T e0 v2 v4 k n 1 (v5 + 1) x27.2 else none else none else none else none else
 if aIn (v5 + 1) then
 l_X5_measure_59 T e0 v2 v4 k n v3 (v5 + 1) M else none
theorem tl_X5_measure_59 {d : Nat} (hd : 1 ≤ d) {T : T3} {e0 : Nat} {v2 : Int} {v4 : Int} {k : Int → Int → aM → Option (Int × aM)} {y : (Int × aM)} (he0 : isLand e0) {M0 : aM} (hS : Sh T.1 M0)
    (hk : ∀ (v3 v5 : Int) (u1 : aV) (M : aM), Sh T.1 M → k v3 v5 M = some y → Wp d 51 134 [] [(2, ((e0 : Nat) : Int)), u1, (0, v2), (0, v3), (0, v4), (0, v5)] [] (M, T) (fun r2 σ2 => r2 = none ∧ σ2 = (y.2, T) ∧ Sh T.1 y.2)) :
    ∀ (n : Nat) (v3 v5 : Int) (u1 : aV) (M : aM), Sh T.1 M → l_X5_measure_59 T.1 e0 v2 v4 k n v3 v5 M = some y → Wp d 51 59 [] [(2, ((e0 : Nat) : Int)), u1, (0, v2), (0, v3), (0, v4), (0, v5)] [] (M, T) (fun r2 σ2 => r2 = none ∧ σ2 = (y.2, T) ∧ Sh T.1 y.2) := by
  intro n
  induction n with
  | zero =>
    intro v3 v5 u1 M _ h
    exact nomatch (show (none : Option (Int × aM)) = some y from h)
  | succ n ih =>
    intro v3 v5 u1 M sM h
    rw [l_X5_measure_59] at h
    refine y_blk (t := 59) rfl (show fnd bk_X5_measure 59 = some _ from rfl) aB_X5_measure ?_
    refine wp_iload (v := v5) rfl ?_
    refine wp_aload_n (v := ((e0 : Nat) : Int)) rfl (Int.natCast_nonneg _) ?_
    refine y_get (aLand0 he0) (ltLand hS.1.1 he0 0 (by decide)) (v := ((2 : Nat) : Int)) (rLand0 sM he0) rfl ?_
    refine y_get (show ash 2 = (10, 19) from rfl) (Nat.lt_of_lt_of_le (show 2 < 154 by decide) hS.1.1) (v := ((3 : Nat) : Int)) (sM.at 2 3 3 (by decide +kernel)) rfl ?_
    refine wp_iconst ⟨by decide, by decide⟩ ?_
    refine y_iald (show ash 3 = (100, 8) from rfl) (Or.inl (Nat.lt_of_lt_of_le (show 3 < 154 by decide) hS.1.1)) (Nat.ne_of_lt (Nat.lt_of_lt_of_le (Nat.lt_of_lt_of_le (show 3 < 154 by decide) hS.1.1) hS.1.2)) ⟨by decide, by decide⟩ (v := M 3 2) rfl ?_
    refine wp_icmp_ge (fun c19 => ?_) (fun c19 => ?_)
    · rw [if_pos c19] at h
      exact hk v3 v5 u1 M sM h
    · rw [if_neg c19] at h
      refine wp_aload_n (v := ((e0 : Nat) : Int)) rfl (Int.natCast_nonneg _) ?_
      refine y_get (aLand0 he0) (ltLand hS.1.1 he0 0 (by decide)) (v := M e0 3) rfl rfl ?_
      refine wp_iload (v := v5) rfl ?_
      obtain ⟨x20, e21, h⟩ := d_bind h
      refine y_callS (as := [(0, (M e0 3)), (0, v5)]) (S1 := []) (Nat.le_of_ble_eq_true rfl) (by omega) (t_X11_hasBit sM e21) (Nat.le_of_ble_eq_true rfl) rfl (Nat.le_of_ble_eq_true rfl) (Nat.le_of_ble_eq_true rfl) rfl ?_
      refine y_nez (fun c22 => ?_) (fun c22 => ?_)
      · rw [if_neg c22] at h
        refine y_blk (t := 128) rfl (show fnd bk_X5_measure 128 = some _ from rfl) aB_X5_measure ?_
        obtain ⟨c23, h⟩ := d_ite h
        refine y_iinc (L1 := [(2, ((e0 : Nat) : Int)), u1, (0, v2), (0, v3), (0, v4), (0, (v5 + 1))]) rfl (Nat.le_of_ble_eq_true rfl) ⟨by decide, by decide⟩ c23 rfl ?_
        refine wp_goto ?_
        exact ih v3 (v5 + 1) u1 M sM h
      · rw [if_pos c22] at h
        refine wp_aload_n (v := ((e0 : Nat) : Int)) rfl (Int.natCast_nonneg _) ?_
        refine wp_iload_n (v := v2) rfl ?_
        refine wp_aload_n (v := ((e0 : Nat) : Int)) rfl (Int.natCast_nonneg _) ?_
        refine y_get (aLand0 he0) (ltLand hS.1.1 he0 0 (by decide)) (v := ((2 : Nat) : Int)) (rLand0 sM he0) rfl ?_
        refine y_get (show ash 2 = (10, 19) from rfl) (Nat.lt_of_lt_of_le (show 2 < 154 by decide) hS.1.1) (v := ((4 : Nat) : Int)) (sM.at 2 5 4 (by decide +kernel)) rfl ?_
        refine wp_iload (v := v5) rfl ?_
        obtain ⟨c24, h⟩ := d_ite h
        refine y_iald (show ash 4 = (100, 10) from rfl) (Or.inl (Nat.lt_of_lt_of_le (show 4 < 154 by decide) hS.1.1)) (Nat.ne_of_lt (Nat.lt_of_lt_of_le (Nat.lt_of_lt_of_le (show 4 < 154 by decide) hS.1.1) hS.1.2)) c24 (v := M 4 (v5).toNat) rfl ?_
        obtain ⟨c25, h⟩ := d_ite h
        refine wp_iadd c25 ?_
        refine wp_iload_n (v := v2) rfl ?_
        refine wp_aload_n (v := ((e0 : Nat) : Int)) rfl (Int.natCast_nonneg _) ?_
        refine y_get (aLand0 he0) (ltLand hS.1.1 he0 0 (by decide)) (v := ((2 : Nat) : Int)) (rLand0 sM he0) rfl ?_
        refine y_get (show ash 2 = (10, 19) from rfl) (Nat.lt_of_lt_of_le (show 2 < 154 by decide) hS.1.1) (v := ((5 : Nat) : Int)) (sM.at 2 6 5 (by decide +kernel)) rfl ?_
        refine wp_iload (v := v5) rfl ?_
        refine y_iald (show ash 5 = (100, 10) from rfl) (Or.inl (Nat.lt_of_lt_of_le (show 5 < 154 by decide) hS.1.1)) (Nat.ne_of_lt (Nat.lt_of_lt_of_le (Nat.lt_of_lt_of_le (show 5 < 154 by decide) hS.1.1) hS.1.2)) c24 (v := M 5 (v5).toNat) rfl ?_
        obtain ⟨c26, h⟩ := d_ite h
        refine wp_iadd c26 ?_
        refine wp_aload_n (v := ((e0 : Nat) : Int)) rfl (Int.natCast_nonneg _) ?_
        refine y_get (aLand0 he0) (ltLand hS.1.1 he0 0 (by decide)) (v := ((2 : Nat) : Int)) (rLand0 sM he0) rfl ?_
        refine y_get (show ash 2 = (10, 19) from rfl) (Nat.lt_of_lt_of_le (show 2 < 154 by decide) hS.1.1) (v := ((6 : Nat) : Int)) (sM.at 2 7 6 (by decide +kernel)) rfl ?_
        refine wp_iload (v := v5) rfl ?_
        refine y_iald (show ash 6 = (100, 10) from rfl) (Or.inl (Nat.lt_of_lt_of_le (show 6 < 154 by decide) hS.1.1)) (Nat.ne_of_lt (Nat.lt_of_lt_of_le (Nat.lt_of_lt_of_le (show 6 < 154 by decide) hS.1.1) hS.1.2)) c24 (v := M 6 (v5).toNat) rfl ?_
        obtain ⟨x27, e28, h⟩ := d_bind h
        obtain ⟨r29, s30⟩ := t_X5_shortens he0 sM e28
        refine y_callV (as := [(0, (v2 + (M 4 (v5).toNat))), (0, (v2 + (M 5 (v5).toNat))), (0, (M 6 (v5).toNat))]) (S1 := []) (Nat.le_of_ble_eq_true rfl) (by omega) r29 (Nat.le_of_ble_eq_true rfl) rfl (aLand0 he0) (ltLand hS.1.1 he0 0 (by decide)) (Nat.le_of_ble_eq_true rfl) (Nat.le_of_ble_eq_true rfl) rfl ?_
        refine wp_if_eq (fun c31 => ?_) (fun c31 => ?_)
        · rw [if_pos c31] at h
          refine y_blk (t := 128) rfl (show fnd bk_X5_measure 128 = some _ from rfl) aB_X5_measure ?_
          obtain ⟨c32, h⟩ := d_ite h
          refine y_iinc (L1 := [(2, ((e0 : Nat) : Int)), u1, (0, v2), (0, v3), (0, v4), (0, (v5 + 1))]) rfl (Nat.le_of_ble_eq_true rfl) ⟨by decide, by decide⟩ c32 rfl ?_
          refine wp_goto ?_
          exact ih v3 (v5 + 1) u1 x27.2 s30 h
        · rw [if_neg c31] at h
          refine wp_iconst ⟨by decide, by decide⟩ ?_
          refine y_stn (L1 := [(2, ((e0 : Nat) : Int)), u1, (0, v2), (0, 1), (0, v4), (0, v5)]) (Nat.le_of_ble_eq_true rfl) rfl ?_
          refine y_blk (t := 128) rfl (show fnd bk_X5_measure 128 = some _ from rfl) aB_X5_measure ?_
          obtain ⟨c33, h⟩ := d_ite h
          refine y_iinc (L1 := [(2, ((e0 : Nat) : Int)), u1, (0, v2), (0, 1), (0, v4), (0, (v5 + 1))]) rfl (Nat.le_of_ble_eq_true rfl) ⟨by decide, by decide⟩ c33 rfl ?_
          refine wp_goto ?_
          exact ih 1 (v5 + 1) u1 x27.2 s30 h
def l_X5_measure_43 (T : Nat) (e0 : Nat) (v2 : Int) (k : Int → Int → aM → Option (Int × aM)) : Nat → Int → Int → aM → Option (Int × aM)
| 0, _, _, _ => none
| n + 1, v3, v4, M =>
 if 8 ≤ v4 then
 k v3 v4 M else
 if v3 = 0 then
 k v3 v4 M else
 l_X5_measure_59 T e0 v2 v4 (fun w34 w35 m37 =>
 if aIn (v4 + 1) then
 l_X5_measure_43 T e0 v2 k n w34 (v4 + 1) m37 else none) FU 0 0 M
theorem tl_X5_measure_43 {d : Nat} (hd : 1 ≤ d) {T : T3} {e0 : Nat} {v2 : Int} {k : Int → Int → aM → Option (Int × aM)} {y : (Int × aM)} (he0 : isLand e0) {M0 : aM} (hS : Sh T.1 M0)
    (hk : ∀ (v3 v4 : Int) (u1 u5 : aV) (M : aM), Sh T.1 M → k v3 v4 M = some y → Wp d 51 140 [] [(2, ((e0 : Nat) : Int)), u1, (0, v2), (0, v3), (0, v4), u5] [] (M, T) (fun r2 σ2 => r2 = none ∧ σ2 = (y.2, T) ∧ Sh T.1 y.2)) :
    ∀ (n : Nat) (v3 v4 : Int) (u1 u5 : aV) (M : aM), Sh T.1 M → l_X5_measure_43 T.1 e0 v2 k n v3 v4 M = some y → Wp d 51 43 [] [(2, ((e0 : Nat) : Int)), u1, (0, v2), (0, v3), (0, v4), u5] [] (M, T) (fun r2 σ2 => r2 = none ∧ σ2 = (y.2, T) ∧ Sh T.1 y.2) := by
  intro n
  induction n with
  | zero =>
    intro v3 v4 u1 u5 M _ h
    exact nomatch (show (none : Option (Int × aM)) = some y from h)
  | succ n ih =>
    intro v3 v4 u1 u5 M sM h
    rw [l_X5_measure_43] at h
    refine y_blk (t := 43) rfl (show fnd bk_X5_measure 43 = some _ from rfl) aB_X5_measure ?_
    refine wp_iload (v := v4) rfl ?_
    refine wp_bipush (by decide) ?_
    refine wp_icmp_ge (fun c17 => ?_) (fun c17 => ?_)
    · rw [if_pos c17] at h
      exact hk v3 v4 u1 u5 M sM h
    · rw [if_neg c17] at h
      refine wp_iload_n (v := v3) rfl ?_
      refine wp_if_eq (fun c18 => ?_) (fun c18 => ?_)
      · rw [if_pos c18] at h
        exact hk v3 v4 u1 u5 M sM h
      · rw [if_neg c18] at h
        refine wp_iconst ⟨by decide, by decide⟩ ?_
        refine y_stn (L1 := [(2, ((e0 : Nat) : Int)), u1, (0, v2), (0, 0), (0, v4), u5]) (Nat.le_of_ble_eq_true rfl) rfl ?_
        refine wp_iconst ⟨by decide, by decide⟩ ?_
        refine y_st (L1 := [(2, ((e0 : Nat) : Int)), u1, (0, v2), (0, 0), (0, v4), (0, 0)]) (Nat.le_of_ble_eq_true rfl) rfl ?_
        refine tl_X5_measure_59 (by omega) he0 hS (fun w34 w35 u36 m37 s38 h => ?_) FU 0 0 u1 M sM h
        refine y_blk (t := 134) rfl (show fnd bk_X5_measure 134 = some _ from rfl) aB_X5_measure ?_
        obtain ⟨c39, h⟩ := d_ite h
        refine y_iinc (L1 := [(2, ((e0 : Nat) : Int)), u36, (0, v2), (0, w34), (0, (v4 + 1)), (0, w35)]) rfl (Nat.le_of_ble_eq_true rfl) ⟨by decide, by decide⟩ c39 rfl ?_
        refine wp_goto ?_
        exact ih w34 (v4 + 1) u36 (0, w35) m37 s38 h
def f_X5_measure (T : Nat) (e0 : Nat) (v1 : Int) (M : aM) : Option (Int × aM) :=
 if aIn (v1 * 8) then
 l_X5_measure_7 T e0 v1 (v1 * 8) (fun w8 m11 =>
 if aIn ((v1 * 8) + v1) then
 if 0 ≤ ((v1 * 8) + v1) ∧ ((v1 * 8) + v1) < 64 then
 (some (aup m11 (e0 + 2) (((v1 * 8) + v1)).toNat 0)).bind fun m15 =>
 l_X5_measure_43 T e0 (v1 * 8) (fun w40 w41 m44 =>
 some (0, m44)) FU 1 0 m15 else none else none) FU 0 M else none
theorem t_X5_measure {T : T3} {e0 : Nat} {v1 : Int} {M : aM} {y : (Int × aM)} (he0 : isLand e0) (hS : Sh T.1 M) (h : f_X5_measure T.1 e0 v1 M = some y) : Mr 1 51 [(2, ((e0 : Nat) : Int)), (0, v1)] M (none) y.2 T ∧ Sh T.1 y.2 := by
  have key : ∀ d, 1 ≤ d → Wp d 51 0 [] [(2, ((e0 : Nat) : Int)), (0, v1), (9, 0), (9, 0), (9, 0), (9, 0)] [] (M, T) (fun r2 σ2 => r2 = none ∧ σ2 = (y.2, T) ∧ Sh T.1 y.2) := by
    intro d hd
    rw [f_X5_measure] at h
    refine y_blk (t := 0) rfl (show fnd bk_X5_measure 0 = some _ from rfl) aB_X5_measure ?_
    refine wp_iload_n (v := v1) rfl ?_
    refine wp_bipush (by decide) ?_
    obtain ⟨c1, h⟩ := d_ite h
    refine wp_imul c1 ?_
    refine y_stn (L1 := [(2, ((e0 : Nat) : Int)), (0, v1), (0, (v1 * 8)), (9, 0), (9, 0), (9, 0)]) (Nat.le_of_ble_eq_true rfl) rfl ?_
    refine wp_iconst ⟨by decide, by decide⟩ ?_
    refine y_stn (L1 := [(2, ((e0 : Nat) : Int)), (0, v1), (0, (v1 * 8)), (0, 0), (9, 0), (9, 0)]) (Nat.le_of_ble_eq_true rfl) rfl ?_
    refine tl_X5_measure_7 (by omega) he0 hS (fun w8 u9 u10 m11 s12 h => ?_) FU 0 (9, 0) (9, 0) M hS h
    refine y_blk (t := 29) rfl (show fnd bk_X5_measure 29 = some _ from rfl) aB_X5_measure ?_
    refine wp_aload_n (v := ((e0 : Nat) : Int)) rfl (Int.natCast_nonneg _) ?_
    refine y_get (aLand0 he0) (ltLand hS.1.1 he0 0 (by decide)) (v := (((e0 + 2) : Nat) : Int)) (rLand2 s12 he0) rfl ?_
    refine wp_iload_n (v := (v1 * 8)) rfl ?_
    refine wp_iload_n (v := v1) rfl ?_
    obtain ⟨c13, h⟩ := d_ite h
    refine wp_iadd c13 ?_
    refine wp_iconst ⟨by decide, by decide⟩ ?_
    obtain ⟨c14, h⟩ := d_ite h
    refine y_iast (aLand2 he0) (ltLand hS.1.1 he0 2 (by decide)) c14 ?_
    obtain ⟨m15, em15, h⟩ := d_bind h
    have em15 := Option.some.inj em15
    have s16 : Sh T.1 m15 := em15 ▸ s12.up (Or.inl ⟨by rw [(aLand2 he0)]; exact Nat.le_of_ble_eq_true rfl, by rw [(aLand2 he0)]; exact Nat.le_of_ble_eq_true rfl⟩) (by have := (ltLand hS.1.1 he0 2 (by decide)); have := hS.1.2; omega)
    rw [em15]
    refine wp_iconst ⟨by decide, by decide⟩ ?_
    refine y_stn (L1 := [(2, ((e0 : Nat) : Int)), (0, v1), (0, (v1 * 8)), (0, 1), u9, u10]) (Nat.le_of_ble_eq_true rfl) rfl ?_
    refine wp_iconst ⟨by decide, by decide⟩ ?_
    refine y_st (L1 := [(2, ((e0 : Nat) : Int)), (0, v1), (0, (v1 * 8)), (0, 1), (0, 0), u10]) (Nat.le_of_ble_eq_true rfl) rfl ?_
    refine tl_X5_measure_43 (by omega) he0 hS (fun w40 w41 u42 u43 m44 s45 h => ?_) FU 1 0 (0, v1) u10 m15 s16 h
    refine y_blk (t := 140) rfl (show fnd bk_X5_measure 140 = some _ from rfl) aB_X5_measure ?_
    cases h
    exact wp_return ⟨rfl, rfl, s45⟩
  exact ⟨fun d hd => Ms.of3 (key d hd), Ms.sh (key 1 (Nat.le_refl _))⟩
theorem aB_X5_layFrom : ∀ pc, aB 49 pc = fnd bk_X5_layFrom pc := fun _ => rfl
def f_X5_layFrom (T : Nat) (e0 : Nat) (v1 : Int) (v2 : Int) (M : aM) : Option (Int × aM) :=
 (some (aup M e0 3 v1)).bind fun m1 =>
 (f_X5_measure T e0 v2 m1).bind fun x3 =>
 some (0, x3.2)
theorem t_X5_layFrom {T : T3} {e0 : Nat} {v1 : Int} {v2 : Int} {M : aM} {y : (Int × aM)} (he0 : isLand e0) (hS : Sh T.1 M) (h : f_X5_layFrom T.1 e0 v1 v2 M = some y) : Mr 2 49 [(2, ((e0 : Nat) : Int)), (0, v1), (0, v2)] M (none) y.2 T ∧ Sh T.1 y.2 := by
  have key : ∀ d, 2 ≤ d → Wp d 49 0 [] [(2, ((e0 : Nat) : Int)), (0, v1), (0, v2)] [] (M, T) (fun r2 σ2 => r2 = none ∧ σ2 = (y.2, T) ∧ Sh T.1 y.2) := by
    intro d hd
    rw [f_X5_layFrom] at h
    refine y_blk (t := 0) rfl (show fnd bk_X5_layFrom 0 = some _ from rfl) aB_X5_layFrom ?_
    refine wp_aload_n (v := ((e0 : Nat) : Int)) rfl (Int.natCast_nonneg _) ?_
    refine wp_iload_n (v := v1) rfl ?_
    refine y_put (aLand0 he0) (ltLand hS.1.1 he0 0 (by decide)) rfl ?_
    obtain ⟨m1, em1, h⟩ := d_bind h
    have em1 := Option.some.inj em1
    have s2 : Sh T.1 m1 := em1 ▸ hS.up (Or.inr ⟨by rw [(aLand0 he0)]; decide, by rw [(aLand0 he0)]; decide⟩) (by have := (ltLand hS.1.1 he0 0 (by decide)); have := hS.1.2; omega)
    rw [em1]
    refine wp_aload_n (v := ((e0 : Nat) : Int)) rfl (Int.natCast_nonneg _) ?_
    refine wp_iload_n (v := v2) rfl ?_
    obtain ⟨x3, e4, h⟩ := d_bind h
    obtain ⟨r5, s6⟩ := t_X5_measure he0 s2 e4
    refine y_callVv (as := [(0, v2)]) (S1 := []) (Nat.le_of_ble_eq_true rfl) (by omega) r5 rfl (aLand0 he0) (ltLand hS.1.1 he0 0 (by decide)) (Nat.le_of_ble_eq_true rfl) (Nat.le_of_ble_eq_true rfl) rfl ?_
    cases h
    exact wp_return ⟨rfl, rfl, s6⟩
  exact ⟨fun d hd => Ms.of3 (key d hd), Ms.sh (key 2 (Nat.le_refl _))⟩
theorem aB_X5_span : ∀ pc, aB 53 pc = fnd bk_X5_span pc := fun _ => rfl
def f_X5_span (T : Nat) (e0 : Nat) (v1 : Int) (v2 : Int) (M : aM) : Option Int :=
 if aIn (v1 * 8) then
 if aIn ((v1 * 8) + v2) then
 if 0 ≤ ((v1 * 8) + v2) ∧ ((v1 * 8) + v2) < 64 then
 some (M (e0 + 2) (((v1 * 8) + v2)).toNat) else none else none else none
theorem t_X5_span {T : T3} {e0 : Nat} {v1 : Int} {v2 : Int} {M : aM} {y : Int} (he0 : isLand e0) (hS : Sh T.1 M) (h : f_X5_span T.1 e0 v1 v2 M = some y) : Mr 0 53 [(2, ((e0 : Nat) : Int)), (0, v1), (0, v2)] M (some (0, y)) M T := by
  have key : ∀ d, 0 ≤ d → Wp d 53 0 [] [(2, ((e0 : Nat) : Int)), (0, v1), (0, v2)] [] (M, T) (fun r2 σ2 => r2 = some (0, y) ∧ σ2 = (M, T)) := by
    intro d hd
    rw [f_X5_span] at h
    refine y_blk (t := 0) rfl (show fnd bk_X5_span 0 = some _ from rfl) aB_X5_span ?_
    refine wp_aload_n (v := ((e0 : Nat) : Int)) rfl (Int.natCast_nonneg _) ?_
    refine y_get (aLand0 he0) (ltLand hS.1.1 he0 0 (by decide)) (v := (((e0 + 2) : Nat) : Int)) (rLand2 hS he0) rfl ?_
    refine wp_iload_n (v := v1) rfl ?_
    refine wp_bipush (by decide) ?_
    obtain ⟨c1, h⟩ := d_ite h
    refine wp_imul c1 ?_
    refine wp_iload_n (v := v2) rfl ?_
    obtain ⟨c2, h⟩ := d_ite h
    refine wp_iadd c2 ?_
    obtain ⟨c3, h⟩ := d_ite h
    refine y_iald (aLand2 he0) (Or.inl (ltLand hS.1.1 he0 2 (by decide))) (Nat.ne_of_lt (Nat.lt_of_lt_of_le (ltLand hS.1.1 he0 2 (by decide)) hS.1.2)) c3 (v := M (e0 + 2) (((v1 * 8) + v2)).toNat) rfl ?_
    cases h
    exact y_ret0 (Or.inl rfl) ⟨rfl, rfl⟩
  exact fun d hd => Ms.of (key d hd)
theorem aB_X0_chanceOf : ∀ pc, aB 5 pc = fnd bk_X0_chanceOf pc := fun _ => rfl
def l_X0_chanceOf_5 (T : Nat) (v1 : Int) (M : aM) (k : Int → Int → Option Int) : Nat → Int → Int → Option Int
| 0, _, _ => none
| n + 1, v2, v4 =>
 if (M 3 2) ≤ v4 then
 k v2 v4 else
 (f_X11_hasBit T (M 35 3) v4 M).bind fun x2 =>
 if x2 = 0 then
 if aIn (v4 + 1) then
 l_X0_chanceOf_5 T v1 M k n v2 (v4 + 1) else none else
 (f_X11_hasBit T v1 v4 M).bind fun x6 =>
 if x6 = 0 then
 if aIn (100 - (M 2 2)) then
 if aInL (v2 * (100 - (M 2 2))) then
 if aIn (v4 + 1) then
 l_X0_chanceOf_5 T v1 M k n (v2 * (100 - (M 2 2))) (v4 + 1) else none else none else none else
 if aInL (v2 * (M 2 2)) then
 if aIn (v4 + 1) then
 l_X0_chanceOf_5 T v1 M k n (v2 * (M 2 2)) (v4 + 1) else none else none
theorem tl_X0_chanceOf_5 {d : Nat} (hd : 1 ≤ d) {T : T3} {v1 : Int} {M : aM} {k : Int → Int → Option Int} {y : Int}  (hS : Sh T.1 M)
    (hk : ∀ (v2 v4 : Int), Sh T.1 M → k v2 v4 = some y → Wp d 5 74 [] [(2, ((58 : Nat) : Int)), (0, v1), (1, v2), (9, 0), (0, v4)] [] (M, T) (fun r2 σ2 => r2 = some (1, y) ∧ σ2 = (M, T))) :
    ∀ (n : Nat) (v2 v4 : Int), Sh T.1 M → l_X0_chanceOf_5 T.1 v1 M k n v2 v4 = some y → Wp d 5 5 [] [(2, ((58 : Nat) : Int)), (0, v1), (1, v2), (9, 0), (0, v4)] [] (M, T) (fun r2 σ2 => r2 = some (1, y) ∧ σ2 = (M, T)) := by
  intro n
  induction n with
  | zero =>
    intro v2 v4 _ h
    exact nomatch (show (none : Option Int) = some y from h)
  | succ n ih =>
    intro v2 v4 sM h
    rw [l_X0_chanceOf_5] at h
    refine y_blk (t := 5) rfl (show fnd bk_X0_chanceOf 5 = some _ from rfl) aB_X0_chanceOf ?_
    refine wp_iload (v := v4) rfl ?_
    refine wp_aload_n (v := ((58 : Nat) : Int)) rfl (Int.natCast_nonneg _) ?_
    refine y_get (show ash 58 = (0, 4) from rfl) (Nat.lt_of_lt_of_le (show 58 < 154 by decide) hS.1.1) (v := ((2 : Nat) : Int)) (sM.at 58 0 2 (by decide +kernel)) rfl ?_
    refine y_get (show ash 2 = (10, 19) from rfl) (Nat.lt_of_lt_of_le (show 2 < 154 by decide) hS.1.1) (v := ((3 : Nat) : Int)) (sM.at 2 3 3 (by decide +kernel)) rfl ?_
    refine wp_iconst ⟨by decide, by decide⟩ ?_
    refine y_iald (show ash 3 = (100, 8) from rfl) (Or.inl (Nat.lt_of_lt_of_le (show 3 < 154 by decide) hS.1.1)) (Nat.ne_of_lt (Nat.lt_of_lt_of_le (Nat.lt_of_lt_of_le (show 3 < 154 by decide) hS.1.1) hS.1.2)) ⟨by decide, by decide⟩ (v := M 3 2) rfl ?_
    refine wp_icmp_ge (fun c1 => ?_) (fun c1 => ?_)
    · rw [if_pos c1] at h
      exact hk v2 v4   sM h
    · rw [if_neg c1] at h
      refine wp_aload_n (v := ((58 : Nat) : Int)) rfl (Int.natCast_nonneg _) ?_
      refine y_get (show ash 58 = (0, 4) from rfl) (Nat.lt_of_lt_of_le (show 58 < 154 by decide) hS.1.1) (v := ((35 : Nat) : Int)) (sM.at 58 1 35 (by decide +kernel)) rfl ?_
      refine y_get (show ash 35 = (8, 5) from rfl) (Nat.lt_of_lt_of_le (show 35 < 154 by decide) hS.1.1) (v := M 35 3) rfl rfl ?_
      refine wp_iload (v := v4) rfl ?_
      obtain ⟨x2, e3, h⟩ := d_bind h
      refine y_callS (as := [(0, (M 35 3)), (0, v4)]) (S1 := []) (Nat.le_of_ble_eq_true rfl) (by omega) (t_X11_hasBit sM e3) (Nat.le_of_ble_eq_true rfl) rfl (Nat.le_of_ble_eq_true rfl) (Nat.le_of_ble_eq_true rfl) rfl ?_
      refine wp_if_eq (fun c4 => ?_) (fun c4 => ?_)
      · rw [if_pos c4] at h
        refine y_blk (t := 68) rfl (show fnd bk_X0_chanceOf 68 = some _ from rfl) aB_X0_chanceOf ?_
        obtain ⟨c5, h⟩ := d_ite h
        refine y_iinc (L1 := [(2, ((58 : Nat) : Int)), (0, v1), (1, v2), (9, 0), (0, (v4 + 1))]) rfl (Nat.le_of_ble_eq_true rfl) ⟨by decide, by decide⟩ c5 rfl ?_
        refine wp_goto ?_
        exact ih v2 (v4 + 1)   sM h
      · rw [if_neg c4] at h
        refine wp_lload_n (v := v2) rfl ?_
        refine wp_iload_n (v := v1) rfl ?_
        refine wp_iload (v := v4) rfl ?_
        obtain ⟨x6, e7, h⟩ := d_bind h
        refine y_callS (as := [(0, v1), (0, v4)]) (S1 := [(1, v2)]) (Nat.le_of_ble_eq_true rfl) (by omega) (t_X11_hasBit sM e7) (Nat.le_of_ble_eq_true rfl) rfl (Nat.le_of_ble_eq_true rfl) (Nat.le_of_ble_eq_true rfl) rfl ?_
        refine wp_if_eq (fun c8 => ?_) (fun c8 => ?_)
        · rw [if_pos c8] at h
          refine y_blk (t := 55) rfl (show fnd bk_X0_chanceOf 55 = some _ from rfl) aB_X0_chanceOf ?_
          refine wp_bipush (by decide) ?_
          refine wp_aload_n (v := ((58 : Nat) : Int)) rfl (Int.natCast_nonneg _) ?_
          refine y_get (show ash 58 = (0, 4) from rfl) (Nat.lt_of_lt_of_le (show 58 < 154 by decide) hS.1.1) (v := ((2 : Nat) : Int)) (sM.at 58 0 2 (by decide +kernel)) rfl ?_
          refine y_get (show ash 2 = (10, 19) from rfl) (Nat.lt_of_lt_of_le (show 2 < 154 by decide) hS.1.1) (v := M 2 2) rfl rfl ?_
          obtain ⟨c9, h⟩ := d_ite h
          refine wp_isub c9 ?_
          refine wp_i2l ?_
          refine y_blk (t := 66) rfl (show fnd bk_X0_chanceOf 66 = some _ from rfl) aB_X0_chanceOf ?_
          obtain ⟨c10, h⟩ := d_ite h
          refine wp_lmul c10 ?_
          refine y_lstn (L1 := [(2, ((58 : Nat) : Int)), (0, v1), (1, (v2 * (100 - (M 2 2)))), (9, 0), (0, v4)]) (Nat.le_of_ble_eq_true rfl) rfl ?_
          refine y_blk (t := 68) rfl (show fnd bk_X0_chanceOf 68 = some _ from rfl) aB_X0_chanceOf ?_
          obtain ⟨c11, h⟩ := d_ite h
          refine y_iinc (L1 := [(2, ((58 : Nat) : Int)), (0, v1), (1, (v2 * (100 - (M 2 2)))), (9, 0), (0, (v4 + 1))]) rfl (Nat.le_of_ble_eq_true rfl) ⟨by decide, by decide⟩ c11 rfl ?_
          refine wp_goto ?_
          exact ih (v2 * (100 - (M 2 2))) (v4 + 1)   sM h
        · rw [if_neg c8] at h
          refine wp_aload_n (v := ((58 : Nat) : Int)) rfl (Int.natCast_nonneg _) ?_
          refine y_get (show ash 58 = (0, 4) from rfl) (Nat.lt_of_lt_of_le (show 58 < 154 by decide) hS.1.1) (v := ((2 : Nat) : Int)) (sM.at 58 0 2 (by decide +kernel)) rfl ?_
          refine y_get (show ash 2 = (10, 19) from rfl) (Nat.lt_of_lt_of_le (show 2 < 154 by decide) hS.1.1) (v := M 2 2) rfl rfl ?_
          refine wp_i2l ?_
          refine wp_goto ?_
          refine y_blk (t := 66) rfl (show fnd bk_X0_chanceOf 66 = some _ from rfl) aB_X0_chanceOf ?_
          obtain ⟨c12, h⟩ := d_ite h
          refine wp_lmul c12 ?_
          refine y_lstn (L1 := [(2, ((58 : Nat) : Int)), (0, v1), (1, (v2 * (M 2 2))), (9, 0), (0, v4)]) (Nat.le_of_ble_eq_true rfl) rfl ?_
          refine y_blk (t := 68) rfl (show fnd bk_X0_chanceOf 68 = some _ from rfl) aB_X0_chanceOf ?_
          obtain ⟨c13, h⟩ := d_ite h
          refine y_iinc (L1 := [(2, ((58 : Nat) : Int)), (0, v1), (1, (v2 * (M 2 2))), (9, 0), (0, (v4 + 1))]) rfl (Nat.le_of_ble_eq_true rfl) ⟨by decide, by decide⟩ c13 rfl ?_
          refine wp_goto ?_
          exact ih (v2 * (M 2 2)) (v4 + 1)   sM h
def f_X0_chanceOf (T : Nat) (v1 : Int) (M : aM) : Option Int :=
 l_X0_chanceOf_5 T v1 M (fun w14 w15 =>
 some w14) FU 1 0
theorem t_X0_chanceOf {T : T3} {v1 : Int} {M : aM} {y : Int}  (hS : Sh T.1 M) (h : f_X0_chanceOf T.1 v1 M = some y) : Mr 1 5 [(2, ((58 : Nat) : Int)), (0, v1)] M (some (1, y)) M T := by
  have key : ∀ d, 1 ≤ d → Wp d 5 0 [] [(2, ((58 : Nat) : Int)), (0, v1), (9, 0), (9, 0), (9, 0)] [] (M, T) (fun r2 σ2 => r2 = some (1, y) ∧ σ2 = (M, T)) := by
    intro d hd
    rw [f_X0_chanceOf] at h
    refine y_blk (t := 0) rfl (show fnd bk_X0_chanceOf 0 = some _ from rfl) aB_X0_chanceOf ?_
    refine y_lconst (v := 1) rfl ?_
    refine y_lstn (L1 := [(2, ((58 : Nat) : Int)), (0, v1), (1, 1), (9, 0), (9, 0)]) (Nat.le_of_ble_eq_true rfl) rfl ?_
    refine wp_iconst ⟨by decide, by decide⟩ ?_
    refine y_st (L1 := [(2, ((58 : Nat) : Int)), (0, v1), (1, 1), (9, 0), (0, 0)]) (Nat.le_of_ble_eq_true rfl) rfl ?_
    refine tl_X0_chanceOf_5 (by omega) hS (fun w14 w15   s16 h => ?_) FU 1 0   hS h
    refine y_blk (t := 74) rfl (show fnd bk_X0_chanceOf 74 = some _ from rfl) aB_X0_chanceOf ?_
    refine wp_lload_n (v := w14) rfl ?_
    cases h
    exact wp_lreturn ⟨rfl, rfl⟩
  exact fun d hd => Ms.of (key d hd)
theorem aB_X0_nextDried : ∀ pc, aB 4 pc = fnd bk_X0_nextDried pc := fun _ => rfl
def f_X0_nextDried (T : Nat) (v1 : Int) (M : aM) : Option Int :=
 if aIn (v1 - (M 35 3)) then
 some (aand (v1 - (M 35 3)) (M 35 3)) else none
theorem t_X0_nextDried {T : T3} {v1 : Int} {M : aM} {y : Int}  (hS : Sh T.1 M) (h : f_X0_nextDried T.1 v1 M = some y) : Mr 0 4 [(2, ((58 : Nat) : Int)), (0, v1)] M (some (0, y)) M T := by
  have key : ∀ d, 0 ≤ d → Wp d 4 0 [] [(2, ((58 : Nat) : Int)), (0, v1)] [] (M, T) (fun r2 σ2 => r2 = some (0, y) ∧ σ2 = (M, T)) := by
    intro d hd
    rw [f_X0_nextDried] at h
    refine y_blk (t := 0) rfl (show fnd bk_X0_nextDried 0 = some _ from rfl) aB_X0_nextDried ?_
    refine wp_iload_n (v := v1) rfl ?_
    refine wp_aload_n (v := ((58 : Nat) : Int)) rfl (Int.natCast_nonneg _) ?_
    refine y_get (show ash 58 = (0, 4) from rfl) (Nat.lt_of_lt_of_le (show 58 < 154 by decide) hS.1.1) (v := ((35 : Nat) : Int)) (hS.at 58 1 35 (by decide +kernel)) rfl ?_
    refine y_get (show ash 35 = (8, 5) from rfl) (Nat.lt_of_lt_of_le (show 35 < 154 by decide) hS.1.1) (v := M 35 3) rfl rfl ?_
    obtain ⟨c1, h⟩ := d_ite h
    refine wp_isub c1 ?_
    refine wp_aload_n (v := ((58 : Nat) : Int)) rfl (Int.natCast_nonneg _) ?_
    refine y_get (show ash 58 = (0, 4) from rfl) (Nat.lt_of_lt_of_le (show 58 < 154 by decide) hS.1.1) (v := ((35 : Nat) : Int)) (hS.at 58 1 35 (by decide +kernel)) rfl ?_
    refine y_get (show ash 35 = (8, 5) from rfl) (Nat.lt_of_lt_of_le (show 35 < 154 by decide) hS.1.1) (v := M 35 3) rfl rfl ?_
    refine wp_iand ?_
    cases h
    exact y_ret0 (Or.inl rfl) ⟨rfl, rfl⟩
  exact fun d hd => Ms.of (key d hd)

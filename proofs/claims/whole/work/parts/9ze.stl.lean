/-! ===== the law's beginning ===== -/
theorem z_law (B : aM) (Q : Option aV → aS → Prop) (K : Wp 17 334 23 [] [(2, 1000000), (2, ((0 : Nat) : Int)), (2, ((138 : Nat) : Int)), (2, ((153 : Nat) : Int)), (0, 0), (9, 0), (9, 0)] [] (rn zl338 B, (154, 154, 3891)) Q) : Wp 17 334 0 [] [(2, 1000000), (9, 0), (9, 0), (9, 0), (9, 0), (9, 0), (9, 0)] [] (rn zl0 B, (0, 0, 0)) Q := by
  refine y_blk (t := 0) rfl (show fnd bk_L_law 0 = some _ from rfl) aB_L_law ?_
  refine y_new (M1 := rn zl1 B) (T1 := (1, 1, 15)) (show ash 0 = (11, 15) from rfl) (by decide) (by decide) rfl rfl ?_
  refine wp_dup (Or.inr rfl) ?_
  refine y_callM (as := [(2, ((0 : Nat) : Int))]) (S1 := [(2, ((0 : Nat) : Int))]) (d1 := 16) rfl (zi_50 B) (fun z hz => by cases hz) rfl (Nat.le_of_ble_eq_true rfl) rfl (Nat.le_of_ble_eq_true rfl) rfl ?_
  refine y_astn (L1 := [(2, 1000000), (2, ((0 : Nat) : Int)), (9, 0), (9, 0), (9, 0), (9, 0), (9, 0)]) ⟨Nat.le_of_ble_eq_true rfl, Int.natCast_nonneg _⟩ rfl ?_
  refine y_new (M1 := rn zl308 B) (T1 := (139, 139, 2278)) (show ash 138 = (13, 38) from rfl) (by decide) (by decide) rfl rfl ?_
  refine wp_dup (Or.inr rfl) ?_
  refine y_callM (as := [(2, ((138 : Nat) : Int))]) (S1 := [(2, ((138 : Nat) : Int))]) (d1 := 16) rfl (zi_51 B) (fun z hz => by cases hz) rfl (Nat.le_of_ble_eq_true rfl) rfl (Nat.le_of_ble_eq_true rfl) rfl ?_
  refine y_astn (L1 := [(2, 1000000), (2, ((0 : Nat) : Int)), (2, ((138 : Nat) : Int)), (9, 0), (9, 0), (9, 0), (9, 0)]) ⟨Nat.le_of_ble_eq_true rfl, Int.natCast_nonneg _⟩ rfl ?_
  refine wp_iconst ⟨by decide, by decide⟩ ?_
  refine z_newarray (n := 1) (M1 := rn zl338 B) (T1 := (154, 154, 3891)) (show ash 153 = (102, 1) from rfl) (by decide) (by decide) (by decide) rfl rfl rfl ?_
  refine y_astn (L1 := [(2, 1000000), (2, ((0 : Nat) : Int)), (2, ((138 : Nat) : Int)), (2, ((153 : Nat) : Int)), (9, 0), (9, 0), (9, 0)]) ⟨Nat.le_of_ble_eq_true rfl, Int.natCast_nonneg _⟩ rfl ?_
  refine wp_iconst ⟨by decide, by decide⟩ ?_
  refine y_st (L1 := [(2, 1000000), (2, ((0 : Nat) : Int)), (2, ((138 : Nat) : Int)), (2, ((153 : Nat) : Int)), (0, 0), (9, 0), (9, 0)]) (Nat.le_of_ble_eq_true rfl) rfl ?_
  exact K

/-! ===== the text, token by token: the model ===== -/
section Tkm
variable {B : Nat → Int} {n p s : Nat} {T : Nat} {M : aM}
def mst (k : Nat) : Nat := if k = 4 then 0 else k + 1
/-- the model at a token -/
def KM (B : Nat → Int) (n : Nat) (M : aM) (p : Nat) : Prop := (M 138 7 = (n : Int) ∧ M 138 10 = (p : Int) ∧ M 138 9 = (mst (kS B n p) : Int) ∧ (kS B n p ≠ 4 → M 138 8 = (kE B n p : Int)) ∧ (kS B n p = 1 → M 138 14 = (kW B n p : Int)) ∧ (kS B n p = 2 → M 138 11 = (kN B n p : Int))) ∧ p ≤ n ∧ ∀ k, k < n → M 139 k = B k ∧ -128 ≤ B k ∧ B k < 128
/-- tokens alone are written -/
def kT (M M' : aM) : Prop := (∀ k, k < 8 ∨ k = 12 ∨ k = 13 ∨ 14 < k → M' 138 k = M 138 k) ∧ ∀ m, m ≠ 138 → M' m = M m
theorem kT.refl (M : aM) : kT M M := ⟨fun _ _ => rfl, fun _ _ => rfl⟩
theorem kT.trans {M M1 M2 : aM} (h : kT M M1) (h2 : kT M1 M2) : kT M M2 := ⟨fun k hk => (h2.1 k hk).trans (h.1 k hk), fun m hm => (h2.2 m hm).trans (h.2 m hm)⟩
theorem kT_up {k : Nat} {v : Int} (hk : k = 8 ∨ k = 9 ∨ k = 10 ∨ k = 11 ∨ k = 14) : kT M (aup M 138 k v) := ⟨fun q hq => aup_ne2 (by omega), fun m hm => aup_nc hm⟩
theorem g_isL (b : Int) : f_X13_isLetter T b M = some (bI (isL b)) := h_isL (T := T) (M := M) b
theorem g_isD (b : Int) : f_X13_isDigit T b M = some (bI (isD b)) := h_isD (T := T) (M := M) b
/-- a byte without its sign; -1 behind the last -/
def ub (B : Nat → Int) (n q : Nat) : Int := if n ≤ q then -1 else if B q < 0 then B q + 256 else B q
theorem g_byteAt (hn : n ≤ 900) {q : Nat} (h7 : M 138 7 = (n : Int)) (hB : ∀ k, k < n → M 139 k = B k ∧ -128 ≤ B k ∧ B k < 128) : f_X13_byteAt T (q : Int) M = some (ub B n q) := by
  unfold f_X13_byteAt ub
  rw [h7]
  by_cases h : n ≤ q
  · rw [if_pos (by omega), if_pos h]
  · rw [if_neg (by omega), if_neg h]
    obtain ⟨b1, b2, b3⟩ := hB q (by omega)
    refine c_ite (by omega) ?_
    rw [Int.toNat_natCast, b1, aand255 b2 b3]
theorem ub_in {q : Nat} (hq : q < n) (hB : -128 ≤ B q ∧ B q < 128) : isL (ub B n q) = isL (B q) ∧ isD (ub B n q) = isD (B q) ∧ (ub B n q = 32 ↔ B q = 32) ∧ (ub B n q = 59 ↔ B q = 59) ∧ ub B n q ≠ -1 ∧ (isL (B q) = true → ub B n q = B q) ∧ (isD (B q) = true → ub B n q = B q) := by
  unfold ub
  rw [if_neg (by omega)]
  by_cases h : B q < 0
  · rw [if_pos h]
    have l1 : isL (B q + 256) = false := by cases hh : isL (B q + 256); rfl; have := isL_iff.mp hh; omega
    have l2 : isL (B q) = false := by cases hh : isL (B q); rfl; have := isL_iff.mp hh; omega
    have d1 : isD (B q + 256) = false := by cases hh : isD (B q + 256); rfl; have := isD_iff.mp hh; omega
    have d2 : isD (B q) = false := by cases hh : isD (B q); rfl; have := isD_iff.mp hh; omega
    rw [l1, l2, d1, d2]
    exact ⟨rfl, rfl, by omega, by omega, by omega, fun e => (by cases e), fun e => (by cases e)⟩
  · rw [if_neg h]
    exact ⟨rfl, rfl, Iff.rfl, Iff.rfl, by omega, fun _ => rfl, fun _ => rfl⟩
theorem ub_out {q : Nat} (hq : n ≤ q) : ub B n q = -1 ∧ isL (ub B n q) = false ∧ isD (ub B n q) = false := by
  have e : ub B n q = -1 := by unfold ub; rw [if_pos hq]
  rw [e]
  exact ⟨rfl, rfl, rfl⟩
theorem g_on9 (hn : n ≤ 900) (hs : s ≤ n) (h7 : M 138 7 = (n : Int)) (hB : ∀ k, k < n → M 139 k = B k ∧ -128 ≤ B k ∧ B k < 128) (kk : aM → Option (Int × aM)) : l_X13_goesOn_9 T kk FU (aup M 138 8 (s : Int)) = kk (aup M 138 8 (spq B n s : Int)) := by
  have hle := fst_le (fun i => !decide (B (s + i) = 32)) (n - s)
  refine for_until (fun i m => l_X13_goesOn_9 T kk m (aup M 138 8 ((s + i : Nat) : Int))) (fst (fun i => !decide (B (s + i) = 32)) (n - s)) (fun i m hi => ?_) (fun m => ?_) (by omega)
  · have hb := fst_no (fun i => !decide (B (s + i) = 32)) (n - s) i hi
    have hb2 : B (s + i) = 32 := by
      cases hq : decide (B (s + i) = 32)
      · rw [hq] at hb; cases hb
      · exact of_decide_eq_true hq
    show l_X13_goesOn_9 T kk (m + 1) (aup M 138 8 ((s + i : Nat) : Int)) = l_X13_goesOn_9 T kk m (aup M 138 8 ((s + (i + 1) : Nat) : Int))
    have e1 : aup M 138 8 ((s + i : Nat) : Int) 138 7 = (n : Int) := by rw [aup_ne2 (by decide)]; exact h7
    have e3 : aup M 138 8 ((s + i : Nat) : Int) 138 8 = ((s + i : Nat) : Int) := aup_at
    have eb : ∀ k, k < n → aup M 138 8 ((s + i : Nat) : Int) 139 k = B k ∧ -128 ≤ B k ∧ B k < 128 := fun k hk => by rw [aup_nc (by decide)]; exact hB k hk
    rw [l_X13_goesOn_9, e3]
    refine c_bind (g_byteAt hn e1 eb) (c_pos ((ub_in (by omega) (hB _ (by omega)).2).2.2.1.mpr hb2) (c_ite (by omega) (c_some ?_)))
    rw [aup_aup]
    rfl
  · show l_X13_goesOn_9 T kk (m + 1) (aup M 138 8 (spq B n s : Int)) = _
    have e1 : aup M 138 8 (spq B n s : Int) 138 7 = (n : Int) := by rw [aup_ne2 (by decide)]; exact h7
    have e3 : aup M 138 8 (spq B n s : Int) 138 8 = (spq B n s : Int) := aup_at
    have eb : ∀ k, k < n → aup M 138 8 (spq B n s : Int) 139 k = B k ∧ -128 ≤ B k ∧ B k < 128 := fun k hk => by rw [aup_nc (by decide)]; exact hB k hk
    have hsp : spq B n s = s + fst (fun i => !decide (B (s + i) = 32)) (n - s) := rfl
    rw [l_X13_goesOn_9, e3]
    refine c_bind (g_byteAt hn e1 eb) (c_neg ?_ rfl)
    by_cases hend : n ≤ spq B n s
    · rw [(ub_out hend).1]; decide
    · have hy := fst_yes (fun i => !decide (B (s + i) = 32)) (n - s) (by omega)
      have hy2 : B (spq B n s) ≠ 32 := by
        rw [hsp]
        intro e
        have : (!decide (B (s + fst (fun i => !decide (B (s + i) = 32)) (n - s)) = 32)) = true := hy
        rw [decide_eq_true e] at this
        cases this
      exact fun e => hy2 ((ub_in (by omega) (hB _ (by omega)).2).2.2.1.mp e)
/-- letters gone over -/
def lz (M : aM) (B : Nat → Int) (s i : Nat) : aM := aup (aup M 138 14 (dgs (fun i => B (s + i) - 97 + 1) 32 (if i < 8 then i else 8))) 138 8 ((s + i : Nat) : Int)
theorem aup_swp {c k1 k2 : Nat} {v1 v2 : Int} (h : k1 ≠ k2) : aup (aup M c k1 v1) c k2 v2 = aup (aup M c k2 v2) c k1 v1 := by
  funext a b
  unfold aup
  by_cases ha : a = c
  · subst ha
    by_cases hb : b = k1
    · subst hb; simp [h]
    · simp [hb]
  · simp [ha]
theorem g_on84 (hn : n ≤ 900) (hs : s ≤ n) (h7 : M 138 7 = (n : Int)) (hB : ∀ k, k < n → M 139 k = B k ∧ -128 ≤ B k ∧ B k < 128) (kk : Int → aM → Option (Int × aM)) : l_X13_goesOn_84 T kk FU 0 (lz M B s 0) = kk ((lsq B n s : Nat) : Int) (lz M B s (lsq B n s)) := by
  have hle := lsq_le (B := B) (n := n) (p := s)
  refine for_until (fun i m => l_X13_goesOn_84 T kk m (i : Int) (lz M B s i)) (lsq B n s) (fun i m hi => ?_) (fun m => ?_) (by omega)
  · have hl := lsq_let hi
    have e1 : lz M B s i 138 7 = (n : Int) := by unfold lz; rw [aup_ne2 (by decide), aup_ne2 (by decide)]; exact h7
    have e3 : lz M B s i 138 8 = ((s + i : Nat) : Int) := aup_at
    have e14 : lz M B s i 138 14 = dgs (fun i => B (s + i) - 97 + 1) 32 (if i < 8 then i else 8) := by unfold lz; rw [aup_ne2 (by decide)]; exact aup_at
    have eb : ∀ k, k < n → lz M B s i 139 k = B k ∧ -128 ≤ B k ∧ B k < 128 := fun k hk => by unfold lz; rw [aup_nc (by decide), aup_nc (by decide)]; exact hB k hk
    obtain ⟨u1, u2, u3, u4, u5, u6, u7⟩ := ub_in (B := B) (n := n) (q := s + i) (by omega) (hB _ (by omega)).2
    have hub := u6 (isL_iff.mpr hl)
    show l_X13_goesOn_84 T kk (m + 1) (i : Int) (lz M B s i) = l_X13_goesOn_84 T kk m ((i + 1 : Nat) : Int) (lz M B s (i + 1))
    rw [l_X13_goesOn_84, e3, e14]
    refine c_bind (g_byteAt hn e1 eb) (c_bind (g_isL _) ?_)
    rw [u1, isL_iff.mpr hl]
    refine c_neg (by decide) ?_
    by_cases h8 : i < 8
    · rw [if_pos h8]
      obtain ⟨d1, d2⟩ := dgs_lt (f := fun i => B (s + i) - 97 + 1) (m := 32) (by decide) i (fun k hk => by have := lsq_let (B := B) (n := n) (p := s) (i := k) (by omega); exact ⟨by omega, by show B (s + k) - 97 + 1 < 32; omega⟩)
      have d3 : (32 : Nat) ^ i ≤ 32 ^ 8 := Nat.pow_le_pow_right (by decide) (by omega)
      have e8 : (32 : Nat) ^ 8 = 1099511627776 := by decide
      have d1' : (0 : Int) ≤ dgs (fun i => B (s + i) - 97 + 1) 32 i := d1
      have d2' : dgs (fun i => B (s + i) - 97 + 1) 32 i < ((32 ^ i : Nat) : Int) := d2
      have hval : 32 * dgs (fun i => B (s + i) - 97 + 1) 32 i + (ub B n (s + i) - 97 + 1) = dgs (fun i => B (s + i) - 97 + 1) 32 (if i + 1 < 8 then i + 1 else 8) := by
        have : (if i + 1 < 8 then i + 1 else 8) = i + 1 := by split <;> omega
        rw [this, hub]
        show _ = dgs (fun i => B (s + i) - 97 + 1) 32 i * 32 + (B (s + i) - 97 + 1)
        omega
      refine c_neg (by omega) (c_ite (by omega) (c_bind (g_byteAt hn e1 eb) (c_ite (by omega) (c_ite (by omega) (c_ite (by omega) (c_some (c_ite (by omega) ?_)))))))
      rw [hval]
      have ez : aup (lz M B s i) 138 14 (dgs (fun i => B (s + i) - 97 + 1) 32 (if i + 1 < 8 then i + 1 else 8)) 138 8 = ((s + i : Nat) : Int) := by rw [aup_ne2 (by decide)]; exact e3
      rw [ez]
      refine c_ite (by omega) (c_some ?_)
      have efin : aup (aup (lz M B s i) 138 14 (dgs (fun i => B (s + i) - 97 + 1) 32 (if i + 1 < 8 then i + 1 else 8))) 138 8 (((s + i : Nat) : Int) + 1) = lz M B s (i + 1) := by
        unfold lz
        rw [aup_swp (k1 := 8) (k2 := 14) (by decide), aup_aup, aup_aup]
        rfl
      rw [efin]
      rfl
    · refine c_pos (by omega) (c_ite (by omega) (c_ite (by omega) (c_some ?_)))
      have efin : aup (lz M B s i) 138 8 (((s + i : Nat) : Int) + 1) = lz M B s (i + 1) := by
        unfold lz
        rw [aup_aup, if_neg h8, if_neg (by omega)]
        rfl
      rw [efin]
      rfl
  · have e1 : lz M B s (lsq B n s) 138 7 = (n : Int) := by unfold lz; rw [aup_ne2 (by decide), aup_ne2 (by decide)]; exact h7
    have e3 : lz M B s (lsq B n s) 138 8 = ((s + lsq B n s : Nat) : Int) := aup_at
    have eb : ∀ k, k < n → lz M B s (lsq B n s) 139 k = B k ∧ -128 ≤ B k ∧ B k < 128 := fun k hk => by unfold lz; rw [aup_nc (by decide), aup_nc (by decide)]; exact hB k hk
    show l_X13_goesOn_84 T kk (m + 1) ((lsq B n s : Nat) : Int) (lz M B s (lsq B n s)) = _
    rw [l_X13_goesOn_84, e3]
    refine c_bind (g_byteAt hn e1 eb) (c_bind (g_isL _) ?_)
    have hf : isL (ub B n (s + lsq B n s)) = false := by
      by_cases hend : n ≤ s + lsq B n s
      · exact (ub_out hend).2.1
      · rw [(ub_in (by omega) (hB _ (by omega)).2).1]
        have hy := fst_yes (fun i => !isL (B (s + i))) (n - s) (by show lsq B n s < n - s; omega)
        have : (!isL (B (s + lsq B n s))) = true := hy
        cases hq : isL (B (s + lsq B n s))
        · rfl
        · rw [hq] at this; cases this
    rw [hf]
    exact c_pos rfl rfl
/-- digits gone over -/
def dz (M : aM) (B : Nat → Int) (s i : Nat) : aM := aup (aup M 138 11 (dgs (fun i => B (s + i) - 48) 10 (if i < 3 then i else 3))) 138 8 ((s + i : Nat) : Int)
theorem g_on173 (hn : n ≤ 900) (hs : s ≤ n) (h7 : M 138 7 = (n : Int)) (hB : ∀ k, k < n → M 139 k = B k ∧ -128 ≤ B k ∧ B k < 128) (kk : Int → aM → Option (Int × aM)) : l_X13_goesOn_173 T kk FU 0 (dz M B s 0) = kk ((dsq B n s : Nat) : Int) (dz M B s (dsq B n s)) := by
  have hle := dsq_le (B := B) (n := n) (p := s)
  refine for_until (fun i m => l_X13_goesOn_173 T kk m (i : Int) (dz M B s i)) (dsq B n s) (fun i m hi => ?_) (fun m => ?_) (by omega)
  · have hl := dsq_dig hi
    have e1 : dz M B s i 138 7 = (n : Int) := by unfold dz; rw [aup_ne2 (by decide), aup_ne2 (by decide)]; exact h7
    have e3 : dz M B s i 138 8 = ((s + i : Nat) : Int) := aup_at
    have e14 : dz M B s i 138 11 = dgs (fun i => B (s + i) - 48) 10 (if i < 3 then i else 3) := by unfold dz; rw [aup_ne2 (by decide)]; exact aup_at
    have eb : ∀ k, k < n → dz M B s i 139 k = B k ∧ -128 ≤ B k ∧ B k < 128 := fun k hk => by unfold dz; rw [aup_nc (by decide), aup_nc (by decide)]; exact hB k hk
    obtain ⟨u1, u2, u3, u4, u5, u6, u7⟩ := ub_in (B := B) (n := n) (q := s + i) (by omega) (hB _ (by omega)).2
    have hub := u7 (isD_iff.mpr hl)
    show l_X13_goesOn_173 T kk (m + 1) (i : Int) (dz M B s i) = l_X13_goesOn_173 T kk m ((i + 1 : Nat) : Int) (dz M B s (i + 1))
    rw [l_X13_goesOn_173, e3, e14]
    refine c_bind (g_byteAt hn e1 eb) (c_bind (g_isD _) ?_)
    rw [u2, isD_iff.mpr hl]
    refine c_neg (by decide) ?_
    by_cases h8 : i < 3
    · rw [if_pos h8]
      obtain ⟨d1, d2⟩ := dgs_lt (f := fun i => B (s + i) - 48) (m := 10) (by decide) i (fun k hk => by have := dsq_dig (B := B) (n := n) (p := s) (i := k) (by omega); exact ⟨by omega, by show B (s + k) - 48 < 10; omega⟩)
      have d3 : (10 : Nat) ^ i ≤ 10 ^ 3 := Nat.pow_le_pow_right (by decide) (by omega)
      have e8 : (10 : Nat) ^ 3 = 1000 := by decide
      have d1' : (0 : Int) ≤ dgs (fun i => B (s + i) - 48) 10 i := d1
      have d2' : dgs (fun i => B (s + i) - 48) 10 i < ((10 ^ i : Nat) : Int) := d2
      have hval : 10 * dgs (fun i => B (s + i) - 48) 10 i + ub B n (s + i) - 48 = dgs (fun i => B (s + i) - 48) 10 (if i + 1 < 3 then i + 1 else 3) := by
        have : (if i + 1 < 3 then i + 1 else 3) = i + 1 := by split <;> omega
        rw [this, hub]
        show _ = dgs (fun i => B (s + i) - 48) 10 i * 10 + (B (s + i) - 48)
        omega
      refine c_neg (by omega) (c_ite (by omega) (c_bind (g_byteAt hn e1 eb) (c_ite (by omega) (c_ite (by omega) (c_some (c_ite (by omega) ?_))))))
      rw [hval]
      have ez : aup (dz M B s i) 138 11 (dgs (fun i => B (s + i) - 48) 10 (if i + 1 < 3 then i + 1 else 3)) 138 8 = ((s + i : Nat) : Int) := by rw [aup_ne2 (by decide)]; exact e3
      rw [ez]
      refine c_ite (by omega) (c_some ?_)
      have efin : aup (aup (dz M B s i) 138 11 (dgs (fun i => B (s + i) - 48) 10 (if i + 1 < 3 then i + 1 else 3))) 138 8 (((s + i : Nat) : Int) + 1) = dz M B s (i + 1) := by
        unfold dz
        rw [aup_swp (k1 := 8) (k2 := 11) (by decide), aup_aup, aup_aup]
        rfl
      rw [efin]
      rfl
    · refine c_pos (by omega) (c_ite (by omega) (c_ite (by omega) (c_some ?_)))
      have efin : aup (dz M B s i) 138 8 (((s + i : Nat) : Int) + 1) = dz M B s (i + 1) := by
        unfold dz
        rw [aup_aup, if_neg h8, if_neg (by omega)]
        rfl
      rw [efin]
      rfl
  · have e1 : dz M B s (dsq B n s) 138 7 = (n : Int) := by unfold dz; rw [aup_ne2 (by decide), aup_ne2 (by decide)]; exact h7
    have e3 : dz M B s (dsq B n s) 138 8 = ((s + dsq B n s : Nat) : Int) := aup_at
    have eb : ∀ k, k < n → dz M B s (dsq B n s) 139 k = B k ∧ -128 ≤ B k ∧ B k < 128 := fun k hk => by unfold dz; rw [aup_nc (by decide), aup_nc (by decide)]; exact hB k hk
    show l_X13_goesOn_173 T kk (m + 1) ((dsq B n s : Nat) : Int) (dz M B s (dsq B n s)) = _
    rw [l_X13_goesOn_173, e3]
    refine c_bind (g_byteAt hn e1 eb) (c_bind (g_isD _) ?_)
    have hf : isD (ub B n (s + dsq B n s)) = false := by
      by_cases hend : n ≤ s + dsq B n s
      · exact (ub_out hend).2.2
      · rw [(ub_in (by omega) (hB _ (by omega)).2).2.1]
        have hy := fst_yes (fun i => !isD (B (s + i))) (n - s) (by show dsq B n s < n - s; omega)
        have : (!isD (B (s + dsq B n s))) = true := hy
        cases hq : isD (B (s + dsq B n s))
        · rfl
        · rw [hq] at this; cases this
    rw [hf]
    exact c_pos rfl rfl
/-- on to the next token, from wherever the last one stopped -/
theorem g_on (hn : n ≤ 900) (hs : s ≤ n) (h9 : M 138 9 ≠ 5) (h7 : M 138 7 = (n : Int)) (h8 : M 138 8 = (s : Int)) (hB : ∀ k, k < n → M 139 k = B k ∧ -128 ≤ B k ∧ B k < 128) : ∃ M', f_X13_goesOn T M = some (0, M') ∧ KM B n M' (spq B n s) ∧ kT M M' := by
  obtain ⟨hq1, hq2⟩ := spq_le (B := B) hs
  unfold f_X13_goesOn
  rw [if_neg h9]
  have hself : aup M 138 8 (s : Int) = M := by
    rw [aup_eq]
    have : (fun b => if b = 8 then (s : Int) else M 138 b) = M 138 := by
      funext b
      by_cases hb : b = 8
      · rw [if_pos hb, hb, h8]
      · rw [if_neg hb]
    rw [this, setc_self]
  have hon := fun kk => g_on9 (T := T) hn hs h7 hB kk
  rw [hself] at hon
  have hq3 : spq B n s = spq B n s := rfl
  have f7 : aup M 138 8 (spq B n s : Int) 138 7 = (n : Int) := by rw [aup_ne2 (by decide)]; exact h7
  have f8 : aup M 138 8 (spq B n s : Int) 138 8 = (spq B n s : Int) := aup_at
  have fB : ∀ k, k < n → aup M 138 8 (spq B n s : Int) 139 k = B k ∧ -128 ≤ B k ∧ B k < 128 := fun k hk => by rw [aup_nc (by decide)]; exact hB k hk
  have fk : kT M (aup M 138 8 (spq B n s : Int)) := kT_up (by decide)
  generalize spq B n s = q at hq1 hq2 hon f7 f8 fB fk ⊢
  generalize aup M 138 8 (q : Int) = M1 at hon f7 f8 fB fk
  have k8 : aup (aup M1 138 10 (q : Int)) 138 9 0 138 8 = (q : Int) := by rw [aup_ne2 (by decide), aup_ne2 (by decide)]; exact f8
  have k7 : aup (aup M1 138 10 (q : Int)) 138 9 0 138 7 = (n : Int) := by rw [aup_ne2 (by decide), aup_ne2 (by decide)]; exact f7
  have k10 : aup (aup M1 138 10 (q : Int)) 138 9 0 138 10 = (q : Int) := by rw [aup_ne2 (by decide)]; exact aup_at
  have k9 : aup (aup M1 138 10 (q : Int)) 138 9 0 138 9 = 0 := aup_at
  have kB : ∀ k, k < n → aup (aup M1 138 10 (q : Int)) 138 9 0 139 k = B k ∧ -128 ≤ B k ∧ B k < 128 := fun k hk => by rw [aup_nc (by decide), aup_nc (by decide)]; exact fB k hk
  have kk2 : kT M (aup (aup M1 138 10 (q : Int)) 138 9 0) := (fk.trans (kT_up (by decide))).trans (kT_up (by decide))
  suffices hsuf : ∃ M', ((f_X13_byteAt T (aup (aup M1 138 10 (q : Int)) 138 9 0 138 8) (aup (aup M1 138 10 (q : Int)) 138 9 0)).bind fun x16 =>
      if x16 = (-1) then (some (aup (aup (aup M1 138 10 (q : Int)) 138 9 0) 138 9 1)).bind fun m92 => some (0, m92) else
      (f_X13_isLetter T x16 (aup (aup M1 138 10 (q : Int)) 138 9 0)).bind fun x19 =>
      if x19 = 0 then
      (f_X13_isDigit T x16 (aup (aup M1 138 10 (q : Int)) 138 9 0)).bind fun x22 =>
      if x22 = 0 then
      if x16 = 59 then
      (some (aup (aup (aup M1 138 10 (q : Int)) 138 9 0) 138 9 4)).bind fun m26 =>
      if aIn ((m26 138 8) + 1) then (some (aup m26 138 8 ((m26 138 8) + 1))).bind fun m29 => some (0, m29) else none else
      some (0, aup (aup M1 138 10 (q : Int)) 138 9 0) else
      (some (aup (aup (aup M1 138 10 (q : Int)) 138 9 0) 138 11 0)).bind fun m31 =>
      l_X13_goesOn_173 T (fun w54 m56 => if 3 < w54 then some (0, m56) else (some (aup m56 138 9 3)).bind fun m59 => some (0, m59)) FU 0 m31 else
      (some (aup (aup (aup M1 138 10 (q : Int)) 138 9 0) 138 14 0)).bind fun m61 =>
      l_X13_goesOn_84 T (fun w85 m87 => if 8 < w85 then some (0, m87) else (some (aup m87 138 9 2)).bind fun m90 => some (0, m90)) FU 0 m61) = some (0, M') ∧ KM B n M' q ∧ kT M M' by
    obtain ⟨M', e, h⟩ := hsuf
    refine ⟨M', ?_, h⟩
    refine (hon _).trans ?_
    rw [f8]
    exact c_some (c_some e)
  generalize aup (aup M1 138 10 (q : Int)) 138 9 0 = M2 at k8 k7 k10 k9 kB kk2 ⊢
  rw [k8]
  have hba := g_byteAt (T := T) (q := q) hn k7 kB
  by_cases hend : n ≤ q
  · have hS : kS B n q = 0 := kS_end.mpr hend
    have he : kE B n q = q := by unfold kE; rw [if_pos hend]
    refine ⟨aup M2 138 9 1, c_bind hba (c_pos (ub_out hend).1 (c_some rfl)), ⟨⟨?_, ?_, ?_, fun _ => ?_, fun e => ?_, fun e => ?_⟩, hq2, fun k hk => ?_⟩, kk2.trans (kT_up (by decide))⟩
    · rw [aup_ne2 (by decide)]; exact k7
    · rw [aup_ne2 (by decide)]; exact k10
    · rw [hS]; exact aup_at
    · rw [aup_ne2 (by decide), he]; exact k8
    · rw [hS] at e; cases e
    · rw [hS] at e; cases e
    · rw [aup_nc (by decide)]; exact kB k hk
  · obtain ⟨u1, u2, u3, u4, u5, u6, u7⟩ := ub_in (B := B) (n := n) (q := q) (by omega) (kB q (by omega)).2
    have hil := g_isL (T := T) (M := M2) (ub B n q)
    have hid := g_isD (T := T) (M := M2) (ub B n q)
    rw [u1] at hil
    rw [u2] at hid
    by_cases hL : isL (B q) = true
    · have he : kE B n q = q + lsq B n q := by unfold kE; rw [if_neg hend, if_pos hL]
      have hz : aup M2 138 14 0 = lz M2 B q 0 := by
        unfold lz
        rw [aup_swp (by decide)]
        have : aup M2 138 8 ((q + 0 : Nat) : Int) = M2 := by
          rw [aup_eq]
          have : (fun b => if b = 8 then ((q + 0 : Nat) : Int) else M2 138 b) = M2 138 := by
            funext b
            by_cases hb : b = 8
            · rw [if_pos hb, hb, k8]; rfl
            · rw [if_neg hb]
          rw [this, setc_self]
        rw [this]
        rfl
      rw [hL] at hil
      have z7 : ∀ i, lz M2 B q i 138 7 = (n : Int) := fun i => by unfold lz; rw [aup_ne2 (by decide), aup_ne2 (by decide)]; exact k7
      have z8 : ∀ i, lz M2 B q i 138 8 = ((q + i : Nat) : Int) := fun i => aup_at
      have z9 : ∀ i, lz M2 B q i 138 9 = 0 := fun i => by unfold lz; rw [aup_ne2 (by decide), aup_ne2 (by decide)]; exact k9
      have z10 : ∀ i, lz M2 B q i 138 10 = (q : Int) := fun i => by unfold lz; rw [aup_ne2 (by decide), aup_ne2 (by decide)]; exact k10
      have z14 : ∀ i, i ≤ 8 → lz M2 B q i 138 14 = dgs (fun i => B (q + i) - 97 + 1) 32 i := fun i hi => by
        unfold lz; rw [aup_ne2 (by decide), aup_at]
        have : (if i < 8 then i else 8) = i := by split <;> omega
        rw [this]
      have zB : ∀ i k, k < n → lz M2 B q i 139 k = B k ∧ -128 ≤ B k ∧ B k < 128 := fun i k hk => by unfold lz; rw [aup_nc (by decide), aup_nc (by decide)]; exact kB k hk
      have zk : ∀ i, kT M (lz M2 B q i) := fun i => (kk2.trans (kT_up (by decide))).trans (kT_up (by decide))
      by_cases h8 : lsq B n q ≤ 8
      · have hS : kS B n q = 1 := by unfold kS; rw [if_neg hend, if_pos hL, if_pos h8]
        refine ⟨aup (lz M2 B q (lsq B n q)) 138 9 2, ?_, ⟨⟨?_, ?_, ?_, fun _ => ?_, fun _ => ?_, fun e => ?_⟩, hq2, fun k hk => ?_⟩, (zk _).trans (kT_up (by decide))⟩
        · refine c_bind hba (c_neg u5 (c_bind hil (c_neg (by decide) (c_some ?_))))
          rw [hz]
          exact (g_on84 hn hq2 k7 kB _).trans (c_neg (by omega) rfl)
        · rw [aup_ne2 (by decide)]; exact z7 _
        · rw [aup_ne2 (by decide)]; exact z10 _
        · rw [hS]; exact aup_at
        · rw [aup_ne2 (by decide), he]; exact z8 _
        · rw [aup_ne2 (by decide), z14 _ h8, (kW_pos hS).1]
        · rw [hS] at e; cases e
        · rw [aup_nc (by decide)]; exact zB _ k hk
      · have hS : kS B n q = 4 := by unfold kS; rw [if_neg hend, if_pos hL, if_neg h8]
        refine ⟨lz M2 B q (lsq B n q), ?_, ⟨⟨z7 _, z10 _, by rw [hS]; exact z9 _, fun e => absurd hS e, fun e => ?_, fun e => ?_⟩, hq2, zB _⟩, zk _⟩
        · refine c_bind hba (c_neg u5 (c_bind hil (c_neg (by decide) (c_some ?_))))
          rw [hz]
          exact (g_on84 hn hq2 k7 kB _).trans (c_pos (by omega) rfl)
        · rw [hS] at e; cases e
        · rw [hS] at e; cases e
    · have hLf : isL (B q) = false := by cases hh : isL (B q); rfl; exact absurd hh hL
      rw [hLf] at hil
      by_cases hD : isD (B q) = true
      · have he : kE B n q = q + dsq B n q := by unfold kE; rw [if_neg hend, if_neg hL, if_pos hD]
        have hz : aup M2 138 11 0 = dz M2 B q 0 := by
          unfold dz
          rw [aup_swp (by decide)]
          have : aup M2 138 8 ((q + 0 : Nat) : Int) = M2 := by
            rw [aup_eq]
            have : (fun b => if b = 8 then ((q + 0 : Nat) : Int) else M2 138 b) = M2 138 := by
              funext b
              by_cases hb : b = 8
              · rw [if_pos hb, hb, k8]; rfl
              · rw [if_neg hb]
            rw [this, setc_self]
          rw [this]
          rfl
        rw [hD] at hid
        have z7 : ∀ i, dz M2 B q i 138 7 = (n : Int) := fun i => by unfold dz; rw [aup_ne2 (by decide), aup_ne2 (by decide)]; exact k7
        have z8 : ∀ i, dz M2 B q i 138 8 = ((q + i : Nat) : Int) := fun i => aup_at
        have z9 : ∀ i, dz M2 B q i 138 9 = 0 := fun i => by unfold dz; rw [aup_ne2 (by decide), aup_ne2 (by decide)]; exact k9
        have z10 : ∀ i, dz M2 B q i 138 10 = (q : Int) := fun i => by unfold dz; rw [aup_ne2 (by decide), aup_ne2 (by decide)]; exact k10
        have z11 : ∀ i, i ≤ 3 → dz M2 B q i 138 11 = dgs (fun i => B (q + i) - 48) 10 i := fun i hi => by
          unfold dz; rw [aup_ne2 (by decide), aup_at]
          have : (if i < 3 then i else 3) = i := by split <;> omega
          rw [this]
        have zB : ∀ i k, k < n → dz M2 B q i 139 k = B k ∧ -128 ≤ B k ∧ B k < 128 := fun i k hk => by unfold dz; rw [aup_nc (by decide), aup_nc (by decide)]; exact kB k hk
        have zk : ∀ i, kT M (dz M2 B q i) := fun i => (kk2.trans (kT_up (by decide))).trans (kT_up (by decide))
        by_cases h8 : dsq B n q ≤ 3
        · have hS : kS B n q = 2 := by unfold kS; rw [if_neg hend, if_neg hL, if_pos hD, if_pos h8]
          refine ⟨aup (dz M2 B q (dsq B n q)) 138 9 3, ?_, ⟨⟨?_, ?_, ?_, fun _ => ?_, fun e => ?_, fun _ => ?_⟩, hq2, fun k hk => ?_⟩, (zk _).trans (kT_up (by decide))⟩
          · refine c_bind hba (c_neg u5 (c_bind hil (c_pos rfl (c_bind hid (c_neg (by decide) (c_some ?_))))))
            rw [hz]
            exact (g_on173 hn hq2 k7 kB _).trans (c_neg (by omega) rfl)
          · rw [aup_ne2 (by decide)]; exact z7 _
          · rw [aup_ne2 (by decide)]; exact z10 _
          · rw [hS]; exact aup_at
          · rw [aup_ne2 (by decide), he]; exact z8 _
          · rw [hS] at e; cases e
          · rw [aup_ne2 (by decide), z11 _ h8, (kN_ok hS).1]
          · rw [aup_nc (by decide)]; exact zB _ k hk
        · have hS : kS B n q = 4 := by unfold kS; rw [if_neg hend, if_neg hL, if_pos hD, if_neg h8]
          refine ⟨dz M2 B q (dsq B n q), ?_, ⟨⟨z7 _, z10 _, by rw [hS]; exact z9 _, fun e => absurd hS e, fun e => ?_, fun e => ?_⟩, hq2, zB _⟩, zk _⟩
          · refine c_bind hba (c_neg u5 (c_bind hil (c_pos rfl (c_bind hid (c_neg (by decide) (c_some ?_))))))
            rw [hz]
            exact (g_on173 hn hq2 k7 kB _).trans (c_pos (by omega) rfl)
          · rw [hS] at e; cases e
          · rw [hS] at e; cases e
      · have hDf : isD (B q) = false := by cases hh : isD (B q); rfl; exact absurd hh hD
        have he : kE B n q = q + 1 := by unfold kE; rw [if_neg hend, if_neg hL, if_neg hD]
        rw [hDf] at hid
        by_cases h59 : B q = 59
        · have hS : kS B n q = 3 := by unfold kS; rw [if_neg hend, if_neg hL, if_neg hD, if_pos h59]
          refine ⟨aup (aup M2 138 9 4) 138 8 ((q : Int) + 1), ?_, ⟨⟨?_, ?_, ?_, fun _ => ?_, fun e => ?_, fun e => ?_⟩, hq2, fun k hk => ?_⟩, (kk2.trans (kT_up (by decide))).trans (kT_up (by decide))⟩
          · refine c_bind hba (c_neg u5 (c_bind hil (c_pos rfl (c_bind hid (c_pos rfl (c_pos (u4.mpr h59) (c_some ?_)))))))
            rw [aup_ne2 (by decide), k8]
            exact c_ite (by omega) rfl
          · rw [aup_ne2 (by decide), aup_ne2 (by decide)]; exact k7
          · rw [aup_ne2 (by decide), aup_ne2 (by decide)]; exact k10
          · rw [hS, aup_ne2 (by decide)]; exact aup_at
          · rw [he]; exact aup_at
          · rw [hS] at e; cases e
          · rw [hS] at e; cases e
          · rw [aup_nc (by decide), aup_nc (by decide)]; exact kB k hk
        · have hS : kS B n q = 4 := by unfold kS; rw [if_neg hend, if_neg hL, if_neg hD, if_neg h59]
          refine ⟨M2, c_bind hba (c_neg u5 (c_bind hil (c_pos rfl (c_bind hid (c_pos rfl (c_neg (fun e => h59 (u4.mp e)) rfl)))))), ⟨⟨k7, k10, by rw [hS]; exact k9, fun e => absurd hS e, fun e => ?_, fun e => ?_⟩, hq2, kB⟩, kk2⟩
          · rw [hS] at e; cases e
          · rw [hS] at e; cases e
theorem mst_5 {k : Nat} (h : k < 5) : mst k ≠ 5 := by unfold mst; split <;> omega
theorem KM.on (hn : n ≤ 900) (h : KM B n M p) (h4 : kS B n p ≠ 4) : ∃ M', f_X13_goesOn T M = some (0, M') ∧ KM B n M' (kX B n p) ∧ kT M M' := g_on hn (kE_le h.2.1).1 (by rw [h.1.2.2.1]; have := mst_5 (kS_lt B n p); omega) h.1.1 (h.1.2.2.2.1 h4) h.2.2
theorem g_packed {k : Nat} (hk : k < 48) {v : Int} (hv : v = 2000000 + (k : Int)) : f_X13_packed T v M = some ((pkd k : Nat) : Int) := by
  subst hv
  have hsub : (2000000 + (k : Int) - 2000000).toNat = k := by omega
  have htl := (tx_ok k hk).1
  have hlen : ((atx.getD k []).length : Int) = ((txl k : Nat) : Int) := rfl
  unfold f_X13_packed
  rw [pkd_ok hk]
  refine c_ite (by omega) ?_
  refine for_until (fun i m => l_X13_packed_4 T (2000000 + (k : Int)) M (fun w9 w10 => some w9) m (dgs (txd k) 32 i) (i : Int)) (txl k) (fun i m hi => ?_) (fun m => ?_) (by omega)
  · have hb := tx_dig hk hi
    obtain ⟨d1, d2⟩ := dgs_lt (f := txd k) (m := 32) (by decide) i (fun j hj => by have := tx_dig hk (i := j) (by omega); exact ⟨by omega, by show txd k j < 32; omega⟩)
    have d3 : (32 : Nat) ^ i ≤ 32 ^ 8 := Nat.pow_le_pow_right (by decide) (by omega)
    have e8 : (32 : Nat) ^ 8 = 1099511627776 := by decide
    have d1' : (0 : Int) ≤ dgs (txd k) 32 i := d1
    have d2' : dgs (txd k) 32 i < ((32 ^ i : Nat) : Int) := d2
    have hdig : (((atx.getD k []).getD i 0 : Nat) : Int) - 97 + 1 = txd k i := rfl
    show l_X13_packed_4 T (2000000 + (k : Int)) M _ (m + 1) (dgs (txd k) 32 i) (i : Int) = l_X13_packed_4 T (2000000 + (k : Int)) M _ m (dgs (txd k) 32 i * 32 + txd k i) ((i + 1 : Nat) : Int)
    rw [l_X13_packed_4, hsub, hlen, Int.toNat_natCast]
    refine c_ite (by omega) (c_neg (by omega) (c_ite (by omega) (c_ite ⟨by omega, by omega, by omega, hi⟩ (c_ite (by omega) (c_ite (by omega) (c_ite (by omega) (c_ite (by omega) ?_)))))))
    rw [hdig, show 32 * dgs (txd k) 32 i + txd k i = dgs (txd k) 32 i * 32 + txd k i by omega]
    rfl
  · show l_X13_packed_4 T (2000000 + (k : Int)) M _ (m + 1) _ ((txl k : Nat) : Int) = _
    rw [l_X13_packed_4, hsub, hlen]
    exact c_ite (by omega) (c_pos (Int.le_refl _) rfl)
theorem KM.wrd (h : KM B n M p) {k : Nat} (hk : k < 48) {v : Int} (hv : v = 2000000 + (k : Int)) : f_X13_isWord T v M = some (bI (isw B n k p)) := by
  unfold f_X13_isWord isw
  rw [h.1.2.2.1]
  have h5 := kS_lt B n p
  refine c_ite (by omega) ?_
  by_cases hw : kS B n p = 1
  · rw [hw, decide_eq_true rfl, Bool.true_and]
    refine c_pos rfl (c_bind (g_packed hk hv) ?_)
    rw [h.1.2.2.2.2.1 hw]
    by_cases he : kW B n p = pkd k
    · rw [he, decide_eq_true rfl]
      refine c_pos ?_ rfl
      unfold alcmp
      rw [if_neg (by omega), if_pos rfl]
    · rw [decide_eq_false he]
      refine c_neg ?_ rfl
      unfold alcmp
      split
      · decide
      · rw [if_neg (by omega)]; decide
  · rw [decide_eq_false hw, Bool.false_and]
    refine c_neg ?_ rfl
    unfold mst
    split <;> omega
end Tkm

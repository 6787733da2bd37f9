/-! ===== states kept: the model's row ===== -/
section Rmb
variable {A : aA} {S : Nat → Int} {T w : Nat} {M M1 : aM}
def PG (M : aM) (na : Nat) (P : Nat → Nat → Int) : Prop := M 138 20 = (na : Int) ∧ ∀ i k, i < na → k < 12 → M 142 (12 * i + k) = P i k
def QG (M : aM) (ni : Nat) (I : Nat → Nat → Int) : Prop := M 138 21 = (ni : Int) ∧ ∀ i k, i < ni → k < 12 → M 143 (12 * i + k) = I i k
/-- twelve places laid over from some place on -/
def ov12 (g h : Nat → Int) (a n : Nat) : Nat → Int := fun b => if a ≤ b ∧ b < a + n then h (b - a) else g b
theorem ov12_up {g h : Nat → Int} {a n : Nat} : (fun b => if b = a + n then h n else ov12 g h a n b) = ov12 g h a (n + 1) := by
  funext b
  unfold ov12
  by_cases hb : b = a + n
  · rw [if_pos hb, if_pos (by omega), show b - a = n by omega]
  · rw [if_neg hb]
    by_cases h2 : a ≤ b ∧ b < a + n
    · rw [if_pos h2, if_pos (by omega)]
    · rw [if_neg h2, if_neg (by omega)]
theorem ov12_0 {g h : Nat → Int} {a : Nat} : ov12 g h a 0 = g := funext fun b => if_neg (by omega)
theorem g_rem51 {a : Nat} (ha : a < 16) (h20 : M 138 20 = (a : Int)) (kk : Int → aM → Option (Int × aM)) : l_X13_remembers_51 T kk FU 0 M = kk 12 (setc M 142 (ov12 (M 142) (M 140) (12 * a) 12)) := by
  have e0 : setc M 142 (ov12 (M 142) (M 140) (12 * a) 0) = M := by rw [ov12_0, setc_self]
  have := for_until (fun i n => l_X13_remembers_51 T kk n (i : Int) (setc M 142 (ov12 (M 142) (M 140) (12 * a) i))) (y := kk 12 (setc M 142 (ov12 (M 142) (M 140) (12 * a) 12))) 12 (fun i n hi => ?_) (fun n => ?_) (by omega)
  · have t2 : l_X13_remembers_51 T kk FU ((0 : Nat) : Int) (setc M 142 (ov12 (M 142) (M 140) (12 * a) 0)) = _ := this
    rw [e0] at t2; exact t2
  · show l_X13_remembers_51 T kk (n + 1) (i : Int) _ = l_X13_remembers_51 T kk n ((i + 1 : Nat) : Int) _
    have e20 : setc M 142 (ov12 (M 142) (M 140) (12 * a) i) 138 20 = (a : Int) := by rw [setc_ne (by decide)]; exact h20
    rw [l_X13_remembers_51, e20, show (12 * (a : Int) + (i : Int)).toNat = 12 * a + i by omega, Int.toNat_natCast, setc_ne (show (140 : Nat) ≠ 142 by decide), aup_setc, ov12_up]
    exact c_neg (by omega) (c_ite (by omega) (c_ite (by omega) (c_ite (by omega) (c_ite (by omega) (c_some (c_ite (by omega) rfl))))))
  · show l_X13_remembers_51 T kk (n + 1) ((12 : Nat) : Int) _ = _
    rw [l_X13_remembers_51]
    exact c_pos (by decide) rfl
def shf (g : Nat → Int) (i : Nat) : Nat → Int := fun b => if b < i then g (b + 12) else g b
theorem g_rem11 (kk : Int → aM → Option (Int × aM)) : l_X13_remembers_11 T kk FU 0 M = kk 180 (setc M 142 (shf (M 142) 180)) := by
  have e0 : setc M 142 (shf (M 142) 0) = M := by
    have : shf (M 142) 0 = M 142 := funext fun b => if_neg (Nat.not_lt_zero b)
    rw [this, setc_self]
  have := for_until (fun i n => l_X13_remembers_11 T kk n (i : Int) (setc M 142 (shf (M 142) i))) (y := kk 180 (setc M 142 (shf (M 142) 180))) 180 (fun i n hi => ?_) (fun n => ?_) (by omega)
  · have t2 : l_X13_remembers_11 T kk FU ((0 : Nat) : Int) (setc M 142 (shf (M 142) 0)) = _ := this
    rw [e0] at t2; exact t2
  · show l_X13_remembers_11 T kk (n + 1) (i : Int) _ = l_X13_remembers_11 T kk n ((i + 1 : Nat) : Int) _
    have eg : shf (M 142) i (i + 12) = M 142 (i + 12) := if_neg (by omega)
    rw [l_X13_remembers_11, show ((i : Int) + 12).toNat = i + 12 by omega, Int.toNat_natCast, setc_at, eg, aup_setc]
    have e1 : (fun b => if b = i then M 142 (i + 12) else shf (M 142) i b) = shf (M 142) (i + 1) := by
      funext b
      unfold shf
      by_cases hb : b = i
      · rw [if_pos hb, if_pos (by omega), hb]
      · rw [if_neg hb]
        by_cases h2 : b < i
        · rw [if_pos h2, if_pos (by omega)]
        · rw [if_neg h2, if_neg (by omega)]
    rw [e1]
    exact c_neg (by omega) (c_ite (by omega) (c_ite (by omega) (c_ite (by omega) (c_some (c_ite (by omega) rfl)))))
  · show l_X13_remembers_11 T kk (n + 1) ((180 : Nat) : Int) _ = _
    rw [l_X13_remembers_11]
    exact c_pos (by decide) rfl
theorem g_remembers {na : Nat} {P : Nat → Nat → Int} (hna : na ≤ 16) (hp : PG M na P) (hv : ∀ k, k < 12 → M 140 k = S k) : ∃ M2, f_X13_remembers T M = some (0, M2) ∧ PG M2 (rna na) (rem na P S) ∧ (∀ n, n ≠ 138 → n ≠ 142 → M2 n = M n) ∧ ∀ k, k ≠ 20 → M2 138 k = M 138 k := by
  obtain ⟨p1, p2⟩ := hp
  unfold f_X13_remembers
  rw [p1]
  by_cases h16 : na = 16
  · subst h16
    have hr : rna 16 = 16 := rfl
    let Z : aM := aup (setc M 142 (shf (M 142) 180)) 138 20 15
    have z20 : Z 138 20 = ((15 : Nat) : Int) := aup_at
    have z142 : Z 142 = shf (M 142) 180 := by show aup (setc M 142 (shf (M 142) 180)) 138 20 15 142 = _; rw [aup_nc (by decide), setc_at]
    have z140 : Z 140 = M 140 := by show aup (setc M 142 (shf (M 142) 180)) 138 20 15 140 = _; rw [aup_nc (by decide), setc_ne (by decide)]
    refine ⟨aup (setc Z 142 (ov12 (Z 142) (Z 140) (12 * 15) 12)) 138 20 16, ?_, ⟨aup_at, fun i k hi hk => ?_⟩, fun n h1 h2 => ?_, fun k hk => ?_⟩
    · refine c_pos rfl ?_
      rw [g_rem11]
      have e20 : setc M 142 (shf (M 142) 180) 138 20 = 16 := by rw [setc_ne (by decide)]; exact p1
      rw [e20]
      refine c_ite (by decide) (c_some ?_)
      show l_X13_remembers_51 T _ FU 0 Z = _
      rw [g_rem51 (by decide) z20]
      have e20b : setc Z 142 (ov12 (Z 142) (Z 140) (12 * 15) 12) 138 20 = ((15 : Nat) : Int) := by rw [setc_ne (by decide)]; exact z20
      rw [e20b]
      exact c_ite (by decide) rfl
    · rw [aup_nc (by decide), setc_at, z142, z140]
      rw [hr] at hi
      have er : rem 16 P S i = if i = 15 then S else P (i + 1) := if_neg (by decide)
      rw [er]
      unfold ov12
      by_cases h15 : i = 15
      · rw [if_pos (by omega), if_pos h15, show 12 * i + k - 12 * 15 = k by omega]; exact hv k hk
      · rw [if_neg (by omega), if_neg h15]
        unfold shf
        rw [if_pos (by omega), show 12 * i + k + 12 = 12 * (i + 1) + k by omega]
        exact p2 (i + 1) k (by omega) hk
    · rw [aup_nc h1, setc_ne h2]
      show aup (setc M 142 (shf (M 142) 180)) 138 20 15 n = _
      rw [aup_nc h1, setc_ne h2]
    · rw [aup_ne2 hk, setc_ne (by decide)]
      show aup (setc M 142 (shf (M 142) 180)) 138 20 15 138 k = _
      rw [aup_ne2 hk, setc_ne (by decide)]
  · have hlt : na < 16 := by omega
    have hr : rna na = na + 1 := if_pos hlt
    refine ⟨aup (setc M 142 (ov12 (M 142) (M 140) (12 * na) 12)) 138 20 ((na + 1 : Nat) : Int), ?_, ⟨by rw [hr]; exact aup_at, fun i k hi hk => ?_⟩, fun n h1 h2 => ?_, fun k hk => ?_⟩
    · refine c_neg (by omega) ?_
      rw [g_rem51 hlt p1]
      have e20b : setc M 142 (ov12 (M 142) (M 140) (12 * na) 12) 138 20 = (na : Int) := by rw [setc_ne (by decide)]; exact p1
      rw [e20b, show (na : Int) + 1 = ((na + 1 : Nat) : Int) by omega]
      exact c_ite (by omega) rfl
    · rw [aup_nc (by decide), setc_at]
      rw [hr] at hi
      unfold ov12 rem
      rw [if_pos hlt]
      by_cases h15 : i = na
      · rw [if_pos (by omega), if_pos h15, show 12 * i + k - 12 * na = k by omega]; exact hv k hk
      · rw [if_neg (by omega), if_neg h15]
        exact p2 i k (by omega) hk
    · rw [aup_nc h1, setc_ne h2]
    · rw [aup_ne2 hk, setc_ne (by decide)]
theorem g_remains : f_X13_remains T M = some (0, setc M 140 (fun b => if b < 12 then M 141 b else M 140 b)) := by
  have e0 : setc M 140 (fun b => if b < 0 then M 141 b else M 140 b) = M := by
    have : (fun b => if b < 0 then M 141 b else M 140 b) = M 140 := funext fun b => if_neg (Nat.not_lt_zero b)
    rw [this, setc_self]
  unfold f_X13_remains
  have := for_until (fun i n => l_X13_remains_2 T (fun w6 m7 => some (0, m7)) n (i : Int) (setc M 140 (fun b => if b < i then M 141 b else M 140 b))) (y := some (0, setc M 140 (fun b => if b < 12 then M 141 b else M 140 b))) 12 (fun i n hi => ?_) (fun n => ?_) (by omega)
  · have t2 : l_X13_remains_2 T (fun w6 m7 => some (0, m7)) FU ((0 : Nat) : Int) (setc M 140 (fun b => if b < 0 then M 141 b else M 140 b)) = _ := this
    rw [e0] at t2; exact t2
  · show l_X13_remains_2 T _ (n + 1) (i : Int) _ = l_X13_remains_2 T _ n ((i + 1 : Nat) : Int) _
    rw [l_X13_remains_2]
    refine c_neg (by omega) (c_ite (by omega) (c_some (c_ite (by omega) ?_)))
    rw [Int.toNat_natCast, aup_setc, setc_ne (by decide)]
    have : (fun b => if b = i then M 141 i else if b < i then M 141 b else M 140 b) = (fun b => if b < i + 1 then M 141 b else M 140 b) := by
      funext b
      by_cases hb : b = i
      · rw [if_pos hb, if_pos (by omega), hb]
      · rw [if_neg hb]
        by_cases h2 : b < i
        · rw [if_pos h2, if_pos (by omega)]
        · rw [if_neg h2, if_neg (by omega)]
    rw [this]; rfl
  · show l_X13_remains_2 T _ (n + 1) ((12 : Nat) : Int) _ = _
    rw [l_X13_remains_2]
    exact c_pos (by decide) rfl
theorem g_undo38 {a : Nat} (ha : a < 16) (h20 : M 138 20 = (a : Int)) (kk : Int → aM → Option (Int × aM)) : l_X13_undo_38 T kk FU 0 M = kk 12 (setc M 140 (fun b => if b < 12 then M 142 (12 * a + b) else M 140 b)) := by
  have e0 : setc M 140 (fun b => if b < 0 then M 142 (12 * a + b) else M 140 b) = M := by
    have : (fun b => if b < 0 then M 142 (12 * a + b) else M 140 b) = M 140 := funext fun b => if_neg (Nat.not_lt_zero b)
    rw [this, setc_self]
  have := for_until (fun i n => l_X13_undo_38 T kk n (i : Int) (setc M 140 (fun b => if b < i then M 142 (12 * a + b) else M 140 b))) (y := kk 12 (setc M 140 (fun b => if b < 12 then M 142 (12 * a + b) else M 140 b))) 12 (fun i n hi => ?_) (fun n => ?_) (by omega)
  · have t2 : l_X13_undo_38 T kk FU ((0 : Nat) : Int) (setc M 140 (fun b => if b < 0 then M 142 (12 * a + b) else M 140 b)) = _ := this
    rw [e0] at t2; exact t2
  · show l_X13_undo_38 T kk (n + 1) (i : Int) _ = l_X13_undo_38 T kk n ((i + 1 : Nat) : Int) _
    rw [l_X13_undo_38, setc_ne (show (138 : Nat) ≠ 140 by decide), h20, show (12 * (a : Int) + (i : Int)).toNat = 12 * a + i by omega, Int.toNat_natCast, setc_ne (show (142 : Nat) ≠ 140 by decide), aup_setc]
    have e1 : (fun b => if b = i then M 142 (12 * a + i) else if b < i then M 142 (12 * a + b) else M 140 b) = (fun b => if b < i + 1 then M 142 (12 * a + b) else M 140 b) := by
      funext b
      by_cases hb : b = i
      · rw [if_pos hb, if_pos (by omega), hb]
      · rw [if_neg hb]
        by_cases h2 : b < i
        · rw [if_pos h2, if_pos (by omega)]
        · rw [if_neg h2, if_neg (by omega)]
    rw [e1]
    exact c_neg (by omega) (c_ite (by omega) (c_ite (by omega) (c_ite (by omega) (c_ite (by omega) (c_some (c_ite (by omega) rfl))))))
  · show l_X13_undo_38 T kk (n + 1) ((12 : Nat) : Int) _ = _
    rw [l_X13_undo_38]
    exact c_pos (by decide) rfl
theorem g_back32 {a : Nat} (ha : a < 3) (kk : Int → aM → Option (Int × aM)) : l_X13_back_32 T (a : Int) kk FU 0 M = kk 12 (setc M 140 (fun b => if b < 12 then M 143 (12 * a + b) else M 140 b)) := by
  have e0 : setc M 140 (fun b => if b < 0 then M 143 (12 * a + b) else M 140 b) = M := by
    have : (fun b => if b < 0 then M 143 (12 * a + b) else M 140 b) = M 140 := funext fun b => if_neg (Nat.not_lt_zero b)
    rw [this, setc_self]
  have := for_until (fun i n => l_X13_back_32 T (a : Int) kk n (i : Int) (setc M 140 (fun b => if b < i then M 143 (12 * a + b) else M 140 b))) (y := kk 12 (setc M 140 (fun b => if b < 12 then M 143 (12 * a + b) else M 140 b))) 12 (fun i n hi => ?_) (fun n => ?_) (by omega)
  · have t2 : l_X13_back_32 T (a : Int) kk FU ((0 : Nat) : Int) (setc M 140 (fun b => if b < 0 then M 143 (12 * a + b) else M 140 b)) = _ := this
    rw [e0] at t2; exact t2
  · show l_X13_back_32 T (a : Int) kk (n + 1) (i : Int) _ = l_X13_back_32 T (a : Int) kk n ((i + 1 : Nat) : Int) _
    rw [l_X13_back_32, show (12 * (a : Int) + (i : Int)).toNat = 12 * a + i by omega, Int.toNat_natCast, setc_ne (show (143 : Nat) ≠ 140 by decide), aup_setc]
    have e1 : (fun b => if b = i then M 143 (12 * a + i) else if b < i then M 143 (12 * a + b) else M 140 b) = (fun b => if b < i + 1 then M 143 (12 * a + b) else M 140 b) := by
      funext b
      by_cases hb : b = i
      · rw [if_pos hb, if_pos (by omega), hb]
      · rw [if_neg hb]
        by_cases h2 : b < i
        · rw [if_pos h2, if_pos (by omega)]
        · rw [if_neg h2, if_neg (by omega)]
    rw [e1]
    exact c_neg (by omega) (c_ite (by omega) (c_ite (by omega) (c_ite (by omega) (c_ite (by omega) (c_some (c_ite (by omega) rfl))))))
  · show l_X13_back_32 T (a : Int) kk (n + 1) ((12 : Nat) : Int) _ = _
    rw [l_X13_back_32]
    exact c_pos (by decide) rfl
theorem g_image34 {a : Nat} (ha : a < 3) (h21 : M 138 21 = (a : Int)) (kk : Int → aM → Option (Int × aM)) : l_X13_image_34 T kk FU 0 M = kk 12 (setc M 143 (ov12 (M 143) (M 140) (12 * a) 12)) := by
  have e0 : setc M 143 (ov12 (M 143) (M 140) (12 * a) 0) = M := by rw [ov12_0, setc_self]
  have := for_until (fun i n => l_X13_image_34 T kk n (i : Int) (setc M 143 (ov12 (M 143) (M 140) (12 * a) i))) (y := kk 12 (setc M 143 (ov12 (M 143) (M 140) (12 * a) 12))) 12 (fun i n hi => ?_) (fun n => ?_) (by omega)
  · have t2 : l_X13_image_34 T kk FU ((0 : Nat) : Int) (setc M 143 (ov12 (M 143) (M 140) (12 * a) 0)) = _ := this
    rw [e0] at t2; exact t2
  · show l_X13_image_34 T kk (n + 1) (i : Int) _ = l_X13_image_34 T kk n ((i + 1 : Nat) : Int) _
    have e21 : setc M 143 (ov12 (M 143) (M 140) (12 * a) i) 138 21 = (a : Int) := by rw [setc_ne (by decide)]; exact h21
    rw [l_X13_image_34, e21, show (12 * (a : Int) + (i : Int)).toNat = 12 * a + i by omega, Int.toNat_natCast, setc_ne (show (140 : Nat) ≠ 143 by decide), aup_setc, ov12_up]
    exact c_neg (by omega) (c_ite (by omega) (c_ite (by omega) (c_ite (by omega) (c_ite (by omega) (c_some (c_ite (by omega) rfl))))))
  · show l_X13_image_34 T kk (n + 1) ((12 : Nat) : Int) _ = _
    rw [l_X13_image_34]
    exact c_pos (by decide) rfl
end Rmb

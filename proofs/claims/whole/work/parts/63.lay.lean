/-! ===== lands laid: the class's, the model's ===== -/
section Lay
variable {A : aA} {T e : Nat} {M : aM} {s : Nat} {dr : Nat → Bool}
/-- the first n places laid anew -/
def ovr (g : Nat → Int) (n : Nat) (V : Nat → Nat) : Nat → Int := fun b => if b < n then (V b : Int) else g b
theorem ovr_at {g : Nat → Int} {n b : Nat} {V : Nat → Nat} (h : b < n) : ovr g n V b = (V b : Int) := if_pos h
theorem ovr_up {g : Nat → Int} {n t x : Nat} {V : Nat → Nat} (ht : t < n) : (fun b => if b = t then (x : Int) else ovr g n V b) = ovr g n (fun i => if i = t then x else V i) := by
  funext b
  unfold ovr
  by_cases h : b = t
  · rw [if_pos h, if_pos (by omega)]
    exact congrArg _ (if_pos h).symm
  · rw [if_neg h]
    split
    · exact congrArg _ (if_neg h).symm
    · rfl
theorem ovr_cong {g : Nat → Int} {n : Nat} {V W : Nat → Nat} (h : ∀ b, b < n → V b = W b) : ovr g n V = ovr g n W := by
  funext b
  unfold ovr
  split
  · rename_i hb; rw [h b hb]
  · rfl
/-- neighbours by the first ways -/
def nrs (A : aA) (dr : Nat → Bool) (i c : Nat) : Nat := msk (fun x => decide (wy A c x < i) && dr (wy A c x)) 8
theorem nrs_bit (i c x : Nat) : (nrs A dr i c).testBit x = (decide (x < 8) && (decide (wy A c x < i) && dr (wy A c x))) := msk_bit _ _ _
theorem nrs_end (c : Nat) : nrs A dr (A 0 2) c = nr A dr c := rfl
theorem nrs_0 (c : Nat) : nrs A dr 0 c = 0 := by
  apply Nat.eq_of_testBit_eq
  intro x
  rw [nrs_bit]; simp
theorem nrs_lt (i c : Nat) : nrs A dr i c < 2147483648 := msk_lt31 _ (by decide)
theorem wy_is (hA : WF A) {i : Nat} (hi : i < A 0 2) (c x : Nat) : wy A c x = i ↔ jn (A 2) (A 3) i c x := by
  constructor
  · intro h
    have := wy_jn (A := A) (a := c) (b := x) (by omega)
    rw [h] at this; exact this
  · exact wy_eq hA hi
theorem wyp_f {a b k : Nat} (h : ¬ jn (A 2) (A 3) k a b) : wyp A a b k = false := by
  cases hp : wyp A a b k
  · rfl
  · exact absurd (wyp_jn.mp hp) h
/-- what a way adds -/
theorem nrs_up (hA : WF A) {i : Nat} (hi : i < A 0 2) (hd : dr i = true) {g : Nat → Int} : (fun b => if b = A 3 i then ((((if A 3 i = A 2 i then nrs A dr i (A 2 i) ||| 2 ^ A 3 i else nrs A dr i (A 3 i)) ||| 2 ^ A 2 i : Nat)) : Int) else if b = A 2 i then ((nrs A dr i (A 2 i) ||| 2 ^ A 3 i : Nat) : Int) else ovr g 8 (nrs A dr i) b) = ovr g 8 (nrs A dr (i + 1)) := by
  have hw := hA.2.2.1 i hi
  have h8 := hA.1.2.1
  have key : ∀ c x, x < 8 → (nrs A dr (i + 1) c).testBit x = ((nrs A dr i c).testBit x || wyp A c x i) := by
    intro c x hx
    rw [nrs_bit, nrs_bit, decide_eq_true hx, Bool.true_and, Bool.true_and]
    by_cases h : wy A c x = i
    · rw [wyp_jn.mpr ((wy_is hA hi c x).mp h), Bool.or_true, h, hd, decide_eq_true (by omega)]; rfl
    · rw [wyp_f (fun hj => h ((wy_is hA hi c x).mpr hj)), Bool.or_false]
      have : decide (wy A c x < i + 1) = decide (wy A c x < i) := by rw [decide_eq_decide]; omega
      rw [this]
  funext b
  by_cases h3 : b = A 3 i
  · rw [if_pos h3, if_neg (by omega), ovr_at (by omega)]
    refine congrArg _ (Nat.eq_of_testBit_eq fun x => ?_)
    rw [Nat.testBit_or]
    by_cases hx : x < 8
    · rw [key b x hx, h3]
      congr 1
      by_cases hx2 : A 2 i = x
      · rw [← hx2]
        rw [Nat.testBit_two_pow_self, wyp_jn.mpr (Or.inr ⟨rfl, rfl⟩ : jn (A 2) (A 3) i (A 3 i) (A 2 i))]
      · rw [Nat.testBit_two_pow_of_ne hx2, wyp_f]
        rintro (⟨h1, h2⟩ | ⟨h1, h2⟩) <;> omega
    · rw [nrs_bit, nrs_bit, decide_eq_false hx, Bool.false_and, Bool.false_and, Nat.testBit_two_pow_of_ne (by omega)]; rfl
  · rw [if_neg h3]
    by_cases h2 : b = A 2 i
    · rw [if_pos h2, ovr_at (by omega)]
      refine congrArg _ (Nat.eq_of_testBit_eq fun x => ?_)
      rw [Nat.testBit_or]
      by_cases hx : x < 8
      · rw [key b x hx, h2]
        congr 1
        by_cases hx2 : A 3 i = x
        · rw [← hx2]
          rw [Nat.testBit_two_pow_self, wyp_jn.mpr (Or.inl ⟨rfl, rfl⟩ : jn (A 2) (A 3) i (A 2 i) (A 3 i))]
        · rw [Nat.testBit_two_pow_of_ne hx2, wyp_f]
          rintro (⟨h1, h2⟩ | ⟨h1, h2⟩) <;> omega
      · rw [nrs_bit, nrs_bit, decide_eq_false hx, Bool.false_and, Bool.false_and, Nat.testBit_two_pow_of_ne (by omega)]; rfl
    · rw [if_neg h2]
      unfold ovr
      by_cases hb : b < 8
      · rw [if_pos hb, if_pos hb]
        refine congrArg _ (Nat.eq_of_testBit_eq fun x => ?_)
        by_cases hx : x < 8
        · rw [key b x hx, wyp_f, Bool.or_false]
          rintro (⟨h1, h2⟩ | ⟨h1, h2⟩) <;> omega
        · rw [nrs_bit, nrs_bit, decide_eq_false hx, Bool.false_and, Bool.false_and]
      · rw [if_neg hb, if_neg hb]
theorem nrs_same {i : Nat} (hd : dr i = false) : nrs A dr (i + 1) = nrs A dr i := by
  funext c
  refine msk_cong fun x _ => ?_
  by_cases h : wy A c x = i
  · rw [h, hd, Bool.and_false, Bool.and_false]
  · have : decide (wy A c x < i + 1) = decide (wy A c x < i) := by rw [decide_eq_decide]; omega
    rw [this]
theorem h_join2 (k : Int → aM → Option (Int × aM)) : l_X5_joinNeighbours_2 T e k FU 0 M = k 8 (setc M (e + 1) (ovr (M (e + 1)) 8 (fun _ => 0))) := by
  have e0 : setc M (e + 1) (ovr (M (e + 1)) 0 (fun _ => 0)) = M := by
    have : ovr (M (e + 1)) 0 (fun _ => 0) = M (e + 1) := funext fun b => if_neg (Nat.not_lt_zero b)
    rw [this, setc_self]
  have h := for_until (fun i n => l_X5_joinNeighbours_2 T e k n (i : Int) (setc M (e + 1) (ovr (M (e + 1)) i (fun _ => 0)))) (y := k 8 (setc M (e + 1) (ovr (M (e + 1)) 8 (fun _ => 0)))) 8 ?_ ?_ (by omega)
  · have h2 : l_X5_joinNeighbours_2 T e k FU ((0 : Nat) : Int) (setc M (e + 1) (ovr (M (e + 1)) 0 (fun _ => 0))) = _ := h
    rw [e0] at h2
    exact h2
  · intro i n hi
    show l_X5_joinNeighbours_2 T e k (n + 1) (i : Int) _ = l_X5_joinNeighbours_2 T e k n ((i + 1 : Nat) : Int) _
    rw [l_X5_joinNeighbours_2]
    refine c_neg (by omega) (c_ite (by omega) (c_some (c_ite (by omega) ?_)))
    rw [Int.toNat_natCast, aup_setc]
    have : (fun b => if b = i then (0 : Int) else ovr (M (e + 1)) i (fun _ => 0) b) = ovr (M (e + 1)) (i + 1) (fun _ => 0) := by
      funext b
      unfold ovr
      split
      · rw [if_pos (by omega)]; rfl
      · split
        · rw [if_pos (by omega)]
        · rw [if_neg (by omega)]
    rw [this]; rfl
  · intro n
    show l_X5_joinNeighbours_2 T e k (n + 1) ((8 : Nat) : Int) _ = _
    rw [l_X5_joinNeighbours_2]
    exact c_pos (by omega) rfl
theorem tw_ne (h : TW M A) {n : Nat} (hn : 6 < n) (f : Nat → Int) : TW (setc M n f) A := by
  obtain ⟨h1, h2, h3⟩ := h
  refine ⟨?_, ?_, fun k hk => ?_⟩
  · rw [setc_ne (by omega)]; exact h1
  · rw [setc_ne (by omega)]; exact h2
  · rw [setc_ne (by omega), setc_ne (by omega), setc_ne (by omega)]; exact h3 k hk
theorem h_join (hA : WF A) (he : isLand e) (hw : TW M A) (hs : s < 2147483648) (hes : M e 3 = (s : Int)) : f_X5_joinNeighbours T e M = some (0, setc M (e + 1) (ovr (M (e + 1)) 8 (nr A (dry s)))) := by
  have hA8 := hA.1.2.1
  have hA10 := hA.1.2.2.1
  have he39 : 39 ≤ e := by unfold isLand at he; omega
  unfold f_X5_joinNeighbours
  rw [h_join2]
  have e0 : ovr (M (e + 1)) 8 (fun _ => 0) = ovr (M (e + 1)) 8 (nrs A (dry s) 0) := ovr_cong fun b _ => (nrs_0 b).symm
  rw [e0]
  refine for_until (fun i n => l_X5_joinNeighbours_23 T e _ n (i : Int) (setc M (e + 1) (ovr (M (e + 1)) 8 (nrs A (dry s) i)))) (A 0 2) ?_ ?_ (by omega)
  · intro i n hi
    obtain ⟨-, h2, h3⟩ := tw_ne hw (n := e + 1) (by omega) (ovr (M (e + 1)) 8 (nrs A (dry s) i))
    obtain ⟨g1, g2, -⟩ := h3 i hi
    have hwf := hA.2.2.1 i hi
    have he3 : (setc M (e + 1) (ovr (M (e + 1)) 8 (nrs A (dry s) i))) e 3 = (s : Int) := by rw [setc_ne (by omega)]; exact hes
    show l_X5_joinNeighbours_23 T e _ (n + 1) (i : Int) _ = l_X5_joinNeighbours_23 T e _ n ((i + 1 : Nat) : Int) _
    rw [l_X5_joinNeighbours_23]
    refine c_neg (by rw [h2]; omega) ?_
    rw [he3]
    refine c_bind (h_hasBit hs (by omega)) ?_
    cases hd : s.testBit i
    · have hdr : dry s i = true := by unfold dry; rw [hd]; rfl
      refine c_pos rfl (c_ite (by omega) ?_)
      rw [Int.toNat_natCast, g1, g2, Int.toNat_natCast, setc_at, ovr_at (by omega), ashl_one _ (by omega), aor_nat (nrs_lt _ _) (Nat.pow_lt_pow_right (a := 2) (n := 31) (by decide) (by omega)), aup_setc]
      refine c_ite (by omega) (c_some ?_)
      have g1' : ∀ f, setc M (e + 1) f 4 i = (A 2 i : Int) := fun f => by rw [setc_ne (by omega)]; exact (hw.2.2 i hi).1
      have g2' : ∀ f, setc M (e + 1) f 5 i = (A 3 i : Int) := fun f => by rw [setc_ne (by omega)]; exact (hw.2.2 i hi).2.1
      rw [g1', g2', Int.toNat_natCast, setc_at]
      refine c_ite (by omega) (c_some (c_ite (by omega) ?_))
      rw [if_neg (by omega), ovr_at (by omega), ashl_one _ (by omega), aor_nat (nrs_lt _ _) (Nat.pow_lt_pow_right (a := 2) (n := 31) (by decide) (by omega)), aup_setc]
      have := nrs_up (dr := dry s) hA hi hdr (g := M (e + 1))
      rw [if_neg (show ¬ A 3 i = A 2 i by omega)] at this
      rw [this]; rfl
    · have hdr : dry s i = false := by unfold dry; rw [hd]; rfl
      refine c_neg (by decide) (c_ite (by omega) ?_)
      rw [nrs_same hdr]; rfl
  · intro n
    show l_X5_joinNeighbours_23 T e _ (n + 1) ((A 0 2 : Nat) : Int) _ = _
    rw [l_X5_joinNeighbours_23]
    refine c_pos ?_ rfl
    rw [(tw_ne hw (n := e + 1) (by omega) _).2.1]
    exact Int.le_refl _
/-- rows of eight, the first n laid anew -/
def rws (g : Nat → Int) (n : Nat) (D : Nat → Nat → Nat) : Nat → Int := fun b => if b < 8 * n then (D (b / 8) (b % 8) : Int) else g b
theorem rws_at {g : Nat → Int} {n c t : Nat} {D : Nat → Nat → Nat} (hc : c < n) (ht : t < 8) : rws g n D (8 * c + t) = (D c t : Int) := by
  unfold rws
  rw [if_pos (by omega), show (8 * c + t) / 8 = c by omega, show (8 * c + t) % 8 = t by omega]
theorem rws_up {g : Nat → Int} {n : Nat} {D : Nat → Nat → Nat} : rw8 (rws g n D) n (D n) = rws g (n + 1) D := by
  funext b
  unfold rw8 rws
  by_cases h : 8 * n ≤ b ∧ b < 8 * n + 8
  · rw [if_pos h, if_pos (by omega), show b / 8 = n by omega, show b - 8 * n = b % 8 by omega]
  · rw [if_neg h]
    by_cases h2 : b < 8 * n
    · rw [if_pos h2, if_pos (by omega)]
    · rw [if_neg h2, if_neg (by omega)]
/-- a land of the class, laid -/
def layM (M : aM) (e : Nat) (A : aA) (s : Nat) : aM := setc (setc (aup M e 3 (s : Int)) (e + 1) (ovr (M (e + 1)) 8 (nr A (dry s)))) (e + 2) (rws (M (e + 2)) (A 0 1) (fun c t => cl (dst A (dry s) c t)))
theorem layM_ne {n : Nat} (h : n ≠ e ∧ n ≠ e + 1 ∧ n ≠ e + 2) : layM M e A s n = M n := by
  unfold layM
  rw [setc_ne h.2.2, setc_ne h.2.1, aup_nc h.1]
theorem layM_LD : LD (layM M e A s) e A (dry s) := by
  constructor
  · intro c hc
    unfold layM
    rw [setc_ne (by omega), setc_at, ovr_at hc]
  · intro c t hc ht
    unfold layM
    rw [setc_at, rws_at hc ht]
theorem tw_aup (h : TW M A) {n k : Nat} {v : Int} (hn : 6 < n) : TW (aup M n k v) A := by rw [aup_eq]; exact tw_ne h hn _
theorem h_lay (hA : WF A) (he : isLand e) (hw : TW M A) (hs : s < 2147483648) : f_X5_lay T e (s : Int) M = some (0, layM M e A s) := by
  have hA8 := hA.1.2.1
  have he39 : 39 ≤ e := by unfold isLand at he; omega
  unfold f_X5_lay
  have hw1 : TW (aup M e 3 (s : Int)) A := tw_aup hw (by omega)
  refine c_some (c_bind (h_join hA he hw1 hs aup_at) ?_)
  rw [aup_nc (show e + 1 ≠ e by omega)]
  have hw2 : TW (setc (aup M e 3 (s : Int)) (e + 1) (ovr (M (e + 1)) 8 (nr A (dry s)))) A := tw_ne hw1 (by omega) _
  have hes2 : setc (aup M e 3 (s : Int)) (e + 1) (ovr (M (e + 1)) 8 (nr A (dry s))) e 3 = (s : Int) := by rw [setc_ne (by omega)]; exact aup_at
  have hg : setc (aup M e 3 (s : Int)) (e + 1) (ovr (M (e + 1)) 8 (nr A (dry s))) (e + 2) = M (e + 2) := by rw [setc_ne (by omega), aup_nc (by omega)]
  unfold layM
  generalize hM2 : setc (aup M e 3 (s : Int)) (e + 1) (ovr (M (e + 1)) 8 (nr A (dry s))) = M2 at hw2 hes2 hg ⊢
  have e0 : setc M2 (e + 2) (rws (M (e + 2)) 0 (fun c t => cl (dst A (dry s) c t))) = M2 := by
    have : rws (M (e + 2)) 0 (fun c t => cl (dst A (dry s) c t)) = M2 (e + 2) := by rw [hg]; exact funext fun b => if_neg (by omega)
    rw [this, setc_self]
  have h := for_until (fun i n => l_X5_lay_11 T e (fun w13 m15 => some (0, m15)) n (i : Int) (setc M2 (e + 2) (rws (M (e + 2)) i (fun c t => cl (dst A (dry s) c t))))) (y := some (0, setc M2 (e + 2) (rws (M (e + 2)) (A 0 1) (fun c t => cl (dst A (dry s) c t))))) (A 0 1) ?_ ?_ (by omega)
  · have h2 : l_X5_lay_11 T e (fun w13 m15 => some (0, m15)) FU ((0 : Nat) : Int) (setc M2 (e + 2) (rws (M (e + 2)) 0 (fun c t => cl (dst A (dry s) c t)))) = _ := h
    rw [e0] at h2
    exact h2
  · intro i n hi
    have hw3 := tw_ne hw2 (n := e + 2) (by omega) (rws (M (e + 2)) i (fun c t => cl (dst A (dry s) c t)))
    show l_X5_lay_11 T e _ (n + 1) (i : Int) _ = l_X5_lay_11 T e _ n ((i + 1 : Nat) : Int) _
    rw [l_X5_lay_11]
    refine c_neg (by rw [hw3.1]; omega) ?_
    refine c_bind (h_measure hA he hw3 hs (by rw [setc_ne (by omega)]; exact hes2) hi) ?_
    refine c_ite (by omega) ?_
    rw [setc_setc, setc_at]
    have := rws_up (g := M (e + 2)) (n := i) (D := fun c t => cl (dst A (dry s) c t))
    rw [this]; rfl
  · intro n
    show l_X5_lay_11 T e _ (n + 1) ((A 0 1 : Nat) : Int) _ = _
    rw [l_X5_lay_11]
    refine c_pos ?_ rfl
    rw [(tw_ne hw2 (n := e + 2) (by omega) _).1]
    exact Int.le_refl _
/-- one row of a land -/
theorem h_layFrom (hA : WF A) (he : isLand e) (hw : TW M A) (hs : s < 2147483648) {c : Nat} (hc : c < A 0 1) : f_X5_layFrom T e (s : Int) (c : Int) M = some (0, setc (aup M e 3 (s : Int)) (e + 2) (rw8 (M (e + 2)) c (fun t => cl (dst A (dry s) c t)))) := by
  have he39 : 39 ≤ e := by unfold isLand at he; omega
  unfold f_X5_layFrom
  refine c_some (c_bind (h_measure hA he (tw_aup hw (by omega)) hs aup_at hc) ?_)
  rw [aup_nc (show e + 2 ≠ e by omega)]
end Lay

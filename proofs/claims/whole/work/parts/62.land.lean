/-! ===== the class's rows of distances ===== -/
section Land
variable {A : aA} {T e : Nat} {M : aM} {s : Nat}
/-- eight places from 8 c on, laid anew -/
def rw8 (g : Nat → Int) (c : Nat) (V : Nat → Nat) : Nat → Int := fun b => if 8 * c ≤ b ∧ b < 8 * c + 8 then (V (b - 8 * c) : Int) else g b
theorem rw8_at {g : Nat → Int} {c t : Nat} {V : Nat → Nat} (ht : t < 8) : rw8 g c V (8 * c + t) = (V t : Int) := by
  unfold rw8
  rw [if_pos (by omega), show 8 * c + t - 8 * c = t by omega]
theorem rw8_out {g : Nat → Int} {c b : Nat} {V : Nat → Nat} (h : b < 8 * c ∨ 8 * c + 8 ≤ b) : rw8 g c V b = g b := if_neg (by omega)
theorem rw8_up {g : Nat → Int} {c t x : Nat} {V : Nat → Nat} (ht : t < 8) : (fun b => if b = 8 * c + t then (x : Int) else rw8 g c V b) = rw8 g c (fun i => if i = t then x else V i) := by
  funext b
  unfold rw8
  by_cases h : b = 8 * c + t
  · rw [if_pos h, if_pos (by omega)]
    exact congrArg _ (if_pos (by omega)).symm
  · rw [if_neg h]
    split
    · exact congrArg _ (if_neg (by omega)).symm
    · rfl
theorem shrt_eq {V : Nat → Nat} {a b l : Nat} (h : V a + l < V b) : shrt V a b l = fun i => if i = b then V a + l else V i := by
  funext i
  unfold shrt
  by_cases hi : i = b
  · rw [if_pos ⟨hi, h⟩, if_pos hi]
  · rw [if_neg (fun h => hi h.1), if_neg hi]
theorem shrt_no {V : Nat → Nat} {a b l : Nat} (h : ¬ V a + l < V b) : shrt V a b l = V := by
  funext i
  unfold shrt
  rw [if_neg (fun h2 => h h2.2)]
/-- one way -/
def chk2 (V : Nat → Nat) (a b l : Nat) : Bool := decide (V a + l < V b) || decide (V b + l < V a)
theorem h_shortens {g : Nat → Int} {c a b l : Nat} {V : Nat → Nat} (hc : c < 8) (ha : a < 8) (hb : b < 8) (hab : a ≠ b) (hl : l ≤ 20) (hV : ∀ t, V t ≤ 1000000) : f_X5_shortens T e (((8 * c + a : Nat)) : Int) ((8 * c + b : Nat) : Int) (l : Int) (setc M (e + 2) (rw8 g c V)) = some (bI (chk2 V a b l), setc M (e + 2) (rw8 g c (shrt (shrt V a b l) b a l))) := by
  have h1 := hV a
  have h2 := hV b
  unfold f_X5_shortens
  rw [setc_at, Int.toNat_natCast, Int.toNat_natCast, rw8_at ha, rw8_at hb]
  refine c_ite (by omega) (c_ite (by omega) (c_ite (by omega) ?_))
  by_cases h3 : V a + l < V b
  · refine c_neg (by omega) ?_
    have e1 : shrt (shrt V a b l) b a l = shrt V a b l := by
      apply shrt_no
      rw [shrt_eq h3]
      show ¬ (if b = b then V a + l else V b) + l < (if a = b then V a + l else V a)
      rw [if_pos rfl, if_neg hab]; omega
    have e2 : chk2 V a b l = true := by unfold chk2; rw [decide_eq_true h3]; rfl
    rw [e1, e2, shrt_eq h3]
    show some ((1 : Int), aup (setc M (e + 2) (rw8 g c V)) (e + 2) (8 * c + b) ((V a : Int) + (l : Int))) = _
    rw [aup_setc, ← Int.natCast_add, rw8_up hb]
    rfl
  · refine c_pos (by omega) (c_ite (by omega) ?_)
    rw [shrt_no h3]
    by_cases h4 : V b + l < V a
    · refine c_neg (by omega) ?_
      have e2 : chk2 V a b l = true := by unfold chk2; rw [decide_eq_true h4, Bool.or_true]
      rw [e2, shrt_eq h4]
      show some ((1 : Int), aup (setc M (e + 2) (rw8 g c V)) (e + 2) (8 * c + a) ((V b : Int) + (l : Int))) = _
      rw [aup_setc, ← Int.natCast_add, rw8_up ha]
      rfl
    · refine c_pos (by omega) ?_
      have e2 : chk2 V a b l = false := by unfold chk2; rw [decide_eq_false h3, decide_eq_false h4]; rfl
      rw [e2, shrt_no h4]
      rfl
/-- what is read of the well while a row is made -/
def TW (M : aM) (A : aA) : Prop := M 3 1 = (A 0 1 : Int) ∧ M 3 2 = (A 0 2 : Int) ∧ ∀ k, k < A 0 2 → M 4 k = (A 2 k : Int) ∧ M 5 k = (A 3 k : Int) ∧ M 6 k = (A 4 k : Int)
theorem CT.tw (h : CT M A) : TW M A := ⟨h.1 1 (by decide), h.1 2 (by decide), h.2.2.1⟩
def chg (A : aA) (s : Nat) (V : Nat → Nat) : Nat → Bool
  | 0 => false
  | i + 1 => chg A s V i || (dry s i && chk2 (btn (A 2) (A 3) (A 4) (dry s) V i) (A 2 i) (A 3 i) (A 4 i))
theorem chg_same {V : Nat → Nat} : ∀ i, chg A s V i = false → btn (A 2) (A 3) (A 4) (dry s) V i = V
  | 0, _ => rfl
  | i + 1, h => by
    have h1 : (chg A s V i || (dry s i && chk2 (btn (A 2) (A 3) (A 4) (dry s) V i) (A 2 i) (A 3 i) (A 4 i))) = false := h
    rw [Bool.or_eq_false_iff] at h1
    have ih := chg_same i h1.1
    show bst (A 2) (A 3) (A 4) (dry s) (btn (A 2) (A 3) (A 4) (dry s) V i) i = V
    rw [ih] at h1 ⊢
    unfold bst
    by_cases hd : dry s i = true
    · rw [if_pos hd]
      have h2 := h1.2
      rw [hd, Bool.true_and] at h2
      unfold chk2 at h2
      rw [Bool.or_eq_false_iff] at h2
      have h3 := of_decide_eq_false h2.1
      have h4 := of_decide_eq_false h2.2
      rw [shrt_no h3, shrt_no h4]
    · rw [if_neg hd]
theorem TW.setc (he : isLand e) (h : TW M A) (f : Nat → Int) : TW (setc M (e + 2) f) A := by
  obtain ⟨h1, h2, h3⟩ := h
  unfold isLand at he
  refine ⟨?_, ?_, fun k hk => ?_⟩
  · rw [setc_ne (by omega)]; exact h1
  · rw [setc_ne (by omega)]; exact h2
  · rw [setc_ne (by omega), setc_ne (by omega), setc_ne (by omega)]; exact h3 k hk
theorem h_turn (hA : WF A) (he : isLand e) (hw : TW M A) (hs : s < 2147483648) (hes : M e 3 = (s : Int)) {g : Nat → Int} {c : Nat} (hc : c < 8) {V : Nat → Nat} (hV : rowing (A 0 2) (A 2) (A 3) (A 4) (dry s) 1000000 c V) (v4 : Int) (k : Int → Int → aM → Option (Int × aM)) : l_X5_measure_59 T e ((8 * c : Nat) : Int) v4 k FU 0 0 (setc M (e + 2) (rw8 g c V)) = k (bI (chg A s V (A 0 2))) (A 0 2) (setc M (e + 2) (rw8 g c (btn (A 2) (A 3) (A 4) (dry s) V (A 0 2)))) := by
  have hA8 := hA.1.2.1
  have hA10 := hA.1.2.2.1
  refine for_until (fun i n => l_X5_measure_59 T e ((8 * c : Nat) : Int) v4 k n (bI (chg A s V i)) (i : Int) (setc M (e + 2) (rw8 g c (btn (A 2) (A 3) (A 4) (dry s) V i)))) (A 0 2) ?_ ?_ (by omega)
  · intro i n hi
    have hw2 := hw.setc he (rw8 g c (btn (A 2) (A 3) (A 4) (dry s) V i))
    obtain ⟨-, h2, h3⟩ := hw2
    obtain ⟨g1, g2, g3⟩ := h3 i hi
    have hwf := hA.2.2.1 i hi
    have hrow := btn_row hV i (by omega)
    have he3 : (setc M (e + 2) (rw8 g c (btn (A 2) (A 3) (A 4) (dry s) V i))) e 3 = (s : Int) := by rw [setc_ne (by omega)]; exact hes
    show l_X5_measure_59 T e ((8 * c : Nat) : Int) v4 k (n + 1) (bI (chg A s V i)) (i : Int) _ = _
    rw [l_X5_measure_59]
    refine c_neg (by rw [h2]; omega) ?_
    rw [he3]
    refine c_bind (h_hasBit hs (by omega)) ?_
    cases hd : s.testBit i
    · have hdr : dry s i = true := by unfold dry; rw [hd]; rfl
      refine c_pos rfl (c_ite (by omega) ?_)
      rw [Int.toNat_natCast, g1, g2, g3]
      refine c_ite (by omega) (c_ite (by omega) ?_)
      rw [← Int.natCast_add, ← Int.natCast_add]
      refine c_bind (h_shortens hc (by omega) (by omega) (by omega) hwf.2.2.2 hrow.2.1) ?_
      have hb : btn (A 2) (A 3) (A 4) (dry s) V (i + 1) = shrt (shrt (btn (A 2) (A 3) (A 4) (dry s) V i) (A 2 i) (A 3 i) (A 4 i)) (A 3 i) (A 2 i) (A 4 i) := by
        show bst (A 2) (A 3) (A 4) (dry s) (btn (A 2) (A 3) (A 4) (dry s) V i) i = _
        unfold bst; rw [if_pos hdr]
      have hch : chg A s V (i + 1) = (chg A s V i || chk2 (btn (A 2) (A 3) (A 4) (dry s) V i) (A 2 i) (A 3 i) (A 4 i)) := by
        show (chg A s V i || (dry s i && chk2 (btn (A 2) (A 3) (A 4) (dry s) V i) (A 2 i) (A 3 i) (A 4 i))) = _
        rw [hdr, Bool.true_and]
      rw [← hb, hch]
      cases hk2 : chk2 (btn (A 2) (A 3) (A 4) (dry s) V i) (A 2 i) (A 3 i) (A 4 i)
      · refine c_pos rfl (c_ite (by omega) ?_)
        rw [Bool.or_false]; rfl
      · refine c_neg (show ¬ bI true = 0 by decide) (c_ite (by omega) ?_)
        rw [Bool.or_true]; rfl
    · have hdr : dry s i = false := by unfold dry; rw [hd]; rfl
      refine c_neg (by decide) (c_ite (by omega) ?_)
      have hb : btn (A 2) (A 3) (A 4) (dry s) V (i + 1) = btn (A 2) (A 3) (A 4) (dry s) V i := by
        show bst (A 2) (A 3) (A 4) (dry s) (btn (A 2) (A 3) (A 4) (dry s) V i) i = _
        unfold bst; rw [if_neg (by rw [hdr]; decide)]
      have hch : chg A s V (i + 1) = chg A s V i := by
        show (chg A s V i || (dry s i && chk2 (btn (A 2) (A 3) (A 4) (dry s) V i) (A 2 i) (A 3 i) (A 4 i))) = _
        rw [hdr, Bool.false_and, Bool.or_false]
      rw [hb, hch]; rfl
  · intro n
    show l_X5_measure_59 T e ((8 * c : Nat) : Int) v4 k (n + 1) (bI (chg A s V (A 0 2))) ((A 0 2 : Nat) : Int) _ = _
    rw [l_X5_measure_59]
    refine c_pos ?_ rfl
    rw [(hw.setc he _).2.1]
    exact Int.le_refl _
def flg (A : aA) (s c : Nat) : Nat → Bool
  | 0 => true
  | j + 1 => chg A s (btns (A 0 2) (A 2) (A 3) (A 4) (dry s) (row0 1000000 c) j) (A 0 2)
theorem h_turns (hA : WF A) (he : isLand e) (hw : TW M A) (hs : s < 2147483648) (hes : M e 3 = (s : Int)) {g : Nat → Int} {c : Nat} (hc : c < A 0 1) (k : Int → Int → aM → Option (Int × aM)) {y : Option (Int × aM)} (hk : ∀ a b, k a b (setc M (e + 2) (rw8 g c (fun t => cl (dst A (dry s) c t)))) = y) : l_X5_measure_43 T e ((8 * c : Nat) : Int) k FU 1 0 (setc M (e + 2) (rw8 g c (row0 1000000 c))) = y := by
  have hA8 := hA.1.2.1
  have hc8 : c < 8 := by omega
  have hrows := fun i => btns_row (nw := A 0 2) (one := A 2) (two := A 3) (len := A 4) (dr := dry s) (F := 1000000) (c := c) row0_row i
  have hst : ∀ i, i ≤ 8 → (8 ≤ i ∨ ∀ t, btn (A 2) (A 3) (A 4) (dry s) (btns (A 0 2) (A 2) (A 3) (A 4) (dry s) (row0 1000000 c) i) (A 0 2) t = btns (A 0 2) (A 2) (A 3) (A 4) (dry s) (row0 1000000 c) i t) → ∀ a b, k a b (setc M (e + 2) (rw8 g c (btns (A 0 2) (A 2) (A 3) (A 4) (dry s) (row0 1000000 c) i))) = y := by
    intro i _ h a b
    have h1 := btns_isR (nw := A 0 2) (one := A 2) (two := A 3) (len := A 4) (dr := dry s) (F := 1000000) (c := c) hA.ends hA.len hc (i := i) (h.imp (fun h => by omega) id)
    have h2 : btns (A 0 2) (A 2) (A 3) (A 4) (dry s) (row0 1000000 c) i = fun t => cl (dst A (dry s) c t) := funext fun t => cl_row hA hc h1 t
    rw [h2]; exact hk a b
  generalize hq0 : fst (fun i => !flg A s c i) 8 = q
  have hq : q ≤ 8 := hq0 ▸ fst_le _ _
  have hqn : ∀ i, i < q → flg A s c i = true := fun i hi => by
    have := fst_no (fun i => !flg A s c i) 8 i (by omega)
    cases h : flg A s c i
    · rw [h] at this; cases this
    · rfl
  have hqy : q < 8 → flg A s c q = false := fun hi => by
    have := fst_yes (fun i => !flg A s c i) 8 (by omega)
    rw [hq0] at this
    cases h : flg A s c q
    · rfl
    · rw [h] at this; cases this
  refine for_until (fun i n => l_X5_measure_43 T e ((8 * c : Nat) : Int) k n (bI (flg A s c i)) (i : Int) (setc M (e + 2) (rw8 g c (btns (A 0 2) (A 2) (A 3) (A 4) (dry s) (row0 1000000 c) i)))) q ?_ ?_ (by omega)
  · intro i n hi
    have hfl := hqn i hi
    show l_X5_measure_43 T e ((8 * c : Nat) : Int) k (n + 1) (bI (flg A s c i)) (i : Int) _ = _
    rw [l_X5_measure_43]
    refine c_neg (by omega) (c_neg (by rw [hfl]; decide) ?_)
    rw [h_turn hA he hw hs hes hc8 (hrows i)]
    refine c_ite (by omega) rfl
  · intro n
    show l_X5_measure_43 T e ((8 * c : Nat) : Int) k (n + 1) (bI (flg A s c q)) (q : Int) _ = _
    rw [l_X5_measure_43]
    by_cases h8 : q = 8
    · refine c_pos (by omega) ?_
      exact hst q hq (Or.inl (by omega)) _ _
    · refine c_neg (by omega) ?_
      have hfl := hqy (by omega)
      refine c_pos (by rw [hfl]; rfl) ?_
      refine hst q hq (Or.inr ?_) _ _
      cases hq2 : q with
      | zero => rw [hq2] at hfl; cases hfl
      | succ j =>
        rw [hq2] at hfl
        have hfl2 : chg A s (btns (A 0 2) (A 2) (A 3) (A 4) (dry s) (row0 1000000 c) j) (A 0 2) = false := hfl
        have h5 := chg_same (A 0 2) hfl2
        intro t
        show btn (A 2) (A 3) (A 4) (dry s) (btn (A 2) (A 3) (A 4) (dry s) (btns (A 0 2) (A 2) (A 3) (A 4) (dry s) (row0 1000000 c) j) (A 0 2)) (A 0 2) t = btn (A 2) (A 3) (A 4) (dry s) (btns (A 0 2) (A 2) (A 3) (A 4) (dry s) (row0 1000000 c) j) (A 0 2) t
        rw [h5, h5]
theorem h_meas7 {c : Nat} (hc : c < 8) (k : Int → aM → Option (Int × aM)) : l_X5_measure_7 T e (c : Int) ((8 * c : Nat) : Int) k FU 0 M = k 8 (setc M (e + 2) (rw8 (M (e + 2)) c (fun _ => 1000000))) := by
  have e0 : setc M (e + 2) (fun b => if 8 * c ≤ b ∧ b < 8 * c + 0 then 1000000 else M (e + 2) b) = M := by
    have : (fun b => if 8 * c ≤ b ∧ b < 8 * c + 0 then 1000000 else M (e + 2) b) = M (e + 2) := funext fun b => if_neg (by omega)
    rw [this, setc_self]
  have h := for_until (fun i n => l_X5_measure_7 T e (c : Int) ((8 * c : Nat) : Int) k n (i : Int) (setc M (e + 2) (fun b => if 8 * c ≤ b ∧ b < 8 * c + i then 1000000 else M (e + 2) b))) (y := k 8 (setc M (e + 2) (rw8 (M (e + 2)) c (fun _ => 1000000)))) 8 ?_ ?_ (by omega)
  · have h2 : l_X5_measure_7 T e (c : Int) ((8 * c : Nat) : Int) k FU ((0 : Nat) : Int) (setc M (e + 2) (fun b => if 8 * c ≤ b ∧ b < 8 * c + 0 then 1000000 else M (e + 2) b)) = _ := h
    rw [e0] at h2
    exact h2
  · intro i n hi
    show l_X5_measure_7 T e (c : Int) ((8 * c : Nat) : Int) k (n + 1) (i : Int) _ = l_X5_measure_7 T e (c : Int) ((8 * c : Nat) : Int) k n ((i + 1 : Nat) : Int) (setc M (e + 2) (fun b => if 8 * c ≤ b ∧ b < 8 * c + (i + 1) then 1000000 else M (e + 2) b))
    rw [l_X5_measure_7]
    refine c_neg (by omega) (c_ite (by omega) (c_ite (by omega) (c_some (c_ite (by omega) ?_))))
    rw [show (((8 * c : Nat) : Int) + (i : Int)).toNat = 8 * c + i by omega, aup_setc]
    have : (fun b => if b = 8 * c + i then (1000000 : Int) else if 8 * c ≤ b ∧ b < 8 * c + i then 1000000 else M (e + 2) b) = (fun b => if 8 * c ≤ b ∧ b < 8 * c + (i + 1) then 1000000 else M (e + 2) b) := by
      funext b
      split
      · rw [if_pos (by omega)]
      · split
        · rw [if_pos (by omega)]
        · rw [if_neg (by omega)]
    rw [this]; rfl
  · intro n
    show l_X5_measure_7 T e (c : Int) ((8 * c : Nat) : Int) k (n + 1) ((8 : Nat) : Int) _ = _
    rw [l_X5_measure_7]
    exact c_pos (by omega) rfl
theorem h_measure (hA : WF A) (he : isLand e) (hw : TW M A) (hs : s < 2147483648) (hes : M e 3 = (s : Int)) {c : Nat} (hc : c < A 0 1) : f_X5_measure T e (c : Int) M = some (0, setc M (e + 2) (rw8 (M (e + 2)) c (fun t => cl (dst A (dry s) c t)))) := by
  have hA8 := hA.1.2.1
  unfold f_X5_measure
  refine c_ite (by omega) ?_
  rw [show ((c : Int) * 8) = ((8 * c : Nat) : Int) by omega, h_meas7 (by omega)]
  refine c_ite (by omega) (c_ite (by omega) ?_)
  show l_X5_measure_43 T e ((8 * c : Nat) : Int) _ FU 1 0 _ = _
  rw [show (((8 * c : Nat) : Int) + (c : Int)).toNat = 8 * c + c by omega, aup_setc]
  have : (fun b => if b = 8 * c + c then (0 : Int) else rw8 (M (e + 2)) c (fun _ => 1000000) b) = rw8 (M (e + 2)) c (row0 1000000 c) := by
    have h := rw8_up (g := M (e + 2)) (c := c) (t := c) (x := 0) (V := fun _ => 1000000) (by omega)
    exact h
  rw [this]
  exact h_turns hA he hw hs hes hc _ (fun _ _ => rfl)
end Land

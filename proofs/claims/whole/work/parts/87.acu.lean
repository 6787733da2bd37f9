/-! ===== acts of the class: undo, image, back, year, call ===== -/
section Acu
variable {A : aA} {T w : Nat} {M M1 : aM} {r : Int × Int} {st : aT}
theorem oA_well (h : CT M A) {x y : Option (Int × aM)} (h1 : ¬ 0 < A 0 0 → opCA x M A r st) (h2 : 0 < A 0 0 → opCA y M A r st) : opCA ((f_X11_hasWell T M).bind fun z => if z = 0 then x else y) M A r st := by
  by_cases hp : 0 < A 0 0
  · refine oA_bind (v := 1) ?_ (oA_neg (by decide) (h2 hp))
    unfold f_X11_hasWell
    rw [h.1 0 (by decide), if_neg (by omega)]
  · refine oA_bind (v := 0) ?_ (oA_pos rfl (h1 hp))
    unfold f_X11_hasWell
    rw [h.1 0 (by decide), if_pos (by omega)]
/-- laid again by the state's water -/
theorem h_relay {Z : aM} {S1 : Nat → Int} (hA : WF A) (hS : WS A S1) (hw : TW Z A) (h35 : Z 35 3 = S1 10) : f_X5_lay T 39 (Z 35 3) Z = some (0, layM Z 39 A (sW S1)) := by
  obtain ⟨s1, s2, s3⟩ := WS.s10 hA hS
  rw [h35, s3]
  exact h_lay hA (Or.inl rfl) hw (by omega)
def sp_undo (st : aT) : (Int × Int) × aT := if st.2.1 = 0 then ((0, 6), st) else ((1, 0), (st.2.2.2.1 (st.2.1 - 1), st.2.1 - 1, st.2.2.1, st.2.2.2.1, st.2.2.2.2))
theorem c_undo (h : CA M A st) (hP : ∀ i, i < st.2.1 → WS A (st.2.2.2.1 i)) : opCA (f_X11_undo T M) M A (sp_undo st).1 (sp_undo st).2 := by
  have hh := h
  obtain ⟨hq, hr, hi, h16, h3⟩ := h
  have hA := hq.1
  unfold f_X11_undo sp_undo
  rw [hr.1]
  by_cases h0 : st.2.1 = 0
  · rw [if_pos (show st.2.1 = 0 from h0)]
    exact oA_pos (by omega) (oA_ref hh)
  · rw [if_neg (show ¬ st.2.1 = 0 from h0)]
    refine oA_neg (by omega) ?_
    obtain ⟨M2, k1, k2, k3, k4, k5⟩ := h_giveBack (T := T) hA h16 (by omega) hr
    have hS1 := hP (st.2.1 - 1) (by omega)
    have hw : TW M2 A := by
      have := hq.2.2.1.tw
      unfold TW at this ⊢
      rw [k4 3 (by omega), k4 4 (by omega), k4 5 (by omega), k4 6 (by omega)]
      exact this
    have hlay := h_relay (T := T) hA hS1 hw k3.2.2.1
    have e : ∀ n, n ≠ 39 → n ≠ 40 → n ≠ 41 → layM M2 39 A (sW (st.2.2.2.1 (st.2.1 - 1))) n = M2 n := fun n h1 h2 h3 => layM_ne ⟨h1, h2, h3⟩
    have hld : LD (layM M2 39 A (sW (st.2.2.2.1 (st.2.1 - 1)))) 39 A (dry (sW (st.2.2.2.1 (st.2.1 - 1)))) := layM_LD
    generalize layM M2 39 A (sW (st.2.2.2.1 (st.2.1 - 1))) = Y at hlay e hld
    refine oA_bind k1 (oA_bind hlay ?_)
    refine (oA_all (st := (st.2.2.2.1 (st.2.1 - 1), st.2.1 - 1, st.2.2.1, st.2.2.2.1, st.2.2.2.2)) ?_ ?_ ?_ ?_ h3 ?_ ?_).1
    · exact CS_same k3 fun k hk => e _ (by omega) (by omega) (by omega)
    · exact hld
    · exact RG_same k2 fun n h1 h2 => e n (by omega) (by omega) (by omega)
    · exact IG_same h3 hi (by show Y 59 4 = _; rw [e 59 (by decide) (by decide) (by decide), k5 4 (by decide) (by decide)]) fun n h1 h2 => by show Y n = _; rw [e n (by omega) (by omega) (by omega), k4 n (by omega)]
    · show Y 0 = M 0
      rw [e 0 (by decide) (by decide) (by decide), k4 0 (by omega)]
    · intro n hn
      by_cases h59 : n = 59
      · omega
      · show Y n = M n
        rw [e n (by omega) (by omega) (by omega), k4 n (by omega)]
def sp_image (A : aA) (st : aT) : (Int × Int) × aT := if 0 < A 0 0 then (if st.2.2.1 < 3 then (((st.2.2.1 : Int), 0), (st.1, st.2.1, st.2.2.1 + 1, st.2.2.2.1, fun i => if i = st.2.2.1 then st.1 else st.2.2.2.2 i)) else ((-1, 3), st)) else ((-1, 1), st)
theorem c_image (h : CA M A st) : opCA (f_X11_image T M) M A (sp_image A st).1 (sp_image A st).2 := by
  have hh := h
  obtain ⟨hq, hr, hi, h16, h3⟩ := h
  have hA := hq.1
  unfold f_X11_image sp_image
  refine oA_well hq.2.2.1 (fun hn => ?_) (fun hp => ?_)
  · rw [if_neg hn]; exact oA_refn hh
  · rw [if_pos (show 0 < A 0 0 from hp), hi.1]
    by_cases hlt : st.2.2.1 < 3
    · rw [if_pos (show st.2.2.1 < 3 from hlt)]
      obtain ⟨M2, k1, k2, k3, k4, k5⟩ := h_addImage (T := T) hA hlt hi hq.2.2.2.1
      refine oA_pos (by omega) (oA_bind k1 ?_)
      refine (oA_all (st := (st.1, st.2.1, st.2.2.1 + 1, st.2.2.2.1, fun i => if i = st.2.2.1 then st.1 else st.2.2.2.2 i)) ?_ ?_ ?_ k2 (by show st.2.2.1 + 1 ≤ 3; omega) ?_ ?_).2 _
      · exact CS_same hq.2.2.2.1 fun k hk => k3 _ (by omega) (by omega)
      · exact LD_same hq.2.2.2.2.1 fun n h1 h2 => k3 n (by omega) (by omega)
      · obtain ⟨a, np, b, c, d⟩ := hr
        refine ⟨by show M2 59 3 = _; rw [k5 3 (by decide)]; exact a, np, b, by show M2 59 2 = _; rw [k5 2 (by decide)]; exact c, fun i hi2 => CS_same (d i hi2) fun k hk => k3 _ (by omega) (by omega)⟩
      · exact k3 0 (by omega) (by omega)
      · intro n hn
        by_cases hn2 : n < 126
        · exact k3 n hn2 (by omega)
        · exact k4 n (by omega)
    · rw [if_neg (show ¬ st.2.2.1 < 3 from hlt)]
      exact oA_neg (by omega) (oA_refn hh)
def sp_back (st : aT) (i : Int) : (Int × Int) × aT := if inr i st.2.2.1 then ((1, 0), (st.2.2.2.2 i.toNat, 0, st.2.2.1, st.2.2.2.1, st.2.2.2.2)) else ((0, 1), st)
theorem c_back (h : CA M A st) (hI : ∀ i, i < st.2.2.1 → WS A (st.2.2.2.2 i)) (i : Int) : opCA (f_X11_back T i M) M A (sp_back st i).1 (sp_back st i).2 := by
  have hh := h
  obtain ⟨hq, hr, hi, h16, h3⟩ := h
  have hA := hq.1
  unfold f_X11_back sp_back
  rw [hi.1]
  by_cases h0 : i < 0
  · rw [if_neg (show ¬ inr i st.2.2.1 by omega)]
    exact oA_pos h0 (oA_ref hh)
  · refine oA_neg h0 ?_
    by_cases hlt : i < (st.2.2.1 : Int)
    · rw [if_pos (show inr i st.2.2.1 by omega)]
      obtain ⟨q, rfl⟩ : ∃ q : Nat, i = (q : Int) := ⟨i.toNat, by omega⟩
      rw [Int.toNat_natCast]
      obtain ⟨M2, k1, k2, k3, k4, k5⟩ := h_goBack (T := T) hA h3 (show q < st.2.2.1 by omega) hi
      have hS1 := hI q (by omega)
      have hw : TW M2 A := by
        have := hq.2.2.1.tw
        unfold TW at this ⊢
        rw [k4 3 (by omega), k4 4 (by omega), k4 5 (by omega), k4 6 (by omega)]
        exact this
      have hlay := h_relay (T := T) hA hS1 hw k2.2.2.1
      have e : ∀ n, n ≠ 39 → n ≠ 40 → n ≠ 41 → layM M2 39 A (sW (st.2.2.2.2 q)) n = M2 n := fun n h1 h2 h3 => layM_ne ⟨h1, h2, h3⟩
      have hld : LD (layM M2 39 A (sW (st.2.2.2.2 q))) 39 A (dry (sW (st.2.2.2.2 q))) := layM_LD
      generalize layM M2 39 A (sW (st.2.2.2.2 q)) = Y at hlay e hld
      refine oA_pos hlt (oA_bind k1 (oA_bind hlay ?_))
      refine (oA_all (st := (st.2.2.2.2 q, 0, st.2.2.1, st.2.2.2.1, st.2.2.2.2)) ?_ ?_ ?_ ?_ h3 ?_ ?_).1
      · exact CS_same k2 fun k hk => e _ (by omega) (by omega) (by omega)
      · exact hld
      · obtain ⟨a, np, b, c, d⟩ := hr
        refine ⟨by show Y 59 3 = _; rw [e 59 (by decide) (by decide) (by decide), k3]; rfl, np, b, by show Y 59 2 = _; rw [e 59 (by decide) (by decide) (by decide), k5 2 (by decide)]; exact c, fun j hj => absurd hj (Nat.not_lt_zero j)⟩
      · exact IG_same h3 hi (by show Y 59 4 = _; rw [e 59 (by decide) (by decide) (by decide), k5 4 (by decide)]) fun n h1 h2 => by show Y n = _; rw [e n (by omega) (by omega) (by omega), k4 n (by omega)]
      · show Y 0 = M 0
        rw [e 0 (by decide) (by decide) (by decide), k4 0 (by omega)]
      · intro n hn
        show Y n = M n
        rw [e n (by omega) (by omega) (by omega), k4 n (by omega)]
    · rw [if_neg (show ¬ inr i st.2.2.1 by omega)]
      exact oA_neg hlt (oA_ref hh)
/-- voices moved, one behind another: by a table of where they go -/
def mvd (S : Nat → Int) (g : Nat → Nat) (j : Nat) : Nat → Int := fun k => if k < j then (g k : Int) else if 3 ≤ k ∧ k < 3 + j then (if S (k - 3) = (g (k - 3) : Int) then S k else S (k - 3)) else S k
def mvs (S : Nat → Int) (g : Nat → Nat) (k : Nat) : Bool := !decide (S k = (g k : Int))
/-- the class's state in the middle of it -/
def CM (M : aM) (A : aA) (S : Nat → Int) (g : Nat → Nat) (j : Nat) : Prop := (∀ k, k < A 0 3 → M 36 k = mvd S g j k ∧ M 37 k = mvd S g j (3 + k)) ∧ (∀ n, n ≠ 36 → n ≠ 37 → M n = M n)
theorem mvd_v {S : Nat → Int} {g : Nat → Nat} {j k : Nat} (hj : j ≤ 3) (hk : k < 3) : mvd S g j k = if k < j then (g k : Int) else S k := by
  unfold mvd
  by_cases h : k < j
  · rw [if_pos h, if_pos h]
  · rw [if_neg h, if_neg (by omega), if_neg h]
theorem mvd_c {S : Nat → Int} {g : Nat → Nat} {j k : Nat} (hj : j ≤ 3) (hk : k < 3) : mvd S g j (3 + k) = if k < j then (if S k = (g k : Int) then S (3 + k) else S k) else S (3 + k) := by
  unfold mvd
  rw [if_neg (by omega)]
  by_cases h : k < j
  · rw [if_pos (by omega), if_pos h, show 3 + k - 3 = k by omega]
  · rw [if_neg (by omega), if_neg h]
theorem mvd_o {S : Nat → Int} {g : Nat → Nat} {j k : Nat} (hj : j ≤ 3) (hk : 6 ≤ k) : mvd S g j k = S k := by
  unfold mvd
  rw [if_neg (by omega), if_neg (by omega)]
theorem h_move {S : Nat → Int} {g : Nat → Nat} {j : Nat} {Z : aM} (hA : WF A) (hj : j < A 0 3) (h : ∀ k, k < A 0 3 → Z 36 k = mvd S g j k ∧ Z 37 k = mvd S g j (3 + k)) : ∃ Y, f_X8_moveVoice T 35 (j : Int) (g j : Int) Z = some (bI (mvs S g j), Y) ∧ (∀ k, k < A 0 3 → Y 36 k = mvd S g (j + 1) k ∧ Y 37 k = mvd S g (j + 1) (3 + k)) ∧ ∀ n, n ≠ 36 → n ≠ 37 → Y n = Z n := by
  have h3 := hA.1.2.2.2.1
  have hz := h j hj
  rw [mvd_v (by omega) (by omega), if_neg (Nat.lt_irrefl _), mvd_c (by omega) (by omega), if_neg (Nat.lt_irrefl _)] at hz
  unfold f_X8_moveVoice mvs
  rw [Int.toNat_natCast, show Z (35 + 1) j = S j from hz.1]
  by_cases he : S j = (g j : Int)
  · refine ⟨Z, c_ite (by omega) (c_pos he (by rw [decide_eq_true he]; rfl)), fun k hk => ?_, fun n _ _ => rfl⟩
    have := h k hk
    rw [mvd_v (by omega) (by omega), mvd_c (by omega) (by omega)] at this ⊢
    by_cases hkj : k = j
    · rw [hkj] at this ⊢
      rw [if_neg (Nat.lt_irrefl _), if_neg (Nat.lt_irrefl _)] at this
      rw [if_pos (by omega), if_pos (by omega), if_pos he, this.1, this.2, he]; exact ⟨rfl, rfl⟩
    · by_cases hlt : k < j
      · rw [if_pos hlt, if_pos hlt] at this
        rw [if_pos (by omega), if_pos (by omega)]; exact this
      · rw [if_neg hlt, if_neg hlt] at this
        rw [if_neg (by omega), if_neg (by omega)]; exact this
  · refine ⟨aup (aup Z 37 j (S j)) 36 j (g j : Int), c_ite (by omega) (c_neg he (c_some (c_some (by rw [decide_eq_false he]; rfl)))), fun k hk => ?_, fun n h1 h2 => by rw [aup_nc h1, aup_nc h2]⟩
    have := h k hk
    rw [mvd_v (by omega) (by omega), mvd_c (by omega) (by omega)] at this ⊢
    by_cases hkj : k = j
    · rw [hkj, if_pos (by omega), if_pos (by omega), if_neg he]
      refine ⟨aup_at, ?_⟩
      rw [aup_nc (by decide)]; exact aup_at
    · rw [aup_ne2 hkj, aup_nc (show (36 : Nat) ≠ 37 by decide), aup_nc (show (37 : Nat) ≠ 36 by decide), aup_ne2 hkj]
      by_cases hlt : k < j
      · rw [if_pos hlt, if_pos hlt] at this
        rw [if_pos (by omega), if_pos (by omega)]; exact this
      · rw [if_neg hlt, if_neg hlt] at this
        rw [if_neg (by omega), if_neg (by omega)]; exact this
end Acu

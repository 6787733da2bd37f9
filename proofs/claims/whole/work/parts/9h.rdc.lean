/-! ===== the class reads: words, numbers, names, caves ===== -/
def cll (r : Nat) : Nat := if r < 5 then 17 + r else 18 + r
def off (r : Nat) : Nat := if r < 13 then 0 else 8
/-- the class's draft -/
def CD (M : aM) (A : aA) : Prop :=
  (∀ i, i < 8 → M 18 i = (A 0 i : Int)) ∧ (A 0 0 = 1 → M 17 0 = (A 1 0 : Int) ∧ M 17 1 = (A 1 1 : Int) ∧ M 17 2 = (A 1 2 : Int)) ∧ (M 17 4 = (A 1 3 : Int) ∧ M 17 9 = (A 1 4 : Int) ∧ M 17 18 = (A 1 5 : Int)) ∧
  (∀ r, 2 ≤ r → r ≤ 15 → ∀ k, k < A 0 (ctr r) → M (cll r) (off r + k) = (A r k : Int)) ∧
  (∀ a b, a < 8 → b < 8 → M 22 (8 * a + b) = if wy A a b < A 0 2 then (wy A a b : Int) + 1 else 0) ∧
  M 16 7 = 8 + (A 0 8 : Int) ∧ (∀ i, i < 8 → M 31 i = (pkd (12 + i) : Int) ∧ M 32 i = -1) ∧ ∀ k, k < 8 → M 1000001 k = (rom k : Int)
def kA (M M' : aM) : Prop := ∀ m, m ≠ 34 → M' m = M m
def kR (M M' : aM) : Prop := (∀ m, m < 16 ∨ 34 < m → M' m = M m) ∧ ∀ i, i < 8 → M' 31 i = M 31 i ∧ M' 32 i = M 32 i
theorem kA.trans {M M1 M2 : aM} (h : kA M M1) (h2 : kA M1 M2) : kA M M2 := fun m hm => (h2 m hm).trans (h m hm)
theorem kR.refl (M : aM) : kR M M := ⟨fun _ _ => rfl, fun _ _ => ⟨rfl, rfl⟩⟩
theorem kR.trans {M M1 M2 : aM} (h : kR M M1) (h2 : kR M1 M2) : kR M M2 := ⟨fun m hm => (h2.1 m hm).trans (h.1 m hm), fun i hi => ⟨(h2.2 i hi).1.trans (h.2 i hi).1, (h2.2 i hi).2.trans (h.2 i hi).2⟩⟩
theorem kA.kR {M M' : aM} (h : kA M M') : kR M M' := ⟨fun m hm => h m (by omega), fun i _ => by rw [h 31 (by decide), h 32 (by decide)]; exact ⟨rfl, rfl⟩⟩
theorem kR_up {M : aM} {c k : Nat} {v : Int} (h : 16 ≤ c ∧ c ≤ 34 ∧ c ≠ 31 ∧ c ≠ 32) : kR M (aup M c k v) := ⟨fun m hm => aup_nc (by omega), fun i _ => by rw [aup_nc (by omega), aup_nc (by omega)]; exact ⟨rfl, rfl⟩⟩
theorem kR_up2 {M : aM} {c k : Nat} {v : Int} (h : 16 ≤ c ∧ c ≤ 34) (hk : 8 ≤ k) : kR M (aup M c k v) := ⟨fun m hm => aup_nc (by omega), fun i hi => by rw [aup_ne2 (by omega), aup_ne2 (by omega)]; exact ⟨rfl, rfl⟩⟩
theorem CD.cong {M M' : aM} {A : aA} (h : CD M A) (e : kA M M') : CD M' A := by
  obtain ⟨a, b, c, d, f, g, i, j⟩ := h
  have hcl : ∀ r, r ≤ 15 → cll r ≠ 34 := fun r hr => by unfold cll; split <;> omega
  refine ⟨by rw [e 18 (by decide)]; exact a, by rw [e 17 (by decide)]; exact b, by rw [e 17 (by decide)]; exact c, fun r h2 h15 => by rw [e _ (hcl r h15)]; exact d r h2 h15, by rw [e 22 (by decide)]; exact f, by rw [e 16 (by decide)]; exact g, by rw [e 31 (by decide), e 32 (by decide)]; exact i, by rw [e 1000001 (by decide)]; exact j⟩
/-- a fault, as the class notes it -/
def cErr (x : Option (Int × aM)) (bad : Int) (M : aM) (e : rE) : Prop := ∃ M', x = some (bad, M') ∧ kR M M' ∧ M' 16 1 = (e.1 : Int) ∧ M' 16 2 = (e.2 : Int)
section Rdc
variable {B : Nat → Int} {n p : Nat} {T : Nat} {M M1 : aM} {A : aA}
theorem cErr.of {x : Option (Int × aM)} {bad : Int} {e : rE} (h : cErr x bad M1 e) (hk : kR M M1) : cErr x bad M e := by
  obtain ⟨M', h1, h2, h3⟩ := h
  exact ⟨M', h1, hk.trans h2, h3⟩
theorem fl_eq (h : CK B n M p) (c : Int) : kR M (aup (aup M 16 1 c) 16 2 (p : Int)) ∧ aup (aup M 16 1 c) 16 2 (p : Int) 16 1 = c ∧ aup (aup M 16 1 c) 16 2 (p : Int) 16 2 = (p : Int) := ⟨(kR_up (by decide)).trans (kR_up (by decide)), by rw [aup_ne2 (by decide)]; exact aup_at, aup_at⟩
theorem c_failr (h : CK B n M p) (c : Nat) : f_X7_fails T (c : Int) M = some (0, aup (aup M 16 1 (c : Int)) 16 2 (p : Int)) := by
  have e : aup M 16 1 (c : Int) 34 3 = (p : Int) := by rw [aup_nc (by decide)]; exact h.1.2.2.1
  unfold f_X7_fails
  refine c_some (c_some ?_)
  rw [e]
theorem c_failwr (h : CK B n M p) (c : Nat) : f_X7_failsWhole T (c : Int) M = some (-1, aup (aup M 16 1 (c : Int)) 16 2 (p : Int)) := by
  have e : aup M 16 1 (c : Int) 34 3 = (p : Int) := by rw [aup_nc (by decide)]; exact h.1.2.2.1
  unfold f_X7_failsWhole
  refine c_some (c_some ?_)
  rw [e]
theorem c_fail (h : CK B n M p) (c : Nat) : cErr ((f_X7_fails T (c : Int) M).bind fun x => if x.1 = 0 ∨ x.1 = 1 then some (x.1, x.2) else none) 0 M (c, p) := ⟨aup (aup M 16 1 (c : Int)) 16 2 (p : Int), c_bind (c_failr h c) (c_ite (Or.inl rfl) rfl), fl_eq h _⟩
theorem c_failw (h : CK B n M p) (c : Nat) : cErr ((f_X7_failsWhole T (c : Int) M).bind fun x => some (x.1, x.2)) (-1) M (c, p) := ⟨aup (aup M 16 1 (c : Int)) 16 2 (p : Int), c_bind (c_failwr h c) rfl, fl_eq h _⟩
theorem c_word (hn : n ≤ 900) (h : CK B n M p) {k : Nat} (hk : k < 48) {v : Int} (hv : v = 2000000 + (k : Int)) : match sWd B n k p with
    | .error e => cErr (f_X7_readWord T v M) 0 M e
    | .ok p' => ∃ M', f_X7_readWord T v M = some (1, M') ∧ CK B n M' p' ∧ kA M M' := by
  unfold sWd f_X7_readWord
  have hw := h.wrd (T := T) hn hk hv
  cases hi : isw B n k p
  · rw [if_neg Bool.false_ne_true]
    rw [hi] at hw
    obtain ⟨M', e1, e2⟩ := c_fail (T := T) h 1
    exact ⟨M', c_ite (by omega) (c_bind hw (c_pos rfl e1)), e2⟩
  · rw [if_pos rfl]
    rw [hi] at hw
    obtain ⟨M', e1, e2, e3⟩ := h.adv (T := T) hn
    exact ⟨M', c_ite (by omega) (c_bind hw (c_neg (by decide) (c_bind e1 rfl))), e2, e3⟩
theorem c_num (hn : n ≤ 900) (h : CK B n M p) {k lo hi : Nat} (hk : k < 48) {v a b : Int} (hv : v = 2000000 + (k : Int)) (ha : a = (lo : Int)) (hb : b = (hi : Int)) : match sNu B n k lo hi p with
    | .error e => cErr (f_X7_readNumber T v a b M) (-1) M e
    | .ok x => ∃ M', f_X7_readNumber T v a b M = some ((x.1 : Int), M') ∧ CK B n M' x.2 ∧ kA M M' := by
  subst ha hb
  have hw := c_word (T := T) hn h hk hv
  unfold sNu f_X7_readNumber
  unfold sWd at hw
  cases hi2 : isw B n k p
  · rw [hi2, if_neg Bool.false_ne_true] at hw
    rw [if_neg Bool.false_ne_true]
    obtain ⟨M', e1, e2⟩ := hw
    exact ⟨M', c_ite (by omega) (c_bind e1 (c_pos rfl rfl)), e2⟩
  · rw [hi2, if_pos rfl] at hw
    rw [if_pos rfl]
    obtain ⟨M1, e1, h1, k1⟩ := hw
    have hs : M1 34 4 = (kS B n (kX B n p) : Int) := h1.1.2.2.2
    by_cases h2 : kS B n (kX B n p) = 2
    · rw [if_pos h2]
      have hnum := h1.whole (T := T) hn h2
      by_cases h3 : lo ≤ kN B n (kX B n p) ∧ kN B n (kX B n p) ≤ hi
      · rw [if_pos h3]
        obtain ⟨M2, e2, h4, k2⟩ := h1.adv (T := T) hn
        refine ⟨M2, c_ite (by omega) (c_bind e1 (c_neg (show ¬ ((1 : Int) = 0) by decide) (c_pos (by show M1 34 4 = 2; rw [hs, h2]; rfl) (c_bind hnum (c_neg (by omega) (c_pos (by omega) (c_bind e2 rfl)))))) ), h4, k1.trans k2⟩
      · rw [if_neg h3]
        obtain ⟨M2, e2, h4⟩ := c_failw (T := T) h1 4
        refine ⟨M2, c_ite (by omega) (c_bind e1 (c_neg (show ¬ ((1 : Int) = 0) by decide) (c_pos (by show M1 34 4 = 2; rw [hs, h2]; rfl) (c_bind hnum ?_)))), k1.kR.trans h4.1, h4.2⟩
        by_cases h5 : ((kN B n (kX B n p) : Nat) : Int) < (lo : Int)
        · exact c_pos h5 e2
        · exact c_neg h5 (c_neg (by omega) e2)
    · rw [if_neg h2]
      obtain ⟨M2, e2, h4⟩ := c_failw (T := T) h1 1
      exact ⟨M2, c_ite (by omega) (c_bind e1 (c_neg (show ¬ ((1 : Int) = 0) by decide) (c_neg (by show ¬ M1 34 4 = 2; rw [hs]; omega) e2))), k1.kR.trans h4.1, h4.2⟩
theorem alcmp_0 {a b : Int} : alcmp a b = 0 ↔ a = b := by
  unfold alcmp
  split
  · omega
  · split
    · omega
    · omega
theorem pkd_pos : ∀ i, i < 8 → 1 ≤ pkd (12 + i) := by decide +kernel
/-- a word among those known -/
theorem c_nameHere (hn : n ≤ 900) (h : CK B n M p) (hd : CD M A) (h15 : A 0 8 ≤ 15) : ∃ v : Int, f_X7_nameHere T M = some v ∧ (kS B n p ≠ 1 → v = -1 ∨ 8 ≤ v) ∧ (kS B n p = 1 → v = if lid B n p < 8 then (lid B n p : Int) else if fnn A (kW B n p) < A 0 8 then 8 + (fnn A (kW B n p) : Int) else -1) := by
  have h16 := hd.2.2.2.2.2.1
  have hw8 := hd.2.2.2.2.2.2.1
  have h31 : ∀ i, i < A 0 8 → M 31 (8 + i) = (A 13 i : Int) := fun i hi => hd.2.2.2.1 13 (by decide) (by decide) i hi
  have hsort : M 34 4 = (kS B n p : Int) := h.1.2.2.2
  have loop : ∀ w : Nat, l_X7_nameHere_25 T (w : Int) M (fun w10 => some (-1)) FU 0 = some (if fst (fun i => decide (M 31 i = (w : Int))) (8 + A 0 8) < 8 + A 0 8 then ((fst (fun i => decide (M 31 i = (w : Int))) (8 + A 0 8) : Nat) : Int) else -1) := by
    intro w
    have hor : (if fst (fun i => decide (M 31 i = (w : Int))) (8 + A 0 8) < 8 + A 0 8 then some ((fst (fun i => decide (M 31 i = (w : Int))) (8 + A 0 8) : Nat) : Int) else some (-1)) = some (if fst (fun i => decide (M 31 i = (w : Int))) (8 + A 0 8) < 8 + A 0 8 then ((fst (fun i => decide (M 31 i = (w : Int))) (8 + A 0 8) : Nat) : Int) else -1) := by split <;> rfl
    refine Eq.trans ?_ hor
    refine find_loop (fun m i => l_X7_nameHere_25 T (w : Int) M (fun w10 => some (-1)) m i) (8 + A 0 8) (fun i => decide (M 31 i = (w : Int))) (fun i => some (i : Int)) (y := some (-1)) (by omega) (fun i m hi hp => ?_) (fun i m hi hp => ?_) (fun m => ?_)
    · show l_X7_nameHere_25 T (w : Int) M _ (m + 1) (i : Int) = _
      rw [l_X7_nameHere_25, h16, Int.toNat_natCast]
      exact c_neg (by omega) (c_ite (by omega) (c_neg (fun e => (of_decide_eq_false hp) (alcmp_0.mp e)) (c_ite (by omega) rfl)))
    · show l_X7_nameHere_25 T (w : Int) M _ (m + 1) (i : Int) = _
      rw [l_X7_nameHere_25, h16, Int.toNat_natCast]
      exact c_neg (by omega) (c_ite (by omega) (c_pos (alcmp_0.mpr (of_decide_eq_true hp)) rfl))
    · show l_X7_nameHere_25 T (w : Int) M _ (m + 1) ((8 + A 0 8 : Nat) : Int) = _
      rw [l_X7_nameHere_25, h16]
      exact c_pos (by omega) rfl
  unfold f_X7_nameHere
  rw [hsort]
  by_cases hk : kS B n p = 1
  · have hl := loop (kW B n p)
    rw [hk]
    refine ⟨_, c_pos rfl (c_bind (h.word hn hk) hl), fun e => absurd rfl e, fun _ => ?_⟩
    have hlid : lid B n p = fst (fun j => decide (kW B n p = pkd (12 + j))) 8 := by unfold lid; rw [if_pos hk]
    have hfn : fst (fun i => decide (M 31 i = ((kW B n p : Nat) : Int))) (8 + A 0 8) = if lid B n p < 8 then lid B n p else 8 + fnn A (kW B n p) := by
      by_cases hl8 : lid B n p < 8
      · rw [if_pos hl8]
        have hy : decide (kW B n p = pkd (12 + lid B n p)) = true := by
          rw [hlid] at hl8 ⊢
          exact fst_yes _ _ hl8
        refine fst_eq (by omega) ?_ fun j hj => ?_
        · rw [(hw8 _ hl8).1]
          exact decide_eq_true (by have := of_decide_eq_true hy; omega)
        · rw [(hw8 j (by omega)).1]
          have hno : decide (kW B n p = pkd (12 + j)) = false := by
            rw [hlid] at hj
            exact fst_no _ _ j hj
          exact decide_eq_false (fun e => (of_decide_eq_false hno) (by omega))
      · rw [if_neg hl8]
        have hno8 : ∀ j, j < 8 → ¬ kW B n p = pkd (12 + j) := fun j hj => of_decide_eq_false (by
          have := fst_no (fun j => decide (kW B n p = pkd (12 + j))) 8 j (by omega)
          exact this)
        have hfle : fnn A (kW B n p) ≤ A 0 8 := fst_le _ _
        by_cases hf : fnn A (kW B n p) < A 0 8
        · have hy : decide (A 13 (fnn A (kW B n p)) = kW B n p) = true := fst_yes (fun i => decide (A 13 i = kW B n p)) _ hf
          refine fst_eq (by omega) ?_ fun j hj => ?_
          · rw [h31 _ hf]
            exact decide_eq_true (by have := of_decide_eq_true hy; omega)
          · by_cases hj8 : j < 8
            · rw [(hw8 j hj8).1]
              exact decide_eq_false (fun e => hno8 j hj8 (by omega))
            · have hno := fst_no (fun i => decide (A 13 i = kW B n p)) (A 0 8) (j - 8) (by have : fnn A (kW B n p) = fst (fun i => decide (A 13 i = kW B n p)) (A 0 8) := rfl; omega)
              have e2 := h31 (j - 8) (by omega)
              rw [show 8 + (j - 8) = j by omega] at e2
              rw [e2]
              exact decide_eq_false (fun e => (of_decide_eq_false hno) (by omega))
        · rw [show fnn A (kW B n p) = A 0 8 by omega]
          refine fst_none fun j hj => ?_
          by_cases hj8 : j < 8
          · rw [(hw8 j hj8).1]
            exact decide_eq_false (fun e => hno8 j hj8 (by omega))
          · have hno := fst_no (fun i => decide (A 13 i = kW B n p)) (A 0 8) (j - 8) (by have : fnn A (kW B n p) = fst (fun i => decide (A 13 i = kW B n p)) (A 0 8) := rfl; omega)
            have e2 := h31 (j - 8) (by omega)
            rw [show 8 + (j - 8) = j by omega] at e2
            rw [e2]
            exact decide_eq_false (fun e => (of_decide_eq_false hno) (by omega))
    rw [hfn]
    by_cases hl8 : lid B n p < 8
    · rw [if_pos hl8, if_pos hl8, if_pos (show lid B n p < 8 + A 0 8 by omega)]
    · rw [if_neg hl8, if_neg hl8]
      by_cases hf : fnn A (kW B n p) < A 0 8
      · rw [if_pos (show 8 + fnn A (kW B n p) < 8 + A 0 8 by omega), if_pos hf]; omega
      · rw [if_neg (show ¬ 8 + fnn A (kW B n p) < 8 + A 0 8 by omega), if_neg hf]
  · have hl := loop 0
    have hk2 : ¬ (((kS B n p : Nat) : Int) = 1) := by omega
    refine ⟨_, c_neg hk2 hl, fun _ => ?_, fun e => absurd e hk⟩
    by_cases hf : fst (fun i => decide (M 31 i = ((0 : Nat) : Int))) (8 + A 0 8) < 8 + A 0 8
    · right
      rw [if_pos hf]
      have hy := fst_yes _ _ hf
      rcases Nat.lt_or_ge (fst (fun i => decide (M 31 i = ((0 : Nat) : Int))) (8 + A 0 8)) 8 with h8 | h8
      · have h9 : M 31 (fst (fun i => decide (M 31 i = ((0 : Nat) : Int))) (8 + A 0 8)) = ((0 : Nat) : Int) := of_decide_eq_true hy
        rw [(hw8 _ h8).1] at h9
        have := pkd_pos _ h8
        omega
      · omega
    · left
      rw [if_neg hf]
theorem c_lineHere (hn : n ≤ 900) (h : CK B n M p) (hd : CD M A) (h15 : A 0 8 ≤ 15) : f_X7_lineHere T M = some (if lid B n p < 8 then (lid B n p : Int) else -1) := by
  obtain ⟨v, e1, e2, e3⟩ := c_nameHere (T := T) hn h hd h15
  unfold f_X7_lineHere
  refine c_bind e1 ?_
  by_cases hk : kS B n p = 1
  · have := e3 hk
    by_cases hl8 : lid B n p < 8
    · rw [if_pos hl8] at this ⊢
      rw [this]
      exact c_neg (by omega) rfl
    · rw [if_neg hl8] at this ⊢
      by_cases hf : fnn A (kW B n p) < A 0 8
      · rw [if_pos hf] at this
        exact c_pos (by omega) rfl
      · rw [if_neg hf] at this
        rw [this]
        exact c_neg (by decide) rfl
  · have hl : ¬ lid B n p < 8 := by unfold lid; rw [if_neg hk]; decide
    rw [if_neg hl]
    rcases e2 hk with e | e
    · rw [e]; exact c_neg (by decide) rfl
    · exact c_pos e rfl
theorem c_isName (h : CK B n M p) {v : Int} (e2 : kS B n p ≠ 1 → v = -1 ∨ 8 ≤ v) (e3 : kS B n p = 1 → v = if lid B n p < 8 then (lid B n p : Int) else if fnn A (kW B n p) < A 0 8 then 8 + (fnn A (kW B n p) : Int) else -1) : f_X7_isName T v M = some (bI (isn B n p)) := by
  have hle : lid B n p ≤ 8 := by
    unfold lid
    split
    · exact fst_le _ _
    · exact Nat.le_refl _
  unfold f_X7_isName isn
  rw [h.1.2.2.2]
  by_cases hk : kS B n p = 1
  · rw [hk, decide_eq_true rfl, Bool.true_and]
    refine c_pos rfl ?_
    have := e3 hk
    by_cases hl8 : lid B n p < 8
    · rw [if_pos hl8] at this
      rw [decide_eq_false (by omega), this]
      exact c_neg (by omega) (c_pos (by omega) rfl)
    · rw [if_neg hl8] at this
      rw [decide_eq_true (by omega)]
      by_cases hf : fnn A (kW B n p) < A 0 8
      · rw [if_pos hf] at this
        exact c_neg (by omega) (c_neg (by omega) rfl)
      · rw [if_neg hf] at this
        exact c_pos this rfl
  · rw [decide_eq_false hk, Bool.false_and]
    exact c_neg (by omega) rfl
theorem c_cave2 (hn : n ≤ 900) (h : CK B n M p) (hd : CD M A) (h15 : A 0 8 ≤ 15) : match sCv B n A p with
    | .error e => cErr (f_X7_caveHere T M) (-1) M e
    | .ok c => f_X7_caveHere T M = some ((c : Int), M) := by
  obtain ⟨v, e1, e2, e3⟩ := c_nameHere (T := T) hn h hd h15
  have e4 := c_isName (T := T) (A := A) h e2 e3
  unfold sCv f_X7_caveHere
  cases hi : isn B n p
  · rw [if_neg Bool.false_ne_true]
    rw [hi] at e4
    obtain ⟨M', e5, e6⟩ := c_failw (T := T) h 1
    exact ⟨M', c_bind e1 (c_bind e4 (c_pos rfl e5)), e6⟩
  · rw [if_pos rfl]
    rw [hi] at e4
    have hk : kS B n p = 1 ∧ lid B n p = 8 := by
      unfold isn at hi
      rw [Bool.and_eq_true, decide_eq_true_eq, decide_eq_true_eq] at hi
      exact hi
    have hv := e3 hk.1
    rw [if_neg (show ¬ lid B n p < 8 by omega)] at hv
    by_cases hf : fnn A (kW B n p) < A 0 8
    · rw [if_pos hf] at hv
      have h32 : M 32 (8 + fnn A (kW B n p)) = (A 14 (fnn A (kW B n p)) : Int) := hd.2.2.2.1 14 (by decide) (by decide) _ hf
      have h33 : M 33 (8 + fnn A (kW B n p)) = (A 15 (fnn A (kW B n p)) : Int) := hd.2.2.2.1 15 (by decide) (by decide) _ hf
      have hto : v.toNat = 8 + fnn A (kW B n p) := by omega
      by_cases h1 : A 14 (fnn A (kW B n p)) = 1
      · rw [if_pos ⟨hf, h1⟩]
        refine c_bind e1 (c_bind e4 (c_neg (by decide) (c_neg (by omega) (c_ite (by omega) ?_))))
        rw [hto, h32, h33, h1]
        exact c_pos rfl rfl
      · rw [if_neg (fun e => h1 e.2)]
        obtain ⟨M', e5, e6⟩ := c_failw (T := T) h 2
        refine ⟨M', c_bind e1 (c_bind e4 (c_neg (by decide) (c_neg (by omega) (c_ite (by omega) ?_)))), e6⟩
        rw [hto, h32]
        exact c_neg (by omega) e5
    · rw [if_neg (fun e => hf e.1)]
      rw [if_neg hf] at hv
      obtain ⟨M', e5, e6⟩ := c_failw (T := T) h 2
      exact ⟨M', c_bind e1 (c_bind e4 (c_neg (by decide) (c_pos hv e5))), e6⟩
theorem c_first (hn : n ≤ 900) (h : CK B n M p) (hd : CD M A) (h15 : A 0 8 ≤ 15) : match sCv B n A p with
    | .error e => cErr (f_X7_readFirstCave T M) (-1) M e
    | .ok c => ∃ M', f_X7_readFirstCave T M = some ((c : Int), M') ∧ CK B n M' (kX B n p) ∧ kA M M' := by
  have h1 := c_cave2 (T := T) hn h hd h15
  unfold f_X7_readFirstCave
  cases hs : sCv B n A p with
  | error e =>
    rw [hs] at h1
    obtain ⟨M', e1, e2⟩ := h1
    exact ⟨M', c_bind e1 (c_pos rfl rfl), e2⟩
  | ok c =>
    rw [hs] at h1
    obtain ⟨M', e1, e2, e3⟩ := h.adv (T := T) hn
    exact ⟨M', c_bind h1 (c_neg (by show ¬ ((c : Int) = -1); omega) (c_bind e1 rfl)), e2, e3⟩
/-- a name told, in the class's rows -/
def nmM (M : aM) (A : aA) (w j : Nat) : aM := aup (aup (aup (aup M 31 (8 + A 0 8) (w : Int)) 32 (8 + A 0 8) (j : Int)) 33 (8 + A 0 8) (A 0 j : Int)) 16 7 (8 + (A 0 8 : Int) + 1)
theorem c_new (hn : n ≤ 900) (h : CK B n M p) (hd : CD M A) (h15 : A 0 8 < 15) {j : Nat} (hj : j < 8) : match sNw B n A p with
    | .error e => cErr (f_X7_readNewName T (j : Int) M) 0 M e
    | .ok p' => ∃ M', f_X7_readNewName T (j : Int) M = some (1, M') ∧ CK B n M' p' ∧ kA (nmM M A (kW B n p) j) M' := by
  obtain ⟨v, e1, e2, e3⟩ := c_nameHere (T := T) hn h hd (by omega)
  have e4 := c_isName (T := T) (A := A) h e2 e3
  have h16 := hd.2.2.2.2.2.1
  unfold sNw f_X7_readNewName
  cases hi : isn B n p
  · rw [if_neg Bool.false_ne_true]
    rw [hi] at e4
    obtain ⟨M', e5, e6⟩ := c_fail (T := T) h 1
    exact ⟨M', c_bind e1 (c_bind e4 (c_pos rfl e5)), e6⟩
  · rw [if_pos rfl]
    rw [hi] at e4
    have hk : kS B n p = 1 ∧ lid B n p = 8 := by
      unfold isn at hi
      rw [Bool.and_eq_true, decide_eq_true_eq, decide_eq_true_eq] at hi
      exact hi
    have hv := e3 hk.1
    rw [if_neg (show ¬ lid B n p < 8 by omega)] at hv
    by_cases hf : fnn A (kW B n p) < A 0 8
    · rw [if_pos hf] at hv ⊢
      obtain ⟨M', e5, e6⟩ := c_fail (T := T) h 3
      exact ⟨M', c_bind e1 (c_bind e4 (c_neg (by decide) (c_neg (by omega) e5))), e6⟩
    · rw [if_neg hf] at hv ⊢
      have hck : CK B n (nmM M A (kW B n p) j) p := by
        unfold CK nmM
        rw [aup_nc (by decide), aup_nc (by decide), aup_nc (by decide), aup_nc (by decide), aup_nc (by decide), aup_nc (by decide), aup_nc (by decide), aup_nc (by decide)]
        exact h
      obtain ⟨M', a1, a2, a3⟩ := hck.adv (T := T) hn
      refine ⟨M', ?_, a2, a3⟩
      refine c_bind e1 (c_bind e4 (c_neg (by decide) (c_pos hv (c_pos (by rw [h16]; omega) (c_bind (h.word hn hk.1) (c_ite (by rw [h16]; omega) (c_some ?_)))))))
      have t8 : (8 + (A 0 8 : Int)).toNat = 8 + A 0 8 := by omega
      rw [h16, t8]
      have q1 : aup M 31 (8 + A 0 8) ((kW B n p : Nat) : Int) 16 7 = 8 + (A 0 8 : Int) := by rw [aup_nc (by decide)]; exact h16
      rw [q1, t8]
      refine c_ite (by omega) (c_some (c_ite (by omega) ?_))
      have q2 : aup (aup M 31 (8 + A 0 8) ((kW B n p : Nat) : Int)) 32 (8 + A 0 8) (j : Int) 16 7 = 8 + (A 0 8 : Int) := by rw [aup_nc (by decide)]; exact q1
      have q3 : aup (aup M 31 (8 + A 0 8) ((kW B n p : Nat) : Int)) 32 (8 + A 0 8) (j : Int) 18 j = (A 0 j : Int) := by rw [aup_nc (by decide), aup_nc (by decide)]; exact hd.1 j hj
      rw [q2, t8, Int.toNat_natCast, q3]
      refine c_ite (by omega) (c_some ?_)
      have q4 : aup (aup (aup M 31 (8 + A 0 8) ((kW B n p : Nat) : Int)) 32 (8 + A 0 8) (j : Int)) 33 (8 + A 0 8) (A 0 j : Int) 16 7 = 8 + (A 0 8 : Int) := by rw [aup_nc (by decide)]; exact q2
      rw [q4]
      exact c_ite (by omega) (c_some (c_bind a1 rfl))
/-- a line begins -/
theorem c_begins (hn : n ≤ 900) (h : CK B n M p) (hd : CD M A) : match sBeg B n A p with
    | .error e => cErr (f_X7_beginsLine T (if lid B n p < 8 then (lid B n p : Int) else -1) M) 0 M e
    | .ok _ => ∃ M', f_X7_beginsLine T (if lid B n p < 8 then (lid B n p : Int) else -1) M = some (1, M') ∧ CK B n M' (kX B n p) ∧ kA M M' := by
  have hle : lid B n p ≤ 8 := by
    unfold lid
    split
    · exact fst_le _ _
    · exact Nat.le_refl _
  have h180 := hd.1 0 (by decide)
  unfold sBeg f_X7_beginsLine
  by_cases h8 : lid B n p = 8
  · rw [if_pos h8, if_neg (show ¬ lid B n p < 8 by omega)]
    obtain ⟨M', e5, e6⟩ := c_fail (T := T) h 1
    exact ⟨M', c_pos rfl e5, e6⟩
  · have hlt : lid B n p < 8 := by omega
    rw [if_neg h8, if_pos hlt]
    have hcnt := hd.1 _ hlt
    have hrom := hd.2.2.2.2.2.2.2 _ hlt
    have hblk : ¬ (lid B n p = 0 ∧ 0 < A 0 0) → (match (if rom (lid B n p) ≤ A 0 (lid B n p) then Except.error (5, p) else if lid B n p ≠ 0 ∧ A 0 0 = 0 then Except.error (6, p) else Except.ok (lid B n p) : Except rE Nat) with
        | .error e => cErr (b_X7_beginsLine_33 T (lid B n p : Int) M) 0 M e
        | .ok _ => ∃ M', b_X7_beginsLine_33 T (lid B n p : Int) M = some (1, M') ∧ CK B n M' (kX B n p) ∧ kA M M') := by
      intro hnot
      unfold b_X7_beginsLine_33
      rw [Int.toNat_natCast, hcnt, hrom]
      by_cases h5 : rom (lid B n p) ≤ A 0 (lid B n p)
      · rw [if_pos h5]
        obtain ⟨M', e5, e6⟩ := c_fail (T := T) h 5
        exact ⟨M', c_ite (by omega) (c_neg (by omega) e5), e6⟩
      · rw [if_neg h5]
        obtain ⟨M', e1, e2, e3⟩ := h.adv (T := T) hn
        by_cases h0 : lid B n p = 0
        · rw [if_neg (fun e => e.1 h0)]
          exact ⟨M', c_ite (by omega) (c_pos (by omega) (c_pos (by omega) (c_bind e1 rfl))), e2, e3⟩
        · by_cases h00 : A 0 0 = 0
          · rw [if_pos ⟨h0, h00⟩]
            obtain ⟨M', e5, e6⟩ := c_fail (T := T) h 6
            exact ⟨M', c_ite (by omega) (c_pos (by omega) (c_neg (by omega) (c_pos (by omega) e5))), e6⟩
          · rw [if_neg (fun e => h00 e.2)]
            exact ⟨M', c_ite (by omega) (c_pos (by omega) (c_neg (by omega) (c_neg (by omega) (c_bind e1 rfl)))), e2, e3⟩
    by_cases h0 : lid B n p = 0 ∧ 0 < A 0 0
    · rw [if_pos h0]
      obtain ⟨M', e5, e6⟩ := c_fail (T := T) h 3
      exact ⟨M', c_neg (by omega) (c_pos (by omega) (c_neg (by omega) e5)), e6⟩
    · rw [if_neg h0]
      have hb := hblk h0
      have hcode : (if ((lid B n p : Nat) : Int) = (-1) then (f_X7_fails T 1 M).bind (fun x31 => if x31.1 = 0 ∨ x31.1 = 1 then some (x31.1, x31.2) else none) else if ((lid B n p : Nat) : Int) = 0 then (if (M 18 0) ≤ 0 then b_X7_beginsLine_33 T (lid B n p : Int) M else (f_X7_fails T 3 M).bind fun x26 => if x26.1 = 0 ∨ x26.1 = 1 then some (x26.1, x26.2) else none) else b_X7_beginsLine_33 T (lid B n p : Int) M) = b_X7_beginsLine_33 T (lid B n p : Int) M := by
        refine c_neg (by omega) ?_
        by_cases h00 : lid B n p = 0
        · exact c_pos (by omega) (c_pos (by omega) rfl)
        · exact c_neg (by omega) rfl
      rw [hcode]
      exact hb
end Rdc

/-! ===== nets, netAt, dryBy ===== -/
section Nts
variable {A : aA} {S : Nat → Int} {T e w : Nat} {M M1 M0 : aM}
def nok (A : aA) (s : Nat) : Bool := decide (fst (wrg A (dry (wtb A s))) (A 0 7) = A 0 7)
theorem nok_iff {s : Nat} : orN (wrg A (dry (wtb A s))) (A 0 7) = -2 ↔ nok A s = true := by
  unfold orN nok
  rw [decide_eq_true_eq]
  have := fst_le (wrg A (dry (wtb A s))) (A 0 7)
  split <;> omega
abbrev nU (A : aA) : Nat := 2 ^ A 0 6
theorem nU_le (hA : WF A) : nU A ≤ 16 := Nat.pow_le_pow_right (n := 2) (j := 4) (by decide) hA.1.2.2.2.2.2.2.1
def fsets (A : aA) : Nat := msk (nok A) (nU A)
theorem fsets_lt (hA : WF A) : fsets A < 65536 := Nat.lt_of_lt_of_le (msk_lt _ _) (Nat.pow_le_pow_right (n := 2) (j := 16) (by decide) (nU_le hA))
theorem h_fsets (h : CQ M A S) : ∃ M2, f_X6_fittingSets T M = some ((fsets A : Int), M2) ∧ sC M M2 := by
  have hA := h.1
  have h6 := hA.1.2.2.2.2.2.2.1
  have hU := nU_le hA
  unfold f_X6_fittingSets
  obtain ⟨Z, hZ, n, hrun⟩ := for_inv (fun n i (Z : aM) => l_X6_fittingSets_4 T (fun w9 w10 m11 => some (w9, m11)) n ((msk (nok A) i : Nat) : Int) (i : Int) Z) (fun _ Z => sC M Z) (nU A) (fun i n Z hi hZ => by
    have hq := h.of hZ
    obtain ⟨Y, e1, e2⟩ := h_untrue (T := T) hq (s := i) (by omega)
    refine ⟨Y, hZ.trans e2, ?_⟩
    show l_X6_fittingSets_4 T _ (n + 1) ((msk (nok A) i : Nat) : Int) (i : Int) Z = l_X6_fittingSets_4 T _ n ((msk (nok A) (i + 1) : Nat) : Int) ((i + 1 : Nat) : Int) Y
    have hms := msk_step (p := nok A) (n := i) (by omega) (nok A i) rfl
    rw [l_X6_fittingSets_4, hq.2.2.1.1 6 (by decide), ashl_one _ (by omega)]
    refine c_neg (by have : ((nU A : Nat) : Int) = ((2 ^ A 0 6 : Nat) : Int) := rfl; omega) (c_bind e1 ?_)
    cases hb : nok A i
    · rw [hb, if_neg (by decide)] at hms
      refine c_neg (fun hx => ?_) (c_ite (by omega) ?_)
      · rw [nok_iff.mp hx] at hb; cases hb
      · rw [hms]; rfl
    · rw [hb, if_pos rfl] at hms
      refine c_pos (nok_iff.mpr hb) (c_ite (by omega) ?_)
      rw [hms]; rfl) (by omega) M (sC.refl M)
  refine ⟨Z, ?_, hZ⟩
  have hrun2 : l_X6_fittingSets_4 T (fun w9 w10 m11 => some (w9, m11)) FU 0 0 M = l_X6_fittingSets_4 T (fun w9 w10 m11 => some (w9, m11)) (n + 1) ((msk (nok A) (nU A) : Nat) : Int) ((nU A : Nat) : Int) Z := hrun
  rw [hrun2, l_X6_fittingSets_4, (h.of hZ).2.2.1.1 6 (by decide), ashl_one _ (by omega)]
  exact c_pos (Int.le_refl _) rfl
theorem cntp_all (hA : WF A) : cntp (fsets A).testBit 16 = cntp (nok A) (nU A) := by
  have hU := nU_le hA
  have h1 := cntp_add (fsets A).testBit (nU A) (16 - nU A)
  rw [show nU A + (16 - nU A) = 16 by omega] at h1
  rw [h1, cntp_cong (p := (fsets A).testBit) (q := nok A) (fun k hk => by unfold fsets; rw [msk_bit, decide_eq_true hk, Bool.true_and])]
  have : cntp (fun i => (fsets A).testBit (nU A + i)) (16 - nU A) = 0 := by
    generalize 16 - nU A = m
    induction m with
    | zero => rfl
    | succ m ih =>
      show cntp _ m + (if (fsets A).testBit (nU A + m) = true then 1 else 0) = 0
      rw [ih]
      unfold fsets
      rw [msk_bit, decide_eq_false (by omega), Bool.false_and]; rfl
  omega
def sp_nets (A : aA) : Int × Int := gd (0 < A 0 0) ((cntp (nok A) (nU A) : Nat) : Int) 1
theorem c_nets (h : CQ M A S) : opC (f_X11_nets T M) M (sp_nets A) := by
  unfold f_X11_nets sp_nets
  refine oC_well h.2.2.1 (fun hn => ?_) (fun hp => ?_)
  · rw [gd_neg hn]; exact oC_ref
  · rw [gd_pos hp]
    obtain ⟨M2, e1, e2⟩ := h_fsets (T := T) h
    refine oC_bind e1 (oC_bind (h_bitCount (fsets_lt h.1)) ?_)
    rw [cntp_all h.1]
    exact oC_al e2
/-- the set of a number -/
def kth (A : aA) (i : Int) (s : Nat) : Bool := (fsets A).testBit s && decide (((cntp (fsets A).testBit s : Nat) : Int) = i)
def sp_netAt (A : aA) (i : Int) : Int × Int := gd (0 < A 0 0 ∧ fst (kth A i) 16 < 16) ((fst (kth A i) 16 : Nat) : Int) 1
theorem c_netAt (h : CQ M A S) (i : Int) : opC (f_X11_netAt T i M) M (sp_netAt A i) := by
  have hA := h.1
  unfold f_X11_netAt sp_netAt
  refine oC_well h.2.2.1 (fun hn => ?_) (fun hp => ?_)
  · rw [gd_neg (fun h => hn h.1)]; exact oC_ref
  · obtain ⟨M2, e1, e2⟩ := h_fsets (T := T) h
    have hf := fsets_lt hA
    have key : f_X6_setAt T i M = some (if fst (kth A i) 16 < 16 then ((fst (kth A i) 16 : Nat) : Int) else -1, M2) := by
      unfold f_X6_setAt
      refine c_bind e1 ?_
      have hle := fst_le (kth A i) 16
      refine for_until (fun j n => l_X6_setAt_10 T i (fsets A : Int) M2 (fun w13 w14 => some ((-1), M2)) n ((cntp (fsets A).testBit j : Nat) : Int) (j : Int)) (fst (kth A i) 16) (fun j n hj => ?_) (fun n => ?_) (by omega)
      · have hp := fst_no (kth A i) 16 j hj
        have hcl := cntp_le (fsets A).testBit j
        have ec : cntp (fsets A).testBit (j + 1) = cntp (fsets A).testBit j + (if (fsets A).testBit j then 1 else 0) := rfl
        show l_X6_setAt_10 T i (fsets A : Int) M2 _ (n + 1) ((cntp (fsets A).testBit j : Nat) : Int) (j : Int) = l_X6_setAt_10 T i (fsets A : Int) M2 _ n ((cntp (fsets A).testBit (j + 1) : Nat) : Int) ((j + 1 : Nat) : Int)
        rw [l_X6_setAt_10]
        refine c_neg (by omega) (c_bind (h_hasBit (by omega) (by omega)) ?_)
        unfold kth at hp
        cases hb : (fsets A).testBit j
        · rw [hb, if_neg (by decide)] at ec
          rw [ec]
          exact c_pos rfl (c_ite (by omega) rfl)
        · rw [hb, if_pos rfl] at ec
          rw [hb, Bool.true_and, decide_eq_false_iff_not] at hp
          rw [ec]
          exact c_neg (by decide) (c_neg hp (c_ite (by omega) (c_ite (by omega) rfl)))
      · show l_X6_setAt_10 T i (fsets A : Int) M2 _ (n + 1) ((cntp (fsets A).testBit (fst (kth A i) 16) : Nat) : Int) ((fst (kth A i) 16 : Nat) : Int) = _
        rw [l_X6_setAt_10]
        by_cases hq : fst (kth A i) 16 < 16
        · have hp := fst_yes (kth A i) 16 hq
          unfold kth at hp
          rw [Bool.and_eq_true, decide_eq_true_eq] at hp
          rw [if_pos hq]
          refine c_neg (by omega) (c_bind (h_hasBit (by omega) (by omega)) ?_)
          have hb : (fsets A).testBit (fst (kth A i) 16) = true := hp.1
          rw [hb]
          exact c_neg (by decide) (c_pos hp.2 rfl)
        · rw [if_neg hq]
          exact c_pos (by omega) rfl
    refine oC_bind key ?_
    by_cases hq : fst (kth A i) 16 < 16
    · rw [gd_pos ⟨hp, hq⟩, if_pos hq]
      exact oC_neg (show ¬ ((fst (kth A i) 16 : Nat) : Int) = -1 by omega) (oC_al e2)
    · rw [gd_neg (fun h => hq h.2), if_neg hq]
      exact oC_pos rfl (oC_ref2 e2)
/-- sets in which an unsure way is dry -/
def dyp (A : aA) (k s : Nat) : Bool := nok A s && !(wtb A s).testBit (A 10 k)
theorem dyp_eq (hA : WF A) {k s : Nat} (hk : k < A 0 6) : dyp A k s = (nok A s && decide (bI (s.testBit k) = bI ((A 1 4).testBit (A 10 k)))) := by
  unfold dyp
  rw [wetB_bit hA s hk (A 0 6) (Nat.le_refl _), decide_eq_true hk, Bool.true_and]
  cases s.testBit k <;> cases (A 1 4).testBit (A 10 k) <;> cases nok A s <;> rfl
def sp_dryBy (A : aA) (k : Int) : Int × Int := gd (inr k (A 0 6)) ((cntp (dyp A k.toNat) (nU A) : Nat) : Int) 1
theorem c_dryBy (h : CQ M A S) (k : Int) : opC (f_X11_dryBy T k M) M (sp_dryBy A k) := by
  have hA := h.1
  have h6 := hA.1.2.2.2.2.2.2.1
  have h10 := hA.1.2.2.1
  have hU := nU_le hA
  unfold f_X11_dryBy sp_dryBy
  rw [h.2.2.1.1 6 (by decide)]
  by_cases hk0 : k < 0
  · rw [gd_neg (by omega)]; exact oC_pos hk0 oC_ref
  · refine oC_neg hk0 ?_
    by_cases hk1 : k < (A 0 6 : Int)
    · rw [gd_pos (by omega)]
      refine oC_pos hk1 ?_
      obtain ⟨q, rfl⟩ : ∃ q : Nat, k = (q : Int) := ⟨k.toNat, by omega⟩
      rw [Int.toNat_natCast]
      obtain ⟨M2, e1, e2⟩ := h_fsets (T := T) h
      have hC2 := (h.of e2).2.2.1
      have hu := (hA.2.2.2.2.2.2.2.1 q (by omega)).1
      have hf := fsets_lt hA
      refine oC_bind (v := (((cntp (dyp A q) (nU A) : Nat) : Int), M2)) ?_ (oC_al e2)
      unfold f_X6_setsWithDry
      refine c_bind e1 (c_ite (by omega) ?_)
      show (f_X11_hasBit T (M2 2 9) (M2 13 (q : Int).toNat) M2).bind _ = _
      rw [Int.toNat_natCast, hC2.2.1.2.2.2.2.1, hC2.2.2.2.2.2.2.2.1 q (by omega)]
      refine c_bind (h_hasBit hA.wet (by omega)) ?_
      have e3 : cntp (dyp A q) (nU A) = cntp (fun s => (fsets A).testBit s && decide (bI (s.testBit q) = bI ((A 1 4).testBit (A 10 q)))) 16 := by
        have h1 := cntp_add (fun s => (fsets A).testBit s && decide (bI (s.testBit q) = bI ((A 1 4).testBit (A 10 q)))) (nU A) (16 - nU A)
        rw [show nU A + (16 - nU A) = 16 by omega] at h1
        have hz : cntp (fun i => (fun s => (fsets A).testBit s && decide (bI (s.testBit q) = bI ((A 1 4).testBit (A 10 q)))) (nU A + i)) (16 - nU A) = 0 := by
          generalize 16 - nU A = m
          induction m with
          | zero => rfl
          | succ m ih =>
            show cntp _ m + (if ((fsets A).testBit (nU A + m) && _) = true then 1 else 0) = 0
            rw [ih]
            unfold fsets
            rw [msk_bit, decide_eq_false (by omega), Bool.false_and, Bool.false_and]; rfl
        rw [h1, hz, Nat.add_zero]
        refine cntp_cong fun s hs => ?_
        rw [dyp_eq hA (by omega)]
        unfold fsets
        rw [msk_bit, decide_eq_true hs, Bool.true_and]
      rw [e3]
      refine cnt_loop (fun n b i => l_X6_setsWithDry_31 T (q : Int) (fsets A : Int) (bI ((A 1 4).testBit (A 10 q))) M2 (fun w19 w20 => some (w19, M2)) n b i) 16 (fun s => (fsets A).testBit s && decide (bI (s.testBit q) = bI ((A 1 4).testBit (A 10 q)))) (by omega) (fun i n hi => ?_) (fun n => ?_)
      · have hcl := cntp_le (fun s => (fsets A).testBit s && decide (bI (s.testBit q) = bI ((A 1 4).testBit (A 10 q)))) i
        show l_X6_setsWithDry_31 T (q : Int) (fsets A : Int) (bI ((A 1 4).testBit (A 10 q))) M2 _ (n + 1) _ (i : Int) = l_X6_setsWithDry_31 T (q : Int) (fsets A : Int) (bI ((A 1 4).testBit (A 10 q))) M2 _ n _ _
        rw [l_X6_setsWithDry_31]
        refine c_neg (by omega) (c_bind (h_hasBit (by omega) (by omega)) ?_)
        cases hb : (fsets A).testBit i
        · rw [if_neg (show ¬ (false && decide (bI (i.testBit q) = bI ((A 1 4).testBit (A 10 q)))) = true by rw [Bool.false_and]; decide)]
          exact c_pos rfl (c_ite (by omega) rfl)
        · refine c_neg (by decide) (c_bind (h_hasBit (by omega) (by omega)) ?_)
          by_cases he : bI (i.testBit q) = bI ((A 1 4).testBit (A 10 q))
          · rw [if_pos (show (true && decide (bI (i.testBit q) = bI ((A 1 4).testBit (A 10 q)))) = true by rw [decide_eq_true he]; rfl)]
            exact c_pos he (c_ite (by omega) (c_ite (by omega) rfl))
          · rw [if_neg (show ¬ (true && decide (bI (i.testBit q) = bI ((A 1 4).testBit (A 10 q)))) = true by rw [decide_eq_false he]; decide)]
            exact c_neg he (c_ite (by omega) rfl)
      · show l_X6_setsWithDry_31 T (q : Int) (fsets A : Int) (bI ((A 1 4).testBit (A 10 q))) M2 _ (n + 1) _ ((16 : Nat) : Int) = _
        rw [l_X6_setsWithDry_31]
        exact c_pos (by decide) rfl
    · rw [gd_neg (by omega)]; exact oC_neg hk1 oC_ref
/-- the model's search through the sets -/
def fnd2 (A : aA) (i : Int) (j : Nat) : Int := if fst (fun s => nok A s && decide (((cntp (nok A) s : Nat) : Int) = i)) j < j then ((fst (fun s => nok A s && decide (((cntp (nok A) s : Nat) : Int) = i)) j : Nat) : Int) else -1
def NR (T : Nat) (M : aM) (w : Nat) (A : aA) (j : Nat) (Z : aM) : Prop := sM M Z ∧ MV T Z w A ∧ Z 138 33 = ((cntp (nok A) j : Nat) : Int) ∧ ∀ k, k < A 0 6 → Z 151 k = ((cntp (dyp A k) j : Nat) : Int)
theorem fnd2_up (A : aA) (i : Int) (j : Nat) : fnd2 A i (j + 1) = if nok A j = true ∧ ((cntp (nok A) j : Nat) : Int) = i then (j : Int) else fnd2 A i j := by
  have hle := fst_le (fun s => nok A s && decide (((cntp (nok A) s : Nat) : Int) = i)) j
  have hmono : ∀ s, s < j → nok A s = true → cntp (nok A) s < cntp (nok A) j := by
    intro s hs hn
    have h1 := cntp_add (nok A) (s + 1) (j - (s + 1))
    rw [show s + 1 + (j - (s + 1)) = j by omega] at h1
    have h2 : cntp (nok A) (s + 1) = cntp (nok A) s + (if nok A s then 1 else 0) := rfl
    rw [hn, if_pos rfl] at h2
    omega
  have e : fst (fun s => nok A s && decide (((cntp (nok A) s : Nat) : Int) = i)) (j + 1) = if fst (fun s => nok A s && decide (((cntp (nok A) s : Nat) : Int) = i)) j < j then fst (fun s => nok A s && decide (((cntp (nok A) s : Nat) : Int) = i)) j else if (nok A j && decide (((cntp (nok A) j : Nat) : Int) = i)) = true then j else j + 1 := rfl
  unfold fnd2
  by_cases h1 : fst (fun s => nok A s && decide (((cntp (nok A) s : Nat) : Int) = i)) j < j
  · have hy := fst_yes _ j h1
    simp only [Bool.and_eq_true, decide_eq_true_eq] at hy
    have hm := hmono _ h1 hy.1
    rw [e, if_pos h1, if_pos (by omega), if_neg (fun h => by omega), if_pos h1]
  · rw [e, if_neg h1, if_neg h1]
    by_cases h2 : nok A j = true ∧ ((cntp (nok A) j : Nat) : Int) = i
    · rw [if_pos (show (nok A j && decide (((cntp (nok A) j : Nat) : Int) = i)) = true by rw [h2.1, decide_eq_true h2.2]; rfl), if_pos (by omega), if_pos h2]
    · rw [if_neg (show ¬ (nok A j && decide (((cntp (nok A) j : Nat) : Int) = i)) = true by
        intro h; simp only [Bool.and_eq_true, decide_eq_true_eq] at h; exact h2 h), if_neg (by omega), if_neg h2]
theorem g_net87 (hA : WF A) {Z : aM} (hm : MV T Z w A) {j : Nat} (hj : j < 16) (hok : nok A j = true) (hd : ∀ k, k < A 0 6 → Z 151 k = ((cntp (dyp A k) j : Nat) : Int)) {v1 v2 : Int} (kk : Int → aM → Option (Int × aM)) : ∃ Y, l_X13_netting_87 T v1 v2 (j : Int) kk FU 0 Z = kk (A 0 6) Y ∧ sM Z Y ∧ MV T Y w A ∧ Y 138 33 = Z 138 33 ∧ ∀ k, k < A 0 6 → Y 151 k = ((cntp (dyp A k) (j + 1) : Nat) : Int) := by
  have h6 := hA.1.2.2.2.2.2.2.1
  have h10 := hA.1.2.2.1
  let f : Nat → Nat → Int := fun i b => if b < i then ((cntp (dyp A b) (j + 1) : Nat) : Int) else Z 151 b
  have e0 : setc Z 151 (f 0) = Z := by
    have : f 0 = Z 151 := funext fun b => if_neg (Nat.not_lt_zero b)
    rw [this, setc_self]
  refine ⟨setc Z 151 (f (A 0 6)), ?_, sM_set (by omega), mv_ne hm (by omega) _, by rw [setc_ne (by decide)], fun k hk => by rw [setc_at]; exact if_pos hk⟩
  have := for_until (fun i n => l_X13_netting_87 T v1 v2 (j : Int) kk n (i : Int) (setc Z 151 (f i))) (y := kk (A 0 6) (setc Z 151 (f (A 0 6)))) (A 0 6) (fun i n hi => ?_) (fun n => ?_) (by omega)
  · have t2 : l_X13_netting_87 T v1 v2 (j : Int) kk FU ((0 : Nat) : Int) (setc Z 151 (f 0)) = _ := this
    rw [e0] at t2; exact t2
  · have hmi := mv_ne hm (n := 151) (by omega) (f i)
    obtain ⟨m1, m2, m3⟩ := hmi
    have hu := (hA.2.2.2.2.2.2.2.1 i hi).1
    have e151 : f i i = ((cntp (dyp A i) j : Nat) : Int) := by show (if i < i then _ else Z 151 i) = _; rw [if_neg (Nat.lt_irrefl i)]; exact hd i hi
    have hcl := cntp_le (dyp A i) j
    have ec : cntp (dyp A i) (j + 1) = cntp (dyp A i) j + (if dyp A i j then 1 else 0) := rfl
    have hdy : dyp A i j = !(wtb A j).testBit (A 10 i) := by unfold dyp; rw [hok, Bool.true_and]
    have hfun : ∀ x : Int, x = ((cntp (dyp A i) (j + 1) : Nat) : Int) → (fun b => if b = i then x else f i b) = f (i + 1) := by
      intro x hx
      funext b
      show (if b = i then x else if b < i then ((cntp (dyp A b) (j + 1) : Nat) : Int) else Z 151 b) = if b < i + 1 then ((cntp (dyp A b) (j + 1) : Nat) : Int) else Z 151 b
      by_cases hb : b = i
      · rw [if_pos hb, if_pos (by omega), hb, hx]
      · rw [if_neg hb]
        by_cases hb2 : b < i
        · rw [if_pos hb2, if_pos (by omega)]
        · rw [if_neg hb2, if_neg (by omega)]
    show l_X13_netting_87 T v1 v2 (j : Int) kk (n + 1) (i : Int) (setc Z 151 (f i)) = l_X13_netting_87 T v1 v2 (j : Int) kk n ((i + 1 : Nat) : Int) (setc Z 151 (f (i + 1)))
    rw [l_X13_netting_87, m1, Int.toNat_natCast, m3.1.2.2.2.2.2.2.2.2.2.2.1, Int.toNat_natCast, m3.2.2.2.2.2.1 i hi, setc_at, e151]
    refine c_ite m2 (c_neg (by omega) (c_ite (by omega) (c_bind (g_wetBy hA ⟨m1, m2, m3⟩ (by omega)) (c_bind (h_bit (wetB_31 hA j (Nat.le_refl _)) (by omega)) ?_))))
    cases hb : (wtb A j).testBit (A 10 i)
    · rw [hdy, hb, Bool.not_false, if_pos rfl] at ec
      refine c_pos rfl (c_ite (by omega) (c_some (c_ite (by omega) ?_)))
      rw [aup_setc, hfun _ (by rw [ec]; omega)]; rfl
    · rw [hdy, hb, Bool.not_true, if_neg (by decide)] at ec
      refine c_neg (by decide) (c_ite (by omega) (c_some (c_ite (by omega) ?_)))
      rw [aup_setc, hfun _ (by rw [ec]; omega)]; rfl
  · have hmi := mv_ne hm (n := 151) (by omega) (f (A 0 6))
    show l_X13_netting_87 T v1 v2 (j : Int) kk (n + 1) ((A 0 6 : Nat) : Int) _ = _
    rw [l_X13_netting_87, hmi.1, Int.toNat_natCast, hmi.2.2.1.2.2.2.2.2.2.2.2.2.2.1]
    exact c_ite hmi.2.1 (c_pos (Int.le_refl _) rfl)
theorem g_netting (hA : WF A) (hm : MV T M w A) (i : Int) : ∃ Z, f_X13_netting T i M = some (fnd2 A i (nU A), Z) ∧ NR T M w A (nU A) Z := by
  have h6 := hA.1.2.2.2.2.2.2.1
  have hU := nU_le hA
  have k9 : ∀ (Y : aM) (kk : Int → aM → Option (Int × aM)), l_X13_netting_9 T i (-1) kk FU 0 Y = kk 4 (setc Y 151 (ovr (Y 151) 4 (fun _ => 0))) := by
    intro Y kk
    have e0 : setc Y 151 (ovr (Y 151) 0 (fun _ => 0)) = Y := by
      have : ovr (Y 151) 0 (fun _ => 0) = Y 151 := funext fun b => if_neg (Nat.not_lt_zero b)
      rw [this, setc_self]
    have := for_until (fun q n => l_X13_netting_9 T i (-1) kk n (q : Int) (setc Y 151 (ovr (Y 151) q (fun _ => 0)))) (y := kk 4 (setc Y 151 (ovr (Y 151) 4 (fun _ => 0)))) 4 (fun q n hq => ?_) (fun n => ?_) (by omega)
    · have t2 : l_X13_netting_9 T i (-1) kk FU ((0 : Nat) : Int) (setc Y 151 (ovr (Y 151) 0 (fun _ => 0))) = _ := this
      rw [e0] at t2; exact t2
    · show l_X13_netting_9 T i (-1) kk (n + 1) (q : Int) _ = l_X13_netting_9 T i (-1) kk n ((q + 1 : Nat) : Int) _
      rw [l_X13_netting_9]
      refine c_neg (by omega) (c_ite (by omega) (c_some (c_ite (by omega) ?_)))
      rw [Int.toNat_natCast, aup_setc]
      have : (fun b => if b = q then (0 : Int) else ovr (Y 151) q (fun _ => 0) b) = ovr (Y 151) (q + 1) (fun _ => 0) := by
        funext b
        unfold ovr
        split
        · rw [if_pos (by omega)]; rfl
        · split
          · rw [if_pos (by omega)]
          · rw [if_neg (by omega)]
      rw [this]; rfl
    · show l_X13_netting_9 T i (-1) kk (n + 1) ((4 : Nat) : Int) _ = _
      rw [l_X13_netting_9]
      exact c_pos (by decide) rfl
  let Z0 : aM := setc (aup M 138 33 0) 151 (ovr (aup M 138 33 0 151) 4 (fun _ => 0))
  have hr0 : NR T M w A 0 Z0 := by
    refine ⟨(sM_fl (by omega)).trans (sM_set (by omega)), mv_ne (mv_aup hm ⟨by decide, fun _ => by decide⟩) (by omega) _, ?_, fun k hk => ?_⟩
    · show (setc (aup M 138 33 0) 151 _) 138 33 = _
      rw [setc_ne (by decide), aup_at]; rfl
    · show (setc (aup M 138 33 0) 151 _) 151 k = _
      rw [setc_at, ovr_at (by omega)]; rfl
  have key0 : f_X13_netting T i M = l_X13_netting_29 T i (fun w55 w56 m58 => some (w55, m58)) FU (-1) 0 Z0 := by
    unfold f_X13_netting
    refine c_some ?_
    rw [k9]
  obtain ⟨Z, hZ, n, hrun⟩ := for_inv (fun n j (Z : aM) => l_X13_netting_29 T i (fun w55 w56 m58 => some (w55, m58)) n (fnd2 A i j) (j : Int) Z) (NR T M w A) (nU A) (fun j n Z hj hr => by
    obtain ⟨r1, r2, r3, r4⟩ := hr
    have hlay := h_lays (T := T) hA r2 (wetB_31 hA j (Nat.le_refl _)) (-1)
    rw [drw_none] at hlay
    have hmL := mv_laysM (dr := dry (wtb A j)) r2
    have hLM := laysM_LM (M := Z) (A := A) (dr := dry (wtb A j))
    have hsL := sM_lays (M := Z) (A := A) (dr := dry (wtb A j))
    have e33 : laysM Z A (dry (wtb A j)) 138 33 = ((cntp (nok A) j : Nat) : Int) := by rw [laysM_ne (by decide)]; exact r3
    have e151 : ∀ k, k < A 0 6 → laysM Z A (dry (wtb A j)) 151 k = ((cntp (dyp A k) j : Nat) : Int) := fun k hk => by rw [laysM_ne (by decide)]; exact r4 k hk
    have hwr := g_wrong (T := T) hA hmL hLM
    generalize laysM Z A (dry (wtb A j)) = Y at hlay hmL hLM hsL e33 e151 hwr
    have hcl := cntp_le (nok A) j
    have ec : cntp (nok A) (j + 1) = cntp (nok A) j + (if nok A j then 1 else 0) := rfl
    have eq0 : ∀ kk, l_X13_netting_29 T i kk (n + 1) (fnd2 A i j) (j : Int) Z = if orN (wrg A (dry (wtb A j))) (A 0 7) = -2 then (if ((cntp (nok A) j : Nat) : Int) = i then (if aIn (((cntp (nok A) j : Nat) : Int) + 1) then (some (aup Y 138 33 (((cntp (nok A) j : Nat) : Int) + 1))).bind fun m48 => l_X13_netting_87 T i (j : Int) (j : Int) (fun w50 m51 => if aIn ((j : Int) + 1) then l_X13_netting_29 T i kk n (j : Int) ((j : Int) + 1) m51 else none) FU 0 m48 else none) else (if aIn (((cntp (nok A) j : Nat) : Int) + 1) then (some (aup Y 138 33 (((cntp (nok A) j : Nat) : Int) + 1))).bind fun m25 => l_X13_netting_87 T i (fnd2 A i j) (j : Int) (fun w43 m44 => if aIn ((j : Int) + 1) then l_X13_netting_29 T i kk n (fnd2 A i j) ((j : Int) + 1) m44 else none) FU 0 m25 else none)) else (if aIn ((j : Int) + 1) then l_X13_netting_29 T i kk n (fnd2 A i j) ((j : Int) + 1) Y else none) := by
      intro kk
      rw [l_X13_netting_29, r2.1, Int.toNat_natCast, r2.2.2.1.2.2.2.2.2.2.2.2.2.2.1, ashl_one _ (by omega)]
      refine c_ite r2.2.1 (c_neg (by have : ((nU A : Nat) : Int) = ((2 ^ A 0 6 : Nat) : Int) := rfl; omega) (c_bind (g_wetBy hA r2 (by omega)) (c_bind hlay (c_bind hwr ?_))))
      simp only [e33]
    cases hb : nok A j
    · refine ⟨Y, ⟨r1.trans hsL, hmL, ?_, fun k hk => ?_⟩, ?_⟩
      · rw [ec, hb, if_neg (by decide)]; exact e33
      · have ed : cntp (dyp A k) (j + 1) = cntp (dyp A k) j + (if dyp A k j then 1 else 0) := rfl
        rw [ed, if_neg (by unfold dyp; rw [hb, Bool.false_and]; decide)]; exact e151 k hk
      · rw [eq0]
        refine c_neg (fun h => by rw [nok_iff.mp h] at hb; cases hb) (c_ite (by omega) ?_)
        rw [fnd2_up, if_neg (fun h => by rw [h.1] at hb; cases hb)]; rfl
    · rw [hb, if_pos rfl] at ec
      have hmU : MV T (aup Y 138 33 (((cntp (nok A) j : Nat) : Int) + 1)) w A := mv_aup hmL ⟨by decide, fun _ => by decide⟩
      by_cases hi2 : ((cntp (nok A) j : Nat) : Int) = i
      · obtain ⟨X, x1, x2, x3, x4, x5⟩ := g_net87 (T := T) hA hmU (show j < 16 by omega) hb (fun k hk => by rw [aup_nc (by decide)]; exact e151 k hk) (v1 := i) (v2 := (j : Int)) (fun w50 m51 => if aIn ((j : Int) + 1) then l_X13_netting_29 T i (fun w55 w56 m58 => some (w55, m58)) n (j : Int) ((j : Int) + 1) m51 else none)
        refine ⟨X, ⟨r1.trans (hsL.trans ((sM_fl (by omega)).trans x2)), x3, ?_, x5⟩, ?_⟩
        · rw [x4, aup_at, ec]; rfl
        · rw [eq0]
          refine c_pos (nok_iff.mpr hb) (c_pos hi2 (c_ite (by omega) (c_some ?_)))
          rw [x1, show fnd2 A i (j + 1) = (j : Int) from (fnd2_up A i j).trans (if_pos ⟨hb, hi2⟩)]
          exact c_ite (by omega) rfl
      · obtain ⟨X, x1, x2, x3, x4, x5⟩ := g_net87 (T := T) hA hmU (show j < 16 by omega) hb (fun k hk => by rw [aup_nc (by decide)]; exact e151 k hk) (v1 := i) (v2 := fnd2 A i j) (fun w43 m44 => if aIn ((j : Int) + 1) then l_X13_netting_29 T i (fun w55 w56 m58 => some (w55, m58)) n (fnd2 A i j) ((j : Int) + 1) m44 else none)
        refine ⟨X, ⟨r1.trans (hsL.trans ((sM_fl (by omega)).trans x2)), x3, ?_, x5⟩, ?_⟩
        · rw [x4, aup_at, ec]; rfl
        · rw [eq0]
          refine c_pos (nok_iff.mpr hb) (c_neg hi2 (c_ite (by omega) (c_some ?_)))
          rw [x1, show fnd2 A i (j + 1) = fnd2 A i j from (fnd2_up A i j).trans (if_neg (fun h => hi2 h.2))]
          exact c_ite (by omega) rfl) (by omega) Z0 hr0
  refine ⟨Z, ?_, hZ⟩
  have hrun2 : l_X13_netting_29 T i (fun w55 w56 m58 => some (w55, m58)) FU (-1) 0 Z0 = l_X13_netting_29 T i (fun w55 w56 m58 => some (w55, m58)) (n + 1) (fnd2 A i (nU A)) ((nU A : Nat) : Int) Z := hrun
  rw [key0, hrun2, l_X13_netting_29, hZ.2.1.1, Int.toNat_natCast, hZ.2.1.2.2.1.2.2.2.2.2.2.2.2.2.2.1, ashl_one _ (by omega)]
  exact c_ite hZ.2.1.2.1 (c_pos (Int.le_refl _) rfl)
theorem m_nets (h : MD T M A S) : opM (f_X13_nets T M) M (sp_nets A) := by
  unfold f_X13_nets sp_nets
  refine oM_bind rfl ?_
  have h1 : sM M (aup M 138 0 0) := sM_fl (by omega)
  have hm1 := h.of h1
  refine oM_well hm1 (fun hn => ?_) (fun hp => ?_)
  · rw [gd_neg hn]; exact oM_ref h1
  · rw [gd_pos hp]
    obtain ⟨w, hw⟩ := hm1.has (by omega)
    obtain ⟨Z, e1, r1, r2, r3, r4⟩ := g_netting (T := T) h.1 hw (-1)
    refine oM_bind e1 ?_
    show opM ((f_X13_good T (Z 138 33) Z).bind fun x8 => some (x8.1, x8.2)) M _
    rw [r3]; exact oM_good (h1.trans r1)
theorem m_dryBy (h : MD T M A S) (k : Int) : opM (f_X13_dryBy T k M) M (sp_dryBy A k) := by
  have hA := h.1
  have h6 := hA.1.2.2.2.2.2.2.1
  unfold f_X13_dryBy sp_dryBy
  refine oM_bind rfl ?_
  have h1 : sM M (aup M 138 0 0) := sM_fl (by omega)
  have hm1 := h.of h1
  refine oM_well hm1 (fun hn => ?_) (fun hp => ?_)
  · have hz := (hA.2.2.2.2.2.2.2.2.2.1 (by omega)).1 6
    rw [gd_neg (by omega)]; exact oM_ref h1
  · obtain ⟨w, hw⟩ := hm1.has (by omega)
    by_cases hk0 : k < 0
    · rw [gd_neg (by omega)]; exact oM_pos hk0 (oM_ref h1)
    · rw [hw.1, Int.toNat_natCast, hw.2.2.1.2.2.2.2.2.2.2.2.2.2.1]
      refine oM_neg hk0 (oM_pos hw.2.1 ?_)
      by_cases hk1 : k < (A 0 6 : Int)
      · rw [gd_pos (by omega)]
        obtain ⟨q, rfl⟩ : ∃ q : Nat, k = (q : Int) := ⟨k.toNat, by omega⟩
        obtain ⟨Z, e1, r1, r2, r3, r4⟩ := g_netting (T := T) h.1 hw (-1)
        refine oM_pos hk1 (oM_bind e1 (oM_pos (by omega) ?_))
        show opM ((f_X13_good T (Z 151 (q : Int).toNat) Z).bind fun x8 => some (x8.1, x8.2)) M _
        rw [Int.toNat_natCast, r4 q (by omega)]; exact oM_good (h1.trans r1)
      · rw [gd_neg (by omega)]; exact oM_neg hk1 (oM_ref h1)
theorem kth_eq (hA : WF A) (i : Int) : fnd2 A i (nU A) = if fst (kth A i) 16 < 16 then ((fst (kth A i) 16 : Nat) : Int) else -1 := by
  have hU := nU_le hA
  have hcn : ∀ s, s ≤ nU A → cntp (fsets A).testBit s = cntp (nok A) s := fun s hs => cntp_cong fun k hk => by unfold fsets; rw [msk_bit, decide_eq_true (by omega), Bool.true_and]
  have hk1 : ∀ s, s < nU A → kth A i s = (nok A s && decide (((cntp (nok A) s : Nat) : Int) = i)) := fun s hs => by
    unfold kth
    rw [hcn s (by omega)]
    unfold fsets
    rw [msk_bit, decide_eq_true hs, Bool.true_and]
  have hk2 : ∀ s, nU A ≤ s → kth A i s = false := fun s hs => by
    unfold kth fsets
    rw [msk_bit, decide_eq_false (by omega), Bool.false_and, Bool.false_and]
  have hle := fst_le (fun s => nok A s && decide (((cntp (nok A) s : Nat) : Int) = i)) (nU A)
  unfold fnd2
  by_cases h : fst (fun s => nok A s && decide (((cntp (nok A) s : Nat) : Int) = i)) (nU A) < nU A
  · have e : fst (kth A i) 16 = fst (fun s => nok A s && decide (((cntp (nok A) s : Nat) : Int) = i)) (nU A) := by
      refine fst_eq (by omega) ?_ (fun k hk => ?_)
      · rw [hk1 _ h]; exact fst_yes _ _ h
      · rw [hk1 k (by omega)]; exact fst_no _ _ k hk
    rw [if_pos h, e, if_pos (by omega)]
  · have e : fst (kth A i) 16 = 16 := fst_none fun k hk => by
      by_cases hku : k < nU A
      · rw [hk1 k hku]; exact fst_no (fun s => nok A s && decide (((cntp (nok A) s : Nat) : Int) = i)) (nU A) k (by omega)
      · exact hk2 k (by omega)
    rw [if_neg h, e, if_neg (Nat.lt_irrefl _)]
theorem m_netAt (h : MD T M A S) (i : Int) : opM (f_X13_netAt T i M) M (sp_netAt A i) := by
  have hA := h.1
  unfold f_X13_netAt sp_netAt
  refine oM_bind rfl ?_
  have h1 : sM M (aup M 138 0 0) := sM_fl (by omega)
  have hm1 := h.of h1
  refine oM_well hm1 (fun hn => ?_) (fun hp => ?_)
  · rw [gd_neg (fun h => hn h.1)]; exact oM_ref h1
  · obtain ⟨w, hw⟩ := hm1.has (by omega)
    by_cases hi : 0 ≤ i
    · refine oM_pos hi ?_
      obtain ⟨Z, e1, r1, r2, r3, r4⟩ := g_netting (T := T) h.1 hw i
      rw [kth_eq hA] at e1
      refine oM_bind e1 ?_
      by_cases hq : fst (kth A i) 16 < 16
      · rw [gd_pos ⟨hp, hq⟩, if_pos hq]
        exact oM_neg (show ¬ ((fst (kth A i) 16 : Nat) : Int) = -1 by omega) (oM_good (h1.trans r1))
      · rw [gd_neg (fun h => hq h.2), if_neg hq]
        exact oM_pos rfl (oM_ref (h1.trans r1))
    · have : ¬ fst (kth A i) 16 < 16 := by
        intro hq
        have := fst_yes (kth A i) 16 hq
        unfold kth at this
        rw [Bool.and_eq_true, decide_eq_true_eq] at this
        omega
      rw [gd_neg (fun h => this h.2)]
      exact oM_neg hi (oM_ref h1)
end Nts

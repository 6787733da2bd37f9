/-! ===== stone, stoneLeaves ===== -/
section Stn
variable {A : aA} {S : Nat → Int} {T e w : Nat} {M M1 M0 : aM}
/-- those alike from a cave -/
def alk (A : aA) (c a : Nat) : Nat := cntp (fun b => (fit A).testBit b && decide (dst A (d1 A) c b = dst A (d1 A) c a)) (A 0 1)
def lft (A : aA) (c : Nat) : Nat → Nat
  | 0 => 0
  | i + 1 => if (fit A).testBit i = true ∧ lft A c i < alk A c i then alk A c i else lft A c i
abbrev lf (A : aA) (c : Nat) : Nat := lft A c (A 0 1)
theorem lft_le (hA : WF A) (c : Nat) : ∀ i, lft A c i ≤ 8
  | 0 => Nat.zero_le _
  | i + 1 => by
    have ih := lft_le hA c i
    have h8 := hA.1.2.1
    have := cntp_le (fun b => (fit A).testBit b && decide (dst A (d1 A) c b = dst A (d1 A) c i)) (A 0 1)
    have e : alk A c i = cntp (fun b => (fit A).testBit b && decide (dst A (d1 A) c b = dst A (d1 A) c i)) (A 0 1) := rfl
    unfold lft
    split <;> omega
/-- the best stone, and what it leaves -/
def bst2 (A : aA) : Nat → Int × Nat
  | 0 => (-2, 9)
  | i + 1 => if lf A i < (bst2 A i).2 then ((i : Int), lf A i) else bst2 A i
theorem bst2_one (hA : WF A) : ∀ i, 0 < i → (bst2 A i).1 ≠ -2 ∧ (bst2 A i).2 ≤ 8 ∧ ∃ c : Nat, (bst2 A i).1 = (c : Int) ∧ c < i ∧ (bst2 A i).2 = lf A c
  | 0, h => absurd h (Nat.lt_irrefl _)
  | i + 1, _ => by
    have hl := lft_le hA i (A 0 1)
    have el : lf A i = lft A i (A 0 1) := rfl
    by_cases h : lf A i < (bst2 A i).2
    · rw [show bst2 A (i + 1) = ((i : Int), lf A i) from if_pos h]
      exact ⟨by show (i : Int) ≠ -2; omega, by show lf A i ≤ 8; omega, i, rfl, by omega, rfl⟩
    · rw [show bst2 A (i + 1) = bst2 A i from if_neg h]
      cases i with
      | zero => exact absurd (show lf A 0 < 9 by omega) h
      | succ j =>
        obtain ⟨h1, h2, c, h3, h4, h5⟩ := bst2_one hA (j + 1) (by omega)
        exact ⟨h1, h2, c, h3, by omega, h5⟩
theorem fit_lt (hA : WF A) : fit A < 2147483648 := msk_lt31 _ (by have := hA.1.2.1; omega)
theorem cl_inj {a b : Nat} (ha : a ≤ 9999) (hb : b ≤ 9999) : ((cl a : Nat) : Int) = ((cl b : Nat) : Int) ↔ a = b := by
  unfold cl; split <;> split <;> omega
theorem tol_inj {a b : Nat} (ha : a ≤ 9999) (hb : b ≤ 9999) : tol a = tol b ↔ a = b := by
  unfold tol; split <;> split <;> omega
theorem h_alike (hA : WF A) (hC : CT M A) (hF : LD M 42 A (d1 A)) {c a : Nat} (hc : c < A 0 1) : f_X2_alikeFrom T (c : Int) (fit A : Int) (cl (dst A (d1 A) c a) : Int) M = some (alk A c a : Int) := by
  have h8 := hA.1.2.1
  unfold f_X2_alikeFrom
  refine cnt_loop (fun n b i => l_X2_alikeFrom_6 T (c : Int) (fit A : Int) (cl (dst A (d1 A) c a) : Int) M (fun w12 w13 => some w12) n b i) (A 0 1) (fun b => (fit A).testBit b && decide (dst A (d1 A) c b = dst A (d1 A) c a)) (by omega) (fun i n hi => ?_) (fun n => ?_)
  · have hcl := cntp_le (fun b => (fit A).testBit b && decide (dst A (d1 A) c b = dst A (d1 A) c a)) i
    show l_X2_alikeFrom_6 T (c : Int) (fit A : Int) (cl (dst A (d1 A) c a) : Int) M _ (n + 1) _ (i : Int) = l_X2_alikeFrom_6 T (c : Int) (fit A : Int) (cl (dst A (d1 A) c a) : Int) M _ n _ _
    rw [l_X2_alikeFrom_6, hC.1 1 (by decide)]
    refine c_neg (by omega) (c_bind (h_hasBit (fit_lt hA) (by omega)) ?_)
    cases hb : (fit A).testBit i
    · rw [if_neg (show ¬ (false && decide (dst A (d1 A) c i = dst A (d1 A) c a)) = true by rw [Bool.false_and]; decide)]
      exact c_pos rfl (c_ite (by omega) rfl)
    · refine c_neg (by decide) (c_bind (h_span hF hA hc (by omega)) ?_)
      by_cases he : dst A (d1 A) c i = dst A (d1 A) c a
      · rw [if_pos (show (true && decide (dst A (d1 A) c i = dst A (d1 A) c a)) = true by rw [decide_eq_true he]; rfl)]
        exact c_pos (by rw [he]) (c_ite (by omega) (c_ite (by omega) rfl))
      · rw [if_neg (show ¬ (true && decide (dst A (d1 A) c i = dst A (d1 A) c a)) = true by rw [decide_eq_false he]; decide)]
        exact c_neg (fun h => he ((cl_inj (dst_le hA _ _) (dst_le hA _ _)).mp h)) (c_ite (by omega) rfl)
  · show l_X2_alikeFrom_6 T (c : Int) (fit A : Int) (cl (dst A (d1 A) c a) : Int) M _ (n + 1) _ ((A 0 1 : Nat) : Int) = _
    rw [l_X2_alikeFrom_6, hC.1 1 (by decide)]
    exact c_pos (Int.le_refl _) rfl
theorem h_leftBy (hA : WF A) (hC : CT M A) (hF : LD M 42 A (d1 A)) {c : Nat} (hc : c < A 0 1) : f_X2_leftBy T (c : Int) (fit A : Int) M = some (lf A c : Int) := by
  have h8 := hA.1.2.1
  unfold f_X2_leftBy
  refine for_until (fun i n => l_X2_leftBy_5 T (c : Int) (fit A : Int) M (fun w11 w12 => some w11) n ((lft A c i : Nat) : Int) (i : Int)) (A 0 1) (fun i n hi => ?_) (fun n => ?_) (by omega)
  · show l_X2_leftBy_5 T (c : Int) (fit A : Int) M _ (n + 1) _ (i : Int) = l_X2_leftBy_5 T (c : Int) (fit A : Int) M _ n ((lft A c (i + 1) : Nat) : Int) ((i + 1 : Nat) : Int)
    have e : lft A c (i + 1) = if (fit A).testBit i = true ∧ lft A c i < alk A c i then alk A c i else lft A c i := rfl
    rw [l_X2_leftBy_5, hC.1 1 (by decide)]
    refine c_neg (by omega) (c_bind (h_hasBit (fit_lt hA) (by omega)) ?_)
    cases hb : (fit A).testBit i
    · rw [e.trans (if_neg (by rw [hb]; rintro ⟨h, -⟩; cases h))]
      exact c_pos rfl (c_ite (by omega) rfl)
    · refine c_neg (by decide) (c_bind (h_span hF hA hc (by omega)) (c_bind (h_alike hA hC hF hc) (c_ite (by omega) ?_)))
      by_cases hq : lft A c i < alk A c i
      · rw [e.trans (if_pos ⟨hb, hq⟩), if_neg (by omega)]; rfl
      · rw [e.trans (if_neg (fun h => hq h.2))]
        by_cases hq2 : alk A c i = lft A c i
        · rw [if_neg (by omega), hq2]; rfl
        · rw [if_pos (by omega)]; rfl
  · show l_X2_leftBy_5 T (c : Int) (fit A : Int) M _ (n + 1) _ ((A 0 1 : Nat) : Int) = _
    rw [l_X2_leftBy_5, hC.1 1 (by decide)]
    exact c_pos (Int.le_refl _) rfl
/-- where to throw -/
def stn (A : aA) : Int := if fit A = 0 then -2 else (bst2 A (A 0 1)).1
def stl (A : aA) : Int := if fit A = 0 ∨ A 0 1 = 0 then -2 else ((bst2 A (A 0 1)).2 : Int)
theorem h_bestStone (h : CQ M A S) : f_X2_bestStone T M = some (stn A) := by
  have hh := h
  obtain ⟨hA, hS, hC, hs, hL, hF⟩ := h
  have h8 := hA.1.2.1
  unfold f_X2_bestStone stn
  refine c_bind (h_fitting hh) ?_
  by_cases h0 : fit A = 0
  · rw [if_pos h0, h0, show FU = 99999 + 1 from rfl, l_X2_bestStone_14]
    by_cases hN : M 3 1 ≤ 0
    · exact c_pos hN rfl
    · exact c_neg hN (c_pos rfl rfl)
  · rw [if_neg h0]
    refine for_until (fun i n => l_X2_bestStone_14 T (fit A : Int) M (fun w10 w11 w12 => some w10) n (bst2 A i).1 ((bst2 A i).2 : Int) (i : Int)) (A 0 1) (fun i n hi => ?_) (fun n => ?_) (by omega)
    · show l_X2_bestStone_14 T (fit A : Int) M _ (n + 1) (bst2 A i).1 ((bst2 A i).2 : Int) (i : Int) = l_X2_bestStone_14 T (fit A : Int) M _ n (bst2 A (i + 1)).1 ((bst2 A (i + 1)).2 : Int) ((i + 1 : Nat) : Int)
      rw [l_X2_bestStone_14, hC.1 1 (by decide)]
      refine c_neg (by omega) (c_neg (by omega) (c_bind (h_leftBy hA hC hF hi) ?_))
      by_cases hq : lf A i < (bst2 A i).2
      · rw [show bst2 A (i + 1) = ((i : Int), lf A i) from if_pos hq]
        exact c_neg (by omega) (c_ite (by omega) rfl)
      · rw [show bst2 A (i + 1) = bst2 A i from if_neg hq]
        exact c_pos (by omega) (c_ite (by omega) rfl)
    · show l_X2_bestStone_14 T (fit A : Int) M _ (n + 1) _ _ ((A 0 1 : Nat) : Int) = _
      rw [l_X2_bestStone_14, hC.1 1 (by decide)]
      exact c_pos (Int.le_refl _) rfl
def sp_stone (A : aA) : Int × Int := gd (0 < A 0 0) (stn A) 1
def sp_stoneLeaves (A : aA) : Int × Int := gd (0 < A 0 0) (stl A) 1
theorem c_stone (h : CQ M A S) : opC (f_X11_stone T M) M (sp_stone A) := by
  unfold f_X11_stone sp_stone
  refine oC_well h.2.2.1 (fun hn => ?_) (fun hp => ?_)
  · rw [gd_neg hn]; exact oC_ref
  · rw [gd_pos hp]; exact oC_bind (h_bestStone h) (oC_al (sC.refl M))
theorem c_stoneLeaves (h : CQ M A S) : opC (f_X11_stoneLeaves T M) M (sp_stoneLeaves A) := by
  have hh := h
  obtain ⟨hA, hS, hC, hs, hL, hF⟩ := h
  unfold f_X11_stoneLeaves sp_stoneLeaves
  refine oC_well hC (fun hn => ?_) (fun hp => ?_)
  · rw [gd_neg hn]; exact oC_ref
  · rw [gd_pos hp]
    refine oC_bind (h_bestStone hh) ?_
    unfold stn stl
    by_cases h0 : fit A = 0
    · rw [if_pos h0, if_pos (Or.inl h0)]
      exact oC_pos rfl (oC_al (sC.refl M))
    · have hN : 0 < A 0 1 := hA.2.2.2.2.2.2.2.2.2.2 (by have := hA.1.1; omega)
      rw [if_neg h0, if_neg (show ¬ (fit A = 0 ∨ A 0 1 = 0) by omega)]
      obtain ⟨h1, h2, c, h3, h4, h5⟩ := bst2_one hA (A 0 1) hN
      rw [h3, h5]
      exact oC_neg (by omega) (oC_bind (h_fitting hh) (oC_bind (h_leftBy hA hC hF h4) (oC_al (sC.refl M))))
theorem g_alike (hA : WF A) (hm : MV T M w A) (hL : LM M A (d1 A)) {v2 v4 : Int} {c a : Nat} (hc : c < A 0 1) (ha : a < A 0 1) (kk : Int → Int → Option (Int × aM)) : l_X13_throwsAt_55 T (fit A : Int) v2 (c : Int) v4 (a : Int) M kk FU 0 0 = kk (if (fit A).testBit a then (alk A c a : Int) else 0) (A 0 1) := by
  have h8 := hA.1.2.1
  obtain ⟨m1, m2, m3⟩ := hm
  have e : (if (fit A).testBit a then (alk A c a : Int) else 0) = ((cntp (fun b => (fit A).testBit a && ((fit A).testBit b && decide (dst A (d1 A) c b = dst A (d1 A) c a))) (A 0 1) : Nat) : Int) := by
    cases hb : (fit A).testBit a
    · rw [if_neg (by decide)]
      have : cntp (fun b => false && ((fit A).testBit b && decide (dst A (d1 A) c b = dst A (d1 A) c a))) (A 0 1) = 0 := by
        generalize A 0 1 = N
        induction N with
        | zero => rfl
        | succ N ih => show cntp _ N + (if (false && _) = true then 1 else 0) = 0; rw [ih, Bool.false_and]; rfl
      rw [this]; rfl
    · rw [if_pos rfl]
      unfold alk
      rw [cntp_cong (q := fun b => true && ((fit A).testBit b && decide (dst A (d1 A) c b = dst A (d1 A) c a))) (fun k _ => (Bool.true_and _).symm)]
  rw [e]
  refine cnt_loop (fun n b i => l_X13_throwsAt_55 T (fit A : Int) v2 (c : Int) v4 (a : Int) M kk n b i) (A 0 1) (fun b => (fit A).testBit a && ((fit A).testBit b && decide (dst A (d1 A) c b = dst A (d1 A) c a))) (by omega) (fun i n hi => ?_) (fun n => ?_)
  · have hcl := cntp_le (fun b => (fit A).testBit a && ((fit A).testBit b && decide (dst A (d1 A) c b = dst A (d1 A) c a))) i
    show l_X13_throwsAt_55 T (fit A : Int) v2 (c : Int) v4 (a : Int) M kk (n + 1) _ (i : Int) = l_X13_throwsAt_55 T (fit A : Int) v2 (c : Int) v4 (a : Int) M kk n _ _
    rw [l_X13_throwsAt_55, m1, Int.toNat_natCast, m3.1.2.2.2.1, Int.add_zero]
    refine c_ite m2 (c_neg (by omega) (c_bind (h_bit (fit_lt hA) (by omega)) ?_))
    cases hba : (fit A).testBit a
    · rw [hba] at hcl
      rw [if_neg (show ¬ (false && ((fit A).testBit i && decide (dst A (d1 A) c i = dst A (d1 A) c a))) = true by rw [Bool.false_and]; decide)]
      exact c_pos rfl (c_ite (by omega) (c_ite (by omega) rfl))
    · rw [hba] at hcl
      refine c_neg (by decide) (c_bind (h_bit (fit_lt hA) (by omega)) ?_)
      cases hb : (fit A).testBit i
      · rw [if_neg (show ¬ (true && (false && decide (dst A (d1 A) c i = dst A (d1 A) c a))) = true by rw [Bool.false_and]; decide)]
        exact c_pos rfl (c_ite (by omega) (c_ite (by omega) rfl))
      · refine c_neg (by decide) (c_bind (g_apart hL (by omega) (by omega)) (c_bind (g_told _) (c_bind (g_apart hL (by omega) (by omega)) (c_bind (g_told _) ?_))))
        by_cases he : dst A (d1 A) c i = dst A (d1 A) c a
        · rw [if_pos (show (true && (true && decide (dst A (d1 A) c i = dst A (d1 A) c a))) = true by rw [decide_eq_true he]; rfl)]
          exact c_pos (by rw [he]) (c_ite (by omega) (c_ite (by omega) rfl))
        · rw [if_neg (show ¬ (true && (true && decide (dst A (d1 A) c i = dst A (d1 A) c a))) = true by rw [decide_eq_false he]; decide)]
          exact c_neg (fun h => he ((tol_inj (dst_le hA _ _) (dst_le hA _ _)).mp h).symm) (c_ite (by omega) (c_ite (by omega) rfl))
  · show l_X13_throwsAt_55 T (fit A : Int) v2 (c : Int) v4 (a : Int) M kk (n + 1) _ ((A 0 1 : Nat) : Int) = _
    rw [l_X13_throwsAt_55, m1, Int.toNat_natCast, m3.1.2.2.2.1]
    exact c_ite m2 (c_pos (Int.le_refl _) rfl)
theorem g_leftBy (hA : WF A) (hm : MV T M w A) (hL : LM M A (d1 A)) {v2 : Int} {c : Nat} (hc : c < A 0 1) (kk : Int → Int → Option (Int × aM)) : l_X13_throwsAt_37 T (fit A : Int) v2 (c : Int) M kk FU 0 0 = kk (lf A c : Int) (A 0 1) := by
  have h8 := hA.1.2.1
  have hh := hm
  obtain ⟨m1, m2, m3⟩ := hm
  refine for_until (fun i n => l_X13_throwsAt_37 T (fit A : Int) v2 (c : Int) M kk n ((lft A c i : Nat) : Int) (i : Int)) (A 0 1) (fun i n hi => ?_) (fun n => ?_) (by omega)
  · show l_X13_throwsAt_37 T (fit A : Int) v2 (c : Int) M kk (n + 1) _ (i : Int) = l_X13_throwsAt_37 T (fit A : Int) v2 (c : Int) M kk n ((lft A c (i + 1) : Nat) : Int) ((i + 1 : Nat) : Int)
    have e : lft A c (i + 1) = if (fit A).testBit i = true ∧ lft A c i < alk A c i then alk A c i else lft A c i := rfl
    rw [l_X13_throwsAt_37, m1, Int.toNat_natCast, m3.1.2.2.2.1]
    refine c_ite m2 (c_neg (by omega) ?_)
    rw [g_alike hA hh hL hc hi]
    cases hb : (fit A).testBit i
    · rw [e.trans (if_neg (by rw [hb]; rintro ⟨h, -⟩; cases h)), if_neg (show ¬ false = true by decide)]
      exact c_pos (by omega) (c_ite (by omega) rfl)
    · rw [if_pos (show true = true from rfl)]
      by_cases hq : lft A c i < alk A c i
      · rw [e.trans (if_pos ⟨hb, hq⟩)]
        exact c_neg (by omega) (c_ite (by omega) rfl)
      · rw [e.trans (if_neg (fun h => hq h.2))]
        exact c_pos (by omega) (c_ite (by omega) rfl)
  · show l_X13_throwsAt_37 T (fit A : Int) v2 (c : Int) M kk (n + 1) _ ((A 0 1 : Nat) : Int) = _
    rw [l_X13_throwsAt_37, m1, Int.toNat_natCast, m3.1.2.2.2.1]
    exact c_ite m2 (c_pos (Int.le_refl _) rfl)
/-- what the model has noted of the best stone -/
def ms2 (A : aA) (i : Nat) : Int := if i = 0 then -2 else ((bst2 A i).2 : Int)
theorem g_throwsAt (hA : WF A) (hm : MV T M w A) : ∃ M2, f_X13_throwsAt T M = some (stn A, M2) ∧ sM M M2 ∧ M2 138 32 = stl A := by
  have h8 := hA.1.2.1
  have key0 : f_X13_throwsAt T M = l_X13_throwsAt_16 T (fit A : Int) (fun w57 w58 m63 => some (w57, m63)) FU (-2) 0 (aup (laysM M A (d1 A)) 138 32 (-2)) := by
    unfold f_X13_throwsAt
    exact c_bind (g_fitting hA hm) (c_some rfl)
  have hf := mf_lays hm
  have hsm := sM_lays (M := M) (A := A) (dr := d1 A)
  rw [key0]
  generalize laysM M A (d1 A) = Z at hf hsm
  have hmv : ∀ x : Int, MV T (aup Z 138 32 x) w A := fun x => mv_aup hf.1 ⟨by decide, fun _ => by decide⟩
  have hLM : ∀ x : Int, LM (aup Z 138 32 x) A (d1 A) := fun x => by
    have := hf.2
    unfold LM at this ⊢
    rw [aup_nc (by decide), aup_nc (by decide)]; exact this
  by_cases h0 : fit A = 0
  · refine ⟨aup Z 138 32 (-2), ?_, hsm.trans (sM_fl (by omega)), ?_⟩
    · unfold stn
      rw [if_pos h0, h0, show FU = 99999 + 1 from rfl, l_X13_throwsAt_16, (hmv (-2)).1, Int.toNat_natCast, (hmv (-2)).2.2.1.2.2.2.1]
      refine c_ite (hmv (-2)).2.1 ?_
      by_cases hN : (A 0 1 : Int) ≤ 0
      · exact c_pos hN rfl
      · exact c_neg hN (c_pos rfl rfl)
    · unfold stl
      rw [if_pos (Or.inl h0)]; exact aup_at
  · refine ⟨aup Z 138 32 (ms2 A (A 0 1)), ?_, hsm.trans (sM_fl (by omega)), ?_⟩
    · unfold stn
      rw [if_neg h0]
      refine for_until (fun i n => l_X13_throwsAt_16 T (fit A : Int) (fun w57 w58 m63 => some (w57, m63)) n (bst2 A i).1 (i : Int) (aup Z 138 32 (ms2 A i))) (A 0 1) (fun i n hi => ?_) (fun n => ?_) (by omega)
      · show l_X13_throwsAt_16 T (fit A : Int) _ (n + 1) (bst2 A i).1 (i : Int) (aup Z 138 32 (ms2 A i)) = l_X13_throwsAt_16 T (fit A : Int) _ n (bst2 A (i + 1)).1 ((i + 1 : Nat) : Int) (aup Z 138 32 (ms2 A (i + 1)))
        have hl := lft_le hA i (A 0 1)
        have el : lf A i = lft A i (A 0 1) := rfl
        rw [l_X13_throwsAt_16, (hmv _).1, Int.toNat_natCast, (hmv _).2.2.1.2.2.2.1]
        refine c_ite hf.1.2.1 (c_neg (by omega) (c_neg (by omega) ?_))
        rw [g_leftBy hA (hmv _) (hLM _) hi]
        have e2 : ms2 A (i + 1) = ((bst2 A (i + 1)).2 : Int) := if_neg (by omega)
        rw [e2]
        by_cases hi0 : i = 0
        · subst hi0
          rw [show bst2 A (0 + 1) = (((0 : Nat) : Int), lf A 0) from if_pos (show lf A 0 < 9 by omega)]
          refine c_pos rfl (c_some (c_ite (by omega) ?_))
          rw [aup_aup]; rfl
        · obtain ⟨b1, b2, c, b3, b4, b5⟩ := bst2_one hA i (by omega)
          have e3 : ms2 A i = ((bst2 A i).2 : Int) := if_neg hi0
          refine c_neg b1 ?_
          rw [aup_at, e3]
          by_cases hq : lf A i < (bst2 A i).2
          · rw [show bst2 A (i + 1) = ((i : Int), lf A i) from if_pos hq]
            refine c_pos (by omega) (c_some (c_ite (by omega) ?_))
            rw [aup_aup]; rfl
          · rw [show bst2 A (i + 1) = bst2 A i from if_neg hq]
            exact c_neg (by omega) (c_ite (by omega) rfl)
      · show l_X13_throwsAt_16 T (fit A : Int) _ (n + 1) _ ((A 0 1 : Nat) : Int) _ = _
        rw [l_X13_throwsAt_16, (hmv _).1, Int.toNat_natCast, (hmv _).2.2.1.2.2.2.1]
        exact c_ite hf.1.2.1 (c_pos (Int.le_refl _) rfl)
    · rw [aup_at]
      unfold ms2 stl
      by_cases hN : A 0 1 = 0
      · rw [if_pos hN, if_pos (Or.inr hN)]
      · rw [if_neg hN, if_neg (show ¬ (fit A = 0 ∨ A 0 1 = 0) by omega)]
theorem m_stone (h : MD T M A S) : opM (f_X13_stone T M) M (sp_stone A) := by
  unfold f_X13_stone sp_stone
  refine oM_bind rfl ?_
  have h1 : sM M (aup M 138 0 0) := sM_fl (by omega)
  have hm1 := h.of h1
  refine oM_well hm1 (fun hn => ?_) (fun hp => ?_)
  · rw [gd_neg hn]; exact oM_ref h1
  · rw [gd_pos hp]
    obtain ⟨w, hw⟩ := hm1.has (by omega)
    obtain ⟨M2, e1, e2, e3⟩ := g_throwsAt h.1 hw
    exact oM_bind e1 (oM_good (h1.trans e2))
theorem m_stoneLeaves (h : MD T M A S) : opM (f_X13_stoneLeaves T M) M (sp_stoneLeaves A) := by
  unfold f_X13_stoneLeaves sp_stoneLeaves
  refine oM_bind rfl ?_
  have h1 : sM M (aup M 138 0 0) := sM_fl (by omega)
  have hm1 := h.of h1
  refine oM_well hm1 (fun hn => ?_) (fun hp => ?_)
  · rw [gd_neg hn]; exact oM_ref h1
  · rw [gd_pos hp]
    obtain ⟨w, hw⟩ := hm1.has (by omega)
    obtain ⟨M2, e1, e2, e3⟩ := g_throwsAt h.1 hw
    refine oM_bind e1 ?_
    show opM ((f_X13_good T (M2 138 32) M2).bind fun x8 => some (x8.1, x8.2)) M _
    rw [e3]
    exact oM_good (h1.trans e2)
end Stn

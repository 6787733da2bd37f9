/-! ===== the model's square, caves gone through ===== -/
section Fwl
variable {A : aA} {T w : Nat} {M : aM} {s : Nat} {dr : Nat → Bool}
theorem fwN_out {N F : Nat} {d : Nat → Nat → Nat} (hF : ∀ a b, d a b ≤ F) (hout : ∀ a b, (N ≤ a ∨ N ≤ b) → a ≠ b → d a b = F) : ∀ k, k ≤ N → ∀ a b, (N ≤ a ∨ N ≤ b) → fwN d k a b = d a b
  | 0, _, _, _, _ => rfl
  | k + 1, hk, a, b, h => by
    have ih := fwN_out hF hout k (by omega)
    show fw (fwN d k) k a b = d a b
    unfold fw
    rw [ih a b h]
    have h1 := hF a b
    rcases h with h | h
    · rw [ih a k (Or.inl h), hout a k (Or.inl h) (by omega), if_neg (by omega)]
    · rw [ih k b (Or.inr h), hout k b (Or.inr h) (by omega), if_neg (by omega)]
theorem d0_le (hA : WF A) (a b : Nat) : d0 A dr a b ≤ 9999 := by
  unfold d0
  split
  · omega
  · split
    · rename_i h
      unfold adj at h
      rw [Bool.and_eq_true, decide_eq_true_eq] at h
      have := hA.len20 _ h.1; omega
    · omega
theorem d0_out (hA : WF A) (a b : Nat) (h : A 0 1 ≤ a ∨ A 0 1 ≤ b) (hab : a ≠ b) : d0 A dr a b = 9999 := by
  unfold d0
  rw [if_neg hab, if_neg]
  intro h2
  have := adj_lt hA h2
  omega
theorem h_apart {D : Nat → Nat → Nat} {g : Nat → Int} {a b : Nat} (ha : a < 8) (hb : b < 8) (h : M 144 = rws g 8 D) : f_X13_apart T (a : Int) (b : Int) M = some (D a b : Int) := by
  unfold f_X13_apart
  refine c_ite (by omega) (c_ite (by omega) (c_ite (by omega) ?_))
  rw [show (8 * (a : Int) + (b : Int)).toNat = 8 * a + b by omega, h, rws_at ha hb]
/-- the square in the middle of a cave's turn -/
def fwm (d : Nat → Nat → Nat) (N c a b : Nat) : Nat → Nat → Nat := fun x y => if (x < a ∨ (x = a ∧ y < b)) ∧ x < N ∧ y < N then fwN d (c + 1) x y else fwN d c x y
theorem fw_row {d : Nat → Nat → Nat} (h0 : ∀ a, d a a = 0) (c x : Nat) : fwN d (c + 1) x c = fwN d c x c := by
  show fw (fwN d c) c x c = fwN d c x c
  unfold fw
  rw [fwN_0 h0 c c, if_neg (by omega)]
theorem fw_col {d : Nat → Nat → Nat} (h0 : ∀ a, d a a = 0) (c y : Nat) : fwN d (c + 1) c y = fwN d c c y := by
  show fw (fwN d c) c c y = fwN d c c y
  unfold fw
  rw [fwN_0 h0 c c, if_neg (by omega)]
theorem fwN_le9 {d : Nat → Nat → Nat} (hF : ∀ a b, d a b ≤ 9999) (k a b : Nat) : fwN d k a b ≤ 9999 := by
  have := fwN_le d 0 a b k
  rw [Nat.zero_add] at this
  exact Nat.le_trans this (hF a b)
theorem h_fw226 (hA : WF A) (hm : MV T M w A) {g : Nat → Int} {d : Nat → Nat → Nat} (h0 : ∀ a, d a a = 0) (hF : ∀ a b, d a b ≤ 9999) {c a : Nat} (hc : c < A 0 1) (ha : a < A 0 1) (k : Int → aM → Option (Int × aM)) : l_X13_lays_226 T (c : Int) (a : Int) k FU 0 (setc M 144 (rws g 8 (fwm d (A 0 1) c a 0))) = k (A 0 1) (setc M 144 (rws g 8 (fwm d (A 0 1) c (a + 1) 0))) := by
  have hA8 := hA.1.2.1
  refine for_until (fun i n => l_X13_lays_226 T (c : Int) (a : Int) k n (i : Int) (setc M 144 (rws g 8 (fwm d (A 0 1) c a i)))) (A 0 1) ?_ ?_ (by omega)
  · intro b n hb
    obtain ⟨m1, m2, m3⟩ := mv_ne hm (n := 144) (by omega) (rws g 8 (fwm d (A 0 1) c a b))
    have r1 : fwm d (A 0 1) c a b a c = fwN d c a c := by
      unfold fwm; split
      · exact fw_row h0 c a
      · rfl
    have r2 : fwm d (A 0 1) c a b c b = fwN d c c b := by
      unfold fwm; split
      · exact fw_col h0 c b
      · rfl
    have r3 : fwm d (A 0 1) c a b a b = fwN d c a b := by
      unfold fwm; exact if_neg (by omega)
    have l1 := fwN_le9 hF c a c
    have l2 := fwN_le9 hF c c b
    have l3 := fwN_le9 hF c a b
    show l_X13_lays_226 T (c : Int) (a : Int) k (n + 1) (b : Int) _ = l_X13_lays_226 T (c : Int) (a : Int) k n ((b + 1 : Nat) : Int) _
    rw [l_X13_lays_226, m1, Int.toNat_natCast]
    refine c_ite m2 (c_neg (by rw [m3.1.2.2.2.1]; omega) (c_bind (h_apart (by omega) (by omega) setc_at) (c_bind (h_apart (by omega) (by omega) setc_at) ?_)))
    rw [r1, r2]
    refine c_ite (by omega) (c_bind (h_apart (by omega) (by omega) setc_at) ?_)
    rw [r3]
    by_cases h : fwN d c a c + fwN d c c b < fwN d c a b
    · refine c_neg (by omega) (c_ite (by omega) (c_ite (by omega) (c_ite (by omega) (c_some (c_ite (by omega) ?_)))))
      rw [show (8 * (a : Int) + (b : Int)).toNat = 8 * a + b by omega, aup_setc, ← Int.natCast_add, rws_set (by omega) (by omega)]
      have : (fun a' b' => if a' = a ∧ b' = b then fwN d c a c + fwN d c c b else fwm d (A 0 1) c a b a' b') = fwm d (A 0 1) c a (b + 1) := by
        funext x y
        by_cases hxy : x = a ∧ y = b
        · rw [if_pos hxy]
          unfold fwm
          rw [if_pos (by omega), hxy.1, hxy.2]
          show _ = fw (fwN d c) c a b
          unfold fw; rw [if_pos h]
        · rw [if_neg hxy]
          unfold fwm
          by_cases h2 : (x < a ∨ (x = a ∧ y < b)) ∧ x < A 0 1 ∧ y < A 0 1
          · rw [if_pos h2, if_pos (by omega)]
          · rw [if_neg h2, if_neg (by omega)]
      rw [this]; rfl
    · refine c_pos (by omega) (c_ite (by omega) ?_)
      have : fwm d (A 0 1) c a (b + 1) = fwm d (A 0 1) c a b := by
        funext x y
        by_cases hxy : x = a ∧ y = b
        · unfold fwm
          rw [if_pos (by omega), if_neg (by omega), hxy.1, hxy.2]
          show fw (fwN d c) c a b = _
          unfold fw; rw [if_neg h]
        · unfold fwm
          by_cases h2 : (x < a ∨ (x = a ∧ y < b)) ∧ x < A 0 1 ∧ y < A 0 1
          · rw [if_pos h2, if_pos (by omega)]
          · rw [if_neg h2, if_neg (by omega)]
      rw [this]; rfl
  · intro n
    obtain ⟨m1, m2, m3⟩ := mv_ne hm (n := 144) (by omega) (rws g 8 (fwm d (A 0 1) c a (A 0 1)))
    show l_X13_lays_226 T (c : Int) (a : Int) k (n + 1) ((A 0 1 : Nat) : Int) _ = _
    rw [l_X13_lays_226, m1, Int.toNat_natCast]
    refine c_ite m2 (c_pos (by rw [m3.1.2.2.2.1]; exact Int.le_refl _) ?_)
    have : fwm d (A 0 1) c a (A 0 1) = fwm d (A 0 1) c (a + 1) 0 := by
      funext x y
      unfold fwm
      by_cases h2 : (x < a ∨ (x = a ∧ y < A 0 1)) ∧ x < A 0 1 ∧ y < A 0 1
      · rw [if_pos h2, if_pos (by omega)]
      · rw [if_neg h2, if_neg (by omega)]
    rw [this]
theorem h_fw211 (hA : WF A) (hm : MV T M w A) {g : Nat → Int} {d : Nat → Nat → Nat} (h0 : ∀ a, d a a = 0) (hF : ∀ a b, d a b ≤ 9999) (hout : ∀ a b, (A 0 1 ≤ a ∨ A 0 1 ≤ b) → a ≠ b → d a b = 9999) {c : Nat} (hc : c < A 0 1) (k : Int → aM → Option (Int × aM)) : l_X13_lays_211 T (c : Int) k FU 0 (setc M 144 (rws g 8 (fwN d c))) = k (A 0 1) (setc M 144 (rws g 8 (fwN d (c + 1)))) := by
  have hA8 := hA.1.2.1
  have e0 : fwN d c = fwm d (A 0 1) c 0 0 := by
    funext x y; unfold fwm; rw [if_neg (by omega)]
  have e1 : fwm d (A 0 1) c (A 0 1) 0 = fwN d (c + 1) := by
    funext x y; unfold fwm
    split
    · rfl
    · rename_i h
      rw [fwN_out hF hout c (by omega) x y (by omega), fwN_out hF hout (c + 1) (by omega) x y (by omega)]
  rw [e0, ← e1]
  refine for_until (fun i n => l_X13_lays_211 T (c : Int) k n (i : Int) (setc M 144 (rws g 8 (fwm d (A 0 1) c i 0)))) (A 0 1) ?_ ?_ (by omega)
  · intro a n ha
    obtain ⟨m1, m2, m3⟩ := mv_ne hm (n := 144) (by omega) (rws g 8 (fwm d (A 0 1) c a 0))
    show l_X13_lays_211 T (c : Int) k (n + 1) (a : Int) _ = l_X13_lays_211 T (c : Int) k n ((a + 1 : Nat) : Int) _
    rw [l_X13_lays_211, m1, Int.toNat_natCast]
    refine c_ite m2 (c_neg (by rw [m3.1.2.2.2.1]; omega) ?_)
    rw [h_fw226 hA hm h0 hF hc ha]
    exact c_ite (by omega) rfl
  · intro n
    obtain ⟨m1, m2, m3⟩ := mv_ne hm (n := 144) (by omega) (rws g 8 (fwm d (A 0 1) c (A 0 1) 0))
    show l_X13_lays_211 T (c : Int) k (n + 1) ((A 0 1 : Nat) : Int) _ = _
    rw [l_X13_lays_211, m1, Int.toNat_natCast]
    exact c_ite m2 (c_pos (by rw [m3.1.2.2.2.1]; exact Int.le_refl _) rfl)
theorem h_fw197 (hA : WF A) (hm : MV T M w A) {g : Nat → Int} {d : Nat → Nat → Nat} (h0 : ∀ a, d a a = 0) (hF : ∀ a b, d a b ≤ 9999) (hout : ∀ a b, (A 0 1 ≤ a ∨ A 0 1 ≤ b) → a ≠ b → d a b = 9999) (k : Int → aM → Option (Int × aM)) : l_X13_lays_197 T k FU 0 (setc M 144 (rws g 8 d)) = k (A 0 1) (setc M 144 (rws g 8 (fwN d (A 0 1)))) := by
  have hA8 := hA.1.2.1
  refine for_until (fun i n => l_X13_lays_197 T k n (i : Int) (setc M 144 (rws g 8 (fwN d i)))) (A 0 1) ?_ ?_ (by omega)
  · intro c n hc
    obtain ⟨m1, m2, m3⟩ := mv_ne hm (n := 144) (by omega) (rws g 8 (fwN d c))
    show l_X13_lays_197 T k (n + 1) (c : Int) _ = l_X13_lays_197 T k n ((c + 1 : Nat) : Int) _
    rw [l_X13_lays_197, m1, Int.toNat_natCast]
    refine c_ite m2 (c_neg (by rw [m3.1.2.2.2.1]; omega) ?_)
    rw [h_fw211 hA hm h0 hF hout hc]
    exact c_ite (by omega) rfl
  · intro n
    obtain ⟨m1, m2, m3⟩ := mv_ne hm (n := 144) (by omega) (rws g 8 (fwN d (A 0 1)))
    show l_X13_lays_197 T k (n + 1) ((A 0 1 : Nat) : Int) _ = _
    rw [l_X13_lays_197, m1, Int.toNat_natCast]
    exact c_ite m2 (c_pos (by rw [m3.1.2.2.2.1]; exact Int.le_refl _) rfl)
/-- the model's store, its square laid -/
def laysM (M : aM) (A : aA) (dr : Nat → Bool) : aM := setc (setc M 144 (rws (M 144) 8 (dst A dr))) 145 (ovr (M 145) 8 (nr A dr))
theorem laysM_ne {n : Nat} (h : n ≠ 144 ∧ n ≠ 145) : laysM M A dr n = M n := by
  unfold laysM; rw [setc_ne h.2, setc_ne h.1]
theorem laysM_LM : LM (laysM M A dr) A dr := by
  constructor
  · intro c hc
    unfold laysM
    rw [setc_at, ovr_at hc]
  · intro a b ha hb
    unfold laysM
    rw [setc_ne (by decide), setc_at, rws_at ha hb]
theorem h_lays (hA : WF A) (hm : MV T M w A) (hs : s < 2147483648) (u : Int) : f_X13_lays T (s : Int) u M = some (0, laysM M A (drw A s u)) := by
  unfold f_X13_lays
  rw [h_lays2, h_lays40, setc_ne (show (145 : Nat) ≠ 144 by decide), h_lays61 hA hm hs, setc_comm (show (144 : Nat) ≠ 145 by decide), h_fw197 (d := d0 A (drw A s u)) hA (mv_ne hm (by omega) _) (fun a => if_pos rfl) (d0_le hA) (d0_out hA), setc_comm (show (145 : Nat) ≠ 144 by decide)]
  rfl
/-- all worked on as it is -/
def worksM (M : aM) (A : aA) (dr : Nat → Bool) : aM := laysM (setc M 141 (fun b => if b < 12 then M 140 b else M 141 b)) A dr
theorem h_works (hA : WF A) (hm : MV T M w A) (hs : s < 2147483648) (h10 : M 140 10 = (s : Int)) : f_X13_works T M = some (0, worksM M A (dry s)) := by
  have e0 : setc M 141 (fun b => if b < 0 then M 140 b else M 141 b) = M := by
    have : (fun b => if b < 0 then M 140 b else M 141 b) = M 141 := funext fun b => if_neg (Nat.not_lt_zero b)
    rw [this, setc_self]
  unfold f_X13_works
  have h := for_until (fun i n => l_X13_works_2 T (fun w6 m7 => (f_X13_lays T (m7 140 10) (-1) m7).bind fun x9 => some (0, x9.2)) n (i : Int) (setc M 141 (fun b => if b < i then M 140 b else M 141 b))) (y := some (0, worksM M A (dry s))) 12 ?_ ?_ (by omega)
  · have h2 : l_X13_works_2 T (fun w6 m7 => (f_X13_lays T (m7 140 10) (-1) m7).bind fun x9 => some (0, x9.2)) FU ((0 : Nat) : Int) (setc M 141 (fun b => if b < 0 then M 140 b else M 141 b)) = _ := h
    rw [e0] at h2
    exact h2
  · intro i n hi
    show l_X13_works_2 T _ (n + 1) (i : Int) _ = l_X13_works_2 T _ n ((i + 1 : Nat) : Int) _
    rw [l_X13_works_2]
    refine c_neg (by omega) (c_ite (by omega) (c_some (c_ite (by omega) ?_)))
    rw [Int.toNat_natCast, aup_setc, setc_ne (by decide)]
    have : (fun b => if b = i then M 140 i else if b < i then M 140 b else M 141 b) = (fun b => if b < i + 1 then M 140 b else M 141 b) := by
      funext b
      by_cases hb : b = i
      · rw [if_pos hb, if_pos (by omega), hb]
      · rw [if_neg hb]
        by_cases h2 : b < i
        · rw [if_pos h2, if_pos (by omega)]
        · rw [if_neg h2, if_neg (by omega)]
    rw [this]; rfl
  · intro n
    show l_X13_works_2 T _ (n + 1) ((12 : Nat) : Int) _ = _
    rw [l_X13_works_2]
    refine c_pos (by omega) ?_
    rw [setc_ne (by decide), h10]
    refine c_bind (h_lays hA (mv_ne hm (by omega) _) hs (-1)) ?_
    rw [drw_none]; rfl
theorem worksM_ne {n : Nat} (h : n ≠ 144 ∧ n ≠ 145 ∧ n ≠ 141) : worksM M A dr n = M n := by
  unfold worksM; rw [laysM_ne ⟨h.1, h.2.1⟩, setc_ne h.2.2]
theorem worksM_LM : LM (worksM M A dr) A dr := laysM_LM
theorem worksM_x {k : Nat} (hk : k < 12) : worksM M A dr 141 k = M 140 k := by
  unfold worksM; rw [laysM_ne (by decide), setc_at, if_pos hk]
theorem mv_laysM (hm : MV T M w A) : MV T (laysM M A dr) w A := mv_ne (mv_ne hm (by omega) _) (by omega) _
theorem mv_worksM (hm : MV T M w A) : MV T (worksM M A dr) w A := mv_laysM (mv_ne hm (by omega) _)
end Fwl

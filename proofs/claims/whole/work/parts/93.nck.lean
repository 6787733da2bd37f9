/-! ===== neck ===== -/
section Nck
variable {A : aA} {S : Nat → Int} {T e w : Nat} {M M0 : aM} {dr : Nat → Bool}
theorem cntp_dif {p q : Nat → Bool} : ∀ n, (∀ x, x < n → q x = true → p x = true) → cntp p n = cntp q n + cntp (fun x => p x && !q x) n
  | 0, _ => rfl
  | n + 1, h => by
    have ih := cntp_dif n (fun x hx => h x (by omega))
    have h3 := h n (by omega)
    show cntp p n + (if p n = true then 1 else 0) = cntp q n + (if q n = true then 1 else 0) + (cntp (fun x => p x && !q x) n + (if (p n && !q n) = true then 1 else 0))
    have h4 : (if p n = true then 1 else 0) = (if q n = true then 1 else 0) + (if (p n && !q n) = true then 1 else 0) := by
      revert h3
      cases p n <;> cases q n <;> decide
    rw [h4]; omega
theorem smD_cong {f h : Nat → Nat} : ∀ n, (∀ a, a < n → f a = h a) → smD f n = smD h n
  | 0, _ => rfl
  | n + 1, e => by
    show smD f n + f n = smD h n + h n
    rw [smD_cong n (fun a ha => e a (by omega)), e n (by omega)]
theorem smD_add {f h : Nat → Nat} : ∀ n, smD (fun a => f a + h a) n = smD f n + smD h n
  | 0 => rfl
  | n + 1 => by
    show smD (fun a => f a + h a) n + (f n + h n) = smD f n + f n + (smD h n + h n)
    rw [smD_add n]; omega
theorem smD_cnt {p : Nat → Bool} : ∀ n, smD (fun a => if p a = true then 1 else 0) n = cntp p n
  | 0 => rfl
  | n + 1 => by
    show smD (fun a => if p a = true then 1 else 0) n + (if p n = true then 1 else 0) = cntp p n + (if p n = true then 1 else 0)
    rw [smD_cnt n]
/-- pairs told twice -/
theorem smD_sym {p : Nat → Nat → Bool} (hs : ∀ a b, p a b = p b a) (h0 : ∀ a, p a a = false) : ∀ n, smD (fun a => cntp (p a) n) n = 2 * smD (fun a => cntp (p a) a) n
  | 0 => rfl
  | n + 1 => by
    show smD (fun a => cntp (p a) n + (if p a n = true then 1 else 0)) n + (cntp (p n) n + (if p n n = true then 1 else 0)) = 2 * (smD (fun a => cntp (p a) a) n + cntp (p n) n)
    have ih := smD_sym hs h0 n
    have h1 : smD (fun a => cntp (p a) n + (if p a n = true then 1 else 0)) n = smD (fun a => cntp (p a) n) n + cntp (p n) n := by
      rw [smD_add (f := fun a => cntp (p a) n) (h := fun a => if p a n = true then 1 else 0), smD_cnt, cntp_cong (p := fun a => p a n) (q := p n) (fun a _ => hs a n)]
    rw [h1, ih, h0 n, if_neg (by decide)]
    omega
/-- ways of one cave gone -/
theorem adj_drw (hA : WF A) {s u : Nat} (y x : Nat) : adj A (drw A s (u : Int)) y x = (adj A (dry s) y x && (!decide (y = u) && !decide (x = u))) := by
  unfold adj
  by_cases h : wy A y x < A 0 2
  · rw [decide_eq_true h, Bool.true_and, Bool.true_and]
    unfold drw
    have hj := wy_jn h
    have e : (!decide ((A 2 (wy A y x) : Int) = (u : Int)) && !decide ((A 3 (wy A y x) : Int) = (u : Int))) = (!decide (y = u) && !decide (x = u)) := by
      rcases hj with ⟨e1, e2⟩ | ⟨e1, e2⟩
      · rw [e1, e2]
        have q1 : decide ((y : Int) = (u : Int)) = decide (y = u) := by rw [decide_eq_decide]; omega
        have q2 : decide ((x : Int) = (u : Int)) = decide (x = u) := by rw [decide_eq_decide]; omega
        rw [q1, q2]
      · rw [e1, e2]
        have q1 : decide ((y : Int) = (u : Int)) = decide (y = u) := by rw [decide_eq_decide]; omega
        have q2 : decide ((x : Int) = (u : Int)) = decide (x = u) := by rw [decide_eq_decide]; omega
        rw [q1, q2, Bool.and_comm]
    rw [e]
  · rw [decide_eq_false h, Bool.false_and, Bool.false_and, Bool.false_and]
theorem stg_gb (hA : WF A) {s u c : Nat} (hc : c ≠ u) : ∀ i x, stg (gb A (dry s) (2 ^ u)) c i x = stg (adj A (drw A s (u : Int))) c i x ∧ (stg (adj A (drw A s (u : Int))) c i x = true → x ≠ u)
  | 0, x => ⟨rfl, fun h => by rw [of_decide_eq_true h]; exact hc⟩
  | i + 1, x => by
    have ih := stg_gb hA (s := s) hc i
    constructor
    · refine bool_ext ?_
      rw [stg_iff, stg_iff]
      refine or_congr (by rw [(ih x).1]) ?_
      constructor
      · rintro ⟨y, hy, h1, h2⟩
        rw [(ih y).1] at h1
        have h3 := (ih y).2 h1
        refine ⟨y, hy, h1, ?_⟩
        unfold gb at h2
        rw [Bool.and_eq_true] at h2
        have hxu : x ≠ u := by
          rintro rfl
          rw [Nat.testBit_two_pow_self] at h2
          exact absurd h2.2 (by decide)
        rw [adj_drw hA, h2.1, decide_eq_false h3, decide_eq_false hxu]; rfl
      · rintro ⟨y, hy, h1, h2⟩
        rw [← (ih y).1] at h1
        refine ⟨y, hy, h1, ?_⟩
        rw [adj_drw hA, Bool.and_eq_true, Bool.and_eq_true] at h2
        have hxu : x ≠ u := by
          rintro rfl
          have := h2.2.2
          rw [decide_eq_true rfl] at this
          exact absurd this (by decide)
        unfold gb
        rw [h2.1, Nat.testBit_two_pow_of_ne (fun e => hxu e.symm)]; rfl
    · intro h
      rcases (stg_iff i x).mp h with h | ⟨y, hy, h1, h2⟩
      · exact (ih x).2 h
      · rw [adj_drw hA, Bool.and_eq_true, Bool.and_eq_true] at h2
        rintro rfl
        have := h2.2.2
        rw [decide_eq_true rfl] at this
        exact absurd this (by decide)
theorem stg_mono {g h : Nat → Nat → Bool} (hgh : ∀ y x, g y x = true → h y x = true) {c : Nat} : ∀ i x, stg g c i x = true → stg h c i x = true
  | 0, x, e => e
  | i + 1, x, e => by
    rcases (stg_iff i x).mp e with e | ⟨y, hy, h1, h2⟩
    · exact (stg_iff i x).mpr (Or.inl (stg_mono hgh i x e))
    · exact (stg_iff i x).mpr (Or.inr ⟨y, hy, stg_mono hgh i y h1, hgh y x h2⟩)
theorem cnn_drw (hA : WF A) {s u c x : Nat} (hc : c < A 0 1) (h : cnn A (drw A s (u : Int)) c x = true) : cnn A (dry s) c x = true := by
  have h8 := hA.1.2.1
  have hx := cnn_lt hA hc h
  rw [← stg_eq hA hc x (by omega)] at h ⊢
  refine stg_mono (fun y x e => ?_) 8 x h
  rw [adj_drw hA, Bool.and_eq_true] at e
  exact e.1
/-- pairs lost with a cave -/
def lsp (A : aA) (s u a b : Nat) : Bool := (!decide (a = u) && !decide (b = u)) && (cnn A (dry s) a b && !cnn A (drw A s (u : Int)) a b)
def los (A : aA) (s u : Nat) : Nat := smD (fun a => cntp (lsp A s u a) a) (A 0 1)
theorem smD_le {f : Nat → Nat} {B : Nat} : ∀ n, (∀ a, a < n → f a ≤ B) → smD f n ≤ n * B
  | 0, _ => Nat.zero_le _
  | n + 1, h => by
    have ih := smD_le n (fun a ha => h a (by omega))
    have := h n (by omega)
    show smD f n + f n ≤ (n + 1) * B
    rw [Nat.succ_mul]; omega
theorem los_sym (hA : WF A) (s u : Nat) : smD (fun a => cntp (lsp A s u a) (A 0 1)) (A 0 1) = 2 * los A s u := by
  refine smD_sym (fun a b => ?_) (fun a => ?_) _
  · unfold lsp
    rw [cnn_symm hA a b, cnn_symm (dr := drw A s (u : Int)) hA a b, Bool.and_comm (!decide (a = u))]
  · unfold lsp
    have : cnn A (drw A s (u : Int)) a a = true := by unfold cnn; rw [dst_self hA]; rfl
    rw [this]
    cases cnn A (dry s) a a <;> cases (!decide (a = u)) <;> rfl
theorem cntp_ext {p q : Nat → Bool} {n m : Nat} (hnm : n ≤ m) (h : ∀ x, x < n → p x = q x) (h2 : ∀ x, n ≤ x → x < m → p x = false) : cntp p m = cntp q n := by
  have h1 := cntp_add p n (m - n)
  rw [show n + (m - n) = m by omega] at h1
  rw [h1, cntp_cong h]
  have : cntp (fun i => p (n + i)) (m - n) = 0 := by
    have : ∀ j, j ≤ m - n → cntp (fun i => p (n + i)) j = 0 := by
      intro j
      induction j with
      | zero => intro _; rfl
      | succ j ih =>
        intro hj
        show cntp (fun i => p (n + i)) j + (if p (n + j) = true then 1 else 0) = 0
        rw [ih (by omega), h2 (n + j) (by omega) (by omega)]; rfl
    exact this _ (Nat.le_refl _)
  omega
theorem h_loss (hA : WF A) {s : Nat} (hC : CT M A) (hL : LD M e A (dry s)) {u : Nat} (hu : u < A 0 1) : f_X5_lossWithout T e (u : Int) M = some ((2 * los A s u : Nat) : Int) := by
  have h8 := hA.1.2.1
  have h2u : (2 : Nat) ^ u < 2147483648 := Nat.pow_lt_pow_right (a := 2) (n := 31) (by decide) (by omega)
  unfold f_X5_lossWithout
  rw [ashl_one u (by omega), ← los_sym hA s u]
  have hbd : ∀ i, i ≤ A 0 1 → smD (fun a => cntp (lsp A s u a) (A 0 1)) i ≤ 64 := by
    intro i hi
    have h1 := smD_le (f := fun a => cntp (lsp A s u a) (A 0 1)) (B := A 0 1) i (fun a _ => cntp_le _ _)
    have h2 : i * A 0 1 ≤ 8 * 8 := Nat.mul_le_mul (by omega) h8
    omega
  refine for_until (fun i n => l_X5_lossWithout_9 T e (u : Int) ((2 ^ u : Nat) : Int) M (fun w12 w13 => some w12) n ((smD (fun a => cntp (lsp A s u a) (A 0 1)) i : Nat) : Int) (i : Int)) (A 0 1) (fun i n hi => ?_) (fun n => ?_) (by omega)
  · show l_X5_lossWithout_9 T e (u : Int) ((2 ^ u : Nat) : Int) M _ (n + 1) _ (i : Int) = l_X5_lossWithout_9 T e (u : Int) ((2 ^ u : Nat) : Int) M _ n ((smD (fun a => cntp (lsp A s u a) (A 0 1)) i + cntp (lsp A s u i) (A 0 1) : Nat) : Int) ((i + 1 : Nat) : Int)
    rw [l_X5_lossWithout_9]
    refine c_neg (by rw [hC.1 1 (by decide)]; omega) ?_
    have hb1 := hbd i (by omega)
    by_cases hiu : i = u
    · refine c_pos (by omega) (c_ite (by omega) ?_)
      have : cntp (lsp A s u i) (A 0 1) = 0 := by
        rw [cntp_ext (q := fun _ => false) (Nat.zero_le _) (fun x hx => absurd hx (Nat.not_lt_zero x)) (fun x _ _ => by unfold lsp; rw [decide_eq_true hiu]; rfl)]; rfl
      rw [this]; rfl
    · refine c_neg (by omega) (c_bind (h_joined0 hA hC hL hi) (c_bind (h_joinedTo hA hC hL hi h2u) ?_))
      have e1 : msk (stg (gb A (dry s) (2 ^ u)) i 8) 8 = msk (cnn A (drw A s (u : Int)) i) 8 := msk_cong fun x hx => by rw [(stg_gb hA hiu 8 x).1, stg_eq hA hi x hx]
      rw [e1, aandn (msk_lt31 _ (by decide)), aandn (ndf_lt (msk_lt31 _ (by decide)))]
      have hbit : ∀ x, (ndf (ndf (msk (cnn A (dry s) i) 8) (2 ^ u)) (msk (cnn A (drw A s (u : Int)) i) 8)).testBit x = (decide (x < 8) && lsp A s u i x) := by
        intro x
        rw [ndf_bit, ndf_bit, msk_bit, msk_bit]
        by_cases hx : x < 8
        · rw [decide_eq_true hx, Bool.true_and, Bool.true_and, Bool.true_and]
          unfold lsp
          rw [decide_eq_false hiu]
          by_cases hxu : x = u
          · rw [hxu, Nat.testBit_two_pow_self, decide_eq_true rfl]
            cases cnn A (dry s) i u <;> rfl
          · rw [Nat.testBit_two_pow_of_ne (fun e => hxu e.symm), decide_eq_false hxu]
            cases cnn A (dry s) i x <;> rfl
        · rw [decide_eq_false hx, Bool.false_and, Bool.false_and, Bool.false_and, Bool.false_and]
      have hlt : ndf (ndf (msk (cnn A (dry s) i) 8) (2 ^ u)) (msk (cnn A (drw A s (u : Int)) i) 8) < 65536 := by
        have h1 : ndf (ndf (msk (cnn A (dry s) i) 8) (2 ^ u)) (msk (cnn A (drw A s (u : Int)) i) 8) = msk (lsp A s u i) 8 := msk_eq hbit
        rw [h1]
        exact Nat.lt_trans (msk_lt _ 8) (by decide)
      refine c_bind (h_bitCount hlt) ?_
      have hcnt : cntp (ndf (ndf (msk (cnn A (dry s) i) 8) (2 ^ u)) (msk (cnn A (drw A s (u : Int)) i) 8)).testBit 16 = cntp (lsp A s u i) (A 0 1) := by
        refine cntp_ext (by omega) (fun x hx => ?_) (fun x h1 h2 => ?_)
        · rw [hbit, decide_eq_true (by omega), Bool.true_and]
        · rw [hbit]
          unfold lsp
          cases hq : cnn A (dry s) i x
          · rw [Bool.false_and, Bool.and_false, Bool.and_false]
          · have := cnn_lt hA hi hq; omega
      have hb2 := cntp_le (lsp A s u i) (A 0 1)
      rw [hcnt]
      refine c_ite (by omega) (c_ite (by omega) ?_)
      rfl
  · show l_X5_lossWithout_9 T e (u : Int) ((2 ^ u : Nat) : Int) M _ (n + 1) _ ((A 0 1 : Nat) : Int) = _
    rw [l_X5_lossWithout_9]
    exact c_pos (by rw [hC.1 1 (by decide)]; exact Int.le_refl _) rfl
/-- the worst cave to lose -/
def nck (A : aA) (s : Nat) : Nat → Int × Nat
  | 0 => (-2, 0)
  | i + 1 => if (nck A s i).2 < los A s i then ((i : Int), los A s i) else nck A s i
theorem h_worst (hA : WF A) {s : Nat} (hC : CT M A) (hL : LD M e A (dry s)) : f_X5_worstLoss T e M = some (nck A s (A 0 1)).1 := by
  have h8 := hA.1.2.1
  unfold f_X5_worstLoss
  refine for_until (fun i n => l_X5_worstLoss_7 T e M (fun w7 w8 w9 => some w7) n (nck A s i).1 ((2 * (nck A s i).2 : Nat) : Int) (i : Int)) (A 0 1) (fun i n hi => ?_) (fun n => ?_) (by omega)
  · show l_X5_worstLoss_7 T e M _ (n + 1) _ _ (i : Int) = l_X5_worstLoss_7 T e M _ n (if (nck A s i).2 < los A s i then ((i : Int), los A s i) else nck A s i).1 ((2 * (if (nck A s i).2 < los A s i then ((i : Int), los A s i) else nck A s i).2 : Nat) : Int) ((i + 1 : Nat) : Int)
    rw [l_X5_worstLoss_7]
    refine c_neg (by rw [hC.1 1 (by decide)]; omega) (c_bind (h_loss hA hC hL hi) ?_)
    by_cases hl : (nck A s i).2 < los A s i
    · rw [if_pos hl]
      exact c_neg (by omega) (c_ite (by omega) rfl)
    · rw [if_neg hl]
      exact c_pos (by omega) (c_ite (by omega) rfl)
  · show l_X5_worstLoss_7 T e M _ (n + 1) _ _ ((A 0 1 : Nat) : Int) = _
    rw [l_X5_worstLoss_7]
    exact c_pos (by rw [hC.1 1 (by decide)]; exact Int.le_refl _) rfl
def sp_neck (A : aA) (S : Nat → Int) : Int × Int := gd (0 < A 0 0) (nck A (sW S) (A 0 1)).1 1
theorem c_neck (h : CQ M A S) : opC (f_X11_neck T M) M (sp_neck A S) := by
  unfold f_X11_neck sp_neck
  refine oC_well h.2.2.1 (fun hn => ?_) (fun hp => ?_)
  · rw [gd_neg hn]; exact oC_ref
  · rw [gd_pos hp]; exact oC_bind (h_worst h.1 h.2.2.1 h.2.2.2.2.1) (oC_al (sC.refl M))
/-- pairs without a cave, as the model counts them -/
def pwp (A : aA) (dr : Nat → Bool) (u a b : Nat) : Bool := (!decide (a = u) && !decide (b = u)) && cnn A dr a b
def pws (A : aA) (dr : Nat → Bool) (u : Nat) : Nat := smD (fun a => cntp (pwp A dr u a) a) (A 0 1)
theorem pws_le (hA : WF A) (u : Nat) : pws A dr u ≤ 64 := by
  have h8 := hA.1.2.1
  have h1 := smD_le (f := fun a => cntp (pwp A dr u a) a) (B := 8) (A 0 1) (fun a ha => by have := cntp_le (pwp A dr u a) a; omega)
  have h2 : A 0 1 * 8 ≤ 8 * 8 := Nat.mul_le_mul h8 (Nat.le_refl _)
  unfold pws
  omega
theorem pws_los (hA : WF A) (s u : Nat) : pws A (dry s) u = pws A (drw A s (u : Int)) u + los A s u := by
  unfold pws los
  rw [← smD_add (f := fun a => cntp (pwp A (drw A s (u : Int)) u a) a) (h := fun a => cntp (lsp A s u a) a)]
  refine smD_cong _ fun a ha => ?_
  show cntp (pwp A (dry s) u a) a = cntp (pwp A (drw A s (u : Int)) u a) a + cntp (lsp A s u a) a
  rw [cntp_dif (p := pwp A (dry s) u a) (q := pwp A (drw A s (u : Int)) u a) a (fun x _ hx => by
    unfold pwp at hx ⊢
    rw [Bool.and_eq_true] at hx
    rw [hx.1, cnn_drw hA ha hx.2]; rfl)]
  congr 1
  refine cntp_cong fun x hx => ?_
  unfold pwp lsp
  cases (!decide (a = u) && !decide (x = u)) <;> cases cnn A (dry s) a x <;> cases cnn A (drw A s (u : Int)) a x <;> rfl
theorem g_pairs (hA : WF A) (hm : MV T M w A) (hL : LM M A dr) {u : Nat} : f_X13_pairsWithout T (u : Int) M = some ((pws A dr u : Nat) : Int) := by
  have h8 := hA.1.2.1
  unfold f_X13_pairsWithout pws
  have hbd : ∀ i, i ≤ A 0 1 → smD (fun a => cntp (pwp A dr u a) a) i ≤ 64 := by
    intro i hi
    have h1 := smD_le (f := fun a => cntp (pwp A dr u a) a) (B := 8) i (fun a ha => by have := cntp_le (pwp A dr u a) a; omega)
    have h2 : i * 8 ≤ 8 * 8 := Nat.mul_le_mul (by omega) (Nat.le_refl _)
    omega
  refine for_until (fun i n => l_X13_pairsWithout_4 T (u : Int) M (fun w18 w19 => some w18) n ((smD (fun a => cntp (pwp A dr u a) a) i : Nat) : Int) (i : Int)) (A 0 1) (fun i n hi => ?_) (fun n => ?_) (by omega)
  · show l_X13_pairsWithout_4 T (u : Int) M _ (n + 1) _ (i : Int) = l_X13_pairsWithout_4 T (u : Int) M _ n ((smD (fun a => cntp (pwp A dr u a) a) i + cntp (pwp A dr u i) i : Nat) : Int) ((i + 1 : Nat) : Int)
    rw [l_X13_pairsWithout_4, hm.1, Int.toNat_natCast, hm.2.2.1.2.2.2.1]
    refine c_ite hm.2.1 (c_neg (by omega) ?_)
    have hb1 := hbd i (by omega)
    generalize smD (fun a => cntp (pwp A dr u a) a) i = q at hb1 ⊢
    refine for_until (fun b m => l_X13_pairsWithout_18 T (u : Int) (i : Int) M (fun w14 w15 => if aIn ((i : Int) + 1) then l_X13_pairsWithout_4 T (u : Int) M (fun w18 w19 => some w18) n w14 ((i : Int) + 1) else none) m ((q + cntp (pwp A dr u i) b : Nat) : Int) (b : Int)) i (fun b m hb => ?_) (fun m => ?_) (by omega)
    · show l_X13_pairsWithout_18 T (u : Int) (i : Int) M _ (m + 1) _ (b : Int) = l_X13_pairsWithout_18 T (u : Int) (i : Int) M _ m ((q + (cntp (pwp A dr u i) b + (if pwp A dr u i b = true then 1 else 0)) : Nat) : Int) ((b + 1 : Nat) : Int)
      rw [l_X13_pairsWithout_18]
      have hb2 := cntp_le (pwp A dr u i) b
      refine c_neg (by omega) ?_
      by_cases h1 : i = u
      · have : pwp A dr u i b = false := by unfold pwp; rw [decide_eq_true h1]; rfl
        rw [this]
        exact c_pos (by omega) (c_ite (by omega) rfl)
      · refine c_neg (by omega) ?_
        by_cases h2 : b = u
        · have : pwp A dr u i b = false := by unfold pwp; rw [decide_eq_true h2, Bool.and_comm (!decide (i = u))]; rfl
          rw [this]
          exact c_pos (by omega) (c_ite (by omega) rfl)
        · refine c_neg (by omega) (c_bind (g_apart hL (by omega) (by omega)) ?_)
          have hp : pwp A dr u i b = cnn A dr i b := by unfold pwp; rw [decide_eq_false h1, decide_eq_false h2]; rfl
          rw [hp]
          unfold cnn
          by_cases h3 : dst A dr i b < 9999
          · rw [decide_eq_true h3, if_pos rfl]
            refine c_neg (by omega) (c_ite (by omega) (c_ite (by omega) ?_))
            rfl
          · rw [decide_eq_false h3, if_neg (show ¬ (false = true) by decide)]
            exact c_pos (by omega) (c_ite (by omega) rfl)
    · show l_X13_pairsWithout_18 T (u : Int) (i : Int) M _ (m + 1) _ (i : Int) = _
      rw [l_X13_pairsWithout_18]
      exact c_pos (Int.le_refl _) (c_ite (by omega) rfl)
  · show l_X13_pairsWithout_4 T (u : Int) M _ (n + 1) _ ((A 0 1 : Nat) : Int) = _
    rw [l_X13_pairsWithout_4, hm.1, Int.toNat_natCast, hm.2.2.1.2.2.2.1]
    exact c_ite hm.2.1 (c_pos (Int.le_refl _) rfl)
theorem m_neck (h : MD T M A S) : opM (f_X13_neck T M) M (sp_neck A S) := by
  have hA := h.1
  have h8 := hA.1.2.1
  unfold f_X13_neck sp_neck
  refine oM_bind rfl ?_
  have h1 : sM M (aup M 138 0 0) := sM_fl (by omega)
  have hm1 := h.of h1
  refine oM_well hm1 (fun hn => ?_) (fun hp => ?_)
  · rw [gd_neg hn]; exact oM_ref h1
  · rw [gd_pos hp]
    obtain ⟨w, hw⟩ := hm1.has (by omega)
    generalize aup M 138 0 0 = M1 at h1 hm1 hw ⊢
    have hS := hm1.2.1
    have hlt := WS.lt hA hS
    have h10 : M1 140 10 = ((sW S : Nat) : Int) := by rw [hm1.2.2.2 10 (by decide)]; exact (WS.s10 hA hS).2.2
    have keyI := for_inv (fun n i (Z : aM) => l_X13_neck_25 T (fun w22 w23 w24 m27 => (f_X13_good T w22 m27).bind fun x29 => some (x29.1, x29.2)) n (nck A (sW S) i).1 ((nck A (sW S) i).2 : Int) (i : Int) Z) (fun _ Z => sM M Z ∧ MV T Z w A ∧ Z 140 10 = ((sW S : Nat) : Int)) (A 0 1) (fun i n Z hi hZ => ?_) (by omega) M1 ⟨h1, hw, h10⟩
    · obtain ⟨Z, ⟨z1, z2, z3⟩, n, hz⟩ := keyI
      have e0 : l_X13_neck_25 T (fun w22 w23 w24 m27 => (f_X13_good T w22 m27).bind fun x29 => some (x29.1, x29.2)) FU (-2) 0 0 M1 = l_X13_neck_25 T (fun w22 w23 w24 m27 => (f_X13_good T w22 m27).bind fun x29 => some (x29.1, x29.2)) (n + 1) (nck A (sW S) (A 0 1)).1 ((nck A (sW S) (A 0 1)).2 : Int) ((A 0 1 : Nat) : Int) Z := hz
      rw [e0, l_X13_neck_25, z2.1, Int.toNat_natCast, z2.2.2.1.2.2.2.1]
      exact oM_pos z2.2.1 (oM_pos (Int.le_refl _) (oM_good z1))
    · obtain ⟨z1, z2, z3⟩ := hZ
      have hl1 := h_lays hA z2 hlt (-1)
      rw [drw_none] at hl1
      have v1 : MV T (laysM Z A (dry (sW S))) w A := mv_laysM z2
      have hl2 := h_lays hA v1 hlt (i : Int)
      have v2 : MV T (laysM (laysM Z A (dry (sW S))) A (drw A (sW S) (i : Int))) w A := mv_laysM v1
      have c1 : laysM Z A (dry (sW S)) 140 10 = ((sW S : Nat) : Int) := by rw [laysM_ne (by decide)]; exact z3
      refine ⟨laysM (laysM Z A (dry (sW S))) A (drw A (sW S) (i : Int)), ⟨(z1.trans sM_lays).trans sM_lays, v2, by rw [laysM_ne (by decide)]; exact c1⟩, ?_⟩
      show l_X13_neck_25 T _ (n + 1) _ _ (i : Int) Z = l_X13_neck_25 T _ n (if (nck A (sW S) i).2 < los A (sW S) i then ((i : Int), los A (sW S) i) else nck A (sW S) i).1 (((if (nck A (sW S) i).2 < los A (sW S) i then ((i : Int), los A (sW S) i) else nck A (sW S) i).2 : Nat) : Int) ((i + 1 : Nat) : Int) _
      rw [l_X13_neck_25, z2.1, Int.toNat_natCast, z2.2.2.1.2.2.2.1, z3]
      refine c_ite z2.2.1 (c_neg (by omega) (c_bind hl1 (c_bind (g_pairs hA v1 laysM_LM) ?_)))
      show (f_X13_lays T (laysM Z A (dry (sW S)) 140 10) (i : Int) (laysM Z A (dry (sW S)))).bind _ = _
      rw [c1]
      refine c_bind hl2 (c_bind (g_pairs hA v2 laysM_LM) ?_)
      have p1 := pws_los hA (sW S) i
      have p2 := pws_le (dr := dry (sW S)) hA i
      have p3 : ((pws A (dry (sW S)) i : Nat) : Int) - ((pws A (drw A (sW S) (i : Int)) i : Nat) : Int) = ((los A (sW S) i : Nat) : Int) := by omega
      rw [p3]
      refine c_ite (by omega) ?_
      by_cases hl : (nck A (sW S) i).2 < los A (sW S) i
      · rw [if_pos hl]
        exact c_pos (by omega) (c_ite (by omega) rfl)
      · rw [if_neg hl]
        exact c_neg (by omega) (c_ite (by omega) rfl)
end Nck

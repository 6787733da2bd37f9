/-! ===== parts, neck ===== -/
section Prt
variable {A : aA} {S : Nat → Int} {T e w : Nat} {M M0 : aM} {dr : Nat → Bool}
/-- one step that touches no barred cave -/
def gb (A : aA) (dr : Nat → Bool) (B : Nat) (y x : Nat) : Bool := adj A dr y x && !B.testBit x
theorem h_joinedTo (hA : WF A) (hC : CT M A) (hL : LD M e A dr) {c B : Nat} (hc : c < A 0 1) (hB : B < 2147483648) : f_X5_joinedTo T e (c : Int) (B : Int) M = some ((msk (stg (gb A dr B) c 8) 8 : Nat) : Int) := by
  have h8 := hA.1.2.1
  unfold f_X5_joinedTo
  rw [ashl_one c (by omega)]
  have hlt : ∀ p : Nat → Bool, msk p 8 < 256 := fun p => msk_lt p 8
  refine turns_loop (g := gb A dr B) (c := c) (fun n a b i => l_X5_joinedTo_10 T e (B : Int) M (fun w15 w16 w17 => some w15) n a b i) (fun a => some a) (by omega) (fun n a b => ?_) (fun n a i hi => ?_) (fun n i hi hne => ?_)
  · show l_X5_joinedTo_10 T e (B : Int) M _ (n + 1) a b 8 = _
    rw [l_X5_joinedTo_10]
    exact c_pos (by decide) rfl
  · show l_X5_joinedTo_10 T e (B : Int) M _ (n + 1) a a (i : Int) = _
    rw [l_X5_joinedTo_10]
    exact c_neg (by omega) (c_pos rfl rfl)
  · show l_X5_joinedTo_10 T e (B : Int) M _ (n + 1) _ _ (i : Int) = l_X5_joinedTo_10 T e (B : Int) M _ n _ _ ((i : Int) + 1)
    rw [l_X5_joinedTo_10]
    refine c_neg (by omega) (c_neg (fun he => hne (by omega)) ?_)
    have hf := hlt (stg (gb A dr B) c i)
    have hk := hlt (lk (gb A dr B) c i)
    have hG : ∀ y x, y < A 0 1 → (ndf (nr A dr y) B).testBit x = (decide (x < 8) && gb A dr B y x) := by
      intro y x hy
      unfold gb
      rw [ndf_bit, nr_bit hA]
      by_cases hx : x < 8
      · rw [decide_eq_true hx, Bool.true_and]
      · rw [decide_eq_false hx, Bool.false_and]
        cases ha : adj A dr y x
        · rfl
        · have := adj_lt hA ha; omega
    have hGl : ∀ y, y < A 0 1 → ndf (nr A dr y) B < 256 := fun y _ => Nat.xor_lt_two_pow (n := 8) (nr_lt A dr y) (Nat.lt_of_le_of_lt Nat.and_le_left (nr_lt A dr y))
    have hg : ∀ y x, gb A dr B y x = true → y < A 0 1 := by
      intro y x h
      unfold gb at h
      rw [Bool.and_eq_true] at h
      exact (adj_lt hA h.1).1
    refine uni_loop (fun m a x => l_X5_joinedTo_29 T e (B : Int) ((msk (lk (gb A dr B) c i) 8 : Nat) : Int) (i : Int) ((msk (stg (gb A dr B) c i) 8 : Nat) : Int) M (fun w10 w11 => if aIn ((i : Int) + 1) then l_X5_joinedTo_10 T e (B : Int) M (fun w15 w16 w17 => some w15) n w10 ((msk (stg (gb A dr B) c i) 8 : Nat) : Int) ((i : Int) + 1) else none) m a x) (A 0 1) (msk (stg (gb A dr B) c i) 8) (fun y => stg (gb A dr B) c i y && !lk (gb A dr B) c i y) (fun y => ndf (nr A dr y) B) h8 hf hGl (fun x m hx => ?_) (fun m => ?_)
    · show l_X5_joinedTo_29 T e (B : Int) ((msk (lk (gb A dr B) c i) 8 : Nat) : Int) (i : Int) ((msk (stg (gb A dr B) c i) 8 : Nat) : Int) M _ (m + 1) _ (x : Int) = l_X5_joinedTo_29 T e (B : Int) ((msk (lk (gb A dr B) c i) 8 : Nat) : Int) (i : Int) ((msk (stg (gb A dr B) c i) 8 : Nat) : Int) M _ m _ ((x : Int) + 1)
      rw [l_X5_joinedTo_29, aandn (by omega)]
      refine c_neg (by rw [hC.1 1 (by decide)]; omega) (c_bind (h_hasBit (ndf_lt (by omega)) (by omega)) ?_)
      have hb : (ndf (msk (stg (gb A dr B) c i) 8) (msk (lk (gb A dr B) c i) 8)).testBit x = (stg (gb A dr B) c i x && !lk (gb A dr B) c i x) := by
        rw [ndf_bit, msk_bit, msk_bit, decide_eq_true (show x < 8 by omega), Bool.true_and, Bool.true_and]
      rw [hb]
      cases hq : (stg (gb A dr B) c i x && !lk (gb A dr B) c i x)
      · exact c_pos rfl (c_ite (by omega) rfl)
      · refine c_neg (by decide) (c_ite (by omega) (c_ite (by omega) ?_))
        rw [Int.toNat_natCast, hL.1 x (by omega), aandn (Nat.lt_trans (nr_lt A dr x) (by decide))]
        rfl
    · show l_X5_joinedTo_29 T e (B : Int) ((msk (lk (gb A dr B) c i) 8 : Nat) : Int) (i : Int) ((msk (stg (gb A dr B) c i) 8 : Nat) : Int) M _ (m + 1) _ ((A 0 1 : Nat) : Int) = _
      rw [l_X5_joinedTo_29, turn_eq h8 hg hG]
      exact c_pos (by rw [hC.1 1 (by decide)]; exact Int.le_refl _) (c_ite (by omega) rfl)
/-- joined by dry ways -/
def cnn (A : aA) (dr : Nat → Bool) (a b : Nat) : Bool := decide (dst A dr a b < 9999)
theorem stg_cnn (hA : WF A) {c : Nat} (hc : c < A 0 1) (i : Nat) : ∀ x, stg (adj A dr) c i x = true → cnn A dr c x = true := by
  have hQ := dst_isQ hA dr c
  unfold cnn
  induction i with
  | zero =>
    intro x h
    rw [of_decide_eq_true h, dst_self hA]; rfl
  | succ i ih =>
    intro x h
    rcases (stg_iff i x).mp h with h | ⟨y, hy, h1, h2⟩
    · exact ih x h
    · have h3 := of_decide_eq_true (ih y h1)
      have h4 := dst_140 hA hc h3
      have h5 : wy A y x < A 0 2 ∧ dr (wy A y x) = true := by
        unfold adj at h2
        rw [Bool.and_eq_true, decide_eq_true_eq] at h2
        exact h2
      have h6 := hQ.2.jn h5.1 h5.2 (wy_jn h5.1)
      have h7 := hA.len20 _ h5.1
      exact decide_eq_true (by omega)
theorem cnn_stg (hA : WF A) {c : Nat} (hc : c < A 0 1) : ∀ n x, dst A dr c x = n → n < 9999 → ∃ i, stg (adj A dr) c i x = true := by
  intro n
  induction n using Nat.strongRecOn with
  | _ n ih =>
    intro x hx hn
    by_cases h : x = c
    · exact ⟨0, decide_eq_true h⟩
    · obtain ⟨k, y, hk, hd, hj, he⟩ := isR_pred (dst_isQ hA dr c) h (by omega)
      have hl := hA.len k hk
      obtain ⟨i, hi⟩ := ih (dst A dr c y) (by omega) y rfl (by omega)
      have := jn_lt hA hk hj
      have h8 := hA.1.2.1
      exact ⟨i + 1, (stg_iff i x).mpr (Or.inr ⟨y, by omega, hi, adj_jn hA hk hd hj⟩)⟩
theorem cnn_lt (hA : WF A) {c x : Nat} (hc : c < A 0 1) (h : cnn A dr c x = true) : x < A 0 1 := by
  rcases Nat.lt_or_ge x (A 0 1) with h1 | h1
  · exact h1
  · have h2 := dst_out (dr := dr) hA hc h1
    unfold cnn at h
    rw [h2] at h
    exact absurd h (by decide)
theorem stg_eq (hA : WF A) {c : Nat} (hc : c < A 0 1) (x : Nat) (hx : x < 8) : stg (adj A dr) c 8 x = cnn A dr c x := by
  have h8 := hA.1.2.1
  refine bool_ext ⟨stg_cnn hA hc 8 x, fun h => ?_⟩
  obtain ⟨i, hi⟩ := cnn_stg hA hc _ x rfl (of_decide_eq_true h)
  exact stg_8 (by omega) hx hi
theorem gb_0 : gb A dr 0 = adj A dr := by
  funext y x
  unfold gb
  rw [Nat.zero_testBit]
  cases adj A dr y x <;> rfl
theorem h_joined0 (hA : WF A) (hC : CT M A) (hL : LD M e A dr) {c : Nat} (hc : c < A 0 1) : f_X5_joinedTo T e (c : Int) 0 M = some ((msk (cnn A dr c) 8 : Nat) : Int) := by
  have := h_joinedTo (T := T) (B := 0) hA hC hL hc (by decide)
  rw [gb_0, msk_cong (stg_eq hA hc)] at this
  exact this
theorem cnn_tri (hA : WF A) {a b c : Nat} (ha : a < A 0 1) (h1 : cnn A dr a b = true) (h2 : cnn A dr b c = true) : cnn A dr a c = true := by
  have hb := cnn_lt hA ha h1
  unfold cnn at h1 h2 ⊢
  have g1 := dst_140 hA ha (of_decide_eq_true h1)
  have g2 := dst_140 hA hb (of_decide_eq_true h2)
  have := isQ_tri (dst_isQ hA dr) hA.len a b _ c rfl
  exact decide_eq_true (by omega)
theorem cnn_symm (hA : WF A) (a b : Nat) : cnn A dr a b = cnn A dr b a := by unfold cnn; rw [dst_symm hA]
/-- caves seen from the first ones -/
def snp (A : aA) (dr : Nat → Bool) (i x : Nat) : Bool := exb (fun c => cnn A dr c x) i
def prts (A : aA) (dr : Nat → Bool) : Nat := cntp (fun c => !snp A dr c c) (A 0 1)
theorem snp_up {i : Nat} {J : Nat} (hJ : ∀ x, x < 8 → J.testBit x = cnn A dr i x) (hJ8 : ∀ x, 8 ≤ x → J.testBit x = false) : msk (snp A dr i) 8 ||| J = msk (snp A dr (i + 1)) 8 := by
  refine Nat.eq_of_testBit_eq fun x => ?_
  rw [Nat.testBit_or, msk_bit, msk_bit]
  by_cases hx : x < 8
  · rw [decide_eq_true hx, Bool.true_and, Bool.true_and, hJ x hx]; rfl
  · rw [decide_eq_false hx, Bool.false_and, Bool.false_and, hJ8 x (by omega)]; rfl
theorem snp_same (hA : WF A) {i : Nat} (hi : i < A 0 1) (h : snp A dr i i = true) : msk (snp A dr i) 8 = msk (snp A dr (i + 1)) 8 := by
  refine msk_cong fun x hx => ?_
  show snp A dr i x = (snp A dr i x || cnn A dr i x)
  refine bool_ext ?_
  rw [Bool.or_eq_true]
  refine ⟨Or.inl, ?_⟩
  rintro (h1 | h1)
  · exact h1
  · obtain ⟨y, hy, h2⟩ := (exb_iff i).mp h
    exact (exb_iff i).mpr ⟨y, hy, cnn_tri hA (by omega) h2 h1⟩
theorem snp_0 : msk (snp A dr 0) 8 = 0 := by
  refine (msk_eq fun x => ?_).symm
  show (0 : Nat).testBit x = (decide (x < 8) && false)
  rw [Bool.and_false, Nat.zero_testBit]
theorem h_countParts (hA : WF A) (hC : CT M A) (hL : LD M e A dr) : f_X5_countParts T e M = some (prts A dr : Int) := by
  have h8 := hA.1.2.1
  unfold f_X5_countParts prts
  have key := for_until (fun i n => l_X5_countParts_6 T e M (fun w10 w11 w12 => some w10) n ((cntp (fun c => !snp A dr c c) i : Nat) : Int) ((msk (snp A dr i) 8 : Nat) : Int) (i : Int)) (y := some ((cntp (fun c => !snp A dr c c) (A 0 1) : Nat) : Int)) (A 0 1) (fun i n hi => ?_) (fun n => ?_) (by omega)
  · have e0 : l_X5_countParts_6 T e M (fun w10 w11 w12 => some w10) FU 0 ((msk (snp A dr 0) 8 : Nat) : Int) 0 = _ := key
    rw [snp_0] at e0
    exact e0
  · show l_X5_countParts_6 T e M _ (n + 1) _ _ (i : Int) = l_X5_countParts_6 T e M _ n ((cntp (fun c => !snp A dr c c) i + (if (!snp A dr i i) = true then 1 else 0) : Nat) : Int) ((msk (snp A dr (i + 1)) 8 : Nat) : Int) ((i + 1 : Nat) : Int)
    rw [l_X5_countParts_6]
    have hcl := cntp_le (fun c => !snp A dr c c) i
    refine c_neg (by rw [hC.1 1 (by decide)]; omega) (c_bind (h_hasBit (msk_lt31 _ (by decide)) (by omega)) ?_)
    rw [msk_bit, decide_eq_true (show i < 8 by omega), Bool.true_and]
    cases hb : snp A dr i i
    · refine c_pos rfl (c_ite (by omega) (c_bind (h_joined0 hA hC hL hi) (c_ite (by omega) ?_)))
      rw [aor_nat (msk_lt31 _ (by decide)) (msk_lt31 _ (by decide)), snp_up (fun x hx => by rw [msk_bit, decide_eq_true hx, Bool.true_and]) (fun x hx => by rw [msk_bit, decide_eq_false (by omega), Bool.false_and])]
      rfl
    · refine c_neg (by decide) (c_ite (by omega) ?_)
      rw [snp_same hA hi hb]
      rfl
  · show l_X5_countParts_6 T e M _ (n + 1) _ _ ((A 0 1 : Nat) : Int) = _
    rw [l_X5_countParts_6]
    exact c_pos (by rw [hC.1 1 (by decide)]; exact Int.le_refl _) rfl
def sp_parts (A : aA) (S : Nat → Int) : Int × Int := gd (0 < A 0 0) (prts A (dS S) : Int) 1
theorem c_parts (h : CQ M A S) : opC (f_X11_parts T M) M (sp_parts A S) := by
  unfold f_X11_parts sp_parts
  refine oC_well h.2.2.1 (fun hn => ?_) (fun hp => ?_)
  · rw [gd_neg hn]; exact oC_ref
  · rw [gd_pos hp]; exact oC_bind (h_countParts h.1 h.2.2.1 h.2.2.2.2.1) (oC_al (sC.refl M))
theorem g_reach0 (hA : WF A) (hm : MV T M w A) (hL : LM M A dr) {c : Nat} (hc : c < A 0 1) : ∃ J, J < 256 ∧ f_X13_reached T (c : Int) 9998 M = some ((J : Nat) : Int) ∧ (∀ x, x < 8 → J.testBit x = cnn A dr c x) ∧ ∀ x, 8 ≤ x → J.testBit x = false := by
  have h8 := hA.1.2.1
  have hlt : rchd A dr c 9998 < 256 := Nat.lt_of_lt_of_le (msk_lt _ _) (Nat.pow_le_pow_right (n := 2) (j := 8) (by decide) h8)
  refine ⟨rchd A dr c 9998, hlt, g_reached hA hm hL hc, fun x hx => ?_, fun x hx => Nat.testBit_lt_two_pow (Nat.lt_of_lt_of_le hlt (Nat.pow_le_pow_right (n := 2) (i := 8) (by decide) hx))⟩
  unfold rchd
  rw [msk_bit]
  refine bool_ext ?_
  rw [Bool.and_eq_true, decide_eq_true_eq]
  constructor
  · rintro ⟨-, h⟩
    have := of_decide_eq_true h
    exact decide_eq_true (by omega)
  · intro h
    refine ⟨cnn_lt hA hc h, ?_⟩
    have := of_decide_eq_true h
    exact decide_eq_true (by omega)
theorem m_parts (h : MD T M A S) : opM (f_X13_parts T M) M (sp_parts A S) := by
  have hA := h.1
  have h8 := hA.1.2.1
  unfold f_X13_parts sp_parts
  refine oM_bind rfl ?_
  have h1 : sM M (aup M 138 0 0) := sM_fl (by omega)
  have hm1 := h.of h1
  refine oM_well hm1 (fun hn => ?_) (fun hp => ?_)
  · rw [gd_neg hn]; exact oM_ref h1
  · rw [gd_pos hp]
    obtain ⟨w, hw⟩ := hm1.has (by omega)
    refine oM_bind (hm1.works hw) ?_
    have hk := hm1.mk hw
    have hL := hk.2.1
    have hv := hk.1
    show opM (l_X13_parts_28 T (worksM (aup M 138 0 0) A (dS S)) (fun w21 w22 w23 => (f_X13_good T w21 (worksM (aup M 138 0 0) A (dS S))).bind fun x25 => some (x25.1, x25.2)) FU 0 0 0) M _
    have hs := h1.trans (sM_works (A := A) (dr := dS S))
    generalize worksM (aup M 138 0 0) A (dS S) = Z at hL hv hs ⊢
    have key : ∀ kk : Int → Int → Int → Option (Int × aM), l_X13_parts_28 T Z kk FU 0 0 0 = kk (prts A (dS S) : Int) ((msk (snp A (dS S) (A 0 1)) 8 : Nat) : Int) (A 0 1 : Int) := by
      intro kk
      unfold prts
      have key := for_until (fun i n => l_X13_parts_28 T Z kk n ((cntp (fun c => !snp A (dS S) c c) i : Nat) : Int) ((msk (snp A (dS S) i) 8 : Nat) : Int) (i : Int)) (y := kk ((cntp (fun c => !snp A (dS S) c c) (A 0 1) : Nat) : Int) ((msk (snp A (dS S) (A 0 1)) 8 : Nat) : Int) (A 0 1 : Int)) (A 0 1) (fun i n hi => ?_) (fun n => ?_) (by omega)
      · have e0 : l_X13_parts_28 T Z kk FU 0 ((msk (snp A (dS S) 0) 8 : Nat) : Int) 0 = _ := key
        rw [snp_0] at e0
        exact e0
      · show l_X13_parts_28 T Z kk (n + 1) _ _ (i : Int) = l_X13_parts_28 T Z kk n ((cntp (fun c => !snp A (dS S) c c) i + (if (!snp A (dS S) i i) = true then 1 else 0) : Nat) : Int) ((msk (snp A (dS S) (i + 1)) 8 : Nat) : Int) ((i + 1 : Nat) : Int)
        rw [l_X13_parts_28, hv.1, Int.toNat_natCast, hv.2.2.1.2.2.2.1]
        have hcl := cntp_le (fun c => !snp A (dS S) c c) i
        obtain ⟨J, hJ, hf, hb, hb8⟩ := g_reach0 hA hv hL hi
        refine c_ite hv.2.1 (c_neg (by omega) (c_bind (h_bit (msk_lt31 _ (by decide)) (by omega)) ?_))
        have hor : aor ((msk (snp A (dS S) i) 8 : Nat) : Int) (J : Int) = ((msk (snp A (dS S) (i + 1)) 8 : Nat) : Int) := by
          rw [aor_nat (msk_lt31 _ (by decide)) (by omega), snp_up hb hb8]
        rw [msk_bit, decide_eq_true (show i < 8 by omega), Bool.true_and]
        cases hbb : snp A (dS S) i i
        · refine c_pos rfl (c_ite (by omega) (c_bind hf (c_ite (by omega) ?_)))
          rw [hor]; rfl
        · refine c_neg (by decide) (c_ite (by omega) (c_bind hf (c_ite (by omega) ?_)))
          rw [hor, Int.add_zero]; rfl
      · show l_X13_parts_28 T Z kk (n + 1) _ _ ((A 0 1 : Nat) : Int) = _
        rw [l_X13_parts_28, hv.1, Int.toNat_natCast, hv.2.2.1.2.2.2.1]
        exact c_ite hv.2.1 (c_pos (Int.le_refl _) rfl)
    rw [key]
    exact oM_good hs
end Prt

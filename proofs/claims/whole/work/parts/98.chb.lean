/-! ===== chase, chaseBy: the class ===== -/
section Chb
variable {A : aA} {S : Nat → Int} {T w : Nat} {M M0 Z : aM} {dr : Nat → Bool}
def ck0 (c : Nat) (b : Nat) : Nat := if b / 8 = b % 8 ∧ b / 8 < c then 0 else 1000000
theorem h_go2 {v1 v2 : Int} (kk : Int → aM → Option (Int × aM)) : l_X3_goingsNeeded_2 T v1 v2 kk FU 0 M = kk 64 (setc M 55 (ovr (M 55) 64 (fun _ => 1000000))) := by
  have e0 : setc M 55 (ovr (M 55) 0 (fun _ => 1000000)) = M := by
    rw [show ovr (M 55) 0 (fun _ => 1000000) = M 55 from funext fun b => if_neg (Nat.not_lt_zero b)]
    exact setc_self
  have key := for_until (fun i n => l_X3_goingsNeeded_2 T v1 v2 kk n (i : Int) (setc M 55 (ovr (M 55) i (fun _ => 1000000)))) (y := kk 64 (setc M 55 (ovr (M 55) 64 (fun _ => 1000000)))) 64 (fun i n hi => ?_) (fun n => ?_) (by decide)
  · have e1 : l_X3_goingsNeeded_2 T v1 v2 kk FU 0 (setc M 55 (ovr (M 55) 0 (fun _ => 1000000))) = _ := key
    rw [e0] at e1
    exact e1
  · show l_X3_goingsNeeded_2 T v1 v2 kk (n + 1) (i : Int) _ = l_X3_goingsNeeded_2 T v1 v2 kk n ((i + 1 : Nat) : Int) _
    rw [l_X3_goingsNeeded_2]
    refine c_neg (by omega) (c_ite (by omega) (c_some (c_ite (by omega) ?_)))
    rw [Int.toNat_natCast, aup_setc]
    have e : (fun b => if b = i then (1000000 : Int) else ovr (M 55) i (fun _ => 1000000) b) = ovr (M 55) (i + 1) (fun _ => 1000000) := by
      funext b
      unfold ovr
      by_cases h1 : b = i
      · rw [if_pos h1, if_pos (by omega)]; rfl
      · rw [if_neg h1]
        by_cases h2 : b < i
        · rw [if_pos h2, if_pos (by omega)]
        · rw [if_neg h2, if_neg (by omega)]
    rw [e]
    rfl
  · show l_X3_goingsNeeded_2 T v1 v2 kk (n + 1) 64 _ = _
    rw [l_X3_goingsNeeded_2]
    exact c_pos (by decide) rfl
/-- the first rows -/
def G0 (M : aM) (A : aA) (c : Nat) (Z : aM) : Prop := sC M Z ∧ (∀ a b, a < 8 → b < 8 → Z 55 (8 * a + b) = if a = b ∧ a < c then 0 else 1000000) ∧ ∀ a, a < c → Z 56 a = ((2 ^ a : Nat) : Int) ∧ Z 57 a = ((2 ^ a : Nat) : Int)
theorem h_go24 {v1 v2 : Int} (hZ : G0 M A 0 Z) (kk : Int → aM → Option (Int × aM)) : ∃ Y, G0 M A 8 Y ∧ l_X3_goingsNeeded_24 T v1 v2 kk FU 0 Z = kk 8 Y := by
  have keyI := for_inv (fun n c (Z : aM) => l_X3_goingsNeeded_24 T v1 v2 kk n (c : Int) Z) (fun c Z => G0 M A c Z) 8 (fun c n Z hc hZ => ?_) (by decide) Z hZ
  · obtain ⟨Y, hY, n, hl⟩ := keyI
    refine ⟨Y, hY, ?_⟩
    have e : l_X3_goingsNeeded_24 T v1 v2 kk FU 0 Z = l_X3_goingsNeeded_24 T v1 v2 kk (n + 1) 8 Y := hl
    rw [e, l_X3_goingsNeeded_24]
    exact c_pos (by decide) rfl
  · obtain ⟨g1, g2, g3⟩ := hZ
    refine ⟨aup (aup (aup Z 55 (8 * c + c) 0) 56 c ((2 ^ c : Nat) : Int)) 57 c ((2 ^ c : Nat) : Int), ⟨((g1.trans (sC_up (by decide))).trans (sC_up (by decide))).trans (sC_up (by decide)), fun a b ha hb => ?_, fun a ha => ⟨?_, ?_⟩⟩, ?_⟩
    · rw [aup_nc (by decide), aup_nc (by decide), aup_row]
      by_cases h : a = c ∧ b = c
      · rw [if_pos (by omega), if_pos (by omega)]
      · rw [if_neg (by omega), g2 a b ha hb]
        by_cases h2 : a = b ∧ a < c
        · rw [if_pos h2, if_pos (by omega)]
        · rw [if_neg h2, if_neg (by omega)]
    · rw [aup_nc (by decide), aup_row]
      by_cases h : a = c
      · rw [if_pos h, h]
      · rw [if_neg h, aup_nc (by decide)]; exact (g3 a (by omega)).1
    · rw [aup_row]
      by_cases h : a = c
      · rw [if_pos h, h]
      · rw [if_neg h, aup_nc (by decide), aup_nc (by decide)]; exact (g3 a (by omega)).2
    · show l_X3_goingsNeeded_24 T v1 v2 kk (n + 1) (c : Int) Z = l_X3_goingsNeeded_24 T v1 v2 kk n ((c + 1 : Nat) : Int) _
      rw [l_X3_goingsNeeded_24, show ((c : Int) * 8 + (c : Int)).toNat = 8 * c + c by omega, Int.toNat_natCast, ashl_one c (by omega)]
      exact c_neg (by omega) (c_ite (by omega) (c_ite (by omega) (c_ite (by omega) (c_some (c_ite (by omega) (c_some (c_some (c_ite (by omega) rfl))))))))
theorem G0.gr (hA : WF A) (h : G0 M A 8 Z) : GR M A dr 0 (fun _ _ => false) (0, Z) := by
  have h8 := hA.1.2.1
  obtain ⟨g1, g2, g3⟩ := h
  have hm : ∀ a, a < A 0 1 → 2 ^ a = msk (chW A dr 0 a) (A 0 1) := by
    intro a ha
    refine msk_eq fun x => ?_
    show (2 ^ a).testBit x = (decide (x < A 0 1) && decide (a = x))
    rw [Nat.testBit_two_pow]
    by_cases h : a = x
    · rw [decide_eq_true h, decide_eq_true (by omega)]; rfl
    · rw [decide_eq_false h, Bool.and_false]
  refine ⟨g1, fun a c ha hc => ?_, fun a ha => ?_, fun a ha => ?_, Or.inl rfl, fun _ a c _ _ hp => by cases hp⟩
  · rw [if_neg Bool.false_ne_true]
    show Z 55 (8 * a + c) = if decide (a = c) = true then ((gng A dr a c : Nat) : Int) else 1000000
    rw [g2 a c (by omega) (by omega)]
    by_cases h : a = c
    · rw [if_pos (by omega), decide_eq_true h, if_pos rfl]
      have : gng A dr a c ≤ 0 := gng_of (decide_eq_true h)
      omega
    · rw [if_neg (by omega), decide_eq_false h, if_neg Bool.false_ne_true]
  · rw [← hm a ha]; exact (g3 a (by omega)).1
  · rw [show (fun c => if (fun (_ _ : Nat) => false) a c = true then chW A dr (0 + 1) a c else chW A dr 0 a c) = chW A dr 0 a from funext fun c => if_neg Bool.false_ne_true, ← hm a ha]
    exact (g3 a (by omega)).2
theorem h_goings (h : CQ M A S) {o v : Nat} (ho : o < A 0 1) (hv : v < A 0 1) : ∃ Z, f_X3_goingsNeeded T (o : Int) (v : Int) M = some (((cap 1000000 (gng A (dS S) o v) : Nat) : Int), Z) ∧ sC M Z ∧ ∀ a c, a < A 0 1 → c < A 0 1 → Z 55 (8 * a + c) = ((cap 1000000 (gng A (dS S) a c) : Nat) : Int) := by
  have hA := h.1
  have h8 := hA.1.2.1
  have hz0 : G0 M A 0 (setc M 55 (ovr (M 55) 64 (fun _ => 1000000))) := by
    refine ⟨sC_set (by decide), fun a b ha hb => ?_, fun a ha => absurd ha (Nat.not_lt_zero a)⟩
    rw [setc_at, ovr_at (by omega), if_neg (by omega)]; rfl
  obtain ⟨Y, hY, hl24⟩ := h_go24 (T := T) (v1 := (o : Int)) (v2 := (v : Int)) hz0 (fun w22 m24 => l_X3_goingsNeeded_71 T (o : Int) (v : Int) (fun w33 w34 m35 => if aIn ((o : Int) * 8) then if aIn (((o : Int) * 8) + (v : Int)) then if 0 ≤ (((o : Int) * 8) + (v : Int)) ∧ (((o : Int) * 8) + (v : Int)) < 64 then some ((m35 55 ((((o : Int) * 8) + (v : Int))).toNat), m35) else none else none else none) FU 1 1 m24)
  have hg0 := G0.gr (dr := dS S) hA hY
  have keyI := while_inv (fun n i (s : Int × aM) => l_X3_goingsNeeded_71 T (o : Int) (v : Int) (fun w33 w34 m35 => if aIn ((o : Int) * 8) then if aIn (((o : Int) * 8) + (v : Int)) then if 0 ≤ (((o : Int) * 8) + (v : Int)) ∧ (((o : Int) * 8) + (v : Int)) < 64 then some ((m35 55 ((((o : Int) * 8) + (v : Int))).toNat), m35) else none else none else none) n s.1 ((i : Int) + 1) s.2) (fun i s => GR M A (dS S) i (fun _ _ => false) (0, s.2) ∧ i ≤ 64 ∧ (s.1 = 0 ∨ s.1 = 1) ∧ (s.1 = 0 → ∀ a c, a < A 0 1 → c < A 0 1 → ∀ k, i ≤ k → chW A (dS S) k a c = chW A (dS S) i a c)) (fun i s => 64 ≤ i ∨ s.1 = 0) 64 (by decide) (fun i n s hR hn => ?_) (fun i s hi hR => Or.inl hi) (1, Y) ⟨hg0, by decide, Or.inr rfl, fun e => absurd e (show ¬ ((1 : Int) = 0) by decide)⟩
  · obtain ⟨q, s, n, ⟨⟨g1, g2, -⟩, hq, hf, hst⟩, hstop, hl⟩ := keyI
    have hfin : ∀ a c, a < A 0 1 → c < A 0 1 → s.2 55 (8 * a + c) = ((cap 1000000 (gng A (dS S) a c) : Nat) : Int) := by
      intro a c ha hc
      have e1 := g2 a c ha hc
      rw [if_neg Bool.false_ne_true] at e1
      have e2 : s.2 55 (8 * a + c) = if chW A (dS S) q a c = true then ((gng A (dS S) a c : Nat) : Int) else 1000000 := e1
      rw [e2]
      have hiff : chW A (dS S) q a c = true ↔ gng A (dS S) a c < 64 := by
        rw [chW_gng hA ha hc]
        refine ⟨fun h => h.1, fun h => ⟨h, ?_⟩⟩
        rcases hstop with hs | hs
        · omega
        · rcases Nat.lt_or_ge q (gng A (dS S) a c) with h1 | h1
          · have h2 := hst hs a c ha hc (gng A (dS S) a c) (by omega)
            rw [gng_is h] at h2
            exact gng_of h2.symm
          · exact h1
      unfold cap
      by_cases hb : gng A (dS S) a c < 64
      · rw [if_pos (hiff.mpr hb), if_pos hb]
      · rw [if_neg (fun e => hb (hiff.mp e)), if_neg hb]; rfl
    refine ⟨s.2, ?_, g1, hfin⟩
    unfold f_X3_goingsNeeded
    refine (h_go2 _).trans (hl24.trans ?_)
    have e : l_X3_goingsNeeded_71 T (o : Int) (v : Int) (fun w33 w34 m35 => if aIn ((o : Int) * 8) then if aIn (((o : Int) * 8) + (v : Int)) then if 0 ≤ (((o : Int) * 8) + (v : Int)) ∧ (((o : Int) * 8) + (v : Int)) < 64 then some ((m35 55 ((((o : Int) * 8) + (v : Int))).toNat), m35) else none else none else none) FU 1 1 Y = l_X3_goingsNeeded_71 T (o : Int) (v : Int) (fun w33 w34 m35 => if aIn ((o : Int) * 8) then if aIn (((o : Int) * 8) + (v : Int)) then if 0 ≤ (((o : Int) * 8) + (v : Int)) ∧ (((o : Int) * 8) + (v : Int)) < 64 then some ((m35 55 ((((o : Int) * 8) + (v : Int))).toNat), m35) else none else none else none) (n + 1) s.1 ((q : Int) + 1) s.2 := hl
    refine e.trans ?_
    have fin : (if aIn ((o : Int) * 8) then if aIn (((o : Int) * 8) + (v : Int)) then if 0 ≤ (((o : Int) * 8) + (v : Int)) ∧ (((o : Int) * 8) + (v : Int)) < 64 then some ((s.2 55 ((((o : Int) * 8) + (v : Int))).toNat), s.2) else none else none else none) = some (((cap 1000000 (gng A (dS S) o v) : Nat) : Int), s.2) := by
      rw [show ((o : Int) * 8 + (v : Int)).toNat = 8 * o + v by omega, hfin o v ho hv]
      exact c_ite (by omega) (c_ite (by omega) (c_ite (by omega) rfl))
    rw [l_X3_goingsNeeded_71]
    by_cases hq8 : (64 : Int) < (q : Int) + 1
    · exact c_pos hq8 fin
    · exact c_neg hq8 (c_pos (by rcases hstop with hs | hs; omega; exact hs) fin)
  · obtain ⟨f, Z⟩ := s
    obtain ⟨hG, hi64, hf, -⟩ := hR
    have hi : i < 64 := by
      rcases Nat.lt_or_ge i 64 with h1 | h1
      · exact h1
      · exact absurd (Or.inl h1) hn
    have hf0 : ¬ f = 0 := fun e => hn (Or.inr e)
    obtain ⟨s, e1, e2, e3, e4⟩ := h_once (T := T) h hi hG
    refine ⟨s, ⟨e2, by omega, e3, fun hs a c ha hc k hk => ?_⟩, ?_⟩
    · have h1 := e4 hs
      have h2 := chW_stay h1 (k - i) a c ha hc
      rw [show i + (k - i) = k by omega] at h2
      rw [h2, h1 a c ha hc]
    · show l_X3_goingsNeeded_71 T (o : Int) (v : Int) _ (n + 1) f ((i : Int) + 1) Z = l_X3_goingsNeeded_71 T (o : Int) (v : Int) _ n s.1 (((i + 1 : Nat) : Int) + 1) s.2
      rw [l_X3_goingsNeeded_71]
      exact c_neg (by omega) (c_neg hf0 (c_bind e1 (c_ite (by omega) rfl)))
def bq6 (n : Nat) : Int := if n < 64 then (n : Int) else -2
def sp_chase (A : aA) (S : Nat → Int) (o v : Int) : Int × Int := gd (inr o (A 0 1) ∧ inr v (A 0 1)) (bq6 (gng A (dS S) o.toNat v.toNat)) 1
theorem c_chase (h : CQ M A S) (o v : Int) : opC (f_X11_chase T o v M) M (sp_chase A S o v) := by
  unfold f_X11_chase sp_chase
  refine oC_isCave h.2.2.1 (fun hn => ?_) (fun o' ho hlt => ?_)
  · rw [gd_neg (fun h => hn h.1)]; exact oC_ref
  · refine oC_isCave h.2.2.1 (fun hn => ?_) (fun v' hv hlt2 => ?_)
    · rw [gd_neg (fun h => hn h.2)]; exact oC_ref
    · subst ho hv
      rw [gd_pos ⟨inr_of hlt, inr_of hlt2⟩, Int.toNat_natCast, Int.toNat_natCast]
      obtain ⟨Z, e1, e2, -⟩ := h_goings (T := T) h hlt hlt2
      refine oC_bind e1 (oC_bind (v := bq6 (gng A (dS S) o' v')) ?_ (oC_al e2))
      show f_X11_orNo T ((cap 1000000 (gng A (dS S) o' v') : Nat) : Int) _ = _
      unfold f_X11_orNo cap bq6
      by_cases h1 : gng A (dS S) o' v' < 64
      · rw [if_pos h1, if_pos h1, if_pos (by omega)]
      · rw [if_neg h1, if_neg h1]; rfl
theorem cap_0 {F : Nat} : cap F 0 = 0 := if_pos (by decide)
theorem cap_eq {F n d : Nat} (hF : 64 ≤ F) (hn : n ≤ 64) (hd : d < 64) : cap F n = d ↔ n = d := by
  unfold cap
  split <;> omega
theorem wq_le (o v : Nat) : wq A dr o v ≤ 64 := by
  show (if o = v then 0 else wsx A dr (gng A dr) o v (A 0 1)) ≤ 64
  split
  · omega
  · exact wsx_le _ fun x _ _ => gng_le _ _
theorem h_behind (hA : WF A) (hC : CT M A) (hL : LD M 39 A dr) (h55 : ∀ a c, a < A 0 1 → c < A 0 1 → M 55 (8 * a + c) = ((cap 1000000 (gng A dr a c) : Nat) : Int)) {o v : Nat} (ho : o < A 0 1) (hv : v < A 0 1) : f_X3_goingsBehind T (o : Int) (v : Int) M = some ((cap 1000000 (wq A dr o v) : Nat) : Int) := by
  have h8 := hA.1.2.1
  obtain ⟨b1, b2, b3⟩ := h_around (T := T) hA hL hv
  rw [show wq A dr o v = wst A dr (gng A dr) o v from rfl, ← wst_map (D := gng A dr) cap_0 (cap_mono (F := 1000000) (by decide))]
  unfold f_X3_goingsBehind wst
  by_cases hov : o = v
  · rw [if_pos (by omega), if_pos hov]; rfl
  · rw [if_neg (by omega), if_neg hov]
    refine for_until (fun x n => l_X3_goingsBehind_12 T (o : Int) (v : Int) M (fun w13 w14 => some w13) n ((wsx A dr (fun a b => cap 1000000 (gng A dr a b)) o v x : Nat) : Int) (x : Int)) (A 0 1) (fun x n hx => ?_) (fun n => ?_) (by omega)
    · show l_X3_goingsBehind_12 T (o : Int) (v : Int) M _ (n + 1) _ (x : Int) = l_X3_goingsBehind_12 T (o : Int) (v : Int) M _ n ((if arr A dr v x = true then (if cap 1000000 (gng A dr o x) ≤ wsx A dr (fun a b => cap 1000000 (gng A dr a b)) o v x then wsx A dr (fun a b => cap 1000000 (gng A dr a b)) o v x else cap 1000000 (gng A dr o x)) else wsx A dr (fun a b => cap 1000000 (gng A dr a b)) o v x : Nat) : Int) ((x + 1 : Nat) : Int)
      generalize wsx A dr (fun a b => cap 1000000 (gng A dr a b)) o v x = q
      rw [l_X3_goingsBehind_12, hC.1 1 (by decide), show ((o : Int) * 8 + (x : Int)).toNat = 8 * o + x by omega, h55 o x ho hx]
      refine c_neg (by omega) (c_bind b1 (c_bind (h_hasBit (by omega) (by omega)) ?_))
      rw [b3]
      cases arr A dr v x
      · rw [if_neg Bool.false_ne_true]
        exact c_pos rfl (c_ite (by omega) rfl)
      · rw [if_pos rfl]
        refine c_neg (by decide) (c_ite (by omega) (c_ite (by omega) (c_ite (by omega) (c_ite (by omega) ?_))))
        have e : (if ((cap 1000000 (gng A dr o x) : Nat) : Int) < (q : Int) then (q : Int) else ((cap 1000000 (gng A dr o x) : Nat) : Int)) = (((if cap 1000000 (gng A dr o x) ≤ q then q else cap 1000000 (gng A dr o x)) : Nat) : Int) := by
          split <;> split <;> omega
        rw [e]
        rfl
    · show l_X3_goingsBehind_12 T (o : Int) (v : Int) M _ (n + 1) _ ((A 0 1 : Nat) : Int) = _
      rw [l_X3_goingsBehind_12, hC.1 1 (by decide)]
      exact c_pos (Int.le_refl _) rfl
/-- the first going -/
def fgp (A : aA) (dr : Nat → Bool) (o v t : Nat) : Bool := adj A dr o t && decide (wq A dr t v + 1 = gng A dr o v)
def fgo (A : aA) (dr : Nat → Bool) (o v : Nat) : Int := if gng A dr o v = 0 ∨ ¬ gng A dr o v < 64 then -2 else if wq A dr o v + 1 = gng A dr o v then (o : Int) else ((fst (fgp A dr o v) (A 0 1) : Nat) : Int)
theorem fgp_ex (hA : WF A) {o v : Nat} (ho : o < A 0 1) (hv : v < A 0 1) (h0 : 0 < gng A dr o v) (h1 : gng A dr o v < 64) (h2 : ¬ wq A dr o v + 1 = gng A dr o v) : fst (fgp A dr o v) (A 0 1) < A 0 1 := by
  obtain ⟨t, ht, ha, he⟩ := gng_next hA ho hv h0 h1
  have hadj : adj A dr o t = true := by
    unfold arr at ha
    rw [Bool.or_eq_true, decide_eq_true_eq] at ha
    rcases ha with ha | ha
    · subst ha; exact absurd he h2
    · exact ha
  have hp : fgp A dr o v t = true := by
    unfold fgp
    rw [hadj, Bool.true_and]
    exact decide_eq_true he
  rcases Nat.lt_or_ge (fst (fgp A dr o v) (A 0 1)) (A 0 1) with h | h
  · exact h
  · have := fst_no (fgp A dr o v) (A 0 1) t (by omega)
    rw [hp] at this; cases this
theorem h_firstGoing (h : CQ M A S) {o v : Nat} (ho : o < A 0 1) (hv : v < A 0 1) : ∃ Z, f_X3_firstGoing T (o : Int) (v : Int) M = some (fgo A (dS S) o v, Z) ∧ sC M Z := by
  have hA := h.1
  have h8 := hA.1.2.1
  obtain ⟨Z, e1, e2, e3⟩ := h_goings (T := T) h ho hv
  have hQ : CQ Z A S := h.of e2
  have hgl := gng_le (A := A) (dr := dS S) o v
  refine ⟨Z, ?_, e2⟩
  unfold f_X3_firstGoing fgo
  refine c_bind e1 ?_
  show (if ((cap 1000000 (gng A (dS S) o v) : Nat) : Int) = 0 then some ((-2 : Int), Z) else if ((cap 1000000 (gng A (dS S) o v) : Nat) : Int) < 1000000 then (f_X3_goingsBehind T (o : Int) (v : Int) Z).bind (fun x7 => if aIn (((cap 1000000 (gng A (dS S) o v) : Nat) : Int) - 1) then if x7 = (((cap 1000000 (gng A (dS S) o v) : Nat) : Int) - 1) then some ((o : Int), Z) else l_X3_firstGoing_37 T (o : Int) (v : Int) ((cap 1000000 (gng A (dS S) o v) : Nat) : Int) Z (fun w22 => some ((-2), Z)) FU 0 else none) else some ((-2 : Int), Z)) = _
  by_cases h64 : gng A (dS S) o v < 64
  · have ec : cap 1000000 (gng A (dS S) o v) = gng A (dS S) o v := if_pos h64
    rw [ec]
    by_cases h0 : gng A (dS S) o v = 0
    · rw [if_pos (Or.inl h0)]
      exact c_pos (by omega) rfl
    · rw [if_neg (not_or.mpr ⟨h0, fun e => e h64⟩)]
      refine c_neg (by omega) (c_pos (by omega) (c_bind (h_behind hA hQ.2.2.1 hQ.2.2.2.2.1 e3 ho hv) (c_ite (by omega) ?_)))
      have hw := wq_le (A := A) (dr := dS S) o v
      have hcmp : ∀ t, t < A 0 1 → (((cap 1000000 (wq A (dS S) t v) : Nat) : Int) = ((gng A (dS S) o v : Nat) : Int) - 1 ↔ wq A (dS S) t v + 1 = gng A (dS S) o v) := by
        intro t ht
        have hw := wq_le (A := A) (dr := dS S) t v
        have := cap_eq (F := 1000000) (n := wq A (dS S) t v) (d := gng A (dS S) o v - 1) (by decide) hw (by omega)
        omega
      by_cases hfo : wq A (dS S) o v + 1 = gng A (dS S) o v
      · rw [if_pos hfo]
        exact c_pos ((hcmp o ho).mpr hfo) rfl
      · rw [if_neg hfo]
        refine c_neg (fun e => hfo ((hcmp o ho).mp e)) ?_
        have hex := fgp_ex hA ho hv (by omega) h64 hfo
        have key := find_loop (fun n t => l_X3_firstGoing_37 T (o : Int) (v : Int) ((gng A (dS S) o v : Nat) : Int) Z (fun w22 => some ((-2), Z)) n t) (A 0 1) (fgp A (dS S) o v) (fun t => some ((t : Int), Z)) (y := some ((-2), Z)) (by omega) ?_ ?_ ?_
        · rw [if_pos hex] at key
          exact key
        · intro t n ht hp
          show l_X3_firstGoing_37 T (o : Int) (v : Int) _ Z _ (n + 1) (t : Int) = _
          have e40 : Z 40 o = ((nr A (dS S) o : Nat) : Int) := hQ.2.2.2.2.1.1 o (by omega)
          rw [l_X3_firstGoing_37, hQ.2.2.1.1 1 (by decide), Int.toNat_natCast, e40]
          refine c_neg (by omega) (c_ite (by omega) (c_bind (h_hasBit (Nat.lt_trans (nr_lt A (dS S) o) (by decide)) (by omega)) ?_))
          rw [nr_bit hA]
          cases ha : adj A (dS S) o t
          · exact c_pos rfl (c_ite (by omega) rfl)
          · unfold fgp at hp
            rw [ha, Bool.true_and, decide_eq_false_iff_not] at hp
            exact c_neg (by decide) (c_bind (h_behind hA hQ.2.2.1 hQ.2.2.2.2.1 e3 ht hv) (c_ite (by omega) (c_neg (fun e => hp ((hcmp t ht).mp e)) (c_ite (by omega) rfl))))
        · intro t n ht hp
          show l_X3_firstGoing_37 T (o : Int) (v : Int) _ Z _ (n + 1) (t : Int) = _
          have e40 : Z 40 o = ((nr A (dS S) o : Nat) : Int) := hQ.2.2.2.2.1.1 o (by omega)
          unfold fgp at hp
          rw [Bool.and_eq_true, decide_eq_true_eq] at hp
          rw [l_X3_firstGoing_37, hQ.2.2.1.1 1 (by decide), Int.toNat_natCast, e40]
          refine c_neg (by omega) (c_ite (by omega) (c_bind (h_hasBit (Nat.lt_trans (nr_lt A (dS S) o) (by decide)) (by omega)) ?_))
          rw [nr_bit hA, hp.1]
          exact c_neg (by decide) (c_bind (h_behind hA hQ.2.2.1 hQ.2.2.2.2.1 e3 ht hv) (c_ite (by omega) (c_pos ((hcmp t ht).mpr hp.2) rfl)))
        · intro n
          show l_X3_firstGoing_37 T (o : Int) (v : Int) _ Z _ (n + 1) ((A 0 1 : Nat) : Int) = _
          rw [l_X3_firstGoing_37, hQ.2.2.1.1 1 (by decide)]
          exact c_pos (Int.le_refl _) rfl
  · have ec : cap 1000000 (gng A (dS S) o v) = 1000000 := if_neg h64
    rw [ec, if_pos (Or.inr h64)]
    exact c_neg (by decide) (c_neg (by decide) rfl)
def sp_chaseBy (A : aA) (S : Nat → Int) (o v : Int) : Int × Int := gd (inr o (A 0 1) ∧ inr v (A 0 1)) (fgo A (dS S) o.toNat v.toNat) 1
theorem c_chaseBy (h : CQ M A S) (o v : Int) : opC (f_X11_chaseBy T o v M) M (sp_chaseBy A S o v) := by
  unfold f_X11_chaseBy sp_chaseBy
  refine oC_isCave h.2.2.1 (fun hn => ?_) (fun o' ho hlt => ?_)
  · rw [gd_neg (fun h => hn h.1)]; exact oC_ref
  · refine oC_isCave h.2.2.1 (fun hn => ?_) (fun v' hv hlt2 => ?_)
    · rw [gd_neg (fun h => hn h.2)]; exact oC_ref
    · subst ho hv
      rw [gd_pos ⟨inr_of hlt, inr_of hlt2⟩, Int.toNat_natCast, Int.toNat_natCast]
      obtain ⟨Z, e1, e2⟩ := h_firstGoing (T := T) h hlt hlt2
      generalize fgo A (dS S) o' v' = q at e1 ⊢
      exact oC_bind e1 (oC_al e2)
end Chb

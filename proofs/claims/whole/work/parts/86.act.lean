/-! ===== acts: walk, dig, flood, undo, image, back ===== -/
abbrev aT : Type := (Nat → Int) × Nat × Nat × (Nat → Nat → Int) × (Nat → Nat → Int)
section Act
variable {A : aA} {S : Nat → Int} {na ni : Nat} {P I : Nat → Nat → Int} {T w : Nat} {M M1 : aM} {r : Int × Int} {st : aT}
def CA (M : aM) (A : aA) (st : aT) : Prop := CQ M A st.1 ∧ RG M A st.2.1 st.2.2.2.1 ∧ IG M A st.2.2.1 st.2.2.2.2 ∧ st.2.1 ≤ 16 ∧ st.2.2.1 ≤ 3
def opCA (x : Option (Int × aM)) (M : aM) (A : aA) (r : Int × Int) (st : aT) : Prop := ∃ M1, x = some (r.1, M1) ∧ CS M1 35 A st.1 ∧ LD M1 39 A (dS st.1) ∧ RG M1 A st.2.1 st.2.2.2.1 ∧ IG M1 A st.2.2.1 st.2.2.2.2 ∧ M1 0 14 = r.2 ∧ (∀ k, k ≠ 14 → M1 0 k = M 0 k) ∧ ∀ n, (0 < n ∧ n < 35) ∨ (41 < n ∧ n < 45) ∨ 137 < n → M1 n = M n
theorem RG_same (h : RG M A na P) (e : ∀ n, 59 ≤ n → n ≤ 125 → M1 n = M n) : RG M1 A na P := by
  obtain ⟨a, np, b, c, d⟩ := h
  refine ⟨by rw [e 59 (by decide) (by decide)]; exact a, np, b, by rw [e 59 (by decide) (by decide)]; exact c, fun i hi => CS_same (d i hi) fun k hk => e _ (by omega) (by omega)⟩
theorem IG_same (hn : ni ≤ 3) (h : IG M A ni I) (e1 : M1 59 4 = M 59 4) (e : ∀ n, 126 ≤ n → n ≤ 137 → M1 n = M n) : IG M1 A ni I := by
  obtain ⟨a, b⟩ := h
  exact ⟨e1.trans a, fun i hi => CS_same (b i hi) fun k hk => e _ (by omega) (by omega)⟩
theorem LD_same {dr : Nat → Bool} (h : LD M 39 A dr) (e : ∀ n, 39 ≤ n → n ≤ 41 → M1 n = M n) : LD M1 39 A dr := by
  unfold LD at h ⊢
  rw [e (39 + 1) (by decide) (by decide), e (39 + 2) (by decide) (by decide)]
  exact h
theorem oA_bind {α : Type} {o : Option α} {v : α} {f : α → Option (Int × aM)} (h : o = some v) (h2 : opCA (f v) M A r st) : opCA (o.bind f) M A r st := by rw [h]; exact h2
theorem oA_pos {c : Prop} [Decidable c] {x z : Option (Int × aM)} (hc : c) (h : opCA x M A r st) : opCA (if c then x else z) M A r st := by rw [if_pos hc]; exact h
theorem oA_neg {c : Prop} [Decidable c] {x z : Option (Int × aM)} (hc : ¬ c) (h : opCA z M A r st) : opCA (if c then x else z) M A r st := by rw [if_neg hc]; exact h
/-- refused: all stays -/
theorem CA.stay (h : CA M A st) (v w : Int) : CS (aup M 0 14 w) 35 A st.1 ∧ LD (aup M 0 14 w) 39 A (dS st.1) ∧ RG (aup M 0 14 w) A st.2.1 st.2.2.2.1 ∧ IG (aup M 0 14 w) A st.2.2.1 st.2.2.2.2 ∧ (aup M 0 14 w) 0 14 = w ∧ (∀ k, k ≠ 14 → (aup M 0 14 w) 0 k = M 0 k) ∧ ∀ n, (0 < n ∧ n < 35) ∨ (41 < n ∧ n < 45) ∨ 137 < n → (aup M 0 14 w) n = M n := by
  obtain ⟨hq, hr, hi, h16, h3⟩ := h
  have e : ∀ n, 0 < n → aup M 0 14 w n = M n := fun n hn => aup_nc (by omega)
  exact ⟨CS_same hq.2.2.2.1 fun k hk => e _ (by omega), LD_same hq.2.2.2.2.1 fun n _ _ => e n (by omega), RG_same hr fun n _ _ => e n (by omega), IG_same h3 hi (by rw [e 59 (by decide)]) fun n _ _ => e n (by omega), aup_at, fun k hk => aup_ne2 hk, fun n hn => e n (by omega)⟩
theorem oA_ref (h : CA M A st) {w : Int} : opCA ((f_X11_refuseAct T w M).bind fun x => if x.1 = 0 ∨ x.1 = 1 then some (x.1, x.2) else none) M A (0, w) st := ⟨aup M 0 14 w, rfl, h.stay 0 w⟩
theorem oA_refn (h : CA M A st) {w : Int} : opCA ((f_X11_refuse T w M).bind fun x => some (x.1, x.2)) M A (-1, w) st := ⟨aup M 0 14 w, rfl, h.stay 0 w⟩
/-- granted: as it stands now -/
theorem oA_all {Z : aM} (h1 : CS Z 35 A st.1) (h2 : LD Z 39 A (dS st.1)) (h3 : RG Z A st.2.1 st.2.2.2.1) (h4 : IG Z A st.2.2.1 st.2.2.2.2) (h43 : st.2.2.1 ≤ 3) (h5 : Z 0 = M 0) (h6 : ∀ n, (0 < n ∧ n < 35) ∨ (41 < n ∧ n < 45) ∨ 137 < n → Z n = M n) : opCA ((f_X11_allowAct T Z).bind fun x => if x.1 = 0 ∨ x.1 = 1 then some (x.1, x.2) else none) M A (1, 0) st ∧ ∀ v : Int, opCA ((f_X11_allow T v Z).bind fun x => some (x.1, x.2)) M A (v, 0) st := by
  have e : ∀ n, 0 < n → aup Z 0 14 0 n = Z n := fun n hn => aup_nc (by omega)
  have key : CS (aup Z 0 14 0) 35 A st.1 ∧ LD (aup Z 0 14 0) 39 A (dS st.1) ∧ RG (aup Z 0 14 0) A st.2.1 st.2.2.2.1 ∧ IG (aup Z 0 14 0) A st.2.2.1 st.2.2.2.2 ∧ (aup Z 0 14 0) 0 14 = 0 ∧ (∀ k, k ≠ 14 → (aup Z 0 14 0) 0 k = M 0 k) ∧ ∀ n, (0 < n ∧ n < 35) ∨ (41 < n ∧ n < 45) ∨ 137 < n → (aup Z 0 14 0) n = M n :=
    ⟨CS_same h1 fun k hk => e _ (by omega), LD_same h2 fun n _ _ => e n (by omega), RG_same h3 fun n _ _ => e n (by omega), IG_same h43 h4 (by rw [e 59 (by decide)]) fun n _ _ => e n (by omega), aup_at, fun k hk => by rw [aup_ne2 hk, h5], fun n hn => by rw [e n (by omega)]; exact h6 n hn⟩
  exact ⟨⟨aup Z 0 14 0, rfl, key⟩, fun v => ⟨aup Z 0 14 0, rfl, key⟩⟩
/-- a state behind an act: remembered, and changed -/
def actd (st : aT) (S1 : Nat → Int) : aT := (S1, rna st.2.1, st.2.2.1, rem st.2.1 st.2.2.2.1 st.1, st.2.2.2.2)
theorem rna_le (n : Nat) : rna n ≤ 16 := by unfold rna; split <;> omega
/-- guards of acts -/
theorem oA_isWay (h : CT M A) {v : Int} {x y : Option (Int × aM)} (h1 : ¬ inr v (A 0 2) → opCA x M A r st) (h2 : ∀ c : Nat, v = (c : Int) → c < A 0 2 → opCA y M A r st) : opCA ((f_X11_isWay T v M).bind fun z => if z = 0 then x else y) M A r st := by
  refine oA_bind (h_isWay h v) ?_
  by_cases hp : inr v (A 0 2)
  · rw [decide_eq_true hp]
    obtain ⟨c, hc, hl⟩ := inr_nat hp
    exact oA_neg (by decide) (h2 c hc hl)
  · rw [decide_eq_false hp]
    exact oA_pos rfl (h1 hp)
theorem oA_isCave (h : CT M A) {v : Int} {x y : Option (Int × aM)} (h1 : ¬ inr v (A 0 1) → opCA x M A r st) (h2 : ∀ c : Nat, v = (c : Int) → c < A 0 1 → opCA y M A r st) : opCA ((f_X11_isCave T v M).bind fun z => if z = 0 then x else y) M A r st := by
  refine oA_bind (h_isCave h v) ?_
  by_cases hp : inr v (A 0 1)
  · rw [decide_eq_true hp]
    obtain ⟨c, hc, hl⟩ := inr_nat hp
    exact oA_neg (by decide) (h2 c hc hl)
  · rw [decide_eq_false hp]
    exact oA_pos rfl (h1 hp)
theorem oA_isFolk (h : CT M A) {v : Int} {x y : Option (Int × aM)} (h1 : ¬ inr v (A 0 4) → opCA x M A r st) (h2 : ∀ c : Nat, v = (c : Int) → c < A 0 4 → opCA y M A r st) : opCA ((f_X11_isFolk T v M).bind fun z => if z = 0 then x else y) M A r st := by
  refine oA_bind (h_isFolk h v) ?_
  by_cases hp : inr v (A 0 4)
  · rw [decide_eq_true hp]
    obtain ⟨c, hc, hl⟩ := inr_nat hp
    exact oA_neg (by decide) (h2 c hc hl)
  · rw [decide_eq_false hp]
    exact oA_pos rfl (h1 hp)
/-- folk walk -/
def wlk (S : Nat → Int) (f c : Nat) : Nat → Int := fun k => if k = 6 + f then (c : Int) else S k
def sp_walk (A : aA) (st : aT) (f c : Int) : (Int × Int) × aT := if inr f (A 0 4) ∧ inr c (A 0 1) then (if adj A (dS st.1) (st.1 (6 + f.toNat)).toNat c.toNat = true then ((1, 0), actd st (wlk st.1 f.toNat c.toNat)) else ((0, 5), st)) else ((0, 1), st)
theorem c_walk (h : CA M A st) (f c : Int) : opCA (f_X11_walk T f c M) M A (sp_walk A st f c).1 (sp_walk A st f c).2 := by
  have hh := h
  obtain ⟨hq, hr, hi, h16, h3⟩ := h
  have hA := hq.1
  have h8 := hA.1.2.1
  have hf4 := hA.1.2.2.2.2.1
  have hv3 := hA.1.2.2.2.1
  unfold f_X11_walk sp_walk
  refine oA_isFolk hq.2.2.1 (fun hn => ?_) (fun f' hf hlt => ?_)
  · rw [if_neg (show ¬ (inr f (A 0 4) ∧ inr c (A 0 1)) from fun h => hn h.1)]; exact oA_ref hh
  · refine oA_isCave hq.2.2.1 (fun hn => ?_) (fun c' hc hlt2 => ?_)
    · rw [if_neg (show ¬ (inr f (A 0 4) ∧ inr c (A 0 1)) from fun h => hn h.2)]; exact oA_ref hh
    · subst hf hc
      rw [if_pos (show inr ((f' : Nat) : Int) (A 0 4) ∧ inr ((c' : Nat) : Int) (A 0 1) from ⟨inr_of hlt, inr_of hlt2⟩), Int.toNat_natCast, Int.toNat_natCast]
      obtain ⟨q, hq1, hq2⟩ := hq.2.1.fo hlt
      have e38 : M 38 f' = (q : Int) := (hq.2.2.2.1.2.1 f' hlt).trans hq1
      rw [hq1, Int.toNat_natCast, e38, Int.toNat_natCast, show M 40 q = (nr A (dS st.1) q : Int) from hq.2.2.2.2.1.1 q (by omega)]
      refine oA_pos (by omega) (oA_pos (by omega) (oA_bind (h_hasBit (Nat.lt_trans (nr_lt A _ q) (by decide)) (by omega)) ?_))
      rw [nr_bit hA]
      cases ha : adj A (dS st.1) q c'
      · rw [if_neg (show ¬ false = true by decide)]
        exact oA_pos rfl (oA_ref hh)
      · rw [if_pos (show true = true from rfl)]
        obtain ⟨M2, k1, k2, k3, k4⟩ := h_keep (T := T) hA h16 hr hq.2.2.2.1
        refine oA_neg (by decide) (oA_bind k1 (oA_bind rfl ?_))
        have e : ∀ n, n ≠ 38 → aup M2 38 f' (c' : Int) n = M2 n := fun n hn => aup_nc hn
        refine (oA_all (st := actd st (wlk st.1 f' c')) ?_ ?_ ?_ ?_ h3 ?_ ?_).1
        · refine ⟨fun k hk => ?_, fun k hk => ?_, ?_, ?_⟩
          · rw [e _ (by omega), e _ (by omega), k3 _ (by omega), k3 _ (by omega)]
            show M (35 + 1) k = wlk st.1 f' c' k ∧ M (35 + 2) k = wlk st.1 f' c' (3 + k)
            unfold wlk
            rw [if_neg (by omega), if_neg (by omega)]
            exact hq.2.2.2.1.1 k hk
          · show aup M2 38 f' (c' : Int) 38 k = wlk st.1 f' c' (6 + k)
            unfold wlk
            by_cases hk2 : k = f'
            · rw [hk2, aup_at, if_pos rfl]
            · rw [aup_ne2 hk2, if_neg (by omega), k3 38 (by omega)]
              exact hq.2.2.2.1.2.1 k hk
          · rw [e 35 (by decide), k3 35 (by omega)]
            show M 35 3 = wlk st.1 f' c' 10
            unfold wlk; rw [if_neg (by omega)]; exact hq.2.2.2.1.2.2.1
          · rw [e 35 (by decide), k3 35 (by omega)]
            show M 35 4 = wlk st.1 f' c' 11
            unfold wlk; rw [if_neg (by omega)]; exact hq.2.2.2.1.2.2.2
        · have ew : wlk st.1 f' c' 10 = st.1 10 := by unfold wlk; rw [if_neg (by omega)]
          show LD _ 39 A (dry (wlk st.1 f' c' 10).toNat)
          rw [ew]
          exact LD_same hq.2.2.2.2.1 fun n h1 h2 => by rw [e n (by omega), k3 n (by omega)]
        · exact RG_same k2 fun n h1 h2 => e n (by omega)
        · exact IG_same h3 hi (by rw [e 59 (by decide), k4 4 (by decide) (by decide)]) fun n h1 h2 => by rw [e n (by omega), k3 n (by omega)]
        · show aup M2 38 f' (c' : Int) 0 = M 0
          rw [e 0 (by decide), k3 0 (by omega)]
        · intro n hn; show aup M2 38 f' (c' : Int) n = M n; rw [e n (by omega), k3 n (by omega)]
/-- ways dug, ways flooded -/
def wts (S : Nat → Int) (x : Nat) : Nat → Int := fun k => if k = 10 then (x : Int) else S k
theorem h_changeWays (h : CA M A st) {x : Nat} (hx : x < 2147483648) : ∃ M2, f_X11_changeWays T (x : Int) M = some (0, M2) ∧ CS M2 35 A (wts st.1 x) ∧ LD M2 39 A (dry x) ∧ RG M2 A (rna st.2.1) (rem st.2.1 st.2.2.2.1 st.1) ∧ IG M2 A st.2.2.1 st.2.2.2.2 ∧ M2 0 = M 0 ∧ ∀ n, (0 < n ∧ n < 35) ∨ (41 < n ∧ n < 45) ∨ 137 < n → M2 n = M n := by
  obtain ⟨hq, hr, hi, h16, h3⟩ := h
  have hA := hq.1
  have hf4 := hA.1.2.2.2.2.1
  have hv3 := hA.1.2.2.2.1
  obtain ⟨M2, k1, k2, k3, k4⟩ := h_keep (T := T) hA h16 hr hq.2.2.2.1
  have hw : TW (aup M2 35 3 (x : Int)) A := by
    have := hq.2.2.1.tw
    unfold TW at this ⊢
    rw [aup_nc (by decide), aup_nc (by decide), aup_nc (by decide), aup_nc (by decide), k3 3 (by omega), k3 4 (by omega), k3 5 (by omega), k3 6 (by omega)]
    exact this
  have hlay := h_lay (T := T) (e := 39) hA (Or.inl rfl) hw hx
  have e : ∀ n, n ≠ 35 → n ≠ 39 → n ≠ 40 → n ≠ 41 → layM (aup M2 35 3 (x : Int)) 39 A x n = M2 n := fun n h1 h2 h3 h4 => by rw [layM_ne ⟨h2, h3, h4⟩, aup_nc h1]
  have e35 : layM (aup M2 35 3 (x : Int)) 39 A x 35 = aup M2 35 3 (x : Int) 35 := layM_ne (by decide)
  refine ⟨layM (aup M2 35 3 (x : Int)) 39 A x, ?_, ⟨fun k hk => ?_, fun k hk => ?_, ?_, ?_⟩, layM_LD, RG_same k2 fun n h1 h2 => e n (by omega) (by omega) (by omega) (by omega), IG_same h3 hi (by rw [e 59 (by decide) (by decide) (by decide) (by decide), k4 4 (by decide) (by decide)]) fun n h1 h2 => by rw [e n (by omega) (by omega) (by omega) (by omega), k3 n (by omega)], ?_, fun n hn => ?_⟩
  · unfold f_X11_changeWays
    exact c_bind k1 (c_some (c_bind hlay rfl))
  · rw [e _ (by omega) (by omega) (by omega) (by omega), e _ (by omega) (by omega) (by omega) (by omega), k3 _ (by omega), k3 _ (by omega)]
    unfold wts
    rw [if_neg (by omega), if_neg (by omega)]
    exact hq.2.2.2.1.1 k hk
  · rw [e _ (by omega) (by omega) (by omega) (by omega), k3 _ (by omega)]
    unfold wts
    rw [if_neg (by omega)]
    exact hq.2.2.2.1.2.1 k hk
  · rw [e35, aup_at]; rfl
  · rw [e35, aup_ne2 (by decide), k3 35 (by omega)]; exact hq.2.2.2.1.2.2.2
  · rw [e 0 (by decide) (by decide) (by decide) (by decide), k3 0 (by omega)]
  · rw [e n (by omega) (by omega) (by omega) (by omega), k3 n (by omega)]
def sp_dig (A : aA) (st : aT) (k : Int) : (Int × Int) × aT := if inr k (A 0 2) then (if (sW st.1).testBit k.toNat = true then ((1, 0), actd st (wts st.1 (ndf (sW st.1) (2 ^ k.toNat)))) else ((0, 5), st)) else ((0, 1), st)
theorem c_dig (h : CA M A st) (k : Int) : opCA (f_X11_dig T k M) M A (sp_dig A st k).1 (sp_dig A st k).2 := by
  have hh := h
  obtain ⟨hq, hr, hi, h16, h3⟩ := h
  have hA := hq.1
  have h10 := hA.1.2.2.1
  obtain ⟨s1, s2, s3⟩ := WS.s10 hA hq.2.1
  unfold f_X11_dig sp_dig
  refine oA_isWay hq.2.2.1 (fun hn => ?_) (fun k' hk hlt => ?_)
  · rw [if_neg hn]; exact oA_ref hh
  · subst hk
    rw [if_pos (show inr ((k' : Nat) : Int) (A 0 2) from inr_of hlt), Int.toNat_natCast, show M 35 3 = ((sW st.1 : Nat) : Int) from hq.2.2.2.1.2.2.1.trans s3]
    refine oA_bind (h_hasBit (by omega) (by omega)) ?_
    cases hb : (sW st.1).testBit k'
    · rw [if_neg (show ¬ false = true by decide)]
      exact oA_pos rfl (oA_ref hh)
    · rw [if_pos (show true = true from rfl), ashl_one k' (by omega), aandn (by omega)]
      have hx := ndf_lt (a := sW st.1) (b := 2 ^ k') (by omega)
      obtain ⟨M2, e1, e2, e3, e4, e5, e6, e7⟩ := h_changeWays (T := T) hh hx
      refine oA_neg (by decide) (oA_bind e1 ?_)
      exact (oA_all (st := actd st (wts st.1 (ndf (sW st.1) (2 ^ k')))) e2 e3 e4 e5 h3 e6 e7).1
def sp_flood (A : aA) (st : aT) (k : Int) : (Int × Int) × aT := if inr k (A 0 2) then (if (sW st.1).testBit k.toNat = true then ((0, 5), st) else (if cntp (sW st.1).testBit 16 < 6 then ((1, 0), actd st (wts st.1 (sW st.1 ||| 2 ^ k.toNat))) else ((0, 3), st))) else ((0, 1), st)
theorem c_flood (h : CA M A st) (k : Int) : opCA (f_X11_flood T k M) M A (sp_flood A st k).1 (sp_flood A st k).2 := by
  have hh := h
  obtain ⟨hq, hr, hi, h16, h3⟩ := h
  have hA := hq.1
  have h10 := hA.1.2.2.1
  obtain ⟨s1, s2, s3⟩ := WS.s10 hA hq.2.1
  unfold f_X11_flood sp_flood
  refine oA_isWay hq.2.2.1 (fun hn => ?_) (fun k' hk hlt => ?_)
  · rw [if_neg hn]; exact oA_ref hh
  · subst hk
    rw [if_pos (show inr ((k' : Nat) : Int) (A 0 2) from inr_of hlt), Int.toNat_natCast, show M 35 3 = ((sW st.1 : Nat) : Int) from hq.2.2.2.1.2.2.1.trans s3]
    refine oA_bind (h_hasBit (by omega) (by omega)) ?_
    cases hb : (sW st.1).testBit k'
    · rw [if_neg (show ¬ false = true by decide)]
      refine oA_pos rfl (oA_bind (h_bitCount (by omega)) ?_)
      by_cases h6 : cntp (sW st.1).testBit 16 < 6
      · rw [if_pos h6, ashl_one k' (by omega), aor_nat (by omega) (Nat.pow_lt_pow_right (a := 2) (n := 31) (by decide) (by omega))]
        have hx : sW st.1 ||| 2 ^ k' < 2147483648 := Nat.or_lt_two_pow (n := 31) (by omega) (Nat.pow_lt_pow_right (a := 2) (n := 31) (by decide) (by omega))
        obtain ⟨M2, e1, e2, e3, e4, e5, e6, e7⟩ := h_changeWays (T := T) hh hx
        refine oA_pos (by omega) (oA_bind e1 ?_)
        exact (oA_all (st := actd st (wts st.1 (sW st.1 ||| 2 ^ k'))) e2 e3 e4 e5 h3 e6 e7).1
      · rw [if_neg h6]
        exact oA_neg (by omega) (oA_ref hh)
    · rw [if_pos (show true = true from rfl)]
      exact oA_neg (by decide) (oA_ref hh)
end Act

/-! ===== acts of the model ===== -/
section Acm
variable {A : aA} {T w : Nat} {M M1 Z : aM} {r : Int × Int} {st : aT}
def MA (T : Nat) (M : aM) (A : aA) (st : aT) : Prop := MD T M A st.1 ∧ PG M st.2.1 st.2.2.2.1 ∧ QG M st.2.2.1 st.2.2.2.2 ∧ st.2.1 ≤ 16 ∧ st.2.2.1 ≤ 3 ∧ (A 0 0 = 0 → st.2.1 = 0 ∧ st.2.2.1 = 0)
/-- what no act of the model writes -/
def kM (M Z : aM) : Prop := (∀ k, (k = 3 ∨ k = 4 ∨ k = 5 ∨ k = 6 ∨ k = 12 ∨ (15 < k ∧ k < 20) ∨ (21 < k ∧ k < 25) ∨ (26 < k ∧ k < 31) ∨ k = 34 ∨ k = 35) → Z 138 k = M 138 k) ∧ ∀ n, (n < 138 ∨ n = 139 ∨ 152 < n) → Z n = M n
theorem kM.trans (h : kM M Z) (h2 : kM Z M1) : kM M M1 := ⟨fun k hk => (h2.1 k hk).trans (h.1 k hk), fun n hn => (h2.2 n hn).trans (h.2 n hn)⟩
theorem kM_sM (h : sM M Z) : kM M Z := ⟨fun k hk => h.1 k (by omega), fun n hn => h.2 n (by omega)⟩
theorem kM_set {n : Nat} {f : Nat → Int} (h : 139 < n ∧ n < 153) : kM M (setc M n f) := ⟨fun k _ => by rw [setc_ne (by omega)], fun m hm => setc_ne (by omega)⟩
theorem kM_up {n k : Nat} {v : Int} (h : 139 < n ∧ n < 153) : kM M (aup M n k v) := by rw [aup_eq]; exact kM_set h
theorem kM_fl {k : Nat} {v : Int} (h : k = 0 ∨ k = 1 ∨ k = 2 ∨ k = 20 ∨ k = 21 ∨ k = 25 ∨ k = 26 ∨ (30 < k ∧ k < 34) ∨ k = 36 ∨ k = 37) : kM M (aup M 138 k v) := ⟨fun q hq => aup_ne2 (by omega), fun m hm => aup_nc (by omega)⟩
def opMA (x : Option (Int × aM)) (M : aM) (r : Int × Int) (st : aT) : Prop := ∃ M1, x = some (r.1, M1) ∧ (∀ k, k < 12 → M1 140 k = st.1 k) ∧ PG M1 st.2.1 st.2.2.2.1 ∧ QG M1 st.2.2.1 st.2.2.2.2 ∧ M1 138 1 = r.2 ∧ M1 138 2 = -1 ∧ kM M M1
theorem pM_bind {α : Type} {o : Option α} {v : α} {f : α → Option (Int × aM)} (h : o = some v) (h2 : opMA (f v) M r st) : opMA (o.bind f) M r st := by rw [h]; exact h2
theorem pM_pos {c : Prop} [Decidable c] {x z : Option (Int × aM)} (hc : c) (h : opMA x M r st) : opMA (if c then x else z) M r st := by rw [if_pos hc]; exact h
theorem pM_neg {c : Prop} [Decidable c] {x z : Option (Int × aM)} (hc : ¬ c) (h : opMA z M r st) : opMA (if c then x else z) M r st := by rw [if_neg hc]; exact h
/-- a store as the act leaves it, before it is told -/
def fin (M Z : aM) (st : aT) : Prop := (∀ k, k < 12 → Z 140 k = st.1 k) ∧ PG Z st.2.1 st.2.2.2.1 ∧ QG Z st.2.2.1 st.2.2.2.2 ∧ kM M Z
theorem fin.told (h : fin M Z st) (x : Int) : (∀ k, k < 12 → aup (aup Z 138 1 x) 138 2 (-1) 140 k = st.1 k) ∧ PG (aup (aup Z 138 1 x) 138 2 (-1)) st.2.1 st.2.2.2.1 ∧ QG (aup (aup Z 138 1 x) 138 2 (-1)) st.2.2.1 st.2.2.2.2 ∧ aup (aup Z 138 1 x) 138 2 (-1) 138 1 = x ∧ aup (aup Z 138 1 x) 138 2 (-1) 138 2 = -1 ∧ kM M (aup (aup Z 138 1 x) 138 2 (-1)) := by
  obtain ⟨h1, ⟨p1, p2⟩, ⟨q1, q2⟩, h4⟩ := h
  have e : ∀ n, n ≠ 138 → aup (aup Z 138 1 x) 138 2 (-1) n = Z n := fun n hn => by rw [aup_nc hn, aup_nc hn]
  have f : ∀ k, k ≠ 1 → k ≠ 2 → aup (aup Z 138 1 x) 138 2 (-1) 138 k = Z 138 k := fun k h1 h2 => by rw [aup_ne2 h2, aup_ne2 h1]
  refine ⟨fun k hk => by rw [e 140 (by decide)]; exact h1 k hk, ⟨by rw [f 20 (by decide) (by decide)]; exact p1, fun i k hi hk => by rw [e 142 (by decide)]; exact p2 i k hi hk⟩, ⟨by rw [f 21 (by decide) (by decide)]; exact q1, fun i k hi hk => by rw [e 143 (by decide)]; exact q2 i k hi hk⟩, by rw [aup_ne2 (by decide)]; exact aup_at, aup_at, h4.trans ((kM_fl (by omega)).trans (kM_fl (by omega)))⟩
theorem pM_ref (h : fin M Z st) {x : Int} : opMA ((f_X13_refused T x Z).bind fun x => some (x.1, x.2)) M (-1, x) st := ⟨_, rfl, h.told x⟩
theorem pM_den (h : fin M Z st) {x : Int} : opMA ((f_X13_denied T x Z).bind fun x => if x.1 = 0 ∨ x.1 = 1 then some (x.1, x.2) else none) M (0, x) st := ⟨_, rfl, h.told x⟩
theorem pM_good (h : fin M Z st) {v : Int} : opMA ((f_X13_good T v Z).bind fun x => some (x.1, x.2)) M (v, 0) st := ⟨_, rfl, h.told 0⟩
theorem pM_gra (h : fin M Z st) : opMA ((f_X13_granted T Z).bind fun x => if x.1 = 0 ∨ x.1 = 1 then some (x.1, x.2) else none) M (1, 0) st := ⟨_, rfl, h.told 0⟩
theorem MA.fin (h : MA T M A st) (hs : sM M Z) : fin M Z st := by
  obtain ⟨hd, ⟨p1, p2⟩, ⟨q1, q2⟩, -⟩ := h
  refine ⟨fun k hk => by rw [hs.2 140 (by omega)]; exact hd.2.2.2 k hk, ⟨by rw [hs.1 20 (by omega)]; exact p1, fun i k hi hk => by rw [hs.2 142 (by omega)]; exact p2 i k hi hk⟩, ⟨by rw [hs.1 21 (by omega)]; exact q1, fun i k hi hk => by rw [hs.2 143 (by omega)]; exact q2 i k hi hk⟩, kM_sM hs⟩
theorem MA.of (h : MA T M A st) (hs : sM M Z) : MA T Z A st := by
  obtain ⟨hd, ⟨p1, p2⟩, ⟨q1, q2⟩, h4, h5, h6⟩ := h
  exact ⟨hd.of hs, ⟨by rw [hs.1 20 (by omega)]; exact p1, fun i k hi hk => by rw [hs.2 142 (by omega)]; exact p2 i k hi hk⟩, ⟨by rw [hs.1 21 (by omega)]; exact q1, fun i k hi hk => by rw [hs.2 143 (by omega)]; exact q2 i k hi hk⟩, h4, h5, h6⟩
/-- remembered -/
theorem g_rem (h : MA T M A st) : ∃ Y, f_X13_remembers T M = some (0, Y) ∧ PG Y (rna st.2.1) (rem st.2.1 st.2.2.2.1 st.1) ∧ QG Y st.2.2.1 st.2.2.2.2 ∧ MD T Y A st.1 ∧ kM M Y ∧ (∀ n, n ≠ 138 → n ≠ 142 → Y n = M n) ∧ ∀ w, MV T M w A → MV T Y w A := by
  obtain ⟨hd, hp, ⟨q1, q2⟩, h16, h3, -⟩ := h
  obtain ⟨Y, y1, y2, y3, y4⟩ := g_remembers (T := T) h16 hp hd.2.2.2
  refine ⟨Y, y1, y2, ⟨by rw [y4 21 (by decide)]; exact q1, fun i k hi hk => by rw [y3 143 (by decide) (by decide)]; exact q2 i k hi hk⟩, mq_same hd (y4 3 (by decide)) (y3 140 (by decide) (by decide)) (fun n hn => y3 n (by omega) (by omega)), ⟨fun k hk => y4 k (by omega), fun n hn => y3 n (by omega) (by omega)⟩, y3, fun w hw => ?_⟩
  have hg := hw.ge
  exact ⟨(y4 3 (by decide)).trans hw.1, hw.2.1, mw_cells (fun k _ => y3 _ (by omega) (by omega)) hw.2.2⟩
theorem pM_isWay (h : MD T Z A st.1) {v : Int} {x y : Option (Int × aM)} {s1 : aT} (h1 : ¬ inr v (A 0 2) → opMA x M r s1) (h2 : ∀ c : Nat, v = (c : Int) → c < A 0 2 → opMA y M r s1) : opMA ((f_X13_isWay T v Z).bind fun z => if z = 0 then x else y) M r s1 := by
  refine pM_bind (g_isWay h v) ?_
  by_cases hp : inr v (A 0 2)
  · rw [decide_eq_true hp]
    obtain ⟨c, hc, hl⟩ := inr_nat hp
    exact pM_neg (by decide) (h2 c hc hl)
  · rw [decide_eq_false hp]
    exact pM_pos rfl (h1 hp)
theorem pM_isCave (h : MD T Z A st.1) {v : Int} {x y : Option (Int × aM)} {s1 : aT} (h1 : ¬ inr v (A 0 1) → opMA x M r s1) (h2 : ∀ c : Nat, v = (c : Int) → c < A 0 1 → opMA y M r s1) : opMA ((f_X13_isCave T v Z).bind fun z => if z = 0 then x else y) M r s1 := by
  refine pM_bind (g_isCave h v) ?_
  by_cases hp : inr v (A 0 1)
  · rw [decide_eq_true hp]
    obtain ⟨c, hc, hl⟩ := inr_nat hp
    exact pM_neg (by decide) (h2 c hc hl)
  · rw [decide_eq_false hp]
    exact pM_pos rfl (h1 hp)
theorem pM_isFolk (h : MD T Z A st.1) {v : Int} {x y : Option (Int × aM)} {s1 : aT} (h1 : ¬ inr v (A 0 4) → opMA x M r s1) (h2 : ∀ c : Nat, v = (c : Int) → c < A 0 4 → opMA y M r s1) : opMA ((f_X13_isFolk T v Z).bind fun z => if z = 0 then x else y) M r s1 := by
  refine pM_bind (g_isFolk h v) ?_
  by_cases hp : inr v (A 0 4)
  · rw [decide_eq_true hp]
    obtain ⟨c, hc, hl⟩ := inr_nat hp
    exact pM_neg (by decide) (h2 c hc hl)
  · rw [decide_eq_false hp]
    exact pM_pos rfl (h1 hp)
/-- ways turned over -/
theorem g_turns (h : MA T M A st) {k : Nat} (hk : k < A 0 2) : ∃ Y, f_X13_turnsOver T (k : Int) M = some (0, Y) ∧ fin M Y (actd st (wts st.1 (sW st.1 ^^^ 2 ^ k))) := by
  have hA := h.1.1
  have h10 := hA.1.2.2.1
  obtain ⟨s1, s2, s3⟩ := WS.s10 hA h.1.2.1
  obtain ⟨Y, y1, ⟨p1, p2⟩, ⟨q1, q2⟩, y4, y5, y6, y7⟩ := g_rem h
  have e10 : Y 140 10 = ((sW st.1 : Nat) : Int) := (y4.2.2.2 10 (by decide)).trans s3
  refine ⟨aup Y 140 10 ((sW st.1 ^^^ 2 ^ k : Nat) : Int), ?_, fun j hj => ?_, ⟨by rw [aup_nc (by decide)]; exact p1, fun i j hi hj => by rw [aup_nc (by decide)]; exact p2 i j hi hj⟩, ⟨by rw [aup_nc (by decide)]; exact q1, fun i j hi hj => by rw [aup_nc (by decide)]; exact q2 i j hi hj⟩, y5.trans (kM_up (by omega))⟩
  · unfold f_X13_turnsOver
    refine c_bind y1 ?_
    simp only [e10]
    rw [ashl_one k (by omega), axor_nat (by omega) (Nat.pow_lt_pow_right (a := 2) (n := 31) (by decide) (by omega))]
    rfl
  · show aup Y 140 10 _ 140 j = wts st.1 (sW st.1 ^^^ 2 ^ k) j
    unfold wts
    by_cases hj10 : j = 10
    · rw [if_pos hj10, hj10, aup_at]
    · rw [if_neg hj10, aup_ne2 hj10]; exact y4.2.2.2 j hj
theorem xor_dig {s k : Nat} (h : s.testBit k = true) : s ^^^ 2 ^ k = ndf s (2 ^ k) := by
  apply Nat.eq_of_testBit_eq
  intro i
  rw [Nat.testBit_xor, ndf_bit]
  by_cases hk : k = i
  · subst hk; rw [Nat.testBit_two_pow_self, h]; rfl
  · rw [Nat.testBit_two_pow_of_ne hk]; cases s.testBit i <;> rfl
theorem xor_flood {s k : Nat} (h : s.testBit k = false) : s ^^^ 2 ^ k = s ||| 2 ^ k := by
  apply Nat.eq_of_testBit_eq
  intro i
  rw [Nat.testBit_xor, Nat.testBit_or]
  by_cases hk : k = i
  · subst hk; rw [Nat.testBit_two_pow_self, h]; rfl
  · rw [Nat.testBit_two_pow_of_ne hk]; cases s.testBit i <;> rfl
theorem m_dig (h : MA T M A st) (k : Int) : opMA (f_X13_dig T k M) M (sp_dig A st k).1 (sp_dig A st k).2 := by
  have hA := h.1.1
  have h10 := hA.1.2.2.1
  obtain ⟨s1, s2, s3⟩ := WS.s10 hA h.1.2.1
  have hs : sM M (aup M 138 0 0) := sM_fl (by omega)
  have h1 := h.of hs
  unfold f_X13_dig sp_dig
  refine pM_bind rfl ?_
  refine pM_isWay h1.1 (fun hn => ?_) (fun k' hk hlt => ?_)
  · rw [if_neg hn]; exact pM_den (h.fin hs)
  · subst hk
    rw [if_pos (show inr ((k' : Nat) : Int) (A 0 2) from inr_of hlt), Int.toNat_natCast, show aup M 138 0 0 140 10 = ((sW st.1 : Nat) : Int) from (h1.1.2.2.2 10 (by decide)).trans s3]
    refine pM_bind (h_bit (by omega) (by omega)) ?_
    cases hb : (sW st.1).testBit k'
    · rw [if_neg (show ¬ false = true by decide)]
      exact pM_pos rfl (pM_den (h.fin hs))
    · rw [if_pos (show true = true from rfl), ← xor_dig hb]
      obtain ⟨Y, y1, y2⟩ := g_turns (T := T) h1 hlt
      refine pM_neg (by decide) (pM_bind y1 (pM_gra ⟨y2.1, y2.2.1, y2.2.2.1, (kM_sM hs).trans y2.2.2.2⟩))
theorem m_flood (h : MA T M A st) (k : Int) : opMA (f_X13_flood T k M) M (sp_flood A st k).1 (sp_flood A st k).2 := by
  have hA := h.1.1
  have h10 := hA.1.2.2.1
  obtain ⟨s1, s2, s3⟩ := WS.s10 hA h.1.2.1
  have hpop := WS.pop hA h.1.2.1
  have hs : sM M (aup M 138 0 0) := sM_fl (by omega)
  have h1 := h.of hs
  unfold f_X13_flood sp_flood
  refine pM_bind rfl ?_
  refine pM_isWay h1.1 (fun hn => ?_) (fun k' hk hlt => ?_)
  · rw [if_neg hn]; exact pM_den (h.fin hs)
  · subst hk
    rw [if_pos (show inr ((k' : Nat) : Int) (A 0 2) from inr_of hlt), Int.toNat_natCast, show aup M 138 0 0 140 10 = ((sW st.1 : Nat) : Int) from (h1.1.2.2.2 10 (by decide)).trans s3]
    refine pM_bind (h_bit (by omega) (by omega)) ?_
    cases hb : (sW st.1).testBit k'
    · rw [if_neg (show ¬ false = true by decide)]
      refine pM_pos rfl (pM_bind (g_bits (by omega)) ?_)
      by_cases h6 : cntp (sW st.1).testBit 16 < 6
      · rw [if_pos h6, ← xor_flood hb]
        obtain ⟨Y, y1, y2⟩ := g_turns (T := T) h1 hlt
        exact pM_neg (by omega) (pM_bind y1 (pM_gra ⟨y2.1, y2.2.1, y2.2.2.1, (kM_sM hs).trans y2.2.2.2⟩))
      · rw [if_neg h6]
        exact pM_pos (by omega) (pM_den (h.fin hs))
    · rw [if_pos (show true = true from rfl)]
      exact pM_neg (by decide) (pM_den (h.fin hs))
end Acm

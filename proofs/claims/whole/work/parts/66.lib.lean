/-! ===== calls that ask: what a call leaves, guards, loops that make sets and counts ===== -/
abbrev inr (v : Int) (n : Nat) : Prop := 0 ≤ v ∧ v < (n : Int)
theorem inr_nat {v : Int} {n : Nat} (h : inr v n) : ∃ c : Nat, v = (c : Int) ∧ c < n := ⟨v.toNat, by have := h.1; omega, by have := h.1; have := h.2; omega⟩
theorem inr_of {c n : Nat} (h : c < n) : inr (c : Int) n := ⟨by omega, by omega⟩
abbrev dS (S : Nat → Int) : Nat → Bool := dry (S 10).toNat
/-- the class, as far as calls that ask read it -/
def CQ (M : aM) (A : aA) (S : Nat → Int) : Prop := WF A ∧ WS A S ∧ CT M A ∧ CS M 35 A S ∧ LD M 39 A (dS S) ∧ LD M 42 A (dry (A 1 4))
/-- scratch cells alone are written -/
def sC (M M1 : aM) : Prop := ∀ n, n < 45 ∨ 58 < n → M1 n = M n
theorem sC.refl (M : aM) : sC M M := fun _ _ => rfl
theorem sC.trans {M M1 M2 : aM} (h : sC M M1) (h2 : sC M1 M2) : sC M M2 := fun n hn => (h2 n hn).trans (h n hn)
theorem sC_set {M : aM} {n : Nat} {f : Nat → Int} (h : 45 ≤ n ∧ n ≤ 58) : sC M (setc M n f) := fun m hm => setc_ne (by omega)
theorem sC_up {M : aM} {n k : Nat} {v : Int} (h : 45 ≤ n ∧ n ≤ 58) : sC M (aup M n k v) := fun m hm => aup_nc (by omega)
def qC (M M1 : aM) (tr : Int) : Prop := M1 0 14 = tr ∧ (∀ k, k ≠ 14 → M1 0 k = M 0 k) ∧ ∀ n, n ≠ 0 → (n < 45 ∨ 58 < n) → M1 n = M n
def opC (x : Option (Int × aM)) (M : aM) (r : Int × Int) : Prop := ∃ M1, x = some (r.1, M1) ∧ qC M M1 r.2
def gd (p : Prop) [Decidable p] (v why : Int) : Int × Int := if p then (v, 0) else (-1, why)
theorem gd_pos {p : Prop} [Decidable p] {v why : Int} (h : p) : gd p v why = (v, 0) := if_pos h
theorem gd_neg {p : Prop} [Decidable p] {v why : Int} (h : ¬ p) : gd p v why = (-1, why) := if_neg h
/-- the model, as far as calls that ask read it -/
def MD (T : Nat) (M : aM) (A : aA) (S : Nat → Int) : Prop := WF A ∧ WS A S ∧ ((A 0 0 = 0 ∧ M 138 3 = -1) ∨ (A 0 0 = 1 ∧ ∃ w, MV T M w A)) ∧ ∀ k, k < 12 → M 140 k = S k
def sM (M M1 : aM) : Prop := (∀ k, (k = 3 ∨ k = 1 ∨ k = 2 ∨ k = 4 ∨ k = 5 ∨ k = 6 ∨ k = 12 ∨ (15 < k ∧ k < 25) ∨ (26 < k ∧ k < 31) ∨ k = 34 ∨ k = 35) → M1 138 k = M 138 k) ∧ ∀ n, (n < 138 ∨ n = 139 ∨ n = 140 ∨ n = 142 ∨ n = 143 ∨ 152 < n) → M1 n = M n
theorem sM.refl (M : aM) : sM M M := ⟨fun _ _ => rfl, fun _ _ => rfl⟩
theorem sM.trans {M M1 M2 : aM} (h : sM M M1) (h2 : sM M1 M2) : sM M M2 := ⟨fun k hk => (h2.1 k hk).trans (h.1 k hk), fun n hn => (h2.2 n hn).trans (h.2 n hn)⟩
theorem sM_set {M : aM} {n : Nat} {f : Nat → Int} (h : n = 141 ∨ (143 < n ∧ n < 153)) : sM M (setc M n f) := ⟨fun k _ => by rw [setc_ne (by omega)], fun m hm => setc_ne (by omega)⟩
theorem sM_up {M : aM} {n k : Nat} {v : Int} (h : n = 141 ∨ (143 < n ∧ n < 153)) : sM M (aup M n k v) := by rw [aup_eq]; exact sM_set h
theorem sM_fl {M : aM} {k : Nat} {v : Int} (h : k = 0 ∨ k = 25 ∨ k = 26 ∨ k = 31 ∨ k = 32 ∨ k = 33 ∨ k = 36 ∨ k = 37) : sM M (aup M 138 k v) := ⟨fun q hq => aup_ne2 (by omega), fun m hm => aup_nc (by omega)⟩
theorem sM_lays {M : aM} {A : aA} {dr : Nat → Bool} : sM M (laysM M A dr) := (sM_set (by omega)).trans (sM_set (by omega))
theorem sM_works {M : aM} {A : aA} {dr : Nat → Bool} : sM M (worksM M A dr) := (sM_set (by omega)).trans sM_lays
def qM (M M1 : aM) (tr wh : Int) : Prop := M1 138 1 = tr ∧ M1 138 2 = wh ∧ (∀ k, (k = 3 ∨ k = 4 ∨ k = 5 ∨ k = 6 ∨ k = 12 ∨ (15 < k ∧ k < 25) ∨ (26 < k ∧ k < 31) ∨ k = 34 ∨ k = 35) → M1 138 k = M 138 k) ∧ ∀ n, (n < 138 ∨ n = 139 ∨ n = 140 ∨ n = 142 ∨ n = 143 ∨ 152 < n) → M1 n = M n
def opM (x : Option (Int × aM)) (M : aM) (r : Int × Int) : Prop := ∃ M1, x = some (r.1, M1) ∧ qM M M1 r.2 (-1)
section Ops
variable {α : Type} {A : aA} {S : Nat → Int} {T : Nat} {M M0 : aM} {r : Int × Int}
theorem oC_bind {o : Option α} {v : α} {f : α → Option (Int × aM)} (h : o = some v) (h2 : opC (f v) M r) : opC (o.bind f) M r := by rw [h]; exact h2
theorem oC_pos {c : Prop} [Decidable c] {x z : Option (Int × aM)} (hc : c) (h : opC x M r) : opC (if c then x else z) M r := by rw [if_pos hc]; exact h
theorem oC_neg {c : Prop} [Decidable c] {x z : Option (Int × aM)} (hc : ¬ c) (h : opC z M r) : opC (if c then x else z) M r := by rw [if_neg hc]; exact h
theorem oM_bind {o : Option α} {v : α} {f : α → Option (Int × aM)} (h : o = some v) (h2 : opM (f v) M r) : opM (o.bind f) M r := by rw [h]; exact h2
theorem oM_pos {c : Prop} [Decidable c] {x z : Option (Int × aM)} (hc : c) (h : opM x M r) : opM (if c then x else z) M r := by rw [if_pos hc]; exact h
theorem oM_neg {c : Prop} [Decidable c] {x z : Option (Int × aM)} (hc : ¬ c) (h : opM z M r) : opM (if c then x else z) M r := by rw [if_neg hc]; exact h
theorem qC_up {M1 : aM} {tr : Int} (h : sC M M1) : qC M (aup M1 0 14 tr) tr := ⟨aup_at, fun k hk => by rw [aup_ne2 hk, h 0 (by omega)], fun n hn h2 => by rw [aup_nc hn, h n h2]⟩
theorem oC_ref {w : Int} : opC ((f_X11_refuse T w M).bind fun x => some (x.1, x.2)) M (-1, w) := ⟨aup M 0 14 w, rfl, qC_up (sC.refl M)⟩
theorem oC_ref2 {w : Int} {M1 : aM} (h : sC M M1) : opC ((f_X11_refuse T w M1).bind fun x => some (x.1, x.2)) M (-1, w) := ⟨aup M1 0 14 w, rfl, qC_up h⟩
theorem oC_al {v : Int} {M1 : aM} (h : sC M M1) : opC ((f_X11_allow T v M1).bind fun x => some (x.1, x.2)) M (v, 0) := ⟨aup M1 0 14 0, rfl, qC_up h⟩
theorem qM_up {M1 : aM} {tr : Int} (h : sM M M1) : qM M (aup (aup M1 138 1 tr) 138 2 (-1)) tr (-1) := ⟨by rw [aup_ne2 (by decide)]; exact aup_at, aup_at, fun k hk => by rw [aup_ne2 (by omega), aup_ne2 (by omega), h.1 k (by omega)], fun n hn => by rw [aup_nc (by omega), aup_nc (by omega), h.2 n hn]⟩
theorem oM_ref {w : Int} {M1 : aM} (h : sM M M1) : opM ((f_X13_refused T w M1).bind fun x => some (x.1, x.2)) M (-1, w) := ⟨aup (aup M1 138 1 w) 138 2 (-1), rfl, qM_up h⟩
theorem oM_good {v : Int} {M1 : aM} (h : sM M M1) : opM ((f_X13_good T v M1).bind fun x => some (x.1, x.2)) M (v, 0) := ⟨aup (aup M1 138 1 0) 138 2 (-1), rfl, qM_up h⟩
theorem h_isCave (h : CT M A) (v : Int) : f_X11_isCave T v M = some (bI (decide (inr v (A 0 1)))) := by
  unfold f_X11_isCave
  rw [h.1 1 (by decide)]
  by_cases h1 : v < 0
  · rw [if_pos h1, decide_eq_false (by omega)]; rfl
  · rw [if_neg h1]
    by_cases h2 : (A 0 1 : Int) ≤ v
    · rw [if_pos h2, decide_eq_false (by omega)]; rfl
    · rw [if_neg h2, decide_eq_true (by omega)]; rfl
theorem oC_isCave (h : CT M A) {v : Int} {x y : Option (Int × aM)} (h1 : ¬ inr v (A 0 1) → opC x M0 r) (h2 : ∀ c : Nat, v = (c : Int) → c < A 0 1 → opC y M0 r) : opC ((f_X11_isCave T v M).bind fun z => if z = 0 then x else y) M0 r := by
  refine oC_bind (h_isCave h v) ?_
  by_cases hp : inr v (A 0 1)
  · rw [decide_eq_true hp]
    obtain ⟨c, hc, hl⟩ := inr_nat hp
    exact oC_neg (by decide) (h2 c hc hl)
  · rw [decide_eq_false hp]
    exact oC_pos rfl (h1 hp)
theorem h_isWay (h : CT M A) (v : Int) : f_X11_isWay T v M = some (bI (decide (inr v (A 0 2)))) := by
  unfold f_X11_isWay
  rw [h.1 2 (by decide)]
  by_cases h1 : v < 0
  · rw [if_pos h1, decide_eq_false (by omega)]; rfl
  · rw [if_neg h1]
    by_cases h2 : (A 0 2 : Int) ≤ v
    · rw [if_pos h2, decide_eq_false (by omega)]; rfl
    · rw [if_neg h2, decide_eq_true (by omega)]; rfl
theorem oC_isWay (h : CT M A) {v : Int} {x y : Option (Int × aM)} (h1 : ¬ inr v (A 0 2) → opC x M0 r) (h2 : ∀ c : Nat, v = (c : Int) → c < A 0 2 → opC y M0 r) : opC ((f_X11_isWay T v M).bind fun z => if z = 0 then x else y) M0 r := by
  refine oC_bind (h_isWay h v) ?_
  by_cases hp : inr v (A 0 2)
  · rw [decide_eq_true hp]
    obtain ⟨c, hc, hl⟩ := inr_nat hp
    exact oC_neg (by decide) (h2 c hc hl)
  · rw [decide_eq_false hp]
    exact oC_pos rfl (h1 hp)
theorem h_isVoice (h : CT M A) (v : Int) : f_X11_isVoice T v M = some (bI (decide (inr v (A 0 3)))) := by
  unfold f_X11_isVoice
  rw [h.1 3 (by decide)]
  by_cases h1 : v < 0
  · rw [if_pos h1, decide_eq_false (by omega)]; rfl
  · rw [if_neg h1]
    by_cases h2 : (A 0 3 : Int) ≤ v
    · rw [if_pos h2, decide_eq_false (by omega)]; rfl
    · rw [if_neg h2, decide_eq_true (by omega)]; rfl
theorem oC_isVoice (h : CT M A) {v : Int} {x y : Option (Int × aM)} (h1 : ¬ inr v (A 0 3) → opC x M0 r) (h2 : ∀ c : Nat, v = (c : Int) → c < A 0 3 → opC y M0 r) : opC ((f_X11_isVoice T v M).bind fun z => if z = 0 then x else y) M0 r := by
  refine oC_bind (h_isVoice h v) ?_
  by_cases hp : inr v (A 0 3)
  · rw [decide_eq_true hp]
    obtain ⟨c, hc, hl⟩ := inr_nat hp
    exact oC_neg (by decide) (h2 c hc hl)
  · rw [decide_eq_false hp]
    exact oC_pos rfl (h1 hp)
theorem h_isFolk (h : CT M A) (v : Int) : f_X11_isFolk T v M = some (bI (decide (inr v (A 0 4)))) := by
  unfold f_X11_isFolk
  rw [h.1 4 (by decide)]
  by_cases h1 : v < 0
  · rw [if_pos h1, decide_eq_false (by omega)]; rfl
  · rw [if_neg h1]
    by_cases h2 : (A 0 4 : Int) ≤ v
    · rw [if_pos h2, decide_eq_false (by omega)]; rfl
    · rw [if_neg h2, decide_eq_true (by omega)]; rfl
theorem oC_isFolk (h : CT M A) {v : Int} {x y : Option (Int × aM)} (h1 : ¬ inr v (A 0 4) → opC x M0 r) (h2 : ∀ c : Nat, v = (c : Int) → c < A 0 4 → opC y M0 r) : opC ((f_X11_isFolk T v M).bind fun z => if z = 0 then x else y) M0 r := by
  refine oC_bind (h_isFolk h v) ?_
  by_cases hp : inr v (A 0 4)
  · rw [decide_eq_true hp]
    obtain ⟨c, hc, hl⟩ := inr_nat hp
    exact oC_neg (by decide) (h2 c hc hl)
  · rw [decide_eq_false hp]
    exact oC_pos rfl (h1 hp)
theorem g_isCave (h : MD T M A S) (v : Int) : f_X13_isCave T v M = some (bI (decide (inr v (A 0 1)))) := by
  unfold f_X13_isCave
  rcases h.2.2.1 with ⟨h0, hn⟩ | ⟨h0, w, m1, m2, m3⟩
  · have hz := (h.1.2.2.2.2.2.2.2.2.2.1 h0).1 1
    rw [hn, if_pos (by decide), hz, decide_eq_false (by omega)]; rfl
  · rw [m1, if_neg (by omega), Int.toNat_natCast, m3.1.2.2.2.1]
    by_cases h1 : v < 0
    · rw [if_pos h1, decide_eq_false (by omega)]; rfl
    · rw [if_neg h1, if_pos m2]
      by_cases h2 : (A 0 1 : Int) ≤ v
      · rw [if_pos h2, decide_eq_false (by omega)]; rfl
      · rw [if_neg h2, decide_eq_true (by omega)]; rfl
theorem oM_isCave (h : MD T M A S) {v : Int} {x y : Option (Int × aM)} (h1 : ¬ inr v (A 0 1) → opM x M0 r) (h2 : ∀ c : Nat, v = (c : Int) → c < A 0 1 → opM y M0 r) : opM ((f_X13_isCave T v M).bind fun z => if z = 0 then x else y) M0 r := by
  refine oM_bind (g_isCave h v) ?_
  by_cases hp : inr v (A 0 1)
  · rw [decide_eq_true hp]
    obtain ⟨c, hc, hl⟩ := inr_nat hp
    exact oM_neg (by decide) (h2 c hc hl)
  · rw [decide_eq_false hp]
    exact oM_pos rfl (h1 hp)
theorem g_isWay (h : MD T M A S) (v : Int) : f_X13_isWay T v M = some (bI (decide (inr v (A 0 2)))) := by
  unfold f_X13_isWay
  rcases h.2.2.1 with ⟨h0, hn⟩ | ⟨h0, w, m1, m2, m3⟩
  · have hz := (h.1.2.2.2.2.2.2.2.2.2.1 h0).1 2
    rw [hn, if_pos (by decide), hz, decide_eq_false (by omega)]; rfl
  · rw [m1, if_neg (by omega), Int.toNat_natCast, m3.1.2.2.2.2.2.1]
    by_cases h1 : v < 0
    · rw [if_pos h1, decide_eq_false (by omega)]; rfl
    · rw [if_neg h1, if_pos m2]
      by_cases h2 : (A 0 2 : Int) ≤ v
      · rw [if_pos h2, decide_eq_false (by omega)]; rfl
      · rw [if_neg h2, decide_eq_true (by omega)]; rfl
theorem oM_isWay (h : MD T M A S) {v : Int} {x y : Option (Int × aM)} (h1 : ¬ inr v (A 0 2) → opM x M0 r) (h2 : ∀ c : Nat, v = (c : Int) → c < A 0 2 → opM y M0 r) : opM ((f_X13_isWay T v M).bind fun z => if z = 0 then x else y) M0 r := by
  refine oM_bind (g_isWay h v) ?_
  by_cases hp : inr v (A 0 2)
  · rw [decide_eq_true hp]
    obtain ⟨c, hc, hl⟩ := inr_nat hp
    exact oM_neg (by decide) (h2 c hc hl)
  · rw [decide_eq_false hp]
    exact oM_pos rfl (h1 hp)
theorem g_isVoice (h : MD T M A S) (v : Int) : f_X13_isVoice T v M = some (bI (decide (inr v (A 0 3)))) := by
  unfold f_X13_isVoice
  rcases h.2.2.1 with ⟨h0, hn⟩ | ⟨h0, w, m1, m2, m3⟩
  · have hz := (h.1.2.2.2.2.2.2.2.2.2.1 h0).1 3
    rw [hn, if_pos (by decide), hz, decide_eq_false (by omega)]; rfl
  · rw [m1, if_neg (by omega), Int.toNat_natCast, m3.1.2.2.2.2.2.2.2.1]
    by_cases h1 : v < 0
    · rw [if_pos h1, decide_eq_false (by omega)]; rfl
    · rw [if_neg h1, if_pos m2]
      by_cases h2 : (A 0 3 : Int) ≤ v
      · rw [if_pos h2, decide_eq_false (by omega)]; rfl
      · rw [if_neg h2, decide_eq_true (by omega)]; rfl
theorem oM_isVoice (h : MD T M A S) {v : Int} {x y : Option (Int × aM)} (h1 : ¬ inr v (A 0 3) → opM x M0 r) (h2 : ∀ c : Nat, v = (c : Int) → c < A 0 3 → opM y M0 r) : opM ((f_X13_isVoice T v M).bind fun z => if z = 0 then x else y) M0 r := by
  refine oM_bind (g_isVoice h v) ?_
  by_cases hp : inr v (A 0 3)
  · rw [decide_eq_true hp]
    obtain ⟨c, hc, hl⟩ := inr_nat hp
    exact oM_neg (by decide) (h2 c hc hl)
  · rw [decide_eq_false hp]
    exact oM_pos rfl (h1 hp)
theorem g_isFolk (h : MD T M A S) (v : Int) : f_X13_isFolk T v M = some (bI (decide (inr v (A 0 4)))) := by
  unfold f_X13_isFolk
  rcases h.2.2.1 with ⟨h0, hn⟩ | ⟨h0, w, m1, m2, m3⟩
  · have hz := (h.1.2.2.2.2.2.2.2.2.2.1 h0).1 4
    rw [hn, if_pos (by decide), hz, decide_eq_false (by omega)]; rfl
  · rw [m1, if_neg (by omega), Int.toNat_natCast, m3.1.2.2.2.2.2.2.2.2.1]
    by_cases h1 : v < 0
    · rw [if_pos h1, decide_eq_false (by omega)]; rfl
    · rw [if_neg h1, if_pos m2]
      by_cases h2 : (A 0 4 : Int) ≤ v
      · rw [if_pos h2, decide_eq_false (by omega)]; rfl
      · rw [if_neg h2, decide_eq_true (by omega)]; rfl
theorem oM_isFolk (h : MD T M A S) {v : Int} {x y : Option (Int × aM)} (h1 : ¬ inr v (A 0 4) → opM x M0 r) (h2 : ∀ c : Nat, v = (c : Int) → c < A 0 4 → opM y M0 r) : opM ((f_X13_isFolk T v M).bind fun z => if z = 0 then x else y) M0 r := by
  refine oM_bind (g_isFolk h v) ?_
  by_cases hp : inr v (A 0 4)
  · rw [decide_eq_true hp]
    obtain ⟨c, hc, hl⟩ := inr_nat hp
    exact oM_neg (by decide) (h2 c hc hl)
  · rw [decide_eq_false hp]
    exact oM_pos rfl (h1 hp)
theorem MD.has (h : MD T M A S) (h1 : 0 < A 0 0 ∨ 0 < A 0 1 ∨ 0 < A 0 2 ∨ 0 < A 0 3 ∨ 0 < A 0 4 ∨ 0 < A 0 5 ∨ 0 < A 0 6 ∨ 0 < A 0 7) : ∃ w, MV T M w A := by
  rcases h.2.2.1 with ⟨h0, hn⟩ | ⟨h0, w, hm⟩
  · have hz := (h.1.2.2.2.2.2.2.2.2.2.1 h0).1
    have := hz 0; have := hz 1; have := hz 2; have := hz 3; have := hz 4; have := hz 5; have := hz 6; have := hz 7
    omega
  · exact ⟨w, hm⟩
theorem mq_same {M1 : aM} (h : MD T M A S) (h1 : M1 138 3 = M 138 3) (h2 : M1 140 = M 140) (h3 : ∀ n, 152 < n → M1 n = M n) : MD T M1 A S := by
  obtain ⟨a, b, c, d⟩ := h
  refine ⟨a, b, ?_, fun k hk => by rw [h2]; exact d k hk⟩
  rcases c with ⟨c1, c2⟩ | ⟨c1, w, m1, m2, m3⟩
  · exact Or.inl ⟨c1, h1.trans c2⟩
  · exact Or.inr ⟨c1, w, h1.trans m1, m2, mw_cells (fun k _ => h3 _ (by have := m2.1; omega)) m3⟩
theorem MD.of {M1 : aM} (h : MD T M A S) (h1 : sM M M1) : MD T M1 A S := mq_same h (h1.1 3 (by omega)) (h1.2 140 (by omega)) (fun n hn => h1.2 n (by omega))
theorem MV.of {M1 : aM} {w : Nat} (h : MV T M w A) (h1 : sM M M1) : MV T M1 w A := by
  have hg := h.ge
  obtain ⟨m1, m2, m3⟩ := h
  exact ⟨(h1.1 3 (by omega)).trans m1, m2, mw_cells (fun k _ => h1.2 _ (by omega)) m3⟩
theorem WS.wet (h : WS A S) : ∃ s : Nat, S 10 = (s : Int) ∧ (S 10).toNat = s := ⟨(S 10).toNat, by have := h.2.2.1.1; omega, rfl⟩
theorem pw31 {n m : Nat} (h : n < 2 ^ m) (hm : m ≤ 31) : n < 2147483648 := Nat.lt_of_lt_of_le h (Nat.pow_le_pow_right (n := 2) (by decide) hm)
theorem WS.lt (hA : WF A) (h : WS A S) : (S 10).toNat < 2147483648 := pw31 h.2.2.1.2.1 (by have := hA.1.2.2.1; omega)
theorem WF.wet (hA : WF A) : A 1 4 < 2147483648 := pw31 hA.2.1.2.2.2.2.1 (by have := hA.1.2.2.1; omega)
/-- what the model works on -/
theorem MD.works (h : MD T M A S) {w : Nat} (hm : MV T M w A) : f_X13_works T M = some (0, worksM M A (dS S)) := h_works h.1 hm (WS.lt h.1 h.2.1) (by rw [h.2.2.2 10 (by decide)]; have := h.2.1.2.2.1.1; omega)
theorem aor_0 {a : Nat} (h : a < 2147483648) : aor (a : Int) 0 = (a : Int) := by
  have := aor_nat (b := 0) h (by decide)
  rw [Nat.or_zero] at this
  exact this
/-- a loop that makes a set -/
theorem mask_loop (l : Nat → Int → Int → Option α) (N : Nat) (p : Nat → Bool) {y : Option α} (hN : N < 31) (hs : ∀ i n, i < N → l (n + 1) ((msk p i : Nat) : Int) (i : Int) = l n (if p i = true then aor ((msk p i : Nat) : Int) (ashl 1 (i : Int)) else ((msk p i : Nat) : Int)) ((i : Int) + 1)) (he : ∀ n, l (n + 1) ((msk p N : Nat) : Int) (N : Int) = y) : l FU 0 0 = y := by
  refine for_until (fun i n => l n ((msk p i : Nat) : Int) (i : Int)) N (fun i n hi => ?_) he (by omega)
  show l (n + 1) ((msk p i : Nat) : Int) (i : Int) = l n ((msk p (i + 1) : Nat) : Int) ((i + 1 : Nat) : Int)
  rw [hs i n hi, msk_step (by omega) (p i) rfl]
  rfl
/-- a loop that counts -/
theorem cnt_loop (l : Nat → Int → Int → Option α) (N : Nat) (p : Nat → Bool) {y : Option α} (hN : N < 99999) (hs : ∀ i n, i < N → l (n + 1) ((cntp p i : Nat) : Int) (i : Int) = l n (if p i = true then ((cntp p i : Nat) : Int) + 1 else ((cntp p i : Nat) : Int)) ((i : Int) + 1)) (he : ∀ n, l (n + 1) ((cntp p N : Nat) : Int) (N : Int) = y) : l FU 0 0 = y := by
  refine for_until (fun i n => l n ((cntp p i : Nat) : Int) (i : Int)) N (fun i n hi => ?_) he (by omega)
  show l (n + 1) ((cntp p i : Nat) : Int) (i : Int) = l n ((cntp p (i + 1) : Nat) : Int) ((i + 1 : Nat) : Int)
  rw [hs i n hi]
  have e : cntp p (i + 1) = cntp p i + (if p i then 1 else 0) := rfl
  rw [e]
  cases p i
  · rfl
  · rfl
/-- a loop that looks for the first -/
theorem find_loop (l : Nat → Int → Option α) (N : Nat) (p : Nat → Bool) (rr : Nat → Option α) {y : Option α} (hN : N < 99999) (hs : ∀ i n, i < N → p i = false → l (n + 1) (i : Int) = l n ((i : Int) + 1)) (hf : ∀ i n, i < N → p i = true → l (n + 1) (i : Int) = rr i) (he : ∀ n, l (n + 1) (N : Int) = y) : l FU 0 = if fst p N < N then rr (fst p N) else y := by
  have hle := fst_le p N
  refine for_until (fun i n => l n (i : Int)) (fst p N) (fun i n hi => ?_) (fun n => ?_) (by omega)
  · show l (n + 1) (i : Int) = l n ((i + 1 : Nat) : Int)
    rw [hs i n (by omega) (fst_no p N i hi)]
    rfl
  · show l (n + 1) ((fst p N : Nat) : Int) = _
    by_cases h : fst p N < N
    · rw [if_pos h]; exact hf _ n h (fst_yes p N h)
    · rw [if_neg h, show fst p N = N by omega]; exact he n
end Ops

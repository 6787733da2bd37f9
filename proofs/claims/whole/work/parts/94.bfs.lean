/-! ===== caves brought to: an order of finding, and the way there ===== -/
theorem while_inv {α σ : Type} (l : Nat → Nat → σ → Option α) (R : Nat → σ → Prop) (st : Nat → σ → Prop) (B : Nat) (hB : B < 99999) (hs : ∀ i n s, R i s → ¬ st i s → ∃ s', R (i + 1) s' ∧ l (n + 1) i s = l n (i + 1) s') (he : ∀ i s, B ≤ i → R i s → st i s) (s : σ) (h0 : R 0 s) : ∃ q s' n, R q s' ∧ st q s' ∧ l FU 0 s = l (n + 1) q s' := by
  have key : ∀ j i n s, B ≤ i + j → R i s → ∃ q s' n', R q s' ∧ st q s' ∧ l (n + j + 1) i s = l (n' + 1) q s' := by
    intro j
    induction j with
    | zero => intro i n s hb hr; exact ⟨i, s, n, hr, he i s (by omega) hr, rfl⟩
    | succ j ih =>
      intro i n s hb hr
      by_cases h : st i s
      · exact ⟨i, s, n + (j + 1), hr, h, rfl⟩
      · obtain ⟨s', h1, h2⟩ := hs i (n + j + 1) s hr h
        obtain ⟨q, s2, n', h3, h4, h5⟩ := ih (i + 1) n s' (by omega) h1
        exact ⟨q, s2, n', h3, h4, by rw [← h5, ← h2]; rfl⟩
  obtain ⟨q, s', n', h1, h2, h3⟩ := key B 0 (99999 - B) s (by omega) h0
  refine ⟨q, s', n', h1, h2, ?_⟩
  rw [← h3, show FU = 99999 - B + B + 1 by unfold FU; omega]
/-- one call from a cave -/
def gm (N : Nat) (mo : Nat → Bool) (stp : Nat → Nat → Nat) (y x : Nat) : Bool := decide (y < N) && exb (fun m => mo m && decide (stp y m = x)) N
theorem gm_iff {N : Nat} {mo : Nat → Bool} {stp : Nat → Nat → Nat} {y x : Nat} : gm N mo stp y x = true ↔ y < N ∧ ∃ m, m < N ∧ mo m = true ∧ stp y m = x := by
  unfold gm
  rw [Bool.and_eq_true, decide_eq_true_eq, exb_iff]
  simp only [Bool.and_eq_true, decide_eq_true_eq]
theorem stg_left {g : Nat → Nat → Bool} {c y : Nat} (hc : c < 8) (h : g c y = true) : ∀ i x, stg g y i x = true → stg g c (i + 1) x = true
  | 0, x, e => by
    rw [of_decide_eq_true e]
    exact (stg_iff 0 y).mpr (Or.inr ⟨c, hc, decide_eq_true rfl, h⟩)
  | i + 1, x, e => by
    rcases (stg_iff i x).mp e with e | ⟨z, hz, h1, h2⟩
    · exact stg_up _ _ (stg_left hc h i x e)
    · exact (stg_iff (i + 1) x).mpr (Or.inr ⟨z, hz, stg_left hc h i z h1, h2⟩)
def flp (g : Nat → Nat → Bool) (a b : Nat) : Bool := g b a
theorem stg_flp1 {g : Nat → Nat → Bool} {x : Nat} : ∀ i c, c < 8 → stg (flp g) x i c = true → stg g c i x = true
  | 0, c, _, e => by rw [of_decide_eq_true e]; exact decide_eq_true rfl
  | i + 1, c, hc, e => by
    rcases (stg_iff i c).mp e with e | ⟨y, hy, h1, h2⟩
    · exact stg_up _ _ (stg_flp1 i c hc e)
    · exact stg_left hc h2 i x (stg_flp1 i y hy h1)
theorem stg_flp {g : Nat → Nat → Bool} {x c : Nat} (hx : x < 8) (hc : c < 8) (i : Nat) : stg (flp g) x i c = stg g c i x := bool_ext ⟨stg_flp1 i c hc, fun h => stg_flp1 (g := flp g) i x hx h⟩
/-- found so far, up to a place of the order -/
def BT (N s : Nat) (mo : Nat → Bool) (stp : Nat → Nat → Nat) (n cur : Nat) (o ky lev : Nat → Nat) : Prop :=
  (1 ≤ n ∧ o 0 = s ∧ lev 0 = 0) ∧ (∀ j, j < n → o j < N) ∧ (∀ i j, i < j → j < n → o i ≠ o j) ∧
  (∀ j, 0 < j → j < n → ky j / 8 < j ∧ ky j % 8 < N ∧ mo (ky j % 8) = true ∧ stp (o (ky j / 8)) (ky j % 8) = o j ∧ lev j = lev (ky j / 8) + 1 ∧ ky j < cur) ∧
  (∀ i j, 0 < i → i < j → j < n → ky i < ky j) ∧
  ∀ q, q < cur → q / 8 < n → q % 8 < N → mo (q % 8) = true → ∃ j, j < n ∧ o j = stp (o (q / 8)) (q % 8) ∧ (j = 0 ∨ ky j ≤ q)
section Bfs
variable {N s n cur : Nat} {mo : Nat → Bool} {stp : Nat → Nat → Nat} {o ky lev : Nat → Nat}
theorem BT.le (h : BT N s mo stp n cur o ky lev) : n ≤ N := fb_holes N n o h.2.1 h.2.2.1
theorem BT.inj (h : BT N s mo stp n cur o ky lev) {i j : Nat} (hi : i < n) (hj : j < n) (e : o i = o j) : i = j := by
  rcases Nat.lt_trichotomy i j with h1 | h1 | h1
  · exact absurd e (h.2.2.1 i j h1 hj)
  · exact h1
  · exact absurd e.symm (h.2.2.1 j i h1 hi)
theorem BT.levj (h : BT N s mo stp n cur o ky lev) : ∀ j, j < n → lev j ≤ j := by
  intro j
  induction j using Nat.strongRecOn with
  | _ j ih =>
    intro hj
    by_cases h0 : j = 0
    · rw [h0, h.1.2.2]; exact Nat.le_refl _
    · obtain ⟨h1, -, -, -, h5, -⟩ := h.2.2.2.1 j (by omega) hj
      have := ih _ h1 (by omega)
      omega
theorem BT.lev0 (h : BT N s mo stp n cur o ky lev) {j : Nat} (hj : j < n) (e : lev j = 0) : j = 0 := by
  by_cases h0 : j = 0
  · exact h0
  · obtain ⟨h1, -, -, -, h5, -⟩ := h.2.2.2.1 j (by omega) hj
    omega
theorem BT.pam (h : BT N s mo stp n cur o ky lev) {i j : Nat} (h0 : 0 < i) (hij : i ≤ j) (hj : j < n) : ky i / 8 ≤ ky j / 8 := by
  by_cases e : i = j
  · rw [e]; exact Nat.le_refl _
  · have := h.2.2.2.2.1 i j h0 (by omega) hj
    omega
theorem BT.levm (h : BT N s mo stp n cur o ky lev) : ∀ j, j < n → ∀ i, i ≤ j → lev i ≤ lev j := by
  intro j
  induction j using Nat.strongRecOn with
  | _ j ih =>
    intro hj i hi
    by_cases h0 : i = 0
    · rw [h0, h.1.2.2]; exact Nat.zero_le _
    · obtain ⟨h1, -, -, -, h5, -⟩ := h.2.2.2.1 j (by omega) hj
      obtain ⟨g1, -, -, -, g5, -⟩ := h.2.2.2.1 i (by omega) (by omega)
      have := ih _ h1 (by omega) _ (h.pam (by omega) hi hj)
      omega
/-- a mouth that isn't one, or one that leads to a cave found -/
theorem BT.skip (h : BT N s mo stp n cur o ky lev) (h1 : cur / 8 < n → cur % 8 < N → mo (cur % 8) = true → ∃ j, j < n ∧ o j = stp (o (cur / 8)) (cur % 8)) : BT N s mo stp n (cur + 1) o ky lev := by
  obtain ⟨a, b, c, d, e, f⟩ := h
  refine ⟨a, b, c, fun j h0 hj => ?_, e, fun q hq g1 g2 g3 => ?_⟩
  · obtain ⟨d1, d2, d3, d4, d5, d6⟩ := d j h0 hj
    exact ⟨d1, d2, d3, d4, d5, by omega⟩
  · by_cases hq2 : q = cur
    · subst hq2
      obtain ⟨j, hj, e1⟩ := h1 g1 g2 g3
      refine ⟨j, hj, e1, ?_⟩
      by_cases h0 : j = 0
      · exact Or.inl h0
      · exact Or.inr (by have := (d j (by omega) hj).2.2.2.2.2; omega)
    · exact f q (by omega) g1 g2 g3
theorem BT.skips (h : BT N s mo stp n cur o ky lev) : ∀ j, (∀ q, cur ≤ q → q < cur + j → ¬ q % 8 < N) → BT N s mo stp n (cur + j) o ky lev
  | 0, _ => h
  | j + 1, hq => BT.skip (BT.skips h j (fun q h1 h2 => hq q h1 (by omega))) (fun _ g2 => absurd g2 (hq (cur + j) (by omega) (by omega)))
def updn (f : Nat → Nat) (n v : Nat) : Nat → Nat := fun j => if j = n then v else f j
theorem updn_at {f : Nat → Nat} {n v : Nat} : updn f n v n = v := if_pos rfl
theorem updn_ne {f : Nat → Nat} {n v j : Nat} (h : j ≠ n) : updn f n v j = f j := if_neg h
/-- one more found -/
theorem BT.add (h : BT N s mo stp n cur o ky lev) (h1 : cur / 8 < n) (h2 : cur % 8 < N) (h3 : mo (cur % 8) = true) (h4 : stp (o (cur / 8)) (cur % 8) < N) (h5 : ∀ j, j < n → o j ≠ stp (o (cur / 8)) (cur % 8)) : BT N s mo stp (n + 1) (cur + 1) (updn o n (stp (o (cur / 8)) (cur % 8))) (updn ky n cur) (updn lev n (lev (cur / 8) + 1)) := by
  obtain ⟨a, b, c, d, e, f⟩ := h
  refine ⟨⟨by omega, by rw [updn_ne (by omega)]; exact a.2.1, by rw [updn_ne (by omega)]; exact a.2.2⟩, fun j hj => ?_, fun i j hij hj => ?_, fun j h0 hj => ?_, fun i j h0 hij hj => ?_, fun q hq g1 g2 g3 => ?_⟩
  · by_cases hn : j = n
    · rw [hn, updn_at]; exact h4
    · rw [updn_ne hn]; exact b j (by omega)
  · rw [updn_ne (show i ≠ n by omega)]
    by_cases hn : j = n
    · rw [hn, updn_at]; exact h5 i (by omega)
    · rw [updn_ne hn]; exact c i j hij (by omega)
  · by_cases hn : j = n
    · subst hn
      rw [updn_at, updn_at, updn_at, updn_ne (show cur / 8 ≠ j by omega), updn_ne (show cur / 8 ≠ j by omega)]
      exact ⟨h1, h2, h3, rfl, rfl, by omega⟩
    · obtain ⟨d1, d2, d3, d4, d5, d6⟩ := d j h0 (by omega)
      rw [updn_ne hn, updn_ne hn, updn_ne hn, updn_ne (show ky j / 8 ≠ n by omega), updn_ne (show ky j / 8 ≠ n by omega)]
      exact ⟨d1, d2, d3, d4, d5, by omega⟩
  · rw [updn_ne (show i ≠ n by omega)]
    by_cases hn : j = n
    · rw [hn, updn_at]; exact (d i h0 (by omega)).2.2.2.2.2
    · rw [updn_ne hn]; exact e i j h0 hij (by omega)
  · by_cases hq2 : q = cur
    · subst hq2
      refine ⟨n, by omega, ?_, Or.inr (by rw [updn_at]; exact Nat.le_refl _)⟩
      rw [updn_at, updn_ne (by omega)]
    · have g4 : q / 8 < n := by omega
      obtain ⟨j, hj, e1, e2⟩ := f q (by omega) g4 g2 g3
      refine ⟨j, by omega, ?_, ?_⟩
      · rw [updn_ne (by omega), updn_ne (by omega)]; exact e1
      · rw [updn_ne (by omega)]; exact e2
/-- what a call leads to, once all is found -/
theorem BT.next (h : BT N s mo stp n (8 * n) o ky lev) (h8 : N ≤ 8) {x m : Nat} (hx : x < n) (hm : m < N) (hmo : mo m = true) : ∃ z, z < n ∧ o z = stp (o x) m ∧ lev z ≤ lev x + 1 ∧ (z = 0 ∨ ky z ≤ 8 * x + m) := by
  have e1 : (8 * x + m) / 8 = x := by omega
  have e2 : (8 * x + m) % 8 = m := by omega
  obtain ⟨z, hz, h1, h2⟩ := h.2.2.2.2.2 (8 * x + m) (by omega) (by omega) (by omega) (by rw [e2]; exact hmo)
  rw [e1, e2] at h1
  refine ⟨z, hz, h1, ?_, h2⟩
  by_cases h0 : z = 0
  · rw [h0, h.1.2.2]; exact Nat.zero_le _
  · obtain ⟨d1, -, -, -, d5, -⟩ := h.2.2.2.1 z (by omega) hz
    have h3 : ky z / 8 ≤ x := by omega
    have := h.levm x hx _ h3
    omega
theorem BT.into (h : BT N s mo stp n (8 * n) o ky lev) (h8 : N ≤ 8) : ∀ k x, stg (gm N mo stp) s k x = true → ∃ z, z < n ∧ o z = x ∧ lev z ≤ k
  | 0, x, e => ⟨0, h.1.1, by rw [of_decide_eq_true e]; exact h.1.2.1, by rw [h.1.2.2]; exact Nat.le_refl _⟩
  | k + 1, x, e => by
    rcases (stg_iff k x).mp e with e | ⟨y, hy, h1, h2⟩
    · obtain ⟨z, g1, g2, g3⟩ := BT.into h h8 k x e
      exact ⟨z, g1, g2, by omega⟩
    · obtain ⟨z, g1, g2, g3⟩ := BT.into h h8 k y h1
      obtain ⟨-, m, hm, hmo, hst⟩ := gm_iff.mp h2
      obtain ⟨z2, f1, f2, f3, -⟩ := h.next h8 g1 hm hmo
      exact ⟨z2, f1, by rw [f2, g2, hst], by omega⟩
theorem BT.outof (h : BT N s mo stp n cur o ky lev) (h8 : N ≤ 8) : ∀ j, j < n → stg (gm N mo stp) s (lev j) (o j) = true := by
  intro j
  induction j using Nat.strongRecOn with
  | _ j ih =>
    intro hj
    by_cases h0 : j = 0
    · rw [h0, h.1.2.2, h.1.2.1]; exact decide_eq_true rfl
    · obtain ⟨h1, h2, h3, h4, h5, -⟩ := h.2.2.2.1 j (by omega) hj
      have h6 := ih _ h1 (by omega)
      have h7 := h.2.1 (ky j / 8) (by omega)
      rw [h5]
      exact (stg_iff _ _).mpr (Or.inr ⟨o (ky j / 8), by omega, h6, gm_iff.mpr ⟨h7, ky j % 8, h2, h3, h4⟩⟩)
theorem BT.rank (h : BT N s mo stp n (8 * n) o ky lev) (h8 : N ≤ 8) {j : Nat} (hj : j < n) : fst (fun k => stg (gm N mo stp) s k (o j)) 8 = lev j := by
  have := h.levj j hj
  have := h.le
  refine fst_eq (by omega) (h.outof h8 j hj) fun k hk => ?_
  cases e : stg (gm N mo stp) s k (o j)
  · rfl
  · obtain ⟨z, h1, h2, h3⟩ := h.into h8 k _ e
    have := h.inj h1 hj h2
    subst this
    omega
theorem BT.none (h : BT N s mo stp n (8 * n) o ky lev) (h8 : N ≤ 8) {x : Nat} (hx : ∀ j, j < n → o j ≠ x) : fst (fun k => stg (gm N mo stp) s k x) 8 = 8 := by
  refine fst_none fun k _ => ?_
  cases e : stg (gm N mo stp) s k x
  · rfl
  · obtain ⟨z, h1, h2, -⟩ := h.into h8 k _ e
    exact absurd h2 (hx z h1)
/-- how many calls are left to a cave -/
def lfc (N : Nat) (mo : Nat → Bool) (stp : Nat → Nat → Nat) (t c : Nat) : Nat := fst (fun k => stg (flp (gm N mo stp)) t k c) 8
/-- the first call of a shortest row of them -/
def fcl (N : Nat) (mo : Nat → Bool) (stp : Nat → Nat → Nat) (t c : Nat) : Nat := fst (fun m => mo m && decide (lfc N mo stp t (stp c m) + 1 = lfc N mo stp t c)) N
def cpt (N : Nat) (mo : Nat → Bool) (stp : Nat → Nat → Nat) (t s : Nat) : Nat → Nat
  | 0 => s
  | i + 1 => stp (cpt N mo stp t s i) (fcl N mo stp t (cpt N mo stp t s i))
/-- those ahead of one -/
def anc (ky : Nat → Nat) (j : Nat) : Nat → Nat
  | 0 => j
  | k + 1 => ky (anc ky j k) / 8
theorem BT.ancs (h : BT N s mo stp n cur o ky lev) {j : Nat} (hj : j < n) : ∀ k, k ≤ lev j → anc ky j k < n ∧ lev (anc ky j k) + k = lev j
  | 0, _ => ⟨hj, rfl⟩
  | k + 1, hk => by
    obtain ⟨h1, h2⟩ := BT.ancs h hj k (by omega)
    have h0 : anc ky j k ≠ 0 := fun e => by rw [e, h.1.2.2] at h2; omega
    obtain ⟨d1, -, -, -, d5, -⟩ := h.2.2.2.1 _ (by omega) h1
    show ky (anc ky j k) / 8 < n ∧ lev (ky (anc ky j k) / 8) + (k + 1) = lev j
    exact ⟨by omega, by omega⟩
theorem lfc_lt {t c k : Nat} (h : stg (flp (gm N mo stp)) t k c = true) (hk : k < 8) : lfc N mo stp t c ≤ k := by
  unfold lfc
  rcases Nat.lt_or_ge k (fst (fun k => stg (flp (gm N mo stp)) t k c) 8) with h1 | h1
  · have := fst_no _ _ k h1
    rw [h] at this; cases this
  · exact h1
theorem lfc_is {t c : Nat} (h : lfc N mo stp t c < 8) : stg (flp (gm N mo stp)) t (lfc N mo stp t c) c = true := fst_yes _ _ h
theorem stg_join {g : Nat → Nat → Bool} {s c : Nat} {i : Nat} (h : stg g s i c = true) : ∀ k x, stg g c k x = true → stg g s (i + k) x = true
  | 0, x, e => by rw [of_decide_eq_true e]; exact h
  | k + 1, x, e => by
    rcases (stg_iff k x).mp e with e | ⟨y, hy, h1, h2⟩
    · exact stg_up _ _ (stg_join h k x e)
    · exact (stg_iff _ _).mpr (Or.inr ⟨y, hy, stg_join h k y h1, h2⟩)
/-- no shorter row of calls than by the order -/
theorem BT.short (h : BT N s mo stp n (8 * n) o ky lev) (h8 : N ≤ 8) {j x k : Nat} (hj : j < n) (hx : x < n) (e : stg (flp (gm N mo stp)) (o j) k (o x) = true) : lev j ≤ lev x + k := by
  have b1 := h.2.1 j hj
  have b2 := h.2.1 x hx
  rw [stg_flp (by omega) (by omega)] at e
  have h1 := stg_join (h.outof h8 x hx) k _ e
  obtain ⟨z, g1, g2, g3⟩ := h.into h8 _ _ h1
  have := h.inj g1 hj g2
  subst this
  exact g3
theorem BT.alft (h : BT N s mo stp n (8 * n) o ky lev) (h8 : N ≤ 8) {j : Nat} (hj : j < n) : ∀ k, k ≤ lev j → stg (flp (gm N mo stp)) (o j) k (o (anc ky j k)) = true ∧ lfc N mo stp (o j) (o (anc ky j k)) = k := by
  have hle := h.levj j hj
  have hn := h.le
  have h1 : ∀ k, k ≤ lev j → stg (flp (gm N mo stp)) (o j) k (o (anc ky j k)) = true := by
    intro k
    induction k with
    | zero => intro _; exact decide_eq_true rfl
    | succ k ih =>
      intro hk
      obtain ⟨g1, g2⟩ := BT.ancs h hj k (by omega)
      have h0 : anc ky j k ≠ 0 := fun e => by rw [e, h.1.2.2] at g2; omega
      obtain ⟨d1, d2, d3, d4, -, -⟩ := h.2.2.2.1 _ (by omega) g1
      have b1 := h.2.1 _ g1
      have b2 := h.2.1 (ky (anc ky j k) / 8) (by omega)
      exact (stg_iff k _).mpr (Or.inr ⟨o (anc ky j k), by omega, ih (by omega), gm_iff.mpr ⟨b2, _, d2, d3, d4⟩⟩)
  intro k hk
  refine ⟨h1 k hk, ?_⟩
  obtain ⟨g1, g2⟩ := BT.ancs h hj k hk
  have h2 := lfc_lt (h1 k hk) (by omega)
  have h3 := lfc_is (N := N) (mo := mo) (stp := stp) (t := o j) (c := o (anc ky j k)) (by omega)
  have h4 := h.short h8 hj g1 h3
  omega
theorem BT.least (h : BT N s mo stp n (8 * n) o ky lev) (h8 : N ≤ 8) {j : Nat} (hj : j < n) : ∀ k x, x < n → lev x + k = lev j → stg (flp (gm N mo stp)) (o j) k (o x) = true → anc ky j k ≤ x
  | 0, x, hx, _, e => by
    have h1 := of_decide_eq_true e
    have := h.inj hx hj h1
    show j ≤ x
    omega
  | k + 1, x, hx, hl, e => by
    rcases (stg_iff k _).mp e with e | ⟨y, hy, h1, h2⟩
    · have := h.short h8 hj hx e
      omega
    · obtain ⟨-, m, hm, hmo, hst⟩ := gm_iff.mp h2
      obtain ⟨z, z1, z2, z3, z4⟩ := h.next h8 hx hm hmo
      have e2 : o z = y := by rw [z2, hst]
      rw [← e2] at h1
      have h3 := h.short h8 hj z1 h1
      have h4 := BT.least h h8 hj k z z1 (by omega) h1
      obtain ⟨a1, a2⟩ := BT.ancs h hj k (by omega)
      have h0 : anc ky j k ≠ 0 := fun e => by rw [e, h.1.2.2] at a2; omega
      have h5 := h.pam (by omega) h4 z1
      show ky (anc ky j k) / 8 ≤ x
      omega
/-- the row of calls by the order is the first of the shortest -/
theorem BT.path (h : BT N s mo stp n (8 * n) o ky lev) (h8 : N ≤ 8) {j : Nat} (hj : j < n) : ∀ i, i ≤ lev j → cpt N mo stp (o j) s i = o (anc ky j (lev j - i)) ∧ (i < lev j → fcl N mo stp (o j) (o (anc ky j (lev j - i))) = ky (anc ky j (lev j - (i + 1))) % 8)
  | i, hi => by
    have hle := h.levj j hj
    have hn := h.le
    have second : i < lev j → fcl N mo stp (o j) (o (anc ky j (lev j - i))) = ky (anc ky j (lev j - (i + 1))) % 8 := by
      intro hi2
      have ek : lev j - i = (lev j - (i + 1)) + 1 := by omega
      obtain ⟨b1, b2⟩ := BT.ancs h hj (lev j - (i + 1)) (by omega)
      obtain ⟨a1, a2⟩ := BT.ancs h hj (lev j - i) (by omega)
      have l1 := (h.alft h8 hj (lev j - (i + 1)) (by omega)).2
      have l2 := (h.alft h8 hj (lev j - i) (by omega)).2
      have h0 : anc ky j (lev j - (i + 1)) ≠ 0 := fun e => by rw [e, h.1.2.2] at b2; omega
      obtain ⟨d1, d2, d3, d4, d5, -⟩ := h.2.2.2.1 _ (by omega) b1
      have ea : anc ky j (lev j - i) = ky (anc ky j (lev j - (i + 1))) / 8 := by rw [ek]; rfl
      unfold fcl
      refine fst_eq d2 ?_ fun m hm => ?_
      · rw [d3, ea, d4, l1, ← ea, l2, Bool.true_and]
        exact decide_eq_true (by omega)
      · cases e : (mo m && decide (lfc N mo stp (o j) (stp (o (anc ky j (lev j - i))) m) + 1 = lfc N mo stp (o j) (o (anc ky j (lev j - i)))))
        · rfl
        · rw [Bool.and_eq_true, decide_eq_true_eq, l2] at e
          obtain ⟨z, z1, z2, z3, z4⟩ := h.next h8 a1 (by omega) e.1
          rw [← z2] at e
          have e3 := lfc_is (N := N) (mo := mo) (stp := stp) (t := o j) (c := o z) (by omega)
          rw [show lfc N mo stp (o j) (o z) = lev j - (i + 1) by omega] at e3
          have h3 := h.short h8 hj z1 e3
          have h4 := h.least h8 hj _ z z1 (by omega) e3
          have hz0 : 0 < z := by omega
          have h5 : ky (anc ky j (lev j - (i + 1))) ≤ ky z := by
            by_cases hq : anc ky j (lev j - (i + 1)) = z
            · rw [hq]; exact Nat.le_refl _
            · exact Nat.le_of_lt (h.2.2.2.2.1 _ z (by omega) (by omega) z1)
          omega
    refine ⟨?_, second⟩
    cases i with
    | zero =>
      obtain ⟨a1, a2⟩ := BT.ancs h hj (lev j) (Nat.le_refl _)
      have := h.lev0 a1 (by omega)
      show s = o (anc ky j (lev j - 0))
      rw [Nat.sub_zero, this]; exact h.1.2.1.symm
    | succ i =>
      obtain ⟨p1, p2⟩ := BT.path h h8 hj i (by omega)
      have ek : lev j - i = (lev j - (i + 1)) + 1 := by omega
      obtain ⟨b1, b2⟩ := BT.ancs h hj (lev j - (i + 1)) (by omega)
      have h0 : anc ky j (lev j - (i + 1)) ≠ 0 ∨ lev j - (i + 1) = lev j := by
        by_cases e : anc ky j (lev j - (i + 1)) = 0
        · right; rw [e, h.1.2.2] at b2; omega
        · exact Or.inl e
      have h0 : anc ky j (lev j - (i + 1)) ≠ 0 := by rcases h0 with h0 | h0; exact h0; omega
      obtain ⟨d1, d2, d3, d4, d5, -⟩ := h.2.2.2.1 _ (by omega) b1
      have ea : anc ky j (lev j - i) = ky (anc ky j (lev j - (i + 1))) / 8 := by rw [ek]; rfl
      show stp (cpt N mo stp (o j) s i) (fcl N mo stp (o j) (cpt N mo stp (o j) s i)) = _
      rw [p1, p2 (by omega), ea, d4]
end Bfs

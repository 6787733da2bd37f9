/-! ===== bring, bringAt, reach: the class ===== -/
section Brl
variable {N t : Nat} {mo : Nat → Bool} {stp : Nat → Nat → Nat}
/-- one cave's calls lessened by the first mouths, and whether they were -/
def lcs (mo : Nat → Bool) (stp : Nat → Nat → Nat) (V : Nat → Nat) (c : Nat) : Nat → (Nat → Nat) × Bool
  | 0 => (V, false)
  | m + 1 => if (mo m && decide ((lcs mo stp V c m).1 (stp c m) + 1 < (lcs mo stp V c m).1 c)) = true then (updn (lcs mo stp V c m).1 c ((lcs mo stp V c m).1 (stp c m) + 1), true) else lcs mo stp V c m
def pas (N : Nat) (mo : Nat → Bool) (stp : Nat → Nat → Nat) (V : Nat → Nat) : Nat → (Nat → Nat) × Bool
  | 0 => (V, false)
  | c + 1 => ((lcs mo stp (pas N mo stp V c).1 c N).1, (pas N mo stp V c).2 || (lcs mo stp (pas N mo stp V c).1 c N).2)
def pss (N : Nat) (mo : Nat → Bool) (stp : Nat → Nat → Nat) (V : Nat → Nat) : Nat → Nat → Nat
  | 0 => V
  | i + 1 => (pas N mo stp (pss N mo stp V i) N).1
def psf (N : Nat) (mo : Nat → Bool) (stp : Nat → Nat → Nat) (V : Nat → Nat) : Nat → Bool
  | 0 => true
  | i + 1 => (pas N mo stp (pss N mo stp V i) N).2
theorem lcs_le (V : Nat → Nat) (c x : Nat) : ∀ m, (lcs mo stp V c m).1 x ≤ V x
  | 0 => Nat.le_refl _
  | m + 1 => by
    have ih := lcs_le V c x m
    unfold lcs
    split
    · rename_i h
      rw [Bool.and_eq_true, decide_eq_true_eq] at h
      show updn (lcs mo stp V c m).1 c _ x ≤ V x
      unfold updn
      split
      · rename_i e; subst e; omega
      · exact ih
    · exact ih
theorem lcs_rel (V : Nat → Nat) (c : Nat) : ∀ m m', m' < m → mo m' = true → (lcs mo stp V c m).1 c ≤ V (stp c m') + 1
  | 0, m', h, _ => absurd h (Nat.not_lt_zero _)
  | m + 1, m', h, hmo => by
    have h1 := lcs_le (mo := mo) (stp := stp) V c (stp c m) m
    unfold lcs
    split
    · rename_i hq
      rw [Bool.and_eq_true, decide_eq_true_eq] at hq
      show updn (lcs mo stp V c m).1 c _ c ≤ _
      rw [updn_at]
      by_cases e : m' = m
      · subst e; omega
      · have := lcs_rel V c m m' (by omega) hmo; omega
    · rename_i hq
      by_cases e : m' = m
      · subst e
        rw [hmo, Bool.true_and, decide_eq_true_eq] at hq
        omega
      · exact lcs_rel V c m m' (by omega) hmo
theorem lcs_flag (V : Nat → Nat) (c : Nat) : ∀ m, (lcs mo stp V c m).2 = false → (lcs mo stp V c m).1 = V
  | 0, _ => rfl
  | m + 1, h => by
    unfold lcs at h ⊢
    split at h
    · cases h
    · rename_i hq
      rw [if_neg hq]
      exact lcs_flag V c m h
/-- what is told is so -/
def tru (N : Nat) (mo : Nat → Bool) (stp : Nat → Nat → Nat) (t : Nat) (V : Nat → Nat) : Prop := (∀ x, V x ≤ 1000000) ∧ ∀ x, V x < 1000000 → stg (flp (gm N mo stp)) t (V x) x = true
theorem lcs_tru (h8 : N ≤ 8) (hst : ∀ c m, c < N → m < N → stp c m < N) {V : Nat → Nat} (hV : tru N mo stp t V) {c : Nat} (hc : c < N) : ∀ m, m ≤ N → tru N mo stp t (lcs mo stp V c m).1
  | 0, _ => hV
  | m + 1, hm => by
    obtain ⟨i1, i2⟩ := lcs_tru h8 hst hV hc m (by omega)
    unfold lcs
    split
    · rename_i hq
      rw [Bool.and_eq_true, decide_eq_true_eq] at hq
      have b1 := i1 c
      have hs := hst c m hc (by omega)
      refine ⟨fun x => ?_, fun x => ?_⟩
      · show updn (lcs mo stp V c m).1 c _ x ≤ 1000000
        unfold updn
        split
        · omega
        · exact i1 x
      · show updn (lcs mo stp V c m).1 c _ x < 1000000 → stg _ t (updn (lcs mo stp V c m).1 c _ x) x = true
        unfold updn
        split
        · rename_i e
          subst e
          intro hx
          have h1 := i2 (stp x m) (by omega)
          exact (stg_iff _ _).mpr (Or.inr ⟨stp x m, by omega, h1, gm_iff.mpr ⟨hc, m, by omega, hq.1, rfl⟩⟩)
        · exact i2 x
    · exact ⟨i1, i2⟩
theorem pas_le (V : Nat → Nat) (x : Nat) : ∀ c, (pas N mo stp V c).1 x ≤ V x
  | 0 => Nat.le_refl _
  | c + 1 => Nat.le_trans (lcs_le _ _ _ _) (pas_le V x c)
theorem pas_rel (V : Nat → Nat) : ∀ c c' m, c' < c → m < N → mo m = true → (pas N mo stp V c).1 c' ≤ V (stp c' m) + 1
  | 0, c', m, h, _, _ => absurd h (Nat.not_lt_zero _)
  | c + 1, c', m, h, hm, hmo => by
    show (lcs mo stp (pas N mo stp V c).1 c N).1 c' ≤ _
    by_cases e : c' = c
    · subst e
      have h1 := lcs_rel (mo := mo) (stp := stp) (pas N mo stp V c').1 c' N m hm hmo
      have h2 := pas_le (N := N) (mo := mo) (stp := stp) V (stp c' m) c'
      omega
    · exact Nat.le_trans (lcs_le _ _ _ _) (pas_rel V c c' m (by omega) hm hmo)
theorem pas_flag (V : Nat → Nat) : ∀ c, (pas N mo stp V c).2 = false → (pas N mo stp V c).1 = V
  | 0, _ => rfl
  | c + 1, h => by
    have h1 : ((pas N mo stp V c).2 || (lcs mo stp (pas N mo stp V c).1 c N).2) = false := h
    rw [Bool.or_eq_false_iff] at h1
    show (lcs mo stp (pas N mo stp V c).1 c N).1 = V
    rw [lcs_flag _ _ _ h1.2, pas_flag V c h1.1]
theorem pas_tru (h8 : N ≤ 8) (hst : ∀ c m, c < N → m < N → stp c m < N) {V : Nat → Nat} (hV : tru N mo stp t V) : ∀ c, c ≤ N → tru N mo stp t (pas N mo stp V c).1
  | 0, _ => hV
  | c + 1, hc => lcs_tru h8 hst (pas_tru h8 hst hV c (by omega)) (by omega) N (Nat.le_refl _)
theorem pss_tru (h8 : N ≤ 8) (hst : ∀ c m, c < N → m < N → stp c m < N) {V : Nat → Nat} (hV : tru N mo stp t V) : ∀ i, tru N mo stp t (pss N mo stp V i)
  | 0 => hV
  | i + 1 => pas_tru h8 hst (pss_tru h8 hst hV i) N (Nat.le_refl _)
def setd (N : Nat) (mo : Nat → Bool) (stp : Nat → Nat → Nat) (t : Nat) (V : Nat → Nat) (i : Nat) : Prop := ∀ x, x < 8 → stg (flp (gm N mo stp)) t i x = true → V x ≤ i
theorem pss_set {V : Nat → Nat} (h0 : V t = 0) : ∀ i, setd N mo stp t (pss N mo stp V i) i
  | 0 => fun x _ e => by rw [of_decide_eq_true e]; show V t ≤ 0; omega
  | i + 1 => fun x hx e => by
    have ih := pss_set h0 i
    rcases (stg_iff i x).mp e with e | ⟨y, hy, h1, h2⟩
    · have h3 := ih x hx e
      have h4 := pas_le (N := N) (mo := mo) (stp := stp) (pss N mo stp V i) x N
      show (pas N mo stp (pss N mo stp V i) N).1 x ≤ i + 1
      omega
    · obtain ⟨hxN, m, hm, hmo, hst⟩ := gm_iff.mp h2
      have h3 := ih y hy h1
      have h4 := pas_rel (N := N) (mo := mo) (stp := stp) (pss N mo stp V i) N x m hxN hm hmo
      rw [hst] at h4
      show (pas N mo stp (pss N mo stp V i) N).1 x ≤ i + 1
      omega
theorem pss_all {V : Nat → Nat} (h0 : V t = 0) {i : Nat} (hf : psf N mo stp V (i + 1) = false) : pss N mo stp V (i + 1) = pss N mo stp V i ∧ ∀ k, setd N mo stp t (pss N mo stp V i) k := by
  have he := pas_flag _ _ hf
  refine ⟨he, fun k => ?_⟩
  have h00 : pss N mo stp V i t = 0 := by
    have : ∀ j, pss N mo stp V j t ≤ V t := by
      intro j
      induction j with
      | zero => exact Nat.le_refl _
      | succ j ih => exact Nat.le_trans (pas_le _ _ _) ih
    have := this i
    omega
  induction k with
  | zero => intro x _ e; rw [of_decide_eq_true e, h00]; exact Nat.le_refl _
  | succ k ih =>
    intro x hx e
    rcases (stg_iff k x).mp e with e | ⟨y, hy, h1, h2⟩
    · have := ih x hx e; omega
    · obtain ⟨hxN, m, hm, hmo, hst⟩ := gm_iff.mp h2
      have h3 := ih y hy h1
      have h4 := pas_rel (N := N) (mo := mo) (stp := stp) (pss N mo stp V i) N x m hxN hm hmo
      rw [hst, he] at h4
      omega
def clb (n : Nat) : Nat := if n < 8 then n else 1000000
theorem lfc_le (t c : Nat) : lfc N mo stp t c ≤ 8 := fst_le _ _
theorem set_is {V : Nat → Nat} (ht : t < 8) (h1 : tru N mo stp t V) (h2 : ∀ k, k ≤ 8 → setd N mo stp t V k) {x : Nat} (hx : x < 8) : V x = clb (lfc N mo stp t x) := by
  have hle := lfc_le (N := N) (mo := mo) (stp := stp) t x
  unfold clb
  by_cases h : lfc N mo stp t x < 8
  · rw [if_pos h]
    have h3 := h2 _ hle x hx (lfc_is h)
    have h4 := lfc_lt (h1.2 x (by omega)) (by omega)
    omega
  · rw [if_neg h]
    have h3 := h1.1 x
    by_cases h5 : V x < 1000000
    · have h6 := stg_8 ht hx (h1.2 x h5)
      rw [stg_end ht (by decide) x hx] at h6
      have := lfc_lt h6 (by decide)
      omega
    · omega
theorem pss_end {V : Nat → Nat} (h8 : N ≤ 8) (hst : ∀ c m, c < N → m < N → stp c m < N) (ht : t < 8) (hV : tru N mo stp t V) (h0 : V t = 0) {q : Nat} (hq : q = 8 ∨ (psf N mo stp V q = false)) {x : Nat} (hx : x < 8) : pss N mo stp V q x = clb (lfc N mo stp t x) := by
  refine set_is ht (pss_tru h8 hst hV q) (fun k hk => ?_) hx
  rcases hq with hq | hq
  · subst hq
    intro y hy e
    have h1 := pss_set (N := N) (mo := mo) (stp := stp) h0 8
    rcases Nat.lt_or_ge k 8 with h2 | h2
    · have h3 : setd N mo stp t (pss N mo stp V 8) k := by
        intro z hz ez
        have h4 := pss_set (N := N) (mo := mo) (stp := stp) h0 k z hz ez
        have h5 : ∀ j, pss N mo stp V (k + j) z ≤ pss N mo stp V k z := by
          intro j
          induction j with
          | zero => exact Nat.le_refl _
          | succ j ih => exact Nat.le_trans (pas_le _ _ _) ih
        have h6 := h5 (8 - k)
        rw [show k + (8 - k) = 8 by omega] at h6
        omega
      exact h3 y hy e
    · rw [show k = 8 by omega] at e ⊢
      exact h1 y hy e
  · cases q with
    | zero => cases hq
    | succ q =>
      have := pss_all (t := t) h0 hq
      rw [this.1]
      exact this.2 k
theorem fcl_ok (h8 : N ≤ 8) {c : Nat} (h1 : 0 < lfc N mo stp t c) (h2 : lfc N mo stp t c < 8) : c < N ∧ fcl N mo stp t c < N ∧ mo (fcl N mo stp t c) = true ∧ lfc N mo stp t (stp c (fcl N mo stp t c)) + 1 = lfc N mo stp t c := by
  have h3 := lfc_is h2
  obtain ⟨d, hd⟩ : ∃ d, lfc N mo stp t c = d + 1 := ⟨lfc N mo stp t c - 1, by omega⟩
  rw [hd] at h3
  have h4 : ∃ y, y < 8 ∧ stg (flp (gm N mo stp)) t d y = true ∧ flp (gm N mo stp) y c = true := by
    rcases (stg_iff d c).mp h3 with e | e
    · have := lfc_lt e (by omega); omega
    · exact e
  obtain ⟨y, hy, e1, e2⟩ := h4
  obtain ⟨hc, m, hm, hmo, hst⟩ := gm_iff.mp e2
  have h5 := lfc_lt e1 (by omega)
  have h6 : d ≤ lfc N mo stp t y := by
    have h7 := lfc_is (N := N) (mo := mo) (stp := stp) (t := t) (c := y) (by omega)
    have h8 := (stg_iff (lfc N mo stp t y) c).mpr (Or.inr ⟨y, hy, h7, e2⟩)
    have := lfc_lt h8 (by omega)
    omega
  have hp : (mo m && decide (lfc N mo stp t (stp c m) + 1 = lfc N mo stp t c)) = true := by
    rw [hmo, hst, Bool.true_and]
    exact decide_eq_true (by omega)
  have hlt : fcl N mo stp t c < N := by
    unfold fcl
    rcases Nat.lt_or_ge m (fst (fun m => mo m && decide (lfc N mo stp t (stp c m) + 1 = lfc N mo stp t c)) N) with h | h
    · have := fst_no _ _ m h
      rw [hp] at this; cases this
    · omega
  have hy2 := fst_yes _ _ hlt
  have hy3 : mo (fcl N mo stp t c) = true ∧ lfc N mo stp t (stp c (fcl N mo stp t c)) + 1 = lfc N mo stp t c := by
    have : (mo (fcl N mo stp t c) && decide (lfc N mo stp t (stp c (fcl N mo stp t c)) + 1 = lfc N mo stp t c)) = true := hy2
    rw [Bool.and_eq_true, decide_eq_true_eq] at this
    exact this
  exact ⟨hc, hlt, hy3.1, hy3.2⟩
theorem cpt_ok (h8 : N ≤ 8) (hst : ∀ c m, c < N → m < N → stp c m < N) {s : Nat} (hs : s < N) (h2 : lfc N mo stp t s < 8) : ∀ i, i ≤ lfc N mo stp t s → cpt N mo stp t s i < N ∧ lfc N mo stp t (cpt N mo stp t s i) + i = lfc N mo stp t s
  | 0, _ => ⟨hs, Nat.add_zero _⟩
  | i + 1, hi => by
    obtain ⟨h3, h4⟩ := cpt_ok h8 hst hs h2 i (by omega)
    obtain ⟨-, f2, f3, f4⟩ := fcl_ok (N := N) (mo := mo) (stp := stp) (t := t) h8 (c := cpt N mo stp t s i) (by omega) (by omega)
    show stp (cpt N mo stp t s i) (fcl N mo stp t (cpt N mo stp t s i)) < N ∧ lfc N mo stp t (stp (cpt N mo stp t s i) (fcl N mo stp t (cpt N mo stp t s i))) + (i + 1) = _
    exact ⟨hst _ _ h3 f2, by omega⟩
end Brl
section Brc
variable {A : aA} {S : Nat → Int} {T w : Nat} {M M0 : aM} {dr : Nat → Bool}
abbrev mth (A : aA) (m : Nat) : Bool := (A 1 3).testBit m
theorem h_isMouth (hA : WF A) (hC : CT M A) {m : Nat} (hm : m < 8) : f_X1_isMouth T (m : Int) M = some (bI (mth A m)) := by
  have h256 := hA.2.1.2.2.2.1
  unfold f_X1_isMouth
  rw [hC.2.1.2.2.2.1]
  refine c_bind (h_hasBit (by omega) (by omega)) ?_
  show (if bI ((A 1 3).testBit m) = 0 ∨ bI ((A 1 3).testBit m) = 1 then some (bI ((A 1 3).testBit m)) else none) = some (bI ((A 1 3).testBit m))
  cases (A 1 3).testBit m <;> rfl
theorem h_lessens (h : CQ M A S) {kd c : Nat} (hc : c < A 0 1) {V : Nat → Nat} (hV : ∀ x, V x ≤ 1000000) {g : Nat → Int} : f_X1_lessensCalls T (kd : Int) (c : Int) (setc M 51 (ovr g 8 V)) = some (bI (lcs (mth A) (cst A (dS S) kd) V c (A 0 1)).2, setc M 51 (ovr g 8 (lcs (mth A) (cst A (dS S) kd) V c (A 0 1)).1)) := by
  have hA := h.1
  have h8 := hA.1.2.1
  unfold f_X1_lessensCalls
  refine for_until (fun i n => l_X1_lessensCalls_5 T (kd : Int) (c : Int) (fun w16 w17 m19 => if w16 = 0 ∨ w16 = 1 then some (w16, m19) else none) n (bI (lcs (mth A) (cst A (dS S) kd) V c i).2) (i : Int) (setc M 51 (ovr g 8 (lcs (mth A) (cst A (dS S) kd) V c i).1))) (A 0 1) (fun i n hi => ?_) (fun n => ?_) (by omega)
  · show l_X1_lessensCalls_5 T (kd : Int) (c : Int) _ (n + 1) _ (i : Int) _ = l_X1_lessensCalls_5 T (kd : Int) (c : Int) _ n (bI (if (mth A i && decide ((lcs (mth A) (cst A (dS S) kd) V c i).1 (cst A (dS S) kd c i) + 1 < (lcs (mth A) (cst A (dS S) kd) V c i).1 c)) = true then (updn (lcs (mth A) (cst A (dS S) kd) V c i).1 c ((lcs (mth A) (cst A (dS S) kd) V c i).1 (cst A (dS S) kd c i) + 1), true) else lcs (mth A) (cst A (dS S) kd) V c i).2) ((i + 1 : Nat) : Int) (setc M 51 (ovr g 8 (if (mth A i && decide ((lcs (mth A) (cst A (dS S) kd) V c i).1 (cst A (dS S) kd c i) + 1 < (lcs (mth A) (cst A (dS S) kd) V c i).1 c)) = true then (updn (lcs (mth A) (cst A (dS S) kd) V c i).1 c ((lcs (mth A) (cst A (dS S) kd) V c i).1 (cst A (dS S) kd c i) + 1), true) else lcs (mth A) (cst A (dS S) kd) V c i).1))
    have b1 := lcs_le (mo := mth A) (stp := cst A (dS S) kd) V c (cst A (dS S) kd c i) i
    have b2 := hV (cst A (dS S) kd c i)
    generalize lcs (mth A) (cst A (dS S) kd) V c i = p at b1 ⊢
    have hZ : CQ (setc M 51 (ovr g 8 p.1)) A S := h.of (sC_set (by decide))
    have e3 : setc M 51 (ovr g 8 p.1) 3 1 = (A 0 1 : Int) := hZ.2.2.1.1 1 (by decide)
    have e51 : setc M 51 (ovr g 8 p.1) 51 = ovr g 8 p.1 := setc_at
    rw [l_X1_lessensCalls_5, e3, e51]
    refine c_neg (by omega) (c_bind (h_isMouth hA hZ.2.2.1 (by omega)) ?_)
    cases hm : mth A i
    · rw [Bool.false_and, if_neg Bool.false_ne_true]
      exact c_pos rfl (c_ite (by omega) rfl)
    · have hlt := cst_lt (dr := dS S) (kind := kd) (t := i) hA hc
      rw [Bool.true_and]
      refine c_neg (by decide) (c_bind (h_callStep hA hZ.2.2.1 hZ.2.2.2.2.1 hc hi) (c_ite (by omega) ?_))
      rw [Int.toNat_natCast, Int.toNat_natCast, ovr_at (show cst A (dS S) kd c i < 8 by omega), ovr_at (show c < 8 by omega)]
      refine c_ite (by omega) (c_ite (by omega) ?_)
      by_cases hl : p.1 (cst A (dS S) kd c i) + 1 < p.1 c
      · rw [decide_eq_true hl, if_pos rfl]
        refine c_neg (by omega) (c_some (c_ite (by omega) ?_))
        rw [aup_setc]
        have e : (fun b => if b = c then ((p.1 (cst A (dS S) kd c i) : Nat) : Int) + 1 else ovr g 8 p.1 b) = ovr g 8 (updn p.1 c (p.1 (cst A (dS S) kd c i) + 1)) := ovr_up (show c < 8 by omega)
        rw [e]
        rfl
      · rw [decide_eq_false hl, if_neg Bool.false_ne_true]
        exact c_pos (by omega) (c_ite (by omega) rfl)
  · have hZ : CQ (setc M 51 (ovr g 8 (lcs (mth A) (cst A (dS S) kd) V c (A 0 1)).1)) A S := h.of (sC_set (by decide))
    show l_X1_lessensCalls_5 T (kd : Int) (c : Int) _ (n + 1) _ ((A 0 1 : Nat) : Int) _ = _
    rw [l_X1_lessensCalls_5, hZ.2.2.1.1 1 (by decide)]
    refine c_pos (Int.le_refl _) ?_
    cases (lcs (mth A) (cst A (dS S) kd) V c (A 0 1)).2 <;> rfl
theorem h_calls50 (h : CQ M A S) {v : Nat} (hv : v < A 0 3) {V : Nat → Nat} (hV : ∀ x, V x ≤ 1000000) {g : Nat → Int} {v4 : Int} (kk : Int → Int → aM → Option (Int × aM)) : l_X1_callsNeeded_50 T (v : Int) v4 kk FU 0 0 (setc M 51 (ovr g 8 V)) = kk (bI (pas (A 0 1) (mth A) (cst A (dS S) (A 5 v)) V (A 0 1)).2) (A 0 1) (setc M 51 (ovr g 8 (pas (A 0 1) (mth A) (cst A (dS S) (A 5 v)) V (A 0 1)).1)) := by
  have hA := h.1
  have h8 := hA.1.2.1
  have h3 := hA.1.2.2.2.1
  refine for_until (fun i n => l_X1_callsNeeded_50 T (v : Int) v4 kk n (bI (pas (A 0 1) (mth A) (cst A (dS S) (A 5 v)) V i).2) (i : Int) (setc M 51 (ovr g 8 (pas (A 0 1) (mth A) (cst A (dS S) (A 5 v)) V i).1))) (A 0 1) (fun i n hi => ?_) (fun n => ?_) (by omega)
  · show l_X1_callsNeeded_50 T (v : Int) v4 kk (n + 1) _ (i : Int) _ = l_X1_callsNeeded_50 T (v : Int) v4 kk n (bI ((pas (A 0 1) (mth A) (cst A (dS S) (A 5 v)) V i).2 || (lcs (mth A) (cst A (dS S) (A 5 v)) (pas (A 0 1) (mth A) (cst A (dS S) (A 5 v)) V i).1 i (A 0 1)).2)) ((i + 1 : Nat) : Int) (setc M 51 (ovr g 8 (lcs (mth A) (cst A (dS S) (A 5 v)) (pas (A 0 1) (mth A) (cst A (dS S) (A 5 v)) V i).1 i (A 0 1)).1))
    have b1 : ∀ x, (pas (A 0 1) (mth A) (cst A (dS S) (A 5 v)) V i).1 x ≤ 1000000 := fun x => Nat.le_trans (pas_le V x i) (hV x)
    generalize pas (A 0 1) (mth A) (cst A (dS S) (A 5 v)) V i = p at b1 ⊢
    have hZ : CQ (setc M 51 (ovr g 8 p.1)) A S := h.of (sC_set (by decide))
    rw [l_X1_callsNeeded_50, hZ.2.2.1.1 1 (by decide), Int.toNat_natCast, (hZ.2.2.1.2.2.2.2.1 v hv).1]
    refine c_neg (by omega) (c_ite (by omega) (c_bind (h_lessens h hi b1) ?_))
    cases (lcs (mth A) (cst A (dS S) (A 5 v)) p.1 i (A 0 1)).2
    · rw [Bool.or_false]
      exact c_pos rfl (c_ite (by omega) rfl)
    · rw [Bool.or_true]
      exact c_neg (show ¬ bI true = 0 by decide) (c_ite (by omega) rfl)
  · have hZ : CQ (setc M 51 (ovr g 8 (pas (A 0 1) (mth A) (cst A (dS S) (A 5 v)) V (A 0 1)).1)) A S := h.of (sC_set (by decide))
    show l_X1_callsNeeded_50 T (v : Int) v4 kk (n + 1) _ ((A 0 1 : Nat) : Int) _ = _
    rw [l_X1_callsNeeded_50, hZ.2.2.1.1 1 (by decide)]
    exact c_pos (Int.le_refl _) rfl
abbrev lfv (A : aA) (S : Nat → Int) (v t c : Nat) : Nat := lfc (A 0 1) (mth A) (cst A (dS S) (A 5 v)) t c
theorem h_calls2 {v1 v2 : Int} (kk : Int → aM → Option (Int × aM)) : l_X1_callsNeeded_2 T v1 v2 kk FU 0 M = kk 8 (setc M 51 (ovr (M 51) 8 (fun _ => 1000000))) := by
  have e0 : setc M 51 (ovr (M 51) 0 (fun _ => 1000000)) = M := by
    rw [show ovr (M 51) 0 (fun _ => 1000000) = M 51 from funext fun b => if_neg (Nat.not_lt_zero b)]
    exact setc_self
  have key := for_until (fun i n => l_X1_callsNeeded_2 T v1 v2 kk n (i : Int) (setc M 51 (ovr (M 51) i (fun _ => 1000000)))) (y := kk 8 (setc M 51 (ovr (M 51) 8 (fun _ => 1000000)))) 8 (fun i n hi => ?_) (fun n => ?_) (by decide)
  · have e1 : l_X1_callsNeeded_2 T v1 v2 kk FU 0 (setc M 51 (ovr (M 51) 0 (fun _ => 1000000))) = _ := key
    rw [e0] at e1
    exact e1
  · show l_X1_callsNeeded_2 T v1 v2 kk (n + 1) (i : Int) _ = l_X1_callsNeeded_2 T v1 v2 kk n ((i + 1 : Nat) : Int) _
    rw [l_X1_callsNeeded_2]
    refine c_neg (by omega) (c_ite (by omega) (c_some (c_ite (by omega) ?_)))
    rw [Int.toNat_natCast, aup_setc]
    have e : (fun b => if b = i then (1000000 : Int) else ovr (M 51) i (fun _ => 1000000) b) = ovr (M 51) (i + 1) (fun _ => 1000000) := by
      funext b
      unfold ovr
      by_cases h1 : b = i
      · rw [if_pos h1, if_pos (by omega)]; rfl
      · rw [if_neg h1]
        by_cases h2 : b < i
        · rw [if_pos h2, if_pos (by omega)]
        · rw [if_neg h2, if_neg (by omega)]
    rw [e]
    rfl
  · show l_X1_callsNeeded_2 T v1 v2 kk (n + 1) 8 _ = _
    rw [l_X1_callsNeeded_2]
    exact c_pos (by decide) rfl
theorem h_callsNeeded (h : CQ M A S) {v t : Nat} (hv : v < A 0 3) (ht : t < A 0 1) : f_X1_callsNeeded T (v : Int) (t : Int) M = some ((clb (lfv A S v t (S v).toNat) : Int), setc M 51 (ovr (M 51) 8 (fun x => clb (lfv A S v t x)))) := by
  have hA := h.1
  have h8 := hA.1.2.1
  have h3 := hA.1.2.2.2.1
  obtain ⟨c, hc, hlt⟩ := h.2.1.vo hv
  have hst : ∀ c m, c < A 0 1 → m < A 0 1 → cst A (dS S) (A 5 v) c m < A 0 1 := fun c m hc _ => cst_lt hA hc
  unfold f_X1_callsNeeded
  rw [h_calls2]
  refine c_ite (by omega) (c_some ?_)
  rw [show ((t : Int)).toNat = t from Int.toNat_natCast t, aup_setc]
  have e0 : (fun b => if b = t then (0 : Int) else ovr (M 51) 8 (fun _ => 1000000) b) = ovr (M 51) 8 (row0 1000000 t) := ovr_up (x := 0) (V := fun _ => 1000000) (show t < 8 by omega)
  rw [e0]
  have hV0 : tru (A 0 1) (mth A) (cst A (dS S) (A 5 v)) t (row0 1000000 t) := by
    refine ⟨fun x => ?_, fun x => ?_⟩
    · unfold row0; split <;> omega
    · unfold row0
      split
      · rename_i e; intro _; rw [e]; exact decide_eq_true rfl
      · intro hx; omega
  have h00 : row0 1000000 t t = 0 := if_pos rfl
  have key := for_until (fun i n => l_X1_callsNeeded_34 T (v : Int) (fun w31 w32 m35 => if 0 ≤ (v : Int) ∧ (v : Int) < 3 then if 0 ≤ (m35 36 (v : Int).toNat) ∧ (m35 36 (v : Int).toNat) < 8 then some ((m35 51 ((m35 36 (v : Int).toNat)).toNat), m35) else none else none) n (bI (psf (A 0 1) (mth A) (cst A (dS S) (A 5 v)) (row0 1000000 t) i)) (i : Int) (setc M 51 (ovr (M 51) 8 (pss (A 0 1) (mth A) (cst A (dS S) (A 5 v)) (row0 1000000 t) i)))) (y := some ((clb (lfv A S v t (S v).toNat) : Int), setc M 51 (ovr (M 51) 8 (fun x => clb (lfv A S v t x))))) (fst (fun i => !psf (A 0 1) (mth A) (cst A (dS S) (A 5 v)) (row0 1000000 t) i) 8) (fun i n hi => ?_) (fun n => ?_) ?_
  · exact key
  · have hq := fst_le (fun i => !psf (A 0 1) (mth A) (cst A (dS S) (A 5 v)) (row0 1000000 t) i) 8
    have hn := fst_no (fun i => !psf (A 0 1) (mth A) (cst A (dS S) (A 5 v)) (row0 1000000 t) i) 8 i hi
    have hn2 : psf (A 0 1) (mth A) (cst A (dS S) (A 5 v)) (row0 1000000 t) i = true := by
      cases hp : psf (A 0 1) (mth A) (cst A (dS S) (A 5 v)) (row0 1000000 t) i
      · rw [hp] at hn; cases hn
      · rfl
    show l_X1_callsNeeded_34 T (v : Int) _ (n + 1) _ (i : Int) _ = l_X1_callsNeeded_34 T (v : Int) _ n (bI (pas (A 0 1) (mth A) (cst A (dS S) (A 5 v)) (pss (A 0 1) (mth A) (cst A (dS S) (A 5 v)) (row0 1000000 t) i) (A 0 1)).2) ((i + 1 : Nat) : Int) (setc M 51 (ovr (M 51) 8 (pas (A 0 1) (mth A) (cst A (dS S) (A 5 v)) (pss (A 0 1) (mth A) (cst A (dS S) (A 5 v)) (row0 1000000 t) i) (A 0 1)).1))
    rw [l_X1_callsNeeded_34, hn2]
    refine c_neg (by omega) (c_neg (by decide) ?_)
    rw [h_calls50 h hv (pss_tru h8 hst hV0 i).1]
    exact c_ite (by omega) rfl
  · have hq := fst_le (fun i => !psf (A 0 1) (mth A) (cst A (dS S) (A 5 v)) (row0 1000000 t) i) 8
    have hy := fst_yes (fun i => !psf (A 0 1) (mth A) (cst A (dS S) (A 5 v)) (row0 1000000 t) i) 8
    generalize fst (fun i => !psf (A 0 1) (mth A) (cst A (dS S) (A 5 v)) (row0 1000000 t) i) 8 = q at hq hy ⊢
    have hq2 : q = 8 ∨ psf (A 0 1) (mth A) (cst A (dS S) (A 5 v)) (row0 1000000 t) q = false := by
      by_cases hq8 : q < 8
      · have := hy hq8
        cases hp : psf (A 0 1) (mth A) (cst A (dS S) (A 5 v)) (row0 1000000 t) q
        · exact Or.inr rfl
        · rw [hp] at this; cases this
      · exact Or.inl (by omega)
    have hend : ovr (M 51) 8 (pss (A 0 1) (mth A) (cst A (dS S) (A 5 v)) (row0 1000000 t) q) = ovr (M 51) 8 (fun x => clb (lfv A S v t x)) := ovr_cong fun b hb => pss_end h8 hst (by omega) hV0 h00 hq2 hb
    show l_X1_callsNeeded_34 T (v : Int) _ (n + 1) _ (q : Int) _ = _
    rw [l_X1_callsNeeded_34, hend]
    have e36 : setc M 51 (ovr (M 51) 8 (fun x => clb (lfv A S v t x))) 36 v = (c : Int) := by
      rw [setc_ne (by decide)]
      have : M 36 v = S v := (h.2.2.2.1.1 v hv).1
      rw [this, hc]
    have fin : (if 0 ≤ (v : Int) ∧ (v : Int) < 3 then if 0 ≤ (setc M 51 (ovr (M 51) 8 (fun x => clb (lfv A S v t x))) 36 (v : Int).toNat) ∧ (setc M 51 (ovr (M 51) 8 (fun x => clb (lfv A S v t x))) 36 (v : Int).toNat) < 8 then some ((setc M 51 (ovr (M 51) 8 (fun x => clb (lfv A S v t x))) 51 ((setc M 51 (ovr (M 51) 8 (fun x => clb (lfv A S v t x))) 36 (v : Int).toNat)).toNat), setc M 51 (ovr (M 51) 8 (fun x => clb (lfv A S v t x)))) else none else none) = some ((clb (lfv A S v t (S v).toNat) : Int), setc M 51 (ovr (M 51) 8 (fun x => clb (lfv A S v t x)))) := by
      rw [Int.toNat_natCast, e36, hc, Int.toNat_natCast]
      refine c_ite (by omega) (c_ite (by omega) ?_)
      rw [setc_at, ovr_at (show c < 8 by omega)]
    by_cases hq8 : (8 : Int) ≤ (q : Int)
    · exact c_pos hq8 fin
    · refine c_neg hq8 (c_pos ?_ fin)
      rcases hq2 with e | e
      · omega
      · rw [e]; rfl
  · have hq := fst_le (fun i => !psf (A 0 1) (mth A) (cst A (dS S) (A 5 v)) (row0 1000000 t) i) 8
    omega
def bq (n : Nat) : Int := if n < 8 then (n : Int) else -2
def sp_bring (A : aA) (S : Nat → Int) (v c : Int) : Int × Int := gd (inr v (A 0 3) ∧ inr c (A 0 1)) (bq (lfv A S v.toNat c.toNat (S v.toNat).toNat)) 1
theorem c_bring (h : CQ M A S) (v c : Int) : opC (f_X11_bring T v c M) M (sp_bring A S v c) := by
  unfold f_X11_bring sp_bring
  refine oC_isVoice h.2.2.1 (fun hn => ?_) (fun v' hv hlt => ?_)
  · rw [gd_neg (fun h => hn h.1)]; exact oC_ref
  · refine oC_isCave h.2.2.1 (fun hn => ?_) (fun c' hc hlt2 => ?_)
    · rw [gd_neg (fun h => hn h.2)]; exact oC_ref
    · subst hc hv
      rw [gd_pos ⟨inr_of hlt, inr_of hlt2⟩, Int.toNat_natCast, Int.toNat_natCast]
      refine oC_bind (h_callsNeeded h hlt hlt2) (oC_bind (v := bq (lfv A S v' c' (S v').toNat)) ?_ ?_)
      · show f_X11_orNo T ((clb (lfv A S v' c' (S v').toNat) : Nat) : Int) _ = _
        unfold f_X11_orNo clb bq
        by_cases h1 : lfv A S v' c' (S v').toNat < 8
        · rw [if_pos h1, if_pos h1, if_pos (by omega)]
        · rw [if_neg h1, if_neg h1]; rfl
      · exact oC_al (sC_set (by decide))
theorem h_firstCall (h : CQ M A S) {v t c : Nat} {g : Nat → Int} (hc : c < A 0 1) (h1 : 0 < lfv A S v t c) (h2 : lfv A S v t c < 8) : f_X1_firstCall T ((A 5 v : Nat) : Int) (c : Int) (setc M 51 (ovr g 8 (fun x => clb (lfv A S v t x)))) = some ((fcl (A 0 1) (mth A) (cst A (dS S) (A 5 v)) t c : Nat) : Int) := by
  have hA := h.1
  have h8 := hA.1.2.1
  have hZ : CQ (setc M 51 (ovr g 8 (fun x => clb (lfv A S v t x)))) A S := h.of (sC_set (by decide))
  have e51 : setc M 51 (ovr g 8 (fun x => clb (lfv A S v t x))) 51 = ovr g 8 (fun x => clb (lfv A S v t x)) := setc_at
  have hf := fcl_ok (N := A 0 1) (mo := mth A) (stp := cst A (dS S) (A 5 v)) (t := t) h8 h1 h2
  generalize setc M 51 (ovr g 8 (fun x => clb (lfv A S v t x))) = Z at hZ e51 ⊢
  have hcl : ∀ m, m < A 0 1 → (((clb (lfv A S v t (cst A (dS S) (A 5 v) c m)) : Nat) : Int) = ((clb (lfv A S v t c) : Nat) : Int) - 1 ↔ lfv A S v t (cst A (dS S) (A 5 v) c m) + 1 = lfv A S v t c) := by
    intro m _
    unfold clb
    rw [if_pos h2]
    split <;> omega
  unfold f_X1_firstCall
  have key := find_loop (fun n i => l_X1_firstCall_2 T ((A 5 v : Nat) : Int) (c : Int) Z (fun w13 => some (c : Int)) n i) (A 0 1) (fun m => mth A m && decide (lfv A S v t (cst A (dS S) (A 5 v) c m) + 1 = lfv A S v t c)) (fun i => some (i : Int)) (y := some (c : Int)) (by omega) ?_ ?_ ?_
  · have hf2 : fst (fun m => mth A m && decide (lfv A S v t (cst A (dS S) (A 5 v) c m) + 1 = lfv A S v t c)) (A 0 1) < A 0 1 := hf.2.1
    rw [if_pos hf2] at key
    exact key
  · intro m n hm hp
    show l_X1_firstCall_2 T ((A 5 v : Nat) : Int) (c : Int) Z _ (n + 1) (m : Int) = _
    rw [l_X1_firstCall_2, hZ.2.2.1.1 1 (by decide)]
    refine c_neg (by omega) (c_bind (h_isMouth hA hZ.2.2.1 (by omega)) ?_)
    cases hmo : mth A m
    · exact c_pos rfl (c_ite (by omega) rfl)
    · have hlt := cst_lt (dr := dS S) (kind := A 5 v) (t := m) hA hc
      rw [hmo, Bool.true_and, decide_eq_false_iff_not] at hp
      refine c_neg (by decide) (c_bind (h_callStep hA hZ.2.2.1 hZ.2.2.2.2.1 hc hm) (c_ite (by omega) (c_ite (by omega) ?_)))
      rw [e51, Int.toNat_natCast, Int.toNat_natCast, ovr_at (show cst A (dS S) (A 5 v) c m < 8 by omega), ovr_at (show c < 8 by omega)]
      refine c_ite (by unfold clb; rw [if_pos h2]; omega) (c_neg (fun e => hp ((hcl m hm).mp e)) (c_ite (by omega) rfl))
  · intro m n hm hp
    show l_X1_firstCall_2 T ((A 5 v : Nat) : Int) (c : Int) Z _ (n + 1) (m : Int) = _
    rw [Bool.and_eq_true, decide_eq_true_eq] at hp
    rw [l_X1_firstCall_2, hZ.2.2.1.1 1 (by decide)]
    refine c_neg (by omega) (c_bind (h_isMouth hA hZ.2.2.1 (by omega)) ?_)
    have hlt := cst_lt (dr := dS S) (kind := A 5 v) (t := m) hA hc
    rw [hp.1]
    refine c_neg (by decide) (c_bind (h_callStep hA hZ.2.2.1 hZ.2.2.2.2.1 hc hm) (c_ite (by omega) (c_ite (by omega) ?_)))
    rw [e51, Int.toNat_natCast, Int.toNat_natCast, ovr_at (show cst A (dS S) (A 5 v) c m < 8 by omega), ovr_at (show c < 8 by omega)]
    exact c_ite (by unfold clb; rw [if_pos h2]; omega) (c_pos ((hcl m hm).mpr hp.2) rfl)
  · intro n
    show l_X1_firstCall_2 T ((A 5 v : Nat) : Int) (c : Int) Z _ (n + 1) ((A 0 1 : Nat) : Int) = _
    rw [l_X1_firstCall_2, hZ.2.2.1.1 1 (by decide)]
    exact c_pos (Int.le_refl _) rfl
abbrev cpv (A : aA) (S : Nat → Int) (v t i : Nat) : Nat := cpt (A 0 1) (mth A) (cst A (dS S) (A 5 v)) t (S v).toNat i
abbrev fcv (A : aA) (S : Nat → Int) (v t c : Nat) : Nat := fcl (A 0 1) (mth A) (cst A (dS S) (A 5 v)) t c
theorem h_callAt (h : CQ M A S) {v t i : Nat} {g : Nat → Int} (hv : v < A 0 3) (h2 : lfv A S v t (S v).toNat < 8) (hi : i < lfv A S v t (S v).toNat) : f_X1_callAt T (v : Int) (i : Int) (setc M 51 (ovr g 8 (fun x => clb (lfv A S v t x)))) = some ((fcv A S v t (cpv A S v t i) : Nat) : Int) := by
  have hA := h.1
  have h8 := hA.1.2.1
  have h3 := hA.1.2.2.2.1
  obtain ⟨c, hc, hlt⟩ := h.2.1.vo hv
  have hst : ∀ c m, c < A 0 1 → m < A 0 1 → cst A (dS S) (A 5 v) c m < A 0 1 := fun c m hc _ => cst_lt hA hc
  have hs : (S v).toNat < A 0 1 := by rw [hc, Int.toNat_natCast]; exact hlt
  have hp : ∀ i, i ≤ lfv A S v t (S v).toNat → cpv A S v t i < A 0 1 ∧ lfv A S v t (cpv A S v t i) + i = lfv A S v t (S v).toNat := cpt_ok (N := A 0 1) (mo := mth A) (stp := cst A (dS S) (A 5 v)) (t := t) h8 hst hs h2
  have hZ : CQ (setc M 51 (ovr g 8 (fun x => clb (lfv A S v t x)))) A S := h.of (sC_set (by decide))
  have e36 : setc M 51 (ovr g 8 (fun x => clb (lfv A S v t x))) 36 v = (((S v).toNat : Nat) : Int) := by
    rw [(hZ.2.2.2.1.1 v hv).1, hc]; rfl
  have e8 : setc M 51 (ovr g 8 (fun x => clb (lfv A S v t x))) 8 v = ((A 5 v : Nat) : Int) := (hZ.2.2.1.2.2.2.2.1 v hv).1
  unfold f_X1_callAt
  rw [Int.toNat_natCast, e36]
  refine c_ite (by omega) ?_
  refine for_until (fun j n => l_X1_callAt_13 T (v : Int) (i : Int) (setc M 51 (ovr g 8 (fun x => clb (lfv A S v t x)))) (fun w10 w11 => (f_X1_firstCall T (setc M 51 (ovr g 8 (fun x => clb (lfv A S v t x))) 8 v) w10 (setc M 51 (ovr g 8 (fun x => clb (lfv A S v t x))))).bind fun x13 => some x13) n ((cpv A S v t j : Nat) : Int) (j : Int)) i (fun j n hj => ?_) (fun n => ?_) (by omega)
  · obtain ⟨p1, p2⟩ := hp j (by omega)
    have hf := fcl_ok (N := A 0 1) (mo := mth A) (stp := cst A (dS S) (A 5 v)) (t := t) (c := cpv A S v t j) h8 (show 0 < lfv A S v t (cpv A S v t j) by omega) (show lfv A S v t (cpv A S v t j) < 8 by omega)
    show l_X1_callAt_13 T (v : Int) (i : Int) _ _ (n + 1) _ (j : Int) = l_X1_callAt_13 T (v : Int) (i : Int) _ _ n ((cst A (dS S) (A 5 v) (cpv A S v t j) (fcv A S v t (cpv A S v t j)) : Nat) : Int) ((j + 1 : Nat) : Int)
    rw [l_X1_callAt_13, Int.toNat_natCast, e8]
    refine c_neg (by omega) (c_neg (by omega) (c_ite (by omega) (c_bind (h_firstCall h p1 (by omega) (by omega)) (c_bind (h_callStep hA hZ.2.2.1 hZ.2.2.2.2.1 p1 hf.2.1) (c_ite (by omega) ?_)))))
    rfl
  · obtain ⟨p1, p2⟩ := hp i (by omega)
    show l_X1_callAt_13 T (v : Int) (i : Int) _ _ (n + 1) _ (i : Int) = _
    rw [l_X1_callAt_13]
    refine c_pos (Int.le_refl _) ?_
    rw [e8]
    exact c_bind (h_firstCall h p1 (by omega) (by omega)) rfl
def sp_bringAt (A : aA) (S : Nat → Int) (v c i : Int) : Int × Int := gd ((inr v (A 0 3) ∧ inr c (A 0 1)) ∧ lfv A S v.toNat c.toNat (S v.toNat).toNat < 8 ∧ inr i (lfv A S v.toNat c.toNat (S v.toNat).toNat)) ((fcv A S v.toNat c.toNat (cpv A S v.toNat c.toNat i.toNat) : Nat) : Int) 1
theorem c_bringAt (h : CQ M A S) (v c i : Int) : opC (f_X11_bringAt T v c i M) M (sp_bringAt A S v c i) := by
  unfold f_X11_bringAt sp_bringAt
  refine oC_isVoice h.2.2.1 (fun hn => ?_) (fun v' hv hlt => ?_)
  · rw [gd_neg (fun h => hn h.1.1)]; exact oC_ref
  · refine oC_isCave h.2.2.1 (fun hn => ?_) (fun c' hc hlt2 => ?_)
    · rw [gd_neg (fun h => hn h.1.2)]; exact oC_ref
    · subst hc hv
      rw [Int.toNat_natCast, Int.toNat_natCast]
      have hle := lfc_le (N := A 0 1) (mo := mth A) (stp := cst A (dS S) (A 5 v')) c' (S v').toNat
      have hsc : sC M (setc M 51 (ovr (M 51) 8 (fun x => clb (lfv A S v' c' x)))) := sC_set (by decide)
      refine oC_bind (h_callsNeeded h hlt hlt2) ?_
      show opC (if (1000000 : Int) ≤ ((clb (lfv A S v' c' (S v').toNat) : Nat) : Int) then _ else if i < 0 then _ else if i < ((clb (lfv A S v' c' (S v').toNat) : Nat) : Int) then _ else _) M _
      by_cases h8 : lfv A S v' c' (S v').toNat < 8
      · have ec : clb (lfv A S v' c' (S v').toNat) = lfv A S v' c' (S v').toNat := if_pos h8
        rw [ec]
        refine oC_neg (by omega) ?_
        by_cases hi0 : i < 0
        · rw [gd_neg (fun h => by have := h.2.2.1; omega)]
          exact oC_pos hi0 (oC_ref2 hsc)
        · refine oC_neg hi0 ?_
          by_cases hi1 : i < ((lfv A S v' c' (S v').toNat : Nat) : Int)
          · rw [gd_pos ⟨⟨inr_of hlt, inr_of hlt2⟩, h8, by omega, hi1⟩]
            refine oC_pos hi1 ?_
            obtain ⟨j, rfl⟩ : ∃ j : Nat, i = (j : Int) := ⟨i.toNat, by omega⟩
            exact oC_bind (h_callAt h hlt h8 (by omega)) (oC_al hsc)
          · rw [gd_neg (fun h => hi1 h.2.2.2)]
            exact oC_neg hi1 (oC_ref2 hsc)
      · have ec : clb (lfv A S v' c' (S v').toNat) = 1000000 := if_neg h8
        rw [gd_neg (fun h => h8 h.2.1), ec]
        exact oC_pos (by decide) (oC_ref2 hsc)
theorem h_oneCall (h : CQ M A S) {kd c : Nat} (hc : c < A 0 1) : f_X1_oneCallFrom T (kd : Int) (c : Int) M = some ((uni 0 (mth A) (fun m => 2 ^ cst A (dS S) kd c m) (A 0 1) : Nat) : Int) := by
  have hA := h.1
  have h8 := hA.1.2.1
  unfold f_X1_oneCallFrom
  have hlt : ∀ m, cst A (dS S) kd c m < 8 := fun m => Nat.lt_of_lt_of_le (cst_lt hA hc) h8
  refine uni_loop (fun n a i => l_X1_oneCallFrom_5 T (kd : Int) (c : Int) M (fun w9 w10 => some w9) n a i) (A 0 1) 0 (mth A) (fun m => 2 ^ cst A (dS S) kd c m) h8 (by decide) (fun m _ => Nat.pow_lt_pow_right (a := 2) (n := 8) (by decide) (hlt m)) (fun m n hm => ?_) (fun n => ?_)
  · show l_X1_oneCallFrom_5 T (kd : Int) (c : Int) M _ (n + 1) _ (m : Int) = l_X1_oneCallFrom_5 T (kd : Int) (c : Int) M _ n _ ((m : Int) + 1)
    rw [l_X1_oneCallFrom_5, h.2.2.1.1 1 (by decide)]
    refine c_neg (by omega) (c_bind (h_isMouth hA h.2.2.1 (by omega)) ?_)
    cases hmo : mth A m
    · exact c_pos rfl (c_ite (by omega) rfl)
    · refine c_neg (by decide) (c_bind (h_callStep hA h.2.2.1 h.2.2.2.2.1 hc hm) (c_ite (by omega) ?_))
      rw [ashl_one _ (by have := hlt m; omega)]
      rfl
  · show l_X1_oneCallFrom_5 T (kd : Int) (c : Int) M _ (n + 1) _ ((A 0 1 : Nat) : Int) = _
    rw [l_X1_oneCallFrom_5, h.2.2.1.1 1 (by decide)]
    exact c_pos (Int.le_refl _) rfl
abbrev gmv (A : aA) (S : Nat → Int) (v : Nat) : Nat → Nat → Bool := gm (A 0 1) (mth A) (cst A (dS S) (A 5 v))
theorem h_broughtTo (h : CQ M A S) {v : Nat} (hv : v < A 0 3) : f_X1_broughtTo T (v : Int) M = some ((msk (stg (gmv A S v) (S v).toNat 8) 8 : Nat) : Int) := by
  have hA := h.1
  have hC := h.2.2.1
  have h8 := hA.1.2.1
  have h3 := hA.1.2.2.2.1
  obtain ⟨c, hc, hlt⟩ := h.2.1.vo hv
  have e36 : M 36 v = (c : Int) := by rw [(h.2.2.2.1.1 v hv).1, hc]
  have e8 : M 8 v = ((A 5 v : Nat) : Int) := (hC.2.2.2.2.1 v hv).1
  have hl256 : ∀ p : Nat → Bool, msk p 8 < 256 := fun p => msk_lt p 8
  unfold f_X1_broughtTo
  rw [Int.toNat_natCast, e36, hc, Int.toNat_natCast, ashl_one c (by omega)]
  refine c_ite (by omega) ?_
  refine turns_loop (g := gmv A S v) (c := c) (fun n a b i => l_X1_broughtTo_17 T (v : Int) M (fun w17 w18 w19 => some w17) n a b i) (fun a => some a) (by omega) (fun n a b => ?_) (fun n a i hi => ?_) (fun n i hi hne => ?_)
  · show l_X1_broughtTo_17 T (v : Int) M _ (n + 1) a b 8 = _
    rw [l_X1_broughtTo_17]
    exact c_pos (by decide) rfl
  · show l_X1_broughtTo_17 T (v : Int) M _ (n + 1) a a (i : Int) = _
    rw [l_X1_broughtTo_17]
    exact c_neg (by omega) (c_pos rfl rfl)
  · show l_X1_broughtTo_17 T (v : Int) M _ (n + 1) _ _ (i : Int) = l_X1_broughtTo_17 T (v : Int) M _ n _ _ ((i : Int) + 1)
    rw [l_X1_broughtTo_17]
    refine c_neg (by omega) (c_neg (fun he => hne (by omega)) ?_)
    have hf := hl256 (stg (gmv A S v) c i)
    have hk := hl256 (lk (gmv A S v) c i)
    have hst : ∀ y m, y < A 0 1 → cst A (dS S) (A 5 v) y m < A 0 1 := fun y m hy => cst_lt hA hy
    have hG : ∀ y x, y < A 0 1 → (uni 0 (mth A) (fun m => 2 ^ cst A (dS S) (A 5 v) y m) (A 0 1)).testBit x = (decide (x < 8) && gmv A S v y x) := by
      intro y x hy
      rw [uni_bit, Nat.zero_testBit, Bool.false_or]
      refine bool_ext ?_
      rw [exb_iff, Bool.and_eq_true, decide_eq_true_eq, gm_iff]
      constructor
      · rintro ⟨m, hm, e⟩
        rw [Bool.and_eq_true, Nat.testBit_two_pow, decide_eq_true_eq] at e
        have := hst y m hy
        exact ⟨by omega, hy, m, hm, e.1, e.2⟩
      · rintro ⟨-, -, m, hm, e1, e2⟩
        refine ⟨m, hm, ?_⟩
        rw [e1, e2, Nat.testBit_two_pow_self]; rfl
    have hGl : ∀ y, y < A 0 1 → uni 0 (mth A) (fun m => 2 ^ cst A (dS S) (A 5 v) y m) (A 0 1) < 256 := fun y hy => uni_lt (by decide) _ fun m _ => Nat.pow_lt_pow_right (a := 2) (n := 8) (by decide) (Nat.lt_of_lt_of_le (hst y m hy) h8)
    refine uni_loop (fun m a x => l_X1_broughtTo_35 T (v : Int) ((msk (lk (gmv A S v) c i) 8 : Nat) : Int) (i : Int) ((msk (stg (gmv A S v) c i) 8 : Nat) : Int) M (fun w13 w14 => if aIn ((i : Int) + 1) then l_X1_broughtTo_17 T (v : Int) M (fun w17 w18 w19 => some w17) n w13 ((msk (stg (gmv A S v) c i) 8 : Nat) : Int) ((i : Int) + 1) else none) m a x) (A 0 1) (msk (stg (gmv A S v) c i) 8) (fun y => stg (gmv A S v) c i y && !lk (gmv A S v) c i y) (fun y => uni 0 (mth A) (fun m => 2 ^ cst A (dS S) (A 5 v) y m) (A 0 1)) h8 hf hGl (fun x m hx => ?_) (fun m => ?_)
    · show l_X1_broughtTo_35 T (v : Int) ((msk (lk (gmv A S v) c i) 8 : Nat) : Int) (i : Int) ((msk (stg (gmv A S v) c i) 8 : Nat) : Int) M _ (m + 1) _ (x : Int) = l_X1_broughtTo_35 T (v : Int) ((msk (lk (gmv A S v) c i) 8 : Nat) : Int) (i : Int) ((msk (stg (gmv A S v) c i) 8 : Nat) : Int) M _ m _ ((x : Int) + 1)
      rw [l_X1_broughtTo_35, aandn (by omega), Int.toNat_natCast, e8]
      refine c_neg (by rw [hC.1 1 (by decide)]; omega) (c_bind (h_hasBit (ndf_lt (by omega)) (by omega)) ?_)
      have hb : (ndf (msk (stg (gmv A S v) c i) 8) (msk (lk (gmv A S v) c i) 8)).testBit x = (stg (gmv A S v) c i x && !lk (gmv A S v) c i x) := by
        rw [ndf_bit, msk_bit, msk_bit, decide_eq_true (show x < 8 by omega), Bool.true_and, Bool.true_and]
      rw [hb]
      cases hq : (stg (gmv A S v) c i x && !lk (gmv A S v) c i x)
      · exact c_pos rfl (c_ite (by omega) rfl)
      · refine c_neg (by decide) (c_ite (by omega) (c_bind (h_oneCall h hx) (c_ite (by omega) ?_)))
        rfl
    · show l_X1_broughtTo_35 T (v : Int) ((msk (lk (gmv A S v) c i) 8 : Nat) : Int) (i : Int) ((msk (stg (gmv A S v) c i) 8 : Nat) : Int) M _ (m + 1) _ ((A 0 1 : Nat) : Int) = _
      rw [l_X1_broughtTo_35, turn_eq h8 (fun y x e => (gm_iff.mp e).1) hG]
      exact c_pos (by rw [hC.1 1 (by decide)]; exact Int.le_refl _) (c_ite (by omega) rfl)
def sp_reach (A : aA) (S : Nat → Int) (v : Int) : Int × Int := gd (inr v (A 0 3)) ((msk (stg (gmv A S v.toNat) (S v.toNat).toNat 8) 8 : Nat) : Int) 1
theorem c_reach (h : CQ M A S) (v : Int) : opC (f_X11_reach T v M) M (sp_reach A S v) := by
  unfold f_X11_reach sp_reach
  refine oC_isVoice h.2.2.1 (fun hn => ?_) (fun v' hv hlt => ?_)
  · rw [gd_neg hn]; exact oC_ref
  · subst hv
    rw [gd_pos (inr_of hlt), Int.toNat_natCast]
    exact oC_bind (h_broughtTo h hlt) (oC_al (sC.refl M))
end Brc

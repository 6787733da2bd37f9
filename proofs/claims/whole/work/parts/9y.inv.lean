/-! ===== the invariant of the law's loop, and that every call keeps it ===== -/
/-- states well formed -/
def gdS (A : aA) (st : aT) : Prop := WS A st.1 ∧ st.2.1 ≤ 16 ∧ st.2.2.1 ≤ 3 ∧ (A 0 0 = 0 → st.2.1 = 0 ∧ st.2.2.1 = 0 ∧ st.1 11 = 0) ∧ (∀ i, i < st.2.1 → WS A (st.2.2.2.1 i)) ∧ ∀ i, i < st.2.2.1 → WS A (st.2.2.2.2 i)
def wds (M : aM) : Prop := ∀ i, i < 8 → M 31 i = (pkd (12 + i) : Int) ∧ M 32 i = -1
def IV (T : Nat) (M : aM) (A : aA) (st : aT) : Prop := WF A ∧ gdS A st ∧ CA M A st ∧ MA T M A st ∧ wds M ∧ TI M
section Ivs
variable {A : aA} {st s1 : aT} {T : Nat} {M M1 M2 : aM} {tr : Int}
theorem CA.same (h : CA M A st) (e : ∀ n, 0 < n → n < 45 ∨ (58 < n ∧ n < 138) → M1 n = M n) : CA M1 A st := by
  obtain ⟨⟨a, b, c, d, f, g⟩, r, i, l1, l2⟩ := h
  exact ⟨⟨a, b, c.far fun m _ _ => e m (by omega) (by omega), d.cong fun m _ _ => e m (by omega) (by omega), f.cong fun m _ _ => e m (by omega) (by omega), g.cong fun m _ _ => e m (by omega) (by omega)⟩, RG_same r (fun n _ _ => e n (by omega) (by omega)), IG_same l2 i (by rw [e 59 (by decide) (by decide)]) (fun n _ _ => e n (by omega) (by omega)), l1, l2⟩
theorem MA.same (h : MA T M A st) (e : ∀ n, 137 < n → M1 n = M n) : MA T M1 A st := by
  obtain ⟨a, ⟨p1, p2⟩, ⟨q1, q2⟩, c⟩ := h
  exact ⟨mq_same a (by rw [e 138 (by decide)]) (e 140 (by decide)) (fun n hn => e n (by omega)), ⟨by rw [e 138 (by decide)]; exact p1, by rw [e 142 (by decide)]; exact p2⟩, ⟨by rw [e 138 (by decide)]; exact q1, by rw [e 143 (by decide)]; exact q2⟩, c⟩
theorem TI.told (h : TI M) (e1 : M2 0 1 = M 0 1) (e2 : M2 138 6 = M 138 6) (e3 : M2 1 = M 1) (e4 : M2 139 = M 139) (e5 : M2 0 14 = tr) (e6 : M2 138 1 = tr) (e7 : M2 138 2 = -1) (h4 : tr ≠ 4) (e8 : M2 16 = M 16) (e9 : M2 138 12 = M 138 12) : TI M2 := by
  obtain ⟨a, b, c, d⟩ := h
  unfold TI
  rw [e1, e2, e3, e4, e5, e6, e7, e8, e9, if_neg h4]
  exact ⟨a, rfl, rfl, d⟩
theorem TI.same (h : TI M) (e1 : M2 0 = M 0) (e2 : ∀ k, k = 1 ∨ k = 2 ∨ k = 6 ∨ k = 12 → M2 138 k = M 138 k) (e3 : M2 1 = M 1) (e4 : M2 139 = M 139) (e8 : M2 16 = M 16) : TI M2 := by
  unfold TI
  rw [e1, e2 6 (by decide), e3, e4, e2 1 (by decide), e2 2 (by decide), e8, e2 12 (by decide)]
  exact h
theorem wds.same (h : wds M) (e1 : M1 31 = M 31) (e2 : M1 32 = M 32) : wds M1 := by
  unfold wds
  rw [e1, e2]
  exact h
theorem IV.md1 (h : IV T M A st) (q : qC M M1 tr) : MD T M1 A st.1 := (h.2.2.2.1.same fun n hn => q.2.2 n (by omega) (by omega)).1
theorem IV.qry (h : IV T M A st) (q1 : qC M M1 tr) (q2 : qM M1 M2 tr (-1)) (h4 : tr ≠ 4) : IV T M2 A st := by
  obtain ⟨hA, hg, hc, hm, hw, ht⟩ := h
  have e1 : ∀ n, 0 < n → n < 45 ∨ (58 < n ∧ n < 138) → M2 n = M n := fun n h0 hn => by rw [q2.2.2.2 n (by omega), q1.2.2 n (by omega) (by omega)]
  have e2 : ∀ n, n = 139 ∨ n = 140 ∨ n = 142 ∨ n = 143 ∨ 152 < n → M2 n = M n := fun n hn => by rw [q2.2.2.2 n (by omega), q1.2.2 n (by omega) (by omega)]
  have e3 : ∀ k, k = 3 ∨ k = 6 ∨ k = 12 ∨ k = 20 ∨ k = 21 → M2 138 k = M 138 k := fun k hk => by rw [q2.2.2.1 k (by omega), q1.2.2 138 (by decide) (by decide)]
  have e0 : ∀ k, M2 0 k = M1 0 k := fun k => by rw [q2.2.2.2 0 (by decide)]
  refine ⟨hA, hg, hc.same e1, ?_, hw.same (e1 31 (by decide) (by decide)) (e1 32 (by decide) (by decide)), ht.told (tr := tr) ?_ (e3 6 (by decide)) (e1 1 (by decide) (by decide)) (e2 139 (by decide)) ?_ q2.1 q2.2.1 h4 (e1 16 (by decide) (by decide)) (e3 12 (by decide))⟩
  · obtain ⟨a, ⟨p1, p2⟩, ⟨r1, r2⟩, c⟩ := hm
    exact ⟨mq_same a (e3 3 (by decide)) (e2 140 (by decide)) (fun n hn => e2 n (by omega)), ⟨by rw [e3 20 (by decide)]; exact p1, by rw [e2 142 (by decide)]; exact p2⟩, ⟨by rw [e3 21 (by decide)]; exact r1, by rw [e2 143 (by decide)]; exact r2⟩, c⟩
  · rw [e0, q1.2.1 1 (by decide)]
  · rw [e0, q1.1]
/-- an act -/
theorem IV.act (h : IV T M A st) {r : Int × Int} (hg : gdS A s1) (h4 : r.2 ≠ 4) (c1 : CS M1 35 A s1.1) (c2 : LD M1 39 A (dS s1.1)) (c3 : RG M1 A s1.2.1 s1.2.2.2.1) (c4 : IG M1 A s1.2.2.1 s1.2.2.2.2) (c5 : M1 0 14 = r.2) (c6 : ∀ k, k ≠ 14 → M1 0 k = M 0 k) (c7 : ∀ n, (0 < n ∧ n < 35) ∨ (41 < n ∧ n < 45) ∨ 137 < n → M1 n = M n) (m1 : ∀ k, k < 12 → M2 140 k = s1.1 k) (m2 : PG M2 s1.2.1 s1.2.2.2.1) (m3 : QG M2 s1.2.2.1 s1.2.2.2.2) (m4 : M2 138 1 = r.2) (m5 : M2 138 2 = -1) (m6 : kM M1 M2) : IV T M2 A s1 := by
  obtain ⟨hA, -, hc, hm, hw, ht⟩ := h
  have e1 : ∀ n, n < 138 → M2 n = M1 n := fun n hn => m6.2 n (by omega)
  have hc1 : CA M1 A s1 := ⟨⟨hA, hg.1, hc.1.2.2.1.far fun m _ _ => c7 m (by omega), c1, c2, hc.1.2.2.2.2.2.cong fun m _ _ => c7 m (by omega)⟩, c3, c4, hg.2.1, hg.2.2.1⟩
  refine ⟨hA, hg, hc1.same fun n _ _ => e1 n (by omega), ⟨⟨hA, hg.1, ?_, m1⟩, m2, m3, hg.2.1, hg.2.2.1, fun h0 => ⟨(hg.2.2.2.1 h0).1, (hg.2.2.2.1 h0).2.1⟩⟩, hw.same ?_ ?_, ht.told (tr := r.2) ?_ ?_ ?_ ?_ ?_ m4 m5 h4 ?_ ?_⟩
  · have e3 : M2 138 3 = M 138 3 := by rw [m6.1 3 (by omega), c7 138 (by decide)]
    have ew : ∀ n, 152 < n → M2 n = M n := fun n hn => by rw [m6.2 n (by omega), c7 n (by omega)]
    rcases hm.1.2.2.1 with ⟨h0, hn⟩ | ⟨h0, w, q1, q2, q3⟩
    · exact Or.inl ⟨h0, e3.trans hn⟩
    · have hge := okw_ge q2
      exact Or.inr ⟨h0, w, e3.trans q1, q2, q3.cong fun m _ _ => ew m (by omega)⟩
  · rw [e1 31 (by decide), c7 31 (by decide)]
  · rw [e1 32 (by decide), c7 32 (by decide)]
  · rw [e1 0 (by decide), c6 1 (by decide)]
  · rw [m6.1 6 (by omega), c7 138 (by decide)]
  · rw [e1 1 (by decide), c7 1 (by decide)]
  · rw [m6.2 139 (by omega), c7 139 (by decide)]
  · rw [e1 0 (by decide), c5]
  · rw [e1 16 (by decide), c7 16 (by decide)]
  · rw [m6.1 12 (by omega), c7 138 (by decide)]
/-- the model alone, its well and its state untouched -/
theorem IV.asks (h : IV T M A st) (s : sM M M1) : IV T M1 A st := by
  obtain ⟨hA, hg, hc, hm, hw, ht⟩ := h
  exact ⟨hA, hg, hc.same fun n _ _ => s.2 n (by omega), hm.of s, hw.same (s.2 31 (by omega)) (s.2 32 (by omega)), ht.same (s.2 0 (by omega)) (fun k hk => s.1 k (by omega)) (s.2 1 (by omega)) (s.2 139 (by omega)) (s.2 16 (by omega))⟩
/-! states -/
theorem ws_wlk {S : Nat → Int} {f c : Nat} (hA : WF A) (h : WS A S) (hf : f < A 0 4) (hc : c < A 0 1) : WS A (wlk S f c) := by
  have h3 := hA.1.2.2.2.1
  have h4 := hA.1.2.2.2.2.1
  have e : ∀ k, k ≠ 6 + f → wlk S f c k = S k := fun k hk => if_neg hk
  refine ⟨fun k hk => ?_, fun g hg => ?_, ?_, ?_⟩
  · rw [e k (by omega), e (3 + k) (by omega)]; exact h.1 k hk
  · by_cases hgf : g = f
    · subst hgf
      rw [show wlk S g c (6 + g) = (c : Int) from if_pos rfl]
      omega
    · rw [e (6 + g) (by omega)]; exact h.2.1 g hg
  · rw [e 10 (by omega)]; exact h.2.2.1
  · rw [e 11 (by omega)]; exact h.2.2.2
theorem ws_wts {S : Nat → Int} {x : Nat} (hA : WF A) (h : WS A S) (hx : x < 2 ^ A 0 2) (h6 : cut6 x) : WS A (wts S x) := by
  have h3 := hA.1.2.2.2.1
  have h4 := hA.1.2.2.2.2.1
  have e : ∀ k, k ≠ 10 → wts S x k = S k := fun k hk => if_neg hk
  refine ⟨fun k hk => ?_, fun g hg => ?_, ?_, ?_⟩
  · rw [e k (by omega), e (3 + k) (by omega)]; exact h.1 k hk
  · rw [e (6 + g) (by omega)]; exact h.2.1 g hg
  · rw [show wts S x 10 = (x : Int) from if_pos rfl, Int.toNat_natCast]; exact ⟨by omega, hx, h6⟩
  · rw [e 11 (by omega)]; exact h.2.2.2
theorem ws_mvd {S : Nat → Int} {g : Nat → Nat} (hA : WF A) (h : WS A S) (hg : ∀ k, k < A 0 3 → g k < A 0 1) : WS A (mvd S g (A 0 3)) := by
  have h3 := hA.1.2.2.2.1
  refine ⟨fun k hk => ?_, fun f hf => ?_, ?_, ?_⟩
  · rw [mvd_v h3 (by omega), mvd_c h3 (by omega), if_pos hk, if_pos hk]
    have := hg k hk
    have := h.1 k hk
    refine ⟨by omega, by omega, ?_⟩
    split
    · exact this.2.2
    · exact Or.inr ⟨this.1, this.2.1⟩
  · rw [mvd_o h3 (by omega)]; exact h.2.1 f hf
  · rw [mvd_o h3 (by omega)]; exact h.2.2.1
  · rw [mvd_o h3 (by omega)]; exact h.2.2.2
theorem gd_act {S1 : Nat → Int} (h : gdS A st) (h0 : A 0 0 ≠ 0) (h1 : WS A S1) : gdS A (actd st S1) := by
  obtain ⟨a, b, c, d, e, f⟩ := h
  refine ⟨h1, rna_le _, c, fun q => absurd q h0, fun i hi => ?_, f⟩
  have hi : i < rna st.2.1 := hi
  show WS A (rem st.2.1 st.2.2.2.1 st.1 i)
  unfold rna at hi
  unfold rem
  by_cases hn : st.2.1 < 16
  · rw [if_pos hn] at hi ⊢
    by_cases e1 : i = st.2.1
    · rw [if_pos e1]; exact a
    · rw [if_neg e1]; exact e i (by omega)
  · rw [if_neg hn] at hi ⊢
    by_cases e1 : i = 15
    · rw [if_pos e1]; exact a
    · rw [if_neg e1]; exact e (i + 1) (by omega)
theorem wf_no (hA : WF A) {i : Nat} (h : 0 < A 0 i) : A 0 0 ≠ 0 := fun h0 => by have := (hA.2.2.2.2.2.2.2.2.2.1 h0).1 i; omega
theorem inr_pos {v : Int} {n : Nat} (h : inr v n) : 0 < n := by have := h.1; have := h.2; omega
theorem ndf_ltp {a b n : Nat} (h : a < 2 ^ n) : ndf a b < 2 ^ n := Nat.xor_lt_two_pow h (Nat.lt_of_le_of_lt Nat.and_le_left h)
theorem gd_walk (hA : WF A) (h : gdS A st) (f c : Int) : gdS A (sp_walk A st f c).2 ∧ (sp_walk A st f c).1.2 ≠ 4 := by
  unfold sp_walk
  split
  · rename_i hi
    obtain ⟨f', rfl, hf⟩ := inr_nat hi.1
    obtain ⟨c', rfl, hc⟩ := inr_nat hi.2
    split
    · exact ⟨gd_act h (wf_no hA (i := 4) (by omega)) (ws_wlk hA h.1 (by rw [Int.toNat_natCast]; exact hf) (by rw [Int.toNat_natCast]; exact hc)), by show (0 : Int) ≠ 4; decide⟩
    · exact ⟨h, by show (5 : Int) ≠ 4; decide⟩
  · exact ⟨h, by show (1 : Int) ≠ 4; decide⟩
theorem gd_dig (hA : WF A) (h : gdS A st) (k : Int) : gdS A (sp_dig A st k).2 ∧ (sp_dig A st k).1.2 ≠ 4 := by
  unfold sp_dig
  split
  · rename_i hi
    split
    · refine ⟨gd_act h (wf_no hA (i := 2) (inr_pos hi)) (ws_wts hA h.1 ?_ ?_), by show (0 : Int) ≠ 4; decide⟩
      · exact ndf_ltp h.1.2.2.1.2.1
      · exact Nat.le_trans (cntp_sub 10 (fun x _ hx => by rw [ndf_bit, Bool.and_eq_true] at hx; exact hx.1)).1 h.1.2.2.1.2.2
    · exact ⟨h, by show (5 : Int) ≠ 4; decide⟩
  · exact ⟨h, by show (1 : Int) ≠ 4; decide⟩
theorem gd_flood (hA : WF A) (h : gdS A st) (k : Int) : gdS A (sp_flood A st k).2 ∧ (sp_flood A st k).1.2 ≠ 4 := by
  have h10 := hA.1.2.2.1
  unfold sp_flood
  split
  · rename_i hi
    obtain ⟨k', rfl, hk⟩ := inr_nat hi
    split
    · exact ⟨h, by show (5 : Int) ≠ 4; decide⟩
    · split
      · rename_i h6
        refine ⟨gd_act h (wf_no hA (i := 2) (by omega)) (ws_wts hA h.1 ?_ ?_), by show (0 : Int) ≠ 4; decide⟩
        · rw [Int.toNat_natCast]
          exact Nat.or_lt_two_pow h.1.2.2.1.2.1 (Nat.pow_lt_pow_right (by decide) hk)
        · rw [Int.toNat_natCast]
          have e := cntp_or (sW st.1) k' 16
          rw [if_pos (by omega)] at e
          have e2 : ∀ (p : Nat → Bool) j, cntp p 10 ≤ cntp p (10 + j) := fun p j => by
            induction j with
            | zero => exact Nat.le_refl _
            | succ j ih => exact Nat.le_trans ih (Nat.le_add_right _ _)
          have e3 : cntp (sW st.1 ||| 2 ^ k').testBit 10 ≤ cntp (sW st.1 ||| 2 ^ k').testBit 16 := e2 (sW st.1 ||| 2 ^ k').testBit 6
          show cntp (sW st.1 ||| 2 ^ k').testBit 10 ≤ 6
          omega
      · exact ⟨h, by show (3 : Int) ≠ 4; decide⟩
  · exact ⟨h, by show (1 : Int) ≠ 4; decide⟩
theorem gd_undo (h : gdS A st) : gdS A (sp_undo st).2 ∧ (sp_undo st).1.2 ≠ 4 := by
  obtain ⟨a, b, c, d, e, f⟩ := h
  unfold sp_undo
  split
  · exact ⟨⟨a, b, c, d, e, f⟩, by show (6 : Int) ≠ 4; decide⟩
  · rename_i hn
    refine ⟨⟨e _ (by omega), by show st.2.1 - 1 ≤ 16; omega, c, fun h0 => absurd (d h0).1 hn, fun i hi => e i (by have : i < st.2.1 - 1 := hi; omega), f⟩, by show (0 : Int) ≠ 4; decide⟩
theorem gd_image (h : gdS A st) : gdS A (sp_image A st).2 ∧ (sp_image A st).1.2 ≠ 4 := by
  obtain ⟨a, b, c, d, e, f⟩ := h
  unfold sp_image
  split
  · rename_i h0
    split
    · rename_i h3
      refine ⟨⟨a, b, h3, fun q => absurd q (by omega), e, fun i hi => ?_⟩, by show (0 : Int) ≠ 4; decide⟩
      have hi : i < st.2.2.1 + 1 := hi
      show WS A (if i = st.2.2.1 then st.1 else st.2.2.2.2 i)
      by_cases e1 : i = st.2.2.1
      · rw [if_pos e1]; exact a
      · rw [if_neg e1]; exact f i (by omega)
    · exact ⟨⟨a, b, c, d, e, f⟩, by show (3 : Int) ≠ 4; decide⟩
  · exact ⟨⟨a, b, c, d, e, f⟩, by show (1 : Int) ≠ 4; decide⟩
theorem gd_back (h : gdS A st) (i : Int) : gdS A (sp_back st i).2 ∧ (sp_back st i).1.2 ≠ 4 := by
  obtain ⟨a, b, c, d, e, f⟩ := h
  unfold sp_back
  split
  · rename_i hi
    obtain ⟨k, rfl, hk⟩ := inr_nat hi
    refine ⟨⟨?_, Nat.zero_le _, c, fun h0 => ?_, fun i hi => absurd hi (Nat.not_lt_zero i), f⟩, by show (0 : Int) ≠ 4; decide⟩
    · show WS A (st.2.2.2.2 ((k : Int)).toNat)
      rw [Int.toNat_natCast]; exact f k hk
    · have := (d h0).2.1
      omega
  · exact ⟨⟨a, b, c, d, e, f⟩, by show (1 : Int) ≠ 4; decide⟩
theorem gd_call (hA : WF A) (h : gdS A st) (c : Int) : gdS A (sp_call A st c).2 ∧ (sp_call A st c).1.2 ≠ 4 := by
  unfold sp_call
  split
  · rename_i hi
    refine ⟨gd_act h (wf_no hA (i := 1) (inr_pos hi)) (ws_mvd hA h.1 fun k hk => ?_), by show (0 : Int) ≠ 4; decide⟩
    have := h.1.1 k hk
    exact cst_lt hA (by omega)
  · exact ⟨h, by show (1 : Int) ≠ 4; decide⟩
theorem gd_year (hA : WF A) (h : gdS A st) : gdS A (sp_year A st).2 ∧ (sp_year A st).1.2 ≠ 4 := by
  have h3 := hA.1.2.2.2.1
  unfold sp_year
  split
  · rename_i h0
    split
    · rename_i h9
      refine ⟨gd_act h (by omega) ?_, by show (0 : Int) ≠ 4; decide⟩
      have hm := ws_mvd (g := gy A st.1) hA h.1 fun k hk => by
        have := h.1.1 k hk
        exact ys_lt hA (by omega) this.2.2
      have e : ∀ k, k ≠ 11 → yrd A st.1 k = mvd st.1 (gy A st.1) (A 0 3) k := fun k hk => if_neg hk
      refine ⟨fun k hk => ?_, fun f hf => ?_, ?_, ?_⟩
      · rw [e k (by omega), e (3 + k) (by omega)]; exact hm.1 k hk
      · have h4 := hA.1.2.2.2.2.1
        by_cases q : 6 + f = 11
        · omega
        · rw [e (6 + f) q]; exact hm.2.1 f hf
      · rw [e 10 (by decide)]; exact hm.2.2.1
      · rw [show yrd A st.1 11 = st.1 11 + 1 from if_pos rfl]
        have := h.1.2.2.2
        omega
    · exact ⟨h, by show (3 : Int) ≠ 4; decide⟩
  · exact ⟨h, by show (1 : Int) ≠ 4; decide⟩
end Ivs

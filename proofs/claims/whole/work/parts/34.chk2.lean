/-! ===== the checks mean what they must ===== -/
theorem cont_mem {α : Type} [BEq α] [LawfulBEq α] {l : List α} {a : α} (h : l.contains a = true) : a ∈ l := List.contains_iff_mem.mp h
theorem chL_ok {j i f n z : Nat} (hj : j < 335) (h : chL (mK j) i f n z = true) : okLk (mY j).cls i f n z ∧ f < 334 := by
  simp only [chL, Bool.and_eq_true, Bool.or_eq_true, decide_eq_true_eq, beq_iff_eq] at h
  obtain ⟨⟨h1, h2⟩, h3⟩ := h
  refine ⟨⟨okMt_all f h1, by rw [mP_ok f (by omega), h2], ?_⟩, h1⟩
  have hy : yO f = mY f := by
    unfold yO
    rw [if_neg (by omega), if_neg (by omega), if_neg (by omega), if_neg (by omega), if_neg (by omega), if_neg (by omega)]
  rcases h3 with ⟨z0, h3⟩ | ⟨z1, h3⟩
  · have := PM_ok _ (cont_mem h3)
    simp only [wMl, hy] at this
    exact Or.inl ⟨z0, by rw [mY_own j hj]; exact this⟩
  · have := PMN_ok _ (cont_mem h3)
    simp only [wMn, hy] at this
    exact Or.inr ⟨z1, _, by rw [mY_own j hj]; exact this⟩
theorem chkO_ok {j : Nat} (hj : j < 335) {q : aO} (h : chkO (mK j) (decide ((mY j).name = "<init>")) (mR j) q = true) : okO j q := by
  have ho := mY_own j hj
  obtain ⟨ins, ln, ra, rb, rc⟩ := q
  unfold chkO at h
  rw [Bool.and_eq_true] at h
  obtain ⟨h0, h⟩ := h
  have hl : (match ((ins, ln, ra, rb, rc) : aO) with
    | (.tableswitch _ _ _ _, _) => True
    | (.lookupswitch _ ps, _) => (ps.toList.zip (ps.toList.drop 1)).all (fun (a, next) => a.1 < next.1) = true
    | (i, ln, _) => ln = aln i) := by
    cases ins <;> first | trivial | exact of_decide_eq_true h0 | exact h0
  refine ⟨hl, ?_⟩
  cases ins with
  | getfield i =>
    simp only [Bool.and_eq_true, Bool.or_eq_true, decide_eq_true_eq, beq_iff_eq] at h
    obtain ⟨⟨h1, h2⟩, h3⟩ := h
    refine ⟨h1, h2, fun C T N hc => ?_⟩
    have e1 := (cT_of hc).1
    rw [ho]
    rcases h3 with ⟨-, h3⟩ | ⟨-, h3⟩
    · have := PF_ok _ (cont_mem h3)
      simp only [wFl, e1] at this
      exact Or.inl this
    · have := PN_ok _ (cont_mem h3)
      simp only [wFn, e1] at this
      exact Or.inr ⟨_, this⟩
  | putfield i =>
    simp only [Bool.and_eq_true, Bool.or_eq_true, decide_eq_true_eq, beq_iff_eq, Bool.not_eq_true'] at h
    obtain ⟨⟨h1, h2⟩, h3⟩ := h
    refine ⟨h1, h2, fun C T N hc => ?_⟩
    have e1 := (cT_of hc).1
    rw [ho]
    rcases h3 with ⟨⟨-, h3⟩, h4⟩ | ⟨⟨-, h3⟩, h4⟩
    · have := PF_ok _ (cont_mem h3)
      simp only [wFl, e1] at this
      rw [e1] at h4
      rcases h4 with h4 | ⟨⟨h4, h5⟩, h6⟩
      · exact Or.inl ⟨this, Or.inl h4⟩
      · exact Or.inl ⟨this, Or.inr ⟨h4, h5, h6⟩⟩
    · have := PN_ok _ (cont_mem h3)
      simp only [wFn, e1] at this
      rw [e1] at h4
      exact Or.inr ⟨_, this, h4⟩
  | getstatic i =>
    simp only [decide_eq_true_eq] at h
    refine Or.inr ⟨RX11, ?_⟩
    rw [ho, h.1, h.2]
    exact gROOM
  | ldc i =>
    show if ra = 0 then _ else _
    by_cases hk : ra = 0
    · simp only [hk, if_true] at h ⊢
      have := PK_ok _ (cont_mem h)
      rw [ho]; exact this
    · simp only [hk, if_false] at h ⊢
      split at h
      · rename_i e he
        have h := of_decide_eq_true h
        obtain ⟨a, b, tx⟩ := e
        refine ⟨tx, ?_⟩
        rw [he, ho, ← h.1, ← h.2]
      · cases h
  | ldc_w i =>
    show if ra = 0 then _ else _
    by_cases hk : ra = 0
    · simp only [hk, if_true] at h ⊢
      have := PK_ok _ (cont_mem h)
      rw [ho]; exact this
    · simp only [hk, if_false] at h ⊢
      split at h
      · rename_i e he
        have h := of_decide_eq_true h
        obtain ⟨a, b, tx⟩ := e
        refine ⟨tx, ?_⟩
        rw [he, ho, ← h.1, ← h.2]
      · cases h
  | ldc2_w i =>
    have := PL_ok _ (cont_mem h)
    show Cond.constantLong (mY j).cls i _ ∈ gt
    rw [ho]; exact this
  | new i =>
    intro C T N hc
    simp only [Bool.or_eq_true, Bool.and_eq_true, decide_eq_true_eq] at h
    rcases h with h | ⟨h1, h2⟩
    · subst h; simp [vwCl] at hc
    · have e2 := (cT_of hc).2
      have := PC_ok _ (cont_mem h2)
      simp only [wCl, e2] at this
      refine ⟨by rw [ho]; exact this, ?_, ?_⟩
      · obtain ⟨C1, T1, N1, ty0, c1, c2, -⟩ := okCl_all ra h1
        cases c1.symm.trans hc
        have h5 := QT_ok ra (show ra ∈ QT by have : ∀ k, k < 14 → k ∈ QT := by decide +kernel
                                             exact this ra h1)
        simp only [wIt, e2, ← c2] at h5
        exact h5
      · have h6 : cN ra = oN ra := by
          have : ∀ k, k < 14 → cN k = oN k := by decide +kernel
          exact this ra h1
        have h5 := QN_ok ra (QN_all ra (by omega))
        simp only [wIn, ← h6, e2] at h5
        exact h5
  | newarray t =>
    simp only [Bool.or_eq_true, Bool.and_eq_true, decide_eq_true_eq] at h
    refine ⟨?_, ?_⟩
    · rcases h with (h | h) | h
      · exact Or.inl h
      · exact Or.inr (Or.inl h)
      · exact Or.inr (Or.inr h)
    · rcases h with (h | h) | h <;> rw [h.2]
      · exact ga_int
      · exact ga_byte
      · exact ga_long
  | anewarray i =>
    have := PC_ok _ (cont_mem h)
    show Cond.classLink (mY j).cls i RX8 ∈ gt
    rw [ho]; exact this
  | invokestatic i =>
    show if ra = 1000 then _ else if ra = 1001 then _ else if ra = 1002 then _ else if ra = 1030 then _ else _
    by_cases h1 : ra = 1000
    · subst h1
      have := PM_ok _ (cont_mem h)
      rw [if_pos rfl, ho]; exact this
    · rw [if_neg h1]
      by_cases h2 : ra = 1001
      · subst h2
        have := PM_ok _ (cont_mem h)
        rw [if_pos rfl, ho]; exact this
      · rw [if_neg h2]
        by_cases h3 : ra = 1002
        · subst h3
          have := PM_ok _ (cont_mem h)
          rw [if_pos rfl, ho]; exact this
        · rw [if_neg h3]
          by_cases h4 : ra = 1030
          · subst h4
            dsimp only at h
            rw [if_neg (show ¬ (1030 = 1000 ∨ 1030 = 1001 ∨ 1030 = 1002) by decide), if_pos rfl, decide_eq_true_eq] at h
            rw [if_pos rfl, ho, h.1, h.2]; exact gLed
          · rw [if_neg h4]
            simp only [h1, h2, h3, h4, or_self, if_false, Bool.and_eq_true] at h
            obtain ⟨a, b⟩ := chL_ok hj h.1
            exact ⟨a, QS_ok _ (cont_mem h.2)⟩
  | invokevirtual i =>
    show if ra = 1010 then _ else if ra = 1011 then _ else _
    by_cases h1 : ra = 1010
    · subst h1
      have := PM_ok _ (cont_mem h)
      rw [if_pos rfl, ho]; exact this
    · rw [if_neg h1]
      by_cases h2 : ra = 1011
      · subst h2
        have := PM_ok _ (cont_mem h)
        rw [if_pos rfl, ho]; exact this
      · rw [if_neg h2]
        simp only [h1, h2, or_self, if_false, Bool.and_eq_true, decide_eq_true_eq] at h
        obtain ⟨⟨⟨⟨h3, h4⟩, h5⟩, h6⟩, h7⟩ := h
        obtain ⟨a, b⟩ := chL_ok hj h3
        exact ⟨a, QI_ok _ (cont_mem h4), QE_ok _ (cont_mem h5), h6, fun C T N hc => by rw [← (cT_of hc).2]; exact h7⟩
  | invokespecial i =>
    show if ra = 1020 then _ else _
    by_cases h1 : ra = 1020
    · subst h1
      have := PM_ok _ (cont_mem h)
      rw [if_pos rfl, ho]; exact this
    · rw [if_neg h1]
      simp only [h1, if_false, Bool.and_eq_true, decide_eq_true_eq] at h
      obtain ⟨⟨⟨h3, h4⟩, h5⟩, h6⟩ := h
      obtain ⟨a, b⟩ := chL_ok hj h3
      exact ⟨a, QI_ok _ (cont_mem h4), h5, h6⟩
  | ireturn =>
    simp only [Bool.or_eq_true, Bool.and_eq_true, decide_eq_true_eq] at h
    exact h
  | lreturn => exact of_decide_eq_true h
  | areturn => exact ⟨_, of_decide_eq_true h⟩
  | return_ => exact of_decide_eq_true h
  | _ => trivial
theorem look_mem (ps : List (Int × Int)) (df a : Int) : Op.lookupswitch.offset ps df a = df ∨ ∃ q ∈ ps, Op.lookupswitch.offset ps df a = q.2 := by
  induction ps with
  | nil => exact Or.inl rfl
  | cons q ps ih =>
    simp only [Op.lookupswitch.offset]
    split
    · exact Or.inr ⟨q, List.mem_cons_self, rfl⟩
    · rcases ih with h | ⟨w, hw, h⟩
      · exact Or.inl h
      · exact Or.inr ⟨w, List.mem_cons_of_mem _ hw, h⟩
theorem chkJ_ok {pc : Nat} {q : aO} (h : chkJ pc q = true) : okJ pc q := by
  intro x hx
  unfold chkJ at h
  rcases hx with ⟨off, e, rfl⟩ | ⟨cd, off, e, rfl⟩ | ⟨cd, off, e, rfl⟩ | ⟨off, e, rfl⟩ | ⟨off, e, rfl⟩ | ⟨df, lo, hi, offs, e, hx⟩ | ⟨df, ps, a, e, rfl⟩
  · rw [e] at h; exact of_decide_eq_true h
  · rw [e] at h; exact of_decide_eq_true h
  · rw [e] at h; exact of_decide_eq_true h
  · rw [e] at h; exact of_decide_eq_true h
  · rw [e] at h; exact of_decide_eq_true h
  · rw [e] at h
    simp only [Bool.and_eq_true, decide_eq_true_eq, List.all_eq_true] at h
    rcases hx with rfl | ⟨off, ho, rfl⟩
    · exact h.1
    · exact h.2 off ho
  · rw [e] at h
    simp only [Bool.and_eq_true, decide_eq_true_eq, List.all_eq_true] at h
    rcases look_mem ps.toList df a with e1 | ⟨q, hq, e1⟩
    · rw [e1]; exact h.1
    · rw [e1]; exact h.2 q hq
def chkT (j : Nat) : Nat → List aO → Bool
  | _, [] => true
  | pc, q :: ops => (decide (akd q ≠ 4) || decide (j = 167 ∧ pc = 49)) && chkT j (pc + q.2.1) ops
theorem chkT_all : (List.range 335).all (fun j => (mBk.getD j []).all (fun q => chkT j q.1 q.2)) = true := by decide +kernel
theorem chkOps_ok {j : Nat} (hj : j < 335) : ∀ {pc : Nat} {ops : List aO}, chkOps (mC j) (mK j) (decide ((mY j).name = "<init>")) (mR j) pc ops = true → chkT j pc ops = true → okOps j pc ops
  | _, [], _, _ => trivial
  | pc, q :: ops, h, ht => by
    simp only [chkT, Bool.and_eq_true, Bool.or_eq_true, decide_eq_true_eq] at ht
    simp only [chkOps, Bool.and_eq_true] at h
    obtain ⟨⟨⟨h1, h2⟩, h3⟩, h4⟩ := h
    refine ⟨?_, chkO_ok hj h2, chkJ_ok h3, fun h5 => ht.1.elim (fun h6 => absurd h5 h6) id, chkOps_ok hj h4 ht.2⟩
    split at h1
    · rename_i i n e
      simp only [Bool.and_eq_true, decide_eq_true_eq] at h1
      rw [e, h1.1, h1.2]
    · cases h1
theorem bkOk_all {j : Nat} (hj : j < 335) (h : bkOk j = true) : ∀ pc ops, aB j pc = some ops → okOps j pc ops := by
  intro pc ops hb
  unfold aB at hb
  cases hf : (mBk.getD j []).find? (fun q => q.1 == pc) with
  | none => rw [hf] at hb; cases hb
  | some q =>
    rw [hf] at hb
    cases hb
    have h1 := List.all_eq_true.mp h q (List.mem_of_find?_eq_some hf)
    have h2 := List.find?_some hf
    have e : q.1 = pc := by simpa using h2
    rw [← e]
    exact chkOps_ok hj h1 (List.all_eq_true.mp (List.all_eq_true.mp chkT_all j (List.mem_range.mpr hj)) q (List.mem_of_find?_eq_some hf))

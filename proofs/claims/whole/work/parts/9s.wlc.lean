/-! ===== the class takes a well as told ===== -/
section Wlc
variable {B : Nat → Int} {n p : Nat} {T : Nat} {M M1 : aM} {A A' : aA}
theorem acpy_ne {s d k a : Nat} (h : a ≠ d) : acpy M s d 0 0 k a = M a := funext fun _ => if_neg (fun e => h e.1)
theorem acpy_at {s d k b : Nat} (h : b < k) : acpy M s d 0 0 k d b = M s b := by
  unfold acpy
  rw [if_pos ⟨rfl, Nat.zero_le b, by omega⟩, Nat.zero_add, Nat.sub_zero]
/-- the state that a well begins with -/
def st0 (A : aA) (S : Nat → Int) : Prop := (∀ k, k < A 0 3 → S k = (A 6 k : Int)) ∧ (∀ k, k < 3 → S (3 + k) = -2) ∧ (∀ f, f < A 0 4 → S (6 + f) = (A 7 f : Int)) ∧ S 10 = (A 1 4 : Int) ∧ S 11 = 0
theorem st0_ws {S : Nat → Int} (hA : WF A) (h : st0 A S) : WS A S := by
  obtain ⟨a, b, c, d, e⟩ := h
  have h3 := hA.1.2.2.2.1
  refine ⟨fun k hk => ?_, fun f hf => ?_, ?_, by omega⟩
  · have := (hA.2.2.2.2.1 k hk).2
    rw [a k hk]
    exact ⟨by omega, by omega, Or.inl (b k (by omega))⟩
  · have := hA.2.2.2.2.2.1 f hf
    rw [c f hf]
    exact ⟨by omega, by omega⟩
  · rw [d, Int.toNat_natCast]
    exact ⟨by omega, hA.2.1.2.2.2.2.1, hA.2.1.2.2.2.2.2.1⟩
theorem sAll_ok (f : Nat) : ∀ (A : aA) (p : Nat), WFd A → p ≤ n → sAll B n f A p = .ok A' → WF A' ∧ A' 0 0 = 1 := by
  induction f with
  | zero => intro A p _ _ h; cases h
  | succ f ih =>
    intro A p hA hp h
    unfold sAll at h
    obtain ⟨j, h1, h2⟩ := ex_bind h
    obtain ⟨x, h3, h4⟩ := ex_bind h2
    obtain ⟨b1, b2, b3, b4, b5, b6⟩ := sBeg_ok h1
    obtain ⟨w1, w2, w3, w4⟩ := sRest_ok hA (kx_le hp) b1 b3 b4 b5 h3
    split at h4
    · split at h4
      · cases h4
      · rename_i hc
        cases h4
        exact ⟨w1.wf (by omega), w2⟩
    · split at h4
      · exact ih _ _ w1 (kx_le w4) h4
      · cases h4
/-- a fault's number is none of 0 -/
def epo {α : Type} (e : Except rE α) : Prop := ∀ er, e = .error er → 1 ≤ er.1
theorem epo_ok {α : Type} {x : α} : epo (.ok x : Except rE α) := fun er h => by cases h
theorem epo_er {α : Type} {c q : Nat} (h : 1 ≤ c) : epo (.error (c, q) : Except rE α) := fun er e => by cases e; exact h
theorem epo_bind {α β : Type} {e : Except rE α} {f : α → Except rE β} (h : epo e) (h2 : ∀ x, epo (f x)) : epo (e.bind f) := by
  cases e with
  | error c => exact fun er he => h er (by cases he; rfl)
  | ok x => exact h2 x
theorem epo_ite {α : Type} {c : Prop} [Decidable c] {x y : Except rE α} (h : epo x) (h2 : epo y) : epo (if c then x else y) := by
  split
  · exact h
  · exact h2
theorem epo_Wd {k : Nat} : epo (sWd B n k p) := epo_ite epo_ok (epo_er (by decide))
theorem epo_Nu {k lo hi : Nat} : epo (sNu B n k lo hi p) := epo_ite (epo_ite (epo_ite epo_ok (epo_er (by decide))) (epo_er (by decide))) (epo_er (by decide))
theorem epo_Cv : epo (sCv B n A p) := epo_ite (epo_ite epo_ok (epo_er (by decide))) (epo_er (by decide))
theorem epo_Nw : epo (sNw B n A p) := epo_ite (epo_ite (epo_er (by decide)) epo_ok) (epo_er (by decide))
theorem epo_Beg : epo (sBeg B n A p) := epo_ite (epo_er (by decide)) (epo_ite (epo_er (by decide)) (epo_ite (epo_er (by decide)) (epo_ite (epo_er (by decide)) epo_ok)))
theorem epo_0 : epo (sl0 B n A p) := epo_bind epo_Nu fun _ => epo_bind epo_Nu fun _ => epo_bind epo_Nu fun _ => epo_ok
theorem epo_1 : epo (sl1 B n A p) := epo_bind epo_Nw fun _ => epo_ite epo_ok (epo_ite epo_ok (epo_er (by decide)))
theorem epo_2 : epo (sl2 B n A p) := epo_bind epo_Cv fun _ => epo_bind epo_Cv fun _ => epo_ite (epo_er (by decide)) (epo_bind epo_Nu fun _ => epo_ite (epo_ite epo_ok (epo_er (by decide))) (epo_ite epo_ok (epo_er (by decide))))
theorem epo_3 : epo (sl3 B n A p) := epo_bind epo_Nw fun _ => epo_ite (epo_er (by decide)) (epo_bind epo_Wd fun _ => epo_bind epo_Cv fun _ => epo_ok)
theorem epo_4 : epo (sl4 B n A p) := epo_bind epo_Nw fun _ => epo_bind epo_Wd fun _ => epo_bind epo_Cv fun _ => epo_ok
theorem epo_5 : epo (sl5 B n A p) := epo_bind epo_Cv fun _ => epo_ite (epo_er (by decide)) (epo_bind epo_Nu fun _ => epo_ok)
theorem epo_6 : epo (sl6 B n A p) := epo_bind epo_Cv fun _ => epo_bind epo_Cv fun _ => epo_ite (epo_er (by decide)) (epo_ite (epo_ite (epo_er (by decide)) epo_ok) (epo_er (by decide)))
theorem epo_7 : epo (sl7 B n A p) := epo_bind epo_Cv fun _ => epo_bind epo_Cv fun _ => epo_ite (epo_er (by decide)) (epo_ite epo_ok (epo_ite epo_ok (epo_er (by decide))))
theorem epo_Rest {j : Nat} : epo (sRest B n j A p) := epo_ite epo_0 (epo_ite epo_1 (epo_ite epo_2 (epo_ite epo_3 (epo_ite epo_4 (epo_ite epo_5 (epo_ite epo_6 epo_7))))))
theorem epo_All (f : Nat) : ∀ (A : aA) (p : Nat), WFd A → p ≤ n → n - p < 2 * f → epo (sAll B n f A p) := by
  induction f with
  | zero => intro A p _ _ h; exact absurd h (Nat.not_lt_zero _)
  | succ f ih =>
    intro A p hA hp hf
    unfold sAll
    cases hb : sBeg B n A p with
    | error er => exact fun e he => epo_Beg e (by cases he; exact hb)
    | ok j =>
      obtain ⟨b1, b2, b3, b4, b5, b6⟩ := sBeg_ok hb
      show epo ((sRest B n j A (kX B n p)).bind _)
      cases hs : sRest B n j A (kX B n p) with
      | error er => exact fun e he => epo_Rest e (by cases he; exact hs)
      | ok x =>
        have hkx := kX_le (B := B) hp
        obtain ⟨w1, w2, w3, w4⟩ := sRest_ok hA hkx.1 b1 b3 b4 b5 hs
        have hpn : p < n := by
          rcases Nat.lt_or_ge p n with q | q
          · exact q
          · have := (kS_end (B := B)).mpr q; omega
        show epo (if kS B n x.2 = 0 then (if x.1 0 1 = 0 then .error (6, x.2) else .ok x.1) else if kS B n x.2 = 3 then sAll B n f x.1 (kX B n x.2) else .error (1, x.2))
        by_cases h0 : kS B n x.2 = 0
        · rw [if_pos h0]
          exact epo_ite (epo_er (by decide)) epo_ok
        · rw [if_neg h0]
          by_cases h3 : kS B n x.2 = 3
          · rw [if_pos h3]
            have hx2 : x.2 < n := by
              rcases Nat.lt_or_ge x.2 n with q | q
              · exact q
              · exact absurd (kS_end.mpr q) h0
            have hk2 := kX_le (B := B) w4
            exact ih _ _ w1 hk2.1 (by have := hkx.2 hpn; have := hk2.2 hx2; omega)
          · rw [if_neg h3]
            exact epo_er (by decide)
theorem epo_txt (hn : n ≤ 900) : epo (sAll B n 1000 (fun _ _ => 0) (spq B n 0)) := epo_All 1000 _ _ WFd.zero (spq_le (Nat.zero_le n)).2 (by omega)
def tk0 (M : aM) : aM := aup (aup (aup (aup (aup (aup M 2 0 (M 17 0)) 2 1 (M 17 1)) 2 2 (M 17 2)) 2 4 (M 17 4)) 2 9 (M 17 9)) 2 18 (M 17 18)
def tkM (M : aM) : aM := acpy (acpy (acpy (acpy (acpy (acpy (acpy (acpy (acpy (acpy (acpy (acpy (acpy (tk0 M) 18 3 0 0 8) 19 4 0 0 10) 20 5 0 0 10) 21 6 0 0 10) 22 7 0 0 64) 23 8 0 0 3) 24 9 0 0 3) 25 10 0 0 4) 26 11 0 0 4) 27 12 0 0 4) 28 13 0 0 4) 29 14 0 0 5) 30 15 0 0 5
theorem tk0_ne {m : Nat} (h : m ≠ 2) : tk0 M m = M m := by unfold tk0; rw [aup_nc h, aup_nc h, aup_nc h, aup_nc h, aup_nc h, aup_nc h]
theorem c_take : f_X10_take T 2 17 M = some (0, tkM M) := rfl
theorem tkM_ne {m : Nat} (h : m < 2 ∨ 15 < m) : tkM M m = M m := by unfold tkM; rw [acpy_ne (by omega), acpy_ne (by omega), acpy_ne (by omega), acpy_ne (by omega), acpy_ne (by omega), acpy_ne (by omega), acpy_ne (by omega), acpy_ne (by omega), acpy_ne (by omega), acpy_ne (by omega), acpy_ne (by omega), acpy_ne (by omega), acpy_ne (by omega), tk0_ne (by omega)]
theorem tkM_2 : tkM M 2 = tk0 M 2 := by unfold tkM; rw [acpy_ne (by decide), acpy_ne (by decide), acpy_ne (by decide), acpy_ne (by decide), acpy_ne (by decide), acpy_ne (by decide), acpy_ne (by decide), acpy_ne (by decide), acpy_ne (by decide), acpy_ne (by decide), acpy_ne (by decide), acpy_ne (by decide), acpy_ne (by decide)]
theorem tkM_3 {k : Nat} (h : k < 8) : tkM M 3 k = M 18 k := by unfold tkM; rw [acpy_ne (by decide), acpy_ne (by decide), acpy_ne (by decide), acpy_ne (by decide), acpy_ne (by decide), acpy_ne (by decide), acpy_ne (by decide), acpy_ne (by decide), acpy_ne (by decide), acpy_ne (by decide), acpy_ne (by decide), acpy_ne (by decide), acpy_at h, tk0_ne (by decide)]
theorem tkM_4 {k : Nat} (h : k < 10) : tkM M 4 k = M 19 k := by unfold tkM; rw [acpy_ne (by decide), acpy_ne (by decide), acpy_ne (by decide), acpy_ne (by decide), acpy_ne (by decide), acpy_ne (by decide), acpy_ne (by decide), acpy_ne (by decide), acpy_ne (by decide), acpy_ne (by decide), acpy_ne (by decide), acpy_at h, acpy_ne (by decide), tk0_ne (by decide)]
theorem tkM_5 {k : Nat} (h : k < 10) : tkM M 5 k = M 20 k := by unfold tkM; rw [acpy_ne (by decide), acpy_ne (by decide), acpy_ne (by decide), acpy_ne (by decide), acpy_ne (by decide), acpy_ne (by decide), acpy_ne (by decide), acpy_ne (by decide), acpy_ne (by decide), acpy_ne (by decide), acpy_at h, acpy_ne (by decide), acpy_ne (by decide), tk0_ne (by decide)]
theorem tkM_6 {k : Nat} (h : k < 10) : tkM M 6 k = M 21 k := by unfold tkM; rw [acpy_ne (by decide), acpy_ne (by decide), acpy_ne (by decide), acpy_ne (by decide), acpy_ne (by decide), acpy_ne (by decide), acpy_ne (by decide), acpy_ne (by decide), acpy_ne (by decide), acpy_at h, acpy_ne (by decide), acpy_ne (by decide), acpy_ne (by decide), tk0_ne (by decide)]
theorem tkM_7 {k : Nat} (h : k < 64) : tkM M 7 k = M 22 k := by unfold tkM; rw [acpy_ne (by decide), acpy_ne (by decide), acpy_ne (by decide), acpy_ne (by decide), acpy_ne (by decide), acpy_ne (by decide), acpy_ne (by decide), acpy_ne (by decide), acpy_at h, acpy_ne (by decide), acpy_ne (by decide), acpy_ne (by decide), acpy_ne (by decide), tk0_ne (by decide)]
theorem tkM_8 {k : Nat} (h : k < 3) : tkM M 8 k = M 23 k := by unfold tkM; rw [acpy_ne (by decide), acpy_ne (by decide), acpy_ne (by decide), acpy_ne (by decide), acpy_ne (by decide), acpy_ne (by decide), acpy_ne (by decide), acpy_at h, acpy_ne (by decide), acpy_ne (by decide), acpy_ne (by decide), acpy_ne (by decide), acpy_ne (by decide), tk0_ne (by decide)]
theorem tkM_9 {k : Nat} (h : k < 3) : tkM M 9 k = M 24 k := by unfold tkM; rw [acpy_ne (by decide), acpy_ne (by decide), acpy_ne (by decide), acpy_ne (by decide), acpy_ne (by decide), acpy_ne (by decide), acpy_at h, acpy_ne (by decide), acpy_ne (by decide), acpy_ne (by decide), acpy_ne (by decide), acpy_ne (by decide), acpy_ne (by decide), tk0_ne (by decide)]
theorem tkM_10 {k : Nat} (h : k < 4) : tkM M 10 k = M 25 k := by unfold tkM; rw [acpy_ne (by decide), acpy_ne (by decide), acpy_ne (by decide), acpy_ne (by decide), acpy_ne (by decide), acpy_at h, acpy_ne (by decide), acpy_ne (by decide), acpy_ne (by decide), acpy_ne (by decide), acpy_ne (by decide), acpy_ne (by decide), acpy_ne (by decide), tk0_ne (by decide)]
theorem tkM_11 {k : Nat} (h : k < 4) : tkM M 11 k = M 26 k := by unfold tkM; rw [acpy_ne (by decide), acpy_ne (by decide), acpy_ne (by decide), acpy_ne (by decide), acpy_at h, acpy_ne (by decide), acpy_ne (by decide), acpy_ne (by decide), acpy_ne (by decide), acpy_ne (by decide), acpy_ne (by decide), acpy_ne (by decide), acpy_ne (by decide), tk0_ne (by decide)]
theorem tkM_12 {k : Nat} (h : k < 4) : tkM M 12 k = M 27 k := by unfold tkM; rw [acpy_ne (by decide), acpy_ne (by decide), acpy_ne (by decide), acpy_at h, acpy_ne (by decide), acpy_ne (by decide), acpy_ne (by decide), acpy_ne (by decide), acpy_ne (by decide), acpy_ne (by decide), acpy_ne (by decide), acpy_ne (by decide), acpy_ne (by decide), tk0_ne (by decide)]
theorem tkM_13 {k : Nat} (h : k < 4) : tkM M 13 k = M 28 k := by unfold tkM; rw [acpy_ne (by decide), acpy_ne (by decide), acpy_at h, acpy_ne (by decide), acpy_ne (by decide), acpy_ne (by decide), acpy_ne (by decide), acpy_ne (by decide), acpy_ne (by decide), acpy_ne (by decide), acpy_ne (by decide), acpy_ne (by decide), acpy_ne (by decide), tk0_ne (by decide)]
theorem tkM_14 {k : Nat} (h : k < 5) : tkM M 14 k = M 29 k := by unfold tkM; rw [acpy_ne (by decide), acpy_at h, acpy_ne (by decide), acpy_ne (by decide), acpy_ne (by decide), acpy_ne (by decide), acpy_ne (by decide), acpy_ne (by decide), acpy_ne (by decide), acpy_ne (by decide), acpy_ne (by decide), acpy_ne (by decide), acpy_ne (by decide), tk0_ne (by decide)]
theorem tkM_15 {k : Nat} (h : k < 5) : tkM M 15 k = M 30 k := by unfold tkM; rw [acpy_at h, acpy_ne (by decide), acpy_ne (by decide), acpy_ne (by decide), acpy_ne (by decide), acpy_ne (by decide), acpy_ne (by decide), acpy_ne (by decide), acpy_ne (by decide), acpy_ne (by decide), acpy_ne (by decide), acpy_ne (by decide), acpy_ne (by decide), tk0_ne (by decide)]
theorem tkM_f : tkM M 2 0 = M 17 0 ∧ tkM M 2 1 = M 17 1 ∧ tkM M 2 2 = M 17 2 ∧ tkM M 2 4 = M 17 4 ∧ tkM M 2 9 = M 17 9 ∧ tkM M 2 18 = M 17 18 := by
  rw [tkM_2]
  exact ⟨rfl, rfl, rfl, rfl, rfl, rfl⟩
theorem tkM_ct (hA : WF A) (h1 : A 0 0 = 1) (h : CD M A) : CT (tkM M) A := by
  obtain ⟨a, b, c, d, f, -⟩ := h
  obtain ⟨t0, t1, t2, t3, t4, t5⟩ := tkM_f (M := M)
  obtain ⟨-, l1, l2, l3, l4, l5, l6, l7⟩ := hA.1
  obtain ⟨b0, b1, b2⟩ := b h1
  refine ⟨fun i hi => by rw [tkM_3 hi]; exact a i hi, ⟨t0.trans b0, t1.trans b1, t2.trans b2, t3.trans c.1, t4.trans c.2.1, t5.trans c.2.2⟩, fun k hk => ⟨?_, ?_, ?_⟩, fun x y hx hy => ?_, fun k hk => ⟨?_, ?_⟩, fun k hk => ?_, fun k hk => ⟨?_, ?_⟩, fun k hk => ?_, fun k hk => ⟨?_, ?_⟩⟩
  · rw [tkM_4 (by omega)]; have := d 2 (by decide) (by decide) k hk; rw [show off 2 + k = k from Nat.zero_add k] at this; exact this
  · rw [tkM_5 (by omega)]; have := d 3 (by decide) (by decide) k hk; rw [show off 3 + k = k from Nat.zero_add k] at this; exact this
  · rw [tkM_6 (by omega)]; have := d 4 (by decide) (by decide) k hk; rw [show off 4 + k = k from Nat.zero_add k] at this; exact this
  · rw [tkM_7 (by omega)]; exact f x y hx hy
  · rw [tkM_8 (by omega)]; have := d 5 (by decide) (by decide) k hk; rw [show off 5 + k = k from Nat.zero_add k] at this; exact this
  · rw [tkM_9 (by omega)]; have := d 6 (by decide) (by decide) k hk; rw [show off 6 + k = k from Nat.zero_add k] at this; exact this
  · rw [tkM_10 (by omega)]; have := d 7 (by decide) (by decide) k hk; rw [show off 7 + k = k from Nat.zero_add k] at this; exact this
  · rw [tkM_11 (by omega)]; have := d 8 (by decide) (by decide) k hk; rw [show off 8 + k = k from Nat.zero_add k] at this; exact this
  · rw [tkM_12 (by omega)]; have := d 9 (by decide) (by decide) k hk; rw [show off 9 + k = k from Nat.zero_add k] at this; exact this
  · rw [tkM_13 (by omega)]; have := d 10 (by decide) (by decide) k hk; rw [show off 10 + k = k from Nat.zero_add k] at this; exact this
  · rw [tkM_14 (by omega)]; have := d 11 (by decide) (by decide) k hk; rw [show off 11 + k = k from Nat.zero_add k] at this; exact this
  · rw [tkM_15 (by omega)]; have := d 12 (by decide) (by decide) k hk; rw [show off 12 + k = k from Nat.zero_add k] at this; exact this
theorem CT.far (h : CT M A) (e : ∀ m, 2 ≤ m → m ≤ 15 → M1 m = M m) : CT M1 A := by
  unfold CT
  rw [e 2 (by decide) (by decide), e 3 (by decide) (by decide), e 4 (by decide) (by decide), e 5 (by decide) (by decide), e 6 (by decide) (by decide), e 7 (by decide) (by decide), e 8 (by decide) (by decide), e 9 (by decide) (by decide), e 10 (by decide) (by decide), e 11 (by decide) (by decide), e 12 (by decide) (by decide), e 13 (by decide) (by decide), e 14 (by decide) (by decide), e 15 (by decide) (by decide)]
  exact h
/-- the state begun -/
def bgM (M : aM) : aM := aup (aup (setc (acpy (acpy M 9 36 0 0 3) 10 38 0 0 4) 37 (fun b => if b < 3 then -2 else M 37 b)) 35 3 (M 2 9)) 35 4 0
theorem c_begin : f_X8_begin T 35 2 M = some (0, bgM M) := by
  have e0 : setc (acpy (acpy M 9 36 0 0 3) 10 38 0 0 4) 37 (fun b => if b < 0 then -2 else M 37 b) = acpy (acpy M 9 36 0 0 3) 10 38 0 0 4 := by
    funext a b
    unfold setc
    by_cases ha : a = 37
    · subst ha
      rw [if_pos rfl, acpy_ne (by decide), acpy_ne (by decide)]
      exact if_neg (Nat.not_lt_zero b)
    · rw [if_neg ha]
  have key : ∀ kk : Int → aM → Option (Int × aM), l_X8_begin_30 T 35 2 kk FU 0 (acpy (acpy M 9 36 0 0 3) 10 38 0 0 4) = kk 3 (setc (acpy (acpy M 9 36 0 0 3) 10 38 0 0 4) 37 (fun b => if b < 3 then -2 else M 37 b)) := by
    intro kk
    have key := for_until (fun i n => l_X8_begin_30 T 35 2 kk n (i : Int) (setc (acpy (acpy M 9 36 0 0 3) 10 38 0 0 4) 37 (fun b => if b < i then -2 else M 37 b))) (y := kk 3 (setc (acpy (acpy M 9 36 0 0 3) 10 38 0 0 4) 37 (fun b => if b < 3 then -2 else M 37 b))) 3 (fun i n hi => ?_) (fun n => ?_) (by decide)
    · have e1 : l_X8_begin_30 T 35 2 kk FU 0 (setc (acpy (acpy M 9 36 0 0 3) 10 38 0 0 4) 37 (fun b => if b < 0 then -2 else M 37 b)) = _ := key
      rw [e0] at e1
      exact e1
    · show l_X8_begin_30 T 35 2 kk (n + 1) (i : Int) _ = l_X8_begin_30 T 35 2 kk n ((i + 1 : Nat) : Int) _
      rw [l_X8_begin_30]
      refine c_neg (by omega) (c_ite (by omega) (c_some (c_ite (by omega) ?_)))
      rw [Int.toNat_natCast, show 35 + 2 = 37 from rfl, aup_setc]
      have e : (fun b => if b = i then (-2 : Int) else if b < i then -2 else M 37 b) = (fun b => if b < i + 1 then -2 else M 37 b) := by
        funext b
        by_cases h1 : b = i
        · rw [if_pos h1, if_pos (by omega)]
        · rw [if_neg h1]
          by_cases h2 : b < i
          · rw [if_pos h2, if_pos (by omega)]
          · rw [if_neg h2, if_neg (by omega)]
      rw [e]
      rfl
    · show l_X8_begin_30 T 35 2 kk (n + 1) 3 _ = _
      rw [l_X8_begin_30]
      exact c_pos (by decide) rfl
  have e9 : setc (acpy (acpy M 9 36 0 0 3) 10 38 0 0 4) 37 (fun b => if b < 3 then -2 else M 37 b) 2 9 = M 2 9 := by
    rw [setc_ne (by decide), acpy_ne (by decide), acpy_ne (by decide)]
  unfold f_X8_begin bgM
  refine c_some (c_some ((key _).trans ?_))
  rw [e9]
  rfl
theorem bgM_ne {m : Nat} (h : m < 35 ∨ 38 < m) : bgM M m = M m := by
  unfold bgM
  rw [aup_nc (by omega), aup_nc (by omega), setc_ne (by omega), acpy_ne (by omega), acpy_ne (by omega)]
theorem bgM_cs {S : Nat → Int} (hA : WF A) (h : CT M A) (hs : st0 A S) : CS (bgM M) 35 A S := by
  obtain ⟨-, l1, l2, l3, l4, l5, l6, l7⟩ := hA.1
  obtain ⟨a, b, c, d, e⟩ := hs
  refine ⟨fun k hk => ⟨?_, ?_⟩, fun f hf => ?_, ?_, ?_⟩
  · rw [a k hk]
    unfold bgM
    rw [aup_nc (by decide), aup_nc (by decide), setc_ne (by decide), acpy_ne (by decide), acpy_at (by omega)]
    exact (h.2.2.2.2.1 k hk).2
  · rw [b k (by omega)]
    unfold bgM
    rw [aup_nc (by decide), aup_nc (by decide), setc_at]
    exact if_pos (by omega)
  · rw [c f hf]
    unfold bgM
    rw [aup_nc (by decide), aup_nc (by decide), setc_ne (by decide), acpy_at (by omega), acpy_ne (by decide)]
    exact h.2.2.2.2.2.1 f hf
  · rw [d]
    unfold bgM
    rw [aup_ne2 (by decide), aup_at]
    exact h.2.1.2.2.2.2.1
  · rw [e]
    exact aup_at
theorem CS.cong {S : Nat → Int} {e : Nat} (h : CS M e A S) (q : ∀ m, e ≤ m → m ≤ e + 3 → M1 m = M m) : CS M1 e A S := by
  unfold CS
  rw [q e (by omega) (by omega), q (e + 1) (by omega) (by omega), q (e + 2) (by omega) (by omega), q (e + 3) (by omega) (by omega)]
  exact h
theorem LD.cong {e : Nat} {dr : Nat → Bool} (h : LD M e A dr) (q : ∀ m, e ≤ m → m ≤ e + 2 → M1 m = M m) : LD M1 e A dr := by
  unfold LD
  rw [q (e + 1) (by omega) (by omega), q (e + 2) (by omega) (by omega)]
  exact h
/-- how the class takes a text -/
def cWl (M M' : aM) (e : Except rE aA) : Prop := (∀ m, 137 < m → M' m = M m) ∧ (∀ i, i < 8 → M' 31 i = M 31 i ∧ M' 32 i = M 32 i) ∧ M' 0 1 = 0 ∧ M' 59 2 = M 59 2 ∧ match e with
  | .error er => (∀ m, 1 < m ∧ m < 16 ∨ 34 < m → M' m = M m) ∧ M' 16 1 = (er.1 : Int) ∧ M' 16 2 = (er.2 : Int) ∧ M' 0 14 = 4
  | .ok A' => CT M' A' ∧ (∀ S, st0 A' S → CS M' 35 A' S) ∧ LD M' 39 A' (dry (A' 1 4)) ∧ LD M' 42 A' (dry (A' 1 4)) ∧ M' 59 3 = 0 ∧ M' 59 4 = 0 ∧ M' 16 1 = 0 ∧ M' 0 14 = 0
theorem c_well (hl : ∀ i, i < 8 → M 31 i = (pkd (12 + i) : Int) ∧ M 32 i = -1) (hr : ∀ k, k < 8 → M 1000001 k = (rom k : Int)) {tp : Nat} (htp : tp ≤ 900) (h01 : M 0 1 = (tp : Int)) (v : Int) :
    (¬ (0 ≤ v ∧ v ≤ (tp : Int)) → f_X11_well T v M = some (-1, aup M 0 14 2)) ∧ ∀ n : Nat, v = (n : Int) → n ≤ tp → ∀ B : Nat → Int, (∀ k, k < n → M 1 k = B k) → ∃ M', f_X11_well T v M = some ((match sAll B n 1000 (fun _ _ => 0) (spq B n 0) with | .error _ => -1 | .ok A' => (A' 0 1 : Int)), M') ∧ cWl M M' (sAll B n 1000 (fun _ _ => 0) (spq B n 0)) := by
  constructor
  · intro hv
    unfold f_X11_well
    rw [h01]
    by_cases h0 : v < 0
    · exact c_pos h0 rfl
    · exact c_neg h0 (c_neg (by omega) rfl)
  · intro n hv hn B hB
    subst hv
    obtain ⟨M1, e1, e2, e3⟩ := c_read (T := T) (B := B) (n := n) (M := aup M 0 1 0) (by omega) (fun i hi => by rw [aup_nc (by decide), aup_nc (by decide)]; exact hl i hi) (fun k hk => by rw [aup_nc (by decide)]; exact hr k hk) (fun k hk => by rw [aup_nc (by decide)]; exact hB k hk)
    have f0 : M1 0 = aup M 0 1 0 0 := e2.1 0 (by decide)
    have fne : ∀ m, 0 < m ∧ m < 16 ∨ 34 < m → M1 m = M m := fun m hm => by rw [e2.1 m (by omega), aup_nc (by omega)]
    have f31 : ∀ i, i < 8 → M1 31 i = M 31 i ∧ M1 32 i = M 32 i := fun i hi => by
      have := e2.2 i hi
      rw [aup_nc (by decide), aup_nc (by decide)] at this
      exact this
    have pre : ∀ y, ((f_X7_read T (n : Int) (aup M 0 1 0)).bind fun x9 => if x9.1 = 0 then (f_X11_refuse T 4 x9.2).bind fun x38 => some (x38.1, x38.2) else (f_X10_take T 2 17 x9.2).bind fun x14 => (f_X8_begin T 35 2 x14.2).bind fun x18 => (f_X5_lay T 42 (x18.2 2 9) x18.2).bind fun x22 => (f_X5_lay T 39 (x22.2 35 3) x22.2).bind fun x26 => (f_X4_empty T x26.2).bind fun x30 => (f_X11_allow T (x30.2 3 1) x30.2).bind fun x34 => some (x34.1, x34.2)) = y → f_X11_well T (n : Int) M = y := by
      intro y hy
      unfold f_X11_well
      rw [h01]
      exact c_neg (by omega) (c_pos (by omega) (c_some hy))
    cases hs : sAll B n 1000 (fun _ _ => 0) (spq B n 0) with
    | error er =>
      rw [hs] at e3
      have hne : ¬ M1 16 1 = 0 := by
        rw [e3.1]
        have := epo_txt (B := B) (n := n) (by omega) er hs
        omega
      rw [decide_eq_false hne] at e1
      refine ⟨aup M1 0 14 4, pre _ (c_bind e1 (c_pos rfl rfl)), fun m hm => ?_, fun i hi => ?_, ?_, ?_, fun m hm => ?_, ?_, ?_, aup_at⟩
      · rw [aup_nc (by omega)]; exact fne m (by omega)
      · rw [aup_nc (by decide), aup_nc (by decide)]; exact f31 i hi
      · rw [aup_ne2 (by decide), f0]; exact aup_at
      · rw [aup_nc (by decide), fne 59 (by decide)]
      · rw [aup_nc (by omega)]; exact fne m (by omega)
      · rw [aup_nc (by decide)]; exact e3.1
      · rw [aup_nc (by decide)]; exact e3.2
    | ok A' =>
      rw [hs] at e3
      have hne : M1 16 1 = 0 := e3.2
      rw [decide_eq_true hne] at e1
      obtain ⟨hA, hA1⟩ := sAll_ok 1000 _ _ WFd.zero (spq_le (Nat.zero_le n)).2 hs
      have hct := tkM_ct hA hA1 e3.1
      have hct2 : CT (bgM (tkM M1)) A' := hct.far fun m h2 h15 => bgM_ne (by omega)
      have s31 : A' 1 4 < 2147483648 := Nat.lt_of_lt_of_le hA.2.1.2.2.2.2.1 (Nat.le_trans (Nat.pow_le_pow_right (by decide) (show A' 0 2 ≤ 31 by have := hA.1.2.2.1; omega)) (by decide))
      have e29 : bgM (tkM M1) 2 9 = (A' 1 4 : Int) := hct2.2.1.2.2.2.2.1
      have l1 := h_lay (T := T) (e := 42) hA (by decide) hct2.tw s31
      have hct3 : CT (layM (bgM (tkM M1)) 42 A' (A' 1 4)) A' := hct2.far fun m h2 h15 => layM_ne (by omega)
      have e35 : layM (bgM (tkM M1)) 42 A' (A' 1 4) 35 3 = (A' 1 4 : Int) := by
        rw [layM_ne (by decide)]
        unfold bgM
        rw [aup_ne2 (by decide), aup_at]
        exact hct.2.1.2.2.2.2.1
      have l2 := h_lay (T := T) (e := 39) hA (by decide) hct3.tw s31
      have ne3 : ∀ m, m < 2 ∨ (15 < m ∧ m < 35) ∨ 44 < m → layM (layM (bgM (tkM M1)) 42 A' (A' 1 4)) 39 A' (A' 1 4) m = M1 m := fun m hm => by
        rw [layM_ne (by omega), layM_ne (by omega), bgM_ne (by omega), tkM_ne (by omega)]
      have hct4 : CT (layM (layM (bgM (tkM M1)) 42 A' (A' 1 4)) 39 A' (A' 1 4)) A' := hct3.far fun m h2 h15 => layM_ne (by omega)
      have z3 : layM (layM (bgM (tkM M1)) 42 A' (A' 1 4)) 39 A' (A' 1 4) 3 1 = (A' 0 1 : Int) := hct4.1 1 (by decide)
      have nz : ∀ (Z : aM) m, m ≠ 0 → m ≠ 59 → aup (aup (aup Z 59 3 0) 59 4 0) 0 14 0 m = Z m := fun Z m h1 h2 => by rw [aup_nc h1, aup_nc h2, aup_nc h2]
      have n59 : ∀ (Z : aM) k, k ≠ 3 → k ≠ 4 → aup (aup (aup Z 59 3 0) 59 4 0) 0 14 0 59 k = Z 59 k := fun Z k h1 h2 => by rw [aup_nc (by decide), aup_ne2 h2, aup_ne2 h1]
      refine ⟨aup (aup (aup (layM (layM (bgM (tkM M1)) 42 A' (A' 1 4)) 39 A' (A' 1 4)) 59 3 0) 59 4 0) 0 14 0, pre _ (c_bind e1 (c_neg (show ¬ (1 : Int) = 0 by decide) (c_bind c_take (c_bind c_begin ?_)))), fun m hm => ?_, fun i hi => ?_, ?_, ?_, ?_, fun S hS => ?_, ?_, ?_, ?_, ?_, ?_, aup_at⟩
      · show ((f_X5_lay T 42 (bgM (tkM M1) 2 9) (bgM (tkM M1))).bind fun x22 => (f_X5_lay T 39 (x22.2 35 3) x22.2).bind fun x26 => (f_X4_empty T x26.2).bind fun x30 => (f_X11_allow T (x30.2 3 1) x30.2).bind fun x34 => some (x34.1, x34.2)) = _
        rw [e29]
        refine c_bind l1 ?_
        show ((f_X5_lay T 39 (layM (bgM (tkM M1)) 42 A' (A' 1 4) 35 3) (layM (bgM (tkM M1)) 42 A' (A' 1 4))).bind fun x26 => (f_X4_empty T x26.2).bind fun x30 => (f_X11_allow T (x30.2 3 1) x30.2).bind fun x34 => some (x34.1, x34.2)) = _
        rw [e35]
        refine c_bind l2 (c_bind (v := (0, aup (aup (layM (layM (bgM (tkM M1)) 42 A' (A' 1 4)) 39 A' (A' 1 4)) 59 3 0) 59 4 0)) rfl ?_)
        have e31 : aup (aup (layM (layM (bgM (tkM M1)) 42 A' (A' 1 4)) 39 A' (A' 1 4)) 59 3 0) 59 4 0 3 1 = (A' 0 1 : Int) := by rw [aup_nc (by decide), aup_nc (by decide)]; exact z3
        show ((f_X11_allow T (aup (aup (layM (layM (bgM (tkM M1)) 42 A' (A' 1 4)) 39 A' (A' 1 4)) 59 3 0) 59 4 0 3 1) (aup (aup (layM (layM (bgM (tkM M1)) 42 A' (A' 1 4)) 39 A' (A' 1 4)) 59 3 0) 59 4 0)).bind fun x34 => some (x34.1, x34.2)) = _
        rw [e31]
        rfl
      · rw [nz _ m (by omega) (by omega), ne3 m (by omega)]; exact fne m (by omega)
      · rw [nz _ 31 (by decide) (by decide), nz _ 32 (by decide) (by decide), ne3 31 (by decide), ne3 32 (by decide)]; exact f31 i hi
      · rw [aup_ne2 (by decide), aup_nc (by decide), aup_nc (by decide), ne3 0 (by decide), f0]; exact aup_at
      · rw [n59 _ 2 (by decide) (by decide), ne3 59 (by decide), fne 59 (by decide)]
      · exact hct4.far fun m h2 h15 => nz _ m (by omega) (by omega)
      · exact (bgM_cs hA hct hS).cong fun m h1 h2 => by rw [nz _ m (by omega) (by omega), layM_ne (by omega), layM_ne (by omega)]
      · exact layM_LD.cong fun m h1 h2 => nz _ m (by omega) (by omega)
      · exact layM_LD.cong fun m h1 h2 => by rw [nz _ m (by omega) (by omega), layM_ne (by omega)]
      · rw [aup_nc (by decide), aup_ne2 (by decide)]; exact aup_at
      · rw [aup_nc (by decide)]; exact aup_at
      · rw [nz _ 16 (by decide) (by decide), ne3 16 (by decide)]; exact hne
end Wlc

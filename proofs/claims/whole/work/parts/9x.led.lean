/-! ===== led; size ===== -/
section Lds
variable {A : aA} {S : Nat → Int} {M : aM}
def sln (A : aA) (S : Nat → Int) (k : Nat) : Bool := decide (A 1 0 < nea A S (S k).toNat)
def ldp (A : aA) (S : Nat → Int) (v : Int) (k : Nat) : Bool := sln A S k && decide ((cntp (sln A S) k : Int) = v)
/-- the voice that is led: as many as there are if it is none -/
def ldk (A : aA) (S : Nat → Int) (v : Int) : Nat := fst (ldp A S v) (A 0 3)
theorem wp_thr {d j pc : Nat} {ops : List aO} {L : List aV} {σ : aS} {Q : Option aV → aS → Prop} {i rb rc : Nat} (h : 3 ≤ d) (hq : Q (some (7, 0)) (σ.1, σ.2.1, σ.2.2.1 + 1, σ.2.2.2 + 6)) : Wp d j pc ((.new i, 3, 999, rb, rc) :: ops) L [] σ Q := by
  refine ⟨1, some (7, 0), _, ?_, hq⟩
  rw [exec_cons]
  exact if_pos ⟨h, rfl⟩
theorem aB_X11_led : ∀ pc, aB 167 pc = fnd bk_X11_led pc := fun _ => rfl
theorem c_led_at {T : T3} (hS : Sh T.1 M) (h : CQ M A S) (v : Int) {d : Nat} (hd : 3 ≤ d) {Q : Option aV → aS → Prop} (q1 : ldk A S v < A 0 3 → Q (some (0, (ldk A S v : Int))) (M, T)) (q2 : ¬ ldk A S v < A 0 3 → Q (some (7, 0)) (M, T.1, T.2.1 + 1, T.2.2 + 6)) : ∀ j k, k + j = A 0 3 → (∀ i, i < k → ldp A S v i = false) → Wp d 167 4 [] [(2, ((0 : Nat) : Int)), (0, v), (0, (cntp (sln A S) k : Int)), (0, (k : Int))] [] (M, T) Q := by
  have h0 : 0 < T.1 := Nat.lt_of_lt_of_le (show 0 < 154 by decide) hS.1.1
  have h2 : 2 < T.1 := Nat.lt_of_lt_of_le (show 2 < 154 by decide) hS.1.1
  have h35 : 35 < T.1 := Nat.lt_of_lt_of_le (show 35 < 154 by decide) hS.1.1
  have h3 := h.1.1.2.2.2.1
  have e33 : M 3 3 = (A 0 3 : Int) := h.2.2.1.1 3 (by decide)
  intro j
  induction j with
  | zero =>
    intro k hk hno
    refine y_blk (t := 4) rfl (show fnd bk_X11_led 4 = some _ from rfl) aB_X11_led ?_
    refine wp_iload_n (v := (k : Int)) rfl ?_
    refine wp_aload_n (v := ((0 : Nat) : Int)) rfl (Int.natCast_nonneg _) ?_
    refine y_get (show ash 0 = (11, 15) from rfl) h0 (v := ((2 : Nat) : Int)) (hS.at 0 2 2 (by decide +kernel)) rfl ?_
    refine y_get (show ash 2 = (10, 19) from rfl) h2 (v := ((3 : Nat) : Int)) (hS.at 2 3 3 (by decide +kernel)) rfl ?_
    refine wp_iconst ⟨by decide, by decide⟩ ?_
    refine y_iald (show ash 3 = (100, 8) from rfl) (Or.inl (Nat.lt_of_lt_of_le (show 3 < 154 by decide) hS.1.1)) (by decide) ⟨by decide, by decide⟩ (v := (A 0 3 : Int)) e33 ?_
    refine wp_icmp_ge (fun c => ?_) (fun c => absurd c (by omega))
    refine y_blk (t := 49) rfl (show fnd bk_X11_led 49 = some _ from rfl) aB_X11_led ?_
    refine wp_thr hd (q2 ?_)
    unfold ldk
    rw [fst_none (fun i hi => hno i (by omega))]
    omega
  | succ j ih =>
    intro k hk hno
    have hkl : k < A 0 3 := by omega
    have hc := h.2.1.1 k hkl
    have e36 : M 36 k = S k := (h.2.2.2.1.1 k hkl).1
    have eS : S k = ((S k).toNat : Int) := by omega
    have hh := h_hearersOf (T := T.1) h (c := (S k).toNat) (by omega)
    have hm := t_X11_hearersOf (T := T) hS hh
    have hcl := cntp_le (sln A S) k
    refine y_blk (t := 4) rfl (show fnd bk_X11_led 4 = some _ from rfl) aB_X11_led ?_
    refine wp_iload_n (v := (k : Int)) rfl ?_
    refine wp_aload_n (v := ((0 : Nat) : Int)) rfl (Int.natCast_nonneg _) ?_
    refine y_get (show ash 0 = (11, 15) from rfl) h0 (v := ((2 : Nat) : Int)) (hS.at 0 2 2 (by decide +kernel)) rfl ?_
    refine y_get (show ash 2 = (10, 19) from rfl) h2 (v := ((3 : Nat) : Int)) (hS.at 2 3 3 (by decide +kernel)) rfl ?_
    refine wp_iconst ⟨by decide, by decide⟩ ?_
    refine y_iald (show ash 3 = (100, 8) from rfl) (Or.inl (Nat.lt_of_lt_of_le (show 3 < 154 by decide) hS.1.1)) (by decide) ⟨by decide, by decide⟩ (v := (A 0 3 : Int)) e33 ?_
    refine wp_icmp_ge (fun c => absurd c (by omega)) (fun c => ?_)
    refine wp_aload_n (v := ((0 : Nat) : Int)) rfl (Int.natCast_nonneg _) ?_
    refine wp_aload_n (v := ((0 : Nat) : Int)) rfl (Int.natCast_nonneg _) ?_
    refine y_get (show ash 0 = (11, 15) from rfl) h0 (v := ((35 : Nat) : Int)) (hS.at 0 4 35 (by decide +kernel)) rfl ?_
    refine y_get (show ash 35 = (8, 5) from rfl) h35 (v := ((36 : Nat) : Int)) (hS.at 35 0 36 (by decide +kernel)) rfl ?_
    refine wp_iload_n (v := (k : Int)) rfl ?_
    refine y_iald (show ash 36 = (100, 3) from rfl) (Or.inl (Nat.lt_of_lt_of_le (show 36 < 154 by decide) hS.1.1)) (by decide) ⟨by omega, by omega⟩ (v := ((S k).toNat : Int)) (by rw [Int.toNat_natCast, e36]; exact eS) ?_
    refine y_callV (as := [(0, ((S k).toNat : Int))]) (S1 := []) (Nat.le_of_ble_eq_true rfl) (by omega) hm (Nat.le_of_ble_eq_true rfl) rfl (show ash 0 = (11, 15) from rfl) h0 (Nat.le_of_ble_eq_true rfl) (Nat.le_of_ble_eq_true rfl) rfl ?_
    have tail : ∀ x : Nat, x = cntp (sln A S) (k + 1) → ldp A S v k = false → Wp d 167 43 [] [(2, ((0 : Nat) : Int)), (0, v), (0, (x : Int)), (0, (k : Int))] [] (M, T) Q := by
      intro x hx hp
      subst hx
      refine y_blk (t := 43) rfl (show fnd bk_X11_led 43 = some _ from rfl) aB_X11_led ?_
      refine y_iinc (L1 := [(2, ((0 : Nat) : Int)), (0, v), (0, (cntp (sln A S) (k + 1) : Int)), (0, (k : Int) + 1)]) rfl (Nat.le_of_ble_eq_true rfl) ⟨by decide, by decide⟩ ⟨by omega, by omega⟩ rfl ?_
      refine wp_goto ?_
      have := ih (k + 1) (by omega) (fun i hi => by
        by_cases e : i = k
        · rw [e]; exact hp
        · exact hno i (by omega))
      rw [show ((k + 1 : Nat) : Int) = (k : Int) + 1 by omega] at this
      exact this
    by_cases hz : hrs A S (S k).toNat = 0
    · have hsl : sln A S k = true := decide_eq_true ((hrs_zero h.1 h.2.1).mp hz)
      have hc1 : cntp (sln A S) (k + 1) = cntp (sln A S) k + 1 := by
        show cntp (sln A S) k + (if sln A S k = true then 1 else 0) = _
        rw [if_pos hsl]
      refine y_nez (fun c2 => absurd (show (hrs A S (S k).toNat : Int) = 0 by omega) c2) (fun c2 => ?_)
      refine wp_iload_n (v := (cntp (sln A S) k : Int)) rfl ?_
      refine wp_iload_n (v := v) rfl ?_
      refine y_ne (fun c3 => ?_) (fun c3 => ?_)
      · refine y_blk (t := 40) rfl (show fnd bk_X11_led 40 = some _ from rfl) aB_X11_led ?_
        refine y_iinc (L1 := [(2, ((0 : Nat) : Int)), (0, v), (0, (cntp (sln A S) k : Int) + 1), (0, (k : Int))]) rfl (Nat.le_of_ble_eq_true rfl) ⟨by decide, by decide⟩ ⟨by omega, by omega⟩ rfl ?_
        have := tail _ hc1.symm (by unfold ldp; rw [hsl, Bool.true_and]; exact decide_eq_false c3)
        exact this
      · have hp : ldp A S v k = true := by unfold ldp; rw [hsl, Bool.true_and]; exact decide_eq_true c3
        have hk : ldk A S v = k := fst_eq hkl hp hno
        refine wp_iload_n (v := (k : Int)) rfl ?_
        refine y_ret0 (Or.inl rfl) ?_
        have := q1 (by omega)
        rw [hk] at this
        exact this
    · have hsl : sln A S k = false := decide_eq_false (fun e => hz ((hrs_zero h.1 h.2.1).mpr e))
      have hc1 : cntp (sln A S) (k + 1) = cntp (sln A S) k := by
        show cntp (sln A S) k + (if sln A S k = true then 1 else 0) = _
        rw [hsl]; rfl
      refine y_nez (fun c2 => ?_) (fun c2 => absurd c2 (by omega))
      exact tail _ hc1.symm (by unfold ldp; rw [hsl]; rfl)
theorem c_led {T : T3} (hS : Sh T.1 M) (h : CQ M A S) (v : Int) {d : Nat} (hd : 3 ≤ d) : (ldk A S v < A 0 3 → Ms d 167 [(2, ((0 : Nat) : Int)), (0, v)] (M, T) (some (0, (ldk A S v : Int))) (M, T)) ∧ (¬ ldk A S v < A 0 3 → Ms d 167 [(2, ((0 : Nat) : Int)), (0, v)] (M, T) (some (7, 0)) (M, T.1, T.2.1 + 1, T.2.2 + 6)) := by
  have st : ∀ Q : Option aV → aS → Prop, Wp d 167 4 [] [(2, ((0 : Nat) : Int)), (0, v), (0, ((0 : Nat) : Int)), (0, ((0 : Nat) : Int))] [] (M, T) Q → Wp d 167 0 [] [(2, ((0 : Nat) : Int)), (0, v), (9, 0), (9, 0)] [] (M, T) Q := by
    intro Q K
    refine y_blk (t := 0) rfl (show fnd bk_X11_led 0 = some _ from rfl) aB_X11_led ?_
    refine wp_iconst ⟨by decide, by decide⟩ ?_
    refine y_stn (L1 := [(2, ((0 : Nat) : Int)), (0, v), (0, 0), (9, 0)]) (Nat.le_of_ble_eq_true rfl) rfl ?_
    refine wp_iconst ⟨by decide, by decide⟩ ?_
    refine y_stn (L1 := [(2, ((0 : Nat) : Int)), (0, v), (0, 0), (0, 0)]) (Nat.le_of_ble_eq_true rfl) rfl ?_
    exact K
  constructor
  · intro hk
    exact Ms.of (st _ (c_led_at hS h v hd (fun _ => ⟨rfl, rfl⟩) (fun e => absurd hk e) (A 0 3) 0 (by omega) (fun i hi => absurd hi (Nat.not_lt_zero i))))
  · intro hk
    exact Ms.of (st _ (c_led_at hS h v hd (fun e => absurd e hk) (fun _ => ⟨rfl, rfl⟩) (A 0 3) 0 (by omega) (fun i hi => absurd hi (Nat.not_lt_zero i))))
theorem m_led {T : Nat} (h : MD T M A S) (v : Int) : ∃ M', f_X13_led T v M = some ((if ldk A S v < A 0 3 then (ldk A S v : Int) else 0), M') ∧ sM M M' ∧ M' 138 0 = (if ldk A S v < A 0 3 then 0 else 1) := by
  have hA := h.1
  have hS := h.2.1
  have h3 := hA.1.2.2.2.1
  have h1 : sM M (aup M 138 0 0) := sM_fl (by omega)
  have hm1 := h.of h1
  have a00 : aup M 138 0 0 138 0 = 0 := aup_at
  have hlt : ∀ p : Nat → Bool, fst p 0 = 0 := fun p => rfl
  unfold f_X13_led
  rcases hm1.2.2.1 with ⟨h0, hn⟩ | ⟨h0, w, hw⟩
  · have hz := (hA.2.2.2.2.2.2.2.2.2.1 h0).1 3
    have hk : ¬ ldk A S v < A 0 3 := by omega
    rw [if_neg hk, if_neg hk]
    refine ⟨aup (aup M 138 0 0) 138 0 1, c_some (c_pos (by rw [hn]; decide) ?_), h1.trans (sM_fl (by omega)), aup_at⟩
    show l_X13_led_20 T v _ _ (99999 + 1) 0 0 = _
    rw [l_X13_led_20]
    exact c_pos (by rw [hn]; decide) rfl
  · have hwk := hm1.works hw
    have hk := hm1.mk hw
    have hsm := h1.trans (sM_works (M := aup M 138 0 0) (A := A) (dr := dS S))
    have w0 : worksM (aup M 138 0 0) A (dS S) 138 0 = 0 := by rw [worksM_ne (by decide)]; exact a00
    generalize worksM (aup M 138 0 0) A (dS S) = M1 at hwk hk hsm w0
    have my : MY T M1 w A S := ⟨hA, hS, hk.1, hk.2.1, fun f hf => hk.2.2.1 (6 + f) (by have := hA.1.2.2.2.2.1; omega)⟩
    have e3 : M1 138 3 = (w : Int) := hk.1.1
    have e7 : M1 w 7 = (A 0 3 : Int) := hk.1.2.2.1.2.2.2.2.2.2.2.1
    have hsil : ∀ i, i < A 0 3 → f_X13_isSilent T (i : Int) M1 = some (bI (sln A S i)) := fun i hi => by
      have := hS.1 i hi
      exact g_isSilent my (by omega) (c := (S i).toNat) (by omega) (by rw [hk.2.2.1 i (by omega)]; omega)
    have key : ∀ kk : Int → Int → Option (Int × aM), l_X13_led_20 T v M1 kk FU 0 0 = if fst (ldp A S v) (A 0 3) < A 0 3 then some ((fst (ldp A S v) (A 0 3) : Int), M1) else kk (cntp (sln A S) (A 0 3) : Int) (A 0 3) := by
      intro kk
      refine find_loop (fun n i => l_X13_led_20 T v M1 kk n (cntp (sln A S) i.toNat : Int) i) (A 0 3) (ldp A S v) (fun i => some ((i : Int), M1)) (y := kk (cntp (sln A S) (A 0 3) : Int) (A 0 3)) (by omega) (fun i n hi hp => ?_) (fun i n hi hp => ?_) (fun n => ?_)
      · show l_X13_led_20 T v M1 kk (n + 1) (cntp (sln A S) i : Int) (i : Int) = l_X13_led_20 T v M1 kk n (cntp (sln A S) (i + 1) : Int) ((i : Int) + 1)
        have hcl := cntp_le (sln A S) i
        rw [l_X13_led_20, e3, Int.toNat_natCast, e7]
        refine c_neg (by omega) (c_ite hk.1.2.1 (c_neg (by omega) (c_bind (hsil i hi) ?_)))
        cases hs : sln A S i
        · have hc1 : cntp (sln A S) (i + 1) = cntp (sln A S) i := by
            show cntp (sln A S) i + (if sln A S i = true then 1 else 0) = _
            rw [hs]; rfl
          rw [hc1]
          exact c_pos rfl (c_ite (by omega) rfl)
        · have hc1 : cntp (sln A S) (i + 1) = cntp (sln A S) i + 1 := by
            show cntp (sln A S) i + (if sln A S i = true then 1 else 0) = _
            rw [hs]; rfl
          rw [hc1]
          unfold ldp at hp
          rw [hs, Bool.true_and] at hp
          refine c_neg (by decide) (c_neg (of_decide_eq_false hp) (c_ite (by omega) (c_ite (by omega) ?_)))
          rw [show ((cntp (sln A S) i + 1 : Nat) : Int) = (cntp (sln A S) i : Int) + 1 by omega]
      · show l_X13_led_20 T v M1 kk (n + 1) (cntp (sln A S) i : Int) (i : Int) = _
        rw [l_X13_led_20, e3, Int.toNat_natCast, e7]
        unfold ldp at hp
        rw [Bool.and_eq_true] at hp
        refine c_neg (by omega) (c_ite hk.1.2.1 (c_neg (by omega) (c_bind (hsil i hi) ?_)))
        rw [hp.1]
        exact c_neg (by decide) (c_pos (of_decide_eq_true hp.2) rfl)
      · show l_X13_led_20 T v M1 kk (n + 1) (cntp (sln A S) (A 0 3) : Int) (A 0 3) = _
        rw [l_X13_led_20, e3, Int.toNat_natCast, e7]
        exact c_neg (by omega) (c_ite hk.1.2.1 (c_pos (Int.le_refl _) rfl))
    have n3 : ¬ aup M 138 0 0 138 3 < 0 := by rw [hw.1]; omega
    by_cases hq : ldk A S v < A 0 3
    · rw [if_pos hq, if_pos hq]
      refine ⟨M1, c_some (c_neg n3 (c_bind hwk ((key _).trans ?_))), hsm, w0⟩
      exact if_pos hq
    · rw [if_neg hq, if_neg hq]
      refine ⟨aup M1 138 0 1, c_some (c_neg n3 (c_bind hwk ((key _).trans ?_))), hsm.trans (sM_fl (by omega)), aup_at⟩
      exact (if_neg hq).trans rfl
end Lds

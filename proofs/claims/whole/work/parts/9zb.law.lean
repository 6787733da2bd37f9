/-! ===== the law's loop ===== -/
theorem aB_L_law : ∀ pc, aB 334 pc = fnd bk_L_law pc := fun _ => rfl
def bo (x : Int) : Int := if x = 0 then 0 else 1
section Law
variable {d j pc : Nat} {ops : List aO} {L S : List aV} {M : aM} {T : T3} {Q : Option aV → aS → Prop} {ra rb rc : Nat} {u5 u6 : aV}
theorem y_to {t : Nat} {σ : aS} (h : pc = t) (K : Wp d j t ops L S σ Q) : Wp d j pc ops L S σ Q := by rw [h]; exact K
theorem alen_scr : alen (M, T) 1000000 = (M 1000000 5000).toNat := if_pos rfl
theorem y_arg {i k : Nat} {kk v : Int} (hk : kk = (k : Int)) (hkn : k ≤ 5) (hi : (i : Int) + 6 ≤ M 1000000 5000) (hl : M 1000000 5000 ≤ 3072) (hv : M 1000000 (i + k) = v) (K : Wp d j (pc + 1 + 2 + 1 + 1 + 1) ops [(2, 1000000), (2, ((0 : Nat) : Int)), (2, ((138 : Nat) : Int)), (2, ((153 : Nat) : Int)), (0, (i : Int)), u5, u6] ((0, v) :: S) (M, T) Q) : Wp d j pc ((.aload_n 0, 1, 0, 0, 0) :: (.iload 4, 2, 0, 0, 0) :: (.iconst kk, 1, 0, 0, 0) :: (.iadd, 1, 0, 0, 0) :: (.iaload, 1, 0, 0, 0) :: ops) [(2, 1000000), (2, ((0 : Nat) : Int)), (2, ((138 : Nat) : Int)), (2, ((153 : Nat) : Int)), (0, (i : Int)), u5, u6] S (M, T) Q := by
  subst hk hv
  refine wp_aload_n (v := 1000000) rfl (by decide) ?_
  refine wp_iload (v := (i : Int)) rfl ?_
  refine wp_iconst ⟨by omega, by omega⟩ ?_
  refine wp_iadd ⟨by omega, by omega⟩ ?_
  refine wp_iaload ⟨⟨by decide, rfl, Or.inr (by decide)⟩, by omega, ?_⟩ ?_
  · show ((i : Int) + (k : Int)).toNat < alen (M, T) 1000000
    rw [alen_scr]
    omega
  · show Wp d j _ ops _ ((0, M 1000000 ((i : Int) + (k : Int)).toNat) :: S) (M, T) Q
    rw [show ((i : Int) + (k : Int)).toNat = i + k by omega]
    exact K
theorem y_bool {x off g : Int} {t0 t1 : Nat} (h0 : ((pc : Int) + off).toNat = t0) (hb : fnd bk_L_law t0 = some [(.iconst 0, 1, 0, 0, 0)]) (h1 : t0 + 1 = t1) (hg : (((pc + 3 + 1 : Nat) : Int) + g).toNat = t1) (K : Wp d 334 t1 [] L ((0, bo x) :: S) (M, T) Q) : Wp d 334 pc ((.ifCond .eq off, 3, 0, 0, 0) :: (.iconst 1, 1, 0, 0, 0) :: (.goto g, 3, 0, 0, 0) :: ops) L ((0, x) :: S) (M, T) Q := by
  refine wp_if_eq (fun c => ?_) (fun c => ?_)
  · rw [h0]
    refine wp_blk ((aB_L_law t0).trans hb) (wp_iconst ⟨by decide, by decide⟩ ?_)
    rw [h1]
    unfold bo at K
    rw [if_pos c] at K
    exact K
  · refine wp_iconst ⟨by decide, by decide⟩ (wp_goto ?_)
    rw [hg]
    unfold bo at K
    rw [if_neg c] at K
    exact K
theorem y_callW {i f na K0 : Nat} {as S0 S1 : List aV} {n len : Nat} {t : Nat} {x : Int} {M1 : aM} {T1 : T3} (hf : f < 1000) (hd : K0 + 1 ≤ d) (hM : ∀ d, K0 ≤ d → Ms d f ((2, ((n : Nat) : Int)) :: as) (M, T) (some (t, x)) (M1, T1)) (ht : t < 3) (hl : as.length = na) (ha : ash n = (mK f, len)) (hn : n < T.1) (hw : awd S1 ≤ 8) (hL : (as.flatMap (fun v => if v.1 = 1 then [v, (9, 0)] else [v])).length + 1 ≤ mL f) (hS : S0 = as.reverse ++ (2, ((n : Nat) : Int)) :: S1) (K : Wp d j (pc + 3) ops L ((t, x) :: S1) (M1, T1) Q) : Wp d j pc ((.invokevirtual i, 3, f, na, rc) :: ops) L S0 (M, T) Q := by
  have e : S0 = ((2, ((n : Nat) : Int)) :: as).reverse ++ S1 := by rw [hS, List.reverse_cons, List.append_assoc]; rfl
  rw [e]
  have hl2 : ((2, ((n : Nat) : Int)) :: as).length = anA (.invokevirtual i, 3, f, na, rc) := by show as.length + 1 = na + 1; rw [hl]
  have hR : aRc mK (.invokevirtual i, 3, f, na, rc) (((2, ((n : Nat) : Int)) :: as).reverse ++ S1) (M, T) = true := by
    rw [← e, hS]
    show (match (as.reverse ++ (2, ((n : Nat) : Int)) :: S1).drop na with | (2, x) :: _ => decide (aWr (M, T) x (mK f)) | _ => false) = true
    rw [← hl, ← List.length_reverse, List.drop_left]
    refine decide_eq_true ⟨Int.natCast_nonneg n, ?_, hn⟩
    show (ash n).1 = mK f
    rw [ha]
  have hL2 : ((((2, ((n : Nat) : Int)) :: as).flatMap (fun v => if v.1 = 1 then [v, (9, 0)] else [v])).length ≤ mL f) := by
    show (([(2, ((n : Nat) : Int))] : List aV) ++ as.flatMap (fun v : aV => if v.1 = 1 then [v, (9, 0)] else [v])).length ≤ mL f
    rw [List.length_append]
    show 1 + _ ≤ _
    rw [Nat.add_comm]; exact hL
  obtain ⟨d1, rfl⟩ : ∃ d1, d = d1 + 1 := ⟨d - 1, by omega⟩
  have e1 : (((2, ((n : Nat) : Int)) :: as).reverse ++ S1).drop (anA (.invokevirtual i, 3, f, na, rc)) = S1 := by rw [← hl2, ← List.length_reverse, List.drop_left]
  have e2 : ((((2, ((n : Nat) : Int)) :: as).reverse ++ S1).take (anA (.invokevirtual i, 3, f, na, rc))).reverse = (2, ((n : Nat) : Int)) :: as := by rw [← hl2, ← List.length_reverse, List.take_left, List.reverse_reverse]
  refine wp_call (o := (.invokevirtual i, 3, f, na, rc)) (by show (if f < 1000 then 2 else 0) = 2; rw [if_pos hf]) (r1 := some (t, x)) (σ1 := (M1, T1)) ?_ (fun z hz => by cases hz; omega) (call_cond hl2 hw hR hL2) ?_
  · rw [e2]; exact hM d1 (by omega)
  · rw [e1]; exact K
theorem y_led7 {ik : Nat} {q : Nat} {i : Int} {x : Nat} {y : Int} {S1 : List aV} {σ1 : aS} {d1 : Nat} (hM : Ms d1 167 [(2, ((x : Nat) : Int)), (0, i)] (M, T) (some (7, y)) σ1) (hc : awd S1 ≤ 8 ∧ aWr (M, T) (q : Int) 102 ∧ 0 < (ash (q : Int).toNat).2 ∧ aWr (M, T) (x : Int) 11 ∧ 2 ≤ mL 167 ∧ 6 ≤ d1) (K : Wp (d1 + 2) j (pc + 3) ops L ((0, 1) :: S1) σ1 Q) : Wp (d1 + 2) j pc ((.invokestatic ik, 3, 1030, rb, rc) :: ops) L ((2, (q : Int)) :: (0, i) :: (2, ((x : Nat) : Int)) :: S1) (M, T) Q := by
  obtain ⟨n1, hM⟩ := hM
  obtain ⟨n2, r, σ2, h1, h2⟩ := K
  refine ⟨n1 + n2 + 1, r, σ2, ?_, h2⟩
  rw [exec_cons]
  show (if awd S1 ≤ 8 ∧ aWr (M, T) (q : Int) 102 ∧ 0 < (ash (q : Int).toNat).2 ∧ aWr (M, T) (x : Int) 11 ∧ 2 ≤ mL 167 ∧ 6 ≤ d1 then _ else none) = _
  rw [if_pos hc, exec_add hM n2]
  have h3 := exec_add h1 n1
  rw [Nat.add_comm n2 n1] at h3
  exact h3
theorem y_led0 {ik : Nat} {q : Nat} {i : Int} {x : Nat} {y : Int} {S1 : List aV} {d1 : Nat} (hM : Ms d1 167 [(2, ((x : Nat) : Int)), (0, i)] (M, T) (some (0, y)) (M, T)) (hc : awd S1 ≤ 8 ∧ aWr (M, T) (q : Int) 102 ∧ 0 < (ash (q : Int).toNat).2 ∧ aWr (M, T) (x : Int) 11 ∧ 2 ≤ mL 167 ∧ 6 ≤ d1) (K : Wp (d1 + 2) j (pc + 3) ops L ((0, 0) :: S1) (aup M q 0 y, T) Q) : Wp (d1 + 2) j pc ((.invokestatic ik, 3, 1030, rb, rc) :: ops) L ((2, (q : Int)) :: (0, i) :: (2, ((x : Nat) : Int)) :: S1) (M, T) Q := by
  obtain ⟨n1, hM⟩ := hM
  obtain ⟨n2, r, σ2, h1, h2⟩ := K
  refine ⟨n1 + n2 + 1, r, σ2, ?_, h2⟩
  rw [exec_cons]
  show (if awd S1 ≤ 8 ∧ aWr (M, T) (q : Int) 102 ∧ 0 < (ash (q : Int).toNat).2 ∧ aWr (M, T) (x : Int) 11 ∧ 2 ≤ mL 167 ∧ 6 ≤ d1 then _ else none) = _
  rw [if_pos hc, exec_add hM n2]
  have h3 := exec_add h1 n1
  rw [Nat.add_comm n2 n1] at h3
  exact h3
variable {A : aA} {st : aT} {i : Nat}
theorem lw_0 (h : Lst T M A st) (hi : (i : Int) + 6 ≤ M 1000000 5000) (hl : M 1000000 5000 ≤ 3072) (K : ∀ M2 T2, Kp T T2 M M2 → ∀ u5 u6 : aV, Wp 17 334 2026 [] [(2, 1000000), (2, ((0 : Nat) : Int)), (2, ((138 : Nat) : Int)), (2, ((153 : Nat) : Int)), (0, (i : Int)), u5, u6] [] (M2, T2) Q) : Wp 17 334 280 [] [(2, 1000000), (2, ((0 : Nat) : Int)), (2, ((138 : Nat) : Int)), (2, ((153 : Nat) : Int)), (0, (i : Int)), u5, u6] [] (M, T) Q := by
  have h0 : 0 < T.1 := Nat.lt_of_lt_of_le (show 0 < 154 by decide) h.1.1.1
  have h138 : 138 < T.1 := Nat.lt_of_lt_of_le (show 138 < 154 by decide) h.1.1.1
  obtain ⟨x, M1, M2, T2, r1, r2, e1, kp⟩ := tw_feed h (M 1000000 (i + 1)) (M 1000000 (i + 2)) (M 1000000 (i + 3)) (M 1000000 (i + 4)) (M 1000000 (i + 5))
  have hi1 : (i : Int) + 6 ≤ M1 1000000 5000 := by rw [e1]; exact hi
  have hl1 : M1 1000000 5000 ≤ 3072 := by rw [e1]; exact hl
  refine y_blk (t := 280) rfl (show fnd bk_L_law 280 = some _ from rfl) aB_L_law ?_
  refine wp_aload_n (v := ((0 : Nat) : Int)) rfl (Int.natCast_nonneg _) ?_
  refine y_arg (k := 1) rfl (by decide) hi hl (v := M 1000000 (i + 1)) rfl ?_
  refine y_arg (k := 2) rfl (by decide) hi hl (v := M 1000000 (i + 2)) rfl ?_
  refine y_arg (k := 3) rfl (by decide) hi hl (v := M 1000000 (i + 3)) rfl ?_
  refine y_arg (k := 4) rfl (by decide) hi hl (v := M 1000000 (i + 4)) rfl ?_
  refine y_arg (k := 5) rfl (by decide) hi hl (v := M 1000000 (i + 5)) rfl ?_
  refine y_callW (as := [(0, M 1000000 (i + 1)), (0, M 1000000 (i + 2)), (0, M 1000000 (i + 3)), (0, M 1000000 (i + 4)), (0, M 1000000 (i + 5))]) (S1 := []) (Nat.le_of_ble_eq_true rfl) (by decide) r1 (Nat.le_of_ble_eq_true rfl) rfl (show ash 0 = (11, 15) from rfl) h0 (Nat.le_of_ble_eq_true rfl) (Nat.le_of_ble_eq_true rfl) rfl ?_
  refine wp_aload_n (v := ((138 : Nat) : Int)) rfl (Int.natCast_nonneg _) ?_
  refine y_arg (k := 1) rfl (by decide) hi1 hl1 (v := M 1000000 (i + 1)) (by rw [e1]) ?_
  refine y_arg (k := 2) rfl (by decide) hi1 hl1 (v := M 1000000 (i + 2)) (by rw [e1]) ?_
  refine y_arg (k := 3) rfl (by decide) hi1 hl1 (v := M 1000000 (i + 3)) (by rw [e1]) ?_
  refine y_arg (k := 4) rfl (by decide) hi1 hl1 (v := M 1000000 (i + 4)) (by rw [e1]) ?_
  refine y_arg (k := 5) rfl (by decide) hi1 hl1 (v := M 1000000 (i + 5)) (by rw [e1]) ?_
  refine y_callW (as := [(0, M 1000000 (i + 1)), (0, M 1000000 (i + 2)), (0, M 1000000 (i + 3)), (0, M 1000000 (i + 4)), (0, M 1000000 (i + 5))]) (S1 := [(0, x)]) (Nat.le_of_ble_eq_true rfl) (by decide) r2 (Nat.le_of_ble_eq_true rfl) rfl (show ash 138 = (13, 38) from rfl) h138 (Nat.le_of_ble_eq_true rfl) (Nat.le_of_ble_eq_true rfl) rfl ?_
  exact wp_icmp_eq (fun _ => y_to rfl (K M2 T2 kp u5 u6)) (fun c => absurd rfl c)
theorem lw_1 (h : Lst T M A st) (hi : (i : Int) + 6 ≤ M 1000000 5000) (hl : M 1000000 5000 ≤ 3072) (K : ∀ M2 T2, Kp T T2 M M2 → ∀ u5 u6 : aV, Wp 17 334 2026 [] [(2, 1000000), (2, ((0 : Nat) : Int)), (2, ((138 : Nat) : Int)), (2, ((153 : Nat) : Int)), (0, (i : Int)), u5, u6] [] (M2, T2) Q) : Wp 17 334 353 [] [(2, 1000000), (2, ((0 : Nat) : Int)), (2, ((138 : Nat) : Int)), (2, ((153 : Nat) : Int)), (0, (i : Int)), u5, u6] [] (M, T) Q := by
  have h0 : 0 < T.1 := Nat.lt_of_lt_of_le (show 0 < 154 by decide) h.1.1.1
  have h138 : 138 < T.1 := Nat.lt_of_lt_of_le (show 138 < 154 by decide) h.1.1.1
  obtain ⟨x, M1, M2, T2, r1, r2, e1, kp⟩ := tw_well h (M 1000000 (i + 1))
  have hi1 : (i : Int) + 6 ≤ M1 1000000 5000 := by rw [e1]; exact hi
  have hl1 : M1 1000000 5000 ≤ 3072 := by rw [e1]; exact hl
  refine y_blk (t := 353) rfl (show fnd bk_L_law 353 = some _ from rfl) aB_L_law ?_
  refine wp_aload_n (v := ((0 : Nat) : Int)) rfl (Int.natCast_nonneg _) ?_
  refine y_arg (k := 1) rfl (by decide) hi hl (v := M 1000000 (i + 1)) rfl ?_
  refine y_callW (as := [(0, M 1000000 (i + 1))]) (S1 := []) (Nat.le_of_ble_eq_true rfl) (by decide) r1 (Nat.le_of_ble_eq_true rfl) rfl (show ash 0 = (11, 15) from rfl) h0 (Nat.le_of_ble_eq_true rfl) (Nat.le_of_ble_eq_true rfl) rfl ?_
  refine wp_aload_n (v := ((138 : Nat) : Int)) rfl (Int.natCast_nonneg _) ?_
  refine y_arg (k := 1) rfl (by decide) hi1 hl1 (v := M 1000000 (i + 1)) (by rw [e1]) ?_
  refine y_callW (as := [(0, M 1000000 (i + 1))]) (S1 := [(0, x)]) (Nat.le_of_ble_eq_true rfl) (by decide) r2 (Nat.le_of_ble_eq_true rfl) rfl (show ash 138 = (13, 38) from rfl) h138 (Nat.le_of_ble_eq_true rfl) (Nat.le_of_ble_eq_true rfl) rfl ?_
  exact wp_icmp_eq (fun _ => y_to rfl (K M2 T2 kp u5 u6)) (fun c => absurd rfl c)
theorem lw_2 (h : Lst T M A st) (hi : (i : Int) + 6 ≤ M 1000000 5000) (hl : M 1000000 5000 ≤ 3072) (K : ∀ M2 T2, Kp T T2 M M2 → ∀ u5 u6 : aV, Wp 17 334 2026 [] [(2, 1000000), (2, ((0 : Nat) : Int)), (2, ((138 : Nat) : Int)), (2, ((153 : Nat) : Int)), (0, (i : Int)), u5, u6] [] (M2, T2) Q) : Wp 17 334 378 [] [(2, 1000000), (2, ((0 : Nat) : Int)), (2, ((138 : Nat) : Int)), (2, ((153 : Nat) : Int)), (0, (i : Int)), u5, u6] [] (M, T) Q := by
  have h0 : 0 < T.1 := Nat.lt_of_lt_of_le (show 0 < 154 by decide) h.1.1.1
  have h138 : 138 < T.1 := Nat.lt_of_lt_of_le (show 138 < 154 by decide) h.1.1.1
  obtain ⟨x, M1, M2, T2, r1, r2, e1, kp⟩ := tw_fault h
  have hi1 : (i : Int) + 6 ≤ M1 1000000 5000 := by rw [e1]; exact hi
  have hl1 : M1 1000000 5000 ≤ 3072 := by rw [e1]; exact hl
  refine y_blk (t := 378) rfl (show fnd bk_L_law 378 = some _ from rfl) aB_L_law ?_
  refine wp_aload_n (v := ((0 : Nat) : Int)) rfl (Int.natCast_nonneg _) ?_
  refine y_callW (as := []) (S1 := []) (Nat.le_of_ble_eq_true rfl) (by decide) r1 (Nat.le_of_ble_eq_true rfl) rfl (show ash 0 = (11, 15) from rfl) h0 (Nat.le_of_ble_eq_true rfl) (Nat.le_of_ble_eq_true rfl) rfl ?_
  refine wp_aload_n (v := ((138 : Nat) : Int)) rfl (Int.natCast_nonneg _) ?_
  refine y_callW (as := []) (S1 := [(0, x)]) (Nat.le_of_ble_eq_true rfl) (by decide) r2 (Nat.le_of_ble_eq_true rfl) rfl (show ash 138 = (13, 38) from rfl) h138 (Nat.le_of_ble_eq_true rfl) (Nat.le_of_ble_eq_true rfl) rfl ?_
  exact wp_icmp_eq (fun _ => y_to rfl (K M2 T2 kp u5 u6)) (fun c => absurd rfl c)
theorem lw_3 (h : Lst T M A st) (hi : (i : Int) + 6 ≤ M 1000000 5000) (hl : M 1000000 5000 ≤ 3072) (K : ∀ M2 T2, Kp T T2 M M2 → ∀ u5 u6 : aV, Wp 17 334 2026 [] [(2, 1000000), (2, ((0 : Nat) : Int)), (2, ((138 : Nat) : Int)), (2, ((153 : Nat) : Int)), (0, (i : Int)), u5, u6] [] (M2, T2) Q) : Wp 17 334 391 [] [(2, 1000000), (2, ((0 : Nat) : Int)), (2, ((138 : Nat) : Int)), (2, ((153 : Nat) : Int)), (0, (i : Int)), u5, u6] [] (M, T) Q := by
  have h0 : 0 < T.1 := Nat.lt_of_lt_of_le (show 0 < 154 by decide) h.1.1.1
  have h138 : 138 < T.1 := Nat.lt_of_lt_of_le (show 138 < 154 by decide) h.1.1.1
  obtain ⟨x, M1, M2, T2, r1, r2, e1, kp⟩ := tw_where h
  have hi1 : (i : Int) + 6 ≤ M1 1000000 5000 := by rw [e1]; exact hi
  have hl1 : M1 1000000 5000 ≤ 3072 := by rw [e1]; exact hl
  refine y_blk (t := 391) rfl (show fnd bk_L_law 391 = some _ from rfl) aB_L_law ?_
  refine wp_aload_n (v := ((0 : Nat) : Int)) rfl (Int.natCast_nonneg _) ?_
  refine y_callW (as := []) (S1 := []) (Nat.le_of_ble_eq_true rfl) (by decide) r1 (Nat.le_of_ble_eq_true rfl) rfl (show ash 0 = (11, 15) from rfl) h0 (Nat.le_of_ble_eq_true rfl) (Nat.le_of_ble_eq_true rfl) rfl ?_
  refine wp_aload_n (v := ((138 : Nat) : Int)) rfl (Int.natCast_nonneg _) ?_
  refine y_callW (as := []) (S1 := [(0, x)]) (Nat.le_of_ble_eq_true rfl) (by decide) r2 (Nat.le_of_ble_eq_true rfl) rfl (show ash 138 = (13, 38) from rfl) h138 (Nat.le_of_ble_eq_true rfl) (Nat.le_of_ble_eq_true rfl) rfl ?_
  exact wp_icmp_eq (fun _ => y_to rfl (K M2 T2 kp u5 u6)) (fun c => absurd rfl c)
theorem lw_4 (h : Lst T M A st) (hi : (i : Int) + 6 ≤ M 1000000 5000) (hl : M 1000000 5000 ≤ 3072) (K : ∀ M2 T2, Kp T T2 M M2 → ∀ u5 u6 : aV, Wp 17 334 2026 [] [(2, 1000000), (2, ((0 : Nat) : Int)), (2, ((138 : Nat) : Int)), (2, ((153 : Nat) : Int)), (0, (i : Int)), u5, u6] [] (M2, T2) Q) : Wp 17 334 404 [] [(2, 1000000), (2, ((0 : Nat) : Int)), (2, ((138 : Nat) : Int)), (2, ((153 : Nat) : Int)), (0, (i : Int)), u5, u6] [] (M, T) Q := by
  have h0 : 0 < T.1 := Nat.lt_of_lt_of_le (show 0 < 154 by decide) h.1.1.1
  have h138 : 138 < T.1 := Nat.lt_of_lt_of_le (show 138 < 154 by decide) h.1.1.1
  obtain ⟨x, M1, M2, T2, r1, r2, e1, kp⟩ := tw_cave h (M 1000000 (i + 1)) (M 1000000 (i + 2))
  have hi1 : (i : Int) + 6 ≤ M1 1000000 5000 := by rw [e1]; exact hi
  have hl1 : M1 1000000 5000 ≤ 3072 := by rw [e1]; exact hl
  refine y_blk (t := 404) rfl (show fnd bk_L_law 404 = some _ from rfl) aB_L_law ?_
  refine wp_aload_n (v := ((0 : Nat) : Int)) rfl (Int.natCast_nonneg _) ?_
  refine y_arg (k := 1) rfl (by decide) hi hl (v := M 1000000 (i + 1)) rfl ?_
  refine y_arg (k := 2) rfl (by decide) hi hl (v := M 1000000 (i + 2)) rfl ?_
  refine y_callW (as := [(0, M 1000000 (i + 1)), (0, M 1000000 (i + 2))]) (S1 := []) (Nat.le_of_ble_eq_true rfl) (by decide) r1 (Nat.le_of_ble_eq_true rfl) rfl (show ash 0 = (11, 15) from rfl) h0 (Nat.le_of_ble_eq_true rfl) (Nat.le_of_ble_eq_true rfl) rfl ?_
  refine wp_aload_n (v := ((138 : Nat) : Int)) rfl (Int.natCast_nonneg _) ?_
  refine y_arg (k := 1) rfl (by decide) hi1 hl1 (v := M 1000000 (i + 1)) (by rw [e1]) ?_
  refine y_arg (k := 2) rfl (by decide) hi1 hl1 (v := M 1000000 (i + 2)) (by rw [e1]) ?_
  refine y_callW (as := [(0, M 1000000 (i + 1)), (0, M 1000000 (i + 2))]) (S1 := [(0, x)]) (Nat.le_of_ble_eq_true rfl) (by decide) r2 (Nat.le_of_ble_eq_true rfl) rfl (show ash 138 = (13, 38) from rfl) h138 (Nat.le_of_ble_eq_true rfl) (Nat.le_of_ble_eq_true rfl) rfl ?_
  exact wp_icmp_eq (fun _ => y_to rfl (K M2 T2 kp u5 u6)) (fun c => absurd rfl c)
theorem lw_5 (h : Lst T M A st) (hi : (i : Int) + 6 ≤ M 1000000 5000) (hl : M 1000000 5000 ≤ 3072) (K : ∀ M2 T2, Kp T T2 M M2 → ∀ u5 u6 : aV, Wp 17 334 2026 [] [(2, 1000000), (2, ((0 : Nat) : Int)), (2, ((138 : Nat) : Int)), (2, ((153 : Nat) : Int)), (0, (i : Int)), u5, u6] [] (M2, T2) Q) : Wp 17 334 441 [] [(2, 1000000), (2, ((0 : Nat) : Int)), (2, ((138 : Nat) : Int)), (2, ((153 : Nat) : Int)), (0, (i : Int)), u5, u6] [] (M, T) Q := by
  have h0 : 0 < T.1 := Nat.lt_of_lt_of_le (show 0 < 154 by decide) h.1.1.1
  have h138 : 138 < T.1 := Nat.lt_of_lt_of_le (show 138 < 154 by decide) h.1.1.1
  obtain ⟨x, M1, M2, T2, r1, r2, e1, kp⟩ := tw_way h (M 1000000 (i + 1)) (M 1000000 (i + 2))
  have hi1 : (i : Int) + 6 ≤ M1 1000000 5000 := by rw [e1]; exact hi
  have hl1 : M1 1000000 5000 ≤ 3072 := by rw [e1]; exact hl
  refine y_blk (t := 441) rfl (show fnd bk_L_law 441 = some _ from rfl) aB_L_law ?_
  refine wp_aload_n (v := ((0 : Nat) : Int)) rfl (Int.natCast_nonneg _) ?_
  refine y_arg (k := 1) rfl (by decide) hi hl (v := M 1000000 (i + 1)) rfl ?_
  refine y_arg (k := 2) rfl (by decide) hi hl (v := M 1000000 (i + 2)) rfl ?_
  refine y_callW (as := [(0, M 1000000 (i + 1)), (0, M 1000000 (i + 2))]) (S1 := []) (Nat.le_of_ble_eq_true rfl) (by decide) r1 (Nat.le_of_ble_eq_true rfl) rfl (show ash 0 = (11, 15) from rfl) h0 (Nat.le_of_ble_eq_true rfl) (Nat.le_of_ble_eq_true rfl) rfl ?_
  refine wp_aload_n (v := ((138 : Nat) : Int)) rfl (Int.natCast_nonneg _) ?_
  refine y_arg (k := 1) rfl (by decide) hi1 hl1 (v := M 1000000 (i + 1)) (by rw [e1]) ?_
  refine y_arg (k := 2) rfl (by decide) hi1 hl1 (v := M 1000000 (i + 2)) (by rw [e1]) ?_
  refine y_callW (as := [(0, M 1000000 (i + 1)), (0, M 1000000 (i + 2))]) (S1 := [(0, x)]) (Nat.le_of_ble_eq_true rfl) (by decide) r2 (Nat.le_of_ble_eq_true rfl) rfl (show ash 138 = (13, 38) from rfl) h138 (Nat.le_of_ble_eq_true rfl) (Nat.le_of_ble_eq_true rfl) rfl ?_
  exact wp_icmp_eq (fun _ => y_to rfl (K M2 T2 kp u5 u6)) (fun c => absurd rfl c)
theorem lw_6 (h : Lst T M A st) (hi : (i : Int) + 6 ≤ M 1000000 5000) (hl : M 1000000 5000 ≤ 3072) (K : ∀ M2 T2, Kp T T2 M M2 → ∀ u5 u6 : aV, Wp 17 334 2026 [] [(2, 1000000), (2, ((0 : Nat) : Int)), (2, ((138 : Nat) : Int)), (2, ((153 : Nat) : Int)), (0, (i : Int)), u5, u6] [] (M2, T2) Q) : Wp 17 334 478 [] [(2, 1000000), (2, ((0 : Nat) : Int)), (2, ((138 : Nat) : Int)), (2, ((153 : Nat) : Int)), (0, (i : Int)), u5, u6] [] (M, T) Q := by
  have h0 : 0 < T.1 := Nat.lt_of_lt_of_le (show 0 < 154 by decide) h.1.1.1
  have h138 : 138 < T.1 := Nat.lt_of_lt_of_le (show 138 < 154 by decide) h.1.1.1
  obtain ⟨x, M1, M2, T2, r1, r2, e1, kp⟩ := tw_voice h (M 1000000 (i + 1)) (M 1000000 (i + 2))
  have hi1 : (i : Int) + 6 ≤ M1 1000000 5000 := by rw [e1]; exact hi
  have hl1 : M1 1000000 5000 ≤ 3072 := by rw [e1]; exact hl
  refine y_blk (t := 478) rfl (show fnd bk_L_law 478 = some _ from rfl) aB_L_law ?_
  refine wp_aload_n (v := ((0 : Nat) : Int)) rfl (Int.natCast_nonneg _) ?_
  refine y_arg (k := 1) rfl (by decide) hi hl (v := M 1000000 (i + 1)) rfl ?_
  refine y_arg (k := 2) rfl (by decide) hi hl (v := M 1000000 (i + 2)) rfl ?_
  refine y_callW (as := [(0, M 1000000 (i + 1)), (0, M 1000000 (i + 2))]) (S1 := []) (Nat.le_of_ble_eq_true rfl) (by decide) r1 (Nat.le_of_ble_eq_true rfl) rfl (show ash 0 = (11, 15) from rfl) h0 (Nat.le_of_ble_eq_true rfl) (Nat.le_of_ble_eq_true rfl) rfl ?_
  refine wp_aload_n (v := ((138 : Nat) : Int)) rfl (Int.natCast_nonneg _) ?_
  refine y_arg (k := 1) rfl (by decide) hi1 hl1 (v := M 1000000 (i + 1)) (by rw [e1]) ?_
  refine y_arg (k := 2) rfl (by decide) hi1 hl1 (v := M 1000000 (i + 2)) (by rw [e1]) ?_
  refine y_callW (as := [(0, M 1000000 (i + 1)), (0, M 1000000 (i + 2))]) (S1 := [(0, x)]) (Nat.le_of_ble_eq_true rfl) (by decide) r2 (Nat.le_of_ble_eq_true rfl) rfl (show ash 138 = (13, 38) from rfl) h138 (Nat.le_of_ble_eq_true rfl) (Nat.le_of_ble_eq_true rfl) rfl ?_
  exact wp_icmp_eq (fun _ => y_to rfl (K M2 T2 kp u5 u6)) (fun c => absurd rfl c)
theorem lw_7 (h : Lst T M A st) (hi : (i : Int) + 6 ≤ M 1000000 5000) (hl : M 1000000 5000 ≤ 3072) (K : ∀ M2 T2, Kp T T2 M M2 → ∀ u5 u6 : aV, Wp 17 334 2026 [] [(2, 1000000), (2, ((0 : Nat) : Int)), (2, ((138 : Nat) : Int)), (2, ((153 : Nat) : Int)), (0, (i : Int)), u5, u6] [] (M2, T2) Q) : Wp 17 334 515 [] [(2, 1000000), (2, ((0 : Nat) : Int)), (2, ((138 : Nat) : Int)), (2, ((153 : Nat) : Int)), (0, (i : Int)), u5, u6] [] (M, T) Q := by
  have h0 : 0 < T.1 := Nat.lt_of_lt_of_le (show 0 < 154 by decide) h.1.1.1
  have h138 : 138 < T.1 := Nat.lt_of_lt_of_le (show 138 < 154 by decide) h.1.1.1
  obtain ⟨x, M1, M2, T2, r1, r2, e1, kp⟩ := tw_folk h (M 1000000 (i + 1))
  have hi1 : (i : Int) + 6 ≤ M1 1000000 5000 := by rw [e1]; exact hi
  have hl1 : M1 1000000 5000 ≤ 3072 := by rw [e1]; exact hl
  refine y_blk (t := 515) rfl (show fnd bk_L_law 515 = some _ from rfl) aB_L_law ?_
  refine wp_aload_n (v := ((0 : Nat) : Int)) rfl (Int.natCast_nonneg _) ?_
  refine y_arg (k := 1) rfl (by decide) hi hl (v := M 1000000 (i + 1)) rfl ?_
  refine y_callW (as := [(0, M 1000000 (i + 1))]) (S1 := []) (Nat.le_of_ble_eq_true rfl) (by decide) r1 (Nat.le_of_ble_eq_true rfl) rfl (show ash 0 = (11, 15) from rfl) h0 (Nat.le_of_ble_eq_true rfl) (Nat.le_of_ble_eq_true rfl) rfl ?_
  refine wp_aload_n (v := ((138 : Nat) : Int)) rfl (Int.natCast_nonneg _) ?_
  refine y_arg (k := 1) rfl (by decide) hi1 hl1 (v := M 1000000 (i + 1)) (by rw [e1]) ?_
  refine y_callW (as := [(0, M 1000000 (i + 1))]) (S1 := [(0, x)]) (Nat.le_of_ble_eq_true rfl) (by decide) r2 (Nat.le_of_ble_eq_true rfl) rfl (show ash 138 = (13, 38) from rfl) h138 (Nat.le_of_ble_eq_true rfl) (Nat.le_of_ble_eq_true rfl) rfl ?_
  exact wp_icmp_eq (fun _ => y_to rfl (K M2 T2 kp u5 u6)) (fun c => absurd rfl c)
theorem lw_8 (h : Lst T M A st) (hi : (i : Int) + 6 ≤ M 1000000 5000) (hl : M 1000000 5000 ≤ 3072) (K : ∀ M2 T2, Kp T T2 M M2 → ∀ u5 u6 : aV, Wp 17 334 2026 [] [(2, 1000000), (2, ((0 : Nat) : Int)), (2, ((138 : Nat) : Int)), (2, ((153 : Nat) : Int)), (0, (i : Int)), u5, u6] [] (M2, T2) Q) : Wp 17 334 540 [] [(2, 1000000), (2, ((0 : Nat) : Int)), (2, ((138 : Nat) : Int)), (2, ((153 : Nat) : Int)), (0, (i : Int)), u5, u6] [] (M, T) Q := by
  have h0 : 0 < T.1 := Nat.lt_of_lt_of_le (show 0 < 154 by decide) h.1.1.1
  have h138 : 138 < T.1 := Nat.lt_of_lt_of_le (show 138 < 154 by decide) h.1.1.1
  obtain ⟨x, M1, M2, T2, r1, r2, e1, kp⟩ := tw_far h (M 1000000 (i + 1)) (M 1000000 (i + 2))
  have hi1 : (i : Int) + 6 ≤ M1 1000000 5000 := by rw [e1]; exact hi
  have hl1 : M1 1000000 5000 ≤ 3072 := by rw [e1]; exact hl
  refine y_blk (t := 540) rfl (show fnd bk_L_law 540 = some _ from rfl) aB_L_law ?_
  refine wp_aload_n (v := ((0 : Nat) : Int)) rfl (Int.natCast_nonneg _) ?_
  refine y_arg (k := 1) rfl (by decide) hi hl (v := M 1000000 (i + 1)) rfl ?_
  refine y_arg (k := 2) rfl (by decide) hi hl (v := M 1000000 (i + 2)) rfl ?_
  refine y_callW (as := [(0, M 1000000 (i + 1)), (0, M 1000000 (i + 2))]) (S1 := []) (Nat.le_of_ble_eq_true rfl) (by decide) r1 (Nat.le_of_ble_eq_true rfl) rfl (show ash 0 = (11, 15) from rfl) h0 (Nat.le_of_ble_eq_true rfl) (Nat.le_of_ble_eq_true rfl) rfl ?_
  refine wp_aload_n (v := ((138 : Nat) : Int)) rfl (Int.natCast_nonneg _) ?_
  refine y_arg (k := 1) rfl (by decide) hi1 hl1 (v := M 1000000 (i + 1)) (by rw [e1]) ?_
  refine y_arg (k := 2) rfl (by decide) hi1 hl1 (v := M 1000000 (i + 2)) (by rw [e1]) ?_
  refine y_callW (as := [(0, M 1000000 (i + 1)), (0, M 1000000 (i + 2))]) (S1 := [(0, x)]) (Nat.le_of_ble_eq_true rfl) (by decide) r2 (Nat.le_of_ble_eq_true rfl) rfl (show ash 138 = (13, 38) from rfl) h138 (Nat.le_of_ble_eq_true rfl) (Nat.le_of_ble_eq_true rfl) rfl ?_
  exact wp_icmp_eq (fun _ => y_to rfl (K M2 T2 kp u5 u6)) (fun c => absurd rfl c)
theorem lw_9 (h : Lst T M A st) (hi : (i : Int) + 6 ≤ M 1000000 5000) (hl : M 1000000 5000 ≤ 3072) (K : ∀ M2 T2, Kp T T2 M M2 → ∀ u5 u6 : aV, Wp 17 334 2026 [] [(2, 1000000), (2, ((0 : Nat) : Int)), (2, ((138 : Nat) : Int)), (2, ((153 : Nat) : Int)), (0, (i : Int)), u5, u6] [] (M2, T2) Q) : Wp 17 334 577 [] [(2, 1000000), (2, ((0 : Nat) : Int)), (2, ((138 : Nat) : Int)), (2, ((153 : Nat) : Int)), (0, (i : Int)), u5, u6] [] (M, T) Q := by
  have h0 : 0 < T.1 := Nat.lt_of_lt_of_le (show 0 < 154 by decide) h.1.1.1
  have h138 : 138 < T.1 := Nat.lt_of_lt_of_le (show 138 < 154 by decide) h.1.1.1
  obtain ⟨x, M1, M2, T2, r1, r2, e1, kp⟩ := tw_next h (M 1000000 (i + 1)) (M 1000000 (i + 2))
  have hi1 : (i : Int) + 6 ≤ M1 1000000 5000 := by rw [e1]; exact hi
  have hl1 : M1 1000000 5000 ≤ 3072 := by rw [e1]; exact hl
  refine y_blk (t := 577) rfl (show fnd bk_L_law 577 = some _ from rfl) aB_L_law ?_
  refine wp_aload_n (v := ((0 : Nat) : Int)) rfl (Int.natCast_nonneg _) ?_
  refine y_arg (k := 1) rfl (by decide) hi hl (v := M 1000000 (i + 1)) rfl ?_
  refine y_arg (k := 2) rfl (by decide) hi hl (v := M 1000000 (i + 2)) rfl ?_
  refine y_callW (as := [(0, M 1000000 (i + 1)), (0, M 1000000 (i + 2))]) (S1 := []) (Nat.le_of_ble_eq_true rfl) (by decide) r1 (Nat.le_of_ble_eq_true rfl) rfl (show ash 0 = (11, 15) from rfl) h0 (Nat.le_of_ble_eq_true rfl) (Nat.le_of_ble_eq_true rfl) rfl ?_
  refine wp_aload_n (v := ((138 : Nat) : Int)) rfl (Int.natCast_nonneg _) ?_
  refine y_arg (k := 1) rfl (by decide) hi1 hl1 (v := M 1000000 (i + 1)) (by rw [e1]) ?_
  refine y_arg (k := 2) rfl (by decide) hi1 hl1 (v := M 1000000 (i + 2)) (by rw [e1]) ?_
  refine y_callW (as := [(0, M 1000000 (i + 1)), (0, M 1000000 (i + 2))]) (S1 := [(0, x)]) (Nat.le_of_ble_eq_true rfl) (by decide) r2 (Nat.le_of_ble_eq_true rfl) rfl (show ash 138 = (13, 38) from rfl) h138 (Nat.le_of_ble_eq_true rfl) (Nat.le_of_ble_eq_true rfl) rfl ?_
  exact wp_icmp_eq (fun _ => y_to rfl (K M2 T2 kp u5 u6)) (fun c => absurd rfl c)
theorem lw_10 (h : Lst T M A st) (hi : (i : Int) + 6 ≤ M 1000000 5000) (hl : M 1000000 5000 ≤ 3072) (K : ∀ M2 T2, Kp T T2 M M2 → ∀ u5 u6 : aV, Wp 17 334 2026 [] [(2, 1000000), (2, ((0 : Nat) : Int)), (2, ((138 : Nat) : Int)), (2, ((153 : Nat) : Int)), (0, (i : Int)), u5, u6] [] (M2, T2) Q) : Wp 17 334 614 [] [(2, 1000000), (2, ((0 : Nat) : Int)), (2, ((138 : Nat) : Int)), (2, ((153 : Nat) : Int)), (0, (i : Int)), u5, u6] [] (M, T) Q := by
  have h0 : 0 < T.1 := Nat.lt_of_lt_of_le (show 0 < 154 by decide) h.1.1.1
  have h138 : 138 < T.1 := Nat.lt_of_lt_of_le (show 138 < 154 by decide) h.1.1.1
  obtain ⟨x, M1, M2, T2, r1, r2, e1, kp⟩ := tw_hearers h (M 1000000 (i + 1))
  have hi1 : (i : Int) + 6 ≤ M1 1000000 5000 := by rw [e1]; exact hi
  have hl1 : M1 1000000 5000 ≤ 3072 := by rw [e1]; exact hl
  refine y_blk (t := 614) rfl (show fnd bk_L_law 614 = some _ from rfl) aB_L_law ?_
  refine wp_aload_n (v := ((0 : Nat) : Int)) rfl (Int.natCast_nonneg _) ?_
  refine y_arg (k := 1) rfl (by decide) hi hl (v := M 1000000 (i + 1)) rfl ?_
  refine y_callW (as := [(0, M 1000000 (i + 1))]) (S1 := []) (Nat.le_of_ble_eq_true rfl) (by decide) r1 (Nat.le_of_ble_eq_true rfl) rfl (show ash 0 = (11, 15) from rfl) h0 (Nat.le_of_ble_eq_true rfl) (Nat.le_of_ble_eq_true rfl) rfl ?_
  refine wp_aload_n (v := ((138 : Nat) : Int)) rfl (Int.natCast_nonneg _) ?_
  refine y_arg (k := 1) rfl (by decide) hi1 hl1 (v := M 1000000 (i + 1)) (by rw [e1]) ?_
  refine y_callW (as := [(0, M 1000000 (i + 1))]) (S1 := [(0, x)]) (Nat.le_of_ble_eq_true rfl) (by decide) r2 (Nat.le_of_ble_eq_true rfl) rfl (show ash 138 = (13, 38) from rfl) h138 (Nat.le_of_ble_eq_true rfl) (Nat.le_of_ble_eq_true rfl) rfl ?_
  exact wp_icmp_eq (fun _ => y_to rfl (K M2 T2 kp u5 u6)) (fun c => absurd rfl c)
theorem lw_11 (h : Lst T M A st) (hi : (i : Int) + 6 ≤ M 1000000 5000) (hl : M 1000000 5000 ≤ 3072) (K : ∀ M2 T2, Kp T T2 M M2 → ∀ u5 u6 : aV, Wp 17 334 2026 [] [(2, 1000000), (2, ((0 : Nat) : Int)), (2, ((138 : Nat) : Int)), (2, ((153 : Nat) : Int)), (0, (i : Int)), u5, u6] [] (M2, T2) Q) : Wp 17 334 639 [] [(2, 1000000), (2, ((0 : Nat) : Int)), (2, ((138 : Nat) : Int)), (2, ((153 : Nat) : Int)), (0, (i : Int)), u5, u6] [] (M, T) Q := by
  have h0 : 0 < T.1 := Nat.lt_of_lt_of_le (show 0 < 154 by decide) h.1.1.1
  have h138 : 138 < T.1 := Nat.lt_of_lt_of_le (show 138 < 154 by decide) h.1.1.1
  obtain ⟨x, M1, M2, T2, r1, r2, e1, kp⟩ := tw_heardFrom h (M 1000000 (i + 1))
  have hi1 : (i : Int) + 6 ≤ M1 1000000 5000 := by rw [e1]; exact hi
  have hl1 : M1 1000000 5000 ≤ 3072 := by rw [e1]; exact hl
  refine y_blk (t := 639) rfl (show fnd bk_L_law 639 = some _ from rfl) aB_L_law ?_
  refine wp_aload_n (v := ((0 : Nat) : Int)) rfl (Int.natCast_nonneg _) ?_
  refine y_arg (k := 1) rfl (by decide) hi hl (v := M 1000000 (i + 1)) rfl ?_
  refine y_callW (as := [(0, M 1000000 (i + 1))]) (S1 := []) (Nat.le_of_ble_eq_true rfl) (by decide) r1 (Nat.le_of_ble_eq_true rfl) rfl (show ash 0 = (11, 15) from rfl) h0 (Nat.le_of_ble_eq_true rfl) (Nat.le_of_ble_eq_true rfl) rfl ?_
  refine wp_aload_n (v := ((138 : Nat) : Int)) rfl (Int.natCast_nonneg _) ?_
  refine y_arg (k := 1) rfl (by decide) hi1 hl1 (v := M 1000000 (i + 1)) (by rw [e1]) ?_
  refine y_callW (as := [(0, M 1000000 (i + 1))]) (S1 := [(0, x)]) (Nat.le_of_ble_eq_true rfl) (by decide) r2 (Nat.le_of_ble_eq_true rfl) rfl (show ash 138 = (13, 38) from rfl) h138 (Nat.le_of_ble_eq_true rfl) (Nat.le_of_ble_eq_true rfl) rfl ?_
  exact wp_icmp_eq (fun _ => y_to rfl (K M2 T2 kp u5 u6)) (fun c => absurd rfl c)
theorem lw_12 (h : Lst T M A st) (hi : (i : Int) + 6 ≤ M 1000000 5000) (hl : M 1000000 5000 ≤ 3072) (K : ∀ M2 T2, Kp T T2 M M2 → ∀ u5 u6 : aV, Wp 17 334 2026 [] [(2, 1000000), (2, ((0 : Nat) : Int)), (2, ((138 : Nat) : Int)), (2, ((153 : Nat) : Int)), (0, (i : Int)), u5, u6] [] (M2, T2) Q) : Wp 17 334 664 [] [(2, 1000000), (2, ((0 : Nat) : Int)), (2, ((138 : Nat) : Int)), (2, ((153 : Nat) : Int)), (0, (i : Int)), u5, u6] [] (M, T) Q := by
  have h0 : 0 < T.1 := Nat.lt_of_lt_of_le (show 0 < 154 by decide) h.1.1.1
  have h138 : 138 < T.1 := Nat.lt_of_lt_of_le (show 138 < 154 by decide) h.1.1.1
  obtain ⟨x, M1, M2, T2, r1, r2, e1, kp⟩ := tw_parts h
  have hi1 : (i : Int) + 6 ≤ M1 1000000 5000 := by rw [e1]; exact hi
  have hl1 : M1 1000000 5000 ≤ 3072 := by rw [e1]; exact hl
  refine y_blk (t := 664) rfl (show fnd bk_L_law 664 = some _ from rfl) aB_L_law ?_
  refine wp_aload_n (v := ((0 : Nat) : Int)) rfl (Int.natCast_nonneg _) ?_
  refine y_callW (as := []) (S1 := []) (Nat.le_of_ble_eq_true rfl) (by decide) r1 (Nat.le_of_ble_eq_true rfl) rfl (show ash 0 = (11, 15) from rfl) h0 (Nat.le_of_ble_eq_true rfl) (Nat.le_of_ble_eq_true rfl) rfl ?_
  refine wp_aload_n (v := ((138 : Nat) : Int)) rfl (Int.natCast_nonneg _) ?_
  refine y_callW (as := []) (S1 := [(0, x)]) (Nat.le_of_ble_eq_true rfl) (by decide) r2 (Nat.le_of_ble_eq_true rfl) rfl (show ash 138 = (13, 38) from rfl) h138 (Nat.le_of_ble_eq_true rfl) (Nat.le_of_ble_eq_true rfl) rfl ?_
  exact wp_icmp_eq (fun _ => y_to rfl (K M2 T2 kp u5 u6)) (fun c => absurd rfl c)
theorem lw_13 (h : Lst T M A st) (hi : (i : Int) + 6 ≤ M 1000000 5000) (hl : M 1000000 5000 ≤ 3072) (K : ∀ M2 T2, Kp T T2 M M2 → ∀ u5 u6 : aV, Wp 17 334 2026 [] [(2, 1000000), (2, ((0 : Nat) : Int)), (2, ((138 : Nat) : Int)), (2, ((153 : Nat) : Int)), (0, (i : Int)), u5, u6] [] (M2, T2) Q) : Wp 17 334 677 [] [(2, 1000000), (2, ((0 : Nat) : Int)), (2, ((138 : Nat) : Int)), (2, ((153 : Nat) : Int)), (0, (i : Int)), u5, u6] [] (M, T) Q := by
  have h0 : 0 < T.1 := Nat.lt_of_lt_of_le (show 0 < 154 by decide) h.1.1.1
  have h138 : 138 < T.1 := Nat.lt_of_lt_of_le (show 138 < 154 by decide) h.1.1.1
  obtain ⟨x, M1, M2, T2, r1, r2, e1, kp⟩ := tw_farthest h (M 1000000 (i + 1))
  have hi1 : (i : Int) + 6 ≤ M1 1000000 5000 := by rw [e1]; exact hi
  have hl1 : M1 1000000 5000 ≤ 3072 := by rw [e1]; exact hl
  refine y_blk (t := 677) rfl (show fnd bk_L_law 677 = some _ from rfl) aB_L_law ?_
  refine wp_aload_n (v := ((0 : Nat) : Int)) rfl (Int.natCast_nonneg _) ?_
  refine y_arg (k := 1) rfl (by decide) hi hl (v := M 1000000 (i + 1)) rfl ?_
  refine y_callW (as := [(0, M 1000000 (i + 1))]) (S1 := []) (Nat.le_of_ble_eq_true rfl) (by decide) r1 (Nat.le_of_ble_eq_true rfl) rfl (show ash 0 = (11, 15) from rfl) h0 (Nat.le_of_ble_eq_true rfl) (Nat.le_of_ble_eq_true rfl) rfl ?_
  refine wp_aload_n (v := ((138 : Nat) : Int)) rfl (Int.natCast_nonneg _) ?_
  refine y_arg (k := 1) rfl (by decide) hi1 hl1 (v := M 1000000 (i + 1)) (by rw [e1]) ?_
  refine y_callW (as := [(0, M 1000000 (i + 1))]) (S1 := [(0, x)]) (Nat.le_of_ble_eq_true rfl) (by decide) r2 (Nat.le_of_ble_eq_true rfl) rfl (show ash 138 = (13, 38) from rfl) h138 (Nat.le_of_ble_eq_true rfl) (Nat.le_of_ble_eq_true rfl) rfl ?_
  exact wp_icmp_eq (fun _ => y_to rfl (K M2 T2 kp u5 u6)) (fun c => absurd rfl c)
theorem lw_14 (h : Lst T M A st) (hi : (i : Int) + 6 ≤ M 1000000 5000) (hl : M 1000000 5000 ≤ 3072) (K : ∀ M2 T2, Kp T T2 M M2 → ∀ u5 u6 : aV, Wp 17 334 2026 [] [(2, 1000000), (2, ((0 : Nat) : Int)), (2, ((138 : Nat) : Int)), (2, ((153 : Nat) : Int)), (0, (i : Int)), u5, u6] [] (M2, T2) Q) : Wp 17 334 702 [] [(2, 1000000), (2, ((0 : Nat) : Int)), (2, ((138 : Nat) : Int)), (2, ((153 : Nat) : Int)), (0, (i : Int)), u5, u6] [] (M, T) Q := by
  have h0 : 0 < T.1 := Nat.lt_of_lt_of_le (show 0 < 154 by decide) h.1.1.1
  have h138 : 138 < T.1 := Nat.lt_of_lt_of_le (show 138 < 154 by decide) h.1.1.1
  obtain ⟨x, M1, M2, T2, r1, r2, e1, kp⟩ := tw_neck h
  have hi1 : (i : Int) + 6 ≤ M1 1000000 5000 := by rw [e1]; exact hi
  have hl1 : M1 1000000 5000 ≤ 3072 := by rw [e1]; exact hl
  refine y_blk (t := 702) rfl (show fnd bk_L_law 702 = some _ from rfl) aB_L_law ?_
  refine wp_aload_n (v := ((0 : Nat) : Int)) rfl (Int.natCast_nonneg _) ?_
  refine y_callW (as := []) (S1 := []) (Nat.le_of_ble_eq_true rfl) (by decide) r1 (Nat.le_of_ble_eq_true rfl) rfl (show ash 0 = (11, 15) from rfl) h0 (Nat.le_of_ble_eq_true rfl) (Nat.le_of_ble_eq_true rfl) rfl ?_
  refine wp_aload_n (v := ((138 : Nat) : Int)) rfl (Int.natCast_nonneg _) ?_
  refine y_callW (as := []) (S1 := [(0, x)]) (Nat.le_of_ble_eq_true rfl) (by decide) r2 (Nat.le_of_ble_eq_true rfl) rfl (show ash 138 = (13, 38) from rfl) h138 (Nat.le_of_ble_eq_true rfl) (Nat.le_of_ble_eq_true rfl) rfl ?_
  exact wp_icmp_eq (fun _ => y_to rfl (K M2 T2 kp u5 u6)) (fun c => absurd rfl c)
theorem lw_15 (h : Lst T M A st) (hi : (i : Int) + 6 ≤ M 1000000 5000) (hl : M 1000000 5000 ≤ 3072) (K : ∀ M2 T2, Kp T T2 M M2 → ∀ u5 u6 : aV, Wp 17 334 2026 [] [(2, 1000000), (2, ((0 : Nat) : Int)), (2, ((138 : Nat) : Int)), (2, ((153 : Nat) : Int)), (0, (i : Int)), u5, u6] [] (M2, T2) Q) : Wp 17 334 715 [] [(2, 1000000), (2, ((0 : Nat) : Int)), (2, ((138 : Nat) : Int)), (2, ((153 : Nat) : Int)), (0, (i : Int)), u5, u6] [] (M, T) Q := by
  have h0 : 0 < T.1 := Nat.lt_of_lt_of_le (show 0 < 154 by decide) h.1.1.1
  have h138 : 138 < T.1 := Nat.lt_of_lt_of_le (show 138 < 154 by decide) h.1.1.1
  obtain ⟨x, M1, M2, T2, r1, r2, e1, kp⟩ := tw_after h (M 1000000 (i + 1)) (M 1000000 (i + 2))
  have hi1 : (i : Int) + 6 ≤ M1 1000000 5000 := by rw [e1]; exact hi
  have hl1 : M1 1000000 5000 ≤ 3072 := by rw [e1]; exact hl
  refine y_blk (t := 715) rfl (show fnd bk_L_law 715 = some _ from rfl) aB_L_law ?_
  refine wp_aload_n (v := ((0 : Nat) : Int)) rfl (Int.natCast_nonneg _) ?_
  refine y_arg (k := 1) rfl (by decide) hi hl (v := M 1000000 (i + 1)) rfl ?_
  refine y_arg (k := 2) rfl (by decide) hi hl (v := M 1000000 (i + 2)) rfl ?_
  refine y_callW (as := [(0, M 1000000 (i + 1)), (0, M 1000000 (i + 2))]) (S1 := []) (Nat.le_of_ble_eq_true rfl) (by decide) r1 (Nat.le_of_ble_eq_true rfl) rfl (show ash 0 = (11, 15) from rfl) h0 (Nat.le_of_ble_eq_true rfl) (Nat.le_of_ble_eq_true rfl) rfl ?_
  refine wp_aload_n (v := ((138 : Nat) : Int)) rfl (Int.natCast_nonneg _) ?_
  refine y_arg (k := 1) rfl (by decide) hi1 hl1 (v := M 1000000 (i + 1)) (by rw [e1]) ?_
  refine y_arg (k := 2) rfl (by decide) hi1 hl1 (v := M 1000000 (i + 2)) (by rw [e1]) ?_
  refine y_callW (as := [(0, M 1000000 (i + 1)), (0, M 1000000 (i + 2))]) (S1 := [(0, x)]) (Nat.le_of_ble_eq_true rfl) (by decide) r2 (Nat.le_of_ble_eq_true rfl) rfl (show ash 138 = (13, 38) from rfl) h138 (Nat.le_of_ble_eq_true rfl) (Nat.le_of_ble_eq_true rfl) rfl ?_
  exact wp_icmp_eq (fun _ => y_to rfl (K M2 T2 kp u5 u6)) (fun c => absurd rfl c)
theorem lw_16 (h : Lst T M A st) (hi : (i : Int) + 6 ≤ M 1000000 5000) (hl : M 1000000 5000 ≤ 3072) (K : ∀ M2 T2, Kp T T2 M M2 → ∀ u5 u6 : aV, Wp 17 334 2026 [] [(2, 1000000), (2, ((0 : Nat) : Int)), (2, ((138 : Nat) : Int)), (2, ((153 : Nat) : Int)), (0, (i : Int)), u5, u6] [] (M2, T2) Q) : Wp 17 334 752 [] [(2, 1000000), (2, ((0 : Nat) : Int)), (2, ((138 : Nat) : Int)), (2, ((153 : Nat) : Int)), (0, (i : Int)), u5, u6] [] (M, T) Q := by
  have h0 : 0 < T.1 := Nat.lt_of_lt_of_le (show 0 < 154 by decide) h.1.1.1
  have h138 : 138 < T.1 := Nat.lt_of_lt_of_le (show 138 < 154 by decide) h.1.1.1
  obtain ⟨x, M1, M2, T2, r1, r2, e1, kp⟩ := tw_comes h (M 1000000 (i + 1)) (M 1000000 (i + 2))
  have hi1 : (i : Int) + 6 ≤ M1 1000000 5000 := by rw [e1]; exact hi
  have hl1 : M1 1000000 5000 ≤ 3072 := by rw [e1]; exact hl
  refine y_blk (t := 752) rfl (show fnd bk_L_law 752 = some _ from rfl) aB_L_law ?_
  refine wp_aload_n (v := ((0 : Nat) : Int)) rfl (Int.natCast_nonneg _) ?_
  refine y_arg (k := 1) rfl (by decide) hi hl (v := M 1000000 (i + 1)) rfl ?_
  refine y_arg (k := 2) rfl (by decide) hi hl (v := M 1000000 (i + 2)) rfl ?_
  refine y_callW (as := [(0, M 1000000 (i + 1)), (0, M 1000000 (i + 2))]) (S1 := []) (Nat.le_of_ble_eq_true rfl) (by decide) r1 (Nat.le_of_ble_eq_true rfl) rfl (show ash 0 = (11, 15) from rfl) h0 (Nat.le_of_ble_eq_true rfl) (Nat.le_of_ble_eq_true rfl) rfl ?_
  refine wp_aload_n (v := ((138 : Nat) : Int)) rfl (Int.natCast_nonneg _) ?_
  refine y_arg (k := 1) rfl (by decide) hi1 hl1 (v := M 1000000 (i + 1)) (by rw [e1]) ?_
  refine y_arg (k := 2) rfl (by decide) hi1 hl1 (v := M 1000000 (i + 2)) (by rw [e1]) ?_
  refine y_callW (as := [(0, M 1000000 (i + 1)), (0, M 1000000 (i + 2))]) (S1 := [(0, x)]) (Nat.le_of_ble_eq_true rfl) (by decide) r2 (Nat.le_of_ble_eq_true rfl) rfl (show ash 138 = (13, 38) from rfl) h138 (Nat.le_of_ble_eq_true rfl) (Nat.le_of_ble_eq_true rfl) rfl ?_
  exact wp_icmp_eq (fun _ => y_to rfl (K M2 T2 kp u5 u6)) (fun c => absurd rfl c)
theorem lw_17 (h : Lst T M A st) (hi : (i : Int) + 6 ≤ M 1000000 5000) (hl : M 1000000 5000 ≤ 3072) (K : ∀ M2 T2, Kp T T2 M M2 → ∀ u5 u6 : aV, Wp 17 334 2026 [] [(2, 1000000), (2, ((0 : Nat) : Int)), (2, ((138 : Nat) : Int)), (2, ((153 : Nat) : Int)), (0, (i : Int)), u5, u6] [] (M2, T2) Q) : Wp 17 334 789 [] [(2, 1000000), (2, ((0 : Nat) : Int)), (2, ((138 : Nat) : Int)), (2, ((153 : Nat) : Int)), (0, (i : Int)), u5, u6] [] (M, T) Q := by
  have h0 : 0 < T.1 := Nat.lt_of_lt_of_le (show 0 < 154 by decide) h.1.1.1
  have h138 : 138 < T.1 := Nat.lt_of_lt_of_le (show 138 < 154 by decide) h.1.1.1
  obtain ⟨x, M1, M2, T2, r1, r2, e1, kp⟩ := tw_meets h (M 1000000 (i + 1)) (M 1000000 (i + 2))
  have hi1 : (i : Int) + 6 ≤ M1 1000000 5000 := by rw [e1]; exact hi
  have hl1 : M1 1000000 5000 ≤ 3072 := by rw [e1]; exact hl
  refine y_blk (t := 789) rfl (show fnd bk_L_law 789 = some _ from rfl) aB_L_law ?_
  refine wp_aload_n (v := ((0 : Nat) : Int)) rfl (Int.natCast_nonneg _) ?_
  refine y_arg (k := 1) rfl (by decide) hi hl (v := M 1000000 (i + 1)) rfl ?_
  refine y_arg (k := 2) rfl (by decide) hi hl (v := M 1000000 (i + 2)) rfl ?_
  refine y_callW (as := [(0, M 1000000 (i + 1)), (0, M 1000000 (i + 2))]) (S1 := []) (Nat.le_of_ble_eq_true rfl) (by decide) r1 (Nat.le_of_ble_eq_true rfl) rfl (show ash 0 = (11, 15) from rfl) h0 (Nat.le_of_ble_eq_true rfl) (Nat.le_of_ble_eq_true rfl) rfl ?_
  refine wp_aload_n (v := ((138 : Nat) : Int)) rfl (Int.natCast_nonneg _) ?_
  refine y_arg (k := 1) rfl (by decide) hi1 hl1 (v := M 1000000 (i + 1)) (by rw [e1]) ?_
  refine y_arg (k := 2) rfl (by decide) hi1 hl1 (v := M 1000000 (i + 2)) (by rw [e1]) ?_
  refine y_callW (as := [(0, M 1000000 (i + 1)), (0, M 1000000 (i + 2))]) (S1 := [(0, x)]) (Nat.le_of_ble_eq_true rfl) (by decide) r2 (Nat.le_of_ble_eq_true rfl) rfl (show ash 138 = (13, 38) from rfl) h138 (Nat.le_of_ble_eq_true rfl) (Nat.le_of_ble_eq_true rfl) rfl ?_
  exact wp_icmp_eq (fun _ => y_to rfl (K M2 T2 kp u5 u6)) (fun c => absurd rfl c)
theorem lw_18 (h : Lst T M A st) (hi : (i : Int) + 6 ≤ M 1000000 5000) (hl : M 1000000 5000 ≤ 3072) (K : ∀ M2 T2, Kp T T2 M M2 → ∀ u5 u6 : aV, Wp 17 334 2026 [] [(2, 1000000), (2, ((0 : Nat) : Int)), (2, ((138 : Nat) : Int)), (2, ((153 : Nat) : Int)), (0, (i : Int)), u5, u6] [] (M2, T2) Q) : Wp 17 334 826 [] [(2, 1000000), (2, ((0 : Nat) : Int)), (2, ((138 : Nat) : Int)), (2, ((153 : Nat) : Int)), (0, (i : Int)), u5, u6] [] (M, T) Q := by
  have h0 : 0 < T.1 := Nat.lt_of_lt_of_le (show 0 < 154 by decide) h.1.1.1
  have h138 : 138 < T.1 := Nat.lt_of_lt_of_le (show 138 < 154 by decide) h.1.1.1
  obtain ⟨x, M1, M2, T2, r1, r2, e1, kp⟩ := tw_silentIn h (M 1000000 (i + 1))
  have hi1 : (i : Int) + 6 ≤ M1 1000000 5000 := by rw [e1]; exact hi
  have hl1 : M1 1000000 5000 ≤ 3072 := by rw [e1]; exact hl
  refine y_blk (t := 826) rfl (show fnd bk_L_law 826 = some _ from rfl) aB_L_law ?_
  refine wp_aload_n (v := ((0 : Nat) : Int)) rfl (Int.natCast_nonneg _) ?_
  refine y_arg (k := 1) rfl (by decide) hi hl (v := M 1000000 (i + 1)) rfl ?_
  refine y_callW (as := [(0, M 1000000 (i + 1))]) (S1 := []) (Nat.le_of_ble_eq_true rfl) (by decide) r1 (Nat.le_of_ble_eq_true rfl) rfl (show ash 0 = (11, 15) from rfl) h0 (Nat.le_of_ble_eq_true rfl) (Nat.le_of_ble_eq_true rfl) rfl ?_
  refine wp_aload_n (v := ((138 : Nat) : Int)) rfl (Int.natCast_nonneg _) ?_
  refine y_arg (k := 1) rfl (by decide) hi1 hl1 (v := M 1000000 (i + 1)) (by rw [e1]) ?_
  refine y_callW (as := [(0, M 1000000 (i + 1))]) (S1 := [(0, x)]) (Nat.le_of_ble_eq_true rfl) (by decide) r2 (Nat.le_of_ble_eq_true rfl) rfl (show ash 138 = (13, 38) from rfl) h138 (Nat.le_of_ble_eq_true rfl) (Nat.le_of_ble_eq_true rfl) rfl ?_
  exact wp_icmp_eq (fun _ => y_to rfl (K M2 T2 kp u5 u6)) (fun c => absurd rfl c)
theorem lw_19 (h : Lst T M A st) (hi : (i : Int) + 6 ≤ M 1000000 5000) (hl : M 1000000 5000 ≤ 3072) (K : ∀ M2 T2, Kp T T2 M M2 → ∀ u5 u6 : aV, Wp 17 334 2026 [] [(2, 1000000), (2, ((0 : Nat) : Int)), (2, ((138 : Nat) : Int)), (2, ((153 : Nat) : Int)), (0, (i : Int)), u5, u6] [] (M2, T2) Q) : Wp 17 334 851 [] [(2, 1000000), (2, ((0 : Nat) : Int)), (2, ((138 : Nat) : Int)), (2, ((153 : Nat) : Int)), (0, (i : Int)), u5, u6] [] (M, T) Q := by
  have h0 : 0 < T.1 := Nat.lt_of_lt_of_le (show 0 < 154 by decide) h.1.1.1
  have h138 : 138 < T.1 := Nat.lt_of_lt_of_le (show 138 < 154 by decide) h.1.1.1
  obtain ⟨x, M1, M2, T2, r1, r2, e1, kp⟩ := tw_settles h (M 1000000 (i + 1))
  have hi1 : (i : Int) + 6 ≤ M1 1000000 5000 := by rw [e1]; exact hi
  have hl1 : M1 1000000 5000 ≤ 3072 := by rw [e1]; exact hl
  refine y_blk (t := 851) rfl (show fnd bk_L_law 851 = some _ from rfl) aB_L_law ?_
  refine wp_aload_n (v := ((0 : Nat) : Int)) rfl (Int.natCast_nonneg _) ?_
  refine y_arg (k := 1) rfl (by decide) hi hl (v := M 1000000 (i + 1)) rfl ?_
  refine y_callW (as := [(0, M 1000000 (i + 1))]) (S1 := []) (Nat.le_of_ble_eq_true rfl) (by decide) r1 (Nat.le_of_ble_eq_true rfl) rfl (show ash 0 = (11, 15) from rfl) h0 (Nat.le_of_ble_eq_true rfl) (Nat.le_of_ble_eq_true rfl) rfl ?_
  refine wp_aload_n (v := ((138 : Nat) : Int)) rfl (Int.natCast_nonneg _) ?_
  refine y_arg (k := 1) rfl (by decide) hi1 hl1 (v := M 1000000 (i + 1)) (by rw [e1]) ?_
  refine y_callW (as := [(0, M 1000000 (i + 1))]) (S1 := [(0, x)]) (Nat.le_of_ble_eq_true rfl) (by decide) r2 (Nat.le_of_ble_eq_true rfl) rfl (show ash 138 = (13, 38) from rfl) h138 (Nat.le_of_ble_eq_true rfl) (Nat.le_of_ble_eq_true rfl) rfl ?_
  exact wp_icmp_eq (fun _ => y_to rfl (K M2 T2 kp u5 u6)) (fun c => absurd rfl c)
theorem lw_20 (h : Lst T M A st) (hi : (i : Int) + 6 ≤ M 1000000 5000) (hl : M 1000000 5000 ≤ 3072) (K : ∀ M2 T2, Kp T T2 M M2 → ∀ u5 u6 : aV, Wp 17 334 2026 [] [(2, 1000000), (2, ((0 : Nat) : Int)), (2, ((138 : Nat) : Int)), (2, ((153 : Nat) : Int)), (0, (i : Int)), u5, u6] [] (M2, T2) Q) : Wp 17 334 876 [] [(2, 1000000), (2, ((0 : Nat) : Int)), (2, ((138 : Nat) : Int)), (2, ((153 : Nat) : Int)), (0, (i : Int)), u5, u6] [] (M, T) Q := by
  have h0 : 0 < T.1 := Nat.lt_of_lt_of_le (show 0 < 154 by decide) h.1.1.1
  have h138 : 138 < T.1 := Nat.lt_of_lt_of_le (show 138 < 154 by decide) h.1.1.1
  obtain ⟨x, M1, M2, T2, r1, r2, e1, kp⟩ := tw_round h (M 1000000 (i + 1))
  have hi1 : (i : Int) + 6 ≤ M1 1000000 5000 := by rw [e1]; exact hi
  have hl1 : M1 1000000 5000 ≤ 3072 := by rw [e1]; exact hl
  refine y_blk (t := 876) rfl (show fnd bk_L_law 876 = some _ from rfl) aB_L_law ?_
  refine wp_aload_n (v := ((0 : Nat) : Int)) rfl (Int.natCast_nonneg _) ?_
  refine y_arg (k := 1) rfl (by decide) hi hl (v := M 1000000 (i + 1)) rfl ?_
  refine y_callW (as := [(0, M 1000000 (i + 1))]) (S1 := []) (Nat.le_of_ble_eq_true rfl) (by decide) r1 (Nat.le_of_ble_eq_true rfl) rfl (show ash 0 = (11, 15) from rfl) h0 (Nat.le_of_ble_eq_true rfl) (Nat.le_of_ble_eq_true rfl) rfl ?_
  refine wp_aload_n (v := ((138 : Nat) : Int)) rfl (Int.natCast_nonneg _) ?_
  refine y_arg (k := 1) rfl (by decide) hi1 hl1 (v := M 1000000 (i + 1)) (by rw [e1]) ?_
  refine y_callW (as := [(0, M 1000000 (i + 1))]) (S1 := [(0, x)]) (Nat.le_of_ble_eq_true rfl) (by decide) r2 (Nat.le_of_ble_eq_true rfl) rfl (show ash 138 = (13, 38) from rfl) h138 (Nat.le_of_ble_eq_true rfl) (Nat.le_of_ble_eq_true rfl) rfl ?_
  exact wp_icmp_eq (fun _ => y_to rfl (K M2 T2 kp u5 u6)) (fun c => absurd rfl c)
theorem lw_21 (h : Lst T M A st) (hi : (i : Int) + 6 ≤ M 1000000 5000) (hl : M 1000000 5000 ≤ 3072) (K : ∀ M2 T2, Kp T T2 M M2 → ∀ u5 u6 : aV, Wp 17 334 2026 [] [(2, 1000000), (2, ((0 : Nat) : Int)), (2, ((138 : Nat) : Int)), (2, ((153 : Nat) : Int)), (0, (i : Int)), u5, u6] [] (M2, T2) Q) : Wp 17 334 901 [] [(2, 1000000), (2, ((0 : Nat) : Int)), (2, ((138 : Nat) : Int)), (2, ((153 : Nat) : Int)), (0, (i : Int)), u5, u6] [] (M, T) Q := by
  have h0 : 0 < T.1 := Nat.lt_of_lt_of_le (show 0 < 154 by decide) h.1.1.1
  have h138 : 138 < T.1 := Nat.lt_of_lt_of_le (show 138 < 154 by decide) h.1.1.1
  obtain ⟨x, M1, M2, T2, r1, r2, e1, kp⟩ := tw_called h (M 1000000 (i + 1)) (M 1000000 (i + 2))
  have hi1 : (i : Int) + 6 ≤ M1 1000000 5000 := by rw [e1]; exact hi
  have hl1 : M1 1000000 5000 ≤ 3072 := by rw [e1]; exact hl
  refine y_blk (t := 901) rfl (show fnd bk_L_law 901 = some _ from rfl) aB_L_law ?_
  refine wp_aload_n (v := ((0 : Nat) : Int)) rfl (Int.natCast_nonneg _) ?_
  refine y_arg (k := 1) rfl (by decide) hi hl (v := M 1000000 (i + 1)) rfl ?_
  refine y_arg (k := 2) rfl (by decide) hi hl (v := M 1000000 (i + 2)) rfl ?_
  refine y_callW (as := [(0, M 1000000 (i + 1)), (0, M 1000000 (i + 2))]) (S1 := []) (Nat.le_of_ble_eq_true rfl) (by decide) r1 (Nat.le_of_ble_eq_true rfl) rfl (show ash 0 = (11, 15) from rfl) h0 (Nat.le_of_ble_eq_true rfl) (Nat.le_of_ble_eq_true rfl) rfl ?_
  refine wp_aload_n (v := ((138 : Nat) : Int)) rfl (Int.natCast_nonneg _) ?_
  refine y_arg (k := 1) rfl (by decide) hi1 hl1 (v := M 1000000 (i + 1)) (by rw [e1]) ?_
  refine y_arg (k := 2) rfl (by decide) hi1 hl1 (v := M 1000000 (i + 2)) (by rw [e1]) ?_
  refine y_callW (as := [(0, M 1000000 (i + 1)), (0, M 1000000 (i + 2))]) (S1 := [(0, x)]) (Nat.le_of_ble_eq_true rfl) (by decide) r2 (Nat.le_of_ble_eq_true rfl) rfl (show ash 138 = (13, 38) from rfl) h138 (Nat.le_of_ble_eq_true rfl) (Nat.le_of_ble_eq_true rfl) rfl ?_
  exact wp_icmp_eq (fun _ => y_to rfl (K M2 T2 kp u5 u6)) (fun c => absurd rfl c)
theorem lw_22 (h : Lst T M A st) (hi : (i : Int) + 6 ≤ M 1000000 5000) (hl : M 1000000 5000 ≤ 3072) (K : ∀ M2 T2, Kp T T2 M M2 → ∀ u5 u6 : aV, Wp 17 334 2026 [] [(2, 1000000), (2, ((0 : Nat) : Int)), (2, ((138 : Nat) : Int)), (2, ((153 : Nat) : Int)), (0, (i : Int)), u5, u6] [] (M2, T2) Q) : Wp 17 334 938 [] [(2, 1000000), (2, ((0 : Nat) : Int)), (2, ((138 : Nat) : Int)), (2, ((153 : Nat) : Int)), (0, (i : Int)), u5, u6] [] (M, T) Q := by
  have h0 : 0 < T.1 := Nat.lt_of_lt_of_le (show 0 < 154 by decide) h.1.1.1
  have h138 : 138 < T.1 := Nat.lt_of_lt_of_le (show 138 < 154 by decide) h.1.1.1
  obtain ⟨x, M1, M2, T2, r1, r2, e1, kp⟩ := tw_bring h (M 1000000 (i + 1)) (M 1000000 (i + 2))
  have hi1 : (i : Int) + 6 ≤ M1 1000000 5000 := by rw [e1]; exact hi
  have hl1 : M1 1000000 5000 ≤ 3072 := by rw [e1]; exact hl
  refine y_blk (t := 938) rfl (show fnd bk_L_law 938 = some _ from rfl) aB_L_law ?_
  refine wp_aload_n (v := ((0 : Nat) : Int)) rfl (Int.natCast_nonneg _) ?_
  refine y_arg (k := 1) rfl (by decide) hi hl (v := M 1000000 (i + 1)) rfl ?_
  refine y_arg (k := 2) rfl (by decide) hi hl (v := M 1000000 (i + 2)) rfl ?_
  refine y_callW (as := [(0, M 1000000 (i + 1)), (0, M 1000000 (i + 2))]) (S1 := []) (Nat.le_of_ble_eq_true rfl) (by decide) r1 (Nat.le_of_ble_eq_true rfl) rfl (show ash 0 = (11, 15) from rfl) h0 (Nat.le_of_ble_eq_true rfl) (Nat.le_of_ble_eq_true rfl) rfl ?_
  refine wp_aload_n (v := ((138 : Nat) : Int)) rfl (Int.natCast_nonneg _) ?_
  refine y_arg (k := 1) rfl (by decide) hi1 hl1 (v := M 1000000 (i + 1)) (by rw [e1]) ?_
  refine y_arg (k := 2) rfl (by decide) hi1 hl1 (v := M 1000000 (i + 2)) (by rw [e1]) ?_
  refine y_callW (as := [(0, M 1000000 (i + 1)), (0, M 1000000 (i + 2))]) (S1 := [(0, x)]) (Nat.le_of_ble_eq_true rfl) (by decide) r2 (Nat.le_of_ble_eq_true rfl) rfl (show ash 138 = (13, 38) from rfl) h138 (Nat.le_of_ble_eq_true rfl) (Nat.le_of_ble_eq_true rfl) rfl ?_
  exact wp_icmp_eq (fun _ => y_to rfl (K M2 T2 kp u5 u6)) (fun c => absurd rfl c)
theorem lw_23 (h : Lst T M A st) (hi : (i : Int) + 6 ≤ M 1000000 5000) (hl : M 1000000 5000 ≤ 3072) (K : ∀ M2 T2, Kp T T2 M M2 → ∀ u5 u6 : aV, Wp 17 334 2026 [] [(2, 1000000), (2, ((0 : Nat) : Int)), (2, ((138 : Nat) : Int)), (2, ((153 : Nat) : Int)), (0, (i : Int)), u5, u6] [] (M2, T2) Q) : Wp 17 334 975 [] [(2, 1000000), (2, ((0 : Nat) : Int)), (2, ((138 : Nat) : Int)), (2, ((153 : Nat) : Int)), (0, (i : Int)), u5, u6] [] (M, T) Q := by
  have h0 : 0 < T.1 := Nat.lt_of_lt_of_le (show 0 < 154 by decide) h.1.1.1
  have h138 : 138 < T.1 := Nat.lt_of_lt_of_le (show 138 < 154 by decide) h.1.1.1
  obtain ⟨x, M1, M2, T2, r1, r2, e1, kp⟩ := tw_bringAt h (M 1000000 (i + 1)) (M 1000000 (i + 2)) (M 1000000 (i + 3))
  have hi1 : (i : Int) + 6 ≤ M1 1000000 5000 := by rw [e1]; exact hi
  have hl1 : M1 1000000 5000 ≤ 3072 := by rw [e1]; exact hl
  refine y_blk (t := 975) rfl (show fnd bk_L_law 975 = some _ from rfl) aB_L_law ?_
  refine wp_aload_n (v := ((0 : Nat) : Int)) rfl (Int.natCast_nonneg _) ?_
  refine y_arg (k := 1) rfl (by decide) hi hl (v := M 1000000 (i + 1)) rfl ?_
  refine y_arg (k := 2) rfl (by decide) hi hl (v := M 1000000 (i + 2)) rfl ?_
  refine y_arg (k := 3) rfl (by decide) hi hl (v := M 1000000 (i + 3)) rfl ?_
  refine y_callW (as := [(0, M 1000000 (i + 1)), (0, M 1000000 (i + 2)), (0, M 1000000 (i + 3))]) (S1 := []) (Nat.le_of_ble_eq_true rfl) (by decide) r1 (Nat.le_of_ble_eq_true rfl) rfl (show ash 0 = (11, 15) from rfl) h0 (Nat.le_of_ble_eq_true rfl) (Nat.le_of_ble_eq_true rfl) rfl ?_
  refine wp_aload_n (v := ((138 : Nat) : Int)) rfl (Int.natCast_nonneg _) ?_
  refine y_arg (k := 1) rfl (by decide) hi1 hl1 (v := M 1000000 (i + 1)) (by rw [e1]) ?_
  refine y_arg (k := 2) rfl (by decide) hi1 hl1 (v := M 1000000 (i + 2)) (by rw [e1]) ?_
  refine y_arg (k := 3) rfl (by decide) hi1 hl1 (v := M 1000000 (i + 3)) (by rw [e1]) ?_
  refine y_callW (as := [(0, M 1000000 (i + 1)), (0, M 1000000 (i + 2)), (0, M 1000000 (i + 3))]) (S1 := [(0, x)]) (Nat.le_of_ble_eq_true rfl) (by decide) r2 (Nat.le_of_ble_eq_true rfl) rfl (show ash 138 = (13, 38) from rfl) h138 (Nat.le_of_ble_eq_true rfl) (Nat.le_of_ble_eq_true rfl) rfl ?_
  exact wp_icmp_eq (fun _ => y_to rfl (K M2 T2 kp u5 u6)) (fun c => absurd rfl c)
theorem lw_24 (h : Lst T M A st) (hi : (i : Int) + 6 ≤ M 1000000 5000) (hl : M 1000000 5000 ≤ 3072) (K : ∀ M2 T2, Kp T T2 M M2 → ∀ u5 u6 : aV, Wp 17 334 2026 [] [(2, 1000000), (2, ((0 : Nat) : Int)), (2, ((138 : Nat) : Int)), (2, ((153 : Nat) : Int)), (0, (i : Int)), u5, u6] [] (M2, T2) Q) : Wp 17 334 1024 [] [(2, 1000000), (2, ((0 : Nat) : Int)), (2, ((138 : Nat) : Int)), (2, ((153 : Nat) : Int)), (0, (i : Int)), u5, u6] [] (M, T) Q := by
  have h0 : 0 < T.1 := Nat.lt_of_lt_of_le (show 0 < 154 by decide) h.1.1.1
  have h138 : 138 < T.1 := Nat.lt_of_lt_of_le (show 138 < 154 by decide) h.1.1.1
  obtain ⟨x, M1, M2, T2, r1, r2, e1, kp⟩ := tw_reach h (M 1000000 (i + 1))
  have hi1 : (i : Int) + 6 ≤ M1 1000000 5000 := by rw [e1]; exact hi
  have hl1 : M1 1000000 5000 ≤ 3072 := by rw [e1]; exact hl
  refine y_blk (t := 1024) rfl (show fnd bk_L_law 1024 = some _ from rfl) aB_L_law ?_
  refine wp_aload_n (v := ((0 : Nat) : Int)) rfl (Int.natCast_nonneg _) ?_
  refine y_arg (k := 1) rfl (by decide) hi hl (v := M 1000000 (i + 1)) rfl ?_
  refine y_callW (as := [(0, M 1000000 (i + 1))]) (S1 := []) (Nat.le_of_ble_eq_true rfl) (by decide) r1 (Nat.le_of_ble_eq_true rfl) rfl (show ash 0 = (11, 15) from rfl) h0 (Nat.le_of_ble_eq_true rfl) (Nat.le_of_ble_eq_true rfl) rfl ?_
  refine wp_aload_n (v := ((138 : Nat) : Int)) rfl (Int.natCast_nonneg _) ?_
  refine y_arg (k := 1) rfl (by decide) hi1 hl1 (v := M 1000000 (i + 1)) (by rw [e1]) ?_
  refine y_callW (as := [(0, M 1000000 (i + 1))]) (S1 := [(0, x)]) (Nat.le_of_ble_eq_true rfl) (by decide) r2 (Nat.le_of_ble_eq_true rfl) rfl (show ash 138 = (13, 38) from rfl) h138 (Nat.le_of_ble_eq_true rfl) (Nat.le_of_ble_eq_true rfl) rfl ?_
  exact wp_icmp_eq (fun _ => y_to rfl (K M2 T2 kp u5 u6)) (fun c => absurd rfl c)
theorem lw_25 (h : Lst T M A st) (hi : (i : Int) + 6 ≤ M 1000000 5000) (hl : M 1000000 5000 ≤ 3072) (K : ∀ M2 T2, Kp T T2 M M2 → ∀ u5 u6 : aV, Wp 17 334 2026 [] [(2, 1000000), (2, ((0 : Nat) : Int)), (2, ((138 : Nat) : Int)), (2, ((153 : Nat) : Int)), (0, (i : Int)), u5, u6] [] (M2, T2) Q) : Wp 17 334 1049 [] [(2, 1000000), (2, ((0 : Nat) : Int)), (2, ((138 : Nat) : Int)), (2, ((153 : Nat) : Int)), (0, (i : Int)), u5, u6] [] (M, T) Q := by
  have h0 : 0 < T.1 := Nat.lt_of_lt_of_le (show 0 < 154 by decide) h.1.1.1
  have h138 : 138 < T.1 := Nat.lt_of_lt_of_le (show 138 < 154 by decide) h.1.1.1
  obtain ⟨x, M1, M2, T2, r1, r2, e1, kp⟩ := tw_echo h (M 1000000 (i + 1)) (M 1000000 (i + 2))
  have hi1 : (i : Int) + 6 ≤ M1 1000000 5000 := by rw [e1]; exact hi
  have hl1 : M1 1000000 5000 ≤ 3072 := by rw [e1]; exact hl
  refine y_blk (t := 1049) rfl (show fnd bk_L_law 1049 = some _ from rfl) aB_L_law ?_
  refine wp_aload_n (v := ((0 : Nat) : Int)) rfl (Int.natCast_nonneg _) ?_
  refine y_arg (k := 1) rfl (by decide) hi hl (v := M 1000000 (i + 1)) rfl ?_
  refine y_arg (k := 2) rfl (by decide) hi hl (v := M 1000000 (i + 2)) rfl ?_
  refine y_callW (as := [(0, M 1000000 (i + 1)), (0, M 1000000 (i + 2))]) (S1 := []) (Nat.le_of_ble_eq_true rfl) (by decide) r1 (Nat.le_of_ble_eq_true rfl) rfl (show ash 0 = (11, 15) from rfl) h0 (Nat.le_of_ble_eq_true rfl) (Nat.le_of_ble_eq_true rfl) rfl ?_
  refine wp_aload_n (v := ((138 : Nat) : Int)) rfl (Int.natCast_nonneg _) ?_
  refine y_arg (k := 1) rfl (by decide) hi1 hl1 (v := M 1000000 (i + 1)) (by rw [e1]) ?_
  refine y_arg (k := 2) rfl (by decide) hi1 hl1 (v := M 1000000 (i + 2)) (by rw [e1]) ?_
  refine y_callW (as := [(0, M 1000000 (i + 1)), (0, M 1000000 (i + 2))]) (S1 := [(0, x)]) (Nat.le_of_ble_eq_true rfl) (by decide) r2 (Nat.le_of_ble_eq_true rfl) rfl (show ash 138 = (13, 38) from rfl) h138 (Nat.le_of_ble_eq_true rfl) (Nat.le_of_ble_eq_true rfl) rfl ?_
  exact wp_icmp_eq (fun _ => y_to rfl (K M2 T2 kp u5 u6)) (fun c => absurd rfl c)
theorem lw_26 (h : Lst T M A st) (hi : (i : Int) + 6 ≤ M 1000000 5000) (hl : M 1000000 5000 ≤ 3072) (K : ∀ M2 T2, Kp T T2 M M2 → ∀ u5 u6 : aV, Wp 17 334 2026 [] [(2, 1000000), (2, ((0 : Nat) : Int)), (2, ((138 : Nat) : Int)), (2, ((153 : Nat) : Int)), (0, (i : Int)), u5, u6] [] (M2, T2) Q) : Wp 17 334 1086 [] [(2, 1000000), (2, ((0 : Nat) : Int)), (2, ((138 : Nat) : Int)), (2, ((153 : Nat) : Int)), (0, (i : Int)), u5, u6] [] (M, T) Q := by
  have h0 : 0 < T.1 := Nat.lt_of_lt_of_le (show 0 < 154 by decide) h.1.1.1
  have h138 : 138 < T.1 := Nat.lt_of_lt_of_le (show 138 < 154 by decide) h.1.1.1
  obtain ⟨x, M1, M2, T2, r1, r2, e1, kp⟩ := tw_fits h
  have hi1 : (i : Int) + 6 ≤ M1 1000000 5000 := by rw [e1]; exact hi
  have hl1 : M1 1000000 5000 ≤ 3072 := by rw [e1]; exact hl
  refine y_blk (t := 1086) rfl (show fnd bk_L_law 1086 = some _ from rfl) aB_L_law ?_
  refine wp_aload_n (v := ((0 : Nat) : Int)) rfl (Int.natCast_nonneg _) ?_
  refine y_callW (as := []) (S1 := []) (Nat.le_of_ble_eq_true rfl) (by decide) r1 (Nat.le_of_ble_eq_true rfl) rfl (show ash 0 = (11, 15) from rfl) h0 (Nat.le_of_ble_eq_true rfl) (Nat.le_of_ble_eq_true rfl) rfl ?_
  refine wp_aload_n (v := ((138 : Nat) : Int)) rfl (Int.natCast_nonneg _) ?_
  refine y_callW (as := []) (S1 := [(0, x)]) (Nat.le_of_ble_eq_true rfl) (by decide) r2 (Nat.le_of_ble_eq_true rfl) rfl (show ash 138 = (13, 38) from rfl) h138 (Nat.le_of_ble_eq_true rfl) (Nat.le_of_ble_eq_true rfl) rfl ?_
  exact wp_icmp_eq (fun _ => y_to rfl (K M2 T2 kp u5 u6)) (fun c => absurd rfl c)
theorem lw_27 (h : Lst T M A st) (hi : (i : Int) + 6 ≤ M 1000000 5000) (hl : M 1000000 5000 ≤ 3072) (K : ∀ M2 T2, Kp T T2 M M2 → ∀ u5 u6 : aV, Wp 17 334 2026 [] [(2, 1000000), (2, ((0 : Nat) : Int)), (2, ((138 : Nat) : Int)), (2, ((153 : Nat) : Int)), (0, (i : Int)), u5, u6] [] (M2, T2) Q) : Wp 17 334 1099 [] [(2, 1000000), (2, ((0 : Nat) : Int)), (2, ((138 : Nat) : Int)), (2, ((153 : Nat) : Int)), (0, (i : Int)), u5, u6] [] (M, T) Q := by
  have h0 : 0 < T.1 := Nat.lt_of_lt_of_le (show 0 < 154 by decide) h.1.1.1
  have h138 : 138 < T.1 := Nat.lt_of_lt_of_le (show 138 < 154 by decide) h.1.1.1
  obtain ⟨x, M1, M2, T2, r1, r2, e1, kp⟩ := tw_odds h (M 1000000 (i + 1)) (bo (M 1000000 (i + 2)))
  have hi1 : (i : Int) + 6 ≤ M1 1000000 5000 := by rw [e1]; exact hi
  have hl1 : M1 1000000 5000 ≤ 3072 := by rw [e1]; exact hl
  refine y_blk (t := 1099) rfl (show fnd bk_L_law 1099 = some _ from rfl) aB_L_law ?_
  refine wp_aload_n (v := ((0 : Nat) : Int)) rfl (Int.natCast_nonneg _) ?_
  refine y_arg (k := 1) rfl (by decide) hi hl (v := M 1000000 (i + 1)) rfl ?_
  refine y_arg (k := 2) rfl (by decide) hi hl (v := M 1000000 (i + 2)) rfl ?_
  refine y_bool (t0 := 1119) (t1 := 1120) rfl rfl rfl rfl ?_
  refine y_blk (t := 1120) rfl (show fnd bk_L_law 1120 = some _ from rfl) aB_L_law ?_
  refine y_callW (as := [(0, M 1000000 (i + 1)), (0, bo (M 1000000 (i + 2)))]) (S1 := []) (Nat.le_of_ble_eq_true rfl) (by decide) r1 (Nat.le_of_ble_eq_true rfl) rfl (show ash 0 = (11, 15) from rfl) h0 (Nat.le_of_ble_eq_true rfl) (Nat.le_of_ble_eq_true rfl) rfl ?_
  refine wp_aload_n (v := ((138 : Nat) : Int)) rfl (Int.natCast_nonneg _) ?_
  refine y_arg (k := 1) rfl (by decide) hi1 hl1 (v := M 1000000 (i + 1)) (by rw [e1]) ?_
  refine y_arg (k := 2) rfl (by decide) hi1 hl1 (v := M 1000000 (i + 2)) (by rw [e1]) ?_
  refine y_bool (t0 := 1143) (t1 := 1144) rfl rfl rfl rfl ?_
  refine y_blk (t := 1144) rfl (show fnd bk_L_law 1144 = some _ from rfl) aB_L_law ?_
  refine y_callW (as := [(0, M 1000000 (i + 1)), (0, bo (M 1000000 (i + 2)))]) (S1 := [(1, x)]) (Nat.le_of_ble_eq_true rfl) (by decide) r2 (Nat.le_of_ble_eq_true rfl) rfl (show ash 138 = (13, 38) from rfl) h138 (Nat.le_of_ble_eq_true rfl) (Nat.le_of_ble_eq_true rfl) rfl ?_
  refine wp_lcmp ?_
  refine wp_if_eq (fun _ => y_to rfl (K M2 T2 kp u5 u6)) (fun c => absurd ?_ c)
  show (if x < x then (1 : Int) else if x = x then 0 else -1) = 0
  rw [if_neg (Int.lt_irrefl x), if_pos rfl]
theorem lw_28 (h : Lst T M A st) (hi : (i : Int) + 6 ≤ M 1000000 5000) (hl : M 1000000 5000 ≤ 3072) (K : ∀ M2 T2, Kp T T2 M M2 → ∀ u5 u6 : aV, Wp 17 334 2026 [] [(2, 1000000), (2, ((0 : Nat) : Int)), (2, ((138 : Nat) : Int)), (2, ((153 : Nat) : Int)), (0, (i : Int)), u5, u6] [] (M2, T2) Q) : Wp 17 334 1153 [] [(2, 1000000), (2, ((0 : Nat) : Int)), (2, ((138 : Nat) : Int)), (2, ((153 : Nat) : Int)), (0, (i : Int)), u5, u6] [] (M, T) Q := by
  have h0 : 0 < T.1 := Nat.lt_of_lt_of_le (show 0 < 154 by decide) h.1.1.1
  have h138 : 138 < T.1 := Nat.lt_of_lt_of_le (show 138 < 154 by decide) h.1.1.1
  obtain ⟨x, M1, M2, T2, r1, r2, e1, kp⟩ := tw_likeliest h
  have hi1 : (i : Int) + 6 ≤ M1 1000000 5000 := by rw [e1]; exact hi
  have hl1 : M1 1000000 5000 ≤ 3072 := by rw [e1]; exact hl
  refine y_blk (t := 1153) rfl (show fnd bk_L_law 1153 = some _ from rfl) aB_L_law ?_
  refine wp_aload_n (v := ((0 : Nat) : Int)) rfl (Int.natCast_nonneg _) ?_
  refine y_callW (as := []) (S1 := []) (Nat.le_of_ble_eq_true rfl) (by decide) r1 (Nat.le_of_ble_eq_true rfl) rfl (show ash 0 = (11, 15) from rfl) h0 (Nat.le_of_ble_eq_true rfl) (Nat.le_of_ble_eq_true rfl) rfl ?_
  refine wp_aload_n (v := ((138 : Nat) : Int)) rfl (Int.natCast_nonneg _) ?_
  refine y_callW (as := []) (S1 := [(0, x)]) (Nat.le_of_ble_eq_true rfl) (by decide) r2 (Nat.le_of_ble_eq_true rfl) rfl (show ash 138 = (13, 38) from rfl) h138 (Nat.le_of_ble_eq_true rfl) (Nat.le_of_ble_eq_true rfl) rfl ?_
  exact wp_icmp_eq (fun _ => y_to rfl (K M2 T2 kp u5 u6)) (fun c => absurd rfl c)
theorem lw_29 (h : Lst T M A st) (hi : (i : Int) + 6 ≤ M 1000000 5000) (hl : M 1000000 5000 ≤ 3072) (K : ∀ M2 T2, Kp T T2 M M2 → ∀ u5 u6 : aV, Wp 17 334 2026 [] [(2, 1000000), (2, ((0 : Nat) : Int)), (2, ((138 : Nat) : Int)), (2, ((153 : Nat) : Int)), (0, (i : Int)), u5, u6] [] (M2, T2) Q) : Wp 17 334 1166 [] [(2, 1000000), (2, ((0 : Nat) : Int)), (2, ((138 : Nat) : Int)), (2, ((153 : Nat) : Int)), (0, (i : Int)), u5, u6] [] (M, T) Q := by
  have h0 : 0 < T.1 := Nat.lt_of_lt_of_le (show 0 < 154 by decide) h.1.1.1
  have h138 : 138 < T.1 := Nat.lt_of_lt_of_le (show 138 < 154 by decide) h.1.1.1
  obtain ⟨x, M1, M2, T2, r1, r2, e1, kp⟩ := tw_stone h
  have hi1 : (i : Int) + 6 ≤ M1 1000000 5000 := by rw [e1]; exact hi
  have hl1 : M1 1000000 5000 ≤ 3072 := by rw [e1]; exact hl
  refine y_blk (t := 1166) rfl (show fnd bk_L_law 1166 = some _ from rfl) aB_L_law ?_
  refine wp_aload_n (v := ((0 : Nat) : Int)) rfl (Int.natCast_nonneg _) ?_
  refine y_callW (as := []) (S1 := []) (Nat.le_of_ble_eq_true rfl) (by decide) r1 (Nat.le_of_ble_eq_true rfl) rfl (show ash 0 = (11, 15) from rfl) h0 (Nat.le_of_ble_eq_true rfl) (Nat.le_of_ble_eq_true rfl) rfl ?_
  refine wp_aload_n (v := ((138 : Nat) : Int)) rfl (Int.natCast_nonneg _) ?_
  refine y_callW (as := []) (S1 := [(0, x)]) (Nat.le_of_ble_eq_true rfl) (by decide) r2 (Nat.le_of_ble_eq_true rfl) rfl (show ash 138 = (13, 38) from rfl) h138 (Nat.le_of_ble_eq_true rfl) (Nat.le_of_ble_eq_true rfl) rfl ?_
  exact wp_icmp_eq (fun _ => y_to rfl (K M2 T2 kp u5 u6)) (fun c => absurd rfl c)
theorem lw_30 (h : Lst T M A st) (hi : (i : Int) + 6 ≤ M 1000000 5000) (hl : M 1000000 5000 ≤ 3072) (K : ∀ M2 T2, Kp T T2 M M2 → ∀ u5 u6 : aV, Wp 17 334 2026 [] [(2, 1000000), (2, ((0 : Nat) : Int)), (2, ((138 : Nat) : Int)), (2, ((153 : Nat) : Int)), (0, (i : Int)), u5, u6] [] (M2, T2) Q) : Wp 17 334 1179 [] [(2, 1000000), (2, ((0 : Nat) : Int)), (2, ((138 : Nat) : Int)), (2, ((153 : Nat) : Int)), (0, (i : Int)), u5, u6] [] (M, T) Q := by
  have h0 : 0 < T.1 := Nat.lt_of_lt_of_le (show 0 < 154 by decide) h.1.1.1
  have h138 : 138 < T.1 := Nat.lt_of_lt_of_le (show 138 < 154 by decide) h.1.1.1
  obtain ⟨x, M1, M2, T2, r1, r2, e1, kp⟩ := tw_stoneLeaves h
  have hi1 : (i : Int) + 6 ≤ M1 1000000 5000 := by rw [e1]; exact hi
  have hl1 : M1 1000000 5000 ≤ 3072 := by rw [e1]; exact hl
  refine y_blk (t := 1179) rfl (show fnd bk_L_law 1179 = some _ from rfl) aB_L_law ?_
  refine wp_aload_n (v := ((0 : Nat) : Int)) rfl (Int.natCast_nonneg _) ?_
  refine y_callW (as := []) (S1 := []) (Nat.le_of_ble_eq_true rfl) (by decide) r1 (Nat.le_of_ble_eq_true rfl) rfl (show ash 0 = (11, 15) from rfl) h0 (Nat.le_of_ble_eq_true rfl) (Nat.le_of_ble_eq_true rfl) rfl ?_
  refine wp_aload_n (v := ((138 : Nat) : Int)) rfl (Int.natCast_nonneg _) ?_
  refine y_callW (as := []) (S1 := [(0, x)]) (Nat.le_of_ble_eq_true rfl) (by decide) r2 (Nat.le_of_ble_eq_true rfl) rfl (show ash 138 = (13, 38) from rfl) h138 (Nat.le_of_ble_eq_true rfl) (Nat.le_of_ble_eq_true rfl) rfl ?_
  exact wp_icmp_eq (fun _ => y_to rfl (K M2 T2 kp u5 u6)) (fun c => absurd rfl c)
theorem lw_31 (h : Lst T M A st) (hi : (i : Int) + 6 ≤ M 1000000 5000) (hl : M 1000000 5000 ≤ 3072) (K : ∀ M2 T2, Kp T T2 M M2 → ∀ u5 u6 : aV, Wp 17 334 2026 [] [(2, 1000000), (2, ((0 : Nat) : Int)), (2, ((138 : Nat) : Int)), (2, ((153 : Nat) : Int)), (0, (i : Int)), u5, u6] [] (M2, T2) Q) : Wp 17 334 1192 [] [(2, 1000000), (2, ((0 : Nat) : Int)), (2, ((138 : Nat) : Int)), (2, ((153 : Nat) : Int)), (0, (i : Int)), u5, u6] [] (M, T) Q := by
  have h0 : 0 < T.1 := Nat.lt_of_lt_of_le (show 0 < 154 by decide) h.1.1.1
  have h138 : 138 < T.1 := Nat.lt_of_lt_of_le (show 138 < 154 by decide) h.1.1.1
  obtain ⟨x, M1, M2, T2, r1, r2, e1, kp⟩ := tw_judge h
  have hi1 : (i : Int) + 6 ≤ M1 1000000 5000 := by rw [e1]; exact hi
  have hl1 : M1 1000000 5000 ≤ 3072 := by rw [e1]; exact hl
  refine y_blk (t := 1192) rfl (show fnd bk_L_law 1192 = some _ from rfl) aB_L_law ?_
  refine wp_aload_n (v := ((0 : Nat) : Int)) rfl (Int.natCast_nonneg _) ?_
  refine y_callW (as := []) (S1 := []) (Nat.le_of_ble_eq_true rfl) (by decide) r1 (Nat.le_of_ble_eq_true rfl) rfl (show ash 0 = (11, 15) from rfl) h0 (Nat.le_of_ble_eq_true rfl) (Nat.le_of_ble_eq_true rfl) rfl ?_
  refine wp_aload_n (v := ((138 : Nat) : Int)) rfl (Int.natCast_nonneg _) ?_
  refine y_callW (as := []) (S1 := [(0, x)]) (Nat.le_of_ble_eq_true rfl) (by decide) r2 (Nat.le_of_ble_eq_true rfl) rfl (show ash 138 = (13, 38) from rfl) h138 (Nat.le_of_ble_eq_true rfl) (Nat.le_of_ble_eq_true rfl) rfl ?_
  exact wp_icmp_eq (fun _ => y_to rfl (K M2 T2 kp u5 u6)) (fun c => absurd rfl c)
theorem lw_32 (h : Lst T M A st) (hi : (i : Int) + 6 ≤ M 1000000 5000) (hl : M 1000000 5000 ≤ 3072) (K : ∀ M2 T2, Kp T T2 M M2 → ∀ u5 u6 : aV, Wp 17 334 2026 [] [(2, 1000000), (2, ((0 : Nat) : Int)), (2, ((138 : Nat) : Int)), (2, ((153 : Nat) : Int)), (0, (i : Int)), u5, u6] [] (M2, T2) Q) : Wp 17 334 1205 [] [(2, 1000000), (2, ((0 : Nat) : Int)), (2, ((138 : Nat) : Int)), (2, ((153 : Nat) : Int)), (0, (i : Int)), u5, u6] [] (M, T) Q := by
  have h0 : 0 < T.1 := Nat.lt_of_lt_of_le (show 0 < 154 by decide) h.1.1.1
  have h138 : 138 < T.1 := Nat.lt_of_lt_of_le (show 138 < 154 by decide) h.1.1.1
  obtain ⟨x, M1, M2, T2, r1, r2, e1, kp⟩ := tw_nets h
  have hi1 : (i : Int) + 6 ≤ M1 1000000 5000 := by rw [e1]; exact hi
  have hl1 : M1 1000000 5000 ≤ 3072 := by rw [e1]; exact hl
  refine y_blk (t := 1205) rfl (show fnd bk_L_law 1205 = some _ from rfl) aB_L_law ?_
  refine wp_aload_n (v := ((0 : Nat) : Int)) rfl (Int.natCast_nonneg _) ?_
  refine y_callW (as := []) (S1 := []) (Nat.le_of_ble_eq_true rfl) (by decide) r1 (Nat.le_of_ble_eq_true rfl) rfl (show ash 0 = (11, 15) from rfl) h0 (Nat.le_of_ble_eq_true rfl) (Nat.le_of_ble_eq_true rfl) rfl ?_
  refine wp_aload_n (v := ((138 : Nat) : Int)) rfl (Int.natCast_nonneg _) ?_
  refine y_callW (as := []) (S1 := [(0, x)]) (Nat.le_of_ble_eq_true rfl) (by decide) r2 (Nat.le_of_ble_eq_true rfl) rfl (show ash 138 = (13, 38) from rfl) h138 (Nat.le_of_ble_eq_true rfl) (Nat.le_of_ble_eq_true rfl) rfl ?_
  exact wp_icmp_eq (fun _ => y_to rfl (K M2 T2 kp u5 u6)) (fun c => absurd rfl c)
theorem lw_33 (h : Lst T M A st) (hi : (i : Int) + 6 ≤ M 1000000 5000) (hl : M 1000000 5000 ≤ 3072) (K : ∀ M2 T2, Kp T T2 M M2 → ∀ u5 u6 : aV, Wp 17 334 2026 [] [(2, 1000000), (2, ((0 : Nat) : Int)), (2, ((138 : Nat) : Int)), (2, ((153 : Nat) : Int)), (0, (i : Int)), u5, u6] [] (M2, T2) Q) : Wp 17 334 1218 [] [(2, 1000000), (2, ((0 : Nat) : Int)), (2, ((138 : Nat) : Int)), (2, ((153 : Nat) : Int)), (0, (i : Int)), u5, u6] [] (M, T) Q := by
  have h0 : 0 < T.1 := Nat.lt_of_lt_of_le (show 0 < 154 by decide) h.1.1.1
  have h138 : 138 < T.1 := Nat.lt_of_lt_of_le (show 138 < 154 by decide) h.1.1.1
  obtain ⟨x, M1, M2, T2, r1, r2, e1, kp⟩ := tw_netAt h (M 1000000 (i + 1))
  have hi1 : (i : Int) + 6 ≤ M1 1000000 5000 := by rw [e1]; exact hi
  have hl1 : M1 1000000 5000 ≤ 3072 := by rw [e1]; exact hl
  refine y_blk (t := 1218) rfl (show fnd bk_L_law 1218 = some _ from rfl) aB_L_law ?_
  refine wp_aload_n (v := ((0 : Nat) : Int)) rfl (Int.natCast_nonneg _) ?_
  refine y_arg (k := 1) rfl (by decide) hi hl (v := M 1000000 (i + 1)) rfl ?_
  refine y_callW (as := [(0, M 1000000 (i + 1))]) (S1 := []) (Nat.le_of_ble_eq_true rfl) (by decide) r1 (Nat.le_of_ble_eq_true rfl) rfl (show ash 0 = (11, 15) from rfl) h0 (Nat.le_of_ble_eq_true rfl) (Nat.le_of_ble_eq_true rfl) rfl ?_
  refine wp_aload_n (v := ((138 : Nat) : Int)) rfl (Int.natCast_nonneg _) ?_
  refine y_arg (k := 1) rfl (by decide) hi1 hl1 (v := M 1000000 (i + 1)) (by rw [e1]) ?_
  refine y_callW (as := [(0, M 1000000 (i + 1))]) (S1 := [(0, x)]) (Nat.le_of_ble_eq_true rfl) (by decide) r2 (Nat.le_of_ble_eq_true rfl) rfl (show ash 138 = (13, 38) from rfl) h138 (Nat.le_of_ble_eq_true rfl) (Nat.le_of_ble_eq_true rfl) rfl ?_
  exact wp_icmp_eq (fun _ => y_to rfl (K M2 T2 kp u5 u6)) (fun c => absurd rfl c)
theorem lw_34 (h : Lst T M A st) (hi : (i : Int) + 6 ≤ M 1000000 5000) (hl : M 1000000 5000 ≤ 3072) (K : ∀ M2 T2, Kp T T2 M M2 → ∀ u5 u6 : aV, Wp 17 334 2026 [] [(2, 1000000), (2, ((0 : Nat) : Int)), (2, ((138 : Nat) : Int)), (2, ((153 : Nat) : Int)), (0, (i : Int)), u5, u6] [] (M2, T2) Q) : Wp 17 334 1243 [] [(2, 1000000), (2, ((0 : Nat) : Int)), (2, ((138 : Nat) : Int)), (2, ((153 : Nat) : Int)), (0, (i : Int)), u5, u6] [] (M, T) Q := by
  have h0 : 0 < T.1 := Nat.lt_of_lt_of_le (show 0 < 154 by decide) h.1.1.1
  have h138 : 138 < T.1 := Nat.lt_of_lt_of_le (show 138 < 154 by decide) h.1.1.1
  obtain ⟨x, M1, M2, T2, r1, r2, e1, kp⟩ := tw_dryBy h (M 1000000 (i + 1))
  have hi1 : (i : Int) + 6 ≤ M1 1000000 5000 := by rw [e1]; exact hi
  have hl1 : M1 1000000 5000 ≤ 3072 := by rw [e1]; exact hl
  refine y_blk (t := 1243) rfl (show fnd bk_L_law 1243 = some _ from rfl) aB_L_law ?_
  refine wp_aload_n (v := ((0 : Nat) : Int)) rfl (Int.natCast_nonneg _) ?_
  refine y_arg (k := 1) rfl (by decide) hi hl (v := M 1000000 (i + 1)) rfl ?_
  refine y_callW (as := [(0, M 1000000 (i + 1))]) (S1 := []) (Nat.le_of_ble_eq_true rfl) (by decide) r1 (Nat.le_of_ble_eq_true rfl) rfl (show ash 0 = (11, 15) from rfl) h0 (Nat.le_of_ble_eq_true rfl) (Nat.le_of_ble_eq_true rfl) rfl ?_
  refine wp_aload_n (v := ((138 : Nat) : Int)) rfl (Int.natCast_nonneg _) ?_
  refine y_arg (k := 1) rfl (by decide) hi1 hl1 (v := M 1000000 (i + 1)) (by rw [e1]) ?_
  refine y_callW (as := [(0, M 1000000 (i + 1))]) (S1 := [(0, x)]) (Nat.le_of_ble_eq_true rfl) (by decide) r2 (Nat.le_of_ble_eq_true rfl) rfl (show ash 138 = (13, 38) from rfl) h138 (Nat.le_of_ble_eq_true rfl) (Nat.le_of_ble_eq_true rfl) rfl ?_
  exact wp_icmp_eq (fun _ => y_to rfl (K M2 T2 kp u5 u6)) (fun c => absurd rfl c)
theorem lw_35 (h : Lst T M A st) (hi : (i : Int) + 6 ≤ M 1000000 5000) (hl : M 1000000 5000 ≤ 3072) (K : ∀ M2 T2, Kp T T2 M M2 → ∀ u5 u6 : aV, Wp 17 334 2026 [] [(2, 1000000), (2, ((0 : Nat) : Int)), (2, ((138 : Nat) : Int)), (2, ((153 : Nat) : Int)), (0, (i : Int)), u5, u6] [] (M2, T2) Q) : Wp 17 334 1268 [] [(2, 1000000), (2, ((0 : Nat) : Int)), (2, ((138 : Nat) : Int)), (2, ((153 : Nat) : Int)), (0, (i : Int)), u5, u6] [] (M, T) Q := by
  have h0 : 0 < T.1 := Nat.lt_of_lt_of_le (show 0 < 154 by decide) h.1.1.1
  have h138 : 138 < T.1 := Nat.lt_of_lt_of_le (show 138 < 154 by decide) h.1.1.1
  obtain ⟨x, M1, M2, T2, r1, r2, e1, kp⟩ := tw_liar h
  have hi1 : (i : Int) + 6 ≤ M1 1000000 5000 := by rw [e1]; exact hi
  have hl1 : M1 1000000 5000 ≤ 3072 := by rw [e1]; exact hl
  refine y_blk (t := 1268) rfl (show fnd bk_L_law 1268 = some _ from rfl) aB_L_law ?_
  refine wp_aload_n (v := ((0 : Nat) : Int)) rfl (Int.natCast_nonneg _) ?_
  refine y_callW (as := []) (S1 := []) (Nat.le_of_ble_eq_true rfl) (by decide) r1 (Nat.le_of_ble_eq_true rfl) rfl (show ash 0 = (11, 15) from rfl) h0 (Nat.le_of_ble_eq_true rfl) (Nat.le_of_ble_eq_true rfl) rfl ?_
  refine wp_aload_n (v := ((138 : Nat) : Int)) rfl (Int.natCast_nonneg _) ?_
  refine y_callW (as := []) (S1 := [(0, x)]) (Nat.le_of_ble_eq_true rfl) (by decide) r2 (Nat.le_of_ble_eq_true rfl) rfl (show ash 138 = (13, 38) from rfl) h138 (Nat.le_of_ble_eq_true rfl) (Nat.le_of_ble_eq_true rfl) rfl ?_
  exact wp_icmp_eq (fun _ => y_to rfl (K M2 T2 kp u5 u6)) (fun c => absurd rfl c)
theorem lw_36 (h : Lst T M A st) (hi : (i : Int) + 6 ≤ M 1000000 5000) (hl : M 1000000 5000 ≤ 3072) (K : ∀ M2 T2, Kp T T2 M M2 → ∀ u5 u6 : aV, Wp 17 334 2026 [] [(2, 1000000), (2, ((0 : Nat) : Int)), (2, ((138 : Nat) : Int)), (2, ((153 : Nat) : Int)), (0, (i : Int)), u5, u6] [] (M2, T2) Q) : Wp 17 334 1281 [] [(2, 1000000), (2, ((0 : Nat) : Int)), (2, ((138 : Nat) : Int)), (2, ((153 : Nat) : Int)), (0, (i : Int)), u5, u6] [] (M, T) Q := by
  have h0 : 0 < T.1 := Nat.lt_of_lt_of_le (show 0 < 154 by decide) h.1.1.1
  have h138 : 138 < T.1 := Nat.lt_of_lt_of_le (show 138 < 154 by decide) h.1.1.1
  obtain ⟨x, M1, M2, T2, r1, r2, e1, kp⟩ := tw_chase h (M 1000000 (i + 1)) (M 1000000 (i + 2))
  have hi1 : (i : Int) + 6 ≤ M1 1000000 5000 := by rw [e1]; exact hi
  have hl1 : M1 1000000 5000 ≤ 3072 := by rw [e1]; exact hl
  refine y_blk (t := 1281) rfl (show fnd bk_L_law 1281 = some _ from rfl) aB_L_law ?_
  refine wp_aload_n (v := ((0 : Nat) : Int)) rfl (Int.natCast_nonneg _) ?_
  refine y_arg (k := 1) rfl (by decide) hi hl (v := M 1000000 (i + 1)) rfl ?_
  refine y_arg (k := 2) rfl (by decide) hi hl (v := M 1000000 (i + 2)) rfl ?_
  refine y_callW (as := [(0, M 1000000 (i + 1)), (0, M 1000000 (i + 2))]) (S1 := []) (Nat.le_of_ble_eq_true rfl) (by decide) r1 (Nat.le_of_ble_eq_true rfl) rfl (show ash 0 = (11, 15) from rfl) h0 (Nat.le_of_ble_eq_true rfl) (Nat.le_of_ble_eq_true rfl) rfl ?_
  refine wp_aload_n (v := ((138 : Nat) : Int)) rfl (Int.natCast_nonneg _) ?_
  refine y_arg (k := 1) rfl (by decide) hi1 hl1 (v := M 1000000 (i + 1)) (by rw [e1]) ?_
  refine y_arg (k := 2) rfl (by decide) hi1 hl1 (v := M 1000000 (i + 2)) (by rw [e1]) ?_
  refine y_callW (as := [(0, M 1000000 (i + 1)), (0, M 1000000 (i + 2))]) (S1 := [(0, x)]) (Nat.le_of_ble_eq_true rfl) (by decide) r2 (Nat.le_of_ble_eq_true rfl) rfl (show ash 138 = (13, 38) from rfl) h138 (Nat.le_of_ble_eq_true rfl) (Nat.le_of_ble_eq_true rfl) rfl ?_
  exact wp_icmp_eq (fun _ => y_to rfl (K M2 T2 kp u5 u6)) (fun c => absurd rfl c)
theorem lw_37 (h : Lst T M A st) (hi : (i : Int) + 6 ≤ M 1000000 5000) (hl : M 1000000 5000 ≤ 3072) (K : ∀ M2 T2, Kp T T2 M M2 → ∀ u5 u6 : aV, Wp 17 334 2026 [] [(2, 1000000), (2, ((0 : Nat) : Int)), (2, ((138 : Nat) : Int)), (2, ((153 : Nat) : Int)), (0, (i : Int)), u5, u6] [] (M2, T2) Q) : Wp 17 334 1318 [] [(2, 1000000), (2, ((0 : Nat) : Int)), (2, ((138 : Nat) : Int)), (2, ((153 : Nat) : Int)), (0, (i : Int)), u5, u6] [] (M, T) Q := by
  have h0 : 0 < T.1 := Nat.lt_of_lt_of_le (show 0 < 154 by decide) h.1.1.1
  have h138 : 138 < T.1 := Nat.lt_of_lt_of_le (show 138 < 154 by decide) h.1.1.1
  obtain ⟨x, M1, M2, T2, r1, r2, e1, kp⟩ := tw_chaseBy h (M 1000000 (i + 1)) (M 1000000 (i + 2))
  have hi1 : (i : Int) + 6 ≤ M1 1000000 5000 := by rw [e1]; exact hi
  have hl1 : M1 1000000 5000 ≤ 3072 := by rw [e1]; exact hl
  refine y_blk (t := 1318) rfl (show fnd bk_L_law 1318 = some _ from rfl) aB_L_law ?_
  refine wp_aload_n (v := ((0 : Nat) : Int)) rfl (Int.natCast_nonneg _) ?_
  refine y_arg (k := 1) rfl (by decide) hi hl (v := M 1000000 (i + 1)) rfl ?_
  refine y_arg (k := 2) rfl (by decide) hi hl (v := M 1000000 (i + 2)) rfl ?_
  refine y_callW (as := [(0, M 1000000 (i + 1)), (0, M 1000000 (i + 2))]) (S1 := []) (Nat.le_of_ble_eq_true rfl) (by decide) r1 (Nat.le_of_ble_eq_true rfl) rfl (show ash 0 = (11, 15) from rfl) h0 (Nat.le_of_ble_eq_true rfl) (Nat.le_of_ble_eq_true rfl) rfl ?_
  refine wp_aload_n (v := ((138 : Nat) : Int)) rfl (Int.natCast_nonneg _) ?_
  refine y_arg (k := 1) rfl (by decide) hi1 hl1 (v := M 1000000 (i + 1)) (by rw [e1]) ?_
  refine y_arg (k := 2) rfl (by decide) hi1 hl1 (v := M 1000000 (i + 2)) (by rw [e1]) ?_
  refine y_callW (as := [(0, M 1000000 (i + 1)), (0, M 1000000 (i + 2))]) (S1 := [(0, x)]) (Nat.le_of_ble_eq_true rfl) (by decide) r2 (Nat.le_of_ble_eq_true rfl) rfl (show ash 138 = (13, 38) from rfl) h138 (Nat.le_of_ble_eq_true rfl) (Nat.le_of_ble_eq_true rfl) rfl ?_
  exact wp_icmp_eq (fun _ => y_to rfl (K M2 T2 kp u5 u6)) (fun c => absurd rfl c)
theorem lw_38 (h : Lst T M A st) (hi : (i : Int) + 6 ≤ M 1000000 5000) (hl : M 1000000 5000 ≤ 3072) (K : ∀ M2 T2, Kp T T2 M M2 → ∀ u5 u6 : aV, Wp 17 334 2026 [] [(2, 1000000), (2, ((0 : Nat) : Int)), (2, ((138 : Nat) : Int)), (2, ((153 : Nat) : Int)), (0, (i : Int)), u5, u6] [] (M2, T2) Q) : Wp 17 334 1355 [] [(2, 1000000), (2, ((0 : Nat) : Int)), (2, ((138 : Nat) : Int)), (2, ((153 : Nat) : Int)), (0, (i : Int)), u5, u6] [] (M, T) Q := by
  have h0 : 0 < T.1 := Nat.lt_of_lt_of_le (show 0 < 154 by decide) h.1.1.1
  have h138 : 138 < T.1 := Nat.lt_of_lt_of_le (show 138 < 154 by decide) h.1.1.1
  obtain ⟨x, M1, M2, T2, r1, r2, e1, kp⟩ := tw_answers h (M 1000000 (i + 1)) (bo (M 1000000 (i + 2))) (bo (M 1000000 (i + 3))) (bo (M 1000000 (i + 4)))
  have hi1 : (i : Int) + 6 ≤ M1 1000000 5000 := by rw [e1]; exact hi
  have hl1 : M1 1000000 5000 ≤ 3072 := by rw [e1]; exact hl
  refine y_blk (t := 1355) rfl (show fnd bk_L_law 1355 = some _ from rfl) aB_L_law ?_
  refine wp_aload_n (v := ((0 : Nat) : Int)) rfl (Int.natCast_nonneg _) ?_
  refine y_arg (k := 1) rfl (by decide) hi hl (v := M 1000000 (i + 1)) rfl ?_
  refine y_arg (k := 2) rfl (by decide) hi hl (v := M 1000000 (i + 2)) rfl ?_
  refine y_bool (t0 := 1375) (t1 := 1376) rfl rfl rfl rfl ?_
  refine y_blk (t := 1376) rfl (show fnd bk_L_law 1376 = some _ from rfl) aB_L_law ?_
  refine y_arg (k := 3) rfl (by decide) hi hl (v := M 1000000 (i + 3)) rfl ?_
  refine y_bool (t0 := 1389) (t1 := 1390) rfl rfl rfl rfl ?_
  refine y_blk (t := 1390) rfl (show fnd bk_L_law 1390 = some _ from rfl) aB_L_law ?_
  refine y_arg (k := 4) rfl (by decide) hi hl (v := M 1000000 (i + 4)) rfl ?_
  refine y_bool (t0 := 1403) (t1 := 1404) rfl rfl rfl rfl ?_
  refine y_blk (t := 1404) rfl (show fnd bk_L_law 1404 = some _ from rfl) aB_L_law ?_
  refine y_callW (as := [(0, M 1000000 (i + 1)), (0, bo (M 1000000 (i + 2))), (0, bo (M 1000000 (i + 3))), (0, bo (M 1000000 (i + 4)))]) (S1 := []) (Nat.le_of_ble_eq_true rfl) (by decide) r1 (Nat.le_of_ble_eq_true rfl) rfl (show ash 0 = (11, 15) from rfl) h0 (Nat.le_of_ble_eq_true rfl) (Nat.le_of_ble_eq_true rfl) rfl ?_
  refine wp_aload_n (v := ((138 : Nat) : Int)) rfl (Int.natCast_nonneg _) ?_
  refine y_arg (k := 1) rfl (by decide) hi1 hl1 (v := M 1000000 (i + 1)) (by rw [e1]) ?_
  refine y_arg (k := 2) rfl (by decide) hi1 hl1 (v := M 1000000 (i + 2)) (by rw [e1]) ?_
  refine y_bool (t0 := 1427) (t1 := 1428) rfl rfl rfl rfl ?_
  refine y_blk (t := 1428) rfl (show fnd bk_L_law 1428 = some _ from rfl) aB_L_law ?_
  refine y_arg (k := 3) rfl (by decide) hi1 hl1 (v := M 1000000 (i + 3)) (by rw [e1]) ?_
  refine y_bool (t0 := 1441) (t1 := 1442) rfl rfl rfl rfl ?_
  refine y_blk (t := 1442) rfl (show fnd bk_L_law 1442 = some _ from rfl) aB_L_law ?_
  refine y_arg (k := 4) rfl (by decide) hi1 hl1 (v := M 1000000 (i + 4)) (by rw [e1]) ?_
  refine y_bool (t0 := 1455) (t1 := 1456) rfl rfl rfl rfl ?_
  refine y_blk (t := 1456) rfl (show fnd bk_L_law 1456 = some _ from rfl) aB_L_law ?_
  refine y_callW (as := [(0, M 1000000 (i + 1)), (0, bo (M 1000000 (i + 2))), (0, bo (M 1000000 (i + 3))), (0, bo (M 1000000 (i + 4)))]) (S1 := [(0, x)]) (Nat.le_of_ble_eq_true rfl) (by decide) r2 (Nat.le_of_ble_eq_true rfl) rfl (show ash 138 = (13, 38) from rfl) h138 (Nat.le_of_ble_eq_true rfl) (Nat.le_of_ble_eq_true rfl) rfl ?_
  exact wp_icmp_eq (fun _ => y_to rfl (K M2 T2 kp u5 u6)) (fun c => absurd rfl c)
theorem lw_39 (h : Lst T M A st) (hi : (i : Int) + 6 ≤ M 1000000 5000) (hl : M 1000000 5000 ≤ 3072) (K : ∀ M2 T2, Kp T T2 M M2 → ∀ u5 u6 : aV, Wp 17 334 2026 [] [(2, 1000000), (2, ((0 : Nat) : Int)), (2, ((138 : Nat) : Int)), (2, ((153 : Nat) : Int)), (0, (i : Int)), u5, u6] [] (M2, T2) Q) : Wp 17 334 1464 [] [(2, 1000000), (2, ((0 : Nat) : Int)), (2, ((138 : Nat) : Int)), (2, ((153 : Nat) : Int)), (0, (i : Int)), u5, u6] [] (M, T) Q := by
  have h0 : 0 < T.1 := Nat.lt_of_lt_of_le (show 0 < 154 by decide) h.1.1.1
  have h138 : 138 < T.1 := Nat.lt_of_lt_of_le (show 138 < 154 by decide) h.1.1.1
  obtain ⟨x, M1, M2, T2, r1, r2, e1, kp⟩ := tw_rests h (M 1000000 (i + 1))
  have hi1 : (i : Int) + 6 ≤ M1 1000000 5000 := by rw [e1]; exact hi
  have hl1 : M1 1000000 5000 ≤ 3072 := by rw [e1]; exact hl
  refine y_blk (t := 1464) rfl (show fnd bk_L_law 1464 = some _ from rfl) aB_L_law ?_
  refine wp_aload_n (v := ((0 : Nat) : Int)) rfl (Int.natCast_nonneg _) ?_
  refine y_arg (k := 1) rfl (by decide) hi hl (v := M 1000000 (i + 1)) rfl ?_
  refine y_callW (as := [(0, M 1000000 (i + 1))]) (S1 := []) (Nat.le_of_ble_eq_true rfl) (by decide) r1 (Nat.le_of_ble_eq_true rfl) rfl (show ash 0 = (11, 15) from rfl) h0 (Nat.le_of_ble_eq_true rfl) (Nat.le_of_ble_eq_true rfl) rfl ?_
  refine wp_aload_n (v := ((138 : Nat) : Int)) rfl (Int.natCast_nonneg _) ?_
  refine y_arg (k := 1) rfl (by decide) hi1 hl1 (v := M 1000000 (i + 1)) (by rw [e1]) ?_
  refine y_callW (as := [(0, M 1000000 (i + 1))]) (S1 := [(0, x)]) (Nat.le_of_ble_eq_true rfl) (by decide) r2 (Nat.le_of_ble_eq_true rfl) rfl (show ash 138 = (13, 38) from rfl) h138 (Nat.le_of_ble_eq_true rfl) (Nat.le_of_ble_eq_true rfl) rfl ?_
  exact wp_icmp_eq (fun _ => y_to rfl (K M2 T2 kp u5 u6)) (fun c => absurd rfl c)
theorem lw_40 (h : Lst T M A st) (hi : (i : Int) + 6 ≤ M 1000000 5000) (hl : M 1000000 5000 ≤ 3072) (K : ∀ M2 T2, Kp T T2 M M2 → ∀ u5 u6 : aV, Wp 17 334 2026 [] [(2, 1000000), (2, ((0 : Nat) : Int)), (2, ((138 : Nat) : Int)), (2, ((153 : Nat) : Int)), (0, (i : Int)), u5, u6] [] (M2, T2) Q) : Wp 17 334 1489 [] [(2, 1000000), (2, ((0 : Nat) : Int)), (2, ((138 : Nat) : Int)), (2, ((153 : Nat) : Int)), (0, (i : Int)), u5, u6] [] (M, T) Q := by
  have h0 : 0 < T.1 := Nat.lt_of_lt_of_le (show 0 < 154 by decide) h.1.1.1
  have h138 : 138 < T.1 := Nat.lt_of_lt_of_le (show 138 < 154 by decide) h.1.1.1
  obtain ⟨x, M1, M2, T2, r1, r2, e1, kp⟩ := tw_rest h (M 1000000 (i + 1))
  have hi1 : (i : Int) + 6 ≤ M1 1000000 5000 := by rw [e1]; exact hi
  have hl1 : M1 1000000 5000 ≤ 3072 := by rw [e1]; exact hl
  refine y_blk (t := 1489) rfl (show fnd bk_L_law 1489 = some _ from rfl) aB_L_law ?_
  refine wp_aload_n (v := ((0 : Nat) : Int)) rfl (Int.natCast_nonneg _) ?_
  refine y_arg (k := 1) rfl (by decide) hi hl (v := M 1000000 (i + 1)) rfl ?_
  refine y_callW (as := [(0, M 1000000 (i + 1))]) (S1 := []) (Nat.le_of_ble_eq_true rfl) (by decide) r1 (Nat.le_of_ble_eq_true rfl) rfl (show ash 0 = (11, 15) from rfl) h0 (Nat.le_of_ble_eq_true rfl) (Nat.le_of_ble_eq_true rfl) rfl ?_
  refine wp_aload_n (v := ((138 : Nat) : Int)) rfl (Int.natCast_nonneg _) ?_
  refine y_arg (k := 1) rfl (by decide) hi1 hl1 (v := M 1000000 (i + 1)) (by rw [e1]) ?_
  refine y_callW (as := [(0, M 1000000 (i + 1))]) (S1 := [(0, x)]) (Nat.le_of_ble_eq_true rfl) (by decide) r2 (Nat.le_of_ble_eq_true rfl) rfl (show ash 138 = (13, 38) from rfl) h138 (Nat.le_of_ble_eq_true rfl) (Nat.le_of_ble_eq_true rfl) rfl ?_
  exact wp_icmp_eq (fun _ => y_to rfl (K M2 T2 kp u5 u6)) (fun c => absurd rfl c)
theorem lw_41 (h : Lst T M A st) (hi : (i : Int) + 6 ≤ M 1000000 5000) (hl : M 1000000 5000 ≤ 3072) (K : ∀ M2 T2, Kp T T2 M M2 → ∀ u5 u6 : aV, Wp 17 334 2026 [] [(2, 1000000), (2, ((0 : Nat) : Int)), (2, ((138 : Nat) : Int)), (2, ((153 : Nat) : Int)), (0, (i : Int)), u5, u6] [] (M2, T2) Q) : Wp 17 334 1514 [] [(2, 1000000), (2, ((0 : Nat) : Int)), (2, ((138 : Nat) : Int)), (2, ((153 : Nat) : Int)), (0, (i : Int)), u5, u6] [] (M, T) Q := by
  have h0 : 0 < T.1 := Nat.lt_of_lt_of_le (show 0 < 154 by decide) h.1.1.1
  have h138 : 138 < T.1 := Nat.lt_of_lt_of_le (show 138 < 154 by decide) h.1.1.1
  obtain ⟨x, M1, M2, T2, r1, r2, e1, kp⟩ := tw_within h (M 1000000 (i + 1)) (M 1000000 (i + 2)) (M 1000000 (i + 3)) (bo (M 1000000 (i + 4)))
  have hi1 : (i : Int) + 6 ≤ M1 1000000 5000 := by rw [e1]; exact hi
  have hl1 : M1 1000000 5000 ≤ 3072 := by rw [e1]; exact hl
  refine y_blk (t := 1514) rfl (show fnd bk_L_law 1514 = some _ from rfl) aB_L_law ?_
  refine wp_aload_n (v := ((0 : Nat) : Int)) rfl (Int.natCast_nonneg _) ?_
  refine y_arg (k := 1) rfl (by decide) hi hl (v := M 1000000 (i + 1)) rfl ?_
  refine y_arg (k := 2) rfl (by decide) hi hl (v := M 1000000 (i + 2)) rfl ?_
  refine y_arg (k := 3) rfl (by decide) hi hl (v := M 1000000 (i + 3)) rfl ?_
  refine y_arg (k := 4) rfl (by decide) hi hl (v := M 1000000 (i + 4)) rfl ?_
  refine y_bool (t0 := 1546) (t1 := 1547) rfl rfl rfl rfl ?_
  refine y_blk (t := 1547) rfl (show fnd bk_L_law 1547 = some _ from rfl) aB_L_law ?_
  refine y_callW (as := [(0, M 1000000 (i + 1)), (0, M 1000000 (i + 2)), (0, M 1000000 (i + 3)), (0, bo (M 1000000 (i + 4)))]) (S1 := []) (Nat.le_of_ble_eq_true rfl) (by decide) r1 (Nat.le_of_ble_eq_true rfl) rfl (show ash 0 = (11, 15) from rfl) h0 (Nat.le_of_ble_eq_true rfl) (Nat.le_of_ble_eq_true rfl) rfl ?_
  refine wp_aload_n (v := ((138 : Nat) : Int)) rfl (Int.natCast_nonneg _) ?_
  refine y_arg (k := 1) rfl (by decide) hi1 hl1 (v := M 1000000 (i + 1)) (by rw [e1]) ?_
  refine y_arg (k := 2) rfl (by decide) hi1 hl1 (v := M 1000000 (i + 2)) (by rw [e1]) ?_
  refine y_arg (k := 3) rfl (by decide) hi1 hl1 (v := M 1000000 (i + 3)) (by rw [e1]) ?_
  refine y_arg (k := 4) rfl (by decide) hi1 hl1 (v := M 1000000 (i + 4)) (by rw [e1]) ?_
  refine y_bool (t0 := 1582) (t1 := 1583) rfl rfl rfl rfl ?_
  refine y_blk (t := 1583) rfl (show fnd bk_L_law 1583 = some _ from rfl) aB_L_law ?_
  refine y_callW (as := [(0, M 1000000 (i + 1)), (0, M 1000000 (i + 2)), (0, M 1000000 (i + 3)), (0, bo (M 1000000 (i + 4)))]) (S1 := [(1, x)]) (Nat.le_of_ble_eq_true rfl) (by decide) r2 (Nat.le_of_ble_eq_true rfl) rfl (show ash 138 = (13, 38) from rfl) h138 (Nat.le_of_ble_eq_true rfl) (Nat.le_of_ble_eq_true rfl) rfl ?_
  refine wp_lcmp ?_
  refine wp_if_eq (fun _ => y_to rfl (K M2 T2 kp u5 u6)) (fun c => absurd ?_ c)
  show (if x < x then (1 : Int) else if x = x then 0 else -1) = 0
  rw [if_neg (Int.lt_irrefl x), if_pos rfl]
theorem lw_42 (h : Lst T M A st) (hi : (i : Int) + 6 ≤ M 1000000 5000) (hl : M 1000000 5000 ≤ 3072) (K : ∀ M2 T2, Kp T T2 M M2 → ∀ u5 u6 : aV, Wp 17 334 2026 [] [(2, 1000000), (2, ((0 : Nat) : Int)), (2, ((138 : Nat) : Int)), (2, ((153 : Nat) : Int)), (0, (i : Int)), u5, u6] [] (M2, T2) Q) : Wp 17 334 1592 [] [(2, 1000000), (2, ((0 : Nat) : Int)), (2, ((138 : Nat) : Int)), (2, ((153 : Nat) : Int)), (0, (i : Int)), u5, u6] [] (M, T) Q := by
  have h0 : 0 < T.1 := Nat.lt_of_lt_of_le (show 0 < 154 by decide) h.1.1.1
  have h138 : 138 < T.1 := Nat.lt_of_lt_of_le (show 138 < 154 by decide) h.1.1.1
  obtain ⟨x, M1, M2, T2, r1, r2, e1, kp⟩ := tw_mean h (M 1000000 (i + 1)) (bo (M 1000000 (i + 2)))
  have hi1 : (i : Int) + 6 ≤ M1 1000000 5000 := by rw [e1]; exact hi
  have hl1 : M1 1000000 5000 ≤ 3072 := by rw [e1]; exact hl
  refine y_blk (t := 1592) rfl (show fnd bk_L_law 1592 = some _ from rfl) aB_L_law ?_
  refine wp_aload_n (v := ((0 : Nat) : Int)) rfl (Int.natCast_nonneg _) ?_
  refine y_arg (k := 1) rfl (by decide) hi hl (v := M 1000000 (i + 1)) rfl ?_
  refine y_arg (k := 2) rfl (by decide) hi hl (v := M 1000000 (i + 2)) rfl ?_
  refine y_bool (t0 := 1612) (t1 := 1613) rfl rfl rfl rfl ?_
  refine y_blk (t := 1613) rfl (show fnd bk_L_law 1613 = some _ from rfl) aB_L_law ?_
  refine y_callW (as := [(0, M 1000000 (i + 1)), (0, bo (M 1000000 (i + 2)))]) (S1 := []) (Nat.le_of_ble_eq_true rfl) (by decide) r1 (Nat.le_of_ble_eq_true rfl) rfl (show ash 0 = (11, 15) from rfl) h0 (Nat.le_of_ble_eq_true rfl) (Nat.le_of_ble_eq_true rfl) rfl ?_
  refine wp_aload_n (v := ((138 : Nat) : Int)) rfl (Int.natCast_nonneg _) ?_
  refine y_arg (k := 1) rfl (by decide) hi1 hl1 (v := M 1000000 (i + 1)) (by rw [e1]) ?_
  refine y_arg (k := 2) rfl (by decide) hi1 hl1 (v := M 1000000 (i + 2)) (by rw [e1]) ?_
  refine y_bool (t0 := 1636) (t1 := 1637) rfl rfl rfl rfl ?_
  refine y_blk (t := 1637) rfl (show fnd bk_L_law 1637 = some _ from rfl) aB_L_law ?_
  refine y_callW (as := [(0, M 1000000 (i + 1)), (0, bo (M 1000000 (i + 2)))]) (S1 := [(1, x)]) (Nat.le_of_ble_eq_true rfl) (by decide) r2 (Nat.le_of_ble_eq_true rfl) rfl (show ash 138 = (13, 38) from rfl) h138 (Nat.le_of_ble_eq_true rfl) (Nat.le_of_ble_eq_true rfl) rfl ?_
  refine wp_lcmp ?_
  refine wp_if_eq (fun _ => y_to rfl (K M2 T2 kp u5 u6)) (fun c => absurd ?_ c)
  show (if x < x then (1 : Int) else if x = x then 0 else -1) = 0
  rw [if_neg (Int.lt_irrefl x), if_pos rfl]
theorem lw_43 (h : Lst T M A st) (hi : (i : Int) + 6 ≤ M 1000000 5000) (hl : M 1000000 5000 ≤ 3072) (K : ∀ M2 T2, Kp T T2 M M2 → ∀ u5 u6 : aV, Wp 17 334 2026 [] [(2, 1000000), (2, ((0 : Nat) : Int)), (2, ((138 : Nat) : Int)), (2, ((153 : Nat) : Int)), (0, (i : Int)), u5, u6] [] (M2, T2) Q) : Wp 17 334 1646 [] [(2, 1000000), (2, ((0 : Nat) : Int)), (2, ((138 : Nat) : Int)), (2, ((153 : Nat) : Int)), (0, (i : Int)), u5, u6] [] (M, T) Q := by
  have h0 : 0 < T.1 := Nat.lt_of_lt_of_le (show 0 < 154 by decide) h.1.1.1
  have h138 : 138 < T.1 := Nat.lt_of_lt_of_le (show 138 < 154 by decide) h.1.1.1
  obtain ⟨x, M1, M2, T2, r1, r2, e1, kp⟩ := tw_farBy h (M 1000000 (i + 1)) (M 1000000 (i + 2)) (M 1000000 (i + 3))
  have hi1 : (i : Int) + 6 ≤ M1 1000000 5000 := by rw [e1]; exact hi
  have hl1 : M1 1000000 5000 ≤ 3072 := by rw [e1]; exact hl
  refine y_blk (t := 1646) rfl (show fnd bk_L_law 1646 = some _ from rfl) aB_L_law ?_
  refine wp_aload_n (v := ((0 : Nat) : Int)) rfl (Int.natCast_nonneg _) ?_
  refine y_arg (k := 1) rfl (by decide) hi hl (v := M 1000000 (i + 1)) rfl ?_
  refine y_arg (k := 2) rfl (by decide) hi hl (v := M 1000000 (i + 2)) rfl ?_
  refine y_arg (k := 3) rfl (by decide) hi hl (v := M 1000000 (i + 3)) rfl ?_
  refine y_callW (as := [(0, M 1000000 (i + 1)), (0, M 1000000 (i + 2)), (0, M 1000000 (i + 3))]) (S1 := []) (Nat.le_of_ble_eq_true rfl) (by decide) r1 (Nat.le_of_ble_eq_true rfl) rfl (show ash 0 = (11, 15) from rfl) h0 (Nat.le_of_ble_eq_true rfl) (Nat.le_of_ble_eq_true rfl) rfl ?_
  refine wp_aload_n (v := ((138 : Nat) : Int)) rfl (Int.natCast_nonneg _) ?_
  refine y_arg (k := 1) rfl (by decide) hi1 hl1 (v := M 1000000 (i + 1)) (by rw [e1]) ?_
  refine y_arg (k := 2) rfl (by decide) hi1 hl1 (v := M 1000000 (i + 2)) (by rw [e1]) ?_
  refine y_arg (k := 3) rfl (by decide) hi1 hl1 (v := M 1000000 (i + 3)) (by rw [e1]) ?_
  refine y_callW (as := [(0, M 1000000 (i + 1)), (0, M 1000000 (i + 2)), (0, M 1000000 (i + 3))]) (S1 := [(0, x)]) (Nat.le_of_ble_eq_true rfl) (by decide) r2 (Nat.le_of_ble_eq_true rfl) rfl (show ash 138 = (13, 38) from rfl) h138 (Nat.le_of_ble_eq_true rfl) (Nat.le_of_ble_eq_true rfl) rfl ?_
  exact wp_icmp_eq (fun _ => y_to rfl (K M2 T2 kp u5 u6)) (fun c => absurd rfl c)
theorem lw_44 (h : Lst T M A st) (hi : (i : Int) + 6 ≤ M 1000000 5000) (hl : M 1000000 5000 ≤ 3072) (K : ∀ M2 T2, Kp T T2 M M2 → ∀ u5 u6 : aV, Wp 17 334 2026 [] [(2, 1000000), (2, ((0 : Nat) : Int)), (2, ((138 : Nat) : Int)), (2, ((153 : Nat) : Int)), (0, (i : Int)), u5, u6] [] (M2, T2) Q) : Wp 17 334 1695 [] [(2, 1000000), (2, ((0 : Nat) : Int)), (2, ((138 : Nat) : Int)), (2, ((153 : Nat) : Int)), (0, (i : Int)), u5, u6] [] (M, T) Q := by
  have h0 : 0 < T.1 := Nat.lt_of_lt_of_le (show 0 < 154 by decide) h.1.1.1
  have h138 : 138 < T.1 := Nat.lt_of_lt_of_le (show 138 < 154 by decide) h.1.1.1
  obtain ⟨x, M1, M2, T2, r1, r2, e1, kp⟩ := tw_open h (M 1000000 (i + 1)) (M 1000000 (i + 2)) (M 1000000 (i + 3)) (M 1000000 (i + 4))
  have hi1 : (i : Int) + 6 ≤ M1 1000000 5000 := by rw [e1]; exact hi
  have hl1 : M1 1000000 5000 ≤ 3072 := by rw [e1]; exact hl
  refine y_blk (t := 1695) rfl (show fnd bk_L_law 1695 = some _ from rfl) aB_L_law ?_
  refine wp_aload_n (v := ((0 : Nat) : Int)) rfl (Int.natCast_nonneg _) ?_
  refine y_arg (k := 1) rfl (by decide) hi hl (v := M 1000000 (i + 1)) rfl ?_
  refine y_arg (k := 2) rfl (by decide) hi hl (v := M 1000000 (i + 2)) rfl ?_
  refine y_arg (k := 3) rfl (by decide) hi hl (v := M 1000000 (i + 3)) rfl ?_
  refine y_arg (k := 4) rfl (by decide) hi hl (v := M 1000000 (i + 4)) rfl ?_
  refine y_callW (as := [(0, M 1000000 (i + 1)), (0, M 1000000 (i + 2)), (0, M 1000000 (i + 3)), (0, M 1000000 (i + 4))]) (S1 := []) (Nat.le_of_ble_eq_true rfl) (by decide) r1 (Nat.le_of_ble_eq_true rfl) rfl (show ash 0 = (11, 15) from rfl) h0 (Nat.le_of_ble_eq_true rfl) (Nat.le_of_ble_eq_true rfl) rfl ?_
  refine wp_aload_n (v := ((138 : Nat) : Int)) rfl (Int.natCast_nonneg _) ?_
  refine y_arg (k := 1) rfl (by decide) hi1 hl1 (v := M 1000000 (i + 1)) (by rw [e1]) ?_
  refine y_arg (k := 2) rfl (by decide) hi1 hl1 (v := M 1000000 (i + 2)) (by rw [e1]) ?_
  refine y_arg (k := 3) rfl (by decide) hi1 hl1 (v := M 1000000 (i + 3)) (by rw [e1]) ?_
  refine y_arg (k := 4) rfl (by decide) hi1 hl1 (v := M 1000000 (i + 4)) (by rw [e1]) ?_
  refine y_callW (as := [(0, M 1000000 (i + 1)), (0, M 1000000 (i + 2)), (0, M 1000000 (i + 3)), (0, M 1000000 (i + 4))]) (S1 := [(0, x)]) (Nat.le_of_ble_eq_true rfl) (by decide) r2 (Nat.le_of_ble_eq_true rfl) rfl (show ash 138 = (13, 38) from rfl) h138 (Nat.le_of_ble_eq_true rfl) (Nat.le_of_ble_eq_true rfl) rfl ?_
  exact wp_icmp_eq (fun _ => y_to rfl (K M2 T2 kp u5 u6)) (fun c => absurd rfl c)
theorem lw_45 (h : Lst T M A st) (hi : (i : Int) + 6 ≤ M 1000000 5000) (hl : M 1000000 5000 ≤ 3072) (K : ∀ M2 T2, Kp T T2 M M2 → ∀ u5 u6 : aV, Wp 17 334 2026 [] [(2, 1000000), (2, ((0 : Nat) : Int)), (2, ((138 : Nat) : Int)), (2, ((153 : Nat) : Int)), (0, (i : Int)), u5, u6] [] (M2, T2) Q) : Wp 17 334 1756 [] [(2, 1000000), (2, ((0 : Nat) : Int)), (2, ((138 : Nat) : Int)), (2, ((153 : Nat) : Int)), (0, (i : Int)), u5, u6] [] (M, T) Q := by
  have h0 : 0 < T.1 := Nat.lt_of_lt_of_le (show 0 < 154 by decide) h.1.1.1
  have h138 : 138 < T.1 := Nat.lt_of_lt_of_le (show 138 < 154 by decide) h.1.1.1
  obtain ⟨x, M1, M2, T2, r1, r2, e1, kp⟩ := tw_year h
  have hi1 : (i : Int) + 6 ≤ M1 1000000 5000 := by rw [e1]; exact hi
  have hl1 : M1 1000000 5000 ≤ 3072 := by rw [e1]; exact hl
  refine y_blk (t := 1756) rfl (show fnd bk_L_law 1756 = some _ from rfl) aB_L_law ?_
  refine wp_aload_n (v := ((0 : Nat) : Int)) rfl (Int.natCast_nonneg _) ?_
  refine y_callW (as := []) (S1 := []) (Nat.le_of_ble_eq_true rfl) (by decide) r1 (Nat.le_of_ble_eq_true rfl) rfl (show ash 0 = (11, 15) from rfl) h0 (Nat.le_of_ble_eq_true rfl) (Nat.le_of_ble_eq_true rfl) rfl ?_
  refine wp_aload_n (v := ((138 : Nat) : Int)) rfl (Int.natCast_nonneg _) ?_
  refine y_callW (as := []) (S1 := [(0, x)]) (Nat.le_of_ble_eq_true rfl) (by decide) r2 (Nat.le_of_ble_eq_true rfl) rfl (show ash 138 = (13, 38) from rfl) h138 (Nat.le_of_ble_eq_true rfl) (Nat.le_of_ble_eq_true rfl) rfl ?_
  exact wp_icmp_eq (fun _ => y_to rfl (K M2 T2 kp u5 u6)) (fun c => absurd rfl c)
theorem lw_46 (h : Lst T M A st) (hi : (i : Int) + 6 ≤ M 1000000 5000) (hl : M 1000000 5000 ≤ 3072) (K : ∀ M2 T2, Kp T T2 M M2 → ∀ u5 u6 : aV, Wp 17 334 2026 [] [(2, 1000000), (2, ((0 : Nat) : Int)), (2, ((138 : Nat) : Int)), (2, ((153 : Nat) : Int)), (0, (i : Int)), u5, u6] [] (M2, T2) Q) : Wp 17 334 1769 [] [(2, 1000000), (2, ((0 : Nat) : Int)), (2, ((138 : Nat) : Int)), (2, ((153 : Nat) : Int)), (0, (i : Int)), u5, u6] [] (M, T) Q := by
  have h0 : 0 < T.1 := Nat.lt_of_lt_of_le (show 0 < 154 by decide) h.1.1.1
  have h138 : 138 < T.1 := Nat.lt_of_lt_of_le (show 138 < 154 by decide) h.1.1.1
  obtain ⟨x, M1, M2, T2, r1, r2, e1, kp⟩ := tw_call h (M 1000000 (i + 1))
  have hi1 : (i : Int) + 6 ≤ M1 1000000 5000 := by rw [e1]; exact hi
  have hl1 : M1 1000000 5000 ≤ 3072 := by rw [e1]; exact hl
  refine y_blk (t := 1769) rfl (show fnd bk_L_law 1769 = some _ from rfl) aB_L_law ?_
  refine wp_aload_n (v := ((0 : Nat) : Int)) rfl (Int.natCast_nonneg _) ?_
  refine y_arg (k := 1) rfl (by decide) hi hl (v := M 1000000 (i + 1)) rfl ?_
  refine y_callW (as := [(0, M 1000000 (i + 1))]) (S1 := []) (Nat.le_of_ble_eq_true rfl) (by decide) r1 (Nat.le_of_ble_eq_true rfl) rfl (show ash 0 = (11, 15) from rfl) h0 (Nat.le_of_ble_eq_true rfl) (Nat.le_of_ble_eq_true rfl) rfl ?_
  refine wp_aload_n (v := ((138 : Nat) : Int)) rfl (Int.natCast_nonneg _) ?_
  refine y_arg (k := 1) rfl (by decide) hi1 hl1 (v := M 1000000 (i + 1)) (by rw [e1]) ?_
  refine y_callW (as := [(0, M 1000000 (i + 1))]) (S1 := [(0, x)]) (Nat.le_of_ble_eq_true rfl) (by decide) r2 (Nat.le_of_ble_eq_true rfl) rfl (show ash 138 = (13, 38) from rfl) h138 (Nat.le_of_ble_eq_true rfl) (Nat.le_of_ble_eq_true rfl) rfl ?_
  exact wp_icmp_eq (fun _ => y_to rfl (K M2 T2 kp u5 u6)) (fun c => absurd rfl c)
theorem lw_47 (h : Lst T M A st) (hi : (i : Int) + 6 ≤ M 1000000 5000) (hl : M 1000000 5000 ≤ 3072) (K : ∀ M2 T2, Kp T T2 M M2 → ∀ u5 u6 : aV, Wp 17 334 2026 [] [(2, 1000000), (2, ((0 : Nat) : Int)), (2, ((138 : Nat) : Int)), (2, ((153 : Nat) : Int)), (0, (i : Int)), u5, u6] [] (M2, T2) Q) : Wp 17 334 1794 [] [(2, 1000000), (2, ((0 : Nat) : Int)), (2, ((138 : Nat) : Int)), (2, ((153 : Nat) : Int)), (0, (i : Int)), u5, u6] [] (M, T) Q := by
  have h0 : 0 < T.1 := Nat.lt_of_lt_of_le (show 0 < 154 by decide) h.1.1.1
  have h138 : 138 < T.1 := Nat.lt_of_lt_of_le (show 138 < 154 by decide) h.1.1.1
  obtain ⟨x, M1, M2, T2, r1, r2, e1, kp⟩ := tw_walk h (M 1000000 (i + 1)) (M 1000000 (i + 2))
  have hi1 : (i : Int) + 6 ≤ M1 1000000 5000 := by rw [e1]; exact hi
  have hl1 : M1 1000000 5000 ≤ 3072 := by rw [e1]; exact hl
  refine y_blk (t := 1794) rfl (show fnd bk_L_law 1794 = some _ from rfl) aB_L_law ?_
  refine wp_aload_n (v := ((0 : Nat) : Int)) rfl (Int.natCast_nonneg _) ?_
  refine y_arg (k := 1) rfl (by decide) hi hl (v := M 1000000 (i + 1)) rfl ?_
  refine y_arg (k := 2) rfl (by decide) hi hl (v := M 1000000 (i + 2)) rfl ?_
  refine y_callW (as := [(0, M 1000000 (i + 1)), (0, M 1000000 (i + 2))]) (S1 := []) (Nat.le_of_ble_eq_true rfl) (by decide) r1 (Nat.le_of_ble_eq_true rfl) rfl (show ash 0 = (11, 15) from rfl) h0 (Nat.le_of_ble_eq_true rfl) (Nat.le_of_ble_eq_true rfl) rfl ?_
  refine wp_aload_n (v := ((138 : Nat) : Int)) rfl (Int.natCast_nonneg _) ?_
  refine y_arg (k := 1) rfl (by decide) hi1 hl1 (v := M 1000000 (i + 1)) (by rw [e1]) ?_
  refine y_arg (k := 2) rfl (by decide) hi1 hl1 (v := M 1000000 (i + 2)) (by rw [e1]) ?_
  refine y_callW (as := [(0, M 1000000 (i + 1)), (0, M 1000000 (i + 2))]) (S1 := [(0, x)]) (Nat.le_of_ble_eq_true rfl) (by decide) r2 (Nat.le_of_ble_eq_true rfl) rfl (show ash 138 = (13, 38) from rfl) h138 (Nat.le_of_ble_eq_true rfl) (Nat.le_of_ble_eq_true rfl) rfl ?_
  exact wp_icmp_eq (fun _ => y_to rfl (K M2 T2 kp u5 u6)) (fun c => absurd rfl c)
theorem lw_48 (h : Lst T M A st) (hi : (i : Int) + 6 ≤ M 1000000 5000) (hl : M 1000000 5000 ≤ 3072) (K : ∀ M2 T2, Kp T T2 M M2 → ∀ u5 u6 : aV, Wp 17 334 2026 [] [(2, 1000000), (2, ((0 : Nat) : Int)), (2, ((138 : Nat) : Int)), (2, ((153 : Nat) : Int)), (0, (i : Int)), u5, u6] [] (M2, T2) Q) : Wp 17 334 1831 [] [(2, 1000000), (2, ((0 : Nat) : Int)), (2, ((138 : Nat) : Int)), (2, ((153 : Nat) : Int)), (0, (i : Int)), u5, u6] [] (M, T) Q := by
  have h0 : 0 < T.1 := Nat.lt_of_lt_of_le (show 0 < 154 by decide) h.1.1.1
  have h138 : 138 < T.1 := Nat.lt_of_lt_of_le (show 138 < 154 by decide) h.1.1.1
  obtain ⟨x, M1, M2, T2, r1, r2, e1, kp⟩ := tw_dig h (M 1000000 (i + 1))
  have hi1 : (i : Int) + 6 ≤ M1 1000000 5000 := by rw [e1]; exact hi
  have hl1 : M1 1000000 5000 ≤ 3072 := by rw [e1]; exact hl
  refine y_blk (t := 1831) rfl (show fnd bk_L_law 1831 = some _ from rfl) aB_L_law ?_
  refine wp_aload_n (v := ((0 : Nat) : Int)) rfl (Int.natCast_nonneg _) ?_
  refine y_arg (k := 1) rfl (by decide) hi hl (v := M 1000000 (i + 1)) rfl ?_
  refine y_callW (as := [(0, M 1000000 (i + 1))]) (S1 := []) (Nat.le_of_ble_eq_true rfl) (by decide) r1 (Nat.le_of_ble_eq_true rfl) rfl (show ash 0 = (11, 15) from rfl) h0 (Nat.le_of_ble_eq_true rfl) (Nat.le_of_ble_eq_true rfl) rfl ?_
  refine wp_aload_n (v := ((138 : Nat) : Int)) rfl (Int.natCast_nonneg _) ?_
  refine y_arg (k := 1) rfl (by decide) hi1 hl1 (v := M 1000000 (i + 1)) (by rw [e1]) ?_
  refine y_callW (as := [(0, M 1000000 (i + 1))]) (S1 := [(0, x)]) (Nat.le_of_ble_eq_true rfl) (by decide) r2 (Nat.le_of_ble_eq_true rfl) rfl (show ash 138 = (13, 38) from rfl) h138 (Nat.le_of_ble_eq_true rfl) (Nat.le_of_ble_eq_true rfl) rfl ?_
  exact wp_icmp_eq (fun _ => y_to rfl (K M2 T2 kp u5 u6)) (fun c => absurd rfl c)
theorem lw_49 (h : Lst T M A st) (hi : (i : Int) + 6 ≤ M 1000000 5000) (hl : M 1000000 5000 ≤ 3072) (K : ∀ M2 T2, Kp T T2 M M2 → ∀ u5 u6 : aV, Wp 17 334 2026 [] [(2, 1000000), (2, ((0 : Nat) : Int)), (2, ((138 : Nat) : Int)), (2, ((153 : Nat) : Int)), (0, (i : Int)), u5, u6] [] (M2, T2) Q) : Wp 17 334 1856 [] [(2, 1000000), (2, ((0 : Nat) : Int)), (2, ((138 : Nat) : Int)), (2, ((153 : Nat) : Int)), (0, (i : Int)), u5, u6] [] (M, T) Q := by
  have h0 : 0 < T.1 := Nat.lt_of_lt_of_le (show 0 < 154 by decide) h.1.1.1
  have h138 : 138 < T.1 := Nat.lt_of_lt_of_le (show 138 < 154 by decide) h.1.1.1
  obtain ⟨x, M1, M2, T2, r1, r2, e1, kp⟩ := tw_flood h (M 1000000 (i + 1))
  have hi1 : (i : Int) + 6 ≤ M1 1000000 5000 := by rw [e1]; exact hi
  have hl1 : M1 1000000 5000 ≤ 3072 := by rw [e1]; exact hl
  refine y_blk (t := 1856) rfl (show fnd bk_L_law 1856 = some _ from rfl) aB_L_law ?_
  refine wp_aload_n (v := ((0 : Nat) : Int)) rfl (Int.natCast_nonneg _) ?_
  refine y_arg (k := 1) rfl (by decide) hi hl (v := M 1000000 (i + 1)) rfl ?_
  refine y_callW (as := [(0, M 1000000 (i + 1))]) (S1 := []) (Nat.le_of_ble_eq_true rfl) (by decide) r1 (Nat.le_of_ble_eq_true rfl) rfl (show ash 0 = (11, 15) from rfl) h0 (Nat.le_of_ble_eq_true rfl) (Nat.le_of_ble_eq_true rfl) rfl ?_
  refine wp_aload_n (v := ((138 : Nat) : Int)) rfl (Int.natCast_nonneg _) ?_
  refine y_arg (k := 1) rfl (by decide) hi1 hl1 (v := M 1000000 (i + 1)) (by rw [e1]) ?_
  refine y_callW (as := [(0, M 1000000 (i + 1))]) (S1 := [(0, x)]) (Nat.le_of_ble_eq_true rfl) (by decide) r2 (Nat.le_of_ble_eq_true rfl) rfl (show ash 138 = (13, 38) from rfl) h138 (Nat.le_of_ble_eq_true rfl) (Nat.le_of_ble_eq_true rfl) rfl ?_
  exact wp_icmp_eq (fun _ => y_to rfl (K M2 T2 kp u5 u6)) (fun c => absurd rfl c)
theorem lw_50 (h : Lst T M A st) (hi : (i : Int) + 6 ≤ M 1000000 5000) (hl : M 1000000 5000 ≤ 3072) (K : ∀ M2 T2, Kp T T2 M M2 → ∀ u5 u6 : aV, Wp 17 334 2026 [] [(2, 1000000), (2, ((0 : Nat) : Int)), (2, ((138 : Nat) : Int)), (2, ((153 : Nat) : Int)), (0, (i : Int)), u5, u6] [] (M2, T2) Q) : Wp 17 334 1881 [] [(2, 1000000), (2, ((0 : Nat) : Int)), (2, ((138 : Nat) : Int)), (2, ((153 : Nat) : Int)), (0, (i : Int)), u5, u6] [] (M, T) Q := by
  have h0 : 0 < T.1 := Nat.lt_of_lt_of_le (show 0 < 154 by decide) h.1.1.1
  have h138 : 138 < T.1 := Nat.lt_of_lt_of_le (show 138 < 154 by decide) h.1.1.1
  obtain ⟨x, M1, M2, T2, r1, r2, e1, kp⟩ := tw_undo h
  have hi1 : (i : Int) + 6 ≤ M1 1000000 5000 := by rw [e1]; exact hi
  have hl1 : M1 1000000 5000 ≤ 3072 := by rw [e1]; exact hl
  refine y_blk (t := 1881) rfl (show fnd bk_L_law 1881 = some _ from rfl) aB_L_law ?_
  refine wp_aload_n (v := ((0 : Nat) : Int)) rfl (Int.natCast_nonneg _) ?_
  refine y_callW (as := []) (S1 := []) (Nat.le_of_ble_eq_true rfl) (by decide) r1 (Nat.le_of_ble_eq_true rfl) rfl (show ash 0 = (11, 15) from rfl) h0 (Nat.le_of_ble_eq_true rfl) (Nat.le_of_ble_eq_true rfl) rfl ?_
  refine wp_aload_n (v := ((138 : Nat) : Int)) rfl (Int.natCast_nonneg _) ?_
  refine y_callW (as := []) (S1 := [(0, x)]) (Nat.le_of_ble_eq_true rfl) (by decide) r2 (Nat.le_of_ble_eq_true rfl) rfl (show ash 138 = (13, 38) from rfl) h138 (Nat.le_of_ble_eq_true rfl) (Nat.le_of_ble_eq_true rfl) rfl ?_
  exact wp_icmp_eq (fun _ => y_to rfl (K M2 T2 kp u5 u6)) (fun c => absurd rfl c)
theorem lw_51 (h : Lst T M A st) (hi : (i : Int) + 6 ≤ M 1000000 5000) (hl : M 1000000 5000 ≤ 3072) (K : ∀ M2 T2, Kp T T2 M M2 → ∀ u5 u6 : aV, Wp 17 334 2026 [] [(2, 1000000), (2, ((0 : Nat) : Int)), (2, ((138 : Nat) : Int)), (2, ((153 : Nat) : Int)), (0, (i : Int)), u5, u6] [] (M2, T2) Q) : Wp 17 334 1894 [] [(2, 1000000), (2, ((0 : Nat) : Int)), (2, ((138 : Nat) : Int)), (2, ((153 : Nat) : Int)), (0, (i : Int)), u5, u6] [] (M, T) Q := by
  have h0 : 0 < T.1 := Nat.lt_of_lt_of_le (show 0 < 154 by decide) h.1.1.1
  have h138 : 138 < T.1 := Nat.lt_of_lt_of_le (show 138 < 154 by decide) h.1.1.1
  obtain ⟨x, M1, M2, T2, r1, r2, e1, kp⟩ := tw_image h
  have hi1 : (i : Int) + 6 ≤ M1 1000000 5000 := by rw [e1]; exact hi
  have hl1 : M1 1000000 5000 ≤ 3072 := by rw [e1]; exact hl
  refine y_blk (t := 1894) rfl (show fnd bk_L_law 1894 = some _ from rfl) aB_L_law ?_
  refine wp_aload_n (v := ((0 : Nat) : Int)) rfl (Int.natCast_nonneg _) ?_
  refine y_callW (as := []) (S1 := []) (Nat.le_of_ble_eq_true rfl) (by decide) r1 (Nat.le_of_ble_eq_true rfl) rfl (show ash 0 = (11, 15) from rfl) h0 (Nat.le_of_ble_eq_true rfl) (Nat.le_of_ble_eq_true rfl) rfl ?_
  refine wp_aload_n (v := ((138 : Nat) : Int)) rfl (Int.natCast_nonneg _) ?_
  refine y_callW (as := []) (S1 := [(0, x)]) (Nat.le_of_ble_eq_true rfl) (by decide) r2 (Nat.le_of_ble_eq_true rfl) rfl (show ash 138 = (13, 38) from rfl) h138 (Nat.le_of_ble_eq_true rfl) (Nat.le_of_ble_eq_true rfl) rfl ?_
  exact wp_icmp_eq (fun _ => y_to rfl (K M2 T2 kp u5 u6)) (fun c => absurd rfl c)
theorem lw_52 (h : Lst T M A st) (hi : (i : Int) + 6 ≤ M 1000000 5000) (hl : M 1000000 5000 ≤ 3072) (K : ∀ M2 T2, Kp T T2 M M2 → ∀ u5 u6 : aV, Wp 17 334 2026 [] [(2, 1000000), (2, ((0 : Nat) : Int)), (2, ((138 : Nat) : Int)), (2, ((153 : Nat) : Int)), (0, (i : Int)), u5, u6] [] (M2, T2) Q) : Wp 17 334 1907 [] [(2, 1000000), (2, ((0 : Nat) : Int)), (2, ((138 : Nat) : Int)), (2, ((153 : Nat) : Int)), (0, (i : Int)), u5, u6] [] (M, T) Q := by
  have h0 : 0 < T.1 := Nat.lt_of_lt_of_le (show 0 < 154 by decide) h.1.1.1
  have h138 : 138 < T.1 := Nat.lt_of_lt_of_le (show 138 < 154 by decide) h.1.1.1
  obtain ⟨x, M1, M2, T2, r1, r2, e1, kp⟩ := tw_back h (M 1000000 (i + 1))
  have hi1 : (i : Int) + 6 ≤ M1 1000000 5000 := by rw [e1]; exact hi
  have hl1 : M1 1000000 5000 ≤ 3072 := by rw [e1]; exact hl
  refine y_blk (t := 1907) rfl (show fnd bk_L_law 1907 = some _ from rfl) aB_L_law ?_
  refine wp_aload_n (v := ((0 : Nat) : Int)) rfl (Int.natCast_nonneg _) ?_
  refine y_arg (k := 1) rfl (by decide) hi hl (v := M 1000000 (i + 1)) rfl ?_
  refine y_callW (as := [(0, M 1000000 (i + 1))]) (S1 := []) (Nat.le_of_ble_eq_true rfl) (by decide) r1 (Nat.le_of_ble_eq_true rfl) rfl (show ash 0 = (11, 15) from rfl) h0 (Nat.le_of_ble_eq_true rfl) (Nat.le_of_ble_eq_true rfl) rfl ?_
  refine wp_aload_n (v := ((138 : Nat) : Int)) rfl (Int.natCast_nonneg _) ?_
  refine y_arg (k := 1) rfl (by decide) hi1 hl1 (v := M 1000000 (i + 1)) (by rw [e1]) ?_
  refine y_callW (as := [(0, M 1000000 (i + 1))]) (S1 := [(0, x)]) (Nat.le_of_ble_eq_true rfl) (by decide) r2 (Nat.le_of_ble_eq_true rfl) rfl (show ash 138 = (13, 38) from rfl) h138 (Nat.le_of_ble_eq_true rfl) (Nat.le_of_ble_eq_true rfl) rfl ?_
  exact wp_icmp_eq (fun _ => y_to rfl (K M2 T2 kp u5 u6)) (fun c => absurd rfl c)
theorem lw_54 (h : Lst T M A st) (hi : (i : Int) + 6 ≤ M 1000000 5000) (hl : M 1000000 5000 ≤ 3072) (K : ∀ M2 T2, Kp T T2 M M2 → ∀ u5 u6 : aV, Wp 17 334 2026 [] [(2, 1000000), (2, ((0 : Nat) : Int)), (2, ((138 : Nat) : Int)), (2, ((153 : Nat) : Int)), (0, (i : Int)), u5, u6] [] (M2, T2) Q) : Wp 17 334 1988 [] [(2, 1000000), (2, ((0 : Nat) : Int)), (2, ((138 : Nat) : Int)), (2, ((153 : Nat) : Int)), (0, (i : Int)), u5, u6] [] (M, T) Q := by
  have h0 : 0 < T.1 := Nat.lt_of_lt_of_le (show 0 < 154 by decide) h.1.1.1
  have h138 : 138 < T.1 := Nat.lt_of_lt_of_le (show 138 < 154 by decide) h.1.1.1
  obtain ⟨x, M1, M2, T2, r1, r2, e1, kp⟩ := tw_size h (M 1000000 (i + 1))
  have hi1 : (i : Int) + 6 ≤ M1 1000000 5000 := by rw [e1]; exact hi
  have hl1 : M1 1000000 5000 ≤ 3072 := by rw [e1]; exact hl
  refine y_blk (t := 1988) rfl (show fnd bk_L_law 1988 = some _ from rfl) aB_L_law ?_
  refine wp_aload_n (v := ((0 : Nat) : Int)) rfl (Int.natCast_nonneg _) ?_
  refine y_arg (k := 1) rfl (by decide) hi hl (v := M 1000000 (i + 1)) rfl ?_
  refine y_callW (as := [(0, M 1000000 (i + 1))]) (S1 := []) (Nat.le_of_ble_eq_true rfl) (by decide) r1 (Nat.le_of_ble_eq_true rfl) rfl (show ash 0 = (11, 15) from rfl) h0 (Nat.le_of_ble_eq_true rfl) (Nat.le_of_ble_eq_true rfl) rfl ?_
  refine wp_aload_n (v := ((138 : Nat) : Int)) rfl (Int.natCast_nonneg _) ?_
  refine y_arg (k := 1) rfl (by decide) hi1 hl1 (v := M 1000000 (i + 1)) (by rw [e1]) ?_
  refine y_callW (as := [(0, M 1000000 (i + 1))]) (S1 := [(0, x)]) (Nat.le_of_ble_eq_true rfl) (by decide) r2 (Nat.le_of_ble_eq_true rfl) rfl (show ash 138 = (13, 38) from rfl) h138 (Nat.le_of_ble_eq_true rfl) (Nat.le_of_ble_eq_true rfl) rfl ?_
  exact wp_icmp_eq (fun _ => y_to rfl (K M2 T2 kp u5 u6)) (fun c => absurd rfl c)
theorem lw_55 (h : Lst T M A st) (hi : (i : Int) + 6 ≤ M 1000000 5000) (hl : M 1000000 5000 ≤ 3072) (K : ∀ M2 T2, Kp T T2 M M2 → ∀ u5 u6 : aV, Wp 17 334 2026 [] [(2, 1000000), (2, ((0 : Nat) : Int)), (2, ((138 : Nat) : Int)), (2, ((153 : Nat) : Int)), (0, (i : Int)), u5, u6] [] (M2, T2) Q) : Wp 17 334 2013 [] [(2, 1000000), (2, ((0 : Nat) : Int)), (2, ((138 : Nat) : Int)), (2, ((153 : Nat) : Int)), (0, (i : Int)), u5, u6] [] (M, T) Q := by
  have h0 : 0 < T.1 := Nat.lt_of_lt_of_le (show 0 < 154 by decide) h.1.1.1
  have h138 : 138 < T.1 := Nat.lt_of_lt_of_le (show 138 < 154 by decide) h.1.1.1
  obtain ⟨x, M1, M2, T2, r1, r2, e1, kp⟩ := tw_trouble h
  have hi1 : (i : Int) + 6 ≤ M1 1000000 5000 := by rw [e1]; exact hi
  have hl1 : M1 1000000 5000 ≤ 3072 := by rw [e1]; exact hl
  refine y_blk (t := 2013) rfl (show fnd bk_L_law 2013 = some _ from rfl) aB_L_law ?_
  refine wp_aload_n (v := ((0 : Nat) : Int)) rfl (Int.natCast_nonneg _) ?_
  refine y_callW (as := []) (S1 := []) (Nat.le_of_ble_eq_true rfl) (by decide) r1 (Nat.le_of_ble_eq_true rfl) rfl (show ash 0 = (11, 15) from rfl) h0 (Nat.le_of_ble_eq_true rfl) (Nat.le_of_ble_eq_true rfl) rfl ?_
  refine wp_aload_n (v := ((138 : Nat) : Int)) rfl (Int.natCast_nonneg _) ?_
  refine y_callW (as := []) (S1 := [(0, x)]) (Nat.le_of_ble_eq_true rfl) (by decide) r2 (Nat.le_of_ble_eq_true rfl) rfl (show ash 138 = (13, 38) from rfl) h138 (Nat.le_of_ble_eq_true rfl) (Nat.le_of_ble_eq_true rfl) rfl ?_
  exact wp_icmp_eq (fun _ => y_to rfl (K M2 T2 kp u5 u6)) (fun c => absurd rfl c)
theorem lw_53 (h : Lst T M A st) (hi : (i : Int) + 6 ≤ M 1000000 5000) (hl : M 1000000 5000 ≤ 3072) (K : ∀ M2 T2, Kp T T2 M M2 → ∀ u5 u6 : aV, Wp 17 334 2026 [] [(2, 1000000), (2, ((0 : Nat) : Int)), (2, ((138 : Nat) : Int)), (2, ((153 : Nat) : Int)), (0, (i : Int)), u5, u6] [] (M2, T2) Q) : Wp 17 334 1932 [] [(2, 1000000), (2, ((0 : Nat) : Int)), (2, ((138 : Nat) : Int)), (2, ((153 : Nat) : Int)), (0, (i : Int)), u5, u6] [] (M, T) Q := by
  have h0 : 0 < T.1 := Nat.lt_of_lt_of_le (show 0 < 154 by decide) h.1.1.1
  have h138 : 138 < T.1 := Nat.lt_of_lt_of_le (show 138 < 154 by decide) h.1.1.1
  have h153 : 153 < T.1 := Nat.lt_of_lt_of_le (show 153 < 154 by decide) h.1.1.1
  have hc : awd ([] : List aV) ≤ 8 ∧ aWr (M, T) ((153 : Nat) : Int) 102 ∧ 0 < (ash ((153 : Nat) : Int).toNat).2 ∧ aWr (M, T) ((0 : Nat) : Int) 11 ∧ 2 ≤ mL 167 ∧ 6 ≤ 15 := ⟨by decide, ⟨by decide, rfl, h153⟩, by decide, ⟨by decide, rfl, h0⟩, by decide +kernel, by decide⟩
  refine y_blk (t := 1932) rfl (show fnd bk_L_law 1932 = some _ from rfl) aB_L_law ?_
  refine wp_aload_n (v := ((0 : Nat) : Int)) rfl (Int.natCast_nonneg _) ?_
  refine y_arg (k := 1) rfl (by decide) hi hl (v := M 1000000 (i + 1)) rfl ?_
  refine wp_aload_n (v := ((153 : Nat) : Int)) rfl (Int.natCast_nonneg _) ?_
  rcases tw_led h (M 1000000 (i + 1)) with ⟨x, M2, r1, r2, o0, o1, kp⟩ | ⟨x, M2, r1, r2, o0, kp⟩
  · have hs : ∀ k, aup M 153 0 x 1000000 k = M 1000000 k := fun k => by rw [aup_nc (by decide)]
    have hth := t_X13_thrown (T := T) (y := M2 138 0) kp.1 rfl
    rw [o0] at hth
    refine y_led0 (d1 := 15) (r1 15 (by decide)) hc ?_
    refine y_st (L1 := [(2, 1000000), (2, ((0 : Nat) : Int)), (2, ((138 : Nat) : Int)), (2, ((153 : Nat) : Int)), (0, (i : Int)), (0, 0), u6]) (Nat.le_of_ble_eq_true rfl) (by first | rfl | exact aset_jk (q := 4) (u := (0, (i : Int))) rfl) ?_
    refine wp_aload_n (v := ((138 : Nat) : Int)) rfl (Int.natCast_nonneg _) ?_
    refine y_arg (k := 1) rfl (by decide) (by rw [hs]; exact hi) (by rw [hs]; exact hl) (v := M 1000000 (i + 1)) (hs _) ?_
    refine y_callW (as := [(0, M 1000000 (i + 1))]) (S1 := []) (Nat.le_of_ble_eq_true rfl) (by decide) r2 (Nat.le_of_ble_eq_true rfl) rfl (show ash 138 = (13, 38) from rfl) h138 (Nat.le_of_ble_eq_true rfl) (Nat.le_of_ble_eq_true rfl) rfl ?_
    refine y_st (L1 := [(2, 1000000), (2, ((0 : Nat) : Int)), (2, ((138 : Nat) : Int)), (2, ((153 : Nat) : Int)), (0, (i : Int)), (0, 0), (0, x)]) (Nat.le_of_ble_eq_true rfl) rfl ?_
    refine wp_aload_n (v := ((138 : Nat) : Int)) rfl (Int.natCast_nonneg _) ?_
    refine y_callV (as := []) (S1 := []) (Nat.le_of_ble_eq_true rfl) (by decide) hth (Nat.le_of_ble_eq_true rfl) rfl (show ash 138 = (13, 38) from rfl) h138 (Nat.le_of_ble_eq_true rfl) (Nat.le_of_ble_eq_true rfl) rfl ?_
    refine wp_iload (v := 0) rfl ?_
    refine wp_icmp_eq (fun _ => ?_) (fun c => absurd rfl c)
    refine y_blk (t := 1968) rfl (show fnd bk_L_law 1968 = some _ from rfl) aB_L_law ?_
    refine wp_iload (v := 0) rfl ?_
    refine y_nez (fun c => absurd rfl c) (fun _ => ?_)
    refine wp_aload_n (v := ((153 : Nat) : Int)) rfl (Int.natCast_nonneg _) ?_
    refine wp_iconst ⟨by decide, by decide⟩ ?_
    refine y_lald (show ash 153 = (102, 1) from rfl) h153 (by decide) ⟨by decide, by decide⟩ (v := x) o1 ?_
    refine wp_iload (v := x) rfl ?_
    refine wp_i2l ?_
    refine wp_lcmp ?_
    have e0 : alcmp x x = 0 := by
      show (if x < x then (1 : Int) else if x = x then 0 else -1) = 0
      rw [if_neg (Int.lt_irrefl x), if_pos rfl]
    refine wp_if_eq (fun _ => ?_) (fun c => absurd e0 c)
    refine y_blk (t := 1985) rfl (show fnd bk_L_law 1985 = some _ from rfl) aB_L_law ?_
    exact wp_goto (y_to rfl (K M2 T kp _ _))
  · have hth := t_X13_thrown (T := (T.1, T.2.1 + 1, T.2.2 + 6)) (y := M2 138 0) kp.1 rfl
    rw [o0] at hth
    refine y_led7 (d1 := 15) (r1 15 (by decide)) hc ?_
    refine y_st (L1 := [(2, 1000000), (2, ((0 : Nat) : Int)), (2, ((138 : Nat) : Int)), (2, ((153 : Nat) : Int)), (0, (i : Int)), (0, 1), u6]) (Nat.le_of_ble_eq_true rfl) (by first | rfl | exact aset_jk (q := 4) (u := (0, (i : Int))) rfl) ?_
    refine wp_aload_n (v := ((138 : Nat) : Int)) rfl (Int.natCast_nonneg _) ?_
    refine y_arg (k := 1) rfl (by decide) hi hl (v := M 1000000 (i + 1)) rfl ?_
    refine y_callW (as := [(0, M 1000000 (i + 1))]) (S1 := []) (Nat.le_of_ble_eq_true rfl) (by decide) r2 (Nat.le_of_ble_eq_true rfl) rfl (show ash 138 = (13, 38) from rfl) h138 (Nat.le_of_ble_eq_true rfl) (Nat.le_of_ble_eq_true rfl) rfl ?_
    refine y_st (L1 := [(2, 1000000), (2, ((0 : Nat) : Int)), (2, ((138 : Nat) : Int)), (2, ((153 : Nat) : Int)), (0, (i : Int)), (0, 1), (0, x)]) (Nat.le_of_ble_eq_true rfl) rfl ?_
    refine wp_aload_n (v := ((138 : Nat) : Int)) rfl (Int.natCast_nonneg _) ?_
    refine y_callV (as := []) (S1 := []) (Nat.le_of_ble_eq_true rfl) (by decide) hth (Nat.le_of_ble_eq_true rfl) rfl (show ash 138 = (13, 38) from rfl) h138 (Nat.le_of_ble_eq_true rfl) (Nat.le_of_ble_eq_true rfl) rfl ?_
    refine wp_iload (v := 1) rfl ?_
    refine wp_icmp_eq (fun _ => ?_) (fun c => absurd rfl c)
    refine y_blk (t := 1968) rfl (show fnd bk_L_law 1968 = some _ from rfl) aB_L_law ?_
    refine wp_iload (v := 1) rfl ?_
    refine y_nez (fun _ => ?_) (fun c => absurd c (by decide))
    refine y_blk (t := 1985) rfl (show fnd bk_L_law 1985 = some _ from rfl) aB_L_law ?_
    exact wp_goto (y_to rfl (K M2 _ kp _ _))
theorem lw_loop {N : Nat} (hN : N ≤ 3072) {b1 b2 : Nat} (hb1 : b1 ≤ 590000) (hb2 : b2 ≤ 7200000) : ∀ (g c : Nat) (M : aM) (T : T3) (u5 u6 : aV), N ≤ 6 * c + g → c ≤ 512 → Sh T.1 M → (∃ A st, IV T.1 M A st) → (T.1 - 154) % 15 = 0 → M 1000000 5000 = (N : Int) → T.1 ≤ 154 + 15 * c → T.2.1 ≤ b1 + 16 * c → T.2.2 ≤ b2 + 141 * c → Wp 17 334 23 [] [(2, 1000000), (2, ((0 : Nat) : Int)), (2, ((138 : Nat) : Int)), (2, ((153 : Nat) : Int)), (0, ((6 * c : Nat) : Int)), u5, u6] [] (M, T) (fun r σ => r = some (0, 1) ∧ σ.2.2.1 ≤ 601024 ∧ σ.2.2.2 ≤ 7293034) := by
  intro g
  have hend : ∀ (c : Nat) (M : aM) (T : T3) (u5 u6 : aV), c ≤ 512 → T.2.1 ≤ b1 + 16 * c → T.2.2 ≤ b2 + 141 * c → Wp 17 334 2032 [] [(2, 1000000), (2, ((0 : Nat) : Int)), (2, ((138 : Nat) : Int)), (2, ((153 : Nat) : Int)), (0, ((6 * c : Nat) : Int)), u5, u6] [] (M, T) (fun r σ => r = some (0, 1) ∧ σ.2.2.1 ≤ 601024 ∧ σ.2.2.2 ≤ 7293034) := by
    intro c M T u5 u6 hc h1 h2
    refine y_blk (t := 2032) rfl (show fnd bk_L_law 2032 = some _ from rfl) aB_L_law ?_
    refine wp_iconst ⟨by decide, by decide⟩ ?_
    exact y_ret0 (Or.inr (Or.inr rfl)) ⟨rfl, by show T.2.1 ≤ 601024; omega, by show T.2.2 ≤ 7293034; omega⟩
  have head : ∀ (c : Nat) (M : aM) (T : T3) (u5 u6 : aV) (Q : Option aV → aS → Prop), c ≤ 512 → M 1000000 5000 = (N : Int) → (N < 6 * c + 6 → Wp 17 334 2032 [] [(2, 1000000), (2, ((0 : Nat) : Int)), (2, ((138 : Nat) : Int)), (2, ((153 : Nat) : Int)), (0, ((6 * c : Nat) : Int)), u5, u6] [] (M, T) Q) → (6 * c + 6 ≤ N → Wp 17 334 (23 + 2 + 1 + 1 + 2 + 1 + 3) ((.aload_n 0, 1, 0, 0, 0) :: (.iload 4, 2, 0, 0, 0) :: (.iaload, 1, 0, 0, 0) :: (.bipush 63, 2, 0, 0, 0) :: (.iand, 1, 0, 0, 0) :: (.tableswitch 1986 0 55 #[240, 313, 338, 351, 364, 401, 438, 475, 500, 537, 574, 599, 624, 637, 662, 675, 712, 749, 786, 811, 836, 861, 898, 935, 984, 1009, 1046, 1059, 1113, 1126, 1139, 1152, 1165, 1178, 1203, 1228, 1241, 1278, 1315, 1424, 1449, 1474, 1552, 1606, 1655, 1716, 1729, 1754, 1791, 1816, 1841, 1854, 1867, 1892, 1948, 1973], 240, 0, 0, 0) :: []) [(2, 1000000), (2, ((0 : Nat) : Int)), (2, ((138 : Nat) : Int)), (2, ((153 : Nat) : Int)), (0, ((6 * c : Nat) : Int)), u5, u6] [] (M, T) Q) → Wp 17 334 23 [] [(2, 1000000), (2, ((0 : Nat) : Int)), (2, ((138 : Nat) : Int)), (2, ((153 : Nat) : Int)), (0, ((6 * c : Nat) : Int)), u5, u6] [] (M, T) Q := by
    intro c M T u5 u6 Q hc hM k1 k2
    refine y_blk (t := 23) rfl (show fnd bk_L_law 23 = some _ from rfl) aB_L_law ?_
    refine wp_iload (v := ((6 * c : Nat) : Int)) rfl ?_
    refine wp_aload_n (v := 1000000) rfl (by decide) ?_
    have hal : alen (M, T) 1000000 = N := by rw [alen_scr, hM, Int.toNat_natCast]
    refine wp_arraylength ⟨by decide, by decide, by decide, Or.inr (by decide), ?_⟩ ?_
    · show alen (M, T) 1000000 < 2147483648
      rw [hal]; omega
    · refine wp_bipush (by decide) ?_
      have hal2 : (alen (M, T) (1000000 : Int).toNat : Int) = (N : Int) := by show (alen (M, T) 1000000 : Int) = _; rw [hal]
      rw [hal2]
      refine wp_isub ⟨by omega, by omega⟩ ?_
      refine wp_icmp_gt (fun q => y_to rfl (k1 (by omega))) (fun q => ?_)
      exact k2 (by omega)
  induction g with
  | zero =>
    intro c M T u5 u6 hg hc hS hI hT hM h1 h2 h3
    exact head c M T u5 u6 _ hc hM (fun _ => hend c M T u5 u6 hc h2 h3) (fun q => absurd q (by omega))
  | succ g ih =>
    intro c M T u5 u6 hg hc hS hI hT hM h1 h2 h3
    refine head c M T u5 u6 _ hc hM (fun _ => hend c M T u5 u6 hc h2 h3) (fun hle => ?_)
    obtain ⟨A, st, hI⟩ := hI
    have hLs : Lst T M A st := ⟨hS, hI, hT, by omega⟩
    have hi : ((6 * c : Nat) : Int) + 6 ≤ M 1000000 5000 := by rw [hM]; omega
    have hl : M 1000000 5000 ≤ 3072 := by rw [hM]; omega
    have K : ∀ M2 T2, Kp T T2 M M2 → ∀ u5 u6 : aV, Wp 17 334 2026 [] [(2, 1000000), (2, ((0 : Nat) : Int)), (2, ((138 : Nat) : Int)), (2, ((153 : Nat) : Int)), (0, ((6 * c : Nat) : Int)), u5, u6] [] (M2, T2) (fun r σ => r = some (0, 1) ∧ σ.2.2.1 ≤ 601024 ∧ σ.2.2.2 ≤ 7293034) := by
      intro M2 T2 ⟨k1, k2, k3, k4, k5, k6, k7⟩ u5 u6
      refine y_blk (t := 2026) rfl (show fnd bk_L_law 2026 = some _ from rfl) aB_L_law ?_
      refine y_iinc (L1 := [(2, 1000000), (2, ((0 : Nat) : Int)), (2, ((138 : Nat) : Int)), (2, ((153 : Nat) : Int)), (0, ((6 * c : Nat) : Int) + 6), u5, u6]) rfl (Nat.le_of_ble_eq_true rfl) ⟨by decide, by decide⟩ ⟨by omega, by omega⟩ rfl ?_
      refine wp_goto (y_to rfl ?_)
      have := ih (c + 1) M2 T2 u5 u6 (by omega) (by omega) k1 k2 k4 (by rw [k3]; exact hM) (by omega) (by omega) (by omega)
      rw [show ((6 * (c + 1) : Nat) : Int) = ((6 * c : Nat) : Int) + 6 by omega] at this
      exact this
    refine wp_aload_n (v := 1000000) rfl (by decide) ?_
    refine wp_iload (v := ((6 * c : Nat) : Int)) rfl ?_
    refine wp_iaload ⟨⟨by decide, rfl, Or.inr (by decide)⟩, by omega, ?_⟩ ?_
    · show ((6 * c : Nat) : Int).toNat < alen (M, T) 1000000
      rw [alen_scr, hM]
      omega
    · refine wp_bipush (by decide) ?_
      refine wp_iand ?_
      show Wp 17 334 _ _ _ ((0, aand (M 1000000 ((6 * c : Nat) : Int).toNat) 63) :: []) _ _
      generalize aand (M 1000000 ((6 * c : Nat) : Int).toNat) 63 = a
      by_cases ha : 0 ≤ a ∧ a ≤ 55
      · obtain ⟨n, rfl, hn⟩ : ∃ n : Nat, a = (n : Int) ∧ n < 56 := ⟨a.toNat, by omega, by omega⟩
        match n, hn with
        | 0, _ => exact y_ts (off := 240) (t := 280) ⟨by decide, by decide⟩ rfl rfl (lw_0 hLs hi hl K)
        | 1, _ => exact y_ts (off := 313) (t := 353) ⟨by decide, by decide⟩ rfl rfl (lw_1 hLs hi hl K)
        | 2, _ => exact y_ts (off := 338) (t := 378) ⟨by decide, by decide⟩ rfl rfl (lw_2 hLs hi hl K)
        | 3, _ => exact y_ts (off := 351) (t := 391) ⟨by decide, by decide⟩ rfl rfl (lw_3 hLs hi hl K)
        | 4, _ => exact y_ts (off := 364) (t := 404) ⟨by decide, by decide⟩ rfl rfl (lw_4 hLs hi hl K)
        | 5, _ => exact y_ts (off := 401) (t := 441) ⟨by decide, by decide⟩ rfl rfl (lw_5 hLs hi hl K)
        | 6, _ => exact y_ts (off := 438) (t := 478) ⟨by decide, by decide⟩ rfl rfl (lw_6 hLs hi hl K)
        | 7, _ => exact y_ts (off := 475) (t := 515) ⟨by decide, by decide⟩ rfl rfl (lw_7 hLs hi hl K)
        | 8, _ => exact y_ts (off := 500) (t := 540) ⟨by decide, by decide⟩ rfl rfl (lw_8 hLs hi hl K)
        | 9, _ => exact y_ts (off := 537) (t := 577) ⟨by decide, by decide⟩ rfl rfl (lw_9 hLs hi hl K)
        | 10, _ => exact y_ts (off := 574) (t := 614) ⟨by decide, by decide⟩ rfl rfl (lw_10 hLs hi hl K)
        | 11, _ => exact y_ts (off := 599) (t := 639) ⟨by decide, by decide⟩ rfl rfl (lw_11 hLs hi hl K)
        | 12, _ => exact y_ts (off := 624) (t := 664) ⟨by decide, by decide⟩ rfl rfl (lw_12 hLs hi hl K)
        | 13, _ => exact y_ts (off := 637) (t := 677) ⟨by decide, by decide⟩ rfl rfl (lw_13 hLs hi hl K)
        | 14, _ => exact y_ts (off := 662) (t := 702) ⟨by decide, by decide⟩ rfl rfl (lw_14 hLs hi hl K)
        | 15, _ => exact y_ts (off := 675) (t := 715) ⟨by decide, by decide⟩ rfl rfl (lw_15 hLs hi hl K)
        | 16, _ => exact y_ts (off := 712) (t := 752) ⟨by decide, by decide⟩ rfl rfl (lw_16 hLs hi hl K)
        | 17, _ => exact y_ts (off := 749) (t := 789) ⟨by decide, by decide⟩ rfl rfl (lw_17 hLs hi hl K)
        | 18, _ => exact y_ts (off := 786) (t := 826) ⟨by decide, by decide⟩ rfl rfl (lw_18 hLs hi hl K)
        | 19, _ => exact y_ts (off := 811) (t := 851) ⟨by decide, by decide⟩ rfl rfl (lw_19 hLs hi hl K)
        | 20, _ => exact y_ts (off := 836) (t := 876) ⟨by decide, by decide⟩ rfl rfl (lw_20 hLs hi hl K)
        | 21, _ => exact y_ts (off := 861) (t := 901) ⟨by decide, by decide⟩ rfl rfl (lw_21 hLs hi hl K)
        | 22, _ => exact y_ts (off := 898) (t := 938) ⟨by decide, by decide⟩ rfl rfl (lw_22 hLs hi hl K)
        | 23, _ => exact y_ts (off := 935) (t := 975) ⟨by decide, by decide⟩ rfl rfl (lw_23 hLs hi hl K)
        | 24, _ => exact y_ts (off := 984) (t := 1024) ⟨by decide, by decide⟩ rfl rfl (lw_24 hLs hi hl K)
        | 25, _ => exact y_ts (off := 1009) (t := 1049) ⟨by decide, by decide⟩ rfl rfl (lw_25 hLs hi hl K)
        | 26, _ => exact y_ts (off := 1046) (t := 1086) ⟨by decide, by decide⟩ rfl rfl (lw_26 hLs hi hl K)
        | 27, _ => exact y_ts (off := 1059) (t := 1099) ⟨by decide, by decide⟩ rfl rfl (lw_27 hLs hi hl K)
        | 28, _ => exact y_ts (off := 1113) (t := 1153) ⟨by decide, by decide⟩ rfl rfl (lw_28 hLs hi hl K)
        | 29, _ => exact y_ts (off := 1126) (t := 1166) ⟨by decide, by decide⟩ rfl rfl (lw_29 hLs hi hl K)
        | 30, _ => exact y_ts (off := 1139) (t := 1179) ⟨by decide, by decide⟩ rfl rfl (lw_30 hLs hi hl K)
        | 31, _ => exact y_ts (off := 1152) (t := 1192) ⟨by decide, by decide⟩ rfl rfl (lw_31 hLs hi hl K)
        | 32, _ => exact y_ts (off := 1165) (t := 1205) ⟨by decide, by decide⟩ rfl rfl (lw_32 hLs hi hl K)
        | 33, _ => exact y_ts (off := 1178) (t := 1218) ⟨by decide, by decide⟩ rfl rfl (lw_33 hLs hi hl K)
        | 34, _ => exact y_ts (off := 1203) (t := 1243) ⟨by decide, by decide⟩ rfl rfl (lw_34 hLs hi hl K)
        | 35, _ => exact y_ts (off := 1228) (t := 1268) ⟨by decide, by decide⟩ rfl rfl (lw_35 hLs hi hl K)
        | 36, _ => exact y_ts (off := 1241) (t := 1281) ⟨by decide, by decide⟩ rfl rfl (lw_36 hLs hi hl K)
        | 37, _ => exact y_ts (off := 1278) (t := 1318) ⟨by decide, by decide⟩ rfl rfl (lw_37 hLs hi hl K)
        | 38, _ => exact y_ts (off := 1315) (t := 1355) ⟨by decide, by decide⟩ rfl rfl (lw_38 hLs hi hl K)
        | 39, _ => exact y_ts (off := 1424) (t := 1464) ⟨by decide, by decide⟩ rfl rfl (lw_39 hLs hi hl K)
        | 40, _ => exact y_ts (off := 1449) (t := 1489) ⟨by decide, by decide⟩ rfl rfl (lw_40 hLs hi hl K)
        | 41, _ => exact y_ts (off := 1474) (t := 1514) ⟨by decide, by decide⟩ rfl rfl (lw_41 hLs hi hl K)
        | 42, _ => exact y_ts (off := 1552) (t := 1592) ⟨by decide, by decide⟩ rfl rfl (lw_42 hLs hi hl K)
        | 43, _ => exact y_ts (off := 1606) (t := 1646) ⟨by decide, by decide⟩ rfl rfl (lw_43 hLs hi hl K)
        | 44, _ => exact y_ts (off := 1655) (t := 1695) ⟨by decide, by decide⟩ rfl rfl (lw_44 hLs hi hl K)
        | 45, _ => exact y_ts (off := 1716) (t := 1756) ⟨by decide, by decide⟩ rfl rfl (lw_45 hLs hi hl K)
        | 46, _ => exact y_ts (off := 1729) (t := 1769) ⟨by decide, by decide⟩ rfl rfl (lw_46 hLs hi hl K)
        | 47, _ => exact y_ts (off := 1754) (t := 1794) ⟨by decide, by decide⟩ rfl rfl (lw_47 hLs hi hl K)
        | 48, _ => exact y_ts (off := 1791) (t := 1831) ⟨by decide, by decide⟩ rfl rfl (lw_48 hLs hi hl K)
        | 49, _ => exact y_ts (off := 1816) (t := 1856) ⟨by decide, by decide⟩ rfl rfl (lw_49 hLs hi hl K)
        | 50, _ => exact y_ts (off := 1841) (t := 1881) ⟨by decide, by decide⟩ rfl rfl (lw_50 hLs hi hl K)
        | 51, _ => exact y_ts (off := 1854) (t := 1894) ⟨by decide, by decide⟩ rfl rfl (lw_51 hLs hi hl K)
        | 52, _ => exact y_ts (off := 1867) (t := 1907) ⟨by decide, by decide⟩ rfl rfl (lw_52 hLs hi hl K)
        | 53, _ => exact y_ts (off := 1892) (t := 1932) ⟨by decide, by decide⟩ rfl rfl (lw_53 hLs hi hl K)
        | 54, _ => exact y_ts (off := 1948) (t := 1988) ⟨by decide, by decide⟩ rfl rfl (lw_54 hLs hi hl K)
        | 55, _ => exact y_ts (off := 1973) (t := 2013) ⟨by decide, by decide⟩ rfl rfl (lw_55 hLs hi hl K)
      · exact y_td (t := 2026) (by omega) rfl (K M T ⟨hS, ⟨A, st, hI⟩, rfl, hT, by omega, by omega, by omega⟩ u5 u6)
end Law

/-! ===== from code to functions: the shapes of the cells, and the rest of the rules ===== -/
def fnd (bk : List (Nat × List aO)) (pc : Nat) : Option (List aO) := (bk.find? (fun q => q.1 == pc)).map (fun q => q.2)
def FU : Nat := 100000
def ajk (u : aV) : aV := if u.1 = 1 then (9, 0) else u
theorem aclr_jk {L : List aV} {q : Nat} {u : aV} (h : L[q]? = some u) : aclr L (q + 1) = L.set q (ajk u) := by
  show (match L[q]? with | some v => if v.1 = 1 then L.set q (9, 0) else L | none => L) = _
  rw [h]
  show (if u.1 = 1 then L.set q (9, 0) else L) = _
  unfold ajk
  split
  · rfl
  · obtain ⟨h1, h2⟩ := List.getElem?_eq_some_iff.mp h
    rw [← h2, List.set_getElem_self]
theorem aset_jk {L : List aV} {q : Nat} {u v : aV} (h : L[q]? = some u) : aset L (q + 1) v = (L.set q (ajk u)).set (q + 1) v := by
  unfold aset
  rw [aclr_jk h]
theorem aset2_jk {L : List aV} {q : Nat} {u v : aV} (h : L[q]? = some u) : aset2 L (q + 1) v = ((L.set q (ajk u)).set (q + 1) v).set (q + 2) (9, 0) := by
  unfold aset2
  rw [aclr_jk h]
theorem ash_eta {n : Nat} (h : (ash n).1 = 100) : ash n = (100, (ash n).2) := by
  rw [← h]
theorem ashL_small : ashL.all (fun q => decide (q.2 < 10000)) = true := by decide +kernel
theorem ash_small (n : Nat) (h : n < 154) : (ash n).2 < 10000 := by
  unfold ash
  rw [if_pos h]
  have h1 : n < ashL.length := h
  rw [List.getD_eq_getElem?_getD, List.getElem?_eq_getElem h1]
  exact of_decide_eq_true (List.all_eq_true.mp ashL_small _ (List.getElem_mem h1))
section Zr
variable {d j pc : Nat} {ops : List aO} {L S : List aV} {M : aM} {T : T3} {Q : Option aV → aS → Prop} {ra rb rc : Nat}
theorem y_blk {bk : List (Nat × List aO)} {t : Nat} {ops1 : List aO} {σ : aS} (ht : pc = t) (h : fnd bk t = some ops1) (hm : ∀ pc, aB j pc = fnd bk pc) (K : Wp d j t ops1 L S σ Q) : Wp d j pc [] L S σ Q := by
  subst ht
  exact wp_blk ((hm pc).trans h) K
theorem y_ldc2n {i x : Nat} {v : Int} (h : (x : Int) < 2147483648) (hv : -(x : Int) = v) (K : Wp d j (pc + 3) ops L ((1, v) :: S) (M, T) Q) : Wp d j pc ((.ldc2_w i, 3, x, 1, rc) :: ops) L S (M, T) Q := wp_ast rfl (by delta ast; exact if_pos h) (by rw [← hv] at K; exact K)
theorem y_ldc {i x : Nat} {v : Int} (h : (x : Int) < 2147483648) (hv : (x : Int) = v) (K : Wp d j (pc + 2) ops L ((0, v) :: S) (M, T) Q) : Wp d j pc ((.ldc i, 2, 0, x, rc) :: ops) L S (M, T) Q := wp_ldc h (by rw [hv]; exact K)
theorem y_ldc_w {i x : Nat} {v : Int} (h : (x : Int) < 2147483648) (hv : (x : Int) = v) (K : Wp d j (pc + 3) ops L ((0, v) :: S) (M, T) Q) : Wp d j pc ((.ldc_w i, 3, 0, x, rc) :: ops) L S (M, T) Q := wp_ldc_w h (by rw [hv]; exact K)
theorem y_ldcS {i x : Nat} {v : Int} (hv : 2000000 + (x : Int) = v) (K : Wp d j (pc + 2) ops L ((2, v) :: S) (M, T) Q) : Wp d j pc ((.ldc i, 2, 1, x, rc) :: ops) L S (M, T) Q := wp_ldcS (by rw [hv]; exact K)
theorem y_ldc_wS {i x : Nat} {v : Int} (hv : 2000000 + (x : Int) = v) (K : Wp d j (pc + 3) ops L ((2, v) :: S) (M, T) Q) : Wp d j pc ((.ldc_w i, 3, 1, x, rc) :: ops) L S (M, T) Q := wp_ldc_wS (by rw [hv]; exact K)
theorem y_lconst {k : Fin 2} {v : Int} (hv : ((k.val : Nat) : Int) = v) (K : Wp d j (pc + 1) ops L ((1, v) :: S) (M, T) Q) : Wp d j pc ((.lconst k, 1, ra, rb, rc) :: ops) L S (M, T) Q := wp_lconst (by rw [hv]; exact K)
theorem y_alen2 {n kd len : Nat} {v : Int} (ha : ash n = (kd, len)) (hk : 100 ≤ kd ∧ kd < 104) (hl : n < T.1) (hn : n ≠ 1000000) (hs : len < 2147483648) (hv : (len : Int) = v) (K : Wp d j (pc + 1) ops L ((0, v) :: S) (M, T) Q) : Wp d j pc ((.arraylength, 1, ra, rb, rc) :: ops) L ((2, ((n : Nat) : Int)) :: S) (M, T) Q := y_alen ha hk hl hn hs (by rw [hv]; exact K)
theorem y_ldc2 {i x : Nat} {v : Int} (h : (x : Int) < 2147483648) (hv : (x : Int) = v) (K : Wp d j (pc + 3) ops L ((1, v) :: S) (M, T) Q) : Wp d j pc ((.ldc2_w i, 3, x, 0, rc) :: ops) L S (M, T) Q := wp_ldc2_w h (by rw [hv]; exact K)
theorem y_ls {ln : Nat} {dflt : Int} {ps : Array (Int × Int)} {a : Int} {t : Nat} (ht : ((pc : Int) + Op.lookupswitch.offset ps.toList dflt a).toNat = t) (K : Wp d j t [] L S (M, T) Q) : Wp d j pc ((.lookupswitch dflt ps, ln, ra, rb, rc) :: ops) L ((0, a) :: S) (M, T) Q := by
  refine wp_jt rfl (t := t) (S1 := S) ?_ K
  rw [← ht]
  rfl
end Zr
theorem Ms.of3 {d j : Nat} {as : List aV} {σ : aS} {r : Option aV} {σ1 : aS} {P : Prop} (h : Wp d j 0 [] (aent (mL j) as) [] σ (fun r2 σ2 => r2 = r ∧ σ2 = σ1 ∧ P)) : Ms d j as σ r σ1 := by
  obtain ⟨n, r2, σ2, h, rfl, rfl, -⟩ := h
  exact ⟨n, h⟩
theorem Ms.sh {d j : Nat} {L : List aV} {σ : aS} {r : Option aV} {σ1 : aS} {P : Prop} (h : Wp d j 0 [] L [] σ (fun r2 σ2 => r2 = r ∧ σ2 = σ1 ∧ P)) : P := by
  obtain ⟨n, r2, σ2, h, -, -, hp⟩ := h
  exact hp
theorem aLand0 {e : Nat} (h : isLand e) : ash e = (5, 4) := by
  rcases h with rfl | rfl | rfl <;> rfl
theorem aLand1 {e : Nat} (h : isLand e) : ash (e + 1) = (100, 8) := by
  rcases h with rfl | rfl | rfl <;> rfl
theorem aLand2 {e : Nat} (h : isLand e) : ash (e + 2) = (100, 64) := by
  rcases h with rfl | rfl | rfl <;> rfl
theorem aTold0 {e : Nat} (h : isTold e) : ash e = (10, 19) := by
  rcases h with rfl | rfl <;> rfl
theorem aTold1 {e : Nat} (h : isTold e) : ash (e + 1) = (100, 8) := by
  rcases h with rfl | rfl <;> rfl
theorem aTold2 {e : Nat} (h : isTold e) : ash (e + 2) = (100, 10) := by
  rcases h with rfl | rfl <;> rfl
theorem aTold3 {e : Nat} (h : isTold e) : ash (e + 3) = (100, 10) := by
  rcases h with rfl | rfl <;> rfl
theorem aTold4 {e : Nat} (h : isTold e) : ash (e + 4) = (100, 10) := by
  rcases h with rfl | rfl <;> rfl
theorem aTold5 {e : Nat} (h : isTold e) : ash (e + 5) = (100, 64) := by
  rcases h with rfl | rfl <;> rfl
theorem aTold6 {e : Nat} (h : isTold e) : ash (e + 6) = (100, 3) := by
  rcases h with rfl | rfl <;> rfl
theorem aTold7 {e : Nat} (h : isTold e) : ash (e + 7) = (100, 3) := by
  rcases h with rfl | rfl <;> rfl
theorem aTold8 {e : Nat} (h : isTold e) : ash (e + 8) = (100, 4) := by
  rcases h with rfl | rfl <;> rfl
theorem aTold9 {e : Nat} (h : isTold e) : ash (e + 9) = (100, 4) := by
  rcases h with rfl | rfl <;> rfl
theorem aTold10 {e : Nat} (h : isTold e) : ash (e + 10) = (100, 4) := by
  rcases h with rfl | rfl <;> rfl
theorem aTold11 {e : Nat} (h : isTold e) : ash (e + 11) = (100, 4) := by
  rcases h with rfl | rfl <;> rfl
theorem aTold12 {e : Nat} (h : isTold e) : ash (e + 12) = (100, 5) := by
  rcases h with rfl | rfl <;> rfl
theorem aTold13 {e : Nat} (h : isTold e) : ash (e + 13) = (100, 5) := by
  rcases h with rfl | rfl <;> rfl
theorem st_all (P : Nat → Prop) [∀ e, Decidable (P e)] (h : ∀ i, i < 20 → P (if i = 19 then 35 else 62 + 4 * i)) {e : Nat} (he : isSt e) : P e := by
  rcases he with rfl | ⟨h1, h2, h3⟩
  · exact h 19 (by decide)
  · have h4 := h ((e - 62) / 4) (by omega)
    rw [if_neg (by omega)] at h4
    have : 62 + 4 * ((e - 62) / 4) = e := by omega
    rw [this] at h4
    exact h4
theorem aSt0 {e : Nat} (h : isSt e) : ash e = (8, 5) := st_all (fun e => ash e = (8, 5)) (by decide +kernel) h
theorem aSt1 {e : Nat} (h : isSt e) : ash (e + 1) = (100, 3) := st_all (fun e => ash (e + 1) = (100, 3)) (by decide +kernel) h
theorem aSt2 {e : Nat} (h : isSt e) : ash (e + 2) = (100, 3) := st_all (fun e => ash (e + 2) = (100, 3)) (by decide +kernel) h
theorem aSt3 {e : Nat} (h : isSt e) : ash (e + 3) = (100, 4) := st_all (fun e => ash (e + 3) = (100, 4)) (by decide +kernel) h
theorem aW0 {T e : Nat} (hT : T ≤ 1000000) (h : isW T e) : ash e = (12, 28) := ash_W hT h 0 (by decide)
theorem aW1 {T e : Nat} (hT : T ≤ 1000000) (h : isW T e) : ash (e + 1) = (100, 10) := ash_W hT h 1 (by decide)
theorem aW2 {T e : Nat} (hT : T ≤ 1000000) (h : isW T e) : ash (e + 2) = (100, 10) := ash_W hT h 2 (by decide)
theorem aW3 {T e : Nat} (hT : T ≤ 1000000) (h : isW T e) : ash (e + 3) = (100, 10) := ash_W hT h 3 (by decide)
theorem aW4 {T e : Nat} (hT : T ≤ 1000000) (h : isW T e) : ash (e + 4) = (100, 3) := ash_W hT h 4 (by decide)
theorem aW5 {T e : Nat} (hT : T ≤ 1000000) (h : isW T e) : ash (e + 5) = (100, 3) := ash_W hT h 5 (by decide)
theorem aW6 {T e : Nat} (hT : T ≤ 1000000) (h : isW T e) : ash (e + 6) = (100, 4) := ash_W hT h 6 (by decide)
theorem aW7 {T e : Nat} (hT : T ≤ 1000000) (h : isW T e) : ash (e + 7) = (100, 4) := ash_W hT h 7 (by decide)
theorem aW8 {T e : Nat} (hT : T ≤ 1000000) (h : isW T e) : ash (e + 8) = (100, 4) := ash_W hT h 8 (by decide)
theorem aW9 {T e : Nat} (hT : T ≤ 1000000) (h : isW T e) : ash (e + 9) = (100, 4) := ash_W hT h 9 (by decide)
theorem aW10 {T e : Nat} (hT : T ≤ 1000000) (h : isW T e) : ash (e + 10) = (100, 5) := ash_W hT h 10 (by decide)
theorem aW11 {T e : Nat} (hT : T ≤ 1000000) (h : isW T e) : ash (e + 11) = (100, 5) := ash_W hT h 11 (by decide)
theorem aW12 {T e : Nat} (hT : T ≤ 1000000) (h : isW T e) : ash (e + 12) = (102, 15) := ash_W hT h 12 (by decide)
theorem aW13 {T e : Nat} (hT : T ≤ 1000000) (h : isW T e) : ash (e + 13) = (100, 15) := ash_W hT h 13 (by decide)
theorem aW14 {T e : Nat} (hT : T ≤ 1000000) (h : isW T e) : ash (e + 14) = (100, 15) := ash_W hT h 14 (by decide)
theorem ltLand {T e : Nat} (hT : 154 ≤ T) (h : isLand e) (k : Nat) (hk : k < 3) : e + k < T := by
  unfold isLand at h
  omega
theorem ltTold {T e : Nat} (hT : 154 ≤ T) (h : isTold e) (k : Nat) (hk : k < 14) : e + k < T := by
  unfold isTold at h
  omega
theorem ltSt {T e : Nat} (hT : 154 ≤ T) (h : isSt e) (k : Nat) (hk : k < 4) : e + k < T := by
  unfold isSt at h
  omega
theorem ltW {T e : Nat} (h : isW T e) (k : Nat) (hk : k < 15) : e + k < T := by
  unfold isW at h
  omega
theorem rLand0 {T e : Nat} {M : aM} (hS : Sh T M) (h : isLand e) : M e 0 = ((2 : Nat) : Int) := by
  rcases h with rfl | rfl | rfl
  · exact hS.at 39 0 2 (by decide +kernel)
  · exact hS.at 42 0 2 (by decide +kernel)
  · exact hS.at 45 0 2 (by decide +kernel)
theorem rLand1 {T e : Nat} {M : aM} (hS : Sh T M) (h : isLand e) : M e 1 = ((e + 1 : Nat) : Int) := by
  rcases h with rfl | rfl | rfl
  · exact hS.at 39 1 40 (by decide +kernel)
  · exact hS.at 42 1 43 (by decide +kernel)
  · exact hS.at 45 1 46 (by decide +kernel)
theorem rLand2 {T e : Nat} {M : aM} (hS : Sh T M) (h : isLand e) : M e 2 = ((e + 2 : Nat) : Int) := by
  rcases h with rfl | rfl | rfl
  · exact hS.at 39 2 41 (by decide +kernel)
  · exact hS.at 42 2 44 (by decide +kernel)
  · exact hS.at 45 2 47 (by decide +kernel)
theorem rTold3 {T e : Nat} {M : aM} (hS : Sh T M) (h : isTold e) : M e 3 = ((e + 1 : Nat) : Int) := by
  rcases h with rfl | rfl
  · exact hS.at 2 3 3 (by decide +kernel)
  · exact hS.at 17 3 18 (by decide +kernel)
theorem rTold5 {T e : Nat} {M : aM} (hS : Sh T M) (h : isTold e) : M e 5 = ((e + 2 : Nat) : Int) := by
  rcases h with rfl | rfl
  · exact hS.at 2 5 4 (by decide +kernel)
  · exact hS.at 17 5 19 (by decide +kernel)
theorem rTold6 {T e : Nat} {M : aM} (hS : Sh T M) (h : isTold e) : M e 6 = ((e + 3 : Nat) : Int) := by
  rcases h with rfl | rfl
  · exact hS.at 2 6 5 (by decide +kernel)
  · exact hS.at 17 6 20 (by decide +kernel)
theorem rTold7 {T e : Nat} {M : aM} (hS : Sh T M) (h : isTold e) : M e 7 = ((e + 4 : Nat) : Int) := by
  rcases h with rfl | rfl
  · exact hS.at 2 7 6 (by decide +kernel)
  · exact hS.at 17 7 21 (by decide +kernel)
theorem rTold8 {T e : Nat} {M : aM} (hS : Sh T M) (h : isTold e) : M e 8 = ((e + 5 : Nat) : Int) := by
  rcases h with rfl | rfl
  · exact hS.at 2 8 7 (by decide +kernel)
  · exact hS.at 17 8 22 (by decide +kernel)
theorem rTold10 {T e : Nat} {M : aM} (hS : Sh T M) (h : isTold e) : M e 10 = ((e + 6 : Nat) : Int) := by
  rcases h with rfl | rfl
  · exact hS.at 2 10 8 (by decide +kernel)
  · exact hS.at 17 10 23 (by decide +kernel)
theorem rTold11 {T e : Nat} {M : aM} (hS : Sh T M) (h : isTold e) : M e 11 = ((e + 7 : Nat) : Int) := by
  rcases h with rfl | rfl
  · exact hS.at 2 11 9 (by decide +kernel)
  · exact hS.at 17 11 24 (by decide +kernel)
theorem rTold12 {T e : Nat} {M : aM} (hS : Sh T M) (h : isTold e) : M e 12 = ((e + 8 : Nat) : Int) := by
  rcases h with rfl | rfl
  · exact hS.at 2 12 10 (by decide +kernel)
  · exact hS.at 17 12 25 (by decide +kernel)
theorem rTold13 {T e : Nat} {M : aM} (hS : Sh T M) (h : isTold e) : M e 13 = ((e + 9 : Nat) : Int) := by
  rcases h with rfl | rfl
  · exact hS.at 2 13 11 (by decide +kernel)
  · exact hS.at 17 13 26 (by decide +kernel)
theorem rTold14 {T e : Nat} {M : aM} (hS : Sh T M) (h : isTold e) : M e 14 = ((e + 10 : Nat) : Int) := by
  rcases h with rfl | rfl
  · exact hS.at 2 14 12 (by decide +kernel)
  · exact hS.at 17 14 27 (by decide +kernel)
theorem rTold15 {T e : Nat} {M : aM} (hS : Sh T M) (h : isTold e) : M e 15 = ((e + 11 : Nat) : Int) := by
  rcases h with rfl | rfl
  · exact hS.at 2 15 13 (by decide +kernel)
  · exact hS.at 17 15 28 (by decide +kernel)
theorem rTold16 {T e : Nat} {M : aM} (hS : Sh T M) (h : isTold e) : M e 16 = ((e + 12 : Nat) : Int) := by
  rcases h with rfl | rfl
  · exact hS.at 2 16 14 (by decide +kernel)
  · exact hS.at 17 16 29 (by decide +kernel)
theorem rTold17 {T e : Nat} {M : aM} (hS : Sh T M) (h : isTold e) : M e 17 = ((e + 13 : Nat) : Int) := by
  rcases h with rfl | rfl
  · exact hS.at 2 17 15 (by decide +kernel)
  · exact hS.at 17 17 30 (by decide +kernel)
theorem rSt0 {T e : Nat} {M : aM} (hS : Sh T M) (h : isSt e) : M e 0 = ((e + 1 : Nat) : Int) :=
  hS.at e 0 _ (st_all (fun e => shL.contains (e, 0, ((e + 1 : Nat) : Int)) = true) (by decide +kernel) h)
theorem rSt1 {T e : Nat} {M : aM} (hS : Sh T M) (h : isSt e) : M e 1 = ((e + 2 : Nat) : Int) :=
  hS.at e 1 _ (st_all (fun e => shL.contains (e, 1, ((e + 2 : Nat) : Int)) = true) (by decide +kernel) h)
theorem rSt2 {T e : Nat} {M : aM} (hS : Sh T M) (h : isSt e) : M e 2 = ((e + 3 : Nat) : Int) :=
  hS.at e 2 _ (st_all (fun e => shL.contains (e, 2, ((e + 3 : Nat) : Int)) = true) (by decide +kernel) h)
theorem rW14 {T e : Nat} {M : aM} (hS : Sh T M) (h : isW T e) : M e 14 = ((e + 1 : Nat) : Int) := hS.2.2.1 e h 0 (by decide)
theorem rW15 {T e : Nat} {M : aM} (hS : Sh T M) (h : isW T e) : M e 15 = ((e + 2 : Nat) : Int) := hS.2.2.1 e h 1 (by decide)
theorem rW16 {T e : Nat} {M : aM} (hS : Sh T M) (h : isW T e) : M e 16 = ((e + 3 : Nat) : Int) := hS.2.2.1 e h 2 (by decide)
theorem rW17 {T e : Nat} {M : aM} (hS : Sh T M) (h : isW T e) : M e 17 = ((e + 4 : Nat) : Int) := hS.2.2.1 e h 3 (by decide)
theorem rW18 {T e : Nat} {M : aM} (hS : Sh T M) (h : isW T e) : M e 18 = ((e + 5 : Nat) : Int) := hS.2.2.1 e h 4 (by decide)
theorem rW19 {T e : Nat} {M : aM} (hS : Sh T M) (h : isW T e) : M e 19 = ((e + 6 : Nat) : Int) := hS.2.2.1 e h 5 (by decide)
theorem rW20 {T e : Nat} {M : aM} (hS : Sh T M) (h : isW T e) : M e 20 = ((e + 7 : Nat) : Int) := hS.2.2.1 e h 6 (by decide)
theorem rW21 {T e : Nat} {M : aM} (hS : Sh T M) (h : isW T e) : M e 21 = ((e + 8 : Nat) : Int) := hS.2.2.1 e h 7 (by decide)
theorem rW22 {T e : Nat} {M : aM} (hS : Sh T M) (h : isW T e) : M e 22 = ((e + 9 : Nat) : Int) := hS.2.2.1 e h 8 (by decide)
theorem rW23 {T e : Nat} {M : aM} (hS : Sh T M) (h : isW T e) : M e 23 = ((e + 10 : Nat) : Int) := hS.2.2.1 e h 9 (by decide)
theorem rW24 {T e : Nat} {M : aM} (hS : Sh T M) (h : isW T e) : M e 24 = ((e + 11 : Nat) : Int) := hS.2.2.1 e h 10 (by decide)
theorem rW25 {T e : Nat} {M : aM} (hS : Sh T M) (h : isW T e) : M e 25 = ((e + 12 : Nat) : Int) := hS.2.2.1 e h 11 (by decide)
theorem rW26 {T e : Nat} {M : aM} (hS : Sh T M) (h : isW T e) : M e 26 = ((e + 13 : Nat) : Int) := hS.2.2.1 e h 12 (by decide)
theorem rW27 {T e : Nat} {M : aM} (hS : Sh T M) (h : isW T e) : M e 27 = ((e + 14 : Nat) : Int) := hS.2.2.1 e h 13 (by decide)
theorem isArr60 {i : Int} (h : 0 ≤ i ∧ i < ((16 : Nat) : Int)) : isSt (62 + 4 * i.toNat) := by
  unfold isSt; omega
theorem rArr60 {T : Nat} {M : aM} (hS : Sh T M) {i : Int} (h : 0 ≤ i ∧ i < ((16 : Nat) : Int)) : M 60 i.toNat = ((62 + 4 * i.toNat : Nat) : Int) := by
  have key : ∀ k, k < 16 → shL.contains (60, k, ((62 + 4 * k : Nat) : Int)) = true := by decide +kernel
  exact hS.at 60 _ _ (key i.toNat (by omega))
theorem isArr61 {i : Int} (h : 0 ≤ i ∧ i < ((3 : Nat) : Int)) : isSt (126 + 4 * i.toNat) := by
  unfold isSt; omega
theorem rArr61 {T : Nat} {M : aM} (hS : Sh T M) {i : Int} (h : 0 ≤ i ∧ i < ((3 : Nat) : Int)) : M 61 i.toNat = ((126 + 4 * i.toNat : Nat) : Int) := by
  have key : ∀ k, k < 3 → shL.contains (61, k, ((126 + 4 * k : Nat) : Int)) = true := by decide +kernel
  exact hS.at 61 _ _ (key i.toNat (by omega))

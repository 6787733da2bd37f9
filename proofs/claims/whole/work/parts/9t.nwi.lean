/-! ===== the model makes a well: new cells ===== -/
section Nwi
variable {d j pc : Nat} {ops : List aO} {L S : List aV} {M : aM} {T : T3} {Q : Option aV → aS → Prop} {ra rb rc : Nat}
theorem y_newa {n kind : Nat} {v : Int} {x : ArrayType} {M1 : aM} {T1 : T3} (hc : ash T.1 = (kind, n)) (hk : kind = 100 ∨ kind = 102) (hl : T.1 < 1000000) (hn : n < 1000) (hv : v = (n : Int)) (hM : M1 = fun a b => if a = T.1 then 0 else M a b) (hT : T1 = (T.1 + 1, T.2.1 + 1, T.2.2 + n)) (K : Wp d j (pc + 2) ops L ((2, ((T.1 : Nat) : Int)) :: S) (M1, T1) Q) : Wp d j pc ((.newarray x, 2, kind, rb, rc) :: ops) L ((0, v) :: S) (M, T) Q := by
  subst hM hT hv
  refine wp_ast rfl ?_ K
  delta ast
  refine if_pos ⟨Int.natCast_nonneg n, by omega, ?_, by omega, hl⟩
  rw [Int.toNat_natCast]
  exact hc
theorem y_new {ci len i : Nat} {M1 : aM} {T1 : T3} (hc : ash T.1 = (ci, len)) (hk : ci < 14) (hl : T.1 < 1000000) (hM : M1 = fun a b => if a = T.1 then (if aft ci b = 2 then -1 else 0) else M a b) (hT : T1 = (T.1 + 1, T.2.1 + 1, T.2.2 + afn ci)) (K : Wp d j (pc + 3) ops L ((2, ((T.1 : Nat) : Int)) :: S) (M1, T1) Q) : Wp d j pc ((.new i, 3, ci, rb, rc) :: ops) L S (M, T) Q := by
  subst hM hT
  refine wp_ast (show (if ci = 999 then 4 else 0) = 0 by rw [if_neg (by omega)]) ?_ K
  delta ast
  refine if_pos ⟨?_, hk, hl⟩
  show (ash T.1).1 = ci
  rw [hc]
theorem y_callI {i f K0 n : Nat} {S1 : List aV} {M1 : aM} {T1 : T3} (hf : f < 1000) (hd : K0 + 1 ≤ d) (hM : ∀ d, K0 ≤ d → Ms d f [(2, ((n : Nat) : Int))] (M, T) none (M1, T1)) (hw : awd S1 ≤ 8) (hL : 1 ≤ mL f) (K : Wp d j (pc + 3) ops L S1 (M1, T1) Q) : Wp d j pc ((.invokespecial i, 3, f, 0, rc) :: ops) L ((2, ((n : Nat) : Int)) :: S1) (M, T) Q := by
  obtain ⟨d1, rfl⟩ : ∃ d1, d = d1 + 1 := ⟨d - 1, by omega⟩
  refine wp_call (o := (.invokespecial i, 3, f, 0, rc)) (r1 := none) (σ1 := (M1, T1)) (by show (if f < 1000 then 2 else 0) = 2; rw [if_pos hf]) ?_ (fun z hz => by cases hz) ⟨hw, ?_, ?_, ?_⟩ K
  · exact hM d1 (by omega)
  · show 1 ≤ S1.length + 1
    omega
  · exact decide_eq_true (Int.natCast_nonneg n)
  · exact hL
end Nwi
def nwl : List Nat := [10, 10, 10, 3, 3, 4, 4, 4, 4, 5, 5, 15, 15, 15]
def nwT (T : T3) (i : Nat) : T3 := (T.1 + 1 + i, T.2.1 + 1 + i, T.2.2 + 28 + (nwl.take i).sum)
def nwn (M : aM) (w : Nat) : aM := fun a b => if a = w then (if aft 12 b = 2 then -1 else 0) else M a b
/-- the well made, and its first i rows -/
def nwz (M : aM) (w : Nat) : Nat → aM
  | 0 => aup (nwn M w) w 0 (-1)
  | i + 1 => aup (fun a b => if a = w + 1 + i then 0 else nwz M w i a b) w (14 + i) ((w + 1 + i : Nat) : Int)
section Nwz
variable {M : aM} {w : Nat}
theorem nwz_far (i : Nat) {a : Nat} (h : a < w ∨ w + 1 + i ≤ a) : nwz M w i a = M a := by
  induction i with
  | zero =>
    show aup (nwn M w) w 0 (-1) a = M a
    rw [aup_nc (by omega)]
    exact funext fun b => if_neg (by omega)
  | succ i ih =>
    show aup (fun a b => if a = w + 1 + i then 0 else nwz M w i a b) w (14 + i) ((w + 1 + i : Nat) : Int) a = M a
    rw [aup_nc (by omega)]
    refine funext fun b => (if_neg (by omega)).trans ?_
    rw [ih (by omega)]
theorem nwz_row (i : Nat) {k : Nat} (hk : k < i) (b : Nat) : nwz M w i (w + 1 + k) b = 0 := by
  induction i with
  | zero => omega
  | succ i ih =>
    show aup (fun a b => if a = w + 1 + i then 0 else nwz M w i a b) w (14 + i) ((w + 1 + i : Nat) : Int) (w + 1 + k) b = 0
    rw [aup_nc (by omega)]
    by_cases h : k = i
    · subst h
      exact if_pos rfl
    · exact (if_neg (by omega)).trans (ih (by omega))
theorem nwz_0 (i : Nat) : nwz M w i w 0 = -1 := by
  induction i with
  | zero => exact aup_at
  | succ i ih =>
    show aup (fun a b => if a = w + 1 + i then 0 else nwz M w i a b) w (14 + i) ((w + 1 + i : Nat) : Int) w 0 = -1
    rw [aup_ne2 (by omega)]
    exact (if_neg (by omega)).trans ih
theorem nwz_n (i : Nat) {b : Nat} (h0 : 0 < b) (h : b < 14) : nwz M w i w b = 0 := by
  induction i with
  | zero =>
    show aup (nwn M w) w 0 (-1) w b = 0
    rw [aup_ne2 (by omega)]
    refine (if_pos rfl).trans (if_neg ?_)
    have : ∀ b, b < 14 → aft 12 b ≠ 2 := by decide
    exact this b h
  | succ i ih =>
    show aup (fun a b => if a = w + 1 + i then 0 else nwz M w i a b) w (14 + i) ((w + 1 + i : Nat) : Int) w b = 0
    rw [aup_ne2 (by omega)]
    exact (if_neg (by omega)).trans ih
theorem nwz_f (i : Nat) {k : Nat} (hk : k < i) : nwz M w i w (14 + k) = ((w + 1 + k : Nat) : Int) := by
  induction i with
  | zero => omega
  | succ i ih =>
    show aup (fun a b => if a = w + 1 + i then 0 else nwz M w i a b) w (14 + i) ((w + 1 + i : Nat) : Int) w (14 + k) = _
    by_cases h : k = i
    · subst h
      exact aup_at
    · rw [aup_ne2 (by omega)]
      exact (if_neg (by omega)).trans (ih (by omega))
theorem Sh.read {T : Nat} {v : Int} {k : Nat} (h : Sh T M) (hk : k = 3 ∨ k = 4) : Sh T (aup M 138 k v) := by
  obtain ⟨h1, h2, h3, h4⟩ := h
  have hq : ∀ q ∈ shL, ¬ (q.1 = 138 ∧ (q.2.1 = 3 ∨ q.2.1 = 4)) := by decide +kernel
  refine ⟨h1, fun q hm => ?_, fun e he i hi => ?_, fun i hi => ?_⟩
  · unfold aup
    rw [if_neg (fun e => hq q hm ⟨e.1, by omega⟩)]
    exact h2 q hm
  · rw [aup_nc (by have := he.1; omega)]
    exact h3 e he i hi
  · rw [aup_nc (by decide)]
    exact h4 i hi
theorem Sh.nw {T : Nat} (h : Sh T M) (hT : (T - 154) % 15 = 0) (hT2 : T + 15 ≤ 1000000) : Sh (T + 15) (nwz M T 14) := by
  obtain ⟨h1, h2, h3, h4⟩ := h
  refine ⟨⟨by omega, hT2⟩, fun q hm => ?_, fun e he i hi => ?_, fun i hi => ?_⟩
  · have h5 := List.all_eq_true.mp shL_at q hm
    simp only [Bool.and_eq_true, decide_eq_true_eq] at h5
    rw [nwz_far 14 (by omega)]
    exact h2 q hm
  · obtain ⟨e1, e2, e3⟩ := he
    by_cases hw : e = T
    · subst hw
      exact nwz_f 14 hi
    · rw [nwz_far 14 (by omega)]
      exact h3 e ⟨e1, e2, by omega⟩ i hi
  · rw [nwz_far 14 (by omega)]
    exact h4 i hi
end Nwz
theorem aB_X12_init : ∀ pc, aB 190 pc = fnd bk_X12_init pc := fun _ => rfl
theorem t_X12_init {T : T3} {M : aM} (hT : 154 ≤ T.1 ∧ (T.1 - 154) % 15 = 0) (hT2 : T.1 + 15 ≤ 1000000) : ∀ d, 1 ≤ d → Ms d 190 [(2, ((T.1 : Nat) : Int))] (nwn M T.1, nwT T 0) none (nwz M T.1 14, nwT T 14) := by
  intro d hd
  have hW : isW (T.1 + 15) T.1 := ⟨hT.1, hT.2, Nat.le_refl _⟩
  have a0 := aW0 hT2 hW
  refine Ms.of ?_
  show Wp d 190 0 [] [(2, ((T.1 : Nat) : Int))] [] (nwn M T.1, nwT T 0) (fun r2 σ2 => r2 = none ∧ σ2 = (nwz M T.1 14, nwT T 14))
  refine y_blk (t := 0) rfl (show fnd bk_X12_init 0 = some _ from rfl) aB_X12_init ?_
  refine wp_aload_n (v := ((T.1 : Nat) : Int)) rfl (Int.natCast_nonneg _) ?_
  refine wp_objInit ⟨hd, Nat.le_of_ble_eq_true rfl, rfl, Int.natCast_nonneg _⟩ ?_
  refine wp_aload_n (v := ((T.1 : Nat) : Int)) rfl (Int.natCast_nonneg _) ?_
  refine wp_iconst ⟨by decide, by decide⟩ ?_
  refine y_put a0 (show T.1 < T.1 + 1 + 0 by omega) rfl ?_
  show Wp d 190 _ _ [(2, ((T.1 : Nat) : Int))] [] (nwz M T.1 0, nwT T 0) _
  refine wp_aload_n (v := ((T.1 : Nat) : Int)) rfl (Int.natCast_nonneg _) ?_
  refine wp_bipush (by decide) ?_
  refine y_newa (n := 10) (kind := 100) (M1 := fun a b => if a = T.1 + 1 + 0 then 0 else nwz M T.1 0 a b) (T1 := nwT T 1) (show ash (T.1 + 1 + 0) = (100, 10) by rw [show T.1 + 1 + 0 = T.1 + 1 by omega]; exact aW1 hT2 hW) (by decide) (show T.1 + 1 + 0 < 1000000 by omega) (by decide) rfl rfl rfl ?_
  refine y_put a0 (show T.1 < T.1 + 1 + 1 by omega) rfl ?_
  show Wp d 190 _ _ [(2, ((T.1 : Nat) : Int))] [] (nwz M T.1 1, nwT T 1) _
  refine wp_aload_n (v := ((T.1 : Nat) : Int)) rfl (Int.natCast_nonneg _) ?_
  refine wp_bipush (by decide) ?_
  refine y_newa (n := 10) (kind := 100) (M1 := fun a b => if a = T.1 + 1 + 1 then 0 else nwz M T.1 1 a b) (T1 := nwT T 2) (show ash (T.1 + 1 + 1) = (100, 10) by rw [show T.1 + 1 + 1 = T.1 + 2 by omega]; exact aW2 hT2 hW) (by decide) (show T.1 + 1 + 1 < 1000000 by omega) (by decide) rfl rfl rfl ?_
  refine y_put a0 (show T.1 < T.1 + 1 + 2 by omega) rfl ?_
  show Wp d 190 _ _ [(2, ((T.1 : Nat) : Int))] [] (nwz M T.1 2, nwT T 2) _
  refine wp_aload_n (v := ((T.1 : Nat) : Int)) rfl (Int.natCast_nonneg _) ?_
  refine wp_bipush (by decide) ?_
  refine y_newa (n := 10) (kind := 100) (M1 := fun a b => if a = T.1 + 1 + 2 then 0 else nwz M T.1 2 a b) (T1 := nwT T 3) (show ash (T.1 + 1 + 2) = (100, 10) by rw [show T.1 + 1 + 2 = T.1 + 3 by omega]; exact aW3 hT2 hW) (by decide) (show T.1 + 1 + 2 < 1000000 by omega) (by decide) rfl rfl rfl ?_
  refine y_put a0 (show T.1 < T.1 + 1 + 3 by omega) rfl ?_
  show Wp d 190 _ _ [(2, ((T.1 : Nat) : Int))] [] (nwz M T.1 3, nwT T 3) _
  refine wp_aload_n (v := ((T.1 : Nat) : Int)) rfl (Int.natCast_nonneg _) ?_
  refine wp_iconst ⟨by decide, by decide⟩ ?_
  refine y_newa (n := 3) (kind := 100) (M1 := fun a b => if a = T.1 + 1 + 3 then 0 else nwz M T.1 3 a b) (T1 := nwT T 4) (show ash (T.1 + 1 + 3) = (100, 3) by rw [show T.1 + 1 + 3 = T.1 + 4 by omega]; exact aW4 hT2 hW) (by decide) (show T.1 + 1 + 3 < 1000000 by omega) (by decide) rfl rfl rfl ?_
  refine y_put a0 (show T.1 < T.1 + 1 + 4 by omega) rfl ?_
  show Wp d 190 _ _ [(2, ((T.1 : Nat) : Int))] [] (nwz M T.1 4, nwT T 4) _
  refine wp_aload_n (v := ((T.1 : Nat) : Int)) rfl (Int.natCast_nonneg _) ?_
  refine wp_iconst ⟨by decide, by decide⟩ ?_
  refine y_newa (n := 3) (kind := 100) (M1 := fun a b => if a = T.1 + 1 + 4 then 0 else nwz M T.1 4 a b) (T1 := nwT T 5) (show ash (T.1 + 1 + 4) = (100, 3) by rw [show T.1 + 1 + 4 = T.1 + 5 by omega]; exact aW5 hT2 hW) (by decide) (show T.1 + 1 + 4 < 1000000 by omega) (by decide) rfl rfl rfl ?_
  refine y_put a0 (show T.1 < T.1 + 1 + 5 by omega) rfl ?_
  show Wp d 190 _ _ [(2, ((T.1 : Nat) : Int))] [] (nwz M T.1 5, nwT T 5) _
  refine wp_aload_n (v := ((T.1 : Nat) : Int)) rfl (Int.natCast_nonneg _) ?_
  refine wp_iconst ⟨by decide, by decide⟩ ?_
  refine y_newa (n := 4) (kind := 100) (M1 := fun a b => if a = T.1 + 1 + 5 then 0 else nwz M T.1 5 a b) (T1 := nwT T 6) (show ash (T.1 + 1 + 5) = (100, 4) by rw [show T.1 + 1 + 5 = T.1 + 6 by omega]; exact aW6 hT2 hW) (by decide) (show T.1 + 1 + 5 < 1000000 by omega) (by decide) rfl rfl rfl ?_
  refine y_put a0 (show T.1 < T.1 + 1 + 6 by omega) rfl ?_
  show Wp d 190 _ _ [(2, ((T.1 : Nat) : Int))] [] (nwz M T.1 6, nwT T 6) _
  refine wp_aload_n (v := ((T.1 : Nat) : Int)) rfl (Int.natCast_nonneg _) ?_
  refine wp_iconst ⟨by decide, by decide⟩ ?_
  refine y_newa (n := 4) (kind := 100) (M1 := fun a b => if a = T.1 + 1 + 6 then 0 else nwz M T.1 6 a b) (T1 := nwT T 7) (show ash (T.1 + 1 + 6) = (100, 4) by rw [show T.1 + 1 + 6 = T.1 + 7 by omega]; exact aW7 hT2 hW) (by decide) (show T.1 + 1 + 6 < 1000000 by omega) (by decide) rfl rfl rfl ?_
  refine y_put a0 (show T.1 < T.1 + 1 + 7 by omega) rfl ?_
  show Wp d 190 _ _ [(2, ((T.1 : Nat) : Int))] [] (nwz M T.1 7, nwT T 7) _
  refine wp_aload_n (v := ((T.1 : Nat) : Int)) rfl (Int.natCast_nonneg _) ?_
  refine wp_iconst ⟨by decide, by decide⟩ ?_
  refine y_newa (n := 4) (kind := 100) (M1 := fun a b => if a = T.1 + 1 + 7 then 0 else nwz M T.1 7 a b) (T1 := nwT T 8) (show ash (T.1 + 1 + 7) = (100, 4) by rw [show T.1 + 1 + 7 = T.1 + 8 by omega]; exact aW8 hT2 hW) (by decide) (show T.1 + 1 + 7 < 1000000 by omega) (by decide) rfl rfl rfl ?_
  refine y_put a0 (show T.1 < T.1 + 1 + 8 by omega) rfl ?_
  show Wp d 190 _ _ [(2, ((T.1 : Nat) : Int))] [] (nwz M T.1 8, nwT T 8) _
  refine wp_aload_n (v := ((T.1 : Nat) : Int)) rfl (Int.natCast_nonneg _) ?_
  refine wp_iconst ⟨by decide, by decide⟩ ?_
  refine y_newa (n := 4) (kind := 100) (M1 := fun a b => if a = T.1 + 1 + 8 then 0 else nwz M T.1 8 a b) (T1 := nwT T 9) (show ash (T.1 + 1 + 8) = (100, 4) by rw [show T.1 + 1 + 8 = T.1 + 9 by omega]; exact aW9 hT2 hW) (by decide) (show T.1 + 1 + 8 < 1000000 by omega) (by decide) rfl rfl rfl ?_
  refine y_put a0 (show T.1 < T.1 + 1 + 9 by omega) rfl ?_
  show Wp d 190 _ _ [(2, ((T.1 : Nat) : Int))] [] (nwz M T.1 9, nwT T 9) _
  refine wp_aload_n (v := ((T.1 : Nat) : Int)) rfl (Int.natCast_nonneg _) ?_
  refine wp_iconst ⟨by decide, by decide⟩ ?_
  refine y_newa (n := 5) (kind := 100) (M1 := fun a b => if a = T.1 + 1 + 9 then 0 else nwz M T.1 9 a b) (T1 := nwT T 10) (show ash (T.1 + 1 + 9) = (100, 5) by rw [show T.1 + 1 + 9 = T.1 + 10 by omega]; exact aW10 hT2 hW) (by decide) (show T.1 + 1 + 9 < 1000000 by omega) (by decide) rfl rfl rfl ?_
  refine y_put a0 (show T.1 < T.1 + 1 + 10 by omega) rfl ?_
  show Wp d 190 _ _ [(2, ((T.1 : Nat) : Int))] [] (nwz M T.1 10, nwT T 10) _
  refine wp_aload_n (v := ((T.1 : Nat) : Int)) rfl (Int.natCast_nonneg _) ?_
  refine wp_iconst ⟨by decide, by decide⟩ ?_
  refine y_newa (n := 5) (kind := 100) (M1 := fun a b => if a = T.1 + 1 + 10 then 0 else nwz M T.1 10 a b) (T1 := nwT T 11) (show ash (T.1 + 1 + 10) = (100, 5) by rw [show T.1 + 1 + 10 = T.1 + 11 by omega]; exact aW11 hT2 hW) (by decide) (show T.1 + 1 + 10 < 1000000 by omega) (by decide) rfl rfl rfl ?_
  refine y_put a0 (show T.1 < T.1 + 1 + 11 by omega) rfl ?_
  show Wp d 190 _ _ [(2, ((T.1 : Nat) : Int))] [] (nwz M T.1 11, nwT T 11) _
  refine wp_aload_n (v := ((T.1 : Nat) : Int)) rfl (Int.natCast_nonneg _) ?_
  refine wp_bipush (by decide) ?_
  refine y_newa (n := 15) (kind := 102) (M1 := fun a b => if a = T.1 + 1 + 11 then 0 else nwz M T.1 11 a b) (T1 := nwT T 12) (show ash (T.1 + 1 + 11) = (102, 15) by rw [show T.1 + 1 + 11 = T.1 + 12 by omega]; exact aW12 hT2 hW) (by decide) (show T.1 + 1 + 11 < 1000000 by omega) (by decide) rfl rfl rfl ?_
  refine y_put a0 (show T.1 < T.1 + 1 + 12 by omega) rfl ?_
  show Wp d 190 _ _ [(2, ((T.1 : Nat) : Int))] [] (nwz M T.1 12, nwT T 12) _
  refine wp_aload_n (v := ((T.1 : Nat) : Int)) rfl (Int.natCast_nonneg _) ?_
  refine wp_bipush (by decide) ?_
  refine y_newa (n := 15) (kind := 100) (M1 := fun a b => if a = T.1 + 1 + 12 then 0 else nwz M T.1 12 a b) (T1 := nwT T 13) (show ash (T.1 + 1 + 12) = (100, 15) by rw [show T.1 + 1 + 12 = T.1 + 13 by omega]; exact aW13 hT2 hW) (by decide) (show T.1 + 1 + 12 < 1000000 by omega) (by decide) rfl rfl rfl ?_
  refine y_put a0 (show T.1 < T.1 + 1 + 13 by omega) rfl ?_
  show Wp d 190 _ _ [(2, ((T.1 : Nat) : Int))] [] (nwz M T.1 13, nwT T 13) _
  refine wp_aload_n (v := ((T.1 : Nat) : Int)) rfl (Int.natCast_nonneg _) ?_
  refine wp_bipush (by decide) ?_
  refine y_newa (n := 15) (kind := 100) (M1 := fun a b => if a = T.1 + 1 + 13 then 0 else nwz M T.1 13 a b) (T1 := nwT T 14) (show ash (T.1 + 1 + 13) = (100, 15) by rw [show T.1 + 1 + 13 = T.1 + 14 by omega]; exact aW14 hT2 hW) (by decide) (show T.1 + 1 + 13 < 1000000 by omega) (by decide) rfl rfl rfl ?_
  refine y_put a0 (show T.1 < T.1 + 1 + 14 by omega) rfl ?_
  show Wp d 190 _ _ [(2, ((T.1 : Nat) : Int))] [] (nwz M T.1 14, nwT T 14) _
  exact wp_return ⟨rfl, rfl⟩

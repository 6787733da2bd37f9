/-! ===== runs of the pure machine, put together ===== -/
theorem exec_cons (B : Nat → Nat → Option (List aO)) (mL mK : Nat → Nat) (lj n d j pc : Nat) (o : aO) (ops : List aO) (L S : List aV) (σ : aS) : exec B mL mK lj (n + 1) d j pc (o :: ops) L S σ = (match akd o with
    | 0 => match ast o d L S σ with
      | some (L1, S1, σ1) => exec B mL mK lj n d j (pc + o.2.1) ops L1 S1 σ1
      | none => none
    | 1 => match ajm o pc S with
      | some (some t, S1) => exec B mL mK lj n d j t [] L S1 σ
      | some (none, S1) => exec B mL mK lj n d j (pc + o.2.1) ops L S1 σ
      | none => none
    | 2 => match d with
      | 0 => none
      | d1 + 1 => if awd (S.drop (anA o)) ≤ 8 ∧ anA o ≤ S.length ∧ aRc mK o S σ = true ∧ ((S.take (anA o)).reverse.flatMap (fun v => if v.1 = 1 then [v, (9, 0)] else [v])).length ≤ mL o.2.2.1 then (match exec B mL mK lj n d1 o.2.2.1 0 [] (aent (mL o.2.2.1) (S.take (anA o)).reverse) [] σ with
        | some (some (7, _), _) => none
        | some (r, σ1) => exec B mL mK lj n (d1 + 1) j (pc + 3) ops L (r.toList ++ S.drop (anA o)) σ1
        | none => none) else none
    | 3 => match art o S with
      | some r => some (r, σ)
      | none => none
    | 4 => if 3 ≤ d ∧ S.length = 0 then some (some (7, 0), (σ.1, σ.2.1, σ.2.2.1 + 1, σ.2.2.2 + 6)) else none
    | 5 => match d, S with
      | d1 + 2, (2, q) :: (0, i) :: (2, x) :: S1 => if awd S1 ≤ 8 ∧ aWr σ q 102 ∧ 0 < (ash q.toNat).2 ∧ aWr σ x 11 ∧ 2 ≤ mL lj ∧ 6 ≤ d1 then (match exec B mL mK lj n d1 lj 0 [] (aent (mL lj) [(2, x), (0, i)]) [] σ with
        | some (some (7, _), σ1) => exec B mL mK lj n (d1 + 2) j (pc + 3) ops L ((0, 1) :: S1) σ1
        | some (some (0, v), σ1) => exec B mL mK lj n (d1 + 2) j (pc + 3) ops L ((0, 0) :: S1) (awr σ1 q.toNat 0 v)
        | _ => none) else none
      | _, _ => none
    | _ => none) := by
  rw [exec.eq_def]
  first | rfl | (dsimp only; rfl) | dsimp only
theorem exec_up (B : Nat → Nat → Option (List aO)) (mL mK : Nat → Nat) (lj : Nat) : ∀ (n d j pc : Nat) (ops : List aO) (L S : List aV) (σ : aS) (x : Option aV × aS), exec B mL mK lj n d j pc ops L S σ = some x → exec B mL mK lj (n + 1) d j pc ops L S σ = some x
  | 0, d, j, pc, ops, L, S, σ, x, h => by rw [exec] at h; cases h
  | n + 1, d, j, pc, [], L, S, σ, x, h => by
    rw [exec] at h ⊢
    split at h
    · exact exec_up B mL mK lj n _ _ _ _ _ _ _ _ h
    · cases h
  | n + 1, d, j, pc, o :: ops, L, S, σ, x, h => by
    have ih := exec_up B mL mK lj n
    rw [exec_cons] at h ⊢
    split at h
    · split at h
      · exact ih _ _ _ _ _ _ _ _ h
      · cases h
    · split at h
      · exact ih _ _ _ _ _ _ _ _ h
      · exact ih _ _ _ _ _ _ _ _ h
      · cases h
    · split at h
      · cases h
      · split at h
        · rename_i hc
          rw [if_pos hc]
          split at h
          · cases h
          · rename_i r2 σ2 h7 h1
            rw [ih _ _ _ _ _ _ _ _ h1]
            split
            · rename_i e; cases e; exact absurd rfl (h7 _)
            · rename_i e; cases e; exact ih _ _ _ _ _ _ _ _ h
            · rename_i e; cases e
          · cases h
        · cases h
    · exact h
    · exact h
    · split at h
      · split at h
        · rename_i hc
          rw [if_pos hc]
          split at h
          · rename_i h1
            rw [ih _ _ _ _ _ _ _ _ h1]
            exact ih _ _ _ _ _ _ _ _ h
          · rename_i h1
            rw [ih _ _ _ _ _ _ _ _ h1]
            exact ih _ _ _ _ _ _ _ _ h
          · cases h
        · cases h
      · cases h
    · cases h

/-! ===== the invariant at the start; the law of the pure machine ===== -/
section Fin
variable {xs : Nat → Int32} {L : Nat}
abbrev A00 : aA := fun _ _ => 0
abbrev t00 : aT := (fun _ => 0, 0, 0, fun _ _ => 0, fun _ _ => 0)
theorem st_at {B : aM} {a b : Nat} {v : Int} (h : zlk zl338 a b = some v) : rn zl338 B a b = v := zlk_ok h
theorem st_far {B : aM} {a : Nat} (h : 154 ≤ a) : rn zl338 B a = B a := rn_far (by decide +kernel) h
theorem st_sh : Sh 154 (rn zl338 (M0a xs L)) := by
  have h : shL.all (fun q => zlk zl338 q.1 q.2.1 == some q.2.2) = true := by decide +kernel
  refine ⟨⟨Nat.le_refl _, by decide⟩, fun q hq => ?_, fun e he => ?_, fun k hk => ?_⟩
  · have := List.all_eq_true.mp h q hq
    exact st_at (eq_of_beq this)
  · obtain ⟨h1, h2, h3⟩ := he
    omega
  · rw [st_far (by decide)]
    show (if (1000001 : Nat) = 1000000 then _ else if (1000001 : Nat) = 1000001 then rmA.getD k 0 else 0) = _
    rw [if_neg (by decide), if_pos rfl]
theorem wf_0 : WF A00 := by
  obtain ⟨a, b, c, d, e, f, g, h, i, j, -⟩ := WFd.zero
  exact ⟨a, b, c, d, e, f, g, h, i, j, fun h => absurd h (by decide)⟩
theorem ws_0 : WS A00 (fun _ => 0) := ⟨fun k hk => absurd hk (Nat.not_lt_zero k), fun k hk => absurd hk (Nat.not_lt_zero k), ⟨Int.le_refl 0, by decide, by show cntp (0 : Nat).testBit 10 ≤ 6; decide⟩, ⟨Int.le_refl 0, by decide⟩⟩
theorem ld_0 {e : Nat} {dr : Nat → Bool} (h : ∀ c, c < 8 → zlk zl338 (e + 1) c = some 0) : LD (rn zl338 (M0a xs L)) e A00 dr := by
  refine ⟨fun c hc => ?_, fun c t hc => absurd hc (Nat.not_lt_zero c)⟩
  rw [st_at (h c hc)]
  have e0 : nr A00 dr c = 0 := nrs_0 (A := A00) (dr := dr) c
  rw [e0]; rfl
theorem st_iv : IV 154 (rn zl338 (M0a xs L)) A00 t00 := by
  have z3 : ∀ i, i < 8 → zlk zl338 3 i = some 0 := by decide +kernel
  have z7 : ∀ i, i < 64 → zlk zl338 7 i = some 0 := by decide +kernel
  have z40 : ∀ c, c < 8 → zlk zl338 (39 + 1) c = some 0 := by decide +kernel
  have z43 : ∀ c, c < 8 → zlk zl338 (42 + 1) c = some 0 := by decide +kernel
  have z140 : ∀ c, c < 12 → zlk zl338 140 c = some 0 := by decide +kernel
  have z31 : ∀ i, i < 8 → zlk zl338 31 i = some (pkd (12 + i) : Int) ∧ zlk zl338 32 i = some (-1) := by decide +kernel
  refine ⟨wf_0, ⟨ws_0, Nat.zero_le _, Nat.zero_le _, fun _ => ⟨rfl, rfl, rfl⟩, fun i hi => absurd hi (Nat.not_lt_zero i), fun i hi => absurd hi (Nat.not_lt_zero i)⟩, ⟨⟨wf_0, ws_0, ⟨fun i hi => st_at (z3 i hi), ⟨st_at (by decide +kernel), st_at (by decide +kernel), st_at (by decide +kernel), st_at (by decide +kernel), st_at (by decide +kernel), st_at (by decide +kernel)⟩, fun k hk => absurd hk (Nat.not_lt_zero k), fun a b ha hb => ?_, fun k hk => absurd hk (Nat.not_lt_zero k), fun k hk => absurd hk (Nat.not_lt_zero k), fun k hk => absurd hk (Nat.not_lt_zero k), fun k hk => absurd hk (Nat.not_lt_zero k), fun k hk => absurd hk (Nat.not_lt_zero k)⟩, ⟨fun k hk => absurd hk (Nat.not_lt_zero k), fun k hk => absurd hk (Nat.not_lt_zero k), st_at (by decide +kernel), st_at (by decide +kernel)⟩, ld_0 z40, ld_0 z43⟩, ⟨st_at (by decide +kernel), 0, by decide, st_at (by decide +kernel), fun i hi => absurd hi (Nat.not_lt_zero i)⟩, ⟨st_at (by decide +kernel), fun i hi => absurd hi (Nat.not_lt_zero i)⟩, Nat.zero_le _, Nat.zero_le _⟩, ⟨⟨wf_0, ws_0, Or.inl ⟨rfl, st_at (by decide +kernel)⟩, fun k hk => st_at (z140 k hk)⟩, ⟨st_at (by decide +kernel), fun i k hi => absurd hi (Nat.not_lt_zero i)⟩, ⟨st_at (by decide +kernel), fun i k hi => absurd hi (Nat.not_lt_zero i)⟩, Nat.zero_le _, Nat.zero_le _, fun _ => ⟨rfl, rfl⟩⟩, fun i hi => ⟨st_at (z31 i hi).1, st_at (z31 i hi).2⟩, ⟨0, by decide, st_at (by decide +kernel), st_at (by decide +kernel), fun k hk => absurd hk (Nat.not_lt_zero k)⟩, ?_, ?_, ?_⟩
  · rw [st_at (z7 (8 * a + b) (by omega))]
    show (0 : Int) = if wy A00 a b < 0 then _ else 0
    rw [if_neg (Nat.not_lt_zero _)]
  · rw [st_at (v := 0) (by decide +kernel), st_at (v := 0) (by decide +kernel)]
  · rw [st_at (a := 0) (b := 14) (v := 0) (by decide +kernel), if_neg (by decide)]
    exact st_at (by decide +kernel)
  · rw [st_at (a := 16) (b := 1) (v := 0) (by decide +kernel), st_at (a := 138) (b := 12) (v := 0) (by decide +kernel)]
end Fin
theorem pure_ok : PURE := by
  intro L xs hL
  have hs : rn zl338 (M0a xs L) 1000000 5000 = (L : Int) := by
    rw [st_far (by decide)]
    show (if (1000000 : Nat) = 1000000 then (if (5000 : Nat) = 5000 then (L : Int) else _) else _) = _
    rw [if_pos rfl, if_pos rfl]
  have K := lw_loop (N := L) hL (b1 := 154) (b2 := 3891) (by decide) (by decide) L 0 (rn zl338 (M0a xs L)) (154, 154, 3891) (9, 0) (9, 0) (by omega) (by decide) st_sh ⟨A00, t00, st_iv⟩ (by decide) hs (by decide) (by decide) (by decide)
  obtain ⟨n, r, σ1, h1, rfl, h3, h4⟩ := z_law (M0a xs L) _ K
  exact ⟨n, σ1, h1, h3, h4⟩

/-! ===== every run of the pure machine is one of the machine; the one call that may throw is a premise here (LedOk) ===== -/
def LedOk (B : Nat → Nat → Option (List aO)) (lj : Nat) (l : Launch) (n : Nat) : Prop := ∀ (d j pc : Nat) (o : aO) (L S1 : List aV) (σ : aS) (q i x : Int) (rv : aV) (σ2 : aS), decode (mC j) pc = .ok (o.1, o.2.1) → okO j o → akd o = 5 → awd S1 ≤ 8 → aWr σ q 102 → 0 < (ash q.toNat).2 → aWr σ x 11 → 2 ≤ mL lj → 6 ≤ d →
  exec B mL mK lj n d lj 0 [] (aent (mL lj) [(2, x), (0, i)]) [] σ = some (some rv, σ2) → (rv.1 = 7 ∨ rv.1 = 0) →
  ∀ (p : Program) (e : Env) (R : Room) (s : State) (m : MethodId) (args : Array Value) (below : List Frame) (meth : Method) (c : Code) (Q : State → Prop) (D : va_G) (cA : Nat → ClassId) (A : Nat → Prop) (ad0 : Nat → Nat) (M0 : aM) (t0 c0 u0 : Nat),
  Cx p s m args c (mC j) (mL j) (mY j).cls D cA A ad0 M0 → d + 2 ≤ R.frames → 36 * (d + 2) ≤ R.locals → σ2.2.2.1 ≤ c0 + R.cells → σ2.2.2.2 ≤ u0 + R.slots →
  Gw p l e R s m args below meth c Q D cA A ad0 M0 t0 c0 u0 (mL j) (pc + 3) L ((0, if rv.1 = 7 then 1 else 0) :: S1) (if rv.1 = 7 then σ2 else awr σ2 q.toNat 0 rv.2) →
  Gw p l e R s m args below meth c Q D cA A ad0 M0 t0 c0 u0 (mL j) pc L ((2, q) :: (0, i) :: (2, x) :: S1) σ
theorem akd_call {j : Nat} {o : aO} (h : okO j o) (hk : akd o = 2) : o.2.1 = 3 := by
  obtain ⟨ins, ln, ra, rb, rc⟩ := o
  obtain ⟨hln, -⟩ := h
  cases ins <;> first | exact hln | (simp only [akd] at hk; first | (cases hk; done) | (split at hk <;> cases hk))
theorem snd_all {B : Nat → Nat → Option (List aO)} {lj : Nat} {l : Launch} (hB : ∀ j pc ops, B j pc = some ops → okOps j pc ops) (hLed : ∀ n, Snd B lj l n → LedOk B lj l n) : ∀ n, Snd B lj l n := by
  intro n
  induction n with
  | zero =>
    intro d j pc ops L S σ r σ1 h
    simp [exec] at h
  | succ n ih =>
    intro d j pc ops L S σ r σ1 h hops p e R s m args below meth c Q D cA A ad0 M0 t0 c0 u0 hC hnm hf hlo hcap hsl K
    cases ops with
    | nil =>
      simp only [exec] at h
      split at h
      · rename_i ops1 hb
        exact ih d j pc ops1 L S σ r σ1 h (hB j pc ops1 hb) p e R s m args below meth c Q D cA A ad0 M0 t0 c0 u0 hC hnm hf hlo hcap hsl K
      · cases h
    | cons o ops =>
      obtain ⟨hdg, hok, hj, hth, hrest⟩ := hops
      simp only [exec] at h
      split at h
      · -- goes on
        split at h
        · rename_i L2 S2 σ2 h1
          have hm := exec_mono B mL mK lj n _ _ _ _ _ _ _ _ _ h
          exact ast_sound hC hnm o hdg hok h1 hf hlo (Nat.le_trans hm.1 hcap) (Nat.le_trans hm.2 hsl) (ih d j _ ops L2 S2 σ2 r σ1 h hrest p e R s m args below meth c Q D cA A ad0 M0 t0 c0 u0 hC hnm hf hlo hcap hsl K)
        · cases h
      · -- jumps
        split at h
        · rename_i t S2 h1
          exact ajm_sound hC o hdg hok h1 hj ⟨fun t1 e1 => by cases e1; exact ih d j t [] L S2 σ r σ1 h trivial p e R s m args below meth c Q D cA A ad0 M0 t0 c0 u0 hC hnm hf hlo hcap hsl K, fun e1 => by cases e1⟩
        · rename_i S2 h1
          exact ajm_sound hC o hdg hok h1 hj ⟨fun t1 e1 => by (cases e1), fun _ => ih d j _ ops L S2 σ r σ1 h hrest p e R s m args below meth c Q D cA A ad0 M0 t0 c0 u0 hC hnm hf hlo hcap hsl K⟩
        · cases h
      · -- calls
        rename_i hk
        split at h
        · cases h
        · rename_i d1
          split at h
          · rename_i hc
            split at h
            · cases h
            · rename_i r2 σ2 h7 h1
              have hm := exec_mono B mL mK lj n _ _ _ _ _ _ _ _ _ h
              have hln := akd_call hok hk
              rw [hln] at hrest
              exact call_sound ih hC o hdg hok hk h1 h7 hc.1 hc.2.1 hc.2.2.1 hc.2.2.2 hf hlo (Nat.le_trans hm.1 hcap) (Nat.le_trans hm.2 hsl) (ih (d1 + 1) j _ ops L _ σ2 r σ1 h hrest p e R s m args below meth c Q D cA A ad0 M0 t0 c0 u0 hC hnm hf hlo hcap hsl K)
            · cases h
          · cases h
      · -- returns
        rename_i hk
        split at h
        · rename_i r2 h1
          cases h
          exact K pc o L S σ (Or.inl ⟨hk, h1, rfl⟩) (Or.inr hk) hth hdg hok
        · cases h
      · -- throws
        rename_i hk
        split at h
        · rename_i hd
          cases h
          exact K pc o L S σ (Or.inr ⟨hk, rfl, rfl⟩) (Or.inl hd) hth hdg hok
        · cases h
      · -- the call that may throw
        rename_i hk
        have hln : o.2.1 = 3 := by
          obtain ⟨ins, ln, ra, rb, rc⟩ := o
          obtain ⟨hln, -⟩ := hok
          cases ins <;> first | exact hln | (simp only [akd] at hk; first | (cases hk; done) | (split at hk <;> cases hk))
        rw [hln] at hrest
        split at h
        · rename_i d1 q i x S2
          split at h
          · rename_i hc
            split at h
            · rename_i y σ2 h1
              have hm := exec_mono B mL mK lj n _ _ _ _ _ _ _ _ _ h
              exact hLed n ih d1 j pc o L S2 σ q i x (7, y) σ2 hdg hok hk hc.1 hc.2.1 hc.2.2.1 hc.2.2.2.1 hc.2.2.2.2.1 hc.2.2.2.2.2 h1 (Or.inl rfl) p e R s m args below meth c Q D cA A ad0 M0 t0 c0 u0 hC hf hlo (Nat.le_trans hm.1 hcap) (Nat.le_trans hm.2 hsl) (ih (d1 + 2) j _ ops L _ σ2 r σ1 h hrest p e R s m args below meth c Q D cA A ad0 M0 t0 c0 u0 hC hnm hf hlo hcap hsl K)
            · rename_i v σ2 h1
              have hm := exec_mono B mL mK lj n _ _ _ _ _ _ _ _ _ h
              exact hLed n ih d1 j pc o L S2 σ q i x (0, v) σ2 hdg hok hk hc.1 hc.2.1 hc.2.2.1 hc.2.2.2.1 hc.2.2.2.2.1 hc.2.2.2.2.2 h1 (Or.inr rfl) p e R s m args below meth c Q D cA A ad0 M0 t0 c0 u0 hC hf hlo (Nat.le_trans hm.1 hcap) (Nat.le_trans hm.2 hsl) (ih (d1 + 2) j _ ops L _ _ r σ1 h hrest p e R s m args below meth c Q D cA A ad0 M0 t0 c0 u0 hC hnm hf hlo hcap hsl K)
            · cases h
          · cases h
        · cases h
      · cases h

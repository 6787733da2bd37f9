/-! ===== calls; and the whole: what the pure machine comes to, the machine comes to ===== -/
theorem ast_mono {o : aO} {d : Nat} {L S L1 S1 : List aV} {σ σ1 : aS} (h : ast o d L S σ = some (L1, S1, σ1)) : σ.2.2.1 ≤ σ1.2.2.1 ∧ σ.2.2.2 ≤ σ1.2.2.2 := by
  obtain ⟨ins, ln, ra, rb, rc⟩ := o
  delta ast at h
  cases ins <;> dsimp only at h <;> (repeat' split at h) <;> first | (cases h; done) | (cases h; exact ⟨Nat.le_refl _, Nat.le_refl _⟩) | (cases h; exact ⟨Nat.le_succ _, Nat.le_add_right _ _⟩)
theorem exec_mono (B : Nat → Nat → Option (List aO)) (mL mK : Nat → Nat) (lj : Nat) : ∀ (n d j pc : Nat) (ops : List aO) (L S : List aV) (σ : aS) (r : Option aV) (σ1 : aS), exec B mL mK lj n d j pc ops L S σ = some (r, σ1) → σ.2.2.1 ≤ σ1.2.2.1 ∧ σ.2.2.2 ≤ σ1.2.2.2
  | 0, d, j, pc, ops, L, S, σ, r, σ1, h => by simp [exec] at h
  | n + 1, d, j, pc, [], L, S, σ, r, σ1, h => by
    simp only [exec] at h
    split at h
    · exact exec_mono B mL mK lj n _ _ _ _ _ _ _ _ _ h
    · cases h
  | n + 1, d, j, pc, o :: ops, L, S, σ, r, σ1, h => by
    simp only [exec] at h
    split at h
    · split at h
      · rename_i h1
        have a := ast_mono h1
        have b := exec_mono B mL mK lj n _ _ _ _ _ _ _ _ _ h
        exact ⟨Nat.le_trans a.1 b.1, Nat.le_trans a.2 b.2⟩
      · cases h
    · split at h
      · exact exec_mono B mL mK lj n _ _ _ _ _ _ _ _ _ h
      · exact exec_mono B mL mK lj n _ _ _ _ _ _ _ _ _ h
      · cases h
    · split at h
      · cases h
      · split at h
        · split at h
          · cases h
          · rename_i h1
            have a := exec_mono B mL mK lj n _ _ _ _ _ _ _ _ _ h1
            have b := exec_mono B mL mK lj n _ _ _ _ _ _ _ _ _ h
            exact ⟨Nat.le_trans a.1 b.1, Nat.le_trans a.2 b.2⟩
          · cases h
        · cases h
    · split at h
      · cases h; exact ⟨Nat.le_refl _, Nat.le_refl _⟩
      · cases h
    · split at h
      · cases h; exact ⟨Nat.le_succ _, Nat.le_add_right _ _⟩
      · cases h
    · split at h
      · split at h
        · split at h
          · rename_i h1
            have a := exec_mono B mL mK lj n _ _ _ _ _ _ _ _ _ h1
            have b := exec_mono B mL mK lj n _ _ _ _ _ _ _ _ _ h
            exact ⟨Nat.le_trans a.1 b.1, Nat.le_trans a.2 b.2⟩
          · rename_i h1
            have a := exec_mono B mL mK lj n _ _ _ _ _ _ _ _ _ h1
            have b := exec_mono B mL mK lj n _ _ _ _ _ _ _ _ _ h
            exact ⟨Nat.le_trans a.1 b.1, Nat.le_trans a.2 b.2⟩
          · cases h
        · cases h
      · cases h
    · cases h
/-- the locals at the entry -/
def afl (as : List aV) : List aV := as.flatMap (fun v => if v.1 = 1 then [v, (9, 0)] else [v])
theorem afl_sl {ad : Nat → Nat} {top : Nat} : ∀ {as : List aV}, (∀ v ∈ as, okV top v) → lg_sl (as.map (cV ad)) = (afl as).map (fun v => if v.1 = 9 then Slot.second else .val (cV ad v))
  | [], _ => rfl
  | v :: as, h => by
    have ih := afl_sl (ad := ad) (as := as) (fun w hw => h w (List.mem_cons_of_mem _ hw))
    have hv := h v List.mem_cons_self
    have hc := cV_cat (ad := ad) hv
    have h9 : v.1 ≠ 9 := by rcases okV_tag hv with e | e | e <;> rw [e] <;> decide
    have e1 : lg_sl ((v :: as).map (cV ad)) = (if (cV ad v).category = 2 then [Slot.val (cV ad v), Slot.second] else [Slot.val (cV ad v)]) ++ lg_sl (as.map (cV ad)) := by simp [lg_sl]
    have e2 : afl (v :: as) = (if v.1 = 1 then [v, (9, 0)] else [v]) ++ afl as := by simp [afl]
    rw [e1, e2, ih, hc, List.map_append]
    by_cases h1 : v.1 = 1
    · simp [h1]
    · simp [h1, h9]
theorem afl_ok {top : Nat} {as : List aV} (h : ∀ v ∈ as, okV top v) : ∀ v ∈ afl as, v.1 = 9 ∨ okV top v := by
  intro v hv
  obtain ⟨w, hw, hv⟩ := List.mem_flatMap.mp hv
  split at hv
  · rcases List.mem_cons.mp hv with e | e
    · exact Or.inr (e ▸ h w hw)
    · rw [List.mem_singleton.mp e]; exact Or.inl rfl
  · rw [List.mem_singleton.mp hv]; exact Or.inr (h w hw)
theorem aent_eq (n : Nat) (as : List aV) : aent n as = afl as ++ List.replicate (n - (afl as).length) (9, 0) := rfl
theorem IL_entry {ad : Nat → Nat} {top n : Nat} {as : List aV} (h : ∀ v ∈ as, okV top v) (hn : (afl as).length ≤ n) : IL ad top n (aent n as) ((lg_sl (as.map (cV ad)) ++ List.replicate (n - (lg_sl (as.map (cV ad))).length) Slot.unset).toArray) := by
  have hsl := afl_sl (ad := ad) h
  have hlen : (lg_sl (as.map (cV ad))).length = (afl as).length := by rw [hsl, List.length_map]
  have hl := lv_entry (as.map (cV ad)) (n := n) (by rw [hlen]; exact hn)
  refine ⟨hl.1, ?_, hl.2.1, fun i v hi => ?_⟩
  · rw [aent_eq, List.length_append, List.length_replicate]; omega
  · rw [aent_eq] at hi
    by_cases hlt : i < (afl as).length
    · rw [List.getElem?_append_left hlt] at hi
      rcases afl_ok h v (List.mem_of_getElem? hi) with h9 | hok
      · exact Or.inl h9
      · refine Or.inr ⟨hok, ?_⟩
        have h9 : v.1 ≠ 9 := by rcases okV_tag hok with e | e | e <;> rw [e] <;> decide
        rw [List.getElem?_toArray, List.getElem?_append_left (by rw [hlen]; exact hlt), hsl, List.getElem?_map, hi]
        simp [h9]
    · rw [List.getElem?_append_right (by omega)] at hi
      rw [(List.mem_replicate.mp (List.mem_of_getElem? hi)).2]
      exact Or.inl rfl
/-- what no method changes, at a callee's start -/
theorem Gl.to {ad : Nat → Nat} {A A1 : Nat → Prop} {M M1 : aM} {s U : State} {H : Heap} {locs : List Loc} {ad1 : Nat → Nat} (h : Gl ad A M s s.heap) (hW : s.WarmedH U.vm) (hU : U.heap = H) (hS : va_S A s.heap H locs) (hA : ∀ q, q < H.size → A1 q → A q) (had : ∀ k, 1000000 ≤ k → ad1 k = ad k) (hM : ∀ n k, 1000000 ≤ n → M1 n k = M n k) : Gl ad1 A1 M1 U U.heap := by
  obtain ⟨g1, g2, g3, g4, g5, g6, g7, g8, ⟨v, g9, g10⟩, g11, g12⟩ := h
  have hq : ∀ a : Nat, a < s.heap.size → ¬ A a → U.heap[a]? = s.heap[a]? := fun a h1 h2 => by rw [hU]; exact hS.2.1 a h1 h2
  have hlt : ∀ {b Lx : Nat} {xs : Nat → Int32}, va_X b Lx xs s s.heap → b < s.heap.size := fun hX => (Array.getElem?_eq_some_iff.mp hX.choose_spec.1).1
  have hsz : s.heap.size ≤ H.size := hS.1
  have nar : ∀ a, a < s.heap.size → ¬ A a → ¬ A1 a := fun a h1 h2 h3 => h2 (hA a (by omega) h3)
  have zn : ∀ {C n d : String} {v : Value}, va_Z C n d v A s s.heap → va_Z C n d v A1 U U.heap := by
    intro C n d v hz
    have hz2 := (va_Z.moved hW.alike hz).kept hq
    obtain ⟨cf, kf, fi, f, a, cell, z1, z2, z3, z4, z5, z6, z7, z8⟩ := hz2
    obtain ⟨cf', kf', fi', f', a', cell', y1, y2, y3, y4, y5, y6, y7, y8⟩ := va_Z.moved hW.alike hz
    cases z1.symm.trans y1
    cases z4.symm.trans y4
    exact ⟨cf, kf, fi, f, a, cell, z1, z2, z3, z4, z5, z6, z7, nar a (Array.getElem?_eq_some_iff.mp y5).1 z8⟩
  have zq : ∀ {C n d : String}, vx_Zq C n d A s s.heap → vx_Zq C n d A1 U U.heap := by
    intro C n d hz
    obtain ⟨h1, h2⟩ := hz
    refine ⟨?_, ?_⟩
    · rcases h1 with h1 | ⟨t, h1⟩
      · exact Or.inl (zn h1)
      · exact Or.inr ⟨t, zn h1⟩
    · obtain ⟨c, k, i, f, a, cell, y1, y2, y3, y4, y5, y6, y7, y8, y9, y10⟩ := vx_L.moved hW.alike h2
      have hl := (Array.getElem?_eq_some_iff.mp y5).1
      exact ⟨c, k, i, f, a, cell, y1, y2, y3, y4, (hq a hl y10).trans y5, y6, y7, y8, y9, nar a hl y10⟩
  have e0 := had 1000000 (by decide)
  have e1 := had 1000001 (by decide)
  refine ⟨fun w hw => ?_, ⟨va_AO.moved hW.alike g2.1, zq g2.2.1, zq g2.2.2⟩, ?_, ?_, ?_, ?_, ?_, zn g8, ⟨v, zn g9, g10⟩, fun i q hi => ?_, fun i hi => ?_⟩
  · have hn := (List.mem_filter.mp hw).2
    have hz := g1 w hw
    cases w with
    | fieldLinkNest a i b n d h => exact va_Nw.warmF hW hz
    | methodLinkNest a i x h => exact va_Nw.warmM hW hz
    | castable a b => exact va_Nw.warmC hW hz
    | declares x => exact va_Nw.warmD hW hz
    | _ => simp [isNest] at hn
  · rw [e1]; exact zn g3
  · rw [e1]
    have : (fun j => Value.int (Int32.ofInt (M1 1000001 j))) = fun j => Value.int (Int32.ofInt (M 1000001 j)) := funext (fun j => by rw [hM 1000001 j (by decide)])
    rw [this]
    obtain ⟨cell, a1, a2, a3, a4, a5, a6, a7⟩ := (va_T.moved hW.alike g4).kept hq
    exact ⟨cell, a1, a2, a3, a4, a5, a6, nar _ (Array.getElem?_eq_some_iff.mp g4.choose_spec.1).1 a7⟩
  · trivial
  · rw [e0, hM 1000000 5000 (by decide)]
    have : (fun j => Int32.ofInt (M1 1000000 j)) = fun j => Int32.ofInt (M 1000000 j) := funext (fun j => by rw [hM 1000000 j (by decide)])
    rw [this]
    exact va_X.moved hW.alike (g6.kept (hq _ (hlt g6) g7))
  · rw [e0]; exact nar _ (hlt g6) g7
  · rw [had (2000000 + i) (by omega)]
    exact vk_R.warm hW (g11 i q hi)
  · obtain ⟨q, o1, o2, o3, o4⟩ := g12 i hi
    rw [had (2000000 + i) (by omega)]
    refine ⟨q, ?_, ?_, ?_, ?_⟩
    · obtain ⟨cell, a1, a2, a3, a4⟩ := (va_O.moved hW.alike o1).kept hq
      exact ⟨cell, a1, a2, a3, nar _ (Array.getElem?_eq_some_iff.mp o1.choose_spec.1).1 a4⟩
    · obtain ⟨cf, k, ii, f, cell, a1, a2, a3, a4, a5, a6⟩ := (va_OF.moved hW.alike o2).kept hq
      exact ⟨cf, k, ii, f, cell, a1, a2, a3, a4, a5, nar _ (Array.getElem?_eq_some_iff.mp o1.choose_spec.1).1 a6⟩
    · obtain ⟨cf, k, ii, f, cell, a1, a2, a3, a4, a5, a6⟩ := (va_OF.moved hW.alike o3).kept hq
      exact ⟨cf, k, ii, f, cell, a1, a2, a3, a4, a5, nar _ (Array.getElem?_eq_some_iff.mp o1.choose_spec.1).1 a6⟩
    · obtain ⟨cell, a1, a2, a3, a4, a5, a6, a7⟩ := (va_T.moved hW.alike o4).kept hq
      exact ⟨cell, a1, a2, a3, a4, a5, a6, nar _ (Array.getElem?_eq_some_iff.mp o4.choose_spec.1).1 a7⟩
